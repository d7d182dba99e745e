theorem dX12_comes_21 : decode cX12_comes 21 = .ok (.iconst 1, 1) := by decide +kernel
theorem dX12_comes_22 : decode cX12_comes 22 = .ok (.iadd, 1) := by decide +kernel
theorem dX12_comes_23 : decode cX12_comes 23 = .ok (.iaload, 1) := by decide +kernel
theorem dX12_comes_24 : decode cX12_comes 24 = .ok (.iload_n 3, 1) := by decide +kernel
theorem dX12_comes_25 : decode cX12_comes 25 = .ok (.imul, 1) := by decide +kernel
theorem dX12_comes_26 : decode cX12_comes 26 = .ok (.iadd, 1) := by decide +kernel
theorem dX12_comes_27 : decode cX12_comes 27 = .ok (.aload_n 0, 1) := by decide +kernel
theorem dX12_comes_28 : decode cX12_comes 28 = .ok (.getfield 16, 3) := by decide +kernel
theorem dX12_comes_31 : decode cX12_comes 31 = .ok (.bipush 7, 2) := by decide +kernel
theorem dX12_comes_33 : decode cX12_comes 33 = .ok (.iload_n 1, 1) := by decide +kernel
theorem dX12_comes_34 : decode cX12_comes 34 = .ok (.imul, 1) := by decide +kernel
theorem dX12_comes_35 : decode cX12_comes 35 = .ok (.iload_n 2, 1) := by decide +kernel
theorem dX12_comes_36 : decode cX12_comes 36 = .ok (.iadd, 1) := by decide +kernel
theorem dX12_comes_37 : decode cX12_comes 37 = .ok (.iconst 2, 1) := by decide +kernel
theorem dX12_comes_38 : decode cX12_comes 38 = .ok (.iadd, 1) := by decide +kernel
theorem dX12_comes_39 : decode cX12_comes 39 = .ok (.iaload, 1) := by decide +kernel
theorem dX12_comes_40 : decode cX12_comes 40 = .ok (.iload 4, 2) := by decide +kernel
theorem dX12_comes_42 : decode cX12_comes 42 = .ok (.imul, 1) := by decide +kernel
theorem dX12_comes_43 : decode cX12_comes 43 = .ok (.iadd, 1) := by decide +kernel
theorem dX12_comes_44 : decode cX12_comes 44 = .ok (.ireturn, 1) := by decide +kernel
theorem dX12_isBeyond_0 : decode cX12_isBeyond 0 = .ok (.lload_n 0, 1) := by decide +kernel
theorem dX12_isBeyond_1 : decode cX12_isBeyond 1 = .ok (.ldc2_w 104, 3) := by decide +kernel
theorem dX12_isBeyond_4 : decode cX12_isBeyond 4 = .ok (.lcmp, 1) := by decide +kernel
theorem dX12_isBeyond_5 : decode cX12_isBeyond 5 = .ok (.ifCond .gt 11, 3) := by decide +kernel
theorem dX12_isBeyond_8 : decode cX12_isBeyond 8 = .ok (.lload_n 0, 1) := by decide +kernel
theorem dX12_isBeyond_9 : decode cX12_isBeyond 9 = .ok (.ldc2_w 106, 3) := by decide +kernel
theorem dX12_isBeyond_12 : decode cX12_isBeyond 12 = .ok (.lcmp, 1) := by decide +kernel
theorem dX12_isBeyond_13 : decode cX12_isBeyond 13 = .ok (.ifCond .ge 7, 3) := by decide +kernel
theorem dX12_isBeyond_16 : decode cX12_isBeyond 16 = .ok (.iconst 1, 1) := by decide +kernel
theorem dX12_isBeyond_17 : decode cX12_isBeyond 17 = .ok (.goto 4, 3) := by decide +kernel
theorem dX12_isBeyond_20 : decode cX12_isBeyond 20 = .ok (.iconst 0, 1) := by decide +kernel
theorem dX12_isBeyond_21 : decode cX12_isBeyond 21 = .ok (.ireturn, 1) := by decide +kernel
theorem dX12_size_0 : decode cX12_size 0 = .ok (.lload_n 0, 1) := by decide +kernel
theorem dX12_size_1 : decode cX12_size 1 = .ok (.lconst 0, 1) := by decide +kernel
theorem dX12_size_2 : decode cX12_size 2 = .ok (.lcmp, 1) := by decide +kernel
theorem dX12_size_3 : decode cX12_size 3 = .ok (.ifCond .ge 8, 3) := by decide +kernel
theorem dX12_size_6 : decode cX12_size 6 = .ok (.lload_n 0, 1) := by decide +kernel
theorem dX12_size_7 : decode cX12_size 7 = .ok (.lneg, 1) := by decide +kernel
theorem dX12_size_8 : decode cX12_size 8 = .ok (.goto 4, 3) := by decide +kernel
theorem dX12_size_11 : decode cX12_size 11 = .ok (.lload_n 0, 1) := by decide +kernel
theorem dX12_size_12 : decode cX12_size 12 = .ok (.lreturn, 1) := by decide +kernel
theorem dX12_isTooMuch_0 : decode cX12_isTooMuch 0 = .ok (.lload_n 0, 1) := by decide +kernel
theorem dX12_isTooMuch_1 : decode cX12_isTooMuch 1 = .ok (.lconst 0, 1) := by decide +kernel
theorem dX12_isTooMuch_2 : decode cX12_isTooMuch 2 = .ok (.lcmp, 1) := by decide +kernel
theorem dX12_isTooMuch_3 : decode cX12_isTooMuch 3 = .ok (.ifCond .eq 29, 3) := by decide +kernel
theorem dX12_isTooMuch_6 : decode cX12_isTooMuch 6 = .ok (.lload_n 2, 1) := by decide +kernel
theorem dX12_isTooMuch_7 : decode cX12_isTooMuch 7 = .ok (.lconst 0, 1) := by decide +kernel
theorem dX12_isTooMuch_8 : decode cX12_isTooMuch 8 = .ok (.lcmp, 1) := by decide +kernel
theorem dX12_isTooMuch_9 : decode cX12_isTooMuch 9 = .ok (.ifCond .eq 23, 3) := by decide +kernel
theorem dX12_isTooMuch_12 : decode cX12_isTooMuch 12 = .ok (.lload_n 2, 1) := by decide +kernel
theorem dX12_isTooMuch_13 : decode cX12_isTooMuch 13 = .ok (.invokestatic 108, 3) := by decide +kernel
theorem dX12_isTooMuch_16 : decode cX12_isTooMuch 16 = .ok (.ldc2_w 104, 3) := by decide +kernel
theorem dX12_isTooMuch_19 : decode cX12_isTooMuch 19 = .ok (.lload_n 0, 1) := by decide +kernel
theorem dX12_isTooMuch_20 : decode cX12_isTooMuch 20 = .ok (.invokestatic 108, 3) := by decide +kernel
theorem dX12_isTooMuch_23 : decode cX12_isTooMuch 23 = .ok (.ldiv, 1) := by decide +kernel
theorem dX12_isTooMuch_24 : decode cX12_isTooMuch 24 = .ok (.lcmp, 1) := by decide +kernel
theorem dX12_isTooMuch_25 : decode cX12_isTooMuch 25 = .ok (.ifCond .le 7, 3) := by decide +kernel
theorem dX12_isTooMuch_28 : decode cX12_isTooMuch 28 = .ok (.iconst 1, 1) := by decide +kernel
theorem dX12_isTooMuch_29 : decode cX12_isTooMuch 29 = .ok (.goto 4, 3) := by decide +kernel
theorem dX12_isTooMuch_32 : decode cX12_isTooMuch 32 = .ok (.iconst 0, 1) := by decide +kernel
theorem dX12_isTooMuch_33 : decode cX12_isTooMuch 33 = .ok (.ireturn, 1) := by decide +kernel
theorem dX12_findRows_0 : decode cX12_findRows 0 = .ok (.aload_n 0, 1) := by decide +kernel
theorem dX12_findRows_1 : decode cX12_findRows 1 = .ok (.getfield 22, 3) := by decide +kernel
theorem dX12_findRows_4 : decode cX12_findRows 4 = .ok (.iload_n 1, 1) := by decide +kernel
theorem dX12_findRows_5 : decode cX12_findRows 5 = .ok (.iconst 0, 1) := by decide +kernel
theorem dX12_findRows_6 : decode cX12_findRows 6 = .ok (.iconst 0, 1) := by decide +kernel
theorem dX12_findRows_7 : decode cX12_findRows 7 = .ok (.invokestatic 112, 3) := by decide +kernel
theorem dX12_findRows_10 : decode cX12_findRows 10 = .ok (.aload_n 0, 1) := by decide +kernel
theorem dX12_findRows_11 : decode cX12_findRows 11 = .ok (.getfield 16, 3) := by decide +kernel
theorem dX12_findRows_14 : decode cX12_findRows 14 = .ok (.bipush 7, 2) := by decide +kernel
theorem dX12_findRows_16 : decode cX12_findRows 16 = .ok (.iload_n 2, 1) := by decide +kernel
theorem dX12_findRows_17 : decode cX12_findRows 17 = .ok (.imul, 1) := by decide +kernel
theorem dX12_findRows_18 : decode cX12_findRows 18 = .ok (.bipush 6, 2) := by decide +kernel
theorem dX12_findRows_20 : decode cX12_findRows 20 = .ok (.iadd, 1) := by decide +kernel
theorem dX12_findRows_21 : decode cX12_findRows 21 = .ok (.iaload, 1) := by decide +kernel
theorem dX12_findRows_22 : decode cX12_findRows 22 = .ok (.i2l, 1) := by decide +kernel
theorem dX12_findRows_23 : decode cX12_findRows 23 = .ok (.lastore, 1) := by decide +kernel
theorem dX12_findRows_24 : decode cX12_findRows 24 = .ok (.aload_n 0, 1) := by decide +kernel
theorem dX12_findRows_25 : decode cX12_findRows 25 = .ok (.getfield 26, 3) := by decide +kernel
theorem dX12_findRows_28 : decode cX12_findRows 28 = .ok (.iload_n 1, 1) := by decide +kernel
theorem dX12_findRows_29 : decode cX12_findRows 29 = .ok (.iconst 0, 1) := by decide +kernel
theorem dX12_findRows_30 : decode cX12_findRows 30 = .ok (.iconst 0, 1) := by decide +kernel
theorem dX12_findRows_31 : decode cX12_findRows 31 = .ok (.invokestatic 112, 3) := by decide +kernel
theorem dX12_findRows_34 : decode cX12_findRows 34 = .ok (.iconst 0, 1) := by decide +kernel
theorem dX12_findRows_35 : decode cX12_findRows 35 = .ok (.bastore, 1) := by decide +kernel
theorem dX12_findRows_36 : decode cX12_findRows 36 = .ok (.iconst 1, 1) := by decide +kernel
theorem dX12_findRows_37 : decode cX12_findRows 37 = .ok (.istore 4, 2) := by decide +kernel
theorem dX12_findRows_39 : decode cX12_findRows 39 = .ok (.iload 4, 2) := by decide +kernel
theorem dX12_findRows_41 : decode cX12_findRows 41 = .ok (.iload_n 3, 1) := by decide +kernel
theorem dX12_findRows_42 : decode cX12_findRows 42 = .ok (.if_icmp .gt 295, 3) := by decide +kernel
theorem dX12_findRows_45 : decode cX12_findRows 45 = .ok (.iconst 0, 1) := by decide +kernel
theorem dX12_findRows_46 : decode cX12_findRows 46 = .ok (.istore 5, 2) := by decide +kernel
theorem dX12_findRows_48 : decode cX12_findRows 48 = .ok (.iload 5, 2) := by decide +kernel
theorem dX12_findRows_50 : decode cX12_findRows 50 = .ok (.iload 4, 2) := by decide +kernel
theorem dX12_findRows_52 : decode cX12_findRows 52 = .ok (.if_icmp .gt 279, 3) := by decide +kernel
theorem dX12_findRows_55 : decode cX12_findRows 55 = .ok (.iload 5, 2) := by decide +kernel
theorem dX12_findRows_57 : decode cX12_findRows 57 = .ok (.ifCond .le 16, 3) := by decide +kernel
theorem dX12_findRows_60 : decode cX12_findRows 60 = .ok (.aload_n 0, 1) := by decide +kernel
theorem dX12_findRows_61 : decode cX12_findRows 61 = .ok (.iload_n 2, 1) := by decide +kernel
theorem dX12_findRows_62 : decode cX12_findRows 62 = .ok (.iconst 0, 1) := by decide +kernel
theorem dX12_findRows_63 : decode cX12_findRows 63 = .ok (.iload 4, 2) := by decide +kernel
theorem dX12_findRows_65 : decode cX12_findRows 65 = .ok (.iload 5, 2) := by decide +kernel
theorem dX12_findRows_67 : decode cX12_findRows 67 = .ok (.invokevirtual 116, 3) := by decide +kernel
theorem dX12_findRows_70 : decode cX12_findRows 70 = .ok (.goto 4, 3) := by decide +kernel
theorem dX12_findRows_73 : decode cX12_findRows 73 = .ok (.iconst 0, 1) := by decide +kernel
theorem dX12_findRows_74 : decode cX12_findRows 74 = .ok (.istore 6, 2) := by decide +kernel
theorem dX12_findRows_76 : decode cX12_findRows 76 = .ok (.iload 5, 2) := by decide +kernel
theorem dX12_findRows_78 : decode cX12_findRows 78 = .ok (.iload 4, 2) := by decide +kernel
theorem dX12_findRows_80 : decode cX12_findRows 80 = .ok (.if_icmp .ge 16, 3) := by decide +kernel
theorem dX12_findRows_83 : decode cX12_findRows 83 = .ok (.aload_n 0, 1) := by decide +kernel
theorem dX12_findRows_84 : decode cX12_findRows 84 = .ok (.iload_n 2, 1) := by decide +kernel
theorem dX12_findRows_85 : decode cX12_findRows 85 = .ok (.iconst 3, 1) := by decide +kernel
theorem dX12_findRows_86 : decode cX12_findRows 86 = .ok (.iload 4, 2) := by decide +kernel
theorem dX12_findRows_88 : decode cX12_findRows 88 = .ok (.iload 5, 2) := by decide +kernel
theorem dX12_findRows_90 : decode cX12_findRows 90 = .ok (.invokevirtual 116, 3) := by decide +kernel
theorem dX12_findRows_93 : decode cX12_findRows 93 = .ok (.goto 4, 3) := by decide +kernel
theorem dX12_findRows_96 : decode cX12_findRows 96 = .ok (.iconst 0, 1) := by decide +kernel
theorem dX12_findRows_97 : decode cX12_findRows 97 = .ok (.istore 7, 2) := by decide +kernel
theorem dX12_findRows_99 : decode cX12_findRows 99 = .ok (.iload_n 1, 1) := by decide +kernel
theorem dX12_findRows_100 : decode cX12_findRows 100 = .ok (.iload 4, 2) := by decide +kernel
theorem dX12_findRows_102 : decode cX12_findRows 102 = .ok (.iconst 1, 1) := by decide +kernel
theorem dX12_findRows_103 : decode cX12_findRows 103 = .ok (.isub, 1) := by decide +kernel
theorem dX12_findRows_104 : decode cX12_findRows 104 = .ok (.iload 5, 2) := by decide +kernel
theorem dX12_findRows_106 : decode cX12_findRows 106 = .ok (.ifCond .le 10, 3) := by decide +kernel
theorem dX12_findRows_109 : decode cX12_findRows 109 = .ok (.iload 5, 2) := by decide +kernel
theorem dX12_findRows_111 : decode cX12_findRows 111 = .ok (.iconst 1, 1) := by decide +kernel
theorem dX12_findRows_112 : decode cX12_findRows 112 = .ok (.isub, 1) := by decide +kernel
theorem dX12_findRows_113 : decode cX12_findRows 113 = .ok (.goto 4, 3) := by decide +kernel
theorem dX12_findRows_116 : decode cX12_findRows 116 = .ok (.iconst 0, 1) := by decide +kernel
theorem dX12_findRows_117 : decode cX12_findRows 117 = .ok (.invokestatic 112, 3) := by decide +kernel
theorem dX12_findRows_120 : decode cX12_findRows 120 = .ok (.istore 8, 2) := by decide +kernel
theorem dX12_findRows_122 : decode cX12_findRows 122 = .ok (.iload_n 1, 1) := by decide +kernel
theorem dX12_findRows_123 : decode cX12_findRows 123 = .ok (.iload 4, 2) := by decide +kernel
theorem dX12_findRows_125 : decode cX12_findRows 125 = .ok (.iconst 1, 1) := by decide +kernel
theorem dX12_findRows_126 : decode cX12_findRows 126 = .ok (.isub, 1) := by decide +kernel
theorem dX12_findRows_127 : decode cX12_findRows 127 = .ok (.iload 5, 2) := by decide +kernel
theorem dX12_findRows_129 : decode cX12_findRows 129 = .ok (.iload 4, 2) := by decide +kernel
theorem dX12_findRows_131 : decode cX12_findRows 131 = .ok (.if_icmp .ge 8, 3) := by decide +kernel
theorem dX12_findRows_134 : decode cX12_findRows 134 = .ok (.iload 5, 2) := by decide +kernel
theorem dX12_findRows_136 : decode cX12_findRows 136 = .ok (.goto 4, 3) := by decide +kernel
theorem dX12_findRows_139 : decode cX12_findRows 139 = .ok (.iconst 0, 1) := by decide +kernel
theorem dX12_findRows_140 : decode cX12_findRows 140 = .ok (.invokestatic 112, 3) := by decide +kernel
theorem dX12_findRows_143 : decode cX12_findRows 143 = .ok (.istore 9, 2) := by decide +kernel
theorem dX12_findRows_145 : decode cX12_findRows 145 = .ok (.iload 6, 2) := by decide +kernel
theorem dX12_findRows_147 : decode cX12_findRows 147 = .ok (.ifCond .eq 29, 3) := by decide +kernel
theorem dX12_findRows_150 : decode cX12_findRows 150 = .ok (.aload_n 0, 1) := by decide +kernel
theorem dX12_findRows_151 : decode cX12_findRows 151 = .ok (.getfield 26, 3) := by decide +kernel
theorem dX12_findRows_154 : decode cX12_findRows 154 = .ok (.iload 8, 2) := by decide +kernel
theorem dX12_findRows_156 : decode cX12_findRows 156 = .ok (.baload, 1) := by decide +kernel
theorem dX12_findRows_157 : decode cX12_findRows 157 = .ok (.ifCond .ne 50, 3) := by decide +kernel
theorem dX12_findRows_160 : decode cX12_findRows 160 = .ok (.iload 6, 2) := by decide +kernel
theorem dX12_findRows_162 : decode cX12_findRows 162 = .ok (.i2l, 1) := by decide +kernel
theorem dX12_findRows_163 : decode cX12_findRows 163 = .ok (.aload_n 0, 1) := by decide +kernel
theorem dX12_findRows_164 : decode cX12_findRows 164 = .ok (.getfield 22, 3) := by decide +kernel
theorem dX12_findRows_167 : decode cX12_findRows 167 = .ok (.iload 8, 2) := by decide +kernel
theorem dX12_findRows_169 : decode cX12_findRows 169 = .ok (.laload, 1) := by decide +kernel
theorem dX12_findRows_170 : decode cX12_findRows 170 = .ok (.invokestatic 120, 3) := by decide +kernel
theorem dX12_findRows_173 : decode cX12_findRows 173 = .ok (.ifCond .ne 34, 3) := by decide +kernel
theorem dX12_findRows_176 : decode cX12_findRows 176 = .ok (.iload 7, 2) := by decide +kernel
theorem dX12_findRows_178 : decode cX12_findRows 178 = .ok (.ifCond .eq 33, 3) := by decide +kernel
theorem dX12_findRows_181 : decode cX12_findRows 181 = .ok (.aload_n 0, 1) := by decide +kernel
theorem dX12_findRows_182 : decode cX12_findRows 182 = .ok (.getfield 26, 3) := by decide +kernel
theorem dX12_findRows_185 : decode cX12_findRows 185 = .ok (.iload 9, 2) := by decide +kernel
theorem dX12_findRows_187 : decode cX12_findRows 187 = .ok (.baload, 1) := by decide +kernel
theorem dX12_findRows_188 : decode cX12_findRows 188 = .ok (.ifCond .ne 19, 3) := by decide +kernel
theorem dX12_findRows_191 : decode cX12_findRows 191 = .ok (.iload 7, 2) := by decide +kernel
theorem dX12_findRows_193 : decode cX12_findRows 193 = .ok (.i2l, 1) := by decide +kernel
theorem dX12_findRows_194 : decode cX12_findRows 194 = .ok (.aload_n 0, 1) := by decide +kernel
theorem dX12_findRows_195 : decode cX12_findRows 195 = .ok (.getfield 22, 3) := by decide +kernel
theorem dX12_findRows_198 : decode cX12_findRows 198 = .ok (.iload 9, 2) := by decide +kernel
theorem dX12_findRows_200 : decode cX12_findRows 200 = .ok (.laload, 1) := by decide +kernel
theorem dX12_findRows_201 : decode cX12_findRows 201 = .ok (.invokestatic 120, 3) := by decide +kernel
theorem dX12_findRows_204 : decode cX12_findRows 204 = .ok (.ifCond .eq 7, 3) := by decide +kernel
theorem dX12_findRows_207 : decode cX12_findRows 207 = .ok (.iconst 1, 1) := by decide +kernel
theorem dX12_findRows_208 : decode cX12_findRows 208 = .ok (.goto 4, 3) := by decide +kernel
theorem dX12_findRows_211 : decode cX12_findRows 211 = .ok (.iconst 0, 1) := by decide +kernel
theorem dX12_findRows_212 : decode cX12_findRows 212 = .ok (.istore 10, 2) := by decide +kernel
theorem dX12_findRows_214 : decode cX12_findRows 214 = .ok (.iload 10, 2) := by decide +kernel
theorem dX12_findRows_216 : decode cX12_findRows 216 = .ok (.ifCond .eq 7, 3) := by decide +kernel
theorem dX12_findRows_219 : decode cX12_findRows 219 = .ok (.lconst 0, 1) := by decide +kernel
theorem dX12_findRows_220 : decode cX12_findRows 220 = .ok (.goto 44, 3) := by decide +kernel
theorem dX12_findRows_223 : decode cX12_findRows 223 = .ok (.iload 6, 2) := by decide +kernel
theorem dX12_findRows_225 : decode cX12_findRows 225 = .ok (.ifCond .ne 7, 3) := by decide +kernel
theorem dX12_findRows_228 : decode cX12_findRows 228 = .ok (.lconst 0, 1) := by decide +kernel
theorem dX12_findRows_229 : decode cX12_findRows 229 = .ok (.goto 14, 3) := by decide +kernel
theorem dX12_findRows_232 : decode cX12_findRows 232 = .ok (.iload 6, 2) := by decide +kernel
theorem dX12_findRows_234 : decode cX12_findRows 234 = .ok (.i2l, 1) := by decide +kernel
theorem dX12_findRows_235 : decode cX12_findRows 235 = .ok (.aload_n 0, 1) := by decide +kernel
theorem dX12_findRows_236 : decode cX12_findRows 236 = .ok (.getfield 22, 3) := by decide +kernel
theorem dX12_findRows_239 : decode cX12_findRows 239 = .ok (.iload 8, 2) := by decide +kernel
theorem dX12_findRows_241 : decode cX12_findRows 241 = .ok (.laload, 1) := by decide +kernel
theorem dX12_findRows_242 : decode cX12_findRows 242 = .ok (.lmul, 1) := by decide +kernel
theorem dX12_findRows_243 : decode cX12_findRows 243 = .ok (.iload 7, 2) := by decide +kernel
theorem dX12_findRows_245 : decode cX12_findRows 245 = .ok (.ifCond .ne 7, 3) := by decide +kernel
theorem dX12_findRows_248 : decode cX12_findRows 248 = .ok (.lconst 0, 1) := by decide +kernel
theorem dX12_findRows_249 : decode cX12_findRows 249 = .ok (.goto 14, 3) := by decide +kernel
theorem dX12_findRows_252 : decode cX12_findRows 252 = .ok (.iload 7, 2) := by decide +kernel
theorem dX12_findRows_254 : decode cX12_findRows 254 = .ok (.i2l, 1) := by decide +kernel
theorem dX12_findRows_255 : decode cX12_findRows 255 = .ok (.aload_n 0, 1) := by decide +kernel
theorem dX12_findRows_256 : decode cX12_findRows 256 = .ok (.getfield 22, 3) := by decide +kernel
theorem dX12_findRows_259 : decode cX12_findRows 259 = .ok (.iload 9, 2) := by decide +kernel
theorem dX12_findRows_261 : decode cX12_findRows 261 = .ok (.laload, 1) := by decide +kernel
theorem dX12_findRows_262 : decode cX12_findRows 262 = .ok (.lmul, 1) := by decide +kernel
theorem dX12_findRows_263 : decode cX12_findRows 263 = .ok (.ladd, 1) := by decide +kernel
theorem dX12_findRows_264 : decode cX12_findRows 264 = .ok (.lstore 11, 2) := by decide +kernel
theorem dX12_findRows_266 : decode cX12_findRows 266 = .ok (.iload 10, 2) := by decide +kernel
theorem dX12_findRows_268 : decode cX12_findRows 268 = .ok (.ifCond .ne 11, 3) := by decide +kernel
theorem dX12_findRows_271 : decode cX12_findRows 271 = .ok (.lload 11, 2) := by decide +kernel
theorem dX12_findRows_273 : decode cX12_findRows 273 = .ok (.invokestatic 124, 3) := by decide +kernel
theorem dX12_findRows_276 : decode cX12_findRows 276 = .ok (.ifCond .eq 7, 3) := by decide +kernel
theorem dX12_findRows_279 : decode cX12_findRows 279 = .ok (.iconst 1, 1) := by decide +kernel
theorem dX12_findRows_280 : decode cX12_findRows 280 = .ok (.goto 4, 3) := by decide +kernel
theorem dX12_findRows_283 : decode cX12_findRows 283 = .ok (.iconst 0, 1) := by decide +kernel
theorem dX12_findRows_284 : decode cX12_findRows 284 = .ok (.istore 10, 2) := by decide +kernel
theorem dX12_findRows_286 : decode cX12_findRows 286 = .ok (.aload_n 0, 1) := by decide +kernel
theorem dX12_findRows_287 : decode cX12_findRows 287 = .ok (.getfield 26, 3) := by decide +kernel
theorem dX12_findRows_290 : decode cX12_findRows 290 = .ok (.iload_n 1, 1) := by decide +kernel
theorem dX12_findRows_291 : decode cX12_findRows 291 = .ok (.iload 4, 2) := by decide +kernel
theorem dX12_findRows_293 : decode cX12_findRows 293 = .ok (.iload 5, 2) := by decide +kernel
theorem dX12_findRows_295 : decode cX12_findRows 295 = .ok (.invokestatic 112, 3) := by decide +kernel
theorem dX12_findRows_298 : decode cX12_findRows 298 = .ok (.iload 10, 2) := by decide +kernel
theorem dX12_findRows_300 : decode cX12_findRows 300 = .ok (.bastore, 1) := by decide +kernel
theorem dX12_findRows_301 : decode cX12_findRows 301 = .ok (.aload_n 0, 1) := by decide +kernel
theorem dX12_findRows_302 : decode cX12_findRows 302 = .ok (.getfield 22, 3) := by decide +kernel
theorem dX12_findRows_305 : decode cX12_findRows 305 = .ok (.iload_n 1, 1) := by decide +kernel
theorem dX12_findRows_306 : decode cX12_findRows 306 = .ok (.iload 4, 2) := by decide +kernel
theorem dX12_findRows_308 : decode cX12_findRows 308 = .ok (.iload 5, 2) := by decide +kernel
theorem dX12_findRows_310 : decode cX12_findRows 310 = .ok (.invokestatic 112, 3) := by decide +kernel
theorem dX12_findRows_313 : decode cX12_findRows 313 = .ok (.iload 10, 2) := by decide +kernel
theorem dX12_findRows_315 : decode cX12_findRows 315 = .ok (.ifCond .eq 7, 3) := by decide +kernel
theorem dX12_findRows_318 : decode cX12_findRows 318 = .ok (.lconst 0, 1) := by decide +kernel
theorem dX12_findRows_319 : decode cX12_findRows 319 = .ok (.goto 5, 3) := by decide +kernel
theorem dX12_findRows_322 : decode cX12_findRows 322 = .ok (.lload 11, 2) := by decide +kernel
theorem dX12_findRows_324 : decode cX12_findRows 324 = .ok (.lastore, 1) := by decide +kernel
theorem dX12_findRows_325 : decode cX12_findRows 325 = .ok (.iinc 5 1, 3) := by decide +kernel
theorem dX12_findRows_328 : decode cX12_findRows 328 = .ok (.goto (-280), 3) := by decide +kernel
theorem dX12_findRows_331 : decode cX12_findRows 331 = .ok (.iinc 4 1, 3) := by decide +kernel
theorem dX12_findRows_334 : decode cX12_findRows 334 = .ok (.goto (-295), 3) := by decide +kernel
theorem dX12_findRows_337 : decode cX12_findRows 337 = .ok (.return_, 1) := by decide +kernel
theorem dX12_number_0 : decode cX12_number 0 = .ok (.iload_n 1, 1) := by decide +kernel
theorem dX12_number_1 : decode cX12_number 1 = .ok (.invokestatic 100, 3) := by decide +kernel
theorem dX12_number_4 : decode cX12_number 4 = .ok (.ifCond .eq 26, 3) := by decide +kernel
theorem dX12_number_7 : decode cX12_number 7 = .ok (.iload_n 2, 1) := by decide +kernel
theorem dX12_number_8 : decode cX12_number 8 = .ok (.i2l, 1) := by decide +kernel
theorem dX12_number_9 : decode cX12_number 9 = .ok (.lconst 0, 1) := by decide +kernel
theorem dX12_number_10 : decode cX12_number 10 = .ok (.ldc2_w 128, 3) := by decide +kernel
theorem dX12_number_13 : decode cX12_number 13 = .ok (.invokestatic 62, 3) := by decide +kernel
theorem dX12_number_16 : decode cX12_number 16 = .ok (.ifCond .eq 14, 3) := by decide +kernel
theorem dX12_number_19 : decode cX12_number 19 = .ok (.iload_n 3, 1) := by decide +kernel
theorem dX12_number_20 : decode cX12_number 20 = .ok (.i2l, 1) := by decide +kernel
theorem dX12_number_21 : decode cX12_number 21 = .ok (.lconst 0, 1) := by decide +kernel
theorem dX12_number_22 : decode cX12_number 22 = .ok (.iload_n 2, 1) := by decide +kernel
theorem dX12_number_23 : decode cX12_number 23 = .ok (.i2l, 1) := by decide +kernel
theorem dX12_number_24 : decode cX12_number 24 = .ok (.invokestatic 62, 3) := by decide +kernel
theorem dX12_number_27 : decode cX12_number 27 = .ok (.ifCond .ne 7, 3) := by decide +kernel
theorem dX12_number_30 : decode cX12_number 30 = .ok (.ldc2_w 130, 3) := by decide +kernel
theorem dX12_number_33 : decode cX12_number 33 = .ok (.lreturn, 1) := by decide +kernel
theorem dX12_number_34 : decode cX12_number 34 = .ok (.aload_n 0, 1) := by decide +kernel
theorem dX12_number_35 : decode cX12_number 35 = .ok (.iconst 0, 1) := by decide +kernel
theorem dX12_number_36 : decode cX12_number 36 = .ok (.iload_n 1, 1) := by decide +kernel
theorem dX12_number_37 : decode cX12_number 37 = .ok (.iload_n 2, 1) := by decide +kernel
theorem dX12_number_38 : decode cX12_number 38 = .ok (.invokevirtual 132, 3) := by decide +kernel
theorem dX12_number_41 : decode cX12_number 41 = .ok (.aload_n 0, 1) := by decide +kernel
theorem dX12_number_42 : decode cX12_number 42 = .ok (.getfield 26, 3) := by decide +kernel
theorem dX12_number_45 : decode cX12_number 45 = .ok (.iconst 0, 1) := by decide +kernel
theorem dX12_number_46 : decode cX12_number 46 = .ok (.iload_n 2, 1) := by decide +kernel
theorem dX12_number_47 : decode cX12_number 47 = .ok (.iload_n 3, 1) := by decide +kernel
theorem dX12_number_48 : decode cX12_number 48 = .ok (.invokestatic 112, 3) := by decide +kernel
theorem dX12_number_51 : decode cX12_number 51 = .ok (.baload, 1) := by decide +kernel
theorem dX12_number_52 : decode cX12_number 52 = .ok (.ifCond .eq 9, 3) := by decide +kernel
theorem dX12_number_55 : decode cX12_number 55 = .ok (.ldc2_w 136, 3) := by decide +kernel
theorem dX12_number_58 : decode cX12_number 58 = .ok (.goto 14, 3) := by decide +kernel
theorem dX12_number_61 : decode cX12_number 61 = .ok (.aload_n 0, 1) := by decide +kernel
theorem dX12_number_62 : decode cX12_number 62 = .ok (.getfield 22, 3) := by decide +kernel
theorem dX12_number_65 : decode cX12_number 65 = .ok (.iconst 0, 1) := by decide +kernel
theorem dX12_number_66 : decode cX12_number 66 = .ok (.iload_n 2, 1) := by decide +kernel
theorem dX12_number_67 : decode cX12_number 67 = .ok (.iload_n 3, 1) := by decide +kernel
theorem dX12_number_68 : decode cX12_number 68 = .ok (.invokestatic 112, 3) := by decide +kernel
theorem dX12_number_71 : decode cX12_number 71 = .ok (.laload, 1) := by decide +kernel
theorem dX12_number_72 : decode cX12_number 72 = .ok (.lreturn, 1) := by decide +kernel
theorem dX12_sum_0 : decode cX12_sum 0 = .ok (.iload_n 1, 1) := by decide +kernel
theorem dX12_sum_1 : decode cX12_sum 1 = .ok (.invokestatic 100, 3) := by decide +kernel
theorem dX12_sum_4 : decode cX12_sum 4 = .ok (.ifCond .eq 27, 3) := by decide +kernel
theorem dX12_sum_7 : decode cX12_sum 7 = .ok (.iload_n 2, 1) := by decide +kernel
theorem dX12_sum_8 : decode cX12_sum 8 = .ok (.i2l, 1) := by decide +kernel
theorem dX12_sum_9 : decode cX12_sum 9 = .ok (.lconst 0, 1) := by decide +kernel
theorem dX12_sum_10 : decode cX12_sum 10 = .ok (.ldc2_w 128, 3) := by decide +kernel
theorem dX12_sum_13 : decode cX12_sum 13 = .ok (.invokestatic 62, 3) := by decide +kernel
theorem dX12_sum_16 : decode cX12_sum 16 = .ok (.ifCond .eq 15, 3) := by decide +kernel
theorem dX12_sum_19 : decode cX12_sum 19 = .ok (.iload_n 3, 1) := by decide +kernel
theorem dX12_sum_20 : decode cX12_sum 20 = .ok (.i2l, 1) := by decide +kernel
theorem dX12_sum_21 : decode cX12_sum 21 = .ok (.lconst 0, 1) := by decide +kernel
theorem dX12_sum_22 : decode cX12_sum 22 = .ok (.ldc2_w 98, 3) := by decide +kernel
theorem dX12_sum_25 : decode cX12_sum 25 = .ok (.invokestatic 62, 3) := by decide +kernel
theorem dX12_sum_28 : decode cX12_sum 28 = .ok (.ifCond .ne 7, 3) := by decide +kernel
theorem dX12_sum_31 : decode cX12_sum 31 = .ok (.ldc2_w 130, 3) := by decide +kernel
theorem dX12_sum_34 : decode cX12_sum 34 = .ok (.lreturn, 1) := by decide +kernel
theorem dX12_sum_35 : decode cX12_sum 35 = .ok (.aload_n 0, 1) := by decide +kernel
theorem dX12_sum_36 : decode cX12_sum 36 = .ok (.iconst 0, 1) := by decide +kernel
theorem dX12_sum_37 : decode cX12_sum 37 = .ok (.iload_n 1, 1) := by decide +kernel
theorem dX12_sum_38 : decode cX12_sum 38 = .ok (.iload_n 2, 1) := by decide +kernel
theorem dX12_sum_39 : decode cX12_sum 39 = .ok (.invokevirtual 132, 3) := by decide +kernel
theorem dX12_sum_42 : decode cX12_sum 42 = .ok (.lconst 0, 1) := by decide +kernel
theorem dX12_sum_43 : decode cX12_sum 43 = .ok (.lstore 4, 2) := by decide +kernel
theorem dX12_sum_45 : decode cX12_sum 45 = .ok (.iconst 1, 1) := by decide +kernel
theorem dX12_sum_46 : decode cX12_sum 46 = .ok (.istore 6, 2) := by decide +kernel
theorem dX12_sum_48 : decode cX12_sum 48 = .ok (.iconst 0, 1) := by decide +kernel
theorem dX12_sum_49 : decode cX12_sum 49 = .ok (.istore 7, 2) := by decide +kernel
theorem dX12_sum_51 : decode cX12_sum 51 = .ok (.iload 7, 2) := by decide +kernel
theorem dX12_sum_53 : decode cX12_sum 53 = .ok (.iload_n 3, 1) := by decide +kernel
theorem dX12_sum_54 : decode cX12_sum 54 = .ok (.iconst 2, 1) := by decide +kernel
theorem dX12_sum_55 : decode cX12_sum 55 = .ok (.if_icmp .ne 9, 3) := by decide +kernel
theorem dX12_sum_58 : decode cX12_sum 58 = .ok (.iload_n 2, 1) := by decide +kernel
theorem dX12_sum_59 : decode cX12_sum 59 = .ok (.iconst 2, 1) := by decide +kernel
theorem dX12_sum_60 : decode cX12_sum 60 = .ok (.idiv, 1) := by decide +kernel
theorem dX12_sum_61 : decode cX12_sum 61 = .ok (.goto 4, 3) := by decide +kernel
theorem dX12_sum_64 : decode cX12_sum 64 = .ok (.iload_n 2, 1) := by decide +kernel
theorem dX12_sum_65 : decode cX12_sum 65 = .ok (.if_icmp .gt 126, 3) := by decide +kernel
theorem dX12_sum_68 : decode cX12_sum 68 = .ok (.iconst 0, 1) := by decide +kernel
theorem dX12_sum_69 : decode cX12_sum 69 = .ok (.iload_n 3, 1) := by decide +kernel
theorem dX12_sum_70 : decode cX12_sum 70 = .ok (.iconst 2, 1) := by decide +kernel
theorem dX12_sum_71 : decode cX12_sum 71 = .ok (.if_icmp .ne 10, 3) := by decide +kernel
theorem dX12_sum_74 : decode cX12_sum 74 = .ok (.iload_n 2, 1) := by decide +kernel
theorem dX12_sum_75 : decode cX12_sum 75 = .ok (.iload 7, 2) := by decide +kernel
theorem dX12_sum_77 : decode cX12_sum 77 = .ok (.isub, 1) := by decide +kernel
theorem dX12_sum_78 : decode cX12_sum 78 = .ok (.goto 4, 3) := by decide +kernel
theorem dX12_sum_81 : decode cX12_sum 81 = .ok (.iload_n 2, 1) := by decide +kernel
theorem dX12_sum_82 : decode cX12_sum 82 = .ok (.iload 7, 2) := by decide +kernel
theorem dX12_sum_84 : decode cX12_sum 84 = .ok (.invokestatic 112, 3) := by decide +kernel
theorem dX12_sum_87 : decode cX12_sum 87 = .ok (.istore 8, 2) := by decide +kernel
theorem dX12_sum_89 : decode cX12_sum 89 = .ok (.aload_n 0, 1) := by decide +kernel
theorem dX12_sum_90 : decode cX12_sum 90 = .ok (.getfield 22, 3) := by decide +kernel
theorem dX12_sum_93 : decode cX12_sum 93 = .ok (.iload 8, 2) := by decide +kernel
theorem dX12_sum_95 : decode cX12_sum 95 = .ok (.laload, 1) := by decide +kernel
theorem dX12_sum_96 : decode cX12_sum 96 = .ok (.lstore 9, 2) := by decide +kernel
theorem dX12_sum_98 : decode cX12_sum 98 = .ok (.iload 6, 2) := by decide +kernel
theorem dX12_sum_100 : decode cX12_sum 100 = .ok (.ifCond .eq 34, 3) := by decide +kernel
theorem dX12_sum_103 : decode cX12_sum 103 = .ok (.aload_n 0, 1) := by decide +kernel
theorem dX12_sum_104 : decode cX12_sum 104 = .ok (.getfield 26, 3) := by decide +kernel
theorem dX12_sum_107 : decode cX12_sum 107 = .ok (.iload 8, 2) := by decide +kernel
theorem dX12_sum_109 : decode cX12_sum 109 = .ok (.baload, 1) := by decide +kernel
theorem dX12_sum_110 : decode cX12_sum 110 = .ok (.ifCond .ne 24, 3) := by decide +kernel
theorem dX12_sum_113 : decode cX12_sum 113 = .ok (.iload_n 3, 1) := by decide +kernel
theorem dX12_sum_114 : decode cX12_sum 114 = .ok (.iconst 3, 1) := by decide +kernel
theorem dX12_sum_115 : decode cX12_sum 115 = .ok (.if_icmp .lt 15, 3) := by decide +kernel
theorem dX12_sum_118 : decode cX12_sum 118 = .ok (.lload 9, 2) := by decide +kernel
theorem dX12_sum_120 : decode cX12_sum 120 = .ok (.invokestatic 108, 3) := by decide +kernel
theorem dX12_sum_123 : decode cX12_sum 123 = .ok (.ldc2_w 138, 3) := by decide +kernel
theorem dX12_sum_126 : decode cX12_sum 126 = .ok (.lcmp, 1) := by decide +kernel
theorem dX12_sum_127 : decode cX12_sum 127 = .ok (.ifCond .gt 7, 3) := by decide +kernel
theorem dX12_sum_130 : decode cX12_sum 130 = .ok (.iconst 1, 1) := by decide +kernel
theorem dX12_sum_131 : decode cX12_sum 131 = .ok (.goto 4, 3) := by decide +kernel
theorem dX12_sum_134 : decode cX12_sum 134 = .ok (.iconst 0, 1) := by decide +kernel
theorem dX12_sum_135 : decode cX12_sum 135 = .ok (.istore 6, 2) := by decide +kernel
theorem dX12_sum_137 : decode cX12_sum 137 = .ok (.lload 4, 2) := by decide +kernel
theorem dX12_sum_139 : decode cX12_sum 139 = .ok (.iload_n 3, 1) := by decide +kernel
theorem dX12_sum_140 : decode cX12_sum 140 = .ok (.iconst 1, 1) := by decide +kernel
theorem dX12_sum_141 : decode cX12_sum 141 = .ok (.if_icmp .ne 17, 3) := by decide +kernel
theorem dX12_sum_144 : decode cX12_sum 144 = .ok (.iload 7, 2) := by decide +kernel
theorem dX12_sum_146 : decode cX12_sum 146 = .ok (.iconst 2, 1) := by decide +kernel
theorem dX12_sum_147 : decode cX12_sum 147 = .ok (.irem, 1) := by decide +kernel
theorem dX12_sum_148 : decode cX12_sum 148 = .ok (.iconst 1, 1) := by decide +kernel
theorem dX12_sum_149 : decode cX12_sum 149 = .ok (.if_icmp .ne 9, 3) := by decide +kernel
theorem dX12_sum_152 : decode cX12_sum 152 = .ok (.lload 9, 2) := by decide +kernel
theorem dX12_sum_154 : decode cX12_sum 154 = .ok (.lneg, 1) := by decide +kernel
theorem dX12_sum_155 : decode cX12_sum 155 = .ok (.goto 27, 3) := by decide +kernel
theorem dX12_sum_158 : decode cX12_sum 158 = .ok (.iload_n 3, 1) := by decide +kernel
theorem dX12_sum_159 : decode cX12_sum 159 = .ok (.iconst 3, 1) := by decide +kernel
theorem dX12_sum_160 : decode cX12_sum 160 = .ok (.if_icmp .ge 8, 3) := by decide +kernel
theorem dX12_sum_163 : decode cX12_sum 163 = .ok (.lload 9, 2) := by decide +kernel
theorem dX12_sum_165 : decode cX12_sum 165 = .ok (.goto 17, 3) := by decide +kernel
theorem dX12_sum_168 : decode cX12_sum 168 = .ok (.iload 6, 2) := by decide +kernel
theorem dX12_sum_170 : decode cX12_sum 170 = .ok (.ifCond .eq 11, 3) := by decide +kernel
theorem dX12_sum_173 : decode cX12_sum 173 = .ok (.lload 9, 2) := by decide +kernel
theorem dX12_sum_175 : decode cX12_sum 175 = .ok (.lload 9, 2) := by decide +kernel
theorem dX12_sum_177 : decode cX12_sum 177 = .ok (.lmul, 1) := by decide +kernel
theorem dX12_sum_178 : decode cX12_sum 178 = .ok (.goto 4, 3) := by decide +kernel
theorem dX12_sum_181 : decode cX12_sum 181 = .ok (.lconst 0, 1) := by decide +kernel
theorem dX12_sum_182 : decode cX12_sum 182 = .ok (.ladd, 1) := by decide +kernel
theorem dX12_sum_183 : decode cX12_sum 183 = .ok (.lstore 4, 2) := by decide +kernel
theorem dX12_sum_185 : decode cX12_sum 185 = .ok (.iinc 7 1, 3) := by decide +kernel
theorem dX12_sum_188 : decode cX12_sum 188 = .ok (.goto (-137), 3) := by decide +kernel
theorem dX12_sum_191 : decode cX12_sum 191 = .ok (.iload 6, 2) := by decide +kernel
theorem dX12_sum_193 : decode cX12_sum 193 = .ok (.ifCond .eq 8, 3) := by decide +kernel
theorem dX12_sum_196 : decode cX12_sum 196 = .ok (.lload 4, 2) := by decide +kernel
theorem dX12_sum_198 : decode cX12_sum 198 = .ok (.goto 6, 3) := by decide +kernel
theorem dX12_sum_201 : decode cX12_sum 201 = .ok (.ldc2_w 136, 3) := by decide +kernel
theorem dX12_sum_204 : decode cX12_sum 204 = .ok (.lreturn, 1) := by decide +kernel
theorem dX12_shape_0 : decode cX12_shape 0 = .ok (.iload_n 1, 1) := by decide +kernel
theorem dX12_shape_1 : decode cX12_shape 1 = .ok (.invokestatic 100, 3) := by decide +kernel
theorem dX12_shape_4 : decode cX12_shape 4 = .ok (.ifCond .eq 27, 3) := by decide +kernel
theorem dX12_shape_7 : decode cX12_shape 7 = .ok (.iload_n 2, 1) := by decide +kernel
theorem dX12_shape_8 : decode cX12_shape 8 = .ok (.i2l, 1) := by decide +kernel
theorem dX12_shape_9 : decode cX12_shape 9 = .ok (.lconst 0, 1) := by decide +kernel
theorem dX12_shape_10 : decode cX12_shape 10 = .ok (.ldc2_w 128, 3) := by decide +kernel
theorem dX12_shape_13 : decode cX12_shape 13 = .ok (.invokestatic 62, 3) := by decide +kernel
theorem dX12_shape_16 : decode cX12_shape 16 = .ok (.ifCond .eq 15, 3) := by decide +kernel
theorem dX12_shape_19 : decode cX12_shape 19 = .ok (.iload_n 3, 1) := by decide +kernel
theorem dX12_shape_20 : decode cX12_shape 20 = .ok (.i2l, 1) := by decide +kernel
theorem dX12_shape_21 : decode cX12_shape 21 = .ok (.lconst 0, 1) := by decide +kernel
theorem dX12_shape_22 : decode cX12_shape 22 = .ok (.ldc2_w 140, 3) := by decide +kernel
theorem dX12_shape_25 : decode cX12_shape 25 = .ok (.invokestatic 62, 3) := by decide +kernel
theorem dX12_shape_28 : decode cX12_shape 28 = .ok (.ifCond .ne 5, 3) := by decide +kernel
theorem dX12_shape_31 : decode cX12_shape 31 = .ok (.iconst (-1), 1) := by decide +kernel
theorem dX12_shape_32 : decode cX12_shape 32 = .ok (.ireturn, 1) := by decide +kernel
theorem dX12_shape_33 : decode cX12_shape 33 = .ok (.aload_n 0, 1) := by decide +kernel
theorem dX12_shape_34 : decode cX12_shape 34 = .ok (.iconst 0, 1) := by decide +kernel
theorem dX12_shape_35 : decode cX12_shape 35 = .ok (.iload_n 1, 1) := by decide +kernel
theorem dX12_shape_36 : decode cX12_shape 36 = .ok (.iload_n 2, 1) := by decide +kernel
theorem dX12_shape_37 : decode cX12_shape 37 = .ok (.invokevirtual 132, 3) := by decide +kernel
theorem dX12_shape_40 : decode cX12_shape 40 = .ok (.iconst 0, 1) := by decide +kernel
theorem dX12_shape_41 : decode cX12_shape 41 = .ok (.istore 4, 2) := by decide +kernel
theorem dX12_shape_43 : decode cX12_shape 43 = .ok (.iload 4, 2) := by decide +kernel
theorem dX12_shape_45 : decode cX12_shape 45 = .ok (.iload_n 2, 1) := by decide +kernel
theorem dX12_shape_46 : decode cX12_shape 46 = .ok (.if_icmp .gt 54, 3) := by decide +kernel
theorem dX12_shape_49 : decode cX12_shape 49 = .ok (.aload_n 0, 1) := by decide +kernel
theorem dX12_shape_50 : decode cX12_shape 50 = .ok (.getfield 26, 3) := by decide +kernel
theorem dX12_shape_53 : decode cX12_shape 53 = .ok (.iconst 0, 1) := by decide +kernel
theorem dX12_shape_54 : decode cX12_shape 54 = .ok (.iload_n 2, 1) := by decide +kernel
theorem dX12_shape_55 : decode cX12_shape 55 = .ok (.iload 4, 2) := by decide +kernel
theorem dX12_shape_57 : decode cX12_shape 57 = .ok (.invokestatic 112, 3) := by decide +kernel
theorem dX12_shape_60 : decode cX12_shape 60 = .ok (.baload, 1) := by decide +kernel
theorem dX12_shape_61 : decode cX12_shape 61 = .ok (.ifCond .ne 30, 3) := by decide +kernel
theorem dX12_shape_64 : decode cX12_shape 64 = .ok (.iload_n 3, 1) := by decide +kernel
theorem dX12_shape_65 : decode cX12_shape 65 = .ok (.iconst 2, 1) := by decide +kernel
theorem dX12_shape_66 : decode cX12_shape 66 = .ok (.if_icmp .ne 28, 3) := by decide +kernel
theorem dX12_shape_69 : decode cX12_shape 69 = .ok (.aload_n 0, 1) := by decide +kernel
theorem dX12_shape_70 : decode cX12_shape 70 = .ok (.getfield 22, 3) := by decide +kernel
theorem dX12_shape_73 : decode cX12_shape 73 = .ok (.iconst 0, 1) := by decide +kernel
theorem dX12_shape_74 : decode cX12_shape 74 = .ok (.iload_n 2, 1) := by decide +kernel
theorem dX12_shape_75 : decode cX12_shape 75 = .ok (.iload 4, 2) := by decide +kernel
theorem dX12_shape_77 : decode cX12_shape 77 = .ok (.invokestatic 112, 3) := by decide +kernel
theorem dX12_shape_80 : decode cX12_shape 80 = .ok (.laload, 1) := by decide +kernel
theorem dX12_shape_81 : decode cX12_shape 81 = .ok (.invokestatic 108, 3) := by decide +kernel
theorem dX12_shape_84 : decode cX12_shape 84 = .ok (.ldc2_w 138, 3) := by decide +kernel
theorem dX12_shape_87 : decode cX12_shape 87 = .ok (.lcmp, 1) := by decide +kernel
theorem dX12_shape_88 : decode cX12_shape 88 = .ok (.ifCond .le 6, 3) := by decide +kernel
theorem dX12_shape_91 : decode cX12_shape 91 = .ok (.bipush (-2), 2) := by decide +kernel
theorem dX12_shape_93 : decode cX12_shape 93 = .ok (.ireturn, 1) := by decide +kernel
theorem dX12_shape_94 : decode cX12_shape 94 = .ok (.iinc 4 1, 3) := by decide +kernel
theorem dX12_shape_97 : decode cX12_shape 97 = .ok (.goto (-54), 3) := by decide +kernel
theorem dX12_shape_100 : decode cX12_shape 100 = .ok (.iconst 0, 1) := by decide +kernel
theorem dX12_shape_101 : decode cX12_shape 101 = .ok (.iload_n 2, 1) := by decide +kernel
theorem dX12_shape_102 : decode cX12_shape 102 = .ok (.iconst 0, 1) := by decide +kernel
theorem dX12_shape_103 : decode cX12_shape 103 = .ok (.invokestatic 112, 3) := by decide +kernel
theorem dX12_shape_106 : decode cX12_shape 106 = .ok (.istore 4, 2) := by decide +kernel
theorem dX12_shape_108 : decode cX12_shape 108 = .ok (.iconst 0, 1) := by decide +kernel
theorem dX12_shape_109 : decode cX12_shape 109 = .ok (.istore 5, 2) := by decide +kernel
theorem dX12_shape_111 : decode cX12_shape 111 = .ok (.bipush (-4), 2) := by decide +kernel
theorem dX12_shape_113 : decode cX12_shape 113 = .ok (.istore 6, 2) := by decide +kernel
theorem dX12_shape_115 : decode cX12_shape 115 = .ok (.bipush (-4), 2) := by decide +kernel
theorem dX12_shape_117 : decode cX12_shape 117 = .ok (.istore 7, 2) := by decide +kernel
theorem dX12_shape_119 : decode cX12_shape 119 = .ok (.iconst 0, 1) := by decide +kernel
theorem dX12_shape_120 : decode cX12_shape 120 = .ok (.istore 8, 2) := by decide +kernel
theorem dX12_shape_122 : decode cX12_shape 122 = .ok (.iconst 0, 1) := by decide +kernel
theorem dX12_shape_123 : decode cX12_shape 123 = .ok (.istore 9, 2) := by decide +kernel
theorem dX12_shape_125 : decode cX12_shape 125 = .ok (.iload 9, 2) := by decide +kernel
theorem dX12_shape_127 : decode cX12_shape 127 = .ok (.iload_n 2, 1) := by decide +kernel
theorem dX12_shape_128 : decode cX12_shape 128 = .ok (.if_icmp .ge 161, 3) := by decide +kernel
theorem dX12_shape_131 : decode cX12_shape 131 = .ok (.aload_n 0, 1) := by decide +kernel
theorem dX12_shape_132 : decode cX12_shape 132 = .ok (.getfield 22, 3) := by decide +kernel
theorem dX12_shape_135 : decode cX12_shape 135 = .ok (.iload 4, 2) := by decide +kernel
theorem dX12_shape_137 : decode cX12_shape 137 = .ok (.iload 9, 2) := by decide +kernel
theorem dX12_shape_139 : decode cX12_shape 139 = .ok (.iadd, 1) := by decide +kernel
theorem dX12_shape_140 : decode cX12_shape 140 = .ok (.laload, 1) := by decide +kernel
theorem dX12_shape_141 : decode cX12_shape 141 = .ok (.lstore 10, 2) := by decide +kernel
theorem dX12_shape_143 : decode cX12_shape 143 = .ok (.aload_n 0, 1) := by decide +kernel
theorem dX12_shape_144 : decode cX12_shape 144 = .ok (.getfield 22, 3) := by decide +kernel
theorem dX12_shape_147 : decode cX12_shape 147 = .ok (.iload 4, 2) := by decide +kernel
theorem dX12_shape_149 : decode cX12_shape 149 = .ok (.iload 9, 2) := by decide +kernel
theorem dX12_shape_151 : decode cX12_shape 151 = .ok (.iadd, 1) := by decide +kernel
theorem dX12_shape_152 : decode cX12_shape 152 = .ok (.iconst 1, 1) := by decide +kernel
theorem dX12_shape_153 : decode cX12_shape 153 = .ok (.iadd, 1) := by decide +kernel
theorem dX12_shape_154 : decode cX12_shape 154 = .ok (.laload, 1) := by decide +kernel
theorem dX12_shape_155 : decode cX12_shape 155 = .ok (.lstore 12, 2) := by decide +kernel
theorem dX12_shape_157 : decode cX12_shape 157 = .ok (.lload 12, 2) := by decide +kernel
theorem dX12_shape_159 : decode cX12_shape 159 = .ok (.aload_n 0, 1) := by decide +kernel
theorem dX12_shape_160 : decode cX12_shape 160 = .ok (.getfield 22, 3) := by decide +kernel
theorem dX12_shape_163 : decode cX12_shape 163 = .ok (.iload 4, 2) := by decide +kernel
theorem dX12_shape_165 : decode cX12_shape 165 = .ok (.iload 5, 2) := by decide +kernel
theorem dX12_shape_167 : decode cX12_shape 167 = .ok (.iadd, 1) := by decide +kernel
theorem dX12_shape_168 : decode cX12_shape 168 = .ok (.laload, 1) := by decide +kernel
theorem dX12_shape_169 : decode cX12_shape 169 = .ok (.lcmp, 1) := by decide +kernel
theorem dX12_shape_170 : decode cX12_shape 170 = .ok (.ifCond .le 10, 3) := by decide +kernel
theorem dX12_shape_173 : decode cX12_shape 173 = .ok (.iload 9, 2) := by decide +kernel
theorem dX12_shape_175 : decode cX12_shape 175 = .ok (.iconst 1, 1) := by decide +kernel
theorem dX12_shape_176 : decode cX12_shape 176 = .ok (.iadd, 1) := by decide +kernel
theorem dX12_shape_177 : decode cX12_shape 177 = .ok (.goto 5, 3) := by decide +kernel
theorem dX12_shape_180 : decode cX12_shape 180 = .ok (.iload 5, 2) := by decide +kernel
theorem dX12_shape_182 : decode cX12_shape 182 = .ok (.istore 5, 2) := by decide +kernel
theorem dX12_shape_184 : decode cX12_shape 184 = .ok (.iload 6, 2) := by decide +kernel
theorem dX12_shape_186 : decode cX12_shape 186 = .ok (.bipush (-4), 2) := by decide +kernel
theorem dX12_shape_188 : decode cX12_shape 188 = .ok (.if_icmp .ne 21, 3) := by decide +kernel
theorem dX12_shape_191 : decode cX12_shape 191 = .ok (.iload 8, 2) := by decide +kernel
theorem dX12_shape_193 : decode cX12_shape 193 = .ok (.ifCond .eq 16, 3) := by decide +kernel
theorem dX12_shape_196 : decode cX12_shape 196 = .ok (.lload 12, 2) := by decide +kernel
theorem dX12_shape_198 : decode cX12_shape 198 = .ok (.lload 10, 2) := by decide +kernel
theorem dX12_shape_200 : decode cX12_shape 200 = .ok (.lcmp, 1) := by decide +kernel
theorem dX12_shape_201 : decode cX12_shape 201 = .ok (.ifCond .le 8, 3) := by decide +kernel
theorem dX12_shape_204 : decode cX12_shape 204 = .ok (.iload 9, 2) := by decide +kernel
theorem dX12_shape_206 : decode cX12_shape 206 = .ok (.goto 5, 3) := by decide +kernel
theorem dX12_shape_209 : decode cX12_shape 209 = .ok (.iload 6, 2) := by decide +kernel
theorem dX12_shape_211 : decode cX12_shape 211 = .ok (.istore 6, 2) := by decide +kernel
theorem dX12_shape_213 : decode cX12_shape 213 = .ok (.iload 8, 2) := by decide +kernel
theorem dX12_shape_215 : decode cX12_shape 215 = .ok (.ifCond .ne 11, 3) := by decide +kernel
theorem dX12_shape_218 : decode cX12_shape 218 = .ok (.lload 12, 2) := by decide +kernel
theorem dX12_shape_220 : decode cX12_shape 220 = .ok (.lload 10, 2) := by decide +kernel
theorem dX12_shape_222 : decode cX12_shape 222 = .ok (.lcmp, 1) := by decide +kernel
theorem dX12_shape_223 : decode cX12_shape 223 = .ok (.ifCond .ge 7, 3) := by decide +kernel
theorem dX12_shape_226 : decode cX12_shape 226 = .ok (.iconst 1, 1) := by decide +kernel
theorem dX12_shape_227 : decode cX12_shape 227 = .ok (.goto 4, 3) := by decide +kernel
theorem dX12_shape_230 : decode cX12_shape 230 = .ok (.iconst 0, 1) := by decide +kernel
theorem dX12_shape_231 : decode cX12_shape 231 = .ok (.istore 8, 2) := by decide +kernel
theorem dX12_shape_233 : decode cX12_shape 233 = .ok (.iload_n 3, 1) := by decide +kernel
theorem dX12_shape_234 : decode cX12_shape 234 = .ok (.iconst 2, 1) := by decide +kernel
theorem dX12_shape_235 : decode cX12_shape 235 = .ok (.if_icmp .ne 44, 3) := by decide +kernel
theorem dX12_shape_238 : decode cX12_shape 238 = .ok (.iload 7, 2) := by decide +kernel
theorem dX12_shape_240 : decode cX12_shape 240 = .ok (.bipush (-4), 2) := by decide +kernel
theorem dX12_shape_242 : decode cX12_shape 242 = .ok (.if_icmp .ne 37, 3) := by decide +kernel
theorem dX12_shape_245 : decode cX12_shape 245 = .ok (.iload 9, 2) := by decide +kernel
theorem dX12_shape_247 : decode cX12_shape 247 = .ok (.ifCond .le 32, 3) := by decide +kernel
theorem dX12_shape_250 : decode cX12_shape 250 = .ok (.lload 10, 2) := by decide +kernel
theorem dX12_shape_252 : decode cX12_shape 252 = .ok (.lload 10, 2) := by decide +kernel
theorem dX12_shape_254 : decode cX12_shape 254 = .ok (.lmul, 1) := by decide +kernel
theorem dX12_shape_255 : decode cX12_shape 255 = .ok (.aload_n 0, 1) := by decide +kernel
theorem dX12_shape_256 : decode cX12_shape 256 = .ok (.getfield 22, 3) := by decide +kernel
theorem dX12_shape_259 : decode cX12_shape 259 = .ok (.iload 4, 2) := by decide +kernel
theorem dX12_shape_261 : decode cX12_shape 261 = .ok (.iload 9, 2) := by decide +kernel
theorem dX12_shape_263 : decode cX12_shape 263 = .ok (.iadd, 1) := by decide +kernel
theorem dX12_shape_264 : decode cX12_shape 264 = .ok (.iconst 1, 1) := by decide +kernel
theorem dX12_shape_265 : decode cX12_shape 265 = .ok (.isub, 1) := by decide +kernel
theorem dX12_shape_266 : decode cX12_shape 266 = .ok (.laload, 1) := by decide +kernel
theorem dX12_shape_267 : decode cX12_shape 267 = .ok (.lload 12, 2) := by decide +kernel
theorem dX12_shape_269 : decode cX12_shape 269 = .ok (.lmul, 1) := by decide +kernel
theorem dX12_shape_270 : decode cX12_shape 270 = .ok (.lcmp, 1) := by decide +kernel
theorem dX12_shape_271 : decode cX12_shape 271 = .ok (.ifCond .ge 8, 3) := by decide +kernel
theorem dX12_shape_274 : decode cX12_shape 274 = .ok (.iload 9, 2) := by decide +kernel
theorem dX12_shape_276 : decode cX12_shape 276 = .ok (.goto 5, 3) := by decide +kernel
theorem dX12_shape_279 : decode cX12_shape 279 = .ok (.iload 7, 2) := by decide +kernel
theorem dX12_shape_281 : decode cX12_shape 281 = .ok (.istore 7, 2) := by decide +kernel
theorem dX12_shape_283 : decode cX12_shape 283 = .ok (.iinc 9 1, 3) := by decide +kernel
theorem dX12_shape_286 : decode cX12_shape 286 = .ok (.goto (-161), 3) := by decide +kernel
theorem dX12_shape_289 : decode cX12_shape 289 = .ok (.iload_n 3, 1) := by decide +kernel
theorem dX12_shape_290 : decode cX12_shape 290 = .ok (.ifCond .ne 8, 3) := by decide +kernel
theorem dX12_shape_293 : decode cX12_shape 293 = .ok (.iload 5, 2) := by decide +kernel
theorem dX12_shape_295 : decode cX12_shape 295 = .ok (.goto 15, 3) := by decide +kernel
theorem dX12_shape_298 : decode cX12_shape 298 = .ok (.iload_n 3, 1) := by decide +kernel
theorem dX12_shape_299 : decode cX12_shape 299 = .ok (.iconst 1, 1) := by decide +kernel
theorem dX12_shape_300 : decode cX12_shape 300 = .ok (.if_icmp .ne 8, 3) := by decide +kernel
theorem dX12_shape_303 : decode cX12_shape 303 = .ok (.iload 6, 2) := by decide +kernel
theorem dX12_shape_305 : decode cX12_shape 305 = .ok (.goto 5, 3) := by decide +kernel
theorem dX12_shape_308 : decode cX12_shape 308 = .ok (.iload 7, 2) := by decide +kernel
theorem dX12_shape_310 : decode cX12_shape 310 = .ok (.ireturn, 1) := by decide +kernel
theorem dX12_rest_0 : decode cX12_rest 0 = .ok (.iload_n 1, 1) := by decide +kernel
theorem dX12_rest_1 : decode cX12_rest 1 = .ok (.invokestatic 100, 3) := by decide +kernel
theorem dX12_rest_4 : decode cX12_rest 4 = .ok (.ifCond .eq 41, 3) := by decide +kernel
theorem dX12_rest_7 : decode cX12_rest 7 = .ok (.iload_n 2, 1) := by decide +kernel
theorem dX12_rest_8 : decode cX12_rest 8 = .ok (.i2l, 1) := by decide +kernel
theorem dX12_rest_9 : decode cX12_rest 9 = .ok (.lconst 0, 1) := by decide +kernel
theorem dX12_rest_10 : decode cX12_rest 10 = .ok (.ldc2_w 142, 3) := by decide +kernel
theorem dX12_rest_13 : decode cX12_rest 13 = .ok (.invokestatic 62, 3) := by decide +kernel
theorem dX12_rest_16 : decode cX12_rest 16 = .ok (.ifCond .eq 29, 3) := by decide +kernel
theorem dX12_rest_19 : decode cX12_rest 19 = .ok (.iload_n 3, 1) := by decide +kernel
theorem dX12_rest_20 : decode cX12_rest 20 = .ok (.i2l, 1) := by decide +kernel
theorem dX12_rest_21 : decode cX12_rest 21 = .ok (.lconst 0, 1) := by decide +kernel
theorem dX12_rest_22 : decode cX12_rest 22 = .ok (.iload_n 2, 1) := by decide +kernel
theorem dX12_rest_23 : decode cX12_rest 23 = .ok (.i2l, 1) := by decide +kernel
theorem dX12_rest_24 : decode cX12_rest 24 = .ok (.invokestatic 62, 3) := by decide +kernel
theorem dX12_rest_27 : decode cX12_rest 27 = .ok (.ifCond .eq 18, 3) := by decide +kernel
theorem dX12_rest_30 : decode cX12_rest 30 = .ok (.iload 4, 2) := by decide +kernel
theorem dX12_rest_32 : decode cX12_rest 32 = .ok (.i2l, 1) := by decide +kernel
theorem dX12_rest_33 : decode cX12_rest 33 = .ok (.ldc2_w 140, 3) := by decide +kernel
theorem dX12_rest_36 : decode cX12_rest 36 = .ok (.ldc2_w 144, 3) := by decide +kernel
theorem dX12_rest_39 : decode cX12_rest 39 = .ok (.invokestatic 62, 3) := by decide +kernel
theorem dX12_rest_42 : decode cX12_rest 42 = .ok (.ifCond .ne 5, 3) := by decide +kernel
theorem dX12_rest_45 : decode cX12_rest 45 = .ok (.iconst (-1), 1) := by decide +kernel
theorem dX12_rest_46 : decode cX12_rest 46 = .ok (.ireturn, 1) := by decide +kernel
theorem dX12_rest_47 : decode cX12_rest 47 = .ok (.iconst 0, 1) := by decide +kernel
theorem dX12_rest_48 : decode cX12_rest 48 = .ok (.istore 5, 2) := by decide +kernel
theorem dX12_rest_50 : decode cX12_rest 50 = .ok (.aload_n 0, 1) := by decide +kernel
theorem dX12_rest_51 : decode cX12_rest 51 = .ok (.getfield 30, 3) := by decide +kernel
theorem dX12_rest_54 : decode cX12_rest 54 = .ok (.iconst 0, 1) := by decide +kernel
theorem dX12_rest_55 : decode cX12_rest 55 = .ok (.aload_n 0, 1) := by decide +kernel
theorem dX12_rest_56 : decode cX12_rest 56 = .ok (.getfield 16, 3) := by decide +kernel
theorem dX12_rest_59 : decode cX12_rest 59 = .ok (.bipush 7, 2) := by decide +kernel
theorem dX12_rest_61 : decode cX12_rest 61 = .ok (.iload_n 1, 1) := by decide +kernel
theorem dX12_rest_62 : decode cX12_rest 62 = .ok (.imul, 1) := by decide +kernel
theorem dX12_rest_63 : decode cX12_rest 63 = .ok (.bipush 6, 2) := by decide +kernel
theorem dX12_rest_65 : decode cX12_rest 65 = .ok (.iadd, 1) := by decide +kernel
theorem dX12_rest_66 : decode cX12_rest 66 = .ok (.iaload, 1) := by decide +kernel
theorem dX12_rest_67 : decode cX12_rest 67 = .ok (.iload 4, 2) := by decide +kernel
theorem dX12_rest_69 : decode cX12_rest 69 = .ok (.irem, 1) := by decide +kernel
theorem dX12_rest_70 : decode cX12_rest 70 = .ok (.iload 4, 2) := by decide +kernel
theorem dX12_rest_72 : decode cX12_rest 72 = .ok (.iadd, 1) := by decide +kernel
theorem dX12_rest_73 : decode cX12_rest 73 = .ok (.iload 4, 2) := by decide +kernel
theorem dX12_rest_75 : decode cX12_rest 75 = .ok (.irem, 1) := by decide +kernel
theorem dX12_rest_76 : decode cX12_rest 76 = .ok (.iastore, 1) := by decide +kernel
theorem dX12_rest_77 : decode cX12_rest 77 = .ok (.iconst 1, 1) := by decide +kernel
theorem dX12_rest_78 : decode cX12_rest 78 = .ok (.istore 6, 2) := by decide +kernel
theorem dX12_rest_80 : decode cX12_rest 80 = .ok (.iload 6, 2) := by decide +kernel
theorem dX12_rest_82 : decode cX12_rest 82 = .ok (.iload_n 2, 1) := by decide +kernel
theorem dX12_rest_83 : decode cX12_rest 83 = .ok (.if_icmp .gt 140, 3) := by decide +kernel
theorem dX12_rest_86 : decode cX12_rest 86 = .ok (.bipush 61, 2) := by decide +kernel
theorem dX12_rest_88 : decode cX12_rest 88 = .ok (.iload 5, 2) := by decide +kernel
theorem dX12_rest_90 : decode cX12_rest 90 = .ok (.isub, 1) := by decide +kernel
theorem dX12_rest_91 : decode cX12_rest 91 = .ok (.istore 7, 2) := by decide +kernel
theorem dX12_rest_93 : decode cX12_rest 93 = .ok (.iconst 0, 1) := by decide +kernel
theorem dX12_rest_94 : decode cX12_rest 94 = .ok (.istore 8, 2) := by decide +kernel
theorem dX12_rest_96 : decode cX12_rest 96 = .ok (.iload 8, 2) := by decide +kernel
theorem dX12_rest_98 : decode cX12_rest 98 = .ok (.iload 6, 2) := by decide +kernel
theorem dX12_rest_100 : decode cX12_rest 100 = .ok (.if_icmp .gt 113, 3) := by decide +kernel
theorem dX12_rest_103 : decode cX12_rest 103 = .ok (.iload 8, 2) := by decide +kernel
theorem dX12_rest_105 : decode cX12_rest 105 = .ok (.ifCond .le 35, 3) := by decide +kernel
theorem dX12_rest_108 : decode cX12_rest 108 = .ok (.aload_n 0, 1) := by decide +kernel
theorem dX12_rest_109 : decode cX12_rest 109 = .ok (.iload_n 1, 1) := by decide +kernel
theorem dX12_rest_110 : decode cX12_rest 110 = .ok (.iconst 0, 1) := by decide +kernel
theorem dX12_rest_111 : decode cX12_rest 111 = .ok (.iload 6, 2) := by decide +kernel
theorem dX12_rest_113 : decode cX12_rest 113 = .ok (.iload 8, 2) := by decide +kernel
theorem dX12_rest_115 : decode cX12_rest 115 = .ok (.invokevirtual 116, 3) := by decide +kernel
theorem dX12_rest_118 : decode cX12_rest 118 = .ok (.iload 4, 2) := by decide +kernel
theorem dX12_rest_120 : decode cX12_rest 120 = .ok (.irem, 1) := by decide +kernel
theorem dX12_rest_121 : decode cX12_rest 121 = .ok (.aload_n 0, 1) := by decide +kernel
theorem dX12_rest_122 : decode cX12_rest 122 = .ok (.getfield 30, 3) := by decide +kernel
theorem dX12_rest_125 : decode cX12_rest 125 = .ok (.iload 5, 2) := by decide +kernel
theorem dX12_rest_127 : decode cX12_rest 127 = .ok (.iload 8, 2) := by decide +kernel
theorem dX12_rest_129 : decode cX12_rest 129 = .ok (.iadd, 1) := by decide +kernel
theorem dX12_rest_130 : decode cX12_rest 130 = .ok (.iconst 1, 1) := by decide +kernel
theorem dX12_rest_131 : decode cX12_rest 131 = .ok (.isub, 1) := by decide +kernel
theorem dX12_rest_132 : decode cX12_rest 132 = .ok (.iaload, 1) := by decide +kernel
theorem dX12_rest_133 : decode cX12_rest 133 = .ok (.imul, 1) := by decide +kernel
theorem dX12_rest_134 : decode cX12_rest 134 = .ok (.iload 4, 2) := by decide +kernel
theorem dX12_rest_136 : decode cX12_rest 136 = .ok (.irem, 1) := by decide +kernel
theorem dX12_rest_137 : decode cX12_rest 137 = .ok (.goto 4, 3) := by decide +kernel
theorem dX12_rest_140 : decode cX12_rest 140 = .ok (.iconst 0, 1) := by decide +kernel
theorem dX12_rest_141 : decode cX12_rest 141 = .ok (.istore 9, 2) := by decide +kernel
theorem dX12_rest_143 : decode cX12_rest 143 = .ok (.iload 9, 2) := by decide +kernel
theorem dX12_rest_145 : decode cX12_rest 145 = .ok (.iload 8, 2) := by decide +kernel
theorem dX12_rest_147 : decode cX12_rest 147 = .ok (.iload 6, 2) := by decide +kernel
theorem dX12_rest_149 : decode cX12_rest 149 = .ok (.if_icmp .ge 33, 3) := by decide +kernel
theorem dX12_rest_152 : decode cX12_rest 152 = .ok (.aload_n 0, 1) := by decide +kernel
theorem dX12_rest_153 : decode cX12_rest 153 = .ok (.iload_n 1, 1) := by decide +kernel
theorem dX12_rest_154 : decode cX12_rest 154 = .ok (.iconst 3, 1) := by decide +kernel
theorem dX12_rest_155 : decode cX12_rest 155 = .ok (.iload 6, 2) := by decide +kernel
theorem dX12_rest_157 : decode cX12_rest 157 = .ok (.iload 8, 2) := by decide +kernel
theorem dX12_rest_159 : decode cX12_rest 159 = .ok (.invokevirtual 116, 3) := by decide +kernel
theorem dX12_rest_162 : decode cX12_rest 162 = .ok (.iload 4, 2) := by decide +kernel
theorem dX12_rest_164 : decode cX12_rest 164 = .ok (.irem, 1) := by decide +kernel
theorem dX12_rest_165 : decode cX12_rest 165 = .ok (.aload_n 0, 1) := by decide +kernel
theorem dX12_rest_166 : decode cX12_rest 166 = .ok (.getfield 30, 3) := by decide +kernel
theorem dX12_rest_169 : decode cX12_rest 169 = .ok (.iload 5, 2) := by decide +kernel
theorem dX12_rest_171 : decode cX12_rest 171 = .ok (.iload 8, 2) := by decide +kernel
theorem dX12_rest_173 : decode cX12_rest 173 = .ok (.iadd, 1) := by decide +kernel
theorem dX12_rest_174 : decode cX12_rest 174 = .ok (.iaload, 1) := by decide +kernel
theorem dX12_rest_175 : decode cX12_rest 175 = .ok (.imul, 1) := by decide +kernel
theorem dX12_rest_176 : decode cX12_rest 176 = .ok (.iload 4, 2) := by decide +kernel
theorem dX12_rest_178 : decode cX12_rest 178 = .ok (.irem, 1) := by decide +kernel
theorem dX12_rest_179 : decode cX12_rest 179 = .ok (.goto 4, 3) := by decide +kernel
theorem dX12_rest_182 : decode cX12_rest 182 = .ok (.iconst 0, 1) := by decide +kernel
theorem dX12_rest_183 : decode cX12_rest 183 = .ok (.iadd, 1) := by decide +kernel
theorem dX12_rest_184 : decode cX12_rest 184 = .ok (.istore 9, 2) := by decide +kernel
theorem dX12_rest_186 : decode cX12_rest 186 = .ok (.aload_n 0, 1) := by decide +kernel
theorem dX12_rest_187 : decode cX12_rest 187 = .ok (.getfield 30, 3) := by decide +kernel
theorem dX12_rest_190 : decode cX12_rest 190 = .ok (.iload 7, 2) := by decide +kernel
theorem dX12_rest_192 : decode cX12_rest 192 = .ok (.iload 8, 2) := by decide +kernel
theorem dX12_rest_194 : decode cX12_rest 194 = .ok (.iadd, 1) := by decide +kernel
theorem dX12_rest_195 : decode cX12_rest 195 = .ok (.iload 9, 2) := by decide +kernel
theorem dX12_rest_197 : decode cX12_rest 197 = .ok (.iload 4, 2) := by decide +kernel
theorem dX12_rest_199 : decode cX12_rest 199 = .ok (.irem, 1) := by decide +kernel
theorem dX12_rest_200 : decode cX12_rest 200 = .ok (.iload 4, 2) := by decide +kernel
theorem dX12_rest_202 : decode cX12_rest 202 = .ok (.iadd, 1) := by decide +kernel
theorem dX12_rest_203 : decode cX12_rest 203 = .ok (.iload 4, 2) := by decide +kernel
theorem dX12_rest_205 : decode cX12_rest 205 = .ok (.irem, 1) := by decide +kernel
theorem dX12_rest_206 : decode cX12_rest 206 = .ok (.iastore, 1) := by decide +kernel
theorem dX12_rest_207 : decode cX12_rest 207 = .ok (.iinc 8 1, 3) := by decide +kernel
theorem dX12_rest_210 : decode cX12_rest 210 = .ok (.goto (-114), 3) := by decide +kernel
theorem dX12_rest_213 : decode cX12_rest 213 = .ok (.iload 7, 2) := by decide +kernel
theorem dX12_rest_215 : decode cX12_rest 215 = .ok (.istore 5, 2) := by decide +kernel
theorem dX12_rest_217 : decode cX12_rest 217 = .ok (.iinc 6 1, 3) := by decide +kernel
theorem dX12_rest_220 : decode cX12_rest 220 = .ok (.goto (-140), 3) := by decide +kernel
theorem dX12_rest_223 : decode cX12_rest 223 = .ok (.aload_n 0, 1) := by decide +kernel
theorem dX12_rest_224 : decode cX12_rest 224 = .ok (.getfield 30, 3) := by decide +kernel
theorem dX12_rest_227 : decode cX12_rest 227 = .ok (.iload 5, 2) := by decide +kernel
theorem dX12_rest_229 : decode cX12_rest 229 = .ok (.iload_n 3, 1) := by decide +kernel
theorem dX12_rest_230 : decode cX12_rest 230 = .ok (.iadd, 1) := by decide +kernel
theorem dX12_rest_231 : decode cX12_rest 231 = .ok (.iaload, 1) := by decide +kernel
theorem dX12_rest_232 : decode cX12_rest 232 = .ok (.ireturn, 1) := by decide +kernel
theorem dX12_product_0 : decode cX12_product 0 = .ok (.aload_n 0, 1) := by decide +kernel
theorem dX12_product_1 : decode cX12_product 1 = .ok (.iconst 0, 1) := by decide +kernel
theorem dX12_product_2 : decode cX12_product 2 = .ok (.putfield 146, 3) := by decide +kernel
theorem dX12_product_5 : decode cX12_product 5 = .ok (.lconst 0, 1) := by decide +kernel
theorem dX12_product_6 : decode cX12_product 6 = .ok (.lstore_n 3, 1) := by decide +kernel
theorem dX12_product_7 : decode cX12_product 7 = .ok (.iload_n 2, 1) := by decide +kernel
theorem dX12_product_8 : decode cX12_product 8 = .ok (.istore 5, 2) := by decide +kernel
theorem dX12_product_10 : decode cX12_product 10 = .ok (.iload 5, 2) := by decide +kernel
theorem dX12_product_12 : decode cX12_product 12 = .ok (.iload_n 1, 1) := by decide +kernel
theorem dX12_product_13 : decode cX12_product 13 = .ok (.if_icmp .gt 112, 3) := by decide +kernel
theorem dX12_product_16 : decode cX12_product 16 = .ok (.iconst 0, 1) := by decide +kernel
theorem dX12_product_17 : decode cX12_product 17 = .ok (.iload_n 1, 1) := by decide +kernel
theorem dX12_product_18 : decode cX12_product 18 = .ok (.iload 5, 2) := by decide +kernel
theorem dX12_product_20 : decode cX12_product 20 = .ok (.invokestatic 112, 3) := by decide +kernel
theorem dX12_product_23 : decode cX12_product 23 = .ok (.istore 6, 2) := by decide +kernel
theorem dX12_product_25 : decode cX12_product 25 = .ok (.iconst 1, 1) := by decide +kernel
theorem dX12_product_26 : decode cX12_product 26 = .ok (.iload 5, 2) := by decide +kernel
theorem dX12_product_28 : decode cX12_product 28 = .ok (.iload_n 2, 1) := by decide +kernel
theorem dX12_product_29 : decode cX12_product 29 = .ok (.invokestatic 112, 3) := by decide +kernel
theorem dX12_product_32 : decode cX12_product 32 = .ok (.istore 7, 2) := by decide +kernel
theorem dX12_product_34 : decode cX12_product 34 = .ok (.aload_n 0, 1) := by decide +kernel
theorem dX12_product_35 : decode cX12_product 35 = .ok (.aload_n 0, 1) := by decide +kernel
theorem dX12_product_36 : decode cX12_product 36 = .ok (.getfield 146, 3) := by decide +kernel
theorem dX12_product_39 : decode cX12_product 39 = .ok (.ifCond .ne 43, 3) := by decide +kernel
theorem dX12_product_42 : decode cX12_product 42 = .ok (.aload_n 0, 1) := by decide +kernel
theorem dX12_product_43 : decode cX12_product 43 = .ok (.getfield 26, 3) := by decide +kernel
theorem dX12_product_46 : decode cX12_product 46 = .ok (.iload 6, 2) := by decide +kernel
theorem dX12_product_48 : decode cX12_product 48 = .ok (.baload, 1) := by decide +kernel
theorem dX12_product_49 : decode cX12_product 49 = .ok (.ifCond .ne 33, 3) := by decide +kernel
theorem dX12_product_52 : decode cX12_product 52 = .ok (.aload_n 0, 1) := by decide +kernel
theorem dX12_product_53 : decode cX12_product 53 = .ok (.getfield 26, 3) := by decide +kernel
theorem dX12_product_56 : decode cX12_product 56 = .ok (.iload 7, 2) := by decide +kernel
theorem dX12_product_58 : decode cX12_product 58 = .ok (.baload, 1) := by decide +kernel
theorem dX12_product_59 : decode cX12_product 59 = .ok (.ifCond .ne 23, 3) := by decide +kernel
theorem dX12_product_62 : decode cX12_product 62 = .ok (.aload_n 0, 1) := by decide +kernel
theorem dX12_product_63 : decode cX12_product 63 = .ok (.getfield 22, 3) := by decide +kernel
theorem dX12_product_66 : decode cX12_product 66 = .ok (.iload 6, 2) := by decide +kernel
theorem dX12_product_68 : decode cX12_product 68 = .ok (.laload, 1) := by decide +kernel
theorem dX12_product_69 : decode cX12_product 69 = .ok (.aload_n 0, 1) := by decide +kernel
theorem dX12_product_70 : decode cX12_product 70 = .ok (.getfield 22, 3) := by decide +kernel
theorem dX12_product_73 : decode cX12_product 73 = .ok (.iload 7, 2) := by decide +kernel
theorem dX12_product_75 : decode cX12_product 75 = .ok (.laload, 1) := by decide +kernel
theorem dX12_product_76 : decode cX12_product 76 = .ok (.invokestatic 120, 3) := by decide +kernel
theorem dX12_product_79 : decode cX12_product 79 = .ok (.ifCond .eq 7, 3) := by decide +kernel
theorem dX12_product_82 : decode cX12_product 82 = .ok (.iconst 1, 1) := by decide +kernel
theorem dX12_product_83 : decode cX12_product 83 = .ok (.goto 4, 3) := by decide +kernel
theorem dX12_product_86 : decode cX12_product 86 = .ok (.iconst 0, 1) := by decide +kernel
theorem dX12_product_87 : decode cX12_product 87 = .ok (.putfield 146, 3) := by decide +kernel
theorem dX12_product_90 : decode cX12_product 90 = .ok (.lload_n 3, 1) := by decide +kernel
theorem dX12_product_91 : decode cX12_product 91 = .ok (.aload_n 0, 1) := by decide +kernel
theorem dX12_product_92 : decode cX12_product 92 = .ok (.getfield 146, 3) := by decide +kernel
theorem dX12_product_95 : decode cX12_product 95 = .ok (.ifCond .eq 7, 3) := by decide +kernel
theorem dX12_product_98 : decode cX12_product 98 = .ok (.lconst 0, 1) := by decide +kernel
theorem dX12_product_99 : decode cX12_product 99 = .ok (.goto 18, 3) := by decide +kernel
theorem dX12_product_102 : decode cX12_product 102 = .ok (.aload_n 0, 1) := by decide +kernel
theorem dX12_product_103 : decode cX12_product 103 = .ok (.getfield 22, 3) := by decide +kernel
theorem dX12_product_106 : decode cX12_product 106 = .ok (.iload 6, 2) := by decide +kernel
theorem dX12_product_108 : decode cX12_product 108 = .ok (.laload, 1) := by decide +kernel
theorem dX12_product_109 : decode cX12_product 109 = .ok (.aload_n 0, 1) := by decide +kernel
theorem dX12_product_110 : decode cX12_product 110 = .ok (.getfield 22, 3) := by decide +kernel
theorem dX12_product_113 : decode cX12_product 113 = .ok (.iload 7, 2) := by decide +kernel
theorem dX12_product_115 : decode cX12_product 115 = .ok (.laload, 1) := by decide +kernel
theorem dX12_product_116 : decode cX12_product 116 = .ok (.lmul, 1) := by decide +kernel
theorem dX12_product_117 : decode cX12_product 117 = .ok (.ladd, 1) := by decide +kernel
theorem dX12_product_118 : decode cX12_product 118 = .ok (.lstore_n 3, 1) := by decide +kernel
theorem dX12_product_119 : decode cX12_product 119 = .ok (.iinc 5 1, 3) := by decide +kernel
theorem dX12_product_122 : decode cX12_product 122 = .ok (.goto (-112), 3) := by decide +kernel
theorem dX12_product_125 : decode cX12_product 125 = .ok (.lload_n 3, 1) := by decide +kernel
theorem dX12_product_126 : decode cX12_product 126 = .ok (.lreturn, 1) := by decide +kernel
theorem dX12_times_0 : decode cX12_times 0 = .ok (.iload_n 1, 1) := by decide +kernel
theorem dX12_times_1 : decode cX12_times 1 = .ok (.invokestatic 100, 3) := by decide +kernel
theorem dX12_times_4 : decode cX12_times 4 = .ok (.ifCond .eq 34, 3) := by decide +kernel
theorem dX12_times_7 : decode cX12_times 7 = .ok (.iload_n 2, 1) := by decide +kernel
theorem dX12_times_8 : decode cX12_times 8 = .ok (.invokestatic 100, 3) := by decide +kernel
theorem dX12_times_11 : decode cX12_times 11 = .ok (.ifCond .eq 27, 3) := by decide +kernel
theorem dX12_times_14 : decode cX12_times 14 = .ok (.iload_n 3, 1) := by decide +kernel
theorem dX12_times_15 : decode cX12_times 15 = .ok (.i2l, 1) := by decide +kernel
theorem dX12_times_16 : decode cX12_times 16 = .ok (.lconst 0, 1) := by decide +kernel
theorem dX12_times_17 : decode cX12_times 17 = .ok (.ldc2_w 128, 3) := by decide +kernel
theorem dX12_times_20 : decode cX12_times 20 = .ok (.invokestatic 62, 3) := by decide +kernel
theorem dX12_times_23 : decode cX12_times 23 = .ok (.ifCond .eq 15, 3) := by decide +kernel
theorem dX12_times_26 : decode cX12_times 26 = .ok (.iload 4, 2) := by decide +kernel
theorem dX12_times_28 : decode cX12_times 28 = .ok (.i2l, 1) := by decide +kernel
theorem dX12_times_29 : decode cX12_times 29 = .ok (.lconst 0, 1) := by decide +kernel
theorem dX12_times_30 : decode cX12_times 30 = .ok (.iload_n 3, 1) := by decide +kernel
theorem dX12_times_31 : decode cX12_times 31 = .ok (.i2l, 1) := by decide +kernel
theorem dX12_times_32 : decode cX12_times 32 = .ok (.invokestatic 62, 3) := by decide +kernel
theorem dX12_times_35 : decode cX12_times 35 = .ok (.ifCond .ne 7, 3) := by decide +kernel
theorem dX12_times_38 : decode cX12_times 38 = .ok (.ldc2_w 130, 3) := by decide +kernel
theorem dX12_times_41 : decode cX12_times 41 = .ok (.lreturn, 1) := by decide +kernel
theorem dX12_times_42 : decode cX12_times 42 = .ok (.aload_n 0, 1) := by decide +kernel
theorem dX12_times_43 : decode cX12_times 43 = .ok (.iconst 0, 1) := by decide +kernel
theorem dX12_times_44 : decode cX12_times 44 = .ok (.iload_n 1, 1) := by decide +kernel
theorem dX12_times_45 : decode cX12_times 45 = .ok (.iload_n 3, 1) := by decide +kernel
theorem dX12_times_46 : decode cX12_times 46 = .ok (.invokevirtual 132, 3) := by decide +kernel
theorem dX12_times_49 : decode cX12_times 49 = .ok (.aload_n 0, 1) := by decide +kernel
theorem dX12_times_50 : decode cX12_times 50 = .ok (.iconst 1, 1) := by decide +kernel
theorem dX12_times_51 : decode cX12_times 51 = .ok (.iload_n 2, 1) := by decide +kernel
theorem dX12_times_52 : decode cX12_times 52 = .ok (.iload_n 3, 1) := by decide +kernel
theorem dX12_times_53 : decode cX12_times 53 = .ok (.invokevirtual 132, 3) := by decide +kernel
theorem dX12_times_56 : decode cX12_times 56 = .ok (.aload_n 0, 1) := by decide +kernel
theorem dX12_times_57 : decode cX12_times 57 = .ok (.iload_n 3, 1) := by decide +kernel
theorem dX12_times_58 : decode cX12_times 58 = .ok (.iload 4, 2) := by decide +kernel
theorem dX12_times_60 : decode cX12_times 60 = .ok (.invokevirtual 150, 3) := by decide +kernel
theorem dX12_times_63 : decode cX12_times 63 = .ok (.lstore 5, 2) := by decide +kernel
theorem dX12_times_65 : decode cX12_times 65 = .ok (.aload_n 0, 1) := by decide +kernel
theorem dX12_times_66 : decode cX12_times 66 = .ok (.getfield 146, 3) := by decide +kernel
theorem dX12_times_69 : decode cX12_times 69 = .ok (.ifCond .eq 9, 3) := by decide +kernel
theorem dX12_times_72 : decode cX12_times 72 = .ok (.ldc2_w 136, 3) := by decide +kernel
theorem dX12_times_75 : decode cX12_times 75 = .ok (.goto 5, 3) := by decide +kernel
theorem dX12_times_78 : decode cX12_times 78 = .ok (.lload 5, 2) := by decide +kernel
theorem dX12_times_80 : decode cX12_times 80 = .ok (.lreturn, 1) := by decide +kernel
theorem dX12_undoes_0 : decode cX12_undoes 0 = .ok (.iload_n 1, 1) := by decide +kernel
theorem dX12_undoes_1 : decode cX12_undoes 1 = .ok (.invokestatic 100, 3) := by decide +kernel
theorem dX12_undoes_4 : decode cX12_undoes 4 = .ok (.ifCond .eq 22, 3) := by decide +kernel
theorem dX12_undoes_7 : decode cX12_undoes 7 = .ok (.iload_n 2, 1) := by decide +kernel
theorem dX12_undoes_8 : decode cX12_undoes 8 = .ok (.invokestatic 100, 3) := by decide +kernel
theorem dX12_undoes_11 : decode cX12_undoes 11 = .ok (.ifCond .eq 15, 3) := by decide +kernel
theorem dX12_undoes_14 : decode cX12_undoes 14 = .ok (.iload_n 3, 1) := by decide +kernel
theorem dX12_undoes_15 : decode cX12_undoes 15 = .ok (.i2l, 1) := by decide +kernel
theorem dX12_undoes_16 : decode cX12_undoes 16 = .ok (.lconst 0, 1) := by decide +kernel
theorem dX12_undoes_17 : decode cX12_undoes 17 = .ok (.ldc2_w 128, 3) := by decide +kernel
theorem dX12_undoes_20 : decode cX12_undoes 20 = .ok (.invokestatic 62, 3) := by decide +kernel
theorem dX12_undoes_23 : decode cX12_undoes 23 = .ok (.ifCond .ne 5, 3) := by decide +kernel
theorem dX12_undoes_26 : decode cX12_undoes 26 = .ok (.iconst (-1), 1) := by decide +kernel
theorem dX12_undoes_27 : decode cX12_undoes 27 = .ok (.ireturn, 1) := by decide +kernel
theorem dX12_undoes_28 : decode cX12_undoes 28 = .ok (.aload_n 0, 1) := by decide +kernel
theorem dX12_undoes_29 : decode cX12_undoes 29 = .ok (.iconst 0, 1) := by decide +kernel
theorem dX12_undoes_30 : decode cX12_undoes 30 = .ok (.iload_n 1, 1) := by decide +kernel
theorem dX12_undoes_31 : decode cX12_undoes 31 = .ok (.iload_n 3, 1) := by decide +kernel
theorem dX12_undoes_32 : decode cX12_undoes 32 = .ok (.invokevirtual 132, 3) := by decide +kernel
theorem dX12_undoes_35 : decode cX12_undoes 35 = .ok (.aload_n 0, 1) := by decide +kernel
theorem dX12_undoes_36 : decode cX12_undoes 36 = .ok (.iconst 1, 1) := by decide +kernel
theorem dX12_undoes_37 : decode cX12_undoes 37 = .ok (.iload_n 2, 1) := by decide +kernel
theorem dX12_undoes_38 : decode cX12_undoes 38 = .ok (.iload_n 3, 1) := by decide +kernel
theorem dX12_undoes_39 : decode cX12_undoes 39 = .ok (.invokevirtual 132, 3) := by decide +kernel
theorem dX12_undoes_42 : decode cX12_undoes 42 = .ok (.iconst 0, 1) := by decide +kernel
theorem dX12_undoes_43 : decode cX12_undoes 43 = .ok (.istore 4, 2) := by decide +kernel
theorem dX12_undoes_45 : decode cX12_undoes 45 = .ok (.iload 4, 2) := by decide +kernel
theorem dX12_undoes_47 : decode cX12_undoes 47 = .ok (.iload_n 3, 1) := by decide +kernel
theorem dX12_undoes_48 : decode cX12_undoes 48 = .ok (.if_icmp .gt 75, 3) := by decide +kernel
theorem dX12_undoes_51 : decode cX12_undoes 51 = .ok (.iconst 0, 1) := by decide +kernel
theorem dX12_undoes_52 : decode cX12_undoes 52 = .ok (.istore 5, 2) := by decide +kernel
theorem dX12_undoes_54 : decode cX12_undoes 54 = .ok (.iload 5, 2) := by decide +kernel
theorem dX12_undoes_56 : decode cX12_undoes 56 = .ok (.iload 4, 2) := by decide +kernel
theorem dX12_undoes_58 : decode cX12_undoes 58 = .ok (.if_icmp .gt 59, 3) := by decide +kernel
theorem dX12_undoes_61 : decode cX12_undoes 61 = .ok (.aload_n 0, 1) := by decide +kernel
theorem dX12_undoes_62 : decode cX12_undoes 62 = .ok (.iload 4, 2) := by decide +kernel
theorem dX12_undoes_64 : decode cX12_undoes 64 = .ok (.iload 5, 2) := by decide +kernel
theorem dX12_undoes_66 : decode cX12_undoes 66 = .ok (.invokevirtual 150, 3) := by decide +kernel
theorem dX12_undoes_69 : decode cX12_undoes 69 = .ok (.lstore 6, 2) := by decide +kernel
theorem dX12_undoes_71 : decode cX12_undoes 71 = .ok (.aload_n 0, 1) := by decide +kernel
theorem dX12_undoes_72 : decode cX12_undoes 72 = .ok (.getfield 146, 3) := by decide +kernel
theorem dX12_undoes_75 : decode cX12_undoes 75 = .ok (.ifCond .ne 21, 3) := by decide +kernel
theorem dX12_undoes_78 : decode cX12_undoes 78 = .ok (.lload 6, 2) := by decide +kernel
theorem dX12_undoes_80 : decode cX12_undoes 80 = .ok (.iload 5, 2) := by decide +kernel
theorem dX12_undoes_82 : decode cX12_undoes 82 = .ok (.iload 4, 2) := by decide +kernel
theorem dX12_undoes_84 : decode cX12_undoes 84 = .ok (.if_icmp .ne 7, 3) := by decide +kernel
theorem dX12_undoes_87 : decode cX12_undoes 87 = .ok (.lconst 1, 1) := by decide +kernel
theorem dX12_undoes_88 : decode cX12_undoes 88 = .ok (.goto 4, 3) := by decide +kernel
theorem dX12_undoes_91 : decode cX12_undoes 91 = .ok (.lconst 0, 1) := by decide +kernel
theorem dX12_undoes_92 : decode cX12_undoes 92 = .ok (.lcmp, 1) := by decide +kernel
theorem dX12_undoes_93 : decode cX12_undoes 93 = .ok (.ifCond .eq 18, 3) := by decide +kernel
theorem dX12_undoes_96 : decode cX12_undoes 96 = .ok (.aload_n 0, 1) := by decide +kernel
theorem dX12_undoes_97 : decode cX12_undoes 97 = .ok (.getfield 146, 3) := by decide +kernel
theorem dX12_undoes_100 : decode cX12_undoes 100 = .ok (.ifCond .eq 8, 3) := by decide +kernel
theorem dX12_undoes_103 : decode cX12_undoes 103 = .ok (.bipush (-2), 2) := by decide +kernel
theorem dX12_undoes_105 : decode cX12_undoes 105 = .ok (.goto 5, 3) := by decide +kernel
theorem dX12_undoes_108 : decode cX12_undoes 108 = .ok (.iload 4, 2) := by decide +kernel
theorem dX12_undoes_110 : decode cX12_undoes 110 = .ok (.ireturn, 1) := by decide +kernel
theorem dX12_undoes_111 : decode cX12_undoes 111 = .ok (.iinc 5 1, 3) := by decide +kernel
theorem dX12_undoes_114 : decode cX12_undoes 114 = .ok (.goto (-60), 3) := by decide +kernel
theorem dX12_undoes_117 : decode cX12_undoes 117 = .ok (.iinc 4 1, 3) := by decide +kernel
theorem dX12_undoes_120 : decode cX12_undoes 120 = .ok (.goto (-75), 3) := by decide +kernel
theorem dX12_undoes_123 : decode cX12_undoes 123 = .ok (.bipush (-4), 2) := by decide +kernel
theorem dX12_undoes_125 : decode cX12_undoes 125 = .ok (.ireturn, 1) := by decide +kernel
theorem dX12_back_0 : decode cX12_back 0 = .ok (.iload_n 1, 1) := by decide +kernel
theorem dX12_back_1 : decode cX12_back 1 = .ok (.invokestatic 100, 3) := by decide +kernel
theorem dX12_back_4 : decode cX12_back 4 = .ok (.ifCond .eq 26, 3) := by decide +kernel
theorem dX12_back_7 : decode cX12_back 7 = .ok (.iload_n 2, 1) := by decide +kernel
theorem dX12_back_8 : decode cX12_back 8 = .ok (.i2l, 1) := by decide +kernel
theorem dX12_back_9 : decode cX12_back 9 = .ok (.lconst 0, 1) := by decide +kernel
theorem dX12_back_10 : decode cX12_back 10 = .ok (.ldc2_w 128, 3) := by decide +kernel
theorem dX12_back_13 : decode cX12_back 13 = .ok (.invokestatic 62, 3) := by decide +kernel
theorem dX12_back_16 : decode cX12_back 16 = .ok (.ifCond .eq 14, 3) := by decide +kernel
theorem dX12_back_19 : decode cX12_back 19 = .ok (.iload_n 3, 1) := by decide +kernel
theorem dX12_back_20 : decode cX12_back 20 = .ok (.i2l, 1) := by decide +kernel
theorem dX12_back_21 : decode cX12_back 21 = .ok (.lconst 0, 1) := by decide +kernel
theorem dX12_back_22 : decode cX12_back 22 = .ok (.iload_n 2, 1) := by decide +kernel
theorem dX12_back_23 : decode cX12_back 23 = .ok (.i2l, 1) := by decide +kernel
theorem dX12_back_24 : decode cX12_back 24 = .ok (.invokestatic 62, 3) := by decide +kernel
theorem dX12_back_27 : decode cX12_back 27 = .ok (.ifCond .ne 7, 3) := by decide +kernel
theorem dX12_back_30 : decode cX12_back 30 = .ok (.ldc2_w 130, 3) := by decide +kernel
theorem dX12_back_33 : decode cX12_back 33 = .ok (.lreturn, 1) := by decide +kernel
theorem dX12_back_34 : decode cX12_back 34 = .ok (.aload_n 0, 1) := by decide +kernel
theorem dX12_back_35 : decode cX12_back 35 = .ok (.iconst 0, 1) := by decide +kernel
theorem dX12_back_36 : decode cX12_back 36 = .ok (.iload_n 1, 1) := by decide +kernel
theorem dX12_back_37 : decode cX12_back 37 = .ok (.iload_n 2, 1) := by decide +kernel
theorem dX12_back_38 : decode cX12_back 38 = .ok (.invokevirtual 132, 3) := by decide +kernel
theorem dX12_back_41 : decode cX12_back 41 = .ok (.iconst 0, 1) := by decide +kernel
theorem dX12_back_42 : decode cX12_back 42 = .ok (.istore 4, 2) := by decide +kernel
theorem dX12_back_44 : decode cX12_back 44 = .ok (.iload 4, 2) := by decide +kernel
theorem dX12_back_46 : decode cX12_back 46 = .ok (.iload_n 2, 1) := by decide +kernel
theorem dX12_back_47 : decode cX12_back 47 = .ok (.if_icmp .gt 50, 3) := by decide +kernel
theorem dX12_back_50 : decode cX12_back 50 = .ok (.aload_n 0, 1) := by decide +kernel
theorem dX12_back_51 : decode cX12_back 51 = .ok (.getfield 26, 3) := by decide +kernel
theorem dX12_back_54 : decode cX12_back 54 = .ok (.iconst 0, 1) := by decide +kernel
theorem dX12_back_55 : decode cX12_back 55 = .ok (.iload 4, 2) := by decide +kernel
theorem dX12_back_57 : decode cX12_back 57 = .ok (.iload 4, 2) := by decide +kernel
theorem dX12_back_59 : decode cX12_back 59 = .ok (.invokestatic 112, 3) := by decide +kernel
theorem dX12_back_62 : decode cX12_back 62 = .ok (.baload, 1) := by decide +kernel
theorem dX12_back_63 : decode cX12_back 63 = .ok (.ifCond .ne 24, 3) := by decide +kernel
theorem dX12_back_66 : decode cX12_back 66 = .ok (.aload_n 0, 1) := by decide +kernel
theorem dX12_back_67 : decode cX12_back 67 = .ok (.getfield 22, 3) := by decide +kernel
theorem dX12_back_70 : decode cX12_back 70 = .ok (.iconst 0, 1) := by decide +kernel
theorem dX12_back_71 : decode cX12_back 71 = .ok (.iload 4, 2) := by decide +kernel
theorem dX12_back_73 : decode cX12_back 73 = .ok (.iload 4, 2) := by decide +kernel
theorem dX12_back_75 : decode cX12_back 75 = .ok (.invokestatic 112, 3) := by decide +kernel
theorem dX12_back_78 : decode cX12_back 78 = .ok (.laload, 1) := by decide +kernel
theorem dX12_back_79 : decode cX12_back 79 = .ok (.invokestatic 108, 3) := by decide +kernel
theorem dX12_back_82 : decode cX12_back 82 = .ok (.lconst 1, 1) := by decide +kernel
theorem dX12_back_83 : decode cX12_back 83 = .ok (.lcmp, 1) := by decide +kernel
theorem dX12_back_84 : decode cX12_back 84 = .ok (.ifCond .eq 7, 3) := by decide +kernel
theorem dX12_back_87 : decode cX12_back 87 = .ok (.ldc2_w 136, 3) := by decide +kernel
theorem dX12_back_90 : decode cX12_back 90 = .ok (.lreturn, 1) := by decide +kernel
theorem dX12_back_91 : decode cX12_back 91 = .ok (.iinc 4 1, 3) := by decide +kernel
theorem dX12_back_94 : decode cX12_back 94 = .ok (.goto (-50), 3) := by decide +kernel
theorem dX12_back_97 : decode cX12_back 97 = .ok (.aload_n 0, 1) := by decide +kernel
theorem dX12_back_98 : decode cX12_back 98 = .ok (.getfield 33, 3) := by decide +kernel
theorem dX12_back_101 : decode cX12_back 101 = .ok (.iload_n 3, 1) := by decide +kernel
theorem dX12_back_102 : decode cX12_back 102 = .ok (.aload_n 0, 1) := by decide +kernel
theorem dX12_back_103 : decode cX12_back 103 = .ok (.getfield 22, 3) := by decide +kernel
theorem dX12_back_106 : decode cX12_back 106 = .ok (.iconst 0, 1) := by decide +kernel
theorem dX12_back_107 : decode cX12_back 107 = .ok (.iload_n 3, 1) := by decide +kernel
theorem dX12_back_108 : decode cX12_back 108 = .ok (.iload_n 3, 1) := by decide +kernel
theorem dX12_back_109 : decode cX12_back 109 = .ok (.invokestatic 112, 3) := by decide +kernel
theorem dX12_back_112 : decode cX12_back 112 = .ok (.laload, 1) := by decide +kernel
theorem dX12_back_113 : decode cX12_back 113 = .ok (.lastore, 1) := by decide +kernel
theorem dX12_back_114 : decode cX12_back 114 = .ok (.iload_n 3, 1) := by decide +kernel
theorem dX12_back_115 : decode cX12_back 115 = .ok (.iconst 1, 1) := by decide +kernel
theorem dX12_back_116 : decode cX12_back 116 = .ok (.iadd, 1) := by decide +kernel
theorem dX12_back_117 : decode cX12_back 117 = .ok (.istore 4, 2) := by decide +kernel
theorem dX12_back_119 : decode cX12_back 119 = .ok (.iload 4, 2) := by decide +kernel
theorem dX12_back_121 : decode cX12_back 121 = .ok (.iload_n 2, 1) := by decide +kernel
theorem dX12_back_122 : decode cX12_back 122 = .ok (.if_icmp .gt 133, 3) := by decide +kernel
theorem dX12_back_125 : decode cX12_back 125 = .ok (.lconst 0, 1) := by decide +kernel
theorem dX12_back_126 : decode cX12_back 126 = .ok (.lstore 5, 2) := by decide +kernel
theorem dX12_back_128 : decode cX12_back 128 = .ok (.iload_n 3, 1) := by decide +kernel
theorem dX12_back_129 : decode cX12_back 129 = .ok (.istore 7, 2) := by decide +kernel
theorem dX12_back_131 : decode cX12_back 131 = .ok (.iload 7, 2) := by decide +kernel
theorem dX12_back_133 : decode cX12_back 133 = .ok (.iload 4, 2) := by decide +kernel
theorem dX12_back_135 : decode cX12_back 135 = .ok (.if_icmp .ge 73, 3) := by decide +kernel
theorem dX12_back_138 : decode cX12_back 138 = .ok (.iconst 0, 1) := by decide +kernel
theorem dX12_back_139 : decode cX12_back 139 = .ok (.iload 4, 2) := by decide +kernel
theorem dX12_back_141 : decode cX12_back 141 = .ok (.iload 7, 2) := by decide +kernel
theorem dX12_back_143 : decode cX12_back 143 = .ok (.invokestatic 112, 3) := by decide +kernel
theorem dX12_back_146 : decode cX12_back 146 = .ok (.istore 8, 2) := by decide +kernel
theorem dX12_back_148 : decode cX12_back 148 = .ok (.aload_n 0, 1) := by decide +kernel
theorem dX12_back_149 : decode cX12_back 149 = .ok (.getfield 26, 3) := by decide +kernel
theorem dX12_back_152 : decode cX12_back 152 = .ok (.iload 8, 2) := by decide +kernel
theorem dX12_back_154 : decode cX12_back 154 = .ok (.baload, 1) := by decide +kernel
theorem dX12_back_155 : decode cX12_back 155 = .ok (.ifCond .ne 23, 3) := by decide +kernel
theorem dX12_back_158 : decode cX12_back 158 = .ok (.aload_n 0, 1) := by decide +kernel
theorem dX12_back_159 : decode cX12_back 159 = .ok (.getfield 22, 3) := by decide +kernel
theorem dX12_back_162 : decode cX12_back 162 = .ok (.iload 8, 2) := by decide +kernel
theorem dX12_back_164 : decode cX12_back 164 = .ok (.laload, 1) := by decide +kernel
theorem dX12_back_165 : decode cX12_back 165 = .ok (.aload_n 0, 1) := by decide +kernel
theorem dX12_back_166 : decode cX12_back 166 = .ok (.getfield 33, 3) := by decide +kernel
theorem dX12_back_169 : decode cX12_back 169 = .ok (.iload 7, 2) := by decide +kernel
theorem dX12_back_171 : decode cX12_back 171 = .ok (.laload, 1) := by decide +kernel
theorem dX12_back_172 : decode cX12_back 172 = .ok (.invokestatic 120, 3) := by decide +kernel
theorem dX12_back_175 : decode cX12_back 175 = .ok (.ifCond .eq 7, 3) := by decide +kernel
theorem dX12_back_178 : decode cX12_back 178 = .ok (.ldc2_w 136, 3) := by decide +kernel
theorem dX12_back_181 : decode cX12_back 181 = .ok (.lreturn, 1) := by decide +kernel
theorem dX12_back_182 : decode cX12_back 182 = .ok (.lload 5, 2) := by decide +kernel
theorem dX12_back_184 : decode cX12_back 184 = .ok (.aload_n 0, 1) := by decide +kernel
theorem dX12_back_185 : decode cX12_back 185 = .ok (.getfield 22, 3) := by decide +kernel
theorem dX12_back_188 : decode cX12_back 188 = .ok (.iload 8, 2) := by decide +kernel
theorem dX12_back_190 : decode cX12_back 190 = .ok (.laload, 1) := by decide +kernel
theorem dX12_back_191 : decode cX12_back 191 = .ok (.aload_n 0, 1) := by decide +kernel
theorem dX12_back_192 : decode cX12_back 192 = .ok (.getfield 33, 3) := by decide +kernel
theorem dX12_back_195 : decode cX12_back 195 = .ok (.iload 7, 2) := by decide +kernel
theorem dX12_back_197 : decode cX12_back 197 = .ok (.laload, 1) := by decide +kernel
theorem dX12_back_198 : decode cX12_back 198 = .ok (.lmul, 1) := by decide +kernel
theorem dX12_back_199 : decode cX12_back 199 = .ok (.ladd, 1) := by decide +kernel
theorem dX12_back_200 : decode cX12_back 200 = .ok (.lstore 5, 2) := by decide +kernel
theorem dX12_back_202 : decode cX12_back 202 = .ok (.iinc 7 1, 3) := by decide +kernel
theorem dX12_back_205 : decode cX12_back 205 = .ok (.goto (-74), 3) := by decide +kernel
theorem dX12_back_208 : decode cX12_back 208 = .ok (.aload_n 0, 1) := by decide +kernel
theorem dX12_back_209 : decode cX12_back 209 = .ok (.getfield 33, 3) := by decide +kernel
theorem dX12_back_212 : decode cX12_back 212 = .ok (.iload 4, 2) := by decide +kernel
theorem dX12_back_214 : decode cX12_back 214 = .ok (.aload_n 0, 1) := by decide +kernel
theorem dX12_back_215 : decode cX12_back 215 = .ok (.getfield 22, 3) := by decide +kernel
theorem dX12_back_218 : decode cX12_back 218 = .ok (.iconst 0, 1) := by decide +kernel
theorem dX12_back_219 : decode cX12_back 219 = .ok (.iload 4, 2) := by decide +kernel
theorem dX12_back_221 : decode cX12_back 221 = .ok (.iload 4, 2) := by decide +kernel
theorem dX12_back_223 : decode cX12_back 223 = .ok (.invokestatic 112, 3) := by decide +kernel
theorem dX12_back_226 : decode cX12_back 226 = .ok (.laload, 1) := by decide +kernel
theorem dX12_back_227 : decode cX12_back 227 = .ok (.lneg, 1) := by decide +kernel
theorem dX12_back_228 : decode cX12_back 228 = .ok (.lload 5, 2) := by decide +kernel
theorem dX12_back_230 : decode cX12_back 230 = .ok (.lmul, 1) := by decide +kernel
theorem dX12_back_231 : decode cX12_back 231 = .ok (.lastore, 1) := by decide +kernel
theorem dX12_back_232 : decode cX12_back 232 = .ok (.aload_n 0, 1) := by decide +kernel
theorem dX12_back_233 : decode cX12_back 233 = .ok (.getfield 33, 3) := by decide +kernel
theorem dX12_back_236 : decode cX12_back 236 = .ok (.iload 4, 2) := by decide +kernel
theorem dX12_back_238 : decode cX12_back 238 = .ok (.laload, 1) := by decide +kernel
theorem dX12_back_239 : decode cX12_back 239 = .ok (.invokestatic 124, 3) := by decide +kernel
theorem dX12_back_242 : decode cX12_back 242 = .ok (.ifCond .eq 7, 3) := by decide +kernel
theorem dX12_back_245 : decode cX12_back 245 = .ok (.ldc2_w 136, 3) := by decide +kernel
theorem dX12_back_248 : decode cX12_back 248 = .ok (.lreturn, 1) := by decide +kernel
theorem dX12_back_249 : decode cX12_back 249 = .ok (.iinc 4 1, 3) := by decide +kernel
theorem dX12_back_252 : decode cX12_back 252 = .ok (.goto (-133), 3) := by decide +kernel
theorem dX12_back_255 : decode cX12_back 255 = .ok (.aload_n 0, 1) := by decide +kernel
theorem dX12_back_256 : decode cX12_back 256 = .ok (.getfield 33, 3) := by decide +kernel
theorem dX12_back_259 : decode cX12_back 259 = .ok (.iload_n 2, 1) := by decide +kernel
theorem dX12_back_260 : decode cX12_back 260 = .ok (.laload, 1) := by decide +kernel
theorem dX12_back_261 : decode cX12_back 261 = .ok (.lreturn, 1) := by decide +kernel
theorem dX12_isSize_0 : decode cX12_isSize 0 = .ok (.iload_n 0, 1) := by decide +kernel
theorem dX12_isSize_1 : decode cX12_isSize 1 = .ok (.i2l, 1) := by decide +kernel
theorem dX12_isSize_2 : decode cX12_isSize 2 = .ok (.lconst 1, 1) := by decide +kernel
theorem dX12_isSize_3 : decode cX12_isSize 3 = .ok (.ldc2_w 60, 3) := by decide +kernel
theorem dX12_isSize_6 : decode cX12_isSize 6 = .ok (.invokestatic 62, 3) := by decide +kernel
theorem dX12_isSize_9 : decode cX12_isSize 9 = .ok (.ireturn, 1) := by decide +kernel
theorem dX12_packed_0 : decode cX12_packed 0 = .ok (.iconst 0, 1) := by decide +kernel
theorem dX12_packed_1 : decode cX12_packed 1 = .ok (.istore_n 2, 1) := by decide +kernel
theorem dX12_packed_2 : decode cX12_packed 2 = .ok (.iconst 0, 1) := by decide +kernel
theorem dX12_packed_3 : decode cX12_packed 3 = .ok (.istore_n 3, 1) := by decide +kernel
theorem dX12_packed_4 : decode cX12_packed 4 = .ok (.iload_n 3, 1) := by decide +kernel
theorem dX12_packed_5 : decode cX12_packed 5 = .ok (.iload_n 1, 1) := by decide +kernel
theorem dX12_packed_6 : decode cX12_packed 6 = .ok (.if_icmp .ge 20, 3) := by decide +kernel
theorem dX12_packed_9 : decode cX12_packed 9 = .ok (.iload_n 2, 1) := by decide +kernel
theorem dX12_packed_10 : decode cX12_packed 10 = .ok (.iconst 4, 1) := by decide +kernel
theorem dX12_packed_11 : decode cX12_packed 11 = .ok (.ishl, 1) := by decide +kernel
theorem dX12_packed_12 : decode cX12_packed 12 = .ok (.aload_n 0, 1) := by decide +kernel
theorem dX12_packed_13 : decode cX12_packed 13 = .ok (.getfield 36, 3) := by decide +kernel
theorem dX12_packed_16 : decode cX12_packed 16 = .ok (.iload_n 3, 1) := by decide +kernel
theorem dX12_packed_17 : decode cX12_packed 17 = .ok (.iaload, 1) := by decide +kernel
theorem dX12_packed_18 : decode cX12_packed 18 = .ok (.ior, 1) := by decide +kernel
theorem dX12_packed_19 : decode cX12_packed 19 = .ok (.istore_n 2, 1) := by decide +kernel
theorem dX12_packed_20 : decode cX12_packed 20 = .ok (.iinc 3 1, 3) := by decide +kernel
theorem dX12_packed_23 : decode cX12_packed 23 = .ok (.goto (-19), 3) := by decide +kernel
theorem dX12_packed_26 : decode cX12_packed 26 = .ok (.iload_n 2, 1) := by decide +kernel
theorem dX12_packed_27 : decode cX12_packed 27 = .ok (.ireturn, 1) := by decide +kernel
theorem dX12_unpack_0 : decode cX12_unpack 0 = .ok (.iconst 0, 1) := by decide +kernel
theorem dX12_unpack_1 : decode cX12_unpack 1 = .ok (.istore_n 3, 1) := by decide +kernel
theorem dX12_unpack_2 : decode cX12_unpack 2 = .ok (.iload_n 3, 1) := by decide +kernel
theorem dX12_unpack_3 : decode cX12_unpack 3 = .ok (.iload_n 1, 1) := by decide +kernel
theorem dX12_unpack_4 : decode cX12_unpack 4 = .ok (.if_icmp .ge 27, 3) := by decide +kernel
theorem dX12_unpack_7 : decode cX12_unpack 7 = .ok (.aload_n 0, 1) := by decide +kernel
theorem dX12_unpack_8 : decode cX12_unpack 8 = .ok (.getfield 36, 3) := by decide +kernel
theorem dX12_unpack_11 : decode cX12_unpack 11 = .ok (.iload_n 3, 1) := by decide +kernel
theorem dX12_unpack_12 : decode cX12_unpack 12 = .ok (.iload_n 2, 1) := by decide +kernel
theorem dX12_unpack_13 : decode cX12_unpack 13 = .ok (.iconst 4, 1) := by decide +kernel
theorem dX12_unpack_14 : decode cX12_unpack 14 = .ok (.iload_n 1, 1) := by decide +kernel
theorem dX12_unpack_15 : decode cX12_unpack 15 = .ok (.iconst 1, 1) := by decide +kernel
theorem dX12_unpack_16 : decode cX12_unpack 16 = .ok (.isub, 1) := by decide +kernel
theorem dX12_unpack_17 : decode cX12_unpack 17 = .ok (.iload_n 3, 1) := by decide +kernel
theorem dX12_unpack_18 : decode cX12_unpack 18 = .ok (.isub, 1) := by decide +kernel
theorem dX12_unpack_19 : decode cX12_unpack 19 = .ok (.imul, 1) := by decide +kernel
theorem dX12_unpack_20 : decode cX12_unpack 20 = .ok (.ishr, 1) := by decide +kernel
theorem dX12_unpack_21 : decode cX12_unpack 21 = .ok (.bipush 15, 2) := by decide +kernel
theorem dX12_unpack_23 : decode cX12_unpack 23 = .ok (.iand, 1) := by decide +kernel
theorem dX12_unpack_24 : decode cX12_unpack 24 = .ok (.iastore, 1) := by decide +kernel
theorem dX12_unpack_25 : decode cX12_unpack 25 = .ok (.iinc 3 1, 3) := by decide +kernel
theorem dX12_unpack_28 : decode cX12_unpack 28 = .ok (.goto (-26), 3) := by decide +kernel
theorem dX12_unpack_31 : decode cX12_unpack 31 = .ok (.aload_n 0, 1) := by decide +kernel
theorem dX12_unpack_32 : decode cX12_unpack 32 = .ok (.iload_n 1, 1) := by decide +kernel
theorem dX12_unpack_33 : decode cX12_unpack 33 = .ok (.invokevirtual 154, 3) := by decide +kernel
theorem dX12_unpack_36 : decode cX12_unpack 36 = .ok (.iload_n 2, 1) := by decide +kernel
theorem dX12_unpack_37 : decode cX12_unpack 37 = .ok (.if_icmp .ne 7, 3) := by decide +kernel
theorem dX12_unpack_40 : decode cX12_unpack 40 = .ok (.iconst 1, 1) := by decide +kernel
theorem dX12_unpack_41 : decode cX12_unpack 41 = .ok (.goto 4, 3) := by decide +kernel
theorem dX12_unpack_44 : decode cX12_unpack 44 = .ok (.iconst 0, 1) := by decide +kernel
theorem dX12_unpack_45 : decode cX12_unpack 45 = .ok (.ireturn, 1) := by decide +kernel
theorem dX12_partsOf_0 : decode cX12_partsOf 0 = .ok (.iconst 0, 1) := by decide +kernel
theorem dX12_partsOf_1 : decode cX12_partsOf 1 = .ok (.istore_n 2, 1) := by decide +kernel
theorem dX12_partsOf_2 : decode cX12_partsOf 2 = .ok (.aload_n 0, 1) := by decide +kernel
theorem dX12_partsOf_3 : decode cX12_partsOf 3 = .ok (.getfield 36, 3) := by decide +kernel
theorem dX12_partsOf_6 : decode cX12_partsOf 6 = .ok (.iconst 0, 1) := by decide +kernel
theorem dX12_partsOf_7 : decode cX12_partsOf 7 = .ok (.iaload, 1) := by decide +kernel
theorem dX12_partsOf_8 : decode cX12_partsOf 8 = .ok (.ifCond .ne 7, 3) := by decide +kernel
theorem dX12_partsOf_11 : decode cX12_partsOf 11 = .ok (.iconst 1, 1) := by decide +kernel
theorem dX12_partsOf_12 : decode cX12_partsOf 12 = .ok (.goto 4, 3) := by decide +kernel
theorem dX12_partsOf_15 : decode cX12_partsOf 15 = .ok (.iconst 0, 1) := by decide +kernel
theorem dX12_partsOf_16 : decode cX12_partsOf 16 = .ok (.istore_n 3, 1) := by decide +kernel
theorem dX12_partsOf_17 : decode cX12_partsOf 17 = .ok (.iconst 1, 1) := by decide +kernel
theorem dX12_partsOf_18 : decode cX12_partsOf 18 = .ok (.istore 4, 2) := by decide +kernel
theorem dX12_partsOf_20 : decode cX12_partsOf 20 = .ok (.iload 4, 2) := by decide +kernel
theorem dX12_partsOf_22 : decode cX12_partsOf 22 = .ok (.iload_n 1, 1) := by decide +kernel
theorem dX12_partsOf_23 : decode cX12_partsOf 23 = .ok (.if_icmp .ge 55, 3) := by decide +kernel
theorem dX12_partsOf_26 : decode cX12_partsOf 26 = .ok (.iload_n 3, 1) := by decide +kernel
theorem dX12_partsOf_27 : decode cX12_partsOf 27 = .ok (.ifCond .eq 20, 3) := by decide +kernel
theorem dX12_partsOf_30 : decode cX12_partsOf 30 = .ok (.aload_n 0, 1) := by decide +kernel
theorem dX12_partsOf_31 : decode cX12_partsOf 31 = .ok (.getfield 36, 3) := by decide +kernel
theorem dX12_partsOf_34 : decode cX12_partsOf 34 = .ok (.iload 4, 2) := by decide +kernel
theorem dX12_partsOf_36 : decode cX12_partsOf 36 = .ok (.iaload, 1) := by decide +kernel
theorem dX12_partsOf_37 : decode cX12_partsOf 37 = .ok (.iload_n 2, 1) := by decide +kernel
theorem dX12_partsOf_38 : decode cX12_partsOf 38 = .ok (.iconst 1, 1) := by decide +kernel
theorem dX12_partsOf_39 : decode cX12_partsOf 39 = .ok (.iadd, 1) := by decide +kernel
theorem dX12_partsOf_40 : decode cX12_partsOf 40 = .ok (.if_icmp .gt 7, 3) := by decide +kernel
theorem dX12_partsOf_43 : decode cX12_partsOf 43 = .ok (.iconst 1, 1) := by decide +kernel
theorem dX12_partsOf_44 : decode cX12_partsOf 44 = .ok (.goto 4, 3) := by decide +kernel
theorem dX12_partsOf_47 : decode cX12_partsOf 47 = .ok (.iconst 0, 1) := by decide +kernel
theorem dX12_partsOf_48 : decode cX12_partsOf 48 = .ok (.istore_n 3, 1) := by decide +kernel
theorem dX12_partsOf_49 : decode cX12_partsOf 49 = .ok (.aload_n 0, 1) := by decide +kernel
theorem dX12_partsOf_50 : decode cX12_partsOf 50 = .ok (.getfield 36, 3) := by decide +kernel
theorem dX12_partsOf_53 : decode cX12_partsOf 53 = .ok (.iload 4, 2) := by decide +kernel
theorem dX12_partsOf_55 : decode cX12_partsOf 55 = .ok (.iaload, 1) := by decide +kernel
theorem dX12_partsOf_56 : decode cX12_partsOf 56 = .ok (.iload_n 2, 1) := by decide +kernel
theorem dX12_partsOf_57 : decode cX12_partsOf 57 = .ok (.if_icmp .le 13, 3) := by decide +kernel
theorem dX12_partsOf_60 : decode cX12_partsOf 60 = .ok (.aload_n 0, 1) := by decide +kernel
theorem dX12_partsOf_61 : decode cX12_partsOf 61 = .ok (.getfield 36, 3) := by decide +kernel
theorem dX12_partsOf_64 : decode cX12_partsOf 64 = .ok (.iload 4, 2) := by decide +kernel
theorem dX12_partsOf_66 : decode cX12_partsOf 66 = .ok (.iaload, 1) := by decide +kernel
theorem dX12_partsOf_67 : decode cX12_partsOf 67 = .ok (.goto 4, 3) := by decide +kernel
theorem dX12_partsOf_70 : decode cX12_partsOf 70 = .ok (.iload_n 2, 1) := by decide +kernel
theorem dX12_partsOf_71 : decode cX12_partsOf 71 = .ok (.istore_n 2, 1) := by decide +kernel
theorem dX12_partsOf_72 : decode cX12_partsOf 72 = .ok (.iinc 4 1, 3) := by decide +kernel
theorem dX12_partsOf_75 : decode cX12_partsOf 75 = .ok (.goto (-55), 3) := by decide +kernel
theorem dX12_partsOf_78 : decode cX12_partsOf 78 = .ok (.iload_n 3, 1) := by decide +kernel
theorem dX12_partsOf_79 : decode cX12_partsOf 79 = .ok (.ifCond .eq 9, 3) := by decide +kernel
theorem dX12_partsOf_82 : decode cX12_partsOf 82 = .ok (.iload_n 2, 1) := by decide +kernel
theorem dX12_partsOf_83 : decode cX12_partsOf 83 = .ok (.iconst 1, 1) := by decide +kernel
theorem dX12_partsOf_84 : decode cX12_partsOf 84 = .ok (.iadd, 1) := by decide +kernel
theorem dX12_partsOf_85 : decode cX12_partsOf 85 = .ok (.goto 4, 3) := by decide +kernel
theorem dX12_partsOf_88 : decode cX12_partsOf 88 = .ok (.iconst 0, 1) := by decide +kernel
theorem dX12_partsOf_89 : decode cX12_partsOf 89 = .ok (.ireturn, 1) := by decide +kernel
theorem dX12_turnParting_0 : decode cX12_turnParting 0 = .ok (.iload_n 1, 1) := by decide +kernel
theorem dX12_turnParting_1 : decode cX12_turnParting 1 = .ok (.iconst 1, 1) := by decide +kernel
theorem dX12_turnParting_2 : decode cX12_turnParting 2 = .ok (.isub, 1) := by decide +kernel
theorem dX12_turnParting_3 : decode cX12_turnParting 3 = .ok (.istore_n 2, 1) := by decide +kernel
theorem dX12_turnParting_4 : decode cX12_turnParting 4 = .ok (.iload_n 2, 1) := by decide +kernel
theorem dX12_turnParting_5 : decode cX12_turnParting 5 = .ok (.ifCond .le 96, 3) := by decide +kernel
theorem dX12_turnParting_8 : decode cX12_turnParting 8 = .ok (.iconst 0, 1) := by decide +kernel
theorem dX12_turnParting_9 : decode cX12_turnParting 9 = .ok (.istore_n 3, 1) := by decide +kernel
theorem dX12_turnParting_10 : decode cX12_turnParting 10 = .ok (.iconst 0, 1) := by decide +kernel
theorem dX12_turnParting_11 : decode cX12_turnParting 11 = .ok (.istore 4, 2) := by decide +kernel
theorem dX12_turnParting_13 : decode cX12_turnParting 13 = .ok (.iload 4, 2) := by decide +kernel
theorem dX12_turnParting_15 : decode cX12_turnParting 15 = .ok (.iload_n 2, 1) := by decide +kernel
theorem dX12_turnParting_16 : decode cX12_turnParting 16 = .ok (.if_icmp .ge 32, 3) := by decide +kernel
theorem dX12_turnParting_19 : decode cX12_turnParting 19 = .ok (.aload_n 0, 1) := by decide +kernel
theorem dX12_turnParting_20 : decode cX12_turnParting 20 = .ok (.getfield 36, 3) := by decide +kernel
theorem dX12_turnParting_23 : decode cX12_turnParting 23 = .ok (.iload 4, 2) := by decide +kernel
theorem dX12_turnParting_25 : decode cX12_turnParting 25 = .ok (.iaload, 1) := by decide +kernel
theorem dX12_turnParting_26 : decode cX12_turnParting 26 = .ok (.iload_n 3, 1) := by decide +kernel
theorem dX12_turnParting_27 : decode cX12_turnParting 27 = .ok (.if_icmp .le 13, 3) := by decide +kernel
theorem dX12_turnParting_30 : decode cX12_turnParting 30 = .ok (.aload_n 0, 1) := by decide +kernel
theorem dX12_turnParting_31 : decode cX12_turnParting 31 = .ok (.getfield 36, 3) := by decide +kernel
theorem dX12_turnParting_34 : decode cX12_turnParting 34 = .ok (.iload 4, 2) := by decide +kernel
theorem dX12_turnParting_36 : decode cX12_turnParting 36 = .ok (.iaload, 1) := by decide +kernel
theorem dX12_turnParting_37 : decode cX12_turnParting 37 = .ok (.goto 4, 3) := by decide +kernel
theorem dX12_turnParting_40 : decode cX12_turnParting 40 = .ok (.iload_n 3, 1) := by decide +kernel
theorem dX12_turnParting_41 : decode cX12_turnParting 41 = .ok (.istore_n 3, 1) := by decide +kernel
theorem dX12_turnParting_42 : decode cX12_turnParting 42 = .ok (.iinc 4 1, 3) := by decide +kernel
theorem dX12_turnParting_45 : decode cX12_turnParting 45 = .ok (.goto (-32), 3) := by decide +kernel
theorem dX12_turnParting_48 : decode cX12_turnParting 48 = .ok (.aload_n 0, 1) := by decide +kernel
theorem dX12_turnParting_49 : decode cX12_turnParting 49 = .ok (.getfield 36, 3) := by decide +kernel
theorem dX12_turnParting_52 : decode cX12_turnParting 52 = .ok (.iload_n 2, 1) := by decide +kernel
theorem dX12_turnParting_53 : decode cX12_turnParting 53 = .ok (.iaload, 1) := by decide +kernel
theorem dX12_turnParting_54 : decode cX12_turnParting 54 = .ok (.iload_n 3, 1) := by decide +kernel
theorem dX12_turnParting_55 : decode cX12_turnParting 55 = .ok (.if_icmp .gt 40, 3) := by decide +kernel
theorem dX12_turnParting_58 : decode cX12_turnParting 58 = .ok (.aload_n 0, 1) := by decide +kernel
theorem dX12_turnParting_59 : decode cX12_turnParting 59 = .ok (.getfield 36, 3) := by decide +kernel
theorem dX12_turnParting_62 : decode cX12_turnParting 62 = .ok (.iload_n 2, 1) := by decide +kernel
theorem dX12_turnParting_63 : decode cX12_turnParting 63 = .ok (.dup2, 1) := by decide +kernel
theorem dX12_turnParting_64 : decode cX12_turnParting 64 = .ok (.iaload, 1) := by decide +kernel
theorem dX12_turnParting_65 : decode cX12_turnParting 65 = .ok (.iconst 1, 1) := by decide +kernel
theorem dX12_turnParting_66 : decode cX12_turnParting 66 = .ok (.iadd, 1) := by decide +kernel
theorem dX12_turnParting_67 : decode cX12_turnParting 67 = .ok (.iastore, 1) := by decide +kernel
theorem dX12_turnParting_68 : decode cX12_turnParting 68 = .ok (.iload_n 2, 1) := by decide +kernel
theorem dX12_turnParting_69 : decode cX12_turnParting 69 = .ok (.iconst 1, 1) := by decide +kernel
theorem dX12_turnParting_70 : decode cX12_turnParting 70 = .ok (.iadd, 1) := by decide +kernel
theorem dX12_turnParting_71 : decode cX12_turnParting 71 = .ok (.istore 4, 2) := by decide +kernel
theorem dX12_turnParting_73 : decode cX12_turnParting 73 = .ok (.iload 4, 2) := by decide +kernel
theorem dX12_turnParting_75 : decode cX12_turnParting 75 = .ok (.iload_n 1, 1) := by decide +kernel
theorem dX12_turnParting_76 : decode cX12_turnParting 76 = .ok (.if_icmp .ge 17, 3) := by decide +kernel
theorem dX12_turnParting_79 : decode cX12_turnParting 79 = .ok (.aload_n 0, 1) := by decide +kernel
theorem dX12_turnParting_80 : decode cX12_turnParting 80 = .ok (.getfield 36, 3) := by decide +kernel
theorem dX12_turnParting_83 : decode cX12_turnParting 83 = .ok (.iload 4, 2) := by decide +kernel
theorem dX12_turnParting_85 : decode cX12_turnParting 85 = .ok (.iconst 0, 1) := by decide +kernel
theorem dX12_turnParting_86 : decode cX12_turnParting 86 = .ok (.iastore, 1) := by decide +kernel
theorem dX12_turnParting_87 : decode cX12_turnParting 87 = .ok (.iinc 4 1, 3) := by decide +kernel
theorem dX12_turnParting_90 : decode cX12_turnParting 90 = .ok (.goto (-17), 3) := by decide +kernel
theorem dX12_turnParting_93 : decode cX12_turnParting 93 = .ok (.iconst 1, 1) := by decide +kernel
theorem dX12_turnParting_94 : decode cX12_turnParting 94 = .ok (.ireturn, 1) := by decide +kernel
theorem dX12_turnParting_95 : decode cX12_turnParting 95 = .ok (.iinc 2 (-1), 3) := by decide +kernel
theorem dX12_turnParting_98 : decode cX12_turnParting 98 = .ok (.goto (-94), 3) := by decide +kernel
theorem dX12_turnParting_101 : decode cX12_turnParting 101 = .ok (.iconst 0, 1) := by decide +kernel
theorem dX12_turnParting_102 : decode cX12_turnParting 102 = .ok (.ireturn, 1) := by decide +kernel
theorem dX12_parting_0 : decode cX12_parting 0 = .ok (.iload_n 1, 1) := by decide +kernel
theorem dX12_parting_1 : decode cX12_parting 1 = .ok (.invokestatic 158, 3) := by decide +kernel
theorem dX12_parting_4 : decode cX12_parting 4 = .ok (.ifCond .eq 15, 3) := by decide +kernel
theorem dX12_parting_7 : decode cX12_parting 7 = .ok (.iload_n 2, 1) := by decide +kernel
theorem dX12_parting_8 : decode cX12_parting 8 = .ok (.invokestatic 158, 3) := by decide +kernel
theorem dX12_parting_11 : decode cX12_parting 11 = .ok (.ifCond .eq 8, 3) := by decide +kernel
theorem dX12_parting_14 : decode cX12_parting 14 = .ok (.iload_n 3, 1) := by decide +kernel
theorem dX12_parting_15 : decode cX12_parting 15 = .ok (.iconst (-1), 1) := by decide +kernel
theorem dX12_parting_16 : decode cX12_parting 16 = .ok (.if_icmp .ge 5, 3) := by decide +kernel
theorem dX12_parting_19 : decode cX12_parting 19 = .ok (.iconst (-1), 1) := by decide +kernel
theorem dX12_parting_20 : decode cX12_parting 20 = .ok (.ireturn, 1) := by decide +kernel
theorem dX12_parting_21 : decode cX12_parting 21 = .ok (.iconst 0, 1) := by decide +kernel
theorem dX12_parting_22 : decode cX12_parting 22 = .ok (.istore 4, 2) := by decide +kernel
theorem dX12_parting_24 : decode cX12_parting 24 = .ok (.iload 4, 2) := by decide +kernel
theorem dX12_parting_26 : decode cX12_parting 26 = .ok (.iload_n 1, 1) := by decide +kernel
theorem dX12_parting_27 : decode cX12_parting 27 = .ok (.if_icmp .ge 17, 3) := by decide +kernel
theorem dX12_parting_30 : decode cX12_parting 30 = .ok (.aload_n 0, 1) := by decide +kernel
theorem dX12_parting_31 : decode cX12_parting 31 = .ok (.getfield 36, 3) := by decide +kernel
theorem dX12_parting_34 : decode cX12_parting 34 = .ok (.iload 4, 2) := by decide +kernel
theorem dX12_parting_36 : decode cX12_parting 36 = .ok (.iconst 0, 1) := by decide +kernel
theorem dX12_parting_37 : decode cX12_parting 37 = .ok (.iastore, 1) := by decide +kernel
theorem dX12_parting_38 : decode cX12_parting 38 = .ok (.iinc 4 1, 3) := by decide +kernel
theorem dX12_parting_41 : decode cX12_parting 41 = .ok (.goto (-17), 3) := by decide +kernel
theorem dX12_parting_44 : decode cX12_parting 44 = .ok (.iconst 0, 1) := by decide +kernel
theorem dX12_parting_45 : decode cX12_parting 45 = .ok (.istore 4, 2) := by decide +kernel
theorem dX12_parting_47 : decode cX12_parting 47 = .ok (.iconst 1, 1) := by decide +kernel
theorem dX12_parting_48 : decode cX12_parting 48 = .ok (.istore 5, 2) := by decide +kernel
theorem dX12_parting_50 : decode cX12_parting 50 = .ok (.iload 5, 2) := by decide +kernel
theorem dX12_parting_52 : decode cX12_parting 52 = .ok (.ifCond .eq 37, 3) := by decide +kernel
theorem dX12_parting_55 : decode cX12_parting 55 = .ok (.aload_n 0, 1) := by decide +kernel
theorem dX12_parting_56 : decode cX12_parting 56 = .ok (.iload_n 1, 1) := by decide +kernel
theorem dX12_parting_57 : decode cX12_parting 57 = .ok (.invokevirtual 161, 3) := by decide +kernel
theorem dX12_parting_60 : decode cX12_parting 60 = .ok (.iload_n 2, 1) := by decide +kernel
theorem dX12_parting_61 : decode cX12_parting 61 = .ok (.if_icmp .ne 18, 3) := by decide +kernel
theorem dX12_parting_64 : decode cX12_parting 64 = .ok (.iload 4, 2) := by decide +kernel
theorem dX12_parting_66 : decode cX12_parting 66 = .ok (.iload_n 3, 1) := by decide +kernel
theorem dX12_parting_67 : decode cX12_parting 67 = .ok (.if_icmp .ne 9, 3) := by decide +kernel
theorem dX12_parting_70 : decode cX12_parting 70 = .ok (.aload_n 0, 1) := by decide +kernel
theorem dX12_parting_71 : decode cX12_parting 71 = .ok (.iload_n 1, 1) := by decide +kernel
theorem dX12_parting_72 : decode cX12_parting 72 = .ok (.invokevirtual 154, 3) := by decide +kernel
theorem dX12_parting_75 : decode cX12_parting 75 = .ok (.ireturn, 1) := by decide +kernel
theorem dX12_parting_76 : decode cX12_parting 76 = .ok (.iinc 4 1, 3) := by decide +kernel
theorem dX12_parting_79 : decode cX12_parting 79 = .ok (.aload_n 0, 1) := by decide +kernel
theorem dX12_parting_80 : decode cX12_parting 80 = .ok (.iload_n 1, 1) := by decide +kernel
theorem dX12_parting_81 : decode cX12_parting 81 = .ok (.invokevirtual 164, 3) := by decide +kernel
theorem dX12_parting_84 : decode cX12_parting 84 = .ok (.istore 5, 2) := by decide +kernel
theorem dX12_parting_86 : decode cX12_parting 86 = .ok (.goto (-36), 3) := by decide +kernel
theorem dX12_parting_89 : decode cX12_parting 89 = .ok (.iload_n 3, 1) := by decide +kernel
theorem dX12_parting_90 : decode cX12_parting 90 = .ok (.iconst (-1), 1) := by decide +kernel
theorem dX12_parting_91 : decode cX12_parting 91 = .ok (.if_icmp .ne 8, 3) := by decide +kernel
theorem dX12_parting_94 : decode cX12_parting 94 = .ok (.iload 4, 2) := by decide +kernel
theorem dX12_parting_96 : decode cX12_parting 96 = .ok (.goto 5, 3) := by decide +kernel
theorem dX12_parting_99 : decode cX12_parting 99 = .ok (.bipush (-4), 2) := by decide +kernel
theorem dX12_parting_101 : decode cX12_parting 101 = .ok (.ireturn, 1) := by decide +kernel
theorem dX12_partRank_0 : decode cX12_partRank 0 = .ok (.iload_n 1, 1) := by decide +kernel
theorem dX12_partRank_1 : decode cX12_partRank 1 = .ok (.invokestatic 158, 3) := by decide +kernel
theorem dX12_partRank_4 : decode cX12_partRank 4 = .ok (.ifCond .eq 20, 3) := by decide +kernel
theorem dX12_partRank_7 : decode cX12_partRank 7 = .ok (.aload_n 0, 1) := by decide +kernel
theorem dX12_partRank_8 : decode cX12_partRank 8 = .ok (.iload_n 1, 1) := by decide +kernel
theorem dX12_partRank_9 : decode cX12_partRank 9 = .ok (.iload_n 2, 1) := by decide +kernel
theorem dX12_partRank_10 : decode cX12_partRank 10 = .ok (.invokevirtual 167, 3) := by decide +kernel
theorem dX12_partRank_13 : decode cX12_partRank 13 = .ok (.ifCond .eq 11, 3) := by decide +kernel
theorem dX12_partRank_16 : decode cX12_partRank 16 = .ok (.aload_n 0, 1) := by decide +kernel
theorem dX12_partRank_17 : decode cX12_partRank 17 = .ok (.iload_n 1, 1) := by decide +kernel
theorem dX12_partRank_18 : decode cX12_partRank 18 = .ok (.invokevirtual 161, 3) := by decide +kernel
theorem dX12_partRank_21 : decode cX12_partRank 21 = .ok (.ifCond .ne 5, 3) := by decide +kernel
theorem dX12_partRank_24 : decode cX12_partRank 24 = .ok (.iconst (-1), 1) := by decide +kernel
theorem dX12_partRank_25 : decode cX12_partRank 25 = .ok (.ireturn, 1) := by decide +kernel
theorem dX12_partRank_26 : decode cX12_partRank 26 = .ok (.aload_n 0, 1) := by decide +kernel
theorem dX12_partRank_27 : decode cX12_partRank 27 = .ok (.iload_n 1, 1) := by decide +kernel
theorem dX12_partRank_28 : decode cX12_partRank 28 = .ok (.invokevirtual 161, 3) := by decide +kernel
theorem dX12_partRank_31 : decode cX12_partRank 31 = .ok (.istore_n 3, 1) := by decide +kernel
theorem dX12_partRank_32 : decode cX12_partRank 32 = .ok (.iconst 0, 1) := by decide +kernel
theorem dX12_partRank_33 : decode cX12_partRank 33 = .ok (.istore 4, 2) := by decide +kernel
theorem dX12_partRank_35 : decode cX12_partRank 35 = .ok (.iconst 0, 1) := by decide +kernel
theorem dX12_partRank_36 : decode cX12_partRank 36 = .ok (.istore 5, 2) := by decide +kernel
theorem dX12_partRank_38 : decode cX12_partRank 38 = .ok (.iload 5, 2) := by decide +kernel
theorem dX12_partRank_40 : decode cX12_partRank 40 = .ok (.iload_n 1, 1) := by decide +kernel
theorem dX12_partRank_41 : decode cX12_partRank 41 = .ok (.if_icmp .ge 17, 3) := by decide +kernel
theorem dX12_partRank_44 : decode cX12_partRank 44 = .ok (.aload_n 0, 1) := by decide +kernel
theorem dX12_partRank_45 : decode cX12_partRank 45 = .ok (.getfield 36, 3) := by decide +kernel
theorem dX12_partRank_48 : decode cX12_partRank 48 = .ok (.iload 5, 2) := by decide +kernel
theorem dX12_partRank_50 : decode cX12_partRank 50 = .ok (.iconst 0, 1) := by decide +kernel
theorem dX12_partRank_51 : decode cX12_partRank 51 = .ok (.iastore, 1) := by decide +kernel
theorem dX12_partRank_52 : decode cX12_partRank 52 = .ok (.iinc 5 1, 3) := by decide +kernel
theorem dX12_partRank_55 : decode cX12_partRank 55 = .ok (.goto (-17), 3) := by decide +kernel
theorem dX12_partRank_58 : decode cX12_partRank 58 = .ok (.aload_n 0, 1) := by decide +kernel
theorem dX12_partRank_59 : decode cX12_partRank 59 = .ok (.iload_n 1, 1) := by decide +kernel
theorem dX12_partRank_60 : decode cX12_partRank 60 = .ok (.invokevirtual 154, 3) := by decide +kernel
theorem dX12_partRank_63 : decode cX12_partRank 63 = .ok (.iload_n 2, 1) := by decide +kernel
theorem dX12_partRank_64 : decode cX12_partRank 64 = .ok (.if_icmp .eq 31, 3) := by decide +kernel
theorem dX12_partRank_67 : decode cX12_partRank 67 = .ok (.iload 4, 2) := by decide +kernel
theorem dX12_partRank_69 : decode cX12_partRank 69 = .ok (.aload_n 0, 1) := by decide +kernel
theorem dX12_partRank_70 : decode cX12_partRank 70 = .ok (.iload_n 1, 1) := by decide +kernel
theorem dX12_partRank_71 : decode cX12_partRank 71 = .ok (.invokevirtual 161, 3) := by decide +kernel
theorem dX12_partRank_74 : decode cX12_partRank 74 = .ok (.iload_n 3, 1) := by decide +kernel
theorem dX12_partRank_75 : decode cX12_partRank 75 = .ok (.if_icmp .ne 7, 3) := by decide +kernel
theorem dX12_partRank_78 : decode cX12_partRank 78 = .ok (.iconst 1, 1) := by decide +kernel
theorem dX12_partRank_79 : decode cX12_partRank 79 = .ok (.goto 4, 3) := by decide +kernel
theorem dX12_partRank_82 : decode cX12_partRank 82 = .ok (.iconst 0, 1) := by decide +kernel
theorem dX12_partRank_83 : decode cX12_partRank 83 = .ok (.iadd, 1) := by decide +kernel
theorem dX12_partRank_84 : decode cX12_partRank 84 = .ok (.istore 4, 2) := by decide +kernel
theorem dX12_partRank_86 : decode cX12_partRank 86 = .ok (.aload_n 0, 1) := by decide +kernel
theorem dX12_partRank_87 : decode cX12_partRank 87 = .ok (.iload_n 1, 1) := by decide +kernel
theorem dX12_partRank_88 : decode cX12_partRank 88 = .ok (.invokevirtual 164, 3) := by decide +kernel
theorem dX12_partRank_91 : decode cX12_partRank 91 = .ok (.pop, 1) := by decide +kernel
theorem dX12_partRank_92 : decode cX12_partRank 92 = .ok (.goto (-34), 3) := by decide +kernel
theorem dX12_partRank_95 : decode cX12_partRank 95 = .ok (.iload 4, 2) := by decide +kernel
theorem dX12_partRank_97 : decode cX12_partRank 97 = .ok (.ireturn, 1) := by decide +kernel
theorem dX12_isOrder_0 : decode cX12_isOrder 0 = .ok (.iconst 0, 1) := by decide +kernel
theorem dX12_isOrder_1 : decode cX12_isOrder 1 = .ok (.istore_n 2, 1) := by decide +kernel
theorem dX12_isOrder_2 : decode cX12_isOrder 2 = .ok (.iconst 0, 1) := by decide +kernel
theorem dX12_isOrder_3 : decode cX12_isOrder 3 = .ok (.istore_n 3, 1) := by decide +kernel
theorem dX12_isOrder_4 : decode cX12_isOrder 4 = .ok (.iload_n 3, 1) := by decide +kernel
theorem dX12_isOrder_5 : decode cX12_isOrder 5 = .ok (.iload_n 1, 1) := by decide +kernel
theorem dX12_isOrder_6 : decode cX12_isOrder 6 = .ok (.if_icmp .ge 34, 3) := by decide +kernel
theorem dX12_isOrder_9 : decode cX12_isOrder 9 = .ok (.iload_n 2, 1) := by decide +kernel
theorem dX12_isOrder_10 : decode cX12_isOrder 10 = .ok (.aload_n 0, 1) := by decide +kernel
theorem dX12_isOrder_11 : decode cX12_isOrder 11 = .ok (.getfield 36, 3) := by decide +kernel
theorem dX12_isOrder_14 : decode cX12_isOrder 14 = .ok (.iload_n 3, 1) := by decide +kernel
theorem dX12_isOrder_15 : decode cX12_isOrder 15 = .ok (.iaload, 1) := by decide +kernel
theorem dX12_isOrder_16 : decode cX12_isOrder 16 = .ok (.iload_n 1, 1) := by decide +kernel
theorem dX12_isOrder_17 : decode cX12_isOrder 17 = .ok (.if_icmp .ge 14, 3) := by decide +kernel
theorem dX12_isOrder_20 : decode cX12_isOrder 20 = .ok (.iconst 1, 1) := by decide +kernel
theorem dX12_isOrder_21 : decode cX12_isOrder 21 = .ok (.aload_n 0, 1) := by decide +kernel
