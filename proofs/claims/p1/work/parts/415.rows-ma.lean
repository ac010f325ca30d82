theorem dX12_init_0 : decode cX12_init 0 = .ok (.aload_n 0, 1) := by decide +kernel
theorem dX12_init_1 : decode cX12_init 1 = .ok (.invokespecial 1, 3) := by decide +kernel
theorem dX12_init_4 : decode cX12_init 4 = .ok (.aload_n 0, 1) := by decide +kernel
theorem dX12_init_5 : decode cX12_init 5 = .ok (.iconst 4, 1) := by decide +kernel
theorem dX12_init_6 : decode cX12_init 6 = .ok (.newarray .int, 2) := by decide +kernel
theorem dX12_init_8 : decode cX12_init 8 = .ok (.putfield 7, 3) := by decide +kernel
theorem dX12_init_11 : decode cX12_init 11 = .ok (.aload_n 0, 1) := by decide +kernel
theorem dX12_init_12 : decode cX12_init 12 = .ok (.iconst 4, 1) := by decide +kernel
theorem dX12_init_13 : decode cX12_init 13 = .ok (.newarray .int, 2) := by decide +kernel
theorem dX12_init_15 : decode cX12_init 15 = .ok (.putfield 13, 3) := by decide +kernel
theorem dX12_init_18 : decode cX12_init 18 = .ok (.aload_n 0, 1) := by decide +kernel
theorem dX12_init_19 : decode cX12_init 19 = .ok (.sipush 240, 3) := by decide +kernel
theorem dX12_init_22 : decode cX12_init 22 = .ok (.newarray .long, 2) := by decide +kernel
theorem dX12_init_24 : decode cX12_init 24 = .ok (.putfield 16, 3) := by decide +kernel
theorem dX12_init_27 : decode cX12_init 27 = .ok (.aload_n 0, 1) := by decide +kernel
theorem dX12_init_28 : decode cX12_init 28 = .ok (.bipush 60, 2) := by decide +kernel
theorem dX12_init_30 : decode cX12_init 30 = .ok (.newarray .long, 2) := by decide +kernel
theorem dX12_init_32 : decode cX12_init 32 = .ok (.putfield 20, 3) := by decide +kernel
theorem dX12_init_35 : decode cX12_init 35 = .ok (.aload_n 0, 1) := by decide +kernel
theorem dX12_init_36 : decode cX12_init 36 = .ok (.sipush 1600, 3) := by decide +kernel
theorem dX12_init_39 : decode cX12_init 39 = .ok (.newarray .byte, 2) := by decide +kernel
theorem dX12_init_41 : decode cX12_init 41 = .ok (.putfield 23, 3) := by decide +kernel
theorem dX12_init_44 : decode cX12_init 44 = .ok (.aload_n 0, 1) := by decide +kernel
theorem dX12_init_45 : decode cX12_init 45 = .ok (.iconst (-1), 1) := by decide +kernel
theorem dX12_init_46 : decode cX12_init 46 = .ok (.putfield 27, 3) := by decide +kernel
theorem dX12_init_49 : decode cX12_init 49 = .ok (.aload_n 0, 1) := by decide +kernel
theorem dX12_init_50 : decode cX12_init 50 = .ok (.iconst 5, 1) := by decide +kernel
theorem dX12_init_51 : decode cX12_init 51 = .ok (.newarray .int, 2) := by decide +kernel
theorem dX12_init_53 : decode cX12_init 53 = .ok (.putfield 31, 3) := by decide +kernel
theorem dX12_init_56 : decode cX12_init 56 = .ok (.aload_n 0, 1) := by decide +kernel
theorem dX12_init_57 : decode cX12_init 57 = .ok (.iconst 5, 1) := by decide +kernel
theorem dX12_init_58 : decode cX12_init 58 = .ok (.newarray .int, 2) := by decide +kernel
theorem dX12_init_60 : decode cX12_init 60 = .ok (.putfield 34, 3) := by decide +kernel
theorem dX12_init_63 : decode cX12_init 63 = .ok (.aload_n 0, 1) := by decide +kernel
theorem dX12_init_64 : decode cX12_init 64 = .ok (.iconst 5, 1) := by decide +kernel
theorem dX12_init_65 : decode cX12_init 65 = .ok (.newarray .int, 2) := by decide +kernel
theorem dX12_init_67 : decode cX12_init 67 = .ok (.putfield 37, 3) := by decide +kernel
theorem dX12_init_70 : decode cX12_init 70 = .ok (.aload_n 0, 1) := by decide +kernel
theorem dX12_init_71 : decode cX12_init 71 = .ok (.iconst 5, 1) := by decide +kernel
theorem dX12_init_72 : decode cX12_init 72 = .ok (.newarray .int, 2) := by decide +kernel
theorem dX12_init_74 : decode cX12_init 74 = .ok (.putfield 40, 3) := by decide +kernel
theorem dX12_init_77 : decode cX12_init 77 = .ok (.aload_n 0, 1) := by decide +kernel
theorem dX12_init_78 : decode cX12_init 78 = .ok (.bipush 40, 2) := by decide +kernel
theorem dX12_init_80 : decode cX12_init 80 = .ok (.newarray .int, 2) := by decide +kernel
theorem dX12_init_82 : decode cX12_init 82 = .ok (.putfield 43, 3) := by decide +kernel
theorem dX12_init_85 : decode cX12_init 85 = .ok (.aload_n 0, 1) := by decide +kernel
theorem dX12_init_86 : decode cX12_init 86 = .ok (.iconst 5, 1) := by decide +kernel
theorem dX12_init_87 : decode cX12_init 87 = .ok (.newarray .int, 2) := by decide +kernel
theorem dX12_init_89 : decode cX12_init 89 = .ok (.putfield 46, 3) := by decide +kernel
theorem dX12_init_92 : decode cX12_init 92 = .ok (.aload_n 0, 1) := by decide +kernel
theorem dX12_init_93 : decode cX12_init 93 = .ok (.bipush 100, 2) := by decide +kernel
theorem dX12_init_95 : decode cX12_init 95 = .ok (.newarray .int, 2) := by decide +kernel
theorem dX12_init_97 : decode cX12_init 97 = .ok (.putfield 49, 3) := by decide +kernel
theorem dX12_init_100 : decode cX12_init 100 = .ok (.aload_n 0, 1) := by decide +kernel
theorem dX12_init_101 : decode cX12_init 101 = .ok (.iconst 5, 1) := by decide +kernel
theorem dX12_init_102 : decode cX12_init 102 = .ok (.newarray .int, 2) := by decide +kernel
theorem dX12_init_104 : decode cX12_init 104 = .ok (.putfield 52, 3) := by decide +kernel
theorem dX12_init_107 : decode cX12_init 107 = .ok (.aload_n 0, 1) := by decide +kernel
theorem dX12_init_108 : decode cX12_init 108 = .ok (.sipush 250, 3) := by decide +kernel
theorem dX12_init_111 : decode cX12_init 111 = .ok (.newarray .int, 2) := by decide +kernel
theorem dX12_init_113 : decode cX12_init 113 = .ok (.putfield 55, 3) := by decide +kernel
theorem dX12_init_116 : decode cX12_init 116 = .ok (.aload_n 0, 1) := by decide +kernel
theorem dX12_init_117 : decode cX12_init 117 = .ok (.iconst 5, 1) := by decide +kernel
theorem dX12_init_118 : decode cX12_init 118 = .ok (.newarray .int, 2) := by decide +kernel
theorem dX12_init_120 : decode cX12_init 120 = .ok (.putfield 58, 3) := by decide +kernel
theorem dX12_init_123 : decode cX12_init 123 = .ok (.aload_n 0, 1) := by decide +kernel
theorem dX12_init_124 : decode cX12_init 124 = .ok (.sipush 150, 3) := by decide +kernel
theorem dX12_init_127 : decode cX12_init 127 = .ok (.newarray .int, 2) := by decide +kernel
theorem dX12_init_129 : decode cX12_init 129 = .ok (.putfield 61, 3) := by decide +kernel
theorem dX12_init_132 : decode cX12_init 132 = .ok (.aload_n 0, 1) := by decide +kernel
theorem dX12_init_133 : decode cX12_init 133 = .ok (.bipush 35, 2) := by decide +kernel
theorem dX12_init_135 : decode cX12_init 135 = .ok (.newarray .int, 2) := by decide +kernel
theorem dX12_init_137 : decode cX12_init 137 = .ok (.putfield 64, 3) := by decide +kernel
theorem dX12_init_140 : decode cX12_init 140 = .ok (.aload_n 0, 1) := by decide +kernel
theorem dX12_init_141 : decode cX12_init 141 = .ok (.bipush 10, 2) := by decide +kernel
theorem dX12_init_143 : decode cX12_init 143 = .ok (.newarray .boolean, 2) := by decide +kernel
theorem dX12_init_145 : decode cX12_init 145 = .ok (.putfield 67, 3) := by decide +kernel
theorem dX12_init_148 : decode cX12_init 148 = .ok (.aload_n 0, 1) := by decide +kernel
theorem dX12_init_149 : decode cX12_init 149 = .ok (.bipush 85, 2) := by decide +kernel
theorem dX12_init_151 : decode cX12_init 151 = .ok (.newarray .int, 2) := by decide +kernel
theorem dX12_init_153 : decode cX12_init 153 = .ok (.putfield 71, 3) := by decide +kernel
theorem dX12_init_156 : decode cX12_init 156 = .ok (.aload_n 0, 1) := by decide +kernel
theorem dX12_init_157 : decode cX12_init 157 = .ok (.iconst 3, 1) := by decide +kernel
theorem dX12_init_158 : decode cX12_init 158 = .ok (.newarray .boolean, 2) := by decide +kernel
theorem dX12_init_160 : decode cX12_init 160 = .ok (.putfield 74, 3) := by decide +kernel
theorem dX12_init_163 : decode cX12_init 163 = .ok (.aload_n 0, 1) := by decide +kernel
theorem dX12_init_164 : decode cX12_init 164 = .ok (.bipush 66, 2) := by decide +kernel
theorem dX12_init_166 : decode cX12_init 166 = .ok (.newarray .int, 2) := by decide +kernel
theorem dX12_init_168 : decode cX12_init 168 = .ok (.putfield 77, 3) := by decide +kernel
theorem dX12_init_171 : decode cX12_init 171 = .ok (.aload_n 0, 1) := by decide +kernel
theorem dX12_init_172 : decode cX12_init 172 = .ok (.bipush 66, 2) := by decide +kernel
theorem dX12_init_174 : decode cX12_init 174 = .ok (.newarray .int, 2) := by decide +kernel
theorem dX12_init_176 : decode cX12_init 176 = .ok (.putfield 80, 3) := by decide +kernel
theorem dX12_init_179 : decode cX12_init 179 = .ok (.aload_n 0, 1) := by decide +kernel
theorem dX12_init_180 : decode cX12_init 180 = .ok (.sipush 1024, 3) := by decide +kernel
theorem dX12_init_183 : decode cX12_init 183 = .ok (.newarray .long, 2) := by decide +kernel
theorem dX12_init_185 : decode cX12_init 185 = .ok (.putfield 83, 3) := by decide +kernel
theorem dX12_init_188 : decode cX12_init 188 = .ok (.aload_n 0, 1) := by decide +kernel
theorem dX12_init_189 : decode cX12_init 189 = .ok (.sipush 1024, 3) := by decide +kernel
theorem dX12_init_192 : decode cX12_init 192 = .ok (.newarray .long, 2) := by decide +kernel
theorem dX12_init_194 : decode cX12_init 194 = .ok (.putfield 86, 3) := by decide +kernel
theorem dX12_init_197 : decode cX12_init 197 = .ok (.aload_n 0, 1) := by decide +kernel
theorem dX12_init_198 : decode cX12_init 198 = .ok (.bipush 60, 2) := by decide +kernel
theorem dX12_init_200 : decode cX12_init 200 = .ok (.newarray .long, 2) := by decide +kernel
theorem dX12_init_202 : decode cX12_init 202 = .ok (.putfield 89, 3) := by decide +kernel
theorem dX12_init_205 : decode cX12_init 205 = .ok (.aload_n 0, 1) := by decide +kernel
theorem dX12_init_206 : decode cX12_init 206 = .ok (.bipush 10, 2) := by decide +kernel
theorem dX12_init_208 : decode cX12_init 208 = .ok (.newarray .int, 2) := by decide +kernel
theorem dX12_init_210 : decode cX12_init 210 = .ok (.putfield 92, 3) := by decide +kernel
theorem dX12_init_213 : decode cX12_init 213 = .ok (.aload_n 0, 1) := by decide +kernel
theorem dX12_init_214 : decode cX12_init 214 = .ok (.bipush 10, 2) := by decide +kernel
theorem dX12_init_216 : decode cX12_init 216 = .ok (.newarray .long, 2) := by decide +kernel
theorem dX12_init_218 : decode cX12_init 218 = .ok (.putfield 95, 3) := by decide +kernel
theorem dX12_init_221 : decode cX12_init 221 = .ok (.aload_n 0, 1) := by decide +kernel
theorem dX12_init_222 : decode cX12_init 222 = .ok (.bipush 10, 2) := by decide +kernel
theorem dX12_init_224 : decode cX12_init 224 = .ok (.newarray .long, 2) := by decide +kernel
theorem dX12_init_226 : decode cX12_init 226 = .ok (.putfield 98, 3) := by decide +kernel
theorem dX12_init_229 : decode cX12_init 229 = .ok (.aload_n 0, 1) := by decide +kernel
theorem dX12_init_230 : decode cX12_init 230 = .ok (.ldc 101, 2) := by decide +kernel
theorem dX12_init_232 : decode cX12_init 232 = .ok (.newarray .long, 2) := by decide +kernel
theorem dX12_init_234 : decode cX12_init 234 = .ok (.putfield 102, 3) := by decide +kernel
theorem dX12_init_237 : decode cX12_init 237 = .ok (.aload_n 0, 1) := by decide +kernel
theorem dX12_init_238 : decode cX12_init 238 = .ok (.ldc 101, 2) := by decide +kernel
theorem dX12_init_240 : decode cX12_init 240 = .ok (.newarray .long, 2) := by decide +kernel
theorem dX12_init_242 : decode cX12_init 242 = .ok (.putfield 105, 3) := by decide +kernel
theorem dX12_init_245 : decode cX12_init 245 = .ok (.aload_n 0, 1) := by decide +kernel
theorem dX12_init_246 : decode cX12_init 246 = .ok (.bipush 64, 2) := by decide +kernel
theorem dX12_init_248 : decode cX12_init 248 = .ok (.newarray .long, 2) := by decide +kernel
theorem dX12_init_250 : decode cX12_init 250 = .ok (.putfield 108, 3) := by decide +kernel
theorem dX12_init_253 : decode cX12_init 253 = .ok (.aload_n 0, 1) := by decide +kernel
theorem dX12_init_254 : decode cX12_init 254 = .ok (.bipush 16, 2) := by decide +kernel
theorem dX12_init_256 : decode cX12_init 256 = .ok (.newarray .int, 2) := by decide +kernel
theorem dX12_init_258 : decode cX12_init 258 = .ok (.putfield 111, 3) := by decide +kernel
theorem dX12_init_261 : decode cX12_init 261 = .ok (.iconst 0, 1) := by decide +kernel
theorem dX12_init_262 : decode cX12_init 262 = .ok (.istore_n 1, 1) := by decide +kernel
theorem dX12_init_263 : decode cX12_init 263 = .ok (.iload_n 1, 1) := by decide +kernel
theorem dX12_init_264 : decode cX12_init 264 = .ok (.iconst 4, 1) := by decide +kernel
theorem dX12_init_265 : decode cX12_init 265 = .ok (.if_icmp .ge 16, 3) := by decide +kernel
theorem dX12_init_268 : decode cX12_init 268 = .ok (.aload_n 0, 1) := by decide +kernel
theorem dX12_init_269 : decode cX12_init 269 = .ok (.getfield 7, 3) := by decide +kernel
theorem dX12_init_272 : decode cX12_init 272 = .ok (.iload_n 1, 1) := by decide +kernel
theorem dX12_init_273 : decode cX12_init 273 = .ok (.iconst (-1), 1) := by decide +kernel
theorem dX12_init_274 : decode cX12_init 274 = .ok (.iastore, 1) := by decide +kernel
theorem dX12_init_275 : decode cX12_init 275 = .ok (.iinc 1 1, 3) := by decide +kernel
theorem dX12_init_278 : decode cX12_init 278 = .ok (.goto (-15), 3) := by decide +kernel
theorem dX12_init_281 : decode cX12_init 281 = .ok (.return_, 1) := by decide +kernel
theorem dX12_in_0 : decode cX12_in 0 = .ok (.lload_n 0, 1) := by decide +kernel
theorem dX12_in_1 : decode cX12_in 1 = .ok (.lload_n 2, 1) := by decide +kernel
theorem dX12_in_2 : decode cX12_in 2 = .ok (.lcmp, 1) := by decide +kernel
theorem dX12_in_3 : decode cX12_in 3 = .ok (.ifCond .lt 14, 3) := by decide +kernel
theorem dX12_in_6 : decode cX12_in 6 = .ok (.lload_n 0, 1) := by decide +kernel
theorem dX12_in_7 : decode cX12_in 7 = .ok (.lload 4, 2) := by decide +kernel
theorem dX12_in_9 : decode cX12_in 9 = .ok (.lcmp, 1) := by decide +kernel
theorem dX12_in_10 : decode cX12_in 10 = .ok (.ifCond .gt 7, 3) := by decide +kernel
theorem dX12_in_13 : decode cX12_in 13 = .ok (.iconst 1, 1) := by decide +kernel
theorem dX12_in_14 : decode cX12_in 14 = .ok (.goto 4, 3) := by decide +kernel
theorem dX12_in_17 : decode cX12_in 17 = .ok (.iconst 0, 1) := by decide +kernel
theorem dX12_in_18 : decode cX12_in 18 = .ok (.ireturn, 1) := by decide +kernel
theorem dX12_isSlot_0 : decode cX12_isSlot 0 = .ok (.iload_n 0, 1) := by decide +kernel
theorem dX12_isSlot_1 : decode cX12_isSlot 1 = .ok (.i2l, 1) := by decide +kernel
theorem dX12_isSlot_2 : decode cX12_isSlot 2 = .ok (.lconst 0, 1) := by decide +kernel
theorem dX12_isSlot_3 : decode cX12_isSlot 3 = .ok (.ldc2_w 117, 3) := by decide +kernel
theorem dX12_isSlot_6 : decode cX12_isSlot 6 = .ok (.invokestatic 119, 3) := by decide +kernel
theorem dX12_isSlot_9 : decode cX12_isSlot 9 = .ok (.ireturn, 1) := by decide +kernel
theorem dX12_row_0 : decode cX12_row 0 = .ok (.aload_n 0, 1) := by decide +kernel
theorem dX12_row_1 : decode cX12_row 1 = .ok (.iconst 0, 1) := by decide +kernel
theorem dX12_row_2 : decode cX12_row 2 = .ok (.putfield 114, 3) := by decide +kernel
theorem dX12_row_5 : decode cX12_row 5 = .ok (.iload_n 1, 1) := by decide +kernel
theorem dX12_row_6 : decode cX12_row 6 = .ok (.invokestatic 123, 3) := by decide +kernel
theorem dX12_row_9 : decode cX12_row 9 = .ok (.ifCond .eq 21, 3) := by decide +kernel
theorem dX12_row_12 : decode cX12_row 12 = .ok (.iload_n 2, 1) := by decide +kernel
theorem dX12_row_13 : decode cX12_row 13 = .ok (.i2l, 1) := by decide +kernel
theorem dX12_row_14 : decode cX12_row 14 = .ok (.lconst 0, 1) := by decide +kernel
theorem dX12_row_15 : decode cX12_row 15 = .ok (.ldc2_w 117, 3) := by decide +kernel
theorem dX12_row_18 : decode cX12_row 18 = .ok (.invokestatic 119, 3) := by decide +kernel
theorem dX12_row_21 : decode cX12_row 21 = .ok (.ifCond .eq 9, 3) := by decide +kernel
theorem dX12_row_24 : decode cX12_row 24 = .ok (.iload_n 3, 1) := by decide +kernel
theorem dX12_row_25 : decode cX12_row 25 = .ok (.bipush 60, 2) := by decide +kernel
theorem dX12_row_27 : decode cX12_row 27 = .ok (.if_icmp .le 6, 3) := by decide +kernel
theorem dX12_row_30 : decode cX12_row 30 = .ok (.bipush (-2), 2) := by decide +kernel
theorem dX12_row_32 : decode cX12_row 32 = .ok (.ireturn, 1) := by decide +kernel
theorem dX12_row_33 : decode cX12_row 33 = .ok (.iload_n 3, 1) := by decide +kernel
theorem dX12_row_34 : decode cX12_row 34 = .ok (.ifCond .ge 6, 3) := by decide +kernel
theorem dX12_row_37 : decode cX12_row 37 = .ok (.bipush (-3), 2) := by decide +kernel
theorem dX12_row_39 : decode cX12_row 39 = .ok (.ireturn, 1) := by decide +kernel
theorem dX12_row_40 : decode cX12_row 40 = .ok (.aload_n 0, 1) := by decide +kernel
theorem dX12_row_41 : decode cX12_row 41 = .ok (.getfield 7, 3) := by decide +kernel
theorem dX12_row_44 : decode cX12_row 44 = .ok (.iload_n 1, 1) := by decide +kernel
theorem dX12_row_45 : decode cX12_row 45 = .ok (.iload_n 2, 1) := by decide +kernel
theorem dX12_row_46 : decode cX12_row 46 = .ok (.iastore, 1) := by decide +kernel
theorem dX12_row_47 : decode cX12_row 47 = .ok (.aload_n 0, 1) := by decide +kernel
theorem dX12_row_48 : decode cX12_row 48 = .ok (.getfield 13, 3) := by decide +kernel
theorem dX12_row_51 : decode cX12_row 51 = .ok (.iload_n 1, 1) := by decide +kernel
theorem dX12_row_52 : decode cX12_row 52 = .ok (.iload_n 3, 1) := by decide +kernel
theorem dX12_row_53 : decode cX12_row 53 = .ok (.iastore, 1) := by decide +kernel
theorem dX12_row_54 : decode cX12_row 54 = .ok (.iconst 0, 1) := by decide +kernel
theorem dX12_row_55 : decode cX12_row 55 = .ok (.istore 4, 2) := by decide +kernel
theorem dX12_row_57 : decode cX12_row 57 = .ok (.iload 4, 2) := by decide +kernel
theorem dX12_row_59 : decode cX12_row 59 = .ok (.iload_n 3, 1) := by decide +kernel
theorem dX12_row_60 : decode cX12_row 60 = .ok (.if_icmp .ge 22, 3) := by decide +kernel
theorem dX12_row_63 : decode cX12_row 63 = .ok (.aload_n 0, 1) := by decide +kernel
theorem dX12_row_64 : decode cX12_row 64 = .ok (.getfield 16, 3) := by decide +kernel
theorem dX12_row_67 : decode cX12_row 67 = .ok (.bipush 60, 2) := by decide +kernel
theorem dX12_row_69 : decode cX12_row 69 = .ok (.iload_n 1, 1) := by decide +kernel
theorem dX12_row_70 : decode cX12_row 70 = .ok (.imul, 1) := by decide +kernel
theorem dX12_row_71 : decode cX12_row 71 = .ok (.iload 4, 2) := by decide +kernel
theorem dX12_row_73 : decode cX12_row 73 = .ok (.iadd, 1) := by decide +kernel
theorem dX12_row_74 : decode cX12_row 74 = .ok (.lconst 0, 1) := by decide +kernel
theorem dX12_row_75 : decode cX12_row 75 = .ok (.lastore, 1) := by decide +kernel
theorem dX12_row_76 : decode cX12_row 76 = .ok (.iinc 4 1, 3) := by decide +kernel
theorem dX12_row_79 : decode cX12_row 79 = .ok (.goto (-22), 3) := by decide +kernel
theorem dX12_row_82 : decode cX12_row 82 = .ok (.iconst 0, 1) := by decide +kernel
theorem dX12_row_83 : decode cX12_row 83 = .ok (.ireturn, 1) := by decide +kernel
theorem dX12_cut_0 : decode cX12_cut 0 = .ok (.iload_n 2, 1) := by decide +kernel
theorem dX12_cut_1 : decode cX12_cut 1 = .ok (.ifCond .ne 10, 3) := by decide +kernel
theorem dX12_cut_4 : decode cX12_cut 4 = .ok (.lload_n 0, 1) := by decide +kernel
theorem dX12_cut_5 : decode cX12_cut 5 = .ok (.l2i, 1) := by decide +kernel
theorem dX12_cut_6 : decode cX12_cut 6 = .ok (.i2b, 1) := by decide +kernel
theorem dX12_cut_7 : decode cX12_cut 7 = .ok (.i2l, 1) := by decide +kernel
theorem dX12_cut_8 : decode cX12_cut 8 = .ok (.goto 27, 3) := by decide +kernel
theorem dX12_cut_11 : decode cX12_cut 11 = .ok (.iload_n 2, 1) := by decide +kernel
theorem dX12_cut_12 : decode cX12_cut 12 = .ok (.iconst 1, 1) := by decide +kernel
theorem dX12_cut_13 : decode cX12_cut 13 = .ok (.if_icmp .ne 10, 3) := by decide +kernel
theorem dX12_cut_16 : decode cX12_cut 16 = .ok (.lload_n 0, 1) := by decide +kernel
theorem dX12_cut_17 : decode cX12_cut 17 = .ok (.l2i, 1) := by decide +kernel
theorem dX12_cut_18 : decode cX12_cut 18 = .ok (.i2s, 1) := by decide +kernel
theorem dX12_cut_19 : decode cX12_cut 19 = .ok (.i2l, 1) := by decide +kernel
theorem dX12_cut_20 : decode cX12_cut 20 = .ok (.goto 15, 3) := by decide +kernel
theorem dX12_cut_23 : decode cX12_cut 23 = .ok (.iload_n 2, 1) := by decide +kernel
theorem dX12_cut_24 : decode cX12_cut 24 = .ok (.iconst 2, 1) := by decide +kernel
theorem dX12_cut_25 : decode cX12_cut 25 = .ok (.if_icmp .ne 9, 3) := by decide +kernel
theorem dX12_cut_28 : decode cX12_cut 28 = .ok (.lload_n 0, 1) := by decide +kernel
theorem dX12_cut_29 : decode cX12_cut 29 = .ok (.l2i, 1) := by decide +kernel
theorem dX12_cut_30 : decode cX12_cut 30 = .ok (.i2l, 1) := by decide +kernel
theorem dX12_cut_31 : decode cX12_cut 31 = .ok (.goto 4, 3) := by decide +kernel
theorem dX12_cut_34 : decode cX12_cut 34 = .ok (.lload_n 0, 1) := by decide +kernel
theorem dX12_cut_35 : decode cX12_cut 35 = .ok (.lreturn, 1) := by decide +kernel
theorem dX12_write_0 : decode cX12_write 0 = .ok (.aload_n 0, 1) := by decide +kernel
theorem dX12_write_1 : decode cX12_write 1 = .ok (.iconst 0, 1) := by decide +kernel
theorem dX12_write_2 : decode cX12_write 2 = .ok (.putfield 114, 3) := by decide +kernel
theorem dX12_write_5 : decode cX12_write 5 = .ok (.iload_n 1, 1) := by decide +kernel
theorem dX12_write_6 : decode cX12_write 6 = .ok (.invokestatic 123, 3) := by decide +kernel
theorem dX12_write_9 : decode cX12_write 9 = .ok (.ifCond .ne 6, 3) := by decide +kernel
theorem dX12_write_12 : decode cX12_write 12 = .ok (.bipush (-2), 2) := by decide +kernel
theorem dX12_write_14 : decode cX12_write 14 = .ok (.ireturn, 1) := by decide +kernel
theorem dX12_write_15 : decode cX12_write 15 = .ok (.aload_n 0, 1) := by decide +kernel
theorem dX12_write_16 : decode cX12_write 16 = .ok (.getfield 7, 3) := by decide +kernel
theorem dX12_write_19 : decode cX12_write 19 = .ok (.iload_n 1, 1) := by decide +kernel
theorem dX12_write_20 : decode cX12_write 20 = .ok (.iaload, 1) := by decide +kernel
theorem dX12_write_21 : decode cX12_write 21 = .ok (.iconst (-1), 1) := by decide +kernel
theorem dX12_write_22 : decode cX12_write 22 = .ok (.if_icmp .ne 6, 3) := by decide +kernel
theorem dX12_write_25 : decode cX12_write 25 = .ok (.bipush (-6), 2) := by decide +kernel
theorem dX12_write_27 : decode cX12_write 27 = .ok (.ireturn, 1) := by decide +kernel
theorem dX12_write_28 : decode cX12_write 28 = .ok (.iload_n 2, 1) := by decide +kernel
theorem dX12_write_29 : decode cX12_write 29 = .ok (.i2l, 1) := by decide +kernel
theorem dX12_write_30 : decode cX12_write 30 = .ok (.lconst 0, 1) := by decide +kernel
theorem dX12_write_31 : decode cX12_write 31 = .ok (.aload_n 0, 1) := by decide +kernel
theorem dX12_write_32 : decode cX12_write 32 = .ok (.getfield 13, 3) := by decide +kernel
theorem dX12_write_35 : decode cX12_write 35 = .ok (.iload_n 1, 1) := by decide +kernel
theorem dX12_write_36 : decode cX12_write 36 = .ok (.iaload, 1) := by decide +kernel
theorem dX12_write_37 : decode cX12_write 37 = .ok (.iconst 1, 1) := by decide +kernel
theorem dX12_write_38 : decode cX12_write 38 = .ok (.isub, 1) := by decide +kernel
theorem dX12_write_39 : decode cX12_write 39 = .ok (.i2l, 1) := by decide +kernel
theorem dX12_write_40 : decode cX12_write 40 = .ok (.invokestatic 119, 3) := by decide +kernel
theorem dX12_write_43 : decode cX12_write 43 = .ok (.ifCond .ne 6, 3) := by decide +kernel
theorem dX12_write_46 : decode cX12_write 46 = .ok (.bipush (-7), 2) := by decide +kernel
theorem dX12_write_48 : decode cX12_write 48 = .ok (.ireturn, 1) := by decide +kernel
theorem dX12_write_49 : decode cX12_write 49 = .ok (.aload_n 0, 1) := by decide +kernel
theorem dX12_write_50 : decode cX12_write 50 = .ok (.getfield 16, 3) := by decide +kernel
theorem dX12_write_53 : decode cX12_write 53 = .ok (.bipush 60, 2) := by decide +kernel
theorem dX12_write_55 : decode cX12_write 55 = .ok (.iload_n 1, 1) := by decide +kernel
theorem dX12_write_56 : decode cX12_write 56 = .ok (.imul, 1) := by decide +kernel
theorem dX12_write_57 : decode cX12_write 57 = .ok (.iload_n 2, 1) := by decide +kernel
theorem dX12_write_58 : decode cX12_write 58 = .ok (.iadd, 1) := by decide +kernel
theorem dX12_write_59 : decode cX12_write 59 = .ok (.lload_n 3, 1) := by decide +kernel
theorem dX12_write_60 : decode cX12_write 60 = .ok (.aload_n 0, 1) := by decide +kernel
theorem dX12_write_61 : decode cX12_write 61 = .ok (.getfield 7, 3) := by decide +kernel
theorem dX12_write_64 : decode cX12_write 64 = .ok (.iload_n 1, 1) := by decide +kernel
theorem dX12_write_65 : decode cX12_write 65 = .ok (.iaload, 1) := by decide +kernel
theorem dX12_write_66 : decode cX12_write 66 = .ok (.invokestatic 127, 3) := by decide +kernel
theorem dX12_write_69 : decode cX12_write 69 = .ok (.lastore, 1) := by decide +kernel
theorem dX12_write_70 : decode cX12_write 70 = .ok (.iconst 0, 1) := by decide +kernel
theorem dX12_write_71 : decode cX12_write 71 = .ok (.ireturn, 1) := by decide +kernel
theorem dX12_paste_0 : decode cX12_paste 0 = .ok (.aload_n 0, 1) := by decide +kernel
theorem dX12_paste_1 : decode cX12_paste 1 = .ok (.iconst 0, 1) := by decide +kernel
theorem dX12_paste_2 : decode cX12_paste 2 = .ok (.putfield 114, 3) := by decide +kernel
theorem dX12_paste_5 : decode cX12_paste 5 = .ok (.iload_n 1, 1) := by decide +kernel
theorem dX12_paste_6 : decode cX12_paste 6 = .ok (.invokestatic 123, 3) := by decide +kernel
theorem dX12_paste_9 : decode cX12_paste 9 = .ok (.ifCond .eq 10, 3) := by decide +kernel
theorem dX12_paste_12 : decode cX12_paste 12 = .ok (.iload_n 3, 1) := by decide +kernel
theorem dX12_paste_13 : decode cX12_paste 13 = .ok (.invokestatic 123, 3) := by decide +kernel
theorem dX12_paste_16 : decode cX12_paste 16 = .ok (.ifCond .ne 6, 3) := by decide +kernel
theorem dX12_paste_19 : decode cX12_paste 19 = .ok (.bipush (-2), 2) := by decide +kernel
theorem dX12_paste_21 : decode cX12_paste 21 = .ok (.ireturn, 1) := by decide +kernel
theorem dX12_paste_22 : decode cX12_paste 22 = .ok (.aload_n 0, 1) := by decide +kernel
theorem dX12_paste_23 : decode cX12_paste 23 = .ok (.getfield 7, 3) := by decide +kernel
theorem dX12_paste_26 : decode cX12_paste 26 = .ok (.iload_n 1, 1) := by decide +kernel
theorem dX12_paste_27 : decode cX12_paste 27 = .ok (.iaload, 1) := by decide +kernel
theorem dX12_paste_28 : decode cX12_paste 28 = .ok (.iconst (-1), 1) := by decide +kernel
theorem dX12_paste_29 : decode cX12_paste 29 = .ok (.if_icmp .eq 13, 3) := by decide +kernel
theorem dX12_paste_32 : decode cX12_paste 32 = .ok (.aload_n 0, 1) := by decide +kernel
theorem dX12_paste_33 : decode cX12_paste 33 = .ok (.getfield 7, 3) := by decide +kernel
theorem dX12_paste_36 : decode cX12_paste 36 = .ok (.iload_n 3, 1) := by decide +kernel
theorem dX12_paste_37 : decode cX12_paste 37 = .ok (.iaload, 1) := by decide +kernel
theorem dX12_paste_38 : decode cX12_paste 38 = .ok (.iconst (-1), 1) := by decide +kernel
theorem dX12_paste_39 : decode cX12_paste 39 = .ok (.if_icmp .ne 6, 3) := by decide +kernel
theorem dX12_paste_42 : decode cX12_paste 42 = .ok (.bipush (-6), 2) := by decide +kernel
theorem dX12_paste_44 : decode cX12_paste 44 = .ok (.ireturn, 1) := by decide +kernel
theorem dX12_paste_45 : decode cX12_paste 45 = .ok (.aload_n 0, 1) := by decide +kernel
theorem dX12_paste_46 : decode cX12_paste 46 = .ok (.getfield 7, 3) := by decide +kernel
theorem dX12_paste_49 : decode cX12_paste 49 = .ok (.iload_n 1, 1) := by decide +kernel
theorem dX12_paste_50 : decode cX12_paste 50 = .ok (.iaload, 1) := by decide +kernel
theorem dX12_paste_51 : decode cX12_paste 51 = .ok (.aload_n 0, 1) := by decide +kernel
theorem dX12_paste_52 : decode cX12_paste 52 = .ok (.getfield 7, 3) := by decide +kernel
theorem dX12_paste_55 : decode cX12_paste 55 = .ok (.iload_n 3, 1) := by decide +kernel
theorem dX12_paste_56 : decode cX12_paste 56 = .ok (.iaload, 1) := by decide +kernel
theorem dX12_paste_57 : decode cX12_paste 57 = .ok (.if_icmp .eq 6, 3) := by decide +kernel
theorem dX12_paste_60 : decode cX12_paste 60 = .ok (.bipush (-8), 2) := by decide +kernel
theorem dX12_paste_62 : decode cX12_paste 62 = .ok (.ireturn, 1) := by decide +kernel
theorem dX12_paste_63 : decode cX12_paste 63 = .ok (.iload_n 2, 1) := by decide +kernel
theorem dX12_paste_64 : decode cX12_paste 64 = .ok (.ifCond .lt 48, 3) := by decide +kernel
theorem dX12_paste_67 : decode cX12_paste 67 = .ok (.iload 4, 2) := by decide +kernel
theorem dX12_paste_69 : decode cX12_paste 69 = .ok (.ifCond .lt 43, 3) := by decide +kernel
theorem dX12_paste_72 : decode cX12_paste 72 = .ok (.iload 5, 2) := by decide +kernel
theorem dX12_paste_74 : decode cX12_paste 74 = .ok (.ifCond .lt 38, 3) := by decide +kernel
theorem dX12_paste_77 : decode cX12_paste 77 = .ok (.iload_n 2, 1) := by decide +kernel
theorem dX12_paste_78 : decode cX12_paste 78 = .ok (.i2l, 1) := by decide +kernel
theorem dX12_paste_79 : decode cX12_paste 79 = .ok (.iload 5, 2) := by decide +kernel
theorem dX12_paste_81 : decode cX12_paste 81 = .ok (.i2l, 1) := by decide +kernel
theorem dX12_paste_82 : decode cX12_paste 82 = .ok (.ladd, 1) := by decide +kernel
theorem dX12_paste_83 : decode cX12_paste 83 = .ok (.aload_n 0, 1) := by decide +kernel
theorem dX12_paste_84 : decode cX12_paste 84 = .ok (.getfield 13, 3) := by decide +kernel
theorem dX12_paste_87 : decode cX12_paste 87 = .ok (.iload_n 1, 1) := by decide +kernel
theorem dX12_paste_88 : decode cX12_paste 88 = .ok (.iaload, 1) := by decide +kernel
theorem dX12_paste_89 : decode cX12_paste 89 = .ok (.i2l, 1) := by decide +kernel
theorem dX12_paste_90 : decode cX12_paste 90 = .ok (.lcmp, 1) := by decide +kernel
theorem dX12_paste_91 : decode cX12_paste 91 = .ok (.ifCond .gt 21, 3) := by decide +kernel
theorem dX12_paste_94 : decode cX12_paste 94 = .ok (.iload 4, 2) := by decide +kernel
theorem dX12_paste_96 : decode cX12_paste 96 = .ok (.i2l, 1) := by decide +kernel
theorem dX12_paste_97 : decode cX12_paste 97 = .ok (.iload 5, 2) := by decide +kernel
theorem dX12_paste_99 : decode cX12_paste 99 = .ok (.i2l, 1) := by decide +kernel
theorem dX12_paste_100 : decode cX12_paste 100 = .ok (.ladd, 1) := by decide +kernel
theorem dX12_paste_101 : decode cX12_paste 101 = .ok (.aload_n 0, 1) := by decide +kernel
theorem dX12_paste_102 : decode cX12_paste 102 = .ok (.getfield 13, 3) := by decide +kernel
theorem dX12_paste_105 : decode cX12_paste 105 = .ok (.iload_n 3, 1) := by decide +kernel
theorem dX12_paste_106 : decode cX12_paste 106 = .ok (.iaload, 1) := by decide +kernel
theorem dX12_paste_107 : decode cX12_paste 107 = .ok (.i2l, 1) := by decide +kernel
theorem dX12_paste_108 : decode cX12_paste 108 = .ok (.lcmp, 1) := by decide +kernel
theorem dX12_paste_109 : decode cX12_paste 109 = .ok (.ifCond .le 6, 3) := by decide +kernel
theorem dX12_paste_112 : decode cX12_paste 112 = .ok (.bipush (-7), 2) := by decide +kernel
theorem dX12_paste_114 : decode cX12_paste 114 = .ok (.ireturn, 1) := by decide +kernel
theorem dX12_paste_115 : decode cX12_paste 115 = .ok (.iconst 0, 1) := by decide +kernel
theorem dX12_paste_116 : decode cX12_paste 116 = .ok (.istore 6, 2) := by decide +kernel
theorem dX12_paste_118 : decode cX12_paste 118 = .ok (.iload 6, 2) := by decide +kernel
theorem dX12_paste_120 : decode cX12_paste 120 = .ok (.iload 5, 2) := by decide +kernel
theorem dX12_paste_122 : decode cX12_paste 122 = .ok (.if_icmp .ge 30, 3) := by decide +kernel
theorem dX12_paste_125 : decode cX12_paste 125 = .ok (.aload_n 0, 1) := by decide +kernel
theorem dX12_paste_126 : decode cX12_paste 126 = .ok (.getfield 20, 3) := by decide +kernel
theorem dX12_paste_129 : decode cX12_paste 129 = .ok (.iload 6, 2) := by decide +kernel
theorem dX12_paste_131 : decode cX12_paste 131 = .ok (.aload_n 0, 1) := by decide +kernel
theorem dX12_paste_132 : decode cX12_paste 132 = .ok (.getfield 16, 3) := by decide +kernel
theorem dX12_paste_135 : decode cX12_paste 135 = .ok (.bipush 60, 2) := by decide +kernel
theorem dX12_paste_137 : decode cX12_paste 137 = .ok (.iload_n 1, 1) := by decide +kernel
theorem dX12_paste_138 : decode cX12_paste 138 = .ok (.imul, 1) := by decide +kernel
theorem dX12_paste_139 : decode cX12_paste 139 = .ok (.iload_n 2, 1) := by decide +kernel
theorem dX12_paste_140 : decode cX12_paste 140 = .ok (.iadd, 1) := by decide +kernel
theorem dX12_paste_141 : decode cX12_paste 141 = .ok (.iload 6, 2) := by decide +kernel
theorem dX12_paste_143 : decode cX12_paste 143 = .ok (.iadd, 1) := by decide +kernel
theorem dX12_paste_144 : decode cX12_paste 144 = .ok (.laload, 1) := by decide +kernel
theorem dX12_paste_145 : decode cX12_paste 145 = .ok (.lastore, 1) := by decide +kernel
theorem dX12_paste_146 : decode cX12_paste 146 = .ok (.iinc 6 1, 3) := by decide +kernel
theorem dX12_paste_149 : decode cX12_paste 149 = .ok (.goto (-31), 3) := by decide +kernel
theorem dX12_paste_152 : decode cX12_paste 152 = .ok (.iconst 0, 1) := by decide +kernel
theorem dX12_paste_153 : decode cX12_paste 153 = .ok (.istore 6, 2) := by decide +kernel
theorem dX12_paste_155 : decode cX12_paste 155 = .ok (.iload 6, 2) := by decide +kernel
theorem dX12_paste_157 : decode cX12_paste 157 = .ok (.iload 5, 2) := by decide +kernel
theorem dX12_paste_159 : decode cX12_paste 159 = .ok (.if_icmp .ge 31, 3) := by decide +kernel
theorem dX12_paste_162 : decode cX12_paste 162 = .ok (.aload_n 0, 1) := by decide +kernel
theorem dX12_paste_163 : decode cX12_paste 163 = .ok (.getfield 16, 3) := by decide +kernel
theorem dX12_paste_166 : decode cX12_paste 166 = .ok (.bipush 60, 2) := by decide +kernel
theorem dX12_paste_168 : decode cX12_paste 168 = .ok (.iload_n 3, 1) := by decide +kernel
theorem dX12_paste_169 : decode cX12_paste 169 = .ok (.imul, 1) := by decide +kernel
theorem dX12_paste_170 : decode cX12_paste 170 = .ok (.iload 4, 2) := by decide +kernel
theorem dX12_paste_172 : decode cX12_paste 172 = .ok (.iadd, 1) := by decide +kernel
theorem dX12_paste_173 : decode cX12_paste 173 = .ok (.iload 6, 2) := by decide +kernel
theorem dX12_paste_175 : decode cX12_paste 175 = .ok (.iadd, 1) := by decide +kernel
theorem dX12_paste_176 : decode cX12_paste 176 = .ok (.aload_n 0, 1) := by decide +kernel
theorem dX12_paste_177 : decode cX12_paste 177 = .ok (.getfield 20, 3) := by decide +kernel
theorem dX12_paste_180 : decode cX12_paste 180 = .ok (.iload 6, 2) := by decide +kernel
theorem dX12_paste_182 : decode cX12_paste 182 = .ok (.laload, 1) := by decide +kernel
theorem dX12_paste_183 : decode cX12_paste 183 = .ok (.lastore, 1) := by decide +kernel
theorem dX12_paste_184 : decode cX12_paste 184 = .ok (.iinc 6 1, 3) := by decide +kernel
theorem dX12_paste_187 : decode cX12_paste 187 = .ok (.goto (-32), 3) := by decide +kernel
theorem dX12_paste_190 : decode cX12_paste 190 = .ok (.iconst 0, 1) := by decide +kernel
theorem dX12_paste_191 : decode cX12_paste 191 = .ok (.ireturn, 1) := by decide +kernel
theorem dX12_feed_0 : decode cX12_feed 0 = .ok (.aload_n 0, 1) := by decide +kernel
theorem dX12_feed_1 : decode cX12_feed 1 = .ok (.iconst 0, 1) := by decide +kernel
theorem dX12_feed_2 : decode cX12_feed 2 = .ok (.putfield 114, 3) := by decide +kernel
theorem dX12_feed_5 : decode cX12_feed 5 = .ok (.aload_n 0, 1) := by decide +kernel
theorem dX12_feed_6 : decode cX12_feed 6 = .ok (.getfield 131, 3) := by decide +kernel
theorem dX12_feed_9 : decode cX12_feed 9 = .ok (.bipush 20, 2) := by decide +kernel
theorem dX12_feed_11 : decode cX12_feed 11 = .ok (.iadd, 1) := by decide +kernel
theorem dX12_feed_12 : decode cX12_feed 12 = .ok (.sipush 1600, 3) := by decide +kernel
theorem dX12_feed_15 : decode cX12_feed 15 = .ok (.if_icmp .le 5, 3) := by decide +kernel
theorem dX12_feed_18 : decode cX12_feed 18 = .ok (.iconst (-1), 1) := by decide +kernel
theorem dX12_feed_19 : decode cX12_feed 19 = .ok (.ireturn, 1) := by decide +kernel
theorem dX12_feed_20 : decode cX12_feed 20 = .ok (.aload_n 0, 1) := by decide +kernel
theorem dX12_feed_21 : decode cX12_feed 21 = .ok (.iload_n 1, 1) := by decide +kernel
theorem dX12_feed_22 : decode cX12_feed 22 = .ok (.invokevirtual 134, 3) := by decide +kernel
theorem dX12_feed_25 : decode cX12_feed 25 = .ok (.aload_n 0, 1) := by decide +kernel
theorem dX12_feed_26 : decode cX12_feed 26 = .ok (.iload_n 2, 1) := by decide +kernel
theorem dX12_feed_27 : decode cX12_feed 27 = .ok (.invokevirtual 134, 3) := by decide +kernel
theorem dX12_feed_30 : decode cX12_feed 30 = .ok (.aload_n 0, 1) := by decide +kernel
theorem dX12_feed_31 : decode cX12_feed 31 = .ok (.iload_n 3, 1) := by decide +kernel
theorem dX12_feed_32 : decode cX12_feed 32 = .ok (.invokevirtual 134, 3) := by decide +kernel
theorem dX12_feed_35 : decode cX12_feed 35 = .ok (.aload_n 0, 1) := by decide +kernel
theorem dX12_feed_36 : decode cX12_feed 36 = .ok (.iload 4, 2) := by decide +kernel
theorem dX12_feed_38 : decode cX12_feed 38 = .ok (.invokevirtual 134, 3) := by decide +kernel
theorem dX12_feed_41 : decode cX12_feed 41 = .ok (.aload_n 0, 1) := by decide +kernel
theorem dX12_feed_42 : decode cX12_feed 42 = .ok (.iload 5, 2) := by decide +kernel
theorem dX12_feed_44 : decode cX12_feed 44 = .ok (.invokevirtual 134, 3) := by decide +kernel
theorem dX12_feed_47 : decode cX12_feed 47 = .ok (.aload_n 0, 1) := by decide +kernel
theorem dX12_feed_48 : decode cX12_feed 48 = .ok (.getfield 131, 3) := by decide +kernel
theorem dX12_feed_51 : decode cX12_feed 51 = .ok (.ireturn, 1) := by decide +kernel
theorem dX12_four_0 : decode cX12_four 0 = .ok (.bipush 24, 2) := by decide +kernel
theorem dX12_four_2 : decode cX12_four 2 = .ok (.istore_n 2, 1) := by decide +kernel
theorem dX12_four_3 : decode cX12_four 3 = .ok (.iload_n 2, 1) := by decide +kernel
theorem dX12_four_4 : decode cX12_four 4 = .ok (.ifCond .lt 32, 3) := by decide +kernel
theorem dX12_four_7 : decode cX12_four 7 = .ok (.aload_n 0, 1) := by decide +kernel
theorem dX12_four_8 : decode cX12_four 8 = .ok (.getfield 23, 3) := by decide +kernel
theorem dX12_four_11 : decode cX12_four 11 = .ok (.aload_n 0, 1) := by decide +kernel
theorem dX12_four_12 : decode cX12_four 12 = .ok (.getfield 131, 3) := by decide +kernel
theorem dX12_four_15 : decode cX12_four 15 = .ok (.iload_n 1, 1) := by decide +kernel
theorem dX12_four_16 : decode cX12_four 16 = .ok (.iload_n 2, 1) := by decide +kernel
theorem dX12_four_17 : decode cX12_four 17 = .ok (.ishr, 1) := by decide +kernel
theorem dX12_four_18 : decode cX12_four 18 = .ok (.i2b, 1) := by decide +kernel
theorem dX12_four_19 : decode cX12_four 19 = .ok (.bastore, 1) := by decide +kernel
theorem dX12_four_20 : decode cX12_four 20 = .ok (.aload_n 0, 1) := by decide +kernel
theorem dX12_four_21 : decode cX12_four 21 = .ok (.dup, 1) := by decide +kernel
theorem dX12_four_22 : decode cX12_four 22 = .ok (.getfield 131, 3) := by decide +kernel
theorem dX12_four_25 : decode cX12_four 25 = .ok (.iconst 1, 1) := by decide +kernel
theorem dX12_four_26 : decode cX12_four 26 = .ok (.iadd, 1) := by decide +kernel
theorem dX12_four_27 : decode cX12_four 27 = .ok (.putfield 131, 3) := by decide +kernel
theorem dX12_four_30 : decode cX12_four 30 = .ok (.iinc 2 (-8), 3) := by decide +kernel
theorem dX12_four_33 : decode cX12_four 33 = .ok (.goto (-30), 3) := by decide +kernel
theorem dX12_four_36 : decode cX12_four 36 = .ok (.return_, 1) := by decide +kernel
theorem dX12_end_0 : decode cX12_end 0 = .ok (.aload_n 0, 1) := by decide +kernel
theorem dX12_end_1 : decode cX12_end 1 = .ok (.iconst 0, 1) := by decide +kernel
theorem dX12_end_2 : decode cX12_end 2 = .ok (.putfield 114, 3) := by decide +kernel
theorem dX12_end_5 : decode cX12_end 5 = .ok (.iload_n 1, 1) := by decide +kernel
theorem dX12_end_6 : decode cX12_end 6 = .ok (.i2l, 1) := by decide +kernel
theorem dX12_end_7 : decode cX12_end 7 = .ok (.lconst 0, 1) := by decide +kernel
theorem dX12_end_8 : decode cX12_end 8 = .ok (.aload_n 0, 1) := by decide +kernel
theorem dX12_end_9 : decode cX12_end 9 = .ok (.getfield 131, 3) := by decide +kernel
theorem dX12_end_12 : decode cX12_end 12 = .ok (.i2l, 1) := by decide +kernel
theorem dX12_end_13 : decode cX12_end 13 = .ok (.invokestatic 119, 3) := by decide +kernel
theorem dX12_end_16 : decode cX12_end 16 = .ok (.ifCond .ne 5, 3) := by decide +kernel
theorem dX12_end_19 : decode cX12_end 19 = .ok (.iconst (-1), 1) := by decide +kernel
theorem dX12_end_20 : decode cX12_end 20 = .ok (.ireturn, 1) := by decide +kernel
theorem dX12_end_21 : decode cX12_end 21 = .ok (.aload_n 0, 1) := by decide +kernel
theorem dX12_end_22 : decode cX12_end 22 = .ok (.iload_n 1, 1) := by decide +kernel
theorem dX12_end_23 : decode cX12_end 23 = .ok (.putfield 131, 3) := by decide +kernel
theorem dX12_end_26 : decode cX12_end 26 = .ok (.iload_n 1, 1) := by decide +kernel
theorem dX12_end_27 : decode cX12_end 27 = .ok (.ireturn, 1) := by decide +kernel
theorem dX12_isByte_0 : decode cX12_isByte 0 = .ok (.iload_n 1, 1) := by decide +kernel
theorem dX12_isByte_1 : decode cX12_isByte 1 = .ok (.aload_n 0, 1) := by decide +kernel
theorem dX12_isByte_2 : decode cX12_isByte 2 = .ok (.getfield 131, 3) := by decide +kernel
theorem dX12_isByte_5 : decode cX12_isByte 5 = .ok (.if_icmp .ge 27, 3) := by decide +kernel
theorem dX12_isByte_8 : decode cX12_isByte 8 = .ok (.aload_n 0, 1) := by decide +kernel
theorem dX12_isByte_9 : decode cX12_isByte 9 = .ok (.getfield 23, 3) := by decide +kernel
theorem dX12_isByte_12 : decode cX12_isByte 12 = .ok (.iload_n 1, 1) := by decide +kernel
theorem dX12_isByte_13 : decode cX12_isByte 13 = .ok (.baload, 1) := by decide +kernel
theorem dX12_isByte_14 : decode cX12_isByte 14 = .ok (.iload_n 2, 1) := by decide +kernel
theorem dX12_isByte_15 : decode cX12_isByte 15 = .ok (.if_icmp .lt 17, 3) := by decide +kernel
theorem dX12_isByte_18 : decode cX12_isByte 18 = .ok (.aload_n 0, 1) := by decide +kernel
theorem dX12_isByte_19 : decode cX12_isByte 19 = .ok (.getfield 23, 3) := by decide +kernel
theorem dX12_isByte_22 : decode cX12_isByte 22 = .ok (.iload_n 1, 1) := by decide +kernel
theorem dX12_isByte_23 : decode cX12_isByte 23 = .ok (.baload, 1) := by decide +kernel
theorem dX12_isByte_24 : decode cX12_isByte 24 = .ok (.iload_n 3, 1) := by decide +kernel
theorem dX12_isByte_25 : decode cX12_isByte 25 = .ok (.if_icmp .gt 7, 3) := by decide +kernel
theorem dX12_isByte_28 : decode cX12_isByte 28 = .ok (.iconst 1, 1) := by decide +kernel
theorem dX12_isByte_29 : decode cX12_isByte 29 = .ok (.goto 4, 3) := by decide +kernel
theorem dX12_isByte_32 : decode cX12_isByte 32 = .ok (.iconst 0, 1) := by decide +kernel
theorem dX12_isByte_33 : decode cX12_isByte 33 = .ok (.ireturn, 1) := by decide +kernel
theorem dX12_next_0 : decode cX12_next 0 = .ok (.aload_n 0, 1) := by decide +kernel
theorem dX12_next_1 : decode cX12_next 1 = .ok (.aload_n 0, 1) := by decide +kernel
theorem dX12_next_2 : decode cX12_next 2 = .ok (.getfield 138, 3) := by decide +kernel
theorem dX12_next_5 : decode cX12_next 5 = .ok (.bipush 32, 2) := by decide +kernel
theorem dX12_next_7 : decode cX12_next 7 = .ok (.bipush 32, 2) := by decide +kernel
theorem dX12_next_9 : decode cX12_next 9 = .ok (.invokevirtual 141, 3) := by decide +kernel
theorem dX12_next_12 : decode cX12_next 12 = .ok (.ifCond .ne 18, 3) := by decide +kernel
theorem dX12_next_15 : decode cX12_next 15 = .ok (.aload_n 0, 1) := by decide +kernel
theorem dX12_next_16 : decode cX12_next 16 = .ok (.aload_n 0, 1) := by decide +kernel
theorem dX12_next_17 : decode cX12_next 17 = .ok (.getfield 138, 3) := by decide +kernel
theorem dX12_next_20 : decode cX12_next 20 = .ok (.bipush 10, 2) := by decide +kernel
theorem dX12_next_22 : decode cX12_next 22 = .ok (.bipush 10, 2) := by decide +kernel
theorem dX12_next_24 : decode cX12_next 24 = .ok (.invokevirtual 141, 3) := by decide +kernel
theorem dX12_next_27 : decode cX12_next 27 = .ok (.ifCond .eq 16, 3) := by decide +kernel
theorem dX12_next_30 : decode cX12_next 30 = .ok (.aload_n 0, 1) := by decide +kernel
theorem dX12_next_31 : decode cX12_next 31 = .ok (.dup, 1) := by decide +kernel
theorem dX12_next_32 : decode cX12_next 32 = .ok (.getfield 138, 3) := by decide +kernel
theorem dX12_next_35 : decode cX12_next 35 = .ok (.iconst 1, 1) := by decide +kernel
theorem dX12_next_36 : decode cX12_next 36 = .ok (.iadd, 1) := by decide +kernel
theorem dX12_next_37 : decode cX12_next 37 = .ok (.putfield 138, 3) := by decide +kernel
theorem dX12_next_40 : decode cX12_next 40 = .ok (.goto (-40), 3) := by decide +kernel
theorem dX12_next_43 : decode cX12_next 43 = .ok (.aload_n 0, 1) := by decide +kernel
theorem dX12_next_44 : decode cX12_next 44 = .ok (.aload_n 0, 1) := by decide +kernel
theorem dX12_next_45 : decode cX12_next 45 = .ok (.getfield 138, 3) := by decide +kernel
theorem dX12_next_48 : decode cX12_next 48 = .ok (.putfield 145, 3) := by decide +kernel
theorem dX12_next_51 : decode cX12_next 51 = .ok (.aload_n 0, 1) := by decide +kernel
theorem dX12_next_52 : decode cX12_next 52 = .ok (.iconst 0, 1) := by decide +kernel
theorem dX12_next_53 : decode cX12_next 53 = .ok (.putfield 148, 3) := by decide +kernel
theorem dX12_next_56 : decode cX12_next 56 = .ok (.aload_n 0, 1) := by decide +kernel
theorem dX12_next_57 : decode cX12_next 57 = .ok (.lconst 0, 1) := by decide +kernel
theorem dX12_next_58 : decode cX12_next 58 = .ok (.putfield 151, 3) := by decide +kernel
theorem dX12_next_61 : decode cX12_next 61 = .ok (.aload_n 0, 1) := by decide +kernel
theorem dX12_next_62 : decode cX12_next 62 = .ok (.getfield 138, 3) := by decide +kernel
theorem dX12_next_65 : decode cX12_next 65 = .ok (.aload_n 0, 1) := by decide +kernel
theorem dX12_next_66 : decode cX12_next 66 = .ok (.getfield 131, 3) := by decide +kernel
theorem dX12_next_69 : decode cX12_next 69 = .ok (.if_icmp .ne 11, 3) := by decide +kernel
theorem dX12_next_72 : decode cX12_next 72 = .ok (.aload_n 0, 1) := by decide +kernel
theorem dX12_next_73 : decode cX12_next 73 = .ok (.iconst 0, 1) := by decide +kernel
theorem dX12_next_74 : decode cX12_next 74 = .ok (.putfield 155, 3) := by decide +kernel
theorem dX12_next_77 : decode cX12_next 77 = .ok (.goto 230, 3) := by decide +kernel
theorem dX12_next_80 : decode cX12_next 80 = .ok (.aload_n 0, 1) := by decide +kernel
theorem dX12_next_81 : decode cX12_next 81 = .ok (.aload_n 0, 1) := by decide +kernel
theorem dX12_next_82 : decode cX12_next 82 = .ok (.getfield 138, 3) := by decide +kernel
theorem dX12_next_85 : decode cX12_next 85 = .ok (.bipush 97, 2) := by decide +kernel
theorem dX12_next_87 : decode cX12_next 87 = .ok (.bipush 122, 2) := by decide +kernel
theorem dX12_next_89 : decode cX12_next 89 = .ok (.invokevirtual 141, 3) := by decide +kernel
theorem dX12_next_92 : decode cX12_next 92 = .ok (.ifCond .eq 96, 3) := by decide +kernel
theorem dX12_next_95 : decode cX12_next 95 = .ok (.aload_n 0, 1) := by decide +kernel
theorem dX12_next_96 : decode cX12_next 96 = .ok (.iconst 1, 1) := by decide +kernel
theorem dX12_next_97 : decode cX12_next 97 = .ok (.putfield 155, 3) := by decide +kernel
theorem dX12_next_100 : decode cX12_next 100 = .ok (.iconst 0, 1) := by decide +kernel
theorem dX12_next_101 : decode cX12_next 101 = .ok (.istore_n 1, 1) := by decide +kernel
theorem dX12_next_102 : decode cX12_next 102 = .ok (.aload_n 0, 1) := by decide +kernel
theorem dX12_next_103 : decode cX12_next 103 = .ok (.aload_n 0, 1) := by decide +kernel
theorem dX12_next_104 : decode cX12_next 104 = .ok (.getfield 138, 3) := by decide +kernel
theorem dX12_next_107 : decode cX12_next 107 = .ok (.bipush 97, 2) := by decide +kernel
theorem dX12_next_109 : decode cX12_next 109 = .ok (.bipush 122, 2) := by decide +kernel
theorem dX12_next_111 : decode cX12_next 111 = .ok (.invokevirtual 141, 3) := by decide +kernel
theorem dX12_next_114 : decode cX12_next 114 = .ok (.ifCond .eq 71, 3) := by decide +kernel
theorem dX12_next_117 : decode cX12_next 117 = .ok (.aload_n 0, 1) := by decide +kernel
theorem dX12_next_118 : decode cX12_next 118 = .ok (.iload_n 1, 1) := by decide +kernel
theorem dX12_next_119 : decode cX12_next 119 = .ok (.bipush 11, 2) := by decide +kernel
theorem dX12_next_121 : decode cX12_next 121 = .ok (.if_icmp .le 9, 3) := by decide +kernel
theorem dX12_next_124 : decode cX12_next 124 = .ok (.ldc2_w 158, 3) := by decide +kernel
theorem dX12_next_127 : decode cX12_next 127 = .ok (.goto 26, 3) := by decide +kernel
theorem dX12_next_130 : decode cX12_next 130 = .ok (.ldc2_w 160, 3) := by decide +kernel
theorem dX12_next_133 : decode cX12_next 133 = .ok (.aload_n 0, 1) := by decide +kernel
theorem dX12_next_134 : decode cX12_next 134 = .ok (.getfield 151, 3) := by decide +kernel
theorem dX12_next_137 : decode cX12_next 137 = .ok (.lmul, 1) := by decide +kernel
theorem dX12_next_138 : decode cX12_next 138 = .ok (.aload_n 0, 1) := by decide +kernel
theorem dX12_next_139 : decode cX12_next 139 = .ok (.getfield 23, 3) := by decide +kernel
theorem dX12_next_142 : decode cX12_next 142 = .ok (.aload_n 0, 1) := by decide +kernel
theorem dX12_next_143 : decode cX12_next 143 = .ok (.getfield 138, 3) := by decide +kernel
theorem dX12_next_146 : decode cX12_next 146 = .ok (.baload, 1) := by decide +kernel
theorem dX12_next_147 : decode cX12_next 147 = .ok (.i2l, 1) := by decide +kernel
theorem dX12_next_148 : decode cX12_next 148 = .ok (.ladd, 1) := by decide +kernel
theorem dX12_next_149 : decode cX12_next 149 = .ok (.ldc2_w 162, 3) := by decide +kernel
theorem dX12_next_152 : decode cX12_next 152 = .ok (.lsub, 1) := by decide +kernel
theorem dX12_next_153 : decode cX12_next 153 = .ok (.putfield 151, 3) := by decide +kernel
theorem dX12_next_156 : decode cX12_next 156 = .ok (.iload_n 1, 1) := by decide +kernel
theorem dX12_next_157 : decode cX12_next 157 = .ok (.bipush 11, 2) := by decide +kernel
theorem dX12_next_159 : decode cX12_next 159 = .ok (.if_icmp .le 10, 3) := by decide +kernel
theorem dX12_next_162 : decode cX12_next 162 = .ok (.aload_n 0, 1) := by decide +kernel
theorem dX12_next_163 : decode cX12_next 163 = .ok (.ldc2_w 158, 3) := by decide +kernel
theorem dX12_next_166 : decode cX12_next 166 = .ok (.putfield 151, 3) := by decide +kernel
theorem dX12_next_169 : decode cX12_next 169 = .ok (.aload_n 0, 1) := by decide +kernel
theorem dX12_next_170 : decode cX12_next 170 = .ok (.dup, 1) := by decide +kernel
theorem dX12_next_171 : decode cX12_next 171 = .ok (.getfield 138, 3) := by decide +kernel
theorem dX12_next_174 : decode cX12_next 174 = .ok (.iconst 1, 1) := by decide +kernel
theorem dX12_next_175 : decode cX12_next 175 = .ok (.iadd, 1) := by decide +kernel
theorem dX12_next_176 : decode cX12_next 176 = .ok (.putfield 138, 3) := by decide +kernel
theorem dX12_next_179 : decode cX12_next 179 = .ok (.iinc 1 1, 3) := by decide +kernel
theorem dX12_next_182 : decode cX12_next 182 = .ok (.goto (-80), 3) := by decide +kernel
theorem dX12_next_185 : decode cX12_next 185 = .ok (.goto 122, 3) := by decide +kernel
theorem dX12_next_188 : decode cX12_next 188 = .ok (.aload_n 0, 1) := by decide +kernel
theorem dX12_next_189 : decode cX12_next 189 = .ok (.aload_n 0, 1) := by decide +kernel
theorem dX12_next_190 : decode cX12_next 190 = .ok (.getfield 138, 3) := by decide +kernel
theorem dX12_next_193 : decode cX12_next 193 = .ok (.bipush 48, 2) := by decide +kernel
theorem dX12_next_195 : decode cX12_next 195 = .ok (.bipush 57, 2) := by decide +kernel
theorem dX12_next_197 : decode cX12_next 197 = .ok (.invokevirtual 141, 3) := by decide +kernel
theorem dX12_next_200 : decode cX12_next 200 = .ok (.ifCond .eq 74, 3) := by decide +kernel
theorem dX12_next_203 : decode cX12_next 203 = .ok (.aload_n 0, 1) := by decide +kernel
theorem dX12_next_204 : decode cX12_next 204 = .ok (.iconst 2, 1) := by decide +kernel
theorem dX12_next_205 : decode cX12_next 205 = .ok (.putfield 155, 3) := by decide +kernel
theorem dX12_next_208 : decode cX12_next 208 = .ok (.aload_n 0, 1) := by decide +kernel
theorem dX12_next_209 : decode cX12_next 209 = .ok (.aload_n 0, 1) := by decide +kernel
theorem dX12_next_210 : decode cX12_next 210 = .ok (.getfield 138, 3) := by decide +kernel
theorem dX12_next_213 : decode cX12_next 213 = .ok (.bipush 48, 2) := by decide +kernel
theorem dX12_next_215 : decode cX12_next 215 = .ok (.bipush 57, 2) := by decide +kernel
theorem dX12_next_217 : decode cX12_next 217 = .ok (.invokevirtual 141, 3) := by decide +kernel
theorem dX12_next_220 : decode cX12_next 220 = .ok (.ifCond .eq 87, 3) := by decide +kernel
theorem dX12_next_223 : decode cX12_next 223 = .ok (.aload_n 0, 1) := by decide +kernel
theorem dX12_next_224 : decode cX12_next 224 = .ok (.aload_n 0, 1) := by decide +kernel
theorem dX12_next_225 : decode cX12_next 225 = .ok (.getfield 148, 3) := by decide +kernel
theorem dX12_next_228 : decode cX12_next 228 = .ok (.ldc 164, 2) := by decide +kernel
theorem dX12_next_230 : decode cX12_next 230 = .ok (.if_icmp .le 8, 3) := by decide +kernel
theorem dX12_next_233 : decode cX12_next 233 = .ok (.ldc 165, 2) := by decide +kernel
theorem dX12_next_235 : decode cX12_next 235 = .ok (.goto 23, 3) := by decide +kernel
theorem dX12_next_238 : decode cX12_next 238 = .ok (.bipush 10, 2) := by decide +kernel
theorem dX12_next_240 : decode cX12_next 240 = .ok (.aload_n 0, 1) := by decide +kernel
theorem dX12_next_241 : decode cX12_next 241 = .ok (.getfield 148, 3) := by decide +kernel
theorem dX12_next_244 : decode cX12_next 244 = .ok (.imul, 1) := by decide +kernel
theorem dX12_next_245 : decode cX12_next 245 = .ok (.aload_n 0, 1) := by decide +kernel
theorem dX12_next_246 : decode cX12_next 246 = .ok (.getfield 23, 3) := by decide +kernel
theorem dX12_next_249 : decode cX12_next 249 = .ok (.aload_n 0, 1) := by decide +kernel
theorem dX12_next_250 : decode cX12_next 250 = .ok (.getfield 138, 3) := by decide +kernel
theorem dX12_next_253 : decode cX12_next 253 = .ok (.baload, 1) := by decide +kernel
theorem dX12_next_254 : decode cX12_next 254 = .ok (.iadd, 1) := by decide +kernel
theorem dX12_next_255 : decode cX12_next 255 = .ok (.bipush 48, 2) := by decide +kernel
theorem dX12_next_257 : decode cX12_next 257 = .ok (.isub, 1) := by decide +kernel
theorem dX12_next_258 : decode cX12_next 258 = .ok (.putfield 148, 3) := by decide +kernel
theorem dX12_next_261 : decode cX12_next 261 = .ok (.aload_n 0, 1) := by decide +kernel
theorem dX12_next_262 : decode cX12_next 262 = .ok (.dup, 1) := by decide +kernel
theorem dX12_next_263 : decode cX12_next 263 = .ok (.getfield 138, 3) := by decide +kernel
theorem dX12_next_266 : decode cX12_next 266 = .ok (.iconst 1, 1) := by decide +kernel
theorem dX12_next_267 : decode cX12_next 267 = .ok (.iadd, 1) := by decide +kernel
theorem dX12_next_268 : decode cX12_next 268 = .ok (.putfield 138, 3) := by decide +kernel
theorem dX12_next_271 : decode cX12_next 271 = .ok (.goto (-63), 3) := by decide +kernel
theorem dX12_next_274 : decode cX12_next 274 = .ok (.aload_n 0, 1) := by decide +kernel
theorem dX12_next_275 : decode cX12_next 275 = .ok (.aload_n 0, 1) := by decide +kernel
theorem dX12_next_276 : decode cX12_next 276 = .ok (.getfield 23, 3) := by decide +kernel
theorem dX12_next_279 : decode cX12_next 279 = .ok (.aload_n 0, 1) := by decide +kernel
theorem dX12_next_280 : decode cX12_next 280 = .ok (.getfield 138, 3) := by decide +kernel
theorem dX12_next_283 : decode cX12_next 283 = .ok (.baload, 1) := by decide +kernel
theorem dX12_next_284 : decode cX12_next 284 = .ok (.bipush 59, 2) := by decide +kernel
theorem dX12_next_286 : decode cX12_next 286 = .ok (.if_icmp .ne 7, 3) := by decide +kernel
theorem dX12_next_289 : decode cX12_next 289 = .ok (.iconst 3, 1) := by decide +kernel
theorem dX12_next_290 : decode cX12_next 290 = .ok (.goto 4, 3) := by decide +kernel
theorem dX12_next_293 : decode cX12_next 293 = .ok (.iconst 4, 1) := by decide +kernel
theorem dX12_next_294 : decode cX12_next 294 = .ok (.putfield 155, 3) := by decide +kernel
theorem dX12_next_297 : decode cX12_next 297 = .ok (.aload_n 0, 1) := by decide +kernel
theorem dX12_next_298 : decode cX12_next 298 = .ok (.dup, 1) := by decide +kernel
theorem dX12_next_299 : decode cX12_next 299 = .ok (.getfield 138, 3) := by decide +kernel
theorem dX12_next_302 : decode cX12_next 302 = .ok (.iconst 1, 1) := by decide +kernel
theorem dX12_next_303 : decode cX12_next 303 = .ok (.iadd, 1) := by decide +kernel
theorem dX12_next_304 : decode cX12_next 304 = .ok (.putfield 138, 3) := by decide +kernel
theorem dX12_next_307 : decode cX12_next 307 = .ok (.return_, 1) := by decide +kernel
theorem dX12_isGood_0 : decode cX12_isGood 0 = .ok (.aload_n 0, 1) := by decide +kernel
theorem dX12_isGood_1 : decode cX12_isGood 1 = .ok (.getfield 166, 3) := by decide +kernel
theorem dX12_isGood_4 : decode cX12_isGood 4 = .ok (.ifCond .ne 7, 3) := by decide +kernel
theorem dX12_isGood_7 : decode cX12_isGood 7 = .ok (.iconst 1, 1) := by decide +kernel
theorem dX12_isGood_8 : decode cX12_isGood 8 = .ok (.goto 4, 3) := by decide +kernel
theorem dX12_isGood_11 : decode cX12_isGood 11 = .ok (.iconst 0, 1) := by decide +kernel
theorem dX12_isGood_12 : decode cX12_isGood 12 = .ok (.ireturn, 1) := by decide +kernel
theorem dX12_fails_0 : decode cX12_fails 0 = .ok (.aload_n 0, 1) := by decide +kernel
theorem dX12_fails_1 : decode cX12_fails 1 = .ok (.getfield 166, 3) := by decide +kernel
theorem dX12_fails_4 : decode cX12_fails 4 = .ok (.ifCond .eq 4, 3) := by decide +kernel
theorem dX12_fails_7 : decode cX12_fails 7 = .ok (.return_, 1) := by decide +kernel
theorem dX12_fails_8 : decode cX12_fails 8 = .ok (.aload_n 0, 1) := by decide +kernel
theorem dX12_fails_9 : decode cX12_fails 9 = .ok (.iload_n 1, 1) := by decide +kernel
theorem dX12_fails_10 : decode cX12_fails 10 = .ok (.putfield 166, 3) := by decide +kernel
theorem dX12_fails_13 : decode cX12_fails 13 = .ok (.aload_n 0, 1) := by decide +kernel
theorem dX12_fails_14 : decode cX12_fails 14 = .ok (.aload_n 0, 1) := by decide +kernel
theorem dX12_fails_15 : decode cX12_fails 15 = .ok (.getfield 145, 3) := by decide +kernel
theorem dX12_fails_18 : decode cX12_fails 18 = .ok (.putfield 169, 3) := by decide +kernel
theorem dX12_fails_21 : decode cX12_fails 21 = .ok (.return_, 1) := by decide +kernel
theorem dX12_is_0 : decode cX12_is 0 = .ok (.aload_n 0, 1) := by decide +kernel
theorem dX12_is_1 : decode cX12_is 1 = .ok (.getfield 166, 3) := by decide +kernel
theorem dX12_is_4 : decode cX12_is 4 = .ok (.ifCond .ne 24, 3) := by decide +kernel
theorem dX12_is_7 : decode cX12_is 7 = .ok (.aload_n 0, 1) := by decide +kernel
theorem dX12_is_8 : decode cX12_is 8 = .ok (.getfield 155, 3) := by decide +kernel
theorem dX12_is_11 : decode cX12_is 11 = .ok (.iconst 1, 1) := by decide +kernel
theorem dX12_is_12 : decode cX12_is 12 = .ok (.if_icmp .ne 16, 3) := by decide +kernel
theorem dX12_is_15 : decode cX12_is 15 = .ok (.aload_n 0, 1) := by decide +kernel
theorem dX12_is_16 : decode cX12_is 16 = .ok (.getfield 151, 3) := by decide +kernel
theorem dX12_is_19 : decode cX12_is 19 = .ok (.lload_n 1, 1) := by decide +kernel
theorem dX12_is_20 : decode cX12_is 20 = .ok (.lcmp, 1) := by decide +kernel
theorem dX12_is_21 : decode cX12_is 21 = .ok (.ifCond .ne 7, 3) := by decide +kernel
theorem dX12_is_24 : decode cX12_is 24 = .ok (.iconst 1, 1) := by decide +kernel
theorem dX12_is_25 : decode cX12_is 25 = .ok (.goto 4, 3) := by decide +kernel
theorem dX12_is_28 : decode cX12_is 28 = .ok (.iconst 0, 1) := by decide +kernel
theorem dX12_is_29 : decode cX12_is 29 = .ok (.ireturn, 1) := by decide +kernel
theorem dX12_takes_0 : decode cX12_takes 0 = .ok (.aload_n 0, 1) := by decide +kernel
theorem dX12_takes_1 : decode cX12_takes 1 = .ok (.lload_n 1, 1) := by decide +kernel
theorem dX12_takes_2 : decode cX12_takes 2 = .ok (.invokevirtual 172, 3) := by decide +kernel
theorem dX12_takes_5 : decode cX12_takes 5 = .ok (.ifCond .ne 5, 3) := by decide +kernel
theorem dX12_takes_8 : decode cX12_takes 8 = .ok (.iconst 0, 1) := by decide +kernel
theorem dX12_takes_9 : decode cX12_takes 9 = .ok (.ireturn, 1) := by decide +kernel
theorem dX12_takes_10 : decode cX12_takes 10 = .ok (.aload_n 0, 1) := by decide +kernel
theorem dX12_takes_11 : decode cX12_takes 11 = .ok (.invokevirtual 176, 3) := by decide +kernel
theorem dX12_takes_14 : decode cX12_takes 14 = .ok (.iconst 1, 1) := by decide +kernel
theorem dX12_takes_15 : decode cX12_takes 15 = .ok (.ireturn, 1) := by decide +kernel
theorem dX12_asks_0 : decode cX12_asks 0 = .ok (.aload_n 0, 1) := by decide +kernel
theorem dX12_asks_1 : decode cX12_asks 1 = .ok (.lload_n 1, 1) := by decide +kernel
theorem dX12_asks_2 : decode cX12_asks 2 = .ok (.invokevirtual 179, 3) := by decide +kernel
theorem dX12_asks_5 : decode cX12_asks 5 = .ok (.ifCond .ne 8, 3) := by decide +kernel
theorem dX12_asks_8 : decode cX12_asks 8 = .ok (.aload_n 0, 1) := by decide +kernel
theorem dX12_asks_9 : decode cX12_asks 9 = .ok (.iconst 1, 1) := by decide +kernel
theorem dX12_asks_10 : decode cX12_asks 10 = .ok (.invokevirtual 182, 3) := by decide +kernel
theorem dX12_asks_13 : decode cX12_asks 13 = .ok (.return_, 1) := by decide +kernel
theorem dX12_number_0 : decode cX12_number 0 = .ok (.aload_n 0, 1) := by decide +kernel
theorem dX12_number_1 : decode cX12_number 1 = .ok (.getfield 166, 3) := by decide +kernel
theorem dX12_number_4 : decode cX12_number 4 = .ok (.ifCond .eq 5, 3) := by decide +kernel
theorem dX12_number_7 : decode cX12_number 7 = .ok (.iload_n 1, 1) := by decide +kernel
theorem dX12_number_8 : decode cX12_number 8 = .ok (.ireturn, 1) := by decide +kernel
theorem dX12_number_9 : decode cX12_number 9 = .ok (.aload_n 0, 1) := by decide +kernel
theorem dX12_number_10 : decode cX12_number 10 = .ok (.getfield 155, 3) := by decide +kernel
theorem dX12_number_13 : decode cX12_number 13 = .ok (.iconst 2, 1) := by decide +kernel
theorem dX12_number_14 : decode cX12_number 14 = .ok (.if_icmp .eq 10, 3) := by decide +kernel
theorem dX12_number_17 : decode cX12_number 17 = .ok (.aload_n 0, 1) := by decide +kernel
theorem dX12_number_18 : decode cX12_number 18 = .ok (.iconst 1, 1) := by decide +kernel
theorem dX12_number_19 : decode cX12_number 19 = .ok (.invokevirtual 182, 3) := by decide +kernel
theorem dX12_number_22 : decode cX12_number 22 = .ok (.iload_n 1, 1) := by decide +kernel
theorem dX12_number_23 : decode cX12_number 23 = .ok (.ireturn, 1) := by decide +kernel
theorem dX12_number_24 : decode cX12_number 24 = .ok (.aload_n 0, 1) := by decide +kernel
theorem dX12_number_25 : decode cX12_number 25 = .ok (.getfield 148, 3) := by decide +kernel
theorem dX12_number_28 : decode cX12_number 28 = .ok (.i2l, 1) := by decide +kernel
theorem dX12_number_29 : decode cX12_number 29 = .ok (.iload_n 1, 1) := by decide +kernel
theorem dX12_number_30 : decode cX12_number 30 = .ok (.i2l, 1) := by decide +kernel
theorem dX12_number_31 : decode cX12_number 31 = .ok (.iload_n 2, 1) := by decide +kernel
theorem dX12_number_32 : decode cX12_number 32 = .ok (.i2l, 1) := by decide +kernel
theorem dX12_number_33 : decode cX12_number 33 = .ok (.invokestatic 119, 3) := by decide +kernel
theorem dX12_number_36 : decode cX12_number 36 = .ok (.ifCond .ne 10, 3) := by decide +kernel
theorem dX12_number_39 : decode cX12_number 39 = .ok (.aload_n 0, 1) := by decide +kernel
theorem dX12_number_40 : decode cX12_number 40 = .ok (.iconst 2, 1) := by decide +kernel
theorem dX12_number_41 : decode cX12_number 41 = .ok (.invokevirtual 182, 3) := by decide +kernel
theorem dX12_number_44 : decode cX12_number 44 = .ok (.iload_n 1, 1) := by decide +kernel
theorem dX12_number_45 : decode cX12_number 45 = .ok (.ireturn, 1) := by decide +kernel
theorem dX12_number_46 : decode cX12_number 46 = .ok (.aload_n 0, 1) := by decide +kernel
theorem dX12_number_47 : decode cX12_number 47 = .ok (.getfield 148, 3) := by decide +kernel
theorem dX12_number_50 : decode cX12_number 50 = .ok (.istore_n 3, 1) := by decide +kernel
theorem dX12_number_51 : decode cX12_number 51 = .ok (.aload_n 0, 1) := by decide +kernel
theorem dX12_number_52 : decode cX12_number 52 = .ok (.invokevirtual 176, 3) := by decide +kernel
theorem dX12_number_55 : decode cX12_number 55 = .ok (.iload_n 3, 1) := by decide +kernel
theorem dX12_number_56 : decode cX12_number 56 = .ok (.ireturn, 1) := by decide +kernel
theorem dX12_number__0 : decode cX12_number_ 0 = .ok (.aload_n 0, 1) := by decide +kernel
theorem dX12_number__1 : decode cX12_number_ 1 = .ok (.lload_n 1, 1) := by decide +kernel
theorem dX12_number__2 : decode cX12_number_ 2 = .ok (.invokevirtual 185, 3) := by decide +kernel
theorem dX12_number__5 : decode cX12_number_ 5 = .ok (.aload_n 0, 1) := by decide +kernel
theorem dX12_number__6 : decode cX12_number_ 6 = .ok (.iload_n 3, 1) := by decide +kernel
theorem dX12_number__7 : decode cX12_number_ 7 = .ok (.iload 4, 2) := by decide +kernel
theorem dX12_number__9 : decode cX12_number_ 9 = .ok (.invokevirtual 189, 3) := by decide +kernel
theorem dX12_number__12 : decode cX12_number_ 12 = .ok (.ireturn, 1) := by decide +kernel
theorem dX12_ends_0 : decode cX12_ends 0 = .ok (.aload_n 0, 1) := by decide +kernel
theorem dX12_ends_1 : decode cX12_ends 1 = .ok (.getfield 155, 3) := by decide +kernel
theorem dX12_ends_4 : decode cX12_ends 4 = .ok (.iconst 3, 1) := by decide +kernel
theorem dX12_ends_5 : decode cX12_ends 5 = .ok (.if_icmp .eq 8, 3) := by decide +kernel
theorem dX12_ends_8 : decode cX12_ends 8 = .ok (.aload_n 0, 1) := by decide +kernel
theorem dX12_ends_9 : decode cX12_ends 9 = .ok (.iconst 1, 1) := by decide +kernel
theorem dX12_ends_10 : decode cX12_ends 10 = .ok (.invokevirtual 182, 3) := by decide +kernel
theorem dX12_ends_13 : decode cX12_ends 13 = .ok (.aload_n 0, 1) := by decide +kernel
theorem dX12_ends_14 : decode cX12_ends 14 = .ok (.getfield 166, 3) := by decide +kernel
theorem dX12_ends_17 : decode cX12_ends 17 = .ok (.ifCond .ne 7, 3) := by decide +kernel
theorem dX12_ends_20 : decode cX12_ends 20 = .ok (.aload_n 0, 1) := by decide +kernel
theorem dX12_ends_21 : decode cX12_ends 21 = .ok (.invokevirtual 176, 3) := by decide +kernel
theorem dX12_ends_24 : decode cX12_ends 24 = .ok (.return_, 1) := by decide +kernel
theorem dX12_begins_0 : decode cX12_begins 0 = .ok (.aload_n 0, 1) := by decide +kernel
theorem dX12_begins_1 : decode cX12_begins 1 = .ok (.iconst 0, 1) := by decide +kernel
theorem dX12_begins_2 : decode cX12_begins 2 = .ok (.putfield 166, 3) := by decide +kernel
theorem dX12_begins_5 : decode cX12_begins 5 = .ok (.aload_n 0, 1) := by decide +kernel
theorem dX12_begins_6 : decode cX12_begins 6 = .ok (.iconst (-1), 1) := by decide +kernel
theorem dX12_begins_7 : decode cX12_begins 7 = .ok (.putfield 169, 3) := by decide +kernel
theorem dX12_begins_10 : decode cX12_begins 10 = .ok (.aload_n 0, 1) := by decide +kernel
theorem dX12_begins_11 : decode cX12_begins 11 = .ok (.iconst 0, 1) := by decide +kernel
theorem dX12_begins_12 : decode cX12_begins 12 = .ok (.putfield 138, 3) := by decide +kernel
theorem dX12_begins_15 : decode cX12_begins 15 = .ok (.aload_n 0, 1) := by decide +kernel
theorem dX12_begins_16 : decode cX12_begins 16 = .ok (.invokevirtual 176, 3) := by decide +kernel
theorem dX12_begins_19 : decode cX12_begins 19 = .ok (.return_, 1) := by decide +kernel
theorem dX12_isOver_0 : decode cX12_isOver 0 = .ok (.aload_n 0, 1) := by decide +kernel
theorem dX12_isOver_1 : decode cX12_isOver 1 = .ok (.iconst 0, 1) := by decide +kernel
theorem dX12_isOver_2 : decode cX12_isOver 2 = .ok (.putfield 131, 3) := by decide +kernel
theorem dX12_isOver_5 : decode cX12_isOver 5 = .ok (.aload_n 0, 1) := by decide +kernel
theorem dX12_isOver_6 : decode cX12_isOver 6 = .ok (.aload_n 0, 1) := by decide +kernel
theorem dX12_isOver_7 : decode cX12_isOver 7 = .ok (.getfield 166, 3) := by decide +kernel
theorem dX12_isOver_10 : decode cX12_isOver 10 = .ok (.putfield 193, 3) := by decide +kernel
theorem dX12_isOver_13 : decode cX12_isOver 13 = .ok (.aload_n 0, 1) := by decide +kernel
theorem dX12_isOver_14 : decode cX12_isOver 14 = .ok (.aload_n 0, 1) := by decide +kernel
theorem dX12_isOver_15 : decode cX12_isOver 15 = .ok (.getfield 166, 3) := by decide +kernel
theorem dX12_isOver_18 : decode cX12_isOver 18 = .ok (.ifCond .ne 7, 3) := by decide +kernel
theorem dX12_isOver_21 : decode cX12_isOver 21 = .ok (.iconst (-1), 1) := by decide +kernel
theorem dX12_isOver_22 : decode cX12_isOver 22 = .ok (.goto 7, 3) := by decide +kernel
theorem dX12_isOver_25 : decode cX12_isOver 25 = .ok (.aload_n 0, 1) := by decide +kernel
theorem dX12_isOver_26 : decode cX12_isOver 26 = .ok (.getfield 169, 3) := by decide +kernel
theorem dX12_isOver_29 : decode cX12_isOver 29 = .ok (.putfield 27, 3) := by decide +kernel
theorem dX12_isOver_32 : decode cX12_isOver 32 = .ok (.return_, 1) := by decide +kernel
theorem dX12_fault_0 : decode cX12_fault 0 = .ok (.aload_n 0, 1) := by decide +kernel
theorem dX12_fault_1 : decode cX12_fault 1 = .ok (.iconst 0, 1) := by decide +kernel
theorem dX12_fault_2 : decode cX12_fault 2 = .ok (.putfield 114, 3) := by decide +kernel
theorem dX12_fault_5 : decode cX12_fault 5 = .ok (.iload_n 1, 1) := by decide +kernel
theorem dX12_fault_6 : decode cX12_fault 6 = .ok (.ifCond .ne 10, 3) := by decide +kernel
theorem dX12_fault_9 : decode cX12_fault 9 = .ok (.aload_n 0, 1) := by decide +kernel
theorem dX12_fault_10 : decode cX12_fault 10 = .ok (.getfield 193, 3) := by decide +kernel
theorem dX12_fault_13 : decode cX12_fault 13 = .ok (.goto 16, 3) := by decide +kernel
theorem dX12_fault_16 : decode cX12_fault 16 = .ok (.iload_n 1, 1) := by decide +kernel
theorem dX12_fault_17 : decode cX12_fault 17 = .ok (.iconst 1, 1) := by decide +kernel
theorem dX12_fault_18 : decode cX12_fault 18 = .ok (.if_icmp .ne 10, 3) := by decide +kernel
theorem dX12_fault_21 : decode cX12_fault 21 = .ok (.aload_n 0, 1) := by decide +kernel
theorem dX12_fault_22 : decode cX12_fault 22 = .ok (.getfield 27, 3) := by decide +kernel
theorem dX12_fault_25 : decode cX12_fault 25 = .ok (.goto 4, 3) := by decide +kernel
theorem dX12_fault_28 : decode cX12_fault 28 = .ok (.iconst (-1), 1) := by decide +kernel
theorem dX12_fault_29 : decode cX12_fault 29 = .ok (.ireturn, 1) := by decide +kernel
theorem dX12_lampLine_0 : decode cX12_lampLine 0 = .ok (.iconst 2, 1) := by decide +kernel
theorem dX12_lampLine_1 : decode cX12_lampLine 1 = .ok (.bipush 16, 2) := by decide +kernel
theorem dX12_lampLine_3 : decode cX12_lampLine 3 = .ok (.aload_n 0, 1) := by decide +kernel
theorem dX12_lampLine_4 : decode cX12_lampLine 4 = .ok (.getfield 40, 3) := by decide +kernel
theorem dX12_lampLine_7 : decode cX12_lampLine 7 = .ok (.iconst 4, 1) := by decide +kernel
theorem dX12_lampLine_8 : decode cX12_lampLine 8 = .ok (.iaload, 1) := by decide +kernel
theorem dX12_lampLine_9 : decode cX12_lampLine 9 = .ok (.iadd, 1) := by decide +kernel
theorem dX12_lampLine_10 : decode cX12_lampLine 10 = .ok (.imul, 1) := by decide +kernel
theorem dX12_lampLine_11 : decode cX12_lampLine 11 = .ok (.istore_n 1, 1) := by decide +kernel
theorem dX12_lampLine_12 : decode cX12_lampLine 12 = .ok (.aload_n 0, 1) := by decide +kernel
theorem dX12_lampLine_13 : decode cX12_lampLine 13 = .ok (.getfield 43, 3) := by decide +kernel
theorem dX12_lampLine_16 : decode cX12_lampLine 16 = .ok (.iload_n 1, 1) := by decide +kernel
theorem dX12_lampLine_17 : decode cX12_lampLine 17 = .ok (.aload_n 0, 1) := by decide +kernel
theorem dX12_lampLine_18 : decode cX12_lampLine 18 = .ok (.ldc2_w 196, 3) := by decide +kernel
theorem dX12_lampLine_21 : decode cX12_lampLine 21 = .ok (.iconst 0, 1) := by decide +kernel
theorem dX12_lampLine_22 : decode cX12_lampLine 22 = .ok (.aload_n 0, 1) := by decide +kernel
theorem dX12_lampLine_23 : decode cX12_lampLine 23 = .ok (.getfield 34, 3) := by decide +kernel
theorem dX12_lampLine_26 : decode cX12_lampLine 26 = .ok (.iconst 4, 1) := by decide +kernel
theorem dX12_lampLine_27 : decode cX12_lampLine 27 = .ok (.iaload, 1) := by decide +kernel
theorem dX12_lampLine_28 : decode cX12_lampLine 28 = .ok (.iconst 1, 1) := by decide +kernel
theorem dX12_lampLine_29 : decode cX12_lampLine 29 = .ok (.isub, 1) := by decide +kernel
theorem dX12_lampLine_30 : decode cX12_lampLine 30 = .ok (.invokevirtual 198, 3) := by decide +kernel
theorem dX12_lampLine_33 : decode cX12_lampLine 33 = .ok (.iastore, 1) := by decide +kernel
theorem dX12_lampLine_34 : decode cX12_lampLine 34 = .ok (.aload_n 0, 1) := by decide +kernel
theorem dX12_lampLine_35 : decode cX12_lampLine 35 = .ok (.getfield 43, 3) := by decide +kernel
theorem dX12_lampLine_38 : decode cX12_lampLine 38 = .ok (.iload_n 1, 1) := by decide +kernel
theorem dX12_lampLine_39 : decode cX12_lampLine 39 = .ok (.iconst 1, 1) := by decide +kernel
theorem dX12_lampLine_40 : decode cX12_lampLine 40 = .ok (.iadd, 1) := by decide +kernel
theorem dX12_lampLine_41 : decode cX12_lampLine 41 = .ok (.aload_n 0, 1) := by decide +kernel
theorem dX12_lampLine_42 : decode cX12_lampLine 42 = .ok (.ldc2_w 201, 3) := by decide +kernel
theorem dX12_lampLine_45 : decode cX12_lampLine 45 = .ok (.iconst 0, 1) := by decide +kernel
theorem dX12_lampLine_46 : decode cX12_lampLine 46 = .ok (.bipush 99, 2) := by decide +kernel
theorem dX12_lampLine_48 : decode cX12_lampLine 48 = .ok (.invokevirtual 198, 3) := by decide +kernel
theorem dX12_lampLine_51 : decode cX12_lampLine 51 = .ok (.iastore, 1) := by decide +kernel
theorem dX12_lampLine_52 : decode cX12_lampLine 52 = .ok (.aload_n 0, 1) := by decide +kernel
theorem dX12_lampLine_53 : decode cX12_lampLine 53 = .ok (.getfield 40, 3) := by decide +kernel
theorem dX12_lampLine_56 : decode cX12_lampLine 56 = .ok (.iconst 4, 1) := by decide +kernel
theorem dX12_lampLine_57 : decode cX12_lampLine 57 = .ok (.dup2, 1) := by decide +kernel
theorem dX12_lampLine_58 : decode cX12_lampLine 58 = .ok (.iaload, 1) := by decide +kernel
theorem dX12_lampLine_59 : decode cX12_lampLine 59 = .ok (.iconst 1, 1) := by decide +kernel
theorem dX12_lampLine_60 : decode cX12_lampLine 60 = .ok (.iadd, 1) := by decide +kernel
theorem dX12_lampLine_61 : decode cX12_lampLine 61 = .ok (.iastore, 1) := by decide +kernel
theorem dX12_lampLine_62 : decode cX12_lampLine 62 = .ok (.return_, 1) := by decide +kernel
theorem dX12_lockLine_0 : decode cX12_lockLine 0 = .ok (.iconst 4, 1) := by decide +kernel
theorem dX12_lockLine_1 : decode cX12_lockLine 1 = .ok (.bipush 20, 2) := by decide +kernel
theorem dX12_lockLine_3 : decode cX12_lockLine 3 = .ok (.aload_n 0, 1) := by decide +kernel
theorem dX12_lockLine_4 : decode cX12_lockLine 4 = .ok (.getfield 46, 3) := by decide +kernel
theorem dX12_lockLine_7 : decode cX12_lockLine 7 = .ok (.iconst 4, 1) := by decide +kernel
theorem dX12_lockLine_8 : decode cX12_lockLine 8 = .ok (.iaload, 1) := by decide +kernel
theorem dX12_lockLine_9 : decode cX12_lockLine 9 = .ok (.iadd, 1) := by decide +kernel
theorem dX12_lockLine_10 : decode cX12_lockLine 10 = .ok (.imul, 1) := by decide +kernel
theorem dX12_lockLine_11 : decode cX12_lockLine 11 = .ok (.istore_n 1, 1) := by decide +kernel
theorem dX12_lockLine_12 : decode cX12_lockLine 12 = .ok (.aload_n 0, 1) := by decide +kernel
theorem dX12_lockLine_13 : decode cX12_lockLine 13 = .ok (.getfield 49, 3) := by decide +kernel
theorem dX12_lockLine_16 : decode cX12_lockLine 16 = .ok (.iload_n 1, 1) := by decide +kernel
theorem dX12_lockLine_17 : decode cX12_lockLine 17 = .ok (.aload_n 0, 1) := by decide +kernel
theorem dX12_lockLine_18 : decode cX12_lockLine 18 = .ok (.ldc2_w 203, 3) := by decide +kernel
theorem dX12_lockLine_21 : decode cX12_lockLine 21 = .ok (.iconst 0, 1) := by decide +kernel
theorem dX12_lockLine_22 : decode cX12_lockLine 22 = .ok (.sipush 999, 3) := by decide +kernel
theorem dX12_lockLine_25 : decode cX12_lockLine 25 = .ok (.invokevirtual 198, 3) := by decide +kernel
theorem dX12_lockLine_28 : decode cX12_lockLine 28 = .ok (.iastore, 1) := by decide +kernel
theorem dX12_lockLine_29 : decode cX12_lockLine 29 = .ok (.aload_n 0, 1) := by decide +kernel
theorem dX12_lockLine_30 : decode cX12_lockLine 30 = .ok (.getfield 49, 3) := by decide +kernel
theorem dX12_lockLine_33 : decode cX12_lockLine 33 = .ok (.iload_n 1, 1) := by decide +kernel
theorem dX12_lockLine_34 : decode cX12_lockLine 34 = .ok (.iconst 1, 1) := by decide +kernel
theorem dX12_lockLine_35 : decode cX12_lockLine 35 = .ok (.iadd, 1) := by decide +kernel
theorem dX12_lockLine_36 : decode cX12_lockLine 36 = .ok (.aload_n 0, 1) := by decide +kernel
theorem dX12_lockLine_37 : decode cX12_lockLine 37 = .ok (.ldc2_w 205, 3) := by decide +kernel
theorem dX12_lockLine_40 : decode cX12_lockLine 40 = .ok (.iconst 1, 1) := by decide +kernel
theorem dX12_lockLine_41 : decode cX12_lockLine 41 = .ok (.sipush 999, 3) := by decide +kernel
theorem dX12_lockLine_44 : decode cX12_lockLine 44 = .ok (.invokevirtual 198, 3) := by decide +kernel
theorem dX12_lockLine_47 : decode cX12_lockLine 47 = .ok (.iastore, 1) := by decide +kernel
theorem dX12_lockLine_48 : decode cX12_lockLine 48 = .ok (.aload_n 0, 1) := by decide +kernel
theorem dX12_lockLine_49 : decode cX12_lockLine 49 = .ok (.getfield 49, 3) := by decide +kernel
theorem dX12_lockLine_52 : decode cX12_lockLine 52 = .ok (.iload_n 1, 1) := by decide +kernel
theorem dX12_lockLine_53 : decode cX12_lockLine 53 = .ok (.iconst 2, 1) := by decide +kernel
theorem dX12_lockLine_54 : decode cX12_lockLine 54 = .ok (.iadd, 1) := by decide +kernel
theorem dX12_lockLine_55 : decode cX12_lockLine 55 = .ok (.aload_n 0, 1) := by decide +kernel
theorem dX12_lockLine_56 : decode cX12_lockLine 56 = .ok (.iconst 1, 1) := by decide +kernel
theorem dX12_lockLine_57 : decode cX12_lockLine 57 = .ok (.sipush 999, 3) := by decide +kernel
theorem dX12_lockLine_60 : decode cX12_lockLine 60 = .ok (.invokevirtual 189, 3) := by decide +kernel
theorem dX12_lockLine_63 : decode cX12_lockLine 63 = .ok (.iastore, 1) := by decide +kernel
theorem dX12_lockLine_64 : decode cX12_lockLine 64 = .ok (.aload_n 0, 1) := by decide +kernel
theorem dX12_lockLine_65 : decode cX12_lockLine 65 = .ok (.getfield 49, 3) := by decide +kernel
theorem dX12_lockLine_68 : decode cX12_lockLine 68 = .ok (.iload_n 1, 1) := by decide +kernel
theorem dX12_lockLine_69 : decode cX12_lockLine 69 = .ok (.iconst 3, 1) := by decide +kernel
theorem dX12_lockLine_70 : decode cX12_lockLine 70 = .ok (.iadd, 1) := by decide +kernel
theorem dX12_lockLine_71 : decode cX12_lockLine 71 = .ok (.aload_n 0, 1) := by decide +kernel
theorem dX12_lockLine_72 : decode cX12_lockLine 72 = .ok (.iconst 1, 1) := by decide +kernel
theorem dX12_lockLine_73 : decode cX12_lockLine 73 = .ok (.sipush 999, 3) := by decide +kernel
theorem dX12_lockLine_76 : decode cX12_lockLine 76 = .ok (.invokevirtual 189, 3) := by decide +kernel
theorem dX12_lockLine_79 : decode cX12_lockLine 79 = .ok (.iastore, 1) := by decide +kernel
theorem dX12_lockLine_80 : decode cX12_lockLine 80 = .ok (.aload_n 0, 1) := by decide +kernel
theorem dX12_lockLine_81 : decode cX12_lockLine 81 = .ok (.getfield 46, 3) := by decide +kernel
theorem dX12_lockLine_84 : decode cX12_lockLine 84 = .ok (.iconst 4, 1) := by decide +kernel
theorem dX12_lockLine_85 : decode cX12_lockLine 85 = .ok (.dup2, 1) := by decide +kernel
theorem dX12_lockLine_86 : decode cX12_lockLine 86 = .ok (.iaload, 1) := by decide +kernel
theorem dX12_lockLine_87 : decode cX12_lockLine 87 = .ok (.iconst 1, 1) := by decide +kernel
theorem dX12_lockLine_88 : decode cX12_lockLine 88 = .ok (.iadd, 1) := by decide +kernel
theorem dX12_lockLine_89 : decode cX12_lockLine 89 = .ok (.iastore, 1) := by decide +kernel
theorem dX12_lockLine_90 : decode cX12_lockLine 90 = .ok (.return_, 1) := by decide +kernel
theorem dX12_bikeLine_0 : decode cX12_bikeLine 0 = .ok (.iconst 5, 1) := by decide +kernel
theorem dX12_bikeLine_1 : decode cX12_bikeLine 1 = .ok (.bipush 40, 2) := by decide +kernel
theorem dX12_bikeLine_3 : decode cX12_bikeLine 3 = .ok (.aload_n 0, 1) := by decide +kernel
theorem dX12_bikeLine_4 : decode cX12_bikeLine 4 = .ok (.getfield 52, 3) := by decide +kernel
theorem dX12_bikeLine_7 : decode cX12_bikeLine 7 = .ok (.iconst 4, 1) := by decide +kernel
theorem dX12_bikeLine_8 : decode cX12_bikeLine 8 = .ok (.iaload, 1) := by decide +kernel
theorem dX12_bikeLine_9 : decode cX12_bikeLine 9 = .ok (.iadd, 1) := by decide +kernel
theorem dX12_bikeLine_10 : decode cX12_bikeLine 10 = .ok (.imul, 1) := by decide +kernel
theorem dX12_bikeLine_11 : decode cX12_bikeLine 11 = .ok (.istore_n 1, 1) := by decide +kernel
theorem dX12_bikeLine_12 : decode cX12_bikeLine 12 = .ok (.aload_n 0, 1) := by decide +kernel
theorem dX12_bikeLine_13 : decode cX12_bikeLine 13 = .ok (.getfield 55, 3) := by decide +kernel
theorem dX12_bikeLine_16 : decode cX12_bikeLine 16 = .ok (.iload_n 1, 1) := by decide +kernel
theorem dX12_bikeLine_17 : decode cX12_bikeLine 17 = .ok (.aload_n 0, 1) := by decide +kernel
theorem dX12_bikeLine_18 : decode cX12_bikeLine 18 = .ok (.ldc2_w 207, 3) := by decide +kernel
theorem dX12_bikeLine_21 : decode cX12_bikeLine 21 = .ok (.iconst 0, 1) := by decide +kernel
theorem dX12_bikeLine_22 : decode cX12_bikeLine 22 = .ok (.sipush 9999, 3) := by decide +kernel
theorem dX12_bikeLine_25 : decode cX12_bikeLine 25 = .ok (.invokevirtual 198, 3) := by decide +kernel
theorem dX12_bikeLine_28 : decode cX12_bikeLine 28 = .ok (.iastore, 1) := by decide +kernel
theorem dX12_bikeLine_29 : decode cX12_bikeLine 29 = .ok (.aload_n 0, 1) := by decide +kernel
theorem dX12_bikeLine_30 : decode cX12_bikeLine 30 = .ok (.getfield 55, 3) := by decide +kernel
theorem dX12_bikeLine_33 : decode cX12_bikeLine 33 = .ok (.iload_n 1, 1) := by decide +kernel
theorem dX12_bikeLine_34 : decode cX12_bikeLine 34 = .ok (.iconst 1, 1) := by decide +kernel
theorem dX12_bikeLine_35 : decode cX12_bikeLine 35 = .ok (.iadd, 1) := by decide +kernel
theorem dX12_bikeLine_36 : decode cX12_bikeLine 36 = .ok (.aload_n 0, 1) := by decide +kernel
theorem dX12_bikeLine_37 : decode cX12_bikeLine 37 = .ok (.ldc2_w 209, 3) := by decide +kernel
theorem dX12_bikeLine_40 : decode cX12_bikeLine 40 = .ok (.iconst 0, 1) := by decide +kernel
theorem dX12_bikeLine_41 : decode cX12_bikeLine 41 = .ok (.sipush 9999, 3) := by decide +kernel
theorem dX12_bikeLine_44 : decode cX12_bikeLine 44 = .ok (.invokevirtual 198, 3) := by decide +kernel
theorem dX12_bikeLine_47 : decode cX12_bikeLine 47 = .ok (.iastore, 1) := by decide +kernel
theorem dX12_bikeLine_48 : decode cX12_bikeLine 48 = .ok (.aload_n 0, 1) := by decide +kernel
theorem dX12_bikeLine_49 : decode cX12_bikeLine 49 = .ok (.ldc2_w 196, 3) := by decide +kernel
theorem dX12_bikeLine_52 : decode cX12_bikeLine 52 = .ok (.invokevirtual 185, 3) := by decide +kernel
theorem dX12_bikeLine_55 : decode cX12_bikeLine 55 = .ok (.iconst 0, 1) := by decide +kernel
theorem dX12_bikeLine_56 : decode cX12_bikeLine 56 = .ok (.istore_n 2, 1) := by decide +kernel
theorem dX12_bikeLine_57 : decode cX12_bikeLine 57 = .ok (.iconst 0, 1) := by decide +kernel
theorem dX12_bikeLine_58 : decode cX12_bikeLine 58 = .ok (.istore_n 3, 1) := by decide +kernel
theorem dX12_bikeLine_59 : decode cX12_bikeLine 59 = .ok (.iload_n 3, 1) := by decide +kernel
theorem dX12_bikeLine_60 : decode cX12_bikeLine 60 = .ok (.aload_n 0, 1) := by decide +kernel
theorem dX12_bikeLine_61 : decode cX12_bikeLine 61 = .ok (.getfield 52, 3) := by decide +kernel
theorem dX12_bikeLine_64 : decode cX12_bikeLine 64 = .ok (.iconst 4, 1) := by decide +kernel
theorem dX12_bikeLine_65 : decode cX12_bikeLine 65 = .ok (.iaload, 1) := by decide +kernel
theorem dX12_bikeLine_66 : decode cX12_bikeLine 66 = .ok (.if_icmp .ge 39, 3) := by decide +kernel
theorem dX12_bikeLine_69 : decode cX12_bikeLine 69 = .ok (.iload_n 2, 1) := by decide +kernel
theorem dX12_bikeLine_70 : decode cX12_bikeLine 70 = .ok (.ifCond .ne 23, 3) := by decide +kernel
theorem dX12_bikeLine_73 : decode cX12_bikeLine 73 = .ok (.aload_n 0, 1) := by decide +kernel
theorem dX12_bikeLine_74 : decode cX12_bikeLine 74 = .ok (.getfield 55, 3) := by decide +kernel
theorem dX12_bikeLine_77 : decode cX12_bikeLine 77 = .ok (.iconst 5, 1) := by decide +kernel
theorem dX12_bikeLine_78 : decode cX12_bikeLine 78 = .ok (.bipush 40, 2) := by decide +kernel
theorem dX12_bikeLine_80 : decode cX12_bikeLine 80 = .ok (.iload_n 3, 1) := by decide +kernel
theorem dX12_bikeLine_81 : decode cX12_bikeLine 81 = .ok (.iadd, 1) := by decide +kernel
theorem dX12_bikeLine_82 : decode cX12_bikeLine 82 = .ok (.imul, 1) := by decide +kernel
theorem dX12_bikeLine_83 : decode cX12_bikeLine 83 = .ok (.iconst 2, 1) := by decide +kernel
theorem dX12_bikeLine_84 : decode cX12_bikeLine 84 = .ok (.iadd, 1) := by decide +kernel
theorem dX12_bikeLine_85 : decode cX12_bikeLine 85 = .ok (.iaload, 1) := by decide +kernel
theorem dX12_bikeLine_86 : decode cX12_bikeLine 86 = .ok (.aload_n 0, 1) := by decide +kernel
theorem dX12_bikeLine_87 : decode cX12_bikeLine 87 = .ok (.getfield 148, 3) := by decide +kernel
theorem dX12_bikeLine_90 : decode cX12_bikeLine 90 = .ok (.if_icmp .ne 7, 3) := by decide +kernel
theorem dX12_bikeLine_93 : decode cX12_bikeLine 93 = .ok (.iconst 1, 1) := by decide +kernel
theorem dX12_bikeLine_94 : decode cX12_bikeLine 94 = .ok (.goto 4, 3) := by decide +kernel
theorem dX12_bikeLine_97 : decode cX12_bikeLine 97 = .ok (.iconst 0, 1) := by decide +kernel
theorem dX12_bikeLine_98 : decode cX12_bikeLine 98 = .ok (.istore_n 2, 1) := by decide +kernel
theorem dX12_bikeLine_99 : decode cX12_bikeLine 99 = .ok (.iinc 3 1, 3) := by decide +kernel
theorem dX12_bikeLine_102 : decode cX12_bikeLine 102 = .ok (.goto (-43), 3) := by decide +kernel
theorem dX12_bikeLine_105 : decode cX12_bikeLine 105 = .ok (.aload_n 0, 1) := by decide +kernel
theorem dX12_bikeLine_106 : decode cX12_bikeLine 106 = .ok (.getfield 166, 3) := by decide +kernel
theorem dX12_bikeLine_109 : decode cX12_bikeLine 109 = .ok (.ifCond .ne 20, 3) := by decide +kernel
theorem dX12_bikeLine_112 : decode cX12_bikeLine 112 = .ok (.aload_n 0, 1) := by decide +kernel
theorem dX12_bikeLine_113 : decode cX12_bikeLine 113 = .ok (.getfield 155, 3) := by decide +kernel
theorem dX12_bikeLine_116 : decode cX12_bikeLine 116 = .ok (.iconst 2, 1) := by decide +kernel
theorem dX12_bikeLine_117 : decode cX12_bikeLine 117 = .ok (.if_icmp .ne 12, 3) := by decide +kernel
theorem dX12_bikeLine_120 : decode cX12_bikeLine 120 = .ok (.iload_n 2, 1) := by decide +kernel
theorem dX12_bikeLine_121 : decode cX12_bikeLine 121 = .ok (.ifCond .eq 8, 3) := by decide +kernel
theorem dX12_bikeLine_124 : decode cX12_bikeLine 124 = .ok (.aload_n 0, 1) := by decide +kernel
theorem dX12_bikeLine_125 : decode cX12_bikeLine 125 = .ok (.iconst 2, 1) := by decide +kernel
theorem dX12_bikeLine_126 : decode cX12_bikeLine 126 = .ok (.invokevirtual 182, 3) := by decide +kernel
theorem dX12_bikeLine_129 : decode cX12_bikeLine 129 = .ok (.aload_n 0, 1) := by decide +kernel
theorem dX12_bikeLine_130 : decode cX12_bikeLine 130 = .ok (.getfield 55, 3) := by decide +kernel
theorem dX12_bikeLine_133 : decode cX12_bikeLine 133 = .ok (.iload_n 1, 1) := by decide +kernel
theorem dX12_bikeLine_134 : decode cX12_bikeLine 134 = .ok (.iconst 2, 1) := by decide +kernel
theorem dX12_bikeLine_135 : decode cX12_bikeLine 135 = .ok (.iadd, 1) := by decide +kernel
theorem dX12_bikeLine_136 : decode cX12_bikeLine 136 = .ok (.aload_n 0, 1) := by decide +kernel
theorem dX12_bikeLine_137 : decode cX12_bikeLine 137 = .ok (.iconst 0, 1) := by decide +kernel
theorem dX12_bikeLine_138 : decode cX12_bikeLine 138 = .ok (.aload_n 0, 1) := by decide +kernel
theorem dX12_bikeLine_139 : decode cX12_bikeLine 139 = .ok (.getfield 34, 3) := by decide +kernel
theorem dX12_bikeLine_142 : decode cX12_bikeLine 142 = .ok (.iconst 4, 1) := by decide +kernel
theorem dX12_bikeLine_143 : decode cX12_bikeLine 143 = .ok (.iaload, 1) := by decide +kernel
theorem dX12_bikeLine_144 : decode cX12_bikeLine 144 = .ok (.iconst 1, 1) := by decide +kernel
theorem dX12_bikeLine_145 : decode cX12_bikeLine 145 = .ok (.isub, 1) := by decide +kernel
theorem dX12_bikeLine_146 : decode cX12_bikeLine 146 = .ok (.invokevirtual 189, 3) := by decide +kernel
theorem dX12_bikeLine_149 : decode cX12_bikeLine 149 = .ok (.iastore, 1) := by decide +kernel
theorem dX12_bikeLine_150 : decode cX12_bikeLine 150 = .ok (.aload_n 0, 1) := by decide +kernel
theorem dX12_bikeLine_151 : decode cX12_bikeLine 151 = .ok (.getfield 55, 3) := by decide +kernel
theorem dX12_bikeLine_154 : decode cX12_bikeLine 154 = .ok (.iload_n 1, 1) := by decide +kernel
theorem dX12_bikeLine_155 : decode cX12_bikeLine 155 = .ok (.iconst 3, 1) := by decide +kernel
theorem dX12_bikeLine_156 : decode cX12_bikeLine 156 = .ok (.iadd, 1) := by decide +kernel
theorem dX12_bikeLine_157 : decode cX12_bikeLine 157 = .ok (.aload_n 0, 1) := by decide +kernel
theorem dX12_bikeLine_158 : decode cX12_bikeLine 158 = .ok (.ldc2_w 211, 3) := by decide +kernel
theorem dX12_bikeLine_161 : decode cX12_bikeLine 161 = .ok (.invokevirtual 179, 3) := by decide +kernel
theorem dX12_bikeLine_164 : decode cX12_bikeLine 164 = .ok (.ifCond .eq 19, 3) := by decide +kernel
theorem dX12_bikeLine_167 : decode cX12_bikeLine 167 = .ok (.aload_n 0, 1) := by decide +kernel
theorem dX12_bikeLine_168 : decode cX12_bikeLine 168 = .ok (.iconst 0, 1) := by decide +kernel
theorem dX12_bikeLine_169 : decode cX12_bikeLine 169 = .ok (.aload_n 0, 1) := by decide +kernel
theorem dX12_bikeLine_170 : decode cX12_bikeLine 170 = .ok (.getfield 46, 3) := by decide +kernel
theorem dX12_bikeLine_173 : decode cX12_bikeLine 173 = .ok (.iconst 4, 1) := by decide +kernel
theorem dX12_bikeLine_174 : decode cX12_bikeLine 174 = .ok (.iaload, 1) := by decide +kernel
theorem dX12_bikeLine_175 : decode cX12_bikeLine 175 = .ok (.iconst 1, 1) := by decide +kernel
theorem dX12_bikeLine_176 : decode cX12_bikeLine 176 = .ok (.isub, 1) := by decide +kernel
theorem dX12_bikeLine_177 : decode cX12_bikeLine 177 = .ok (.invokevirtual 189, 3) := by decide +kernel
theorem dX12_bikeLine_180 : decode cX12_bikeLine 180 = .ok (.goto 4, 3) := by decide +kernel
theorem dX12_bikeLine_183 : decode cX12_bikeLine 183 = .ok (.iconst (-1), 1) := by decide +kernel
theorem dX12_bikeLine_184 : decode cX12_bikeLine 184 = .ok (.iastore, 1) := by decide +kernel
theorem dX12_bikeLine_185 : decode cX12_bikeLine 185 = .ok (.aload_n 0, 1) := by decide +kernel
theorem dX12_bikeLine_186 : decode cX12_bikeLine 186 = .ok (.getfield 55, 3) := by decide +kernel
theorem dX12_bikeLine_189 : decode cX12_bikeLine 189 = .ok (.iload_n 1, 1) := by decide +kernel
theorem dX12_bikeLine_190 : decode cX12_bikeLine 190 = .ok (.iconst 4, 1) := by decide +kernel
theorem dX12_bikeLine_191 : decode cX12_bikeLine 191 = .ok (.iadd, 1) := by decide +kernel
theorem dX12_bikeLine_192 : decode cX12_bikeLine 192 = .ok (.aload_n 0, 1) := by decide +kernel
theorem dX12_bikeLine_193 : decode cX12_bikeLine 193 = .ok (.ldc2_w 213, 3) := by decide +kernel
theorem dX12_bikeLine_196 : decode cX12_bikeLine 196 = .ok (.invokevirtual 179, 3) := by decide +kernel
theorem dX12_bikeLine_199 : decode cX12_bikeLine 199 = .ok (.ifCond .eq 7, 3) := by decide +kernel
theorem dX12_bikeLine_202 : decode cX12_bikeLine 202 = .ok (.iconst 1, 1) := by decide +kernel
theorem dX12_bikeLine_203 : decode cX12_bikeLine 203 = .ok (.goto 4, 3) := by decide +kernel
theorem dX12_bikeLine_206 : decode cX12_bikeLine 206 = .ok (.iconst 0, 1) := by decide +kernel
theorem dX12_bikeLine_207 : decode cX12_bikeLine 207 = .ok (.iastore, 1) := by decide +kernel
theorem dX12_bikeLine_208 : decode cX12_bikeLine 208 = .ok (.aload_n 0, 1) := by decide +kernel
theorem dX12_bikeLine_209 : decode cX12_bikeLine 209 = .ok (.getfield 52, 3) := by decide +kernel
theorem dX12_bikeLine_212 : decode cX12_bikeLine 212 = .ok (.iconst 4, 1) := by decide +kernel
theorem dX12_bikeLine_213 : decode cX12_bikeLine 213 = .ok (.dup2, 1) := by decide +kernel
theorem dX12_bikeLine_214 : decode cX12_bikeLine 214 = .ok (.iaload, 1) := by decide +kernel
theorem dX12_bikeLine_215 : decode cX12_bikeLine 215 = .ok (.iconst 1, 1) := by decide +kernel
theorem dX12_bikeLine_216 : decode cX12_bikeLine 216 = .ok (.iadd, 1) := by decide +kernel
theorem dX12_bikeLine_217 : decode cX12_bikeLine 217 = .ok (.iastore, 1) := by decide +kernel
theorem dX12_bikeLine_218 : decode cX12_bikeLine 218 = .ok (.return_, 1) := by decide +kernel
theorem dX12_thiefLine_0 : decode cX12_thiefLine 0 = .ok (.iconst 5, 1) := by decide +kernel
theorem dX12_thiefLine_1 : decode cX12_thiefLine 1 = .ok (.bipush 24, 2) := by decide +kernel
theorem dX12_thiefLine_3 : decode cX12_thiefLine 3 = .ok (.aload_n 0, 1) := by decide +kernel
theorem dX12_thiefLine_4 : decode cX12_thiefLine 4 = .ok (.getfield 58, 3) := by decide +kernel
theorem dX12_thiefLine_7 : decode cX12_thiefLine 7 = .ok (.iconst 4, 1) := by decide +kernel
theorem dX12_thiefLine_8 : decode cX12_thiefLine 8 = .ok (.iaload, 1) := by decide +kernel
theorem dX12_thiefLine_9 : decode cX12_thiefLine 9 = .ok (.iadd, 1) := by decide +kernel
theorem dX12_thiefLine_10 : decode cX12_thiefLine 10 = .ok (.imul, 1) := by decide +kernel
theorem dX12_thiefLine_11 : decode cX12_thiefLine 11 = .ok (.istore_n 1, 1) := by decide +kernel
theorem dX12_thiefLine_12 : decode cX12_thiefLine 12 = .ok (.aload_n 0, 1) := by decide +kernel
theorem dX12_thiefLine_13 : decode cX12_thiefLine 13 = .ok (.getfield 61, 3) := by decide +kernel
theorem dX12_thiefLine_16 : decode cX12_thiefLine 16 = .ok (.iload_n 1, 1) := by decide +kernel
theorem dX12_thiefLine_17 : decode cX12_thiefLine 17 = .ok (.aload_n 0, 1) := by decide +kernel
theorem dX12_thiefLine_18 : decode cX12_thiefLine 18 = .ok (.ldc2_w 215, 3) := by decide +kernel
theorem dX12_thiefLine_21 : decode cX12_thiefLine 21 = .ok (.iconst 0, 1) := by decide +kernel
theorem dX12_thiefLine_22 : decode cX12_thiefLine 22 = .ok (.iconst 2, 1) := by decide +kernel
theorem dX12_thiefLine_23 : decode cX12_thiefLine 23 = .ok (.invokevirtual 198, 3) := by decide +kernel
theorem dX12_thiefLine_26 : decode cX12_thiefLine 26 = .ok (.iastore, 1) := by decide +kernel
theorem dX12_thiefLine_27 : decode cX12_thiefLine 27 = .ok (.aload_n 0, 1) := by decide +kernel
theorem dX12_thiefLine_28 : decode cX12_thiefLine 28 = .ok (.getfield 61, 3) := by decide +kernel
theorem dX12_thiefLine_31 : decode cX12_thiefLine 31 = .ok (.iload_n 1, 1) := by decide +kernel
theorem dX12_thiefLine_32 : decode cX12_thiefLine 32 = .ok (.iconst 1, 1) := by decide +kernel
theorem dX12_thiefLine_33 : decode cX12_thiefLine 33 = .ok (.iadd, 1) := by decide +kernel
theorem dX12_thiefLine_34 : decode cX12_thiefLine 34 = .ok (.aload_n 0, 1) := by decide +kernel
theorem dX12_thiefLine_35 : decode cX12_thiefLine 35 = .ok (.ldc2_w 217, 3) := by decide +kernel
theorem dX12_thiefLine_38 : decode cX12_thiefLine 38 = .ok (.iconst 0, 1) := by decide +kernel
theorem dX12_thiefLine_39 : decode cX12_thiefLine 39 = .ok (.bipush 100, 2) := by decide +kernel
theorem dX12_thiefLine_41 : decode cX12_thiefLine 41 = .ok (.invokevirtual 198, 3) := by decide +kernel
theorem dX12_thiefLine_44 : decode cX12_thiefLine 44 = .ok (.iastore, 1) := by decide +kernel
theorem dX12_thiefLine_45 : decode cX12_thiefLine 45 = .ok (.aload_n 0, 1) := by decide +kernel
theorem dX12_thiefLine_46 : decode cX12_thiefLine 46 = .ok (.getfield 61, 3) := by decide +kernel
theorem dX12_thiefLine_49 : decode cX12_thiefLine 49 = .ok (.iload_n 1, 1) := by decide +kernel
theorem dX12_thiefLine_50 : decode cX12_thiefLine 50 = .ok (.iconst 2, 1) := by decide +kernel
theorem dX12_thiefLine_51 : decode cX12_thiefLine 51 = .ok (.iadd, 1) := by decide +kernel
theorem dX12_thiefLine_52 : decode cX12_thiefLine 52 = .ok (.aload_n 0, 1) := by decide +kernel
theorem dX12_thiefLine_53 : decode cX12_thiefLine 53 = .ok (.ldc2_w 219, 3) := by decide +kernel
theorem dX12_thiefLine_56 : decode cX12_thiefLine 56 = .ok (.iconst 0, 1) := by decide +kernel
theorem dX12_thiefLine_57 : decode cX12_thiefLine 57 = .ok (.bipush 99, 2) := by decide +kernel
theorem dX12_thiefLine_59 : decode cX12_thiefLine 59 = .ok (.invokevirtual 198, 3) := by decide +kernel
theorem dX12_thiefLine_62 : decode cX12_thiefLine 62 = .ok (.iastore, 1) := by decide +kernel
theorem dX12_thiefLine_63 : decode cX12_thiefLine 63 = .ok (.aload_n 0, 1) := by decide +kernel
theorem dX12_thiefLine_64 : decode cX12_thiefLine 64 = .ok (.ldc2_w 221, 3) := by decide +kernel
theorem dX12_thiefLine_67 : decode cX12_thiefLine 67 = .ok (.invokevirtual 172, 3) := by decide +kernel
theorem dX12_thiefLine_70 : decode cX12_thiefLine 70 = .ok (.ifCond .eq 7, 3) := by decide +kernel
theorem dX12_thiefLine_73 : decode cX12_thiefLine 73 = .ok (.iconst 0, 1) := by decide +kernel
theorem dX12_thiefLine_74 : decode cX12_thiefLine 74 = .ok (.goto 32, 3) := by decide +kernel
theorem dX12_thiefLine_77 : decode cX12_thiefLine 77 = .ok (.aload_n 0, 1) := by decide +kernel
theorem dX12_thiefLine_78 : decode cX12_thiefLine 78 = .ok (.ldc2_w 223, 3) := by decide +kernel
theorem dX12_thiefLine_81 : decode cX12_thiefLine 81 = .ok (.invokevirtual 172, 3) := by decide +kernel
theorem dX12_thiefLine_84 : decode cX12_thiefLine 84 = .ok (.ifCond .eq 7, 3) := by decide +kernel
theorem dX12_thiefLine_87 : decode cX12_thiefLine 87 = .ok (.iconst 1, 1) := by decide +kernel
theorem dX12_thiefLine_88 : decode cX12_thiefLine 88 = .ok (.goto 18, 3) := by decide +kernel
theorem dX12_thiefLine_91 : decode cX12_thiefLine 91 = .ok (.aload_n 0, 1) := by decide +kernel
theorem dX12_thiefLine_92 : decode cX12_thiefLine 92 = .ok (.ldc2_w 225, 3) := by decide +kernel
theorem dX12_thiefLine_95 : decode cX12_thiefLine 95 = .ok (.invokevirtual 172, 3) := by decide +kernel
theorem dX12_thiefLine_98 : decode cX12_thiefLine 98 = .ok (.ifCond .eq 7, 3) := by decide +kernel
theorem dX12_thiefLine_101 : decode cX12_thiefLine 101 = .ok (.iconst 2, 1) := by decide +kernel
theorem dX12_thiefLine_102 : decode cX12_thiefLine 102 = .ok (.goto 4, 3) := by decide +kernel
theorem dX12_thiefLine_105 : decode cX12_thiefLine 105 = .ok (.iconst (-1), 1) := by decide +kernel
theorem dX12_thiefLine_106 : decode cX12_thiefLine 106 = .ok (.istore_n 2, 1) := by decide +kernel
theorem dX12_thiefLine_107 : decode cX12_thiefLine 107 = .ok (.iload_n 2, 1) := by decide +kernel
theorem dX12_thiefLine_108 : decode cX12_thiefLine 108 = .ok (.iconst (-1), 1) := by decide +kernel
theorem dX12_thiefLine_109 : decode cX12_thiefLine 109 = .ok (.if_icmp .ne 8, 3) := by decide +kernel
theorem dX12_thiefLine_112 : decode cX12_thiefLine 112 = .ok (.aload_n 0, 1) := by decide +kernel
theorem dX12_thiefLine_113 : decode cX12_thiefLine 113 = .ok (.iconst 1, 1) := by decide +kernel
theorem dX12_thiefLine_114 : decode cX12_thiefLine 114 = .ok (.invokevirtual 182, 3) := by decide +kernel
theorem dX12_thiefLine_117 : decode cX12_thiefLine 117 = .ok (.aload_n 0, 1) := by decide +kernel
theorem dX12_thiefLine_118 : decode cX12_thiefLine 118 = .ok (.getfield 166, 3) := by decide +kernel
theorem dX12_thiefLine_121 : decode cX12_thiefLine 121 = .ok (.ifCond .ne 7, 3) := by decide +kernel
theorem dX12_thiefLine_124 : decode cX12_thiefLine 124 = .ok (.aload_n 0, 1) := by decide +kernel
theorem dX12_thiefLine_125 : decode cX12_thiefLine 125 = .ok (.invokevirtual 176, 3) := by decide +kernel
theorem dX12_thiefLine_128 : decode cX12_thiefLine 128 = .ok (.aload_n 0, 1) := by decide +kernel
theorem dX12_thiefLine_129 : decode cX12_thiefLine 129 = .ok (.getfield 61, 3) := by decide +kernel
theorem dX12_thiefLine_132 : decode cX12_thiefLine 132 = .ok (.iload_n 1, 1) := by decide +kernel
theorem dX12_thiefLine_133 : decode cX12_thiefLine 133 = .ok (.iconst 3, 1) := by decide +kernel
theorem dX12_thiefLine_134 : decode cX12_thiefLine 134 = .ok (.iadd, 1) := by decide +kernel
theorem dX12_thiefLine_135 : decode cX12_thiefLine 135 = .ok (.iload_n 2, 1) := by decide +kernel
theorem dX12_thiefLine_136 : decode cX12_thiefLine 136 = .ok (.iastore, 1) := by decide +kernel
theorem dX12_thiefLine_137 : decode cX12_thiefLine 137 = .ok (.aload_n 0, 1) := by decide +kernel
theorem dX12_thiefLine_138 : decode cX12_thiefLine 138 = .ok (.getfield 61, 3) := by decide +kernel
theorem dX12_thiefLine_141 : decode cX12_thiefLine 141 = .ok (.iload_n 1, 1) := by decide +kernel
theorem dX12_thiefLine_142 : decode cX12_thiefLine 142 = .ok (.iconst 4, 1) := by decide +kernel
theorem dX12_thiefLine_143 : decode cX12_thiefLine 143 = .ok (.iadd, 1) := by decide +kernel
theorem dX12_thiefLine_144 : decode cX12_thiefLine 144 = .ok (.iload_n 2, 1) := by decide +kernel
theorem dX12_thiefLine_145 : decode cX12_thiefLine 145 = .ok (.iconst 2, 1) := by decide +kernel
theorem dX12_thiefLine_146 : decode cX12_thiefLine 146 = .ok (.if_icmp .ne 19, 3) := by decide +kernel
theorem dX12_thiefLine_149 : decode cX12_thiefLine 149 = .ok (.aload_n 0, 1) := by decide +kernel
theorem dX12_thiefLine_150 : decode cX12_thiefLine 150 = .ok (.iconst 0, 1) := by decide +kernel
theorem dX12_thiefLine_151 : decode cX12_thiefLine 151 = .ok (.aload_n 0, 1) := by decide +kernel
theorem dX12_thiefLine_152 : decode cX12_thiefLine 152 = .ok (.getfield 52, 3) := by decide +kernel
theorem dX12_thiefLine_155 : decode cX12_thiefLine 155 = .ok (.iconst 4, 1) := by decide +kernel
theorem dX12_thiefLine_156 : decode cX12_thiefLine 156 = .ok (.iaload, 1) := by decide +kernel
theorem dX12_thiefLine_157 : decode cX12_thiefLine 157 = .ok (.iconst 1, 1) := by decide +kernel
theorem dX12_thiefLine_158 : decode cX12_thiefLine 158 = .ok (.isub, 1) := by decide +kernel
theorem dX12_thiefLine_159 : decode cX12_thiefLine 159 = .ok (.invokevirtual 189, 3) := by decide +kernel
theorem dX12_thiefLine_162 : decode cX12_thiefLine 162 = .ok (.goto 4, 3) := by decide +kernel
theorem dX12_thiefLine_165 : decode cX12_thiefLine 165 = .ok (.iconst (-1), 1) := by decide +kernel
theorem dX12_thiefLine_166 : decode cX12_thiefLine 166 = .ok (.iastore, 1) := by decide +kernel
theorem dX12_thiefLine_167 : decode cX12_thiefLine 167 = .ok (.aload_n 0, 1) := by decide +kernel
theorem dX12_thiefLine_168 : decode cX12_thiefLine 168 = .ok (.getfield 58, 3) := by decide +kernel
theorem dX12_thiefLine_171 : decode cX12_thiefLine 171 = .ok (.iconst 4, 1) := by decide +kernel
theorem dX12_thiefLine_172 : decode cX12_thiefLine 172 = .ok (.dup2, 1) := by decide +kernel
theorem dX12_thiefLine_173 : decode cX12_thiefLine 173 = .ok (.iaload, 1) := by decide +kernel
theorem dX12_thiefLine_174 : decode cX12_thiefLine 174 = .ok (.iconst 1, 1) := by decide +kernel
theorem dX12_thiefLine_175 : decode cX12_thiefLine 175 = .ok (.iadd, 1) := by decide +kernel
theorem dX12_thiefLine_176 : decode cX12_thiefLine 176 = .ok (.iastore, 1) := by decide +kernel
theorem dX12_thiefLine_177 : decode cX12_thiefLine 177 = .ok (.return_, 1) := by decide +kernel
theorem dX12_onceLine_0 : decode cX12_onceLine 0 = .ok (.aload_n 0, 1) := by decide +kernel
theorem dX12_onceLine_1 : decode cX12_onceLine 1 = .ok (.getfield 67, 3) := by decide +kernel
theorem dX12_onceLine_4 : decode cX12_onceLine 4 = .ok (.bipush 8, 2) := by decide +kernel
theorem dX12_onceLine_6 : decode cX12_onceLine 6 = .ok (.iload_n 1, 1) := by decide +kernel
theorem dX12_onceLine_7 : decode cX12_onceLine 7 = .ok (.iadd, 1) := by decide +kernel
theorem dX12_onceLine_8 : decode cX12_onceLine 8 = .ok (.baload, 1) := by decide +kernel
theorem dX12_onceLine_9 : decode cX12_onceLine 9 = .ok (.ifCond .eq 8, 3) := by decide +kernel
theorem dX12_onceLine_12 : decode cX12_onceLine 12 = .ok (.aload_n 0, 1) := by decide +kernel
theorem dX12_onceLine_13 : decode cX12_onceLine 13 = .ok (.iconst 2, 1) := by decide +kernel
theorem dX12_onceLine_14 : decode cX12_onceLine 14 = .ok (.invokevirtual 182, 3) := by decide +kernel
theorem dX12_onceLine_17 : decode cX12_onceLine 17 = .ok (.aload_n 0, 1) := by decide +kernel
theorem dX12_onceLine_18 : decode cX12_onceLine 18 = .ok (.getfield 166, 3) := by decide +kernel
theorem dX12_onceLine_21 : decode cX12_onceLine 21 = .ok (.ifCond .eq 4, 3) := by decide +kernel
theorem dX12_onceLine_24 : decode cX12_onceLine 24 = .ok (.return_, 1) := by decide +kernel
theorem dX12_onceLine_25 : decode cX12_onceLine 25 = .ok (.aload_n 0, 1) := by decide +kernel
theorem dX12_onceLine_26 : decode cX12_onceLine 26 = .ok (.invokevirtual 176, 3) := by decide +kernel
theorem dX12_onceLine_29 : decode cX12_onceLine 29 = .ok (.aload_n 0, 1) := by decide +kernel
theorem dX12_onceLine_30 : decode cX12_onceLine 30 = .ok (.getfield 67, 3) := by decide +kernel
theorem dX12_onceLine_33 : decode cX12_onceLine 33 = .ok (.bipush 8, 2) := by decide +kernel
theorem dX12_onceLine_35 : decode cX12_onceLine 35 = .ok (.iload_n 1, 1) := by decide +kernel
theorem dX12_onceLine_36 : decode cX12_onceLine 36 = .ok (.iadd, 1) := by decide +kernel
theorem dX12_onceLine_37 : decode cX12_onceLine 37 = .ok (.iconst 1, 1) := by decide +kernel
theorem dX12_onceLine_38 : decode cX12_onceLine 38 = .ok (.bastore, 1) := by decide +kernel
theorem dX12_onceLine_39 : decode cX12_onceLine 39 = .ok (.bipush 28, 2) := by decide +kernel
theorem dX12_onceLine_41 : decode cX12_onceLine 41 = .ok (.istore_n 2, 1) := by decide +kernel
theorem dX12_onceLine_42 : decode cX12_onceLine 42 = .ok (.iload_n 1, 1) := by decide +kernel
theorem dX12_onceLine_43 : decode cX12_onceLine 43 = .ok (.ifCond .ne 66, 3) := by decide +kernel
theorem dX12_onceLine_46 : decode cX12_onceLine 46 = .ok (.aload_n 0, 1) := by decide +kernel
theorem dX12_onceLine_47 : decode cX12_onceLine 47 = .ok (.getfield 64, 3) := by decide +kernel
theorem dX12_onceLine_50 : decode cX12_onceLine 50 = .ok (.iload_n 2, 1) := by decide +kernel
theorem dX12_onceLine_51 : decode cX12_onceLine 51 = .ok (.iconst 0, 1) := by decide +kernel
theorem dX12_onceLine_52 : decode cX12_onceLine 52 = .ok (.iadd, 1) := by decide +kernel
theorem dX12_onceLine_53 : decode cX12_onceLine 53 = .ok (.aload_n 0, 1) := by decide +kernel
theorem dX12_onceLine_54 : decode cX12_onceLine 54 = .ok (.ldc2_w 203, 3) := by decide +kernel
theorem dX12_onceLine_57 : decode cX12_onceLine 57 = .ok (.iconst 0, 1) := by decide +kernel
theorem dX12_onceLine_58 : decode cX12_onceLine 58 = .ok (.sipush 999, 3) := by decide +kernel
theorem dX12_onceLine_61 : decode cX12_onceLine 61 = .ok (.invokevirtual 198, 3) := by decide +kernel
theorem dX12_onceLine_64 : decode cX12_onceLine 64 = .ok (.iastore, 1) := by decide +kernel
theorem dX12_onceLine_65 : decode cX12_onceLine 65 = .ok (.aload_n 0, 1) := by decide +kernel
theorem dX12_onceLine_66 : decode cX12_onceLine 66 = .ok (.getfield 64, 3) := by decide +kernel
theorem dX12_onceLine_69 : decode cX12_onceLine 69 = .ok (.iload_n 2, 1) := by decide +kernel
theorem dX12_onceLine_70 : decode cX12_onceLine 70 = .ok (.iconst 1, 1) := by decide +kernel
theorem dX12_onceLine_71 : decode cX12_onceLine 71 = .ok (.iadd, 1) := by decide +kernel
theorem dX12_onceLine_72 : decode cX12_onceLine 72 = .ok (.aload_n 0, 1) := by decide +kernel
theorem dX12_onceLine_73 : decode cX12_onceLine 73 = .ok (.ldc2_w 227, 3) := by decide +kernel
theorem dX12_onceLine_76 : decode cX12_onceLine 76 = .ok (.iconst 0, 1) := by decide +kernel
theorem dX12_onceLine_77 : decode cX12_onceLine 77 = .ok (.bipush 100, 2) := by decide +kernel
theorem dX12_onceLine_79 : decode cX12_onceLine 79 = .ok (.invokevirtual 198, 3) := by decide +kernel
theorem dX12_onceLine_82 : decode cX12_onceLine 82 = .ok (.iastore, 1) := by decide +kernel
theorem dX12_onceLine_83 : decode cX12_onceLine 83 = .ok (.aload_n 0, 1) := by decide +kernel
theorem dX12_onceLine_84 : decode cX12_onceLine 84 = .ok (.getfield 64, 3) := by decide +kernel
theorem dX12_onceLine_87 : decode cX12_onceLine 87 = .ok (.iload_n 2, 1) := by decide +kernel
theorem dX12_onceLine_88 : decode cX12_onceLine 88 = .ok (.iconst 2, 1) := by decide +kernel
theorem dX12_onceLine_89 : decode cX12_onceLine 89 = .ok (.iadd, 1) := by decide +kernel
theorem dX12_onceLine_90 : decode cX12_onceLine 90 = .ok (.aload_n 0, 1) := by decide +kernel
theorem dX12_onceLine_91 : decode cX12_onceLine 91 = .ok (.ldc2_w 229, 3) := by decide +kernel
theorem dX12_onceLine_94 : decode cX12_onceLine 94 = .ok (.invokevirtual 179, 3) := by decide +kernel
theorem dX12_onceLine_97 : decode cX12_onceLine 97 = .ok (.ifCond .eq 7, 3) := by decide +kernel
theorem dX12_onceLine_100 : decode cX12_onceLine 100 = .ok (.iconst 1, 1) := by decide +kernel
theorem dX12_onceLine_101 : decode cX12_onceLine 101 = .ok (.goto 4, 3) := by decide +kernel
theorem dX12_onceLine_104 : decode cX12_onceLine 104 = .ok (.iconst 0, 1) := by decide +kernel
theorem dX12_onceLine_105 : decode cX12_onceLine 105 = .ok (.iastore, 1) := by decide +kernel
theorem dX12_onceLine_106 : decode cX12_onceLine 106 = .ok (.goto 49, 3) := by decide +kernel
theorem dX12_onceLine_109 : decode cX12_onceLine 109 = .ok (.aload_n 0, 1) := by decide +kernel
theorem dX12_onceLine_110 : decode cX12_onceLine 110 = .ok (.getfield 64, 3) := by decide +kernel
theorem dX12_onceLine_113 : decode cX12_onceLine 113 = .ok (.iload_n 2, 1) := by decide +kernel
theorem dX12_onceLine_114 : decode cX12_onceLine 114 = .ok (.iconst 4, 1) := by decide +kernel
theorem dX12_onceLine_115 : decode cX12_onceLine 115 = .ok (.iadd, 1) := by decide +kernel
theorem dX12_onceLine_116 : decode cX12_onceLine 116 = .ok (.aload_n 0, 1) := by decide +kernel
theorem dX12_onceLine_117 : decode cX12_onceLine 117 = .ok (.ldc2_w 231, 3) := by decide +kernel
theorem dX12_onceLine_120 : decode cX12_onceLine 120 = .ok (.iconst 0, 1) := by decide +kernel
theorem dX12_onceLine_121 : decode cX12_onceLine 121 = .ok (.sipush 999, 3) := by decide +kernel
theorem dX12_onceLine_124 : decode cX12_onceLine 124 = .ok (.invokevirtual 198, 3) := by decide +kernel
theorem dX12_onceLine_127 : decode cX12_onceLine 127 = .ok (.iastore, 1) := by decide +kernel
theorem dX12_onceLine_128 : decode cX12_onceLine 128 = .ok (.aload_n 0, 1) := by decide +kernel
theorem dX12_onceLine_129 : decode cX12_onceLine 129 = .ok (.getfield 64, 3) := by decide +kernel
theorem dX12_onceLine_132 : decode cX12_onceLine 132 = .ok (.iload_n 2, 1) := by decide +kernel
theorem dX12_onceLine_133 : decode cX12_onceLine 133 = .ok (.iconst 5, 1) := by decide +kernel
theorem dX12_onceLine_134 : decode cX12_onceLine 134 = .ok (.iadd, 1) := by decide +kernel
theorem dX12_onceLine_135 : decode cX12_onceLine 135 = .ok (.aload_n 0, 1) := by decide +kernel
theorem dX12_onceLine_136 : decode cX12_onceLine 136 = .ok (.ldc2_w 233, 3) := by decide +kernel
theorem dX12_onceLine_139 : decode cX12_onceLine 139 = .ok (.iconst 0, 1) := by decide +kernel
theorem dX12_onceLine_140 : decode cX12_onceLine 140 = .ok (.bipush 99, 2) := by decide +kernel
theorem dX12_onceLine_142 : decode cX12_onceLine 142 = .ok (.invokevirtual 198, 3) := by decide +kernel
theorem dX12_onceLine_145 : decode cX12_onceLine 145 = .ok (.iastore, 1) := by decide +kernel
theorem dX12_onceLine_146 : decode cX12_onceLine 146 = .ok (.aload_n 0, 1) := by decide +kernel
theorem dX12_onceLine_147 : decode cX12_onceLine 147 = .ok (.getfield 64, 3) := by decide +kernel
theorem dX12_onceLine_150 : decode cX12_onceLine 150 = .ok (.iload_n 2, 1) := by decide +kernel
theorem dX12_onceLine_151 : decode cX12_onceLine 151 = .ok (.iconst 3, 1) := by decide +kernel
theorem dX12_onceLine_152 : decode cX12_onceLine 152 = .ok (.iadd, 1) := by decide +kernel
theorem dX12_onceLine_153 : decode cX12_onceLine 153 = .ok (.iconst 1, 1) := by decide +kernel
theorem dX12_onceLine_154 : decode cX12_onceLine 154 = .ok (.iastore, 1) := by decide +kernel
theorem dX12_onceLine_155 : decode cX12_onceLine 155 = .ok (.return_, 1) := by decide +kernel
theorem dX12_isFull_0 : decode cX12_isFull 0 = .ok (.iload_n 1, 1) := by decide +kernel
theorem dX12_isFull_1 : decode cX12_isFull 1 = .ok (.tableswitch 76 0 2 #[27, 43, 59], 27) := by decide +kernel
theorem dX12_isFull_28 : decode cX12_isFull 28 = .ok (.aload_n 0, 1) := by decide +kernel
theorem dX12_isFull_29 : decode cX12_isFull 29 = .ok (.getfield 40, 3) := by decide +kernel
theorem dX12_isFull_32 : decode cX12_isFull 32 = .ok (.iconst 4, 1) := by decide +kernel
theorem dX12_isFull_33 : decode cX12_isFull 33 = .ok (.iaload, 1) := by decide +kernel
theorem dX12_isFull_34 : decode cX12_isFull 34 = .ok (.iconst 4, 1) := by decide +kernel
theorem dX12_isFull_35 : decode cX12_isFull 35 = .ok (.if_icmp .ne 7, 3) := by decide +kernel
theorem dX12_isFull_38 : decode cX12_isFull 38 = .ok (.iconst 1, 1) := by decide +kernel
theorem dX12_isFull_39 : decode cX12_isFull 39 = .ok (.goto 4, 3) := by decide +kernel
theorem dX12_isFull_42 : decode cX12_isFull 42 = .ok (.iconst 0, 1) := by decide +kernel
theorem dX12_isFull_43 : decode cX12_isFull 43 = .ok (.ireturn, 1) := by decide +kernel
theorem dX12_isFull_44 : decode cX12_isFull 44 = .ok (.aload_n 0, 1) := by decide +kernel
theorem dX12_isFull_45 : decode cX12_isFull 45 = .ok (.getfield 46, 3) := by decide +kernel
theorem dX12_isFull_48 : decode cX12_isFull 48 = .ok (.iconst 4, 1) := by decide +kernel
theorem dX12_isFull_49 : decode cX12_isFull 49 = .ok (.iaload, 1) := by decide +kernel
theorem dX12_isFull_50 : decode cX12_isFull 50 = .ok (.iconst 5, 1) := by decide +kernel
theorem dX12_isFull_51 : decode cX12_isFull 51 = .ok (.if_icmp .ne 7, 3) := by decide +kernel
theorem dX12_isFull_54 : decode cX12_isFull 54 = .ok (.iconst 1, 1) := by decide +kernel
theorem dX12_isFull_55 : decode cX12_isFull 55 = .ok (.goto 4, 3) := by decide +kernel
theorem dX12_isFull_58 : decode cX12_isFull 58 = .ok (.iconst 0, 1) := by decide +kernel
theorem dX12_isFull_59 : decode cX12_isFull 59 = .ok (.ireturn, 1) := by decide +kernel
theorem dX12_isFull_60 : decode cX12_isFull 60 = .ok (.aload_n 0, 1) := by decide +kernel
theorem dX12_isFull_61 : decode cX12_isFull 61 = .ok (.getfield 52, 3) := by decide +kernel
theorem dX12_isFull_64 : decode cX12_isFull 64 = .ok (.iconst 4, 1) := by decide +kernel
theorem dX12_isFull_65 : decode cX12_isFull 65 = .ok (.iaload, 1) := by decide +kernel
theorem dX12_isFull_66 : decode cX12_isFull 66 = .ok (.bipush 10, 2) := by decide +kernel
theorem dX12_isFull_68 : decode cX12_isFull 68 = .ok (.if_icmp .ne 7, 3) := by decide +kernel
theorem dX12_isFull_71 : decode cX12_isFull 71 = .ok (.iconst 1, 1) := by decide +kernel
theorem dX12_isFull_72 : decode cX12_isFull 72 = .ok (.goto 4, 3) := by decide +kernel
theorem dX12_isFull_75 : decode cX12_isFull 75 = .ok (.iconst 0, 1) := by decide +kernel
theorem dX12_isFull_76 : decode cX12_isFull 76 = .ok (.ireturn, 1) := by decide +kernel
theorem dX12_isFull_77 : decode cX12_isFull 77 = .ok (.aload_n 0, 1) := by decide +kernel
theorem dX12_isFull_78 : decode cX12_isFull 78 = .ok (.getfield 58, 3) := by decide +kernel
theorem dX12_isFull_81 : decode cX12_isFull 81 = .ok (.iconst 4, 1) := by decide +kernel
theorem dX12_isFull_82 : decode cX12_isFull 82 = .ok (.iaload, 1) := by decide +kernel
theorem dX12_isFull_83 : decode cX12_isFull 83 = .ok (.bipush 6, 2) := by decide +kernel
theorem dX12_isFull_85 : decode cX12_isFull 85 = .ok (.if_icmp .ne 7, 3) := by decide +kernel
theorem dX12_isFull_88 : decode cX12_isFull 88 = .ok (.iconst 1, 1) := by decide +kernel
theorem dX12_isFull_89 : decode cX12_isFull 89 = .ok (.goto 4, 3) := by decide +kernel
theorem dX12_isFull_92 : decode cX12_isFull 92 = .ok (.iconst 0, 1) := by decide +kernel
theorem dX12_isFull_93 : decode cX12_isFull 93 = .ok (.ireturn, 1) := by decide +kernel
theorem dX12_line_0 : decode cX12_line 0 = .ok (.aload_n 0, 1) := by decide +kernel
theorem dX12_line_1 : decode cX12_line 1 = .ok (.ldc2_w 235, 3) := by decide +kernel
theorem dX12_line_4 : decode cX12_line 4 = .ok (.invokevirtual 172, 3) := by decide +kernel
theorem dX12_line_7 : decode cX12_line 7 = .ok (.ifCond .eq 7, 3) := by decide +kernel
theorem dX12_line_10 : decode cX12_line 10 = .ok (.iconst 0, 1) := by decide +kernel
theorem dX12_line_11 : decode cX12_line 11 = .ok (.goto 18, 3) := by decide +kernel
theorem dX12_line_14 : decode cX12_line 14 = .ok (.aload_n 0, 1) := by decide +kernel
theorem dX12_line_15 : decode cX12_line 15 = .ok (.ldc2_w 237, 3) := by decide +kernel
theorem dX12_line_18 : decode cX12_line 18 = .ok (.invokevirtual 172, 3) := by decide +kernel
theorem dX12_line_21 : decode cX12_line 21 = .ok (.ifCond .eq 7, 3) := by decide +kernel
theorem dX12_line_24 : decode cX12_line 24 = .ok (.iconst 1, 1) := by decide +kernel
theorem dX12_line_25 : decode cX12_line 25 = .ok (.goto 4, 3) := by decide +kernel
theorem dX12_line_28 : decode cX12_line 28 = .ok (.iconst (-1), 1) := by decide +kernel
theorem dX12_line_29 : decode cX12_line 29 = .ok (.istore_n 1, 1) := by decide +kernel
theorem dX12_line_30 : decode cX12_line 30 = .ok (.iload_n 1, 1) := by decide +kernel
theorem dX12_line_31 : decode cX12_line 31 = .ok (.iconst (-1), 1) := by decide +kernel
theorem dX12_line_32 : decode cX12_line 32 = .ok (.if_icmp .eq 9, 3) := by decide +kernel
theorem dX12_line_35 : decode cX12_line 35 = .ok (.aload_n 0, 1) := by decide +kernel
theorem dX12_line_36 : decode cX12_line 36 = .ok (.iload_n 1, 1) := by decide +kernel
theorem dX12_line_37 : decode cX12_line 37 = .ok (.invokevirtual 239, 3) := by decide +kernel
theorem dX12_line_40 : decode cX12_line 40 = .ok (.return_, 1) := by decide +kernel
theorem dX12_line_41 : decode cX12_line 41 = .ok (.aload_n 0, 1) := by decide +kernel
theorem dX12_line_42 : decode cX12_line 42 = .ok (.ldc2_w 242, 3) := by decide +kernel
theorem dX12_line_45 : decode cX12_line 45 = .ok (.invokevirtual 172, 3) := by decide +kernel
theorem dX12_line_48 : decode cX12_line 48 = .ok (.ifCond .eq 7, 3) := by decide +kernel
theorem dX12_line_51 : decode cX12_line 51 = .ok (.iconst 0, 1) := by decide +kernel
theorem dX12_line_52 : decode cX12_line 52 = .ok (.goto 46, 3) := by decide +kernel
theorem dX12_line_55 : decode cX12_line 55 = .ok (.aload_n 0, 1) := by decide +kernel
theorem dX12_line_56 : decode cX12_line 56 = .ok (.ldc2_w 211, 3) := by decide +kernel
theorem dX12_line_59 : decode cX12_line 59 = .ok (.invokevirtual 172, 3) := by decide +kernel
theorem dX12_line_62 : decode cX12_line 62 = .ok (.ifCond .eq 7, 3) := by decide +kernel
theorem dX12_line_65 : decode cX12_line 65 = .ok (.iconst 1, 1) := by decide +kernel
theorem dX12_line_66 : decode cX12_line 66 = .ok (.goto 32, 3) := by decide +kernel
theorem dX12_line_69 : decode cX12_line 69 = .ok (.aload_n 0, 1) := by decide +kernel
theorem dX12_line_70 : decode cX12_line 70 = .ok (.ldc2_w 244, 3) := by decide +kernel
theorem dX12_line_73 : decode cX12_line 73 = .ok (.invokevirtual 172, 3) := by decide +kernel
theorem dX12_line_76 : decode cX12_line 76 = .ok (.ifCond .eq 7, 3) := by decide +kernel
theorem dX12_line_79 : decode cX12_line 79 = .ok (.iconst 2, 1) := by decide +kernel
theorem dX12_line_80 : decode cX12_line 80 = .ok (.goto 18, 3) := by decide +kernel
theorem dX12_line_83 : decode cX12_line 83 = .ok (.aload_n 0, 1) := by decide +kernel
theorem dX12_line_84 : decode cX12_line 84 = .ok (.ldc2_w 246, 3) := by decide +kernel
theorem dX12_line_87 : decode cX12_line 87 = .ok (.invokevirtual 172, 3) := by decide +kernel
theorem dX12_line_90 : decode cX12_line 90 = .ok (.ifCond .eq 7, 3) := by decide +kernel
theorem dX12_line_93 : decode cX12_line 93 = .ok (.iconst 3, 1) := by decide +kernel
theorem dX12_line_94 : decode cX12_line 94 = .ok (.goto 4, 3) := by decide +kernel
theorem dX12_line_97 : decode cX12_line 97 = .ok (.iconst (-1), 1) := by decide +kernel
theorem dX12_line_98 : decode cX12_line 98 = .ok (.istore_n 2, 1) := by decide +kernel
theorem dX12_line_99 : decode cX12_line 99 = .ok (.iload_n 2, 1) := by decide +kernel
theorem dX12_line_100 : decode cX12_line 100 = .ok (.iconst (-1), 1) := by decide +kernel
theorem dX12_line_101 : decode cX12_line 101 = .ok (.if_icmp .ne 8, 3) := by decide +kernel
theorem dX12_line_104 : decode cX12_line 104 = .ok (.aload_n 0, 1) := by decide +kernel
theorem dX12_line_105 : decode cX12_line 105 = .ok (.iconst 1, 1) := by decide +kernel
theorem dX12_line_106 : decode cX12_line 106 = .ok (.invokevirtual 182, 3) := by decide +kernel
theorem dX12_line_109 : decode cX12_line 109 = .ok (.aload_n 0, 1) := by decide +kernel
theorem dX12_line_110 : decode cX12_line 110 = .ok (.iload_n 2, 1) := by decide +kernel
theorem dX12_line_111 : decode cX12_line 111 = .ok (.invokevirtual 248, 3) := by decide +kernel
theorem dX12_line_114 : decode cX12_line 114 = .ok (.ifCond .eq 8, 3) := by decide +kernel
theorem dX12_line_117 : decode cX12_line 117 = .ok (.aload_n 0, 1) := by decide +kernel
theorem dX12_line_118 : decode cX12_line 118 = .ok (.iconst 3, 1) := by decide +kernel
theorem dX12_line_119 : decode cX12_line 119 = .ok (.invokevirtual 182, 3) := by decide +kernel
theorem dX12_line_122 : decode cX12_line 122 = .ok (.aload_n 0, 1) := by decide +kernel
theorem dX12_line_123 : decode cX12_line 123 = .ok (.getfield 166, 3) := by decide +kernel
theorem dX12_line_126 : decode cX12_line 126 = .ok (.ifCond .eq 4, 3) := by decide +kernel
theorem dX12_line_129 : decode cX12_line 129 = .ok (.return_, 1) := by decide +kernel
theorem dX12_line_130 : decode cX12_line 130 = .ok (.aload_n 0, 1) := by decide +kernel
theorem dX12_line_131 : decode cX12_line 131 = .ok (.invokevirtual 176, 3) := by decide +kernel
theorem dX12_line_134 : decode cX12_line 134 = .ok (.iload_n 2, 1) := by decide +kernel
theorem dX12_line_135 : decode cX12_line 135 = .ok (.tableswitch 46 0 2 #[25, 32, 39], 25) := by decide +kernel
theorem dX12_line_160 : decode cX12_line 160 = .ok (.aload_n 0, 1) := by decide +kernel
theorem dX12_line_161 : decode cX12_line 161 = .ok (.invokevirtual 251, 3) := by decide +kernel
theorem dX12_line_164 : decode cX12_line 164 = .ok (.goto 21, 3) := by decide +kernel
theorem dX12_line_167 : decode cX12_line 167 = .ok (.aload_n 0, 1) := by decide +kernel
theorem dX12_line_168 : decode cX12_line 168 = .ok (.invokevirtual 254, 3) := by decide +kernel
theorem dX12_line_171 : decode cX12_line 171 = .ok (.goto 14, 3) := by decide +kernel
theorem dX12_line_174 : decode cX12_line 174 = .ok (.aload_n 0, 1) := by decide +kernel
theorem dX12_line_175 : decode cX12_line 175 = .ok (.invokevirtual 257, 3) := by decide +kernel
theorem dX12_line_178 : decode cX12_line 178 = .ok (.goto 7, 3) := by decide +kernel
theorem dX12_line_181 : decode cX12_line 181 = .ok (.aload_n 0, 1) := by decide +kernel
theorem dX12_line_182 : decode cX12_line 182 = .ok (.invokevirtual 260, 3) := by decide +kernel
theorem dX12_line_185 : decode cX12_line 185 = .ok (.return_, 1) := by decide +kernel
theorem dX12_railLine_0 : decode cX12_railLine 0 = .ok (.aload_n 0, 1) := by decide +kernel
theorem dX12_railLine_1 : decode cX12_railLine 1 = .ok (.ldc2_w 263, 3) := by decide +kernel
theorem dX12_railLine_4 : decode cX12_railLine 4 = .ok (.invokevirtual 185, 3) := by decide +kernel
theorem dX12_railLine_7 : decode cX12_railLine 7 = .ok (.aload_n 0, 1) := by decide +kernel
theorem dX12_railLine_8 : decode cX12_railLine 8 = .ok (.getfield 34, 3) := by decide +kernel
theorem dX12_railLine_11 : decode cX12_railLine 11 = .ok (.iconst 4, 1) := by decide +kernel
theorem dX12_railLine_12 : decode cX12_railLine 12 = .ok (.aload_n 0, 1) := by decide +kernel
theorem dX12_railLine_13 : decode cX12_railLine 13 = .ok (.ldc2_w 265, 3) := by decide +kernel
theorem dX12_railLine_16 : decode cX12_railLine 16 = .ok (.iconst 1, 1) := by decide +kernel
theorem dX12_railLine_17 : decode cX12_railLine 17 = .ok (.bipush 20, 2) := by decide +kernel
theorem dX12_railLine_19 : decode cX12_railLine 19 = .ok (.invokevirtual 198, 3) := by decide +kernel
theorem dX12_railLine_22 : decode cX12_railLine 22 = .ok (.iastore, 1) := by decide +kernel
theorem dX12_railLine_23 : decode cX12_railLine 23 = .ok (.aload_n 0, 1) := by decide +kernel
theorem dX12_railLine_24 : decode cX12_railLine 24 = .ok (.getfield 37, 3) := by decide +kernel
theorem dX12_railLine_27 : decode cX12_railLine 27 = .ok (.iconst 4, 1) := by decide +kernel
theorem dX12_railLine_28 : decode cX12_railLine 28 = .ok (.aload_n 0, 1) := by decide +kernel
theorem dX12_railLine_29 : decode cX12_railLine 29 = .ok (.ldc2_w 267, 3) := by decide +kernel
theorem dX12_railLine_32 : decode cX12_railLine 32 = .ok (.iconst 1, 1) := by decide +kernel
theorem dX12_railLine_33 : decode cX12_railLine 33 = .ok (.bipush 60, 2) := by decide +kernel
theorem dX12_railLine_35 : decode cX12_railLine 35 = .ok (.invokevirtual 198, 3) := by decide +kernel
theorem dX12_railLine_38 : decode cX12_railLine 38 = .ok (.iastore, 1) := by decide +kernel
theorem dX12_railLine_39 : decode cX12_railLine 39 = .ok (.return_, 1) := by decide +kernel
theorem dX12_clears_0 : decode cX12_clears 0 = .ok (.aload_n 0, 1) := by decide +kernel
theorem dX12_clears_1 : decode cX12_clears 1 = .ok (.getfield 31, 3) := by decide +kernel
theorem dX12_clears_4 : decode cX12_clears 4 = .ok (.iconst 4, 1) := by decide +kernel
theorem dX12_clears_5 : decode cX12_clears 5 = .ok (.iconst 0, 1) := by decide +kernel
theorem dX12_clears_6 : decode cX12_clears 6 = .ok (.iastore, 1) := by decide +kernel
theorem dX12_clears_7 : decode cX12_clears 7 = .ok (.aload_n 0, 1) := by decide +kernel
theorem dX12_clears_8 : decode cX12_clears 8 = .ok (.getfield 34, 3) := by decide +kernel
theorem dX12_clears_11 : decode cX12_clears 11 = .ok (.iconst 4, 1) := by decide +kernel
theorem dX12_clears_12 : decode cX12_clears 12 = .ok (.iconst 0, 1) := by decide +kernel
theorem dX12_clears_13 : decode cX12_clears 13 = .ok (.iastore, 1) := by decide +kernel
theorem dX12_clears_14 : decode cX12_clears 14 = .ok (.aload_n 0, 1) := by decide +kernel
theorem dX12_clears_15 : decode cX12_clears 15 = .ok (.getfield 37, 3) := by decide +kernel
theorem dX12_clears_18 : decode cX12_clears 18 = .ok (.iconst 4, 1) := by decide +kernel
theorem dX12_clears_19 : decode cX12_clears 19 = .ok (.iconst 0, 1) := by decide +kernel
theorem dX12_clears_20 : decode cX12_clears 20 = .ok (.iastore, 1) := by decide +kernel
theorem dX12_clears_21 : decode cX12_clears 21 = .ok (.aload_n 0, 1) := by decide +kernel
theorem dX12_clears_22 : decode cX12_clears 22 = .ok (.getfield 40, 3) := by decide +kernel
theorem dX12_clears_25 : decode cX12_clears 25 = .ok (.iconst 4, 1) := by decide +kernel
theorem dX12_clears_26 : decode cX12_clears 26 = .ok (.iconst 0, 1) := by decide +kernel
theorem dX12_clears_27 : decode cX12_clears 27 = .ok (.iastore, 1) := by decide +kernel
theorem dX12_clears_28 : decode cX12_clears 28 = .ok (.aload_n 0, 1) := by decide +kernel
theorem dX12_clears_29 : decode cX12_clears 29 = .ok (.getfield 46, 3) := by decide +kernel
theorem dX12_clears_32 : decode cX12_clears 32 = .ok (.iconst 4, 1) := by decide +kernel
theorem dX12_clears_33 : decode cX12_clears 33 = .ok (.iconst 0, 1) := by decide +kernel
theorem dX12_clears_34 : decode cX12_clears 34 = .ok (.iastore, 1) := by decide +kernel
theorem dX12_clears_35 : decode cX12_clears 35 = .ok (.aload_n 0, 1) := by decide +kernel
theorem dX12_clears_36 : decode cX12_clears 36 = .ok (.getfield 52, 3) := by decide +kernel
theorem dX12_clears_39 : decode cX12_clears 39 = .ok (.iconst 4, 1) := by decide +kernel
theorem dX12_clears_40 : decode cX12_clears 40 = .ok (.iconst 0, 1) := by decide +kernel
theorem dX12_clears_41 : decode cX12_clears 41 = .ok (.iastore, 1) := by decide +kernel
theorem dX12_clears_42 : decode cX12_clears 42 = .ok (.aload_n 0, 1) := by decide +kernel
theorem dX12_clears_43 : decode cX12_clears 43 = .ok (.getfield 58, 3) := by decide +kernel
theorem dX12_clears_46 : decode cX12_clears 46 = .ok (.iconst 4, 1) := by decide +kernel
theorem dX12_clears_47 : decode cX12_clears 47 = .ok (.iconst 0, 1) := by decide +kernel
theorem dX12_clears_48 : decode cX12_clears 48 = .ok (.iastore, 1) := by decide +kernel
theorem dX12_clears_49 : decode cX12_clears 49 = .ok (.iconst 0, 1) := by decide +kernel
theorem dX12_clears_50 : decode cX12_clears 50 = .ok (.istore_n 1, 1) := by decide +kernel
theorem dX12_clears_51 : decode cX12_clears 51 = .ok (.iload_n 1, 1) := by decide +kernel
theorem dX12_clears_52 : decode cX12_clears 52 = .ok (.bipush 7, 2) := by decide +kernel
theorem dX12_clears_54 : decode cX12_clears 54 = .ok (.if_icmp .ge 19, 3) := by decide +kernel
theorem dX12_clears_57 : decode cX12_clears 57 = .ok (.aload_n 0, 1) := by decide +kernel
theorem dX12_clears_58 : decode cX12_clears 58 = .ok (.getfield 64, 3) := by decide +kernel
theorem dX12_clears_61 : decode cX12_clears 61 = .ok (.bipush 28, 2) := by decide +kernel
theorem dX12_clears_63 : decode cX12_clears 63 = .ok (.iload_n 1, 1) := by decide +kernel
theorem dX12_clears_64 : decode cX12_clears 64 = .ok (.iadd, 1) := by decide +kernel
theorem dX12_clears_65 : decode cX12_clears 65 = .ok (.iconst 0, 1) := by decide +kernel
theorem dX12_clears_66 : decode cX12_clears 66 = .ok (.iastore, 1) := by decide +kernel
theorem dX12_clears_67 : decode cX12_clears 67 = .ok (.iinc 1 1, 3) := by decide +kernel
theorem dX12_clears_70 : decode cX12_clears 70 = .ok (.goto (-19), 3) := by decide +kernel
theorem dX12_clears_73 : decode cX12_clears 73 = .ok (.iconst 0, 1) := by decide +kernel
theorem dX12_clears_74 : decode cX12_clears 74 = .ok (.istore_n 1, 1) := by decide +kernel
theorem dX12_clears_75 : decode cX12_clears 75 = .ok (.iload_n 1, 1) := by decide +kernel
theorem dX12_clears_76 : decode cX12_clears 76 = .ok (.iconst 2, 1) := by decide +kernel
theorem dX12_clears_77 : decode cX12_clears 77 = .ok (.if_icmp .ge 19, 3) := by decide +kernel
theorem dX12_clears_80 : decode cX12_clears 80 = .ok (.aload_n 0, 1) := by decide +kernel
theorem dX12_clears_81 : decode cX12_clears 81 = .ok (.getfield 67, 3) := by decide +kernel
theorem dX12_clears_84 : decode cX12_clears 84 = .ok (.bipush 8, 2) := by decide +kernel
theorem dX12_clears_86 : decode cX12_clears 86 = .ok (.iload_n 1, 1) := by decide +kernel
theorem dX12_clears_87 : decode cX12_clears 87 = .ok (.iadd, 1) := by decide +kernel
theorem dX12_clears_88 : decode cX12_clears 88 = .ok (.iconst 0, 1) := by decide +kernel
theorem dX12_clears_89 : decode cX12_clears 89 = .ok (.bastore, 1) := by decide +kernel
theorem dX12_clears_90 : decode cX12_clears 90 = .ok (.iinc 1 1, 3) := by decide +kernel
theorem dX12_clears_93 : decode cX12_clears 93 = .ok (.goto (-18), 3) := by decide +kernel
theorem dX12_clears_96 : decode cX12_clears 96 = .ok (.iconst 0, 1) := by decide +kernel
theorem dX12_clears_97 : decode cX12_clears 97 = .ok (.istore_n 1, 1) := by decide +kernel
theorem dX12_clears_98 : decode cX12_clears 98 = .ok (.iload_n 1, 1) := by decide +kernel
theorem dX12_clears_99 : decode cX12_clears 99 = .ok (.bipush 17, 2) := by decide +kernel
theorem dX12_clears_101 : decode cX12_clears 101 = .ok (.if_icmp .ge 19, 3) := by decide +kernel
theorem dX12_clears_104 : decode cX12_clears 104 = .ok (.aload_n 0, 1) := by decide +kernel
theorem dX12_clears_105 : decode cX12_clears 105 = .ok (.getfield 71, 3) := by decide +kernel
theorem dX12_clears_108 : decode cX12_clears 108 = .ok (.bipush 68, 2) := by decide +kernel
theorem dX12_clears_110 : decode cX12_clears 110 = .ok (.iload_n 1, 1) := by decide +kernel
theorem dX12_clears_111 : decode cX12_clears 111 = .ok (.iadd, 1) := by decide +kernel
theorem dX12_clears_112 : decode cX12_clears 112 = .ok (.iconst 0, 1) := by decide +kernel
theorem dX12_clears_113 : decode cX12_clears 113 = .ok (.iastore, 1) := by decide +kernel
theorem dX12_clears_114 : decode cX12_clears 114 = .ok (.iinc 1 1, 3) := by decide +kernel
theorem dX12_clears_117 : decode cX12_clears 117 = .ok (.goto (-19), 3) := by decide +kernel
theorem dX12_clears_120 : decode cX12_clears 120 = .ok (.return_, 1) := by decide +kernel
theorem dX12_rail_0 : decode cX12_rail 0 = .ok (.aload_n 0, 1) := by decide +kernel
theorem dX12_rail_1 : decode cX12_rail 1 = .ok (.iconst 0, 1) := by decide +kernel
theorem dX12_rail_2 : decode cX12_rail 2 = .ok (.putfield 114, 3) := by decide +kernel
theorem dX12_rail_5 : decode cX12_rail 5 = .ok (.aload_n 0, 1) := by decide +kernel
theorem dX12_rail_6 : decode cX12_rail 6 = .ok (.invokevirtual 269, 3) := by decide +kernel
theorem dX12_rail_9 : decode cX12_rail 9 = .ok (.aload_n 0, 1) := by decide +kernel
theorem dX12_rail_10 : decode cX12_rail 10 = .ok (.invokevirtual 272, 3) := by decide +kernel
theorem dX12_rail_13 : decode cX12_rail 13 = .ok (.aload_n 0, 1) := by decide +kernel
theorem dX12_rail_14 : decode cX12_rail 14 = .ok (.invokevirtual 275, 3) := by decide +kernel
theorem dX12_rail_17 : decode cX12_rail 17 = .ok (.ifCond .eq 54, 3) := by decide +kernel
theorem dX12_rail_20 : decode cX12_rail 20 = .ok (.aload_n 0, 1) := by decide +kernel
theorem dX12_rail_21 : decode cX12_rail 21 = .ok (.getfield 155, 3) := by decide +kernel
theorem dX12_rail_24 : decode cX12_rail 24 = .ok (.ifCond .eq 47, 3) := by decide +kernel
theorem dX12_rail_27 : decode cX12_rail 27 = .ok (.aload_n 0, 1) := by decide +kernel
theorem dX12_rail_28 : decode cX12_rail 28 = .ok (.getfield 31, 3) := by decide +kernel
theorem dX12_rail_31 : decode cX12_rail 31 = .ok (.iconst 4, 1) := by decide +kernel
theorem dX12_rail_32 : decode cX12_rail 32 = .ok (.iaload, 1) := by decide +kernel
theorem dX12_rail_33 : decode cX12_rail 33 = .ok (.ifCond .ne 10, 3) := by decide +kernel
theorem dX12_rail_36 : decode cX12_rail 36 = .ok (.aload_n 0, 1) := by decide +kernel
theorem dX12_rail_37 : decode cX12_rail 37 = .ok (.invokevirtual 279, 3) := by decide +kernel
theorem dX12_rail_40 : decode cX12_rail 40 = .ok (.goto 7, 3) := by decide +kernel
theorem dX12_rail_43 : decode cX12_rail 43 = .ok (.aload_n 0, 1) := by decide +kernel
theorem dX12_rail_44 : decode cX12_rail 44 = .ok (.invokevirtual 282, 3) := by decide +kernel
theorem dX12_rail_47 : decode cX12_rail 47 = .ok (.aload_n 0, 1) := by decide +kernel
theorem dX12_rail_48 : decode cX12_rail 48 = .ok (.invokevirtual 275, 3) := by decide +kernel
theorem dX12_rail_51 : decode cX12_rail 51 = .ok (.ifCond .eq 7, 3) := by decide +kernel
theorem dX12_rail_54 : decode cX12_rail 54 = .ok (.aload_n 0, 1) := by decide +kernel
theorem dX12_rail_55 : decode cX12_rail 55 = .ok (.invokevirtual 285, 3) := by decide +kernel
theorem dX12_rail_58 : decode cX12_rail 58 = .ok (.aload_n 0, 1) := by decide +kernel
theorem dX12_rail_59 : decode cX12_rail 59 = .ok (.getfield 31, 3) := by decide +kernel
theorem dX12_rail_62 : decode cX12_rail 62 = .ok (.iconst 4, 1) := by decide +kernel
theorem dX12_rail_63 : decode cX12_rail 63 = .ok (.dup2, 1) := by decide +kernel
theorem dX12_rail_64 : decode cX12_rail 64 = .ok (.iaload, 1) := by decide +kernel
theorem dX12_rail_65 : decode cX12_rail 65 = .ok (.iconst 1, 1) := by decide +kernel
theorem dX12_rail_66 : decode cX12_rail 66 = .ok (.iadd, 1) := by decide +kernel
theorem dX12_rail_67 : decode cX12_rail 67 = .ok (.iastore, 1) := by decide +kernel
theorem dX12_rail_68 : decode cX12_rail 68 = .ok (.goto (-55), 3) := by decide +kernel
theorem dX12_rail_71 : decode cX12_rail 71 = .ok (.aload_n 0, 1) := by decide +kernel
theorem dX12_rail_72 : decode cX12_rail 72 = .ok (.invokevirtual 288, 3) := by decide +kernel
theorem dX12_rail_75 : decode cX12_rail 75 = .ok (.aload_n 0, 1) := by decide +kernel
theorem dX12_rail_76 : decode cX12_rail 76 = .ok (.getfield 166, 3) := by decide +kernel
theorem dX12_rail_79 : decode cX12_rail 79 = .ok (.ifCond .eq 6, 3) := by decide +kernel
theorem dX12_rail_82 : decode cX12_rail 82 = .ok (.bipush (-4), 2) := by decide +kernel
theorem dX12_rail_84 : decode cX12_rail 84 = .ok (.ireturn, 1) := by decide +kernel
theorem dX12_rail_85 : decode cX12_rail 85 = .ok (.aload_n 0, 1) := by decide +kernel
theorem dX12_rail_86 : decode cX12_rail 86 = .ok (.iconst 4, 1) := by decide +kernel
theorem dX12_rail_87 : decode cX12_rail 87 = .ok (.iconst 0, 1) := by decide +kernel
theorem dX12_rail_88 : decode cX12_rail 88 = .ok (.invokevirtual 291, 3) := by decide +kernel
theorem dX12_rail_91 : decode cX12_rail 91 = .ok (.aload_n 0, 1) := by decide +kernel
theorem dX12_rail_92 : decode cX12_rail 92 = .ok (.getfield 31, 3) := by decide +kernel
theorem dX12_rail_95 : decode cX12_rail 95 = .ok (.iconst 0, 1) := by decide +kernel
theorem dX12_rail_96 : decode cX12_rail 96 = .ok (.iaload, 1) := by decide +kernel
theorem dX12_rail_97 : decode cX12_rail 97 = .ok (.ireturn, 1) := by decide +kernel
theorem dX12_copyRow_0 : decode cX12_copyRow 0 = .ok (.iconst 0, 1) := by decide +kernel
theorem dX12_copyRow_1 : decode cX12_copyRow 1 = .ok (.istore 4, 2) := by decide +kernel
theorem dX12_copyRow_3 : decode cX12_copyRow 3 = .ok (.iload 4, 2) := by decide +kernel
theorem dX12_copyRow_5 : decode cX12_copyRow 5 = .ok (.iload_n 1, 1) := by decide +kernel
theorem dX12_copyRow_6 : decode cX12_copyRow 6 = .ok (.if_icmp .ge 25, 3) := by decide +kernel
theorem dX12_copyRow_9 : decode cX12_copyRow 9 = .ok (.aload_n 0, 1) := by decide +kernel
theorem dX12_copyRow_10 : decode cX12_copyRow 10 = .ok (.iload_n 1, 1) := by decide +kernel
theorem dX12_copyRow_11 : decode cX12_copyRow 11 = .ok (.iload_n 3, 1) := by decide +kernel
theorem dX12_copyRow_12 : decode cX12_copyRow 12 = .ok (.imul, 1) := by decide +kernel
theorem dX12_copyRow_13 : decode cX12_copyRow 13 = .ok (.iload 4, 2) := by decide +kernel
theorem dX12_copyRow_15 : decode cX12_copyRow 15 = .ok (.iadd, 1) := by decide +kernel
theorem dX12_copyRow_16 : decode cX12_copyRow 16 = .ok (.aload_n 0, 1) := by decide +kernel
theorem dX12_copyRow_17 : decode cX12_copyRow 17 = .ok (.iload_n 1, 1) := by decide +kernel
theorem dX12_copyRow_18 : decode cX12_copyRow 18 = .ok (.iload_n 2, 1) := by decide +kernel
theorem dX12_copyRow_19 : decode cX12_copyRow 19 = .ok (.imul, 1) := by decide +kernel
theorem dX12_copyRow_20 : decode cX12_copyRow 20 = .ok (.iload 4, 2) := by decide +kernel
theorem dX12_copyRow_22 : decode cX12_copyRow 22 = .ok (.iadd, 1) := by decide +kernel
theorem dX12_copyRow_23 : decode cX12_copyRow 23 = .ok (.iaload, 1) := by decide +kernel
theorem dX12_copyRow_24 : decode cX12_copyRow 24 = .ok (.iastore, 1) := by decide +kernel
theorem dX12_copyRow_25 : decode cX12_copyRow 25 = .ok (.iinc 4 1, 3) := by decide +kernel
theorem dX12_copyRow_28 : decode cX12_copyRow 28 = .ok (.goto (-25), 3) := by decide +kernel
theorem dX12_copyRow_31 : decode cX12_copyRow 31 = .ok (.return_, 1) := by decide +kernel
theorem dX12_copyRail_0 : decode cX12_copyRail 0 = .ok (.aload_n 0, 1) := by decide +kernel
theorem dX12_copyRail_1 : decode cX12_copyRail 1 = .ok (.getfield 31, 3) := by decide +kernel
theorem dX12_copyRail_4 : decode cX12_copyRail 4 = .ok (.iconst 1, 1) := by decide +kernel
theorem dX12_copyRail_5 : decode cX12_copyRail 5 = .ok (.iload_n 1, 1) := by decide +kernel
theorem dX12_copyRail_6 : decode cX12_copyRail 6 = .ok (.iload_n 2, 1) := by decide +kernel
theorem dX12_copyRail_7 : decode cX12_copyRail 7 = .ok (.invokestatic 295, 3) := by decide +kernel
theorem dX12_copyRail_10 : decode cX12_copyRail 10 = .ok (.aload_n 0, 1) := by decide +kernel
theorem dX12_copyRail_11 : decode cX12_copyRail 11 = .ok (.getfield 34, 3) := by decide +kernel
theorem dX12_copyRail_14 : decode cX12_copyRail 14 = .ok (.iconst 1, 1) := by decide +kernel
theorem dX12_copyRail_15 : decode cX12_copyRail 15 = .ok (.iload_n 1, 1) := by decide +kernel
theorem dX12_copyRail_16 : decode cX12_copyRail 16 = .ok (.iload_n 2, 1) := by decide +kernel
theorem dX12_copyRail_17 : decode cX12_copyRail 17 = .ok (.invokestatic 295, 3) := by decide +kernel
theorem dX12_copyRail_20 : decode cX12_copyRail 20 = .ok (.aload_n 0, 1) := by decide +kernel
theorem dX12_copyRail_21 : decode cX12_copyRail 21 = .ok (.getfield 37, 3) := by decide +kernel
theorem dX12_copyRail_24 : decode cX12_copyRail 24 = .ok (.iconst 1, 1) := by decide +kernel
theorem dX12_copyRail_25 : decode cX12_copyRail 25 = .ok (.iload_n 1, 1) := by decide +kernel
theorem dX12_copyRail_26 : decode cX12_copyRail 26 = .ok (.iload_n 2, 1) := by decide +kernel
theorem dX12_copyRail_27 : decode cX12_copyRail 27 = .ok (.invokestatic 295, 3) := by decide +kernel
theorem dX12_copyRail_30 : decode cX12_copyRail 30 = .ok (.aload_n 0, 1) := by decide +kernel
theorem dX12_copyRail_31 : decode cX12_copyRail 31 = .ok (.getfield 40, 3) := by decide +kernel
theorem dX12_copyRail_34 : decode cX12_copyRail 34 = .ok (.iconst 1, 1) := by decide +kernel
theorem dX12_copyRail_35 : decode cX12_copyRail 35 = .ok (.iload_n 1, 1) := by decide +kernel
theorem dX12_copyRail_36 : decode cX12_copyRail 36 = .ok (.iload_n 2, 1) := by decide +kernel
theorem dX12_copyRail_37 : decode cX12_copyRail 37 = .ok (.invokestatic 295, 3) := by decide +kernel
theorem dX12_copyRail_40 : decode cX12_copyRail 40 = .ok (.aload_n 0, 1) := by decide +kernel
theorem dX12_copyRail_41 : decode cX12_copyRail 41 = .ok (.getfield 43, 3) := by decide +kernel
theorem dX12_copyRail_44 : decode cX12_copyRail 44 = .ok (.bipush 8, 2) := by decide +kernel
theorem dX12_copyRail_46 : decode cX12_copyRail 46 = .ok (.iload_n 1, 1) := by decide +kernel
theorem dX12_copyRail_47 : decode cX12_copyRail 47 = .ok (.iload_n 2, 1) := by decide +kernel
theorem dX12_copyRail_48 : decode cX12_copyRail 48 = .ok (.invokestatic 295, 3) := by decide +kernel
theorem dX12_copyRail_51 : decode cX12_copyRail 51 = .ok (.aload_n 0, 1) := by decide +kernel
theorem dX12_copyRail_52 : decode cX12_copyRail 52 = .ok (.getfield 46, 3) := by decide +kernel
theorem dX12_copyRail_55 : decode cX12_copyRail 55 = .ok (.iconst 1, 1) := by decide +kernel
theorem dX12_copyRail_56 : decode cX12_copyRail 56 = .ok (.iload_n 1, 1) := by decide +kernel
theorem dX12_copyRail_57 : decode cX12_copyRail 57 = .ok (.iload_n 2, 1) := by decide +kernel
theorem dX12_copyRail_58 : decode cX12_copyRail 58 = .ok (.invokestatic 295, 3) := by decide +kernel
theorem dX12_copyRail_61 : decode cX12_copyRail 61 = .ok (.aload_n 0, 1) := by decide +kernel
theorem dX12_copyRail_62 : decode cX12_copyRail 62 = .ok (.getfield 49, 3) := by decide +kernel
theorem dX12_copyRail_65 : decode cX12_copyRail 65 = .ok (.bipush 20, 2) := by decide +kernel
theorem dX12_copyRail_67 : decode cX12_copyRail 67 = .ok (.iload_n 1, 1) := by decide +kernel
theorem dX12_copyRail_68 : decode cX12_copyRail 68 = .ok (.iload_n 2, 1) := by decide +kernel
theorem dX12_copyRail_69 : decode cX12_copyRail 69 = .ok (.invokestatic 295, 3) := by decide +kernel
theorem dX12_copyRail_72 : decode cX12_copyRail 72 = .ok (.aload_n 0, 1) := by decide +kernel
theorem dX12_copyRail_73 : decode cX12_copyRail 73 = .ok (.getfield 52, 3) := by decide +kernel
theorem dX12_copyRail_76 : decode cX12_copyRail 76 = .ok (.iconst 1, 1) := by decide +kernel
theorem dX12_copyRail_77 : decode cX12_copyRail 77 = .ok (.iload_n 1, 1) := by decide +kernel
theorem dX12_copyRail_78 : decode cX12_copyRail 78 = .ok (.iload_n 2, 1) := by decide +kernel
theorem dX12_copyRail_79 : decode cX12_copyRail 79 = .ok (.invokestatic 295, 3) := by decide +kernel
theorem dX12_copyRail_82 : decode cX12_copyRail 82 = .ok (.aload_n 0, 1) := by decide +kernel
theorem dX12_copyRail_83 : decode cX12_copyRail 83 = .ok (.getfield 55, 3) := by decide +kernel
theorem dX12_copyRail_86 : decode cX12_copyRail 86 = .ok (.bipush 50, 2) := by decide +kernel
theorem dX12_copyRail_88 : decode cX12_copyRail 88 = .ok (.iload_n 1, 1) := by decide +kernel
theorem dX12_copyRail_89 : decode cX12_copyRail 89 = .ok (.iload_n 2, 1) := by decide +kernel
theorem dX12_copyRail_90 : decode cX12_copyRail 90 = .ok (.invokestatic 295, 3) := by decide +kernel
theorem dX12_copyRail_93 : decode cX12_copyRail 93 = .ok (.aload_n 0, 1) := by decide +kernel
theorem dX12_copyRail_94 : decode cX12_copyRail 94 = .ok (.getfield 58, 3) := by decide +kernel
theorem dX12_copyRail_97 : decode cX12_copyRail 97 = .ok (.iconst 1, 1) := by decide +kernel
theorem dX12_copyRail_98 : decode cX12_copyRail 98 = .ok (.iload_n 1, 1) := by decide +kernel
theorem dX12_copyRail_99 : decode cX12_copyRail 99 = .ok (.iload_n 2, 1) := by decide +kernel
theorem dX12_copyRail_100 : decode cX12_copyRail 100 = .ok (.invokestatic 295, 3) := by decide +kernel
theorem dX12_copyRail_103 : decode cX12_copyRail 103 = .ok (.aload_n 0, 1) := by decide +kernel
theorem dX12_copyRail_104 : decode cX12_copyRail 104 = .ok (.getfield 61, 3) := by decide +kernel
theorem dX12_copyRail_107 : decode cX12_copyRail 107 = .ok (.bipush 30, 2) := by decide +kernel
theorem dX12_copyRail_109 : decode cX12_copyRail 109 = .ok (.iload_n 1, 1) := by decide +kernel
theorem dX12_copyRail_110 : decode cX12_copyRail 110 = .ok (.iload_n 2, 1) := by decide +kernel
theorem dX12_copyRail_111 : decode cX12_copyRail 111 = .ok (.invokestatic 295, 3) := by decide +kernel
theorem dX12_copyRail_114 : decode cX12_copyRail 114 = .ok (.aload_n 0, 1) := by decide +kernel
theorem dX12_copyRail_115 : decode cX12_copyRail 115 = .ok (.getfield 64, 3) := by decide +kernel
theorem dX12_copyRail_118 : decode cX12_copyRail 118 = .ok (.bipush 7, 2) := by decide +kernel
theorem dX12_copyRail_120 : decode cX12_copyRail 120 = .ok (.iload_n 1, 1) := by decide +kernel
theorem dX12_copyRail_121 : decode cX12_copyRail 121 = .ok (.iload_n 2, 1) := by decide +kernel
theorem dX12_copyRail_122 : decode cX12_copyRail 122 = .ok (.invokestatic 295, 3) := by decide +kernel
theorem dX12_copyRail_125 : decode cX12_copyRail 125 = .ok (.aload_n 0, 1) := by decide +kernel
theorem dX12_copyRail_126 : decode cX12_copyRail 126 = .ok (.getfield 71, 3) := by decide +kernel
theorem dX12_copyRail_129 : decode cX12_copyRail 129 = .ok (.bipush 17, 2) := by decide +kernel
theorem dX12_copyRail_131 : decode cX12_copyRail 131 = .ok (.iload_n 1, 1) := by decide +kernel
theorem dX12_copyRail_132 : decode cX12_copyRail 132 = .ok (.iload_n 2, 1) := by decide +kernel
theorem dX12_copyRail_133 : decode cX12_copyRail 133 = .ok (.invokestatic 295, 3) := by decide +kernel
theorem dX12_copyRail_136 : decode cX12_copyRail 136 = .ok (.return_, 1) := by decide +kernel
theorem dX12_apart_0 : decode cX12_apart 0 = .ok (.iload_n 0, 1) := by decide +kernel
theorem dX12_apart_1 : decode cX12_apart 1 = .ok (.iload_n 1, 1) := by decide +kernel
theorem dX12_apart_2 : decode cX12_apart 2 = .ok (.if_icmp .ge 9, 3) := by decide +kernel
theorem dX12_apart_5 : decode cX12_apart 5 = .ok (.iload_n 1, 1) := by decide +kernel
theorem dX12_apart_6 : decode cX12_apart 6 = .ok (.iload_n 0, 1) := by decide +kernel
theorem dX12_apart_7 : decode cX12_apart 7 = .ok (.isub, 1) := by decide +kernel
theorem dX12_apart_8 : decode cX12_apart 8 = .ok (.goto 6, 3) := by decide +kernel
theorem dX12_apart_11 : decode cX12_apart 11 = .ok (.iload_n 0, 1) := by decide +kernel
theorem dX12_apart_12 : decode cX12_apart 12 = .ok (.iload_n 1, 1) := by decide +kernel
theorem dX12_apart_13 : decode cX12_apart 13 = .ok (.isub, 1) := by decide +kernel
theorem dX12_apart_14 : decode cX12_apart 14 = .ok (.ireturn, 1) := by decide +kernel
theorem dX12_above_0 : decode cX12_above 0 = .ok (.iload_n 0, 1) := by decide +kernel
theorem dX12_above_1 : decode cX12_above 1 = .ok (.ifCond .le 7, 3) := by decide +kernel
theorem dX12_above_4 : decode cX12_above 4 = .ok (.iload_n 0, 1) := by decide +kernel
theorem dX12_above_5 : decode cX12_above 5 = .ok (.goto 4, 3) := by decide +kernel
theorem dX12_above_8 : decode cX12_above 8 = .ok (.iconst 0, 1) := by decide +kernel
theorem dX12_above_9 : decode cX12_above 9 = .ok (.ireturn, 1) := by decide +kernel
theorem dX12_lightOf_0 : decode cX12_lightOf 0 = .ok (.aload_n 0, 1) := by decide +kernel
theorem dX12_lightOf_1 : decode cX12_lightOf 1 = .ok (.getfield 64, 3) := by decide +kernel
theorem dX12_lightOf_4 : decode cX12_lightOf 4 = .ok (.bipush 7, 2) := by decide +kernel
theorem dX12_lightOf_6 : decode cX12_lightOf 6 = .ok (.iload_n 1, 1) := by decide +kernel
theorem dX12_lightOf_7 : decode cX12_lightOf 7 = .ok (.imul, 1) := by decide +kernel
theorem dX12_lightOf_8 : decode cX12_lightOf 8 = .ok (.bipush 6, 2) := by decide +kernel
theorem dX12_lightOf_10 : decode cX12_lightOf 10 = .ok (.iadd, 1) := by decide +kernel
theorem dX12_lightOf_11 : decode cX12_lightOf 11 = .ok (.iaload, 1) := by decide +kernel
theorem dX12_lightOf_12 : decode cX12_lightOf 12 = .ok (.iconst 1, 1) := by decide +kernel
theorem dX12_lightOf_13 : decode cX12_lightOf 13 = .ok (.if_icmp .ne 17, 3) := by decide +kernel
theorem dX12_lightOf_16 : decode cX12_lightOf 16 = .ok (.aload_n 0, 1) := by decide +kernel
theorem dX12_lightOf_17 : decode cX12_lightOf 17 = .ok (.getfield 64, 3) := by decide +kernel
theorem dX12_lightOf_20 : decode cX12_lightOf 20 = .ok (.bipush 7, 2) := by decide +kernel
theorem dX12_lightOf_22 : decode cX12_lightOf 22 = .ok (.iload_n 1, 1) := by decide +kernel
theorem dX12_lightOf_23 : decode cX12_lightOf 23 = .ok (.imul, 1) := by decide +kernel
theorem dX12_lightOf_24 : decode cX12_lightOf 24 = .ok (.iconst 5, 1) := by decide +kernel
theorem dX12_lightOf_25 : decode cX12_lightOf 25 = .ok (.iadd, 1) := by decide +kernel
theorem dX12_lightOf_26 : decode cX12_lightOf 26 = .ok (.iaload, 1) := by decide +kernel
theorem dX12_lightOf_27 : decode cX12_lightOf 27 = .ok (.goto 4, 3) := by decide +kernel
theorem dX12_lightOf_30 : decode cX12_lightOf 30 = .ok (.iconst 0, 1) := by decide +kernel
theorem dX12_lightOf_31 : decode cX12_lightOf 31 = .ok (.istore_n 3, 1) := by decide +kernel
theorem dX12_lightOf_32 : decode cX12_lightOf 32 = .ok (.iconst 0, 1) := by decide +kernel
theorem dX12_lightOf_33 : decode cX12_lightOf 33 = .ok (.istore 4, 2) := by decide +kernel
theorem dX12_lightOf_35 : decode cX12_lightOf 35 = .ok (.iload 4, 2) := by decide +kernel
theorem dX12_lightOf_37 : decode cX12_lightOf 37 = .ok (.aload_n 0, 1) := by decide +kernel
theorem dX12_lightOf_38 : decode cX12_lightOf 38 = .ok (.getfield 40, 3) := by decide +kernel
theorem dX12_lightOf_41 : decode cX12_lightOf 41 = .ok (.iload_n 1, 1) := by decide +kernel
theorem dX12_lightOf_42 : decode cX12_lightOf 42 = .ok (.iaload, 1) := by decide +kernel
theorem dX12_lightOf_43 : decode cX12_lightOf 43 = .ok (.if_icmp .ge 46, 3) := by decide +kernel
theorem dX12_lightOf_46 : decode cX12_lightOf 46 = .ok (.iconst 2, 1) := by decide +kernel
theorem dX12_lightOf_47 : decode cX12_lightOf 47 = .ok (.iconst 4, 1) := by decide +kernel
theorem dX12_lightOf_48 : decode cX12_lightOf 48 = .ok (.iload_n 1, 1) := by decide +kernel
theorem dX12_lightOf_49 : decode cX12_lightOf 49 = .ok (.imul, 1) := by decide +kernel
theorem dX12_lightOf_50 : decode cX12_lightOf 50 = .ok (.iload 4, 2) := by decide +kernel
theorem dX12_lightOf_52 : decode cX12_lightOf 52 = .ok (.iadd, 1) := by decide +kernel
theorem dX12_lightOf_53 : decode cX12_lightOf 53 = .ok (.imul, 1) := by decide +kernel
theorem dX12_lightOf_54 : decode cX12_lightOf 54 = .ok (.istore 5, 2) := by decide +kernel
theorem dX12_lightOf_56 : decode cX12_lightOf 56 = .ok (.iload_n 3, 1) := by decide +kernel
theorem dX12_lightOf_57 : decode cX12_lightOf 57 = .ok (.aload_n 0, 1) := by decide +kernel
theorem dX12_lightOf_58 : decode cX12_lightOf 58 = .ok (.getfield 43, 3) := by decide +kernel
theorem dX12_lightOf_61 : decode cX12_lightOf 61 = .ok (.iload 5, 2) := by decide +kernel
theorem dX12_lightOf_63 : decode cX12_lightOf 63 = .ok (.iconst 1, 1) := by decide +kernel
theorem dX12_lightOf_64 : decode cX12_lightOf 64 = .ok (.iadd, 1) := by decide +kernel
theorem dX12_lightOf_65 : decode cX12_lightOf 65 = .ok (.iaload, 1) := by decide +kernel
theorem dX12_lightOf_66 : decode cX12_lightOf 66 = .ok (.aload_n 0, 1) := by decide +kernel
theorem dX12_lightOf_67 : decode cX12_lightOf 67 = .ok (.getfield 43, 3) := by decide +kernel
theorem dX12_lightOf_70 : decode cX12_lightOf 70 = .ok (.iload 5, 2) := by decide +kernel
theorem dX12_lightOf_72 : decode cX12_lightOf 72 = .ok (.iaload, 1) := by decide +kernel
theorem dX12_lightOf_73 : decode cX12_lightOf 73 = .ok (.iload_n 2, 1) := by decide +kernel
theorem dX12_lightOf_74 : decode cX12_lightOf 74 = .ok (.invokestatic 299, 3) := by decide +kernel
theorem dX12_lightOf_77 : decode cX12_lightOf 77 = .ok (.isub, 1) := by decide +kernel
theorem dX12_lightOf_78 : decode cX12_lightOf 78 = .ok (.invokestatic 302, 3) := by decide +kernel
theorem dX12_lightOf_81 : decode cX12_lightOf 81 = .ok (.iadd, 1) := by decide +kernel
theorem dX12_lightOf_82 : decode cX12_lightOf 82 = .ok (.istore_n 3, 1) := by decide +kernel
theorem dX12_lightOf_83 : decode cX12_lightOf 83 = .ok (.iinc 4 1, 3) := by decide +kernel
theorem dX12_lightOf_86 : decode cX12_lightOf 86 = .ok (.goto (-51), 3) := by decide +kernel
theorem dX12_lightOf_89 : decode cX12_lightOf 89 = .ok (.iload_n 3, 1) := by decide +kernel
theorem dX12_lightOf_90 : decode cX12_lightOf 90 = .ok (.aload_n 0, 1) := by decide +kernel
theorem dX12_lightOf_91 : decode cX12_lightOf 91 = .ok (.getfield 306, 3) := by decide +kernel
theorem dX12_lightOf_94 : decode cX12_lightOf 94 = .ok (.aload_n 0, 1) := by decide +kernel
theorem dX12_lightOf_95 : decode cX12_lightOf 95 = .ok (.getfield 309, 3) := by decide +kernel
theorem dX12_lightOf_98 : decode cX12_lightOf 98 = .ok (.iload_n 2, 1) := by decide +kernel
theorem dX12_lightOf_99 : decode cX12_lightOf 99 = .ok (.invokestatic 299, 3) := by decide +kernel
theorem dX12_lightOf_102 : decode cX12_lightOf 102 = .ok (.isub, 1) := by decide +kernel
theorem dX12_lightOf_103 : decode cX12_lightOf 103 = .ok (.invokestatic 302, 3) := by decide +kernel
theorem dX12_lightOf_106 : decode cX12_lightOf 106 = .ok (.iadd, 1) := by decide +kernel
theorem dX12_lightOf_107 : decode cX12_lightOf 107 = .ok (.ireturn, 1) := by decide +kernel
theorem dX12_isRail_0 : decode cX12_isRail 0 = .ok (.aload_n 0, 1) := by decide +kernel
theorem dX12_isRail_1 : decode cX12_isRail 1 = .ok (.getfield 34, 3) := by decide +kernel
theorem dX12_isRail_4 : decode cX12_isRail 4 = .ok (.iconst 0, 1) := by decide +kernel
theorem dX12_isRail_5 : decode cX12_isRail 5 = .ok (.iaload, 1) := by decide +kernel
theorem dX12_isRail_6 : decode cX12_isRail 6 = .ok (.ifCond .le 7, 3) := by decide +kernel
theorem dX12_isRail_9 : decode cX12_isRail 9 = .ok (.iconst 1, 1) := by decide +kernel
theorem dX12_isRail_10 : decode cX12_isRail 10 = .ok (.goto 4, 3) := by decide +kernel
theorem dX12_isRail_13 : decode cX12_isRail 13 = .ok (.iconst 0, 1) := by decide +kernel
theorem dX12_isRail_14 : decode cX12_isRail 14 = .ok (.ireturn, 1) := by decide +kernel
theorem dX12_isPlace_0 : decode cX12_isPlace 0 = .ok (.iload_n 1, 1) := by decide +kernel
theorem dX12_isPlace_1 : decode cX12_isPlace 1 = .ok (.i2l, 1) := by decide +kernel
theorem dX12_isPlace_2 : decode cX12_isPlace 2 = .ok (.lconst 0, 1) := by decide +kernel
theorem dX12_isPlace_3 : decode cX12_isPlace 3 = .ok (.aload_n 0, 1) := by decide +kernel
theorem dX12_isPlace_4 : decode cX12_isPlace 4 = .ok (.getfield 34, 3) := by decide +kernel
theorem dX12_isPlace_7 : decode cX12_isPlace 7 = .ok (.iconst 0, 1) := by decide +kernel
theorem dX12_isPlace_8 : decode cX12_isPlace 8 = .ok (.iaload, 1) := by decide +kernel
theorem dX12_isPlace_9 : decode cX12_isPlace 9 = .ok (.iconst 1, 1) := by decide +kernel
theorem dX12_isPlace_10 : decode cX12_isPlace 10 = .ok (.isub, 1) := by decide +kernel
theorem dX12_isPlace_11 : decode cX12_isPlace 11 = .ok (.i2l, 1) := by decide +kernel
theorem dX12_isPlace_12 : decode cX12_isPlace 12 = .ok (.invokestatic 119, 3) := by decide +kernel
theorem dX12_isPlace_15 : decode cX12_isPlace 15 = .ok (.ireturn, 1) := by decide +kernel
theorem dX12_isBike_0 : decode cX12_isBike 0 = .ok (.iload_n 1, 1) := by decide +kernel
theorem dX12_isBike_1 : decode cX12_isBike 1 = .ok (.i2l, 1) := by decide +kernel
theorem dX12_isBike_2 : decode cX12_isBike 2 = .ok (.lconst 0, 1) := by decide +kernel
theorem dX12_isBike_3 : decode cX12_isBike 3 = .ok (.aload_n 0, 1) := by decide +kernel
theorem dX12_isBike_4 : decode cX12_isBike 4 = .ok (.getfield 52, 3) := by decide +kernel
theorem dX12_isBike_7 : decode cX12_isBike 7 = .ok (.iconst 0, 1) := by decide +kernel
theorem dX12_isBike_8 : decode cX12_isBike 8 = .ok (.iaload, 1) := by decide +kernel
theorem dX12_isBike_9 : decode cX12_isBike 9 = .ok (.iconst 1, 1) := by decide +kernel
theorem dX12_isBike_10 : decode cX12_isBike 10 = .ok (.isub, 1) := by decide +kernel
theorem dX12_isBike_11 : decode cX12_isBike 11 = .ok (.i2l, 1) := by decide +kernel
theorem dX12_isBike_12 : decode cX12_isBike 12 = .ok (.invokestatic 119, 3) := by decide +kernel
theorem dX12_isBike_15 : decode cX12_isBike 15 = .ok (.ireturn, 1) := by decide +kernel
theorem dX12_isThief_0 : decode cX12_isThief 0 = .ok (.iload_n 1, 1) := by decide +kernel
theorem dX12_isThief_1 : decode cX12_isThief 1 = .ok (.i2l, 1) := by decide +kernel
theorem dX12_isThief_2 : decode cX12_isThief 2 = .ok (.lconst 0, 1) := by decide +kernel
theorem dX12_isThief_3 : decode cX12_isThief 3 = .ok (.aload_n 0, 1) := by decide +kernel
theorem dX12_isThief_4 : decode cX12_isThief 4 = .ok (.getfield 58, 3) := by decide +kernel
theorem dX12_isThief_7 : decode cX12_isThief 7 = .ok (.iconst 0, 1) := by decide +kernel
theorem dX12_isThief_8 : decode cX12_isThief 8 = .ok (.iaload, 1) := by decide +kernel
theorem dX12_isThief_9 : decode cX12_isThief 9 = .ok (.iconst 1, 1) := by decide +kernel
theorem dX12_isThief_10 : decode cX12_isThief 10 = .ok (.isub, 1) := by decide +kernel
theorem dX12_isThief_11 : decode cX12_isThief 11 = .ok (.i2l, 1) := by decide +kernel
theorem dX12_isThief_12 : decode cX12_isThief 12 = .ok (.invokestatic 119, 3) := by decide +kernel
theorem dX12_isThief_15 : decode cX12_isThief 15 = .ok (.ireturn, 1) := by decide +kernel
theorem dX12_at_0 : decode cX12_at 0 = .ok (.iconst 5, 1) := by decide +kernel
theorem dX12_at_1 : decode cX12_at 1 = .ok (.bipush 10, 2) := by decide +kernel
theorem dX12_at_3 : decode cX12_at 3 = .ok (.iload_n 0, 1) := by decide +kernel
theorem dX12_at_4 : decode cX12_at 4 = .ok (.imul, 1) := by decide +kernel
theorem dX12_at_5 : decode cX12_at 5 = .ok (.iload_n 1, 1) := by decide +kernel
theorem dX12_at_6 : decode cX12_at 6 = .ok (.iadd, 1) := by decide +kernel
theorem dX12_at_7 : decode cX12_at 7 = .ok (.imul, 1) := by decide +kernel
theorem dX12_at_8 : decode cX12_at 8 = .ok (.ireturn, 1) := by decide +kernel
theorem dX12_light_0 : decode cX12_light 0 = .ok (.aload_n 0, 1) := by decide +kernel
theorem dX12_light_1 : decode cX12_light 1 = .ok (.iconst 0, 1) := by decide +kernel
theorem dX12_light_2 : decode cX12_light 2 = .ok (.putfield 114, 3) := by decide +kernel
theorem dX12_light_5 : decode cX12_light 5 = .ok (.aload_n 0, 1) := by decide +kernel
theorem dX12_light_6 : decode cX12_light 6 = .ok (.iload_n 1, 1) := by decide +kernel
theorem dX12_light_7 : decode cX12_light 7 = .ok (.invokevirtual 312, 3) := by decide +kernel
theorem dX12_light_10 : decode cX12_light 10 = .ok (.ifCond .eq 12, 3) := by decide +kernel
theorem dX12_light_13 : decode cX12_light 13 = .ok (.aload_n 0, 1) := by decide +kernel
theorem dX12_light_14 : decode cX12_light 14 = .ok (.iconst 0, 1) := by decide +kernel
theorem dX12_light_15 : decode cX12_light 15 = .ok (.iload_n 1, 1) := by decide +kernel
theorem dX12_light_16 : decode cX12_light 16 = .ok (.invokevirtual 315, 3) := by decide +kernel
theorem dX12_light_19 : decode cX12_light 19 = .ok (.goto 5, 3) := by decide +kernel
theorem dX12_light_22 : decode cX12_light 22 = .ok (.bipush (-2), 2) := by decide +kernel
theorem dX12_light_24 : decode cX12_light 24 = .ok (.ireturn, 1) := by decide +kernel
theorem dX12_bike_0 : decode cX12_bike 0 = .ok (.aload_n 0, 1) := by decide +kernel
theorem dX12_bike_1 : decode cX12_bike 1 = .ok (.iconst 0, 1) := by decide +kernel
theorem dX12_bike_2 : decode cX12_bike 2 = .ok (.putfield 114, 3) := by decide +kernel
theorem dX12_bike_5 : decode cX12_bike 5 = .ok (.aload_n 0, 1) := by decide +kernel
theorem dX12_bike_6 : decode cX12_bike 6 = .ok (.iload_n 1, 1) := by decide +kernel
theorem dX12_bike_7 : decode cX12_bike 7 = .ok (.invokevirtual 318, 3) := by decide +kernel
theorem dX12_bike_10 : decode cX12_bike 10 = .ok (.ifCond .eq 30, 3) := by decide +kernel
theorem dX12_bike_13 : decode cX12_bike 13 = .ok (.iload_n 2, 1) := by decide +kernel
theorem dX12_bike_14 : decode cX12_bike 14 = .ok (.i2l, 1) := by decide +kernel
theorem dX12_bike_15 : decode cX12_bike 15 = .ok (.lconst 0, 1) := by decide +kernel
theorem dX12_bike_16 : decode cX12_bike 16 = .ok (.ldc2_w 321, 3) := by decide +kernel
theorem dX12_bike_19 : decode cX12_bike 19 = .ok (.invokestatic 119, 3) := by decide +kernel
theorem dX12_bike_22 : decode cX12_bike 22 = .ok (.ifCond .eq 18, 3) := by decide +kernel
theorem dX12_bike_25 : decode cX12_bike 25 = .ok (.aload_n 0, 1) := by decide +kernel
theorem dX12_bike_26 : decode cX12_bike 26 = .ok (.getfield 55, 3) := by decide +kernel
theorem dX12_bike_29 : decode cX12_bike 29 = .ok (.iconst 0, 1) := by decide +kernel
theorem dX12_bike_30 : decode cX12_bike 30 = .ok (.iload_n 1, 1) := by decide +kernel
theorem dX12_bike_31 : decode cX12_bike 31 = .ok (.invokestatic 323, 3) := by decide +kernel
theorem dX12_bike_34 : decode cX12_bike 34 = .ok (.iload_n 2, 1) := by decide +kernel
theorem dX12_bike_35 : decode cX12_bike 35 = .ok (.iadd, 1) := by decide +kernel
theorem dX12_bike_36 : decode cX12_bike 36 = .ok (.iaload, 1) := by decide +kernel
theorem dX12_bike_37 : decode cX12_bike 37 = .ok (.goto 5, 3) := by decide +kernel
theorem dX12_bike_40 : decode cX12_bike 40 = .ok (.bipush (-2), 2) := by decide +kernel
theorem dX12_bike_42 : decode cX12_bike 42 = .ok (.ireturn, 1) := by decide +kernel
theorem dX12_troubleOf_0 : decode cX12_troubleOf 0 = .ok (.iload_n 2, 1) := by decide +kernel
theorem dX12_troubleOf_1 : decode cX12_troubleOf 1 = .ok (.iload_n 3, 1) := by decide +kernel
theorem dX12_troubleOf_2 : decode cX12_troubleOf 2 = .ok (.invokestatic 323, 3) := by decide +kernel
theorem dX12_troubleOf_5 : decode cX12_troubleOf 5 = .ok (.istore 4, 2) := by decide +kernel
theorem dX12_troubleOf_7 : decode cX12_troubleOf 7 = .ok (.aload_n 0, 1) := by decide +kernel
theorem dX12_troubleOf_8 : decode cX12_troubleOf 8 = .ok (.getfield 55, 3) := by decide +kernel
theorem dX12_troubleOf_11 : decode cX12_troubleOf 11 = .ok (.iload 4, 2) := by decide +kernel
theorem dX12_troubleOf_13 : decode cX12_troubleOf 13 = .ok (.iconst 3, 1) := by decide +kernel
theorem dX12_troubleOf_14 : decode cX12_troubleOf 14 = .ok (.iadd, 1) := by decide +kernel
theorem dX12_troubleOf_15 : decode cX12_troubleOf 15 = .ok (.iaload, 1) := by decide +kernel
theorem dX12_troubleOf_16 : decode cX12_troubleOf 16 = .ok (.iconst (-1), 1) := by decide +kernel
theorem dX12_troubleOf_17 : decode cX12_troubleOf 17 = .ok (.if_icmp .ne 5, 3) := by decide +kernel
theorem dX12_troubleOf_20 : decode cX12_troubleOf 20 = .ok (.iconst 0, 1) := by decide +kernel
theorem dX12_troubleOf_21 : decode cX12_troubleOf 21 = .ok (.ireturn, 1) := by decide +kernel
theorem dX12_troubleOf_22 : decode cX12_troubleOf 22 = .ok (.aload_n 0, 1) := by decide +kernel
theorem dX12_troubleOf_23 : decode cX12_troubleOf 23 = .ok (.getfield 49, 3) := by decide +kernel
theorem dX12_troubleOf_26 : decode cX12_troubleOf 26 = .ok (.iconst 4, 1) := by decide +kernel
theorem dX12_troubleOf_27 : decode cX12_troubleOf 27 = .ok (.iconst 5, 1) := by decide +kernel
theorem dX12_troubleOf_28 : decode cX12_troubleOf 28 = .ok (.iload_n 2, 1) := by decide +kernel
theorem dX12_troubleOf_29 : decode cX12_troubleOf 29 = .ok (.imul, 1) := by decide +kernel
theorem dX12_troubleOf_30 : decode cX12_troubleOf 30 = .ok (.aload_n 0, 1) := by decide +kernel
theorem dX12_troubleOf_31 : decode cX12_troubleOf 31 = .ok (.getfield 55, 3) := by decide +kernel
theorem dX12_troubleOf_34 : decode cX12_troubleOf 34 = .ok (.iload 4, 2) := by decide +kernel
theorem dX12_troubleOf_36 : decode cX12_troubleOf 36 = .ok (.iconst 3, 1) := by decide +kernel
theorem dX12_troubleOf_37 : decode cX12_troubleOf 37 = .ok (.iadd, 1) := by decide +kernel
theorem dX12_troubleOf_38 : decode cX12_troubleOf 38 = .ok (.iaload, 1) := by decide +kernel
theorem dX12_troubleOf_39 : decode cX12_troubleOf 39 = .ok (.iadd, 1) := by decide +kernel
theorem dX12_troubleOf_40 : decode cX12_troubleOf 40 = .ok (.imul, 1) := by decide +kernel
theorem dX12_troubleOf_41 : decode cX12_troubleOf 41 = .ok (.iconst 1, 1) := by decide +kernel
theorem dX12_troubleOf_42 : decode cX12_troubleOf 42 = .ok (.iadd, 1) := by decide +kernel
theorem dX12_troubleOf_43 : decode cX12_troubleOf 43 = .ok (.aload_n 0, 1) := by decide +kernel
theorem dX12_troubleOf_44 : decode cX12_troubleOf 44 = .ok (.getfield 61, 3) := by decide +kernel
theorem dX12_troubleOf_47 : decode cX12_troubleOf 47 = .ok (.iconst 5, 1) := by decide +kernel
theorem dX12_troubleOf_48 : decode cX12_troubleOf 48 = .ok (.iload_n 1, 1) := by decide +kernel
theorem dX12_troubleOf_49 : decode cX12_troubleOf 49 = .ok (.imul, 1) := by decide +kernel
theorem dX12_troubleOf_50 : decode cX12_troubleOf 50 = .ok (.iaload, 1) := by decide +kernel
theorem dX12_troubleOf_51 : decode cX12_troubleOf 51 = .ok (.iadd, 1) := by decide +kernel
theorem dX12_troubleOf_52 : decode cX12_troubleOf 52 = .ok (.iaload, 1) := by decide +kernel
theorem dX12_troubleOf_53 : decode cX12_troubleOf 53 = .ok (.i2l, 1) := by decide +kernel
theorem dX12_troubleOf_54 : decode cX12_troubleOf 54 = .ok (.aload_n 0, 1) := by decide +kernel
theorem dX12_troubleOf_55 : decode cX12_troubleOf 55 = .ok (.getfield 61, 3) := by decide +kernel
theorem dX12_troubleOf_58 : decode cX12_troubleOf 58 = .ok (.iconst 5, 1) := by decide +kernel
theorem dX12_troubleOf_59 : decode cX12_troubleOf 59 = .ok (.iload_n 1, 1) := by decide +kernel
theorem dX12_troubleOf_60 : decode cX12_troubleOf 60 = .ok (.imul, 1) := by decide +kernel
theorem dX12_troubleOf_61 : decode cX12_troubleOf 61 = .ok (.iconst 2, 1) := by decide +kernel
theorem dX12_troubleOf_62 : decode cX12_troubleOf 62 = .ok (.iadd, 1) := by decide +kernel
theorem dX12_troubleOf_63 : decode cX12_troubleOf 63 = .ok (.iaload, 1) := by decide +kernel
theorem dX12_troubleOf_64 : decode cX12_troubleOf 64 = .ok (.i2l, 1) := by decide +kernel
theorem dX12_troubleOf_65 : decode cX12_troubleOf 65 = .ok (.lmul, 1) := by decide +kernel
theorem dX12_troubleOf_66 : decode cX12_troubleOf 66 = .ok (.iconst 1, 1) := by decide +kernel
theorem dX12_troubleOf_67 : decode cX12_troubleOf 67 = .ok (.aload_n 0, 1) := by decide +kernel
theorem dX12_troubleOf_68 : decode cX12_troubleOf 68 = .ok (.iload_n 2, 1) := by decide +kernel
theorem dX12_troubleOf_69 : decode cX12_troubleOf 69 = .ok (.aload_n 0, 1) := by decide +kernel
theorem dX12_troubleOf_70 : decode cX12_troubleOf 70 = .ok (.getfield 55, 3) := by decide +kernel
theorem dX12_troubleOf_73 : decode cX12_troubleOf 73 = .ok (.iload 4, 2) := by decide +kernel
theorem dX12_troubleOf_75 : decode cX12_troubleOf 75 = .ok (.iconst 2, 1) := by decide +kernel
theorem dX12_troubleOf_76 : decode cX12_troubleOf 76 = .ok (.iadd, 1) := by decide +kernel
theorem dX12_troubleOf_77 : decode cX12_troubleOf 77 = .ok (.iaload, 1) := by decide +kernel
theorem dX12_troubleOf_78 : decode cX12_troubleOf 78 = .ok (.invokevirtual 315, 3) := by decide +kernel
theorem dX12_troubleOf_81 : decode cX12_troubleOf 81 = .ok (.iadd, 1) := by decide +kernel
theorem dX12_troubleOf_82 : decode cX12_troubleOf 82 = .ok (.i2l, 1) := by decide +kernel
theorem dX12_troubleOf_83 : decode cX12_troubleOf 83 = .ok (.lmul, 1) := by decide +kernel
theorem dX12_troubleOf_84 : decode cX12_troubleOf 84 = .ok (.lstore 5, 2) := by decide +kernel
theorem dX12_troubleOf_86 : decode cX12_troubleOf 86 = .ok (.lload 5, 2) := by decide +kernel
theorem dX12_troubleOf_88 : decode cX12_troubleOf 88 = .ok (.ldc2_w 325, 3) := by decide +kernel
theorem dX12_troubleOf_91 : decode cX12_troubleOf 91 = .ok (.ldiv, 1) := by decide +kernel
theorem dX12_troubleOf_92 : decode cX12_troubleOf 92 = .ok (.l2i, 1) := by decide +kernel
theorem dX12_troubleOf_93 : decode cX12_troubleOf 93 = .ok (.ireturn, 1) := by decide +kernel
theorem dX12_markedOn_0 : decode cX12_markedOn 0 = .ok (.iconst 0, 1) := by decide +kernel
theorem dX12_markedOn_1 : decode cX12_markedOn 1 = .ok (.istore_n 2, 1) := by decide +kernel
theorem dX12_markedOn_2 : decode cX12_markedOn 2 = .ok (.iconst 0, 1) := by decide +kernel
theorem dX12_markedOn_3 : decode cX12_markedOn 3 = .ok (.istore_n 3, 1) := by decide +kernel
theorem dX12_markedOn_4 : decode cX12_markedOn 4 = .ok (.iload_n 3, 1) := by decide +kernel
theorem dX12_markedOn_5 : decode cX12_markedOn 5 = .ok (.aload_n 0, 1) := by decide +kernel
theorem dX12_markedOn_6 : decode cX12_markedOn 6 = .ok (.getfield 52, 3) := by decide +kernel
theorem dX12_markedOn_9 : decode cX12_markedOn 9 = .ok (.iload_n 1, 1) := by decide +kernel
theorem dX12_markedOn_10 : decode cX12_markedOn 10 = .ok (.iaload, 1) := by decide +kernel
theorem dX12_markedOn_11 : decode cX12_markedOn 11 = .ok (.if_icmp .ge 24, 3) := by decide +kernel
theorem dX12_markedOn_14 : decode cX12_markedOn 14 = .ok (.iload_n 2, 1) := by decide +kernel
theorem dX12_markedOn_15 : decode cX12_markedOn 15 = .ok (.aload_n 0, 1) := by decide +kernel
theorem dX12_markedOn_16 : decode cX12_markedOn 16 = .ok (.getfield 55, 3) := by decide +kernel
theorem dX12_markedOn_19 : decode cX12_markedOn 19 = .ok (.iload_n 1, 1) := by decide +kernel
theorem dX12_markedOn_20 : decode cX12_markedOn 20 = .ok (.iload_n 3, 1) := by decide +kernel
theorem dX12_markedOn_21 : decode cX12_markedOn 21 = .ok (.invokestatic 323, 3) := by decide +kernel
theorem dX12_markedOn_24 : decode cX12_markedOn 24 = .ok (.iconst 4, 1) := by decide +kernel
theorem dX12_markedOn_25 : decode cX12_markedOn 25 = .ok (.iadd, 1) := by decide +kernel
theorem dX12_markedOn_26 : decode cX12_markedOn 26 = .ok (.iaload, 1) := by decide +kernel
