theorem dX9_init_0 : decode cX9_init 0 = .ok (.aload_n 0, 1) := by decide +kernel
theorem dX9_init_1 : decode cX9_init 1 = .ok (.invokespecial 1, 3) := by decide +kernel
theorem dX9_init_4 : decode cX9_init 4 = .ok (.aload_n 0, 1) := by decide +kernel
theorem dX9_init_5 : decode cX9_init 5 = .ok (.iconst 4, 1) := by decide +kernel
theorem dX9_init_6 : decode cX9_init 6 = .ok (.putfield 7, 3) := by decide +kernel
theorem dX9_init_9 : decode cX9_init 9 = .ok (.aload_n 0, 1) := by decide +kernel
theorem dX9_init_10 : decode cX9_init 10 = .ok (.sipush 600, 3) := by decide +kernel
theorem dX9_init_13 : decode cX9_init 13 = .ok (.putfield 13, 3) := by decide +kernel
theorem dX9_init_16 : decode cX9_init 16 = .ok (.aload_n 0, 1) := by decide +kernel
theorem dX9_init_17 : decode cX9_init 17 = .ok (.bipush 30, 2) := by decide +kernel
theorem dX9_init_19 : decode cX9_init 19 = .ok (.putfield 16, 3) := by decide +kernel
theorem dX9_init_22 : decode cX9_init 22 = .ok (.aload_n 0, 1) := by decide +kernel
theorem dX9_init_23 : decode cX9_init 23 = .ok (.iconst 1, 1) := by decide +kernel
theorem dX9_init_24 : decode cX9_init 24 = .ok (.putfield 19, 3) := by decide +kernel
theorem dX9_init_27 : decode cX9_init 27 = .ok (.aload_n 0, 1) := by decide +kernel
theorem dX9_init_28 : decode cX9_init 28 = .ok (.bipush 40, 2) := by decide +kernel
theorem dX9_init_30 : decode cX9_init 30 = .ok (.newarray .int, 2) := by decide +kernel
theorem dX9_init_32 : decode cX9_init 32 = .ok (.putfield 22, 3) := by decide +kernel
theorem dX9_init_35 : decode cX9_init 35 = .ok (.aload_n 0, 1) := by decide +kernel
theorem dX9_init_36 : decode cX9_init 36 = .ok (.bipush 40, 2) := by decide +kernel
theorem dX9_init_38 : decode cX9_init 38 = .ok (.newarray .int, 2) := by decide +kernel
theorem dX9_init_40 : decode cX9_init 40 = .ok (.putfield 26, 3) := by decide +kernel
theorem dX9_init_43 : decode cX9_init 43 = .ok (.aload_n 0, 1) := by decide +kernel
theorem dX9_init_44 : decode cX9_init 44 = .ok (.bipush 40, 2) := by decide +kernel
theorem dX9_init_46 : decode cX9_init 46 = .ok (.newarray .int, 2) := by decide +kernel
theorem dX9_init_48 : decode cX9_init 48 = .ok (.putfield 29, 3) := by decide +kernel
theorem dX9_init_51 : decode cX9_init 51 = .ok (.aload_n 0, 1) := by decide +kernel
theorem dX9_init_52 : decode cX9_init 52 = .ok (.bipush 40, 2) := by decide +kernel
theorem dX9_init_54 : decode cX9_init 54 = .ok (.newarray .int, 2) := by decide +kernel
theorem dX9_init_56 : decode cX9_init 56 = .ok (.putfield 32, 3) := by decide +kernel
theorem dX9_init_59 : decode cX9_init 59 = .ok (.aload_n 0, 1) := by decide +kernel
theorem dX9_init_60 : decode cX9_init 60 = .ok (.bipush 40, 2) := by decide +kernel
theorem dX9_init_62 : decode cX9_init 62 = .ok (.newarray .boolean, 2) := by decide +kernel
theorem dX9_init_64 : decode cX9_init 64 = .ok (.putfield 35, 3) := by decide +kernel
theorem dX9_init_67 : decode cX9_init 67 = .ok (.aload_n 0, 1) := by decide +kernel
theorem dX9_init_68 : decode cX9_init 68 = .ok (.sipush 1600, 3) := by decide +kernel
theorem dX9_init_71 : decode cX9_init 71 = .ok (.newarray .boolean, 2) := by decide +kernel
theorem dX9_init_73 : decode cX9_init 73 = .ok (.putfield 39, 3) := by decide +kernel
theorem dX9_init_76 : decode cX9_init 76 = .ok (.aload_n 0, 1) := by decide +kernel
theorem dX9_init_77 : decode cX9_init 77 = .ok (.bipush 40, 2) := by decide +kernel
theorem dX9_init_79 : decode cX9_init 79 = .ok (.newarray .int, 2) := by decide +kernel
theorem dX9_init_81 : decode cX9_init 81 = .ok (.putfield 42, 3) := by decide +kernel
theorem dX9_init_84 : decode cX9_init 84 = .ok (.aload_n 0, 1) := by decide +kernel
theorem dX9_init_85 : decode cX9_init 85 = .ok (.bipush 40, 2) := by decide +kernel
theorem dX9_init_87 : decode cX9_init 87 = .ok (.newarray .int, 2) := by decide +kernel
theorem dX9_init_89 : decode cX9_init 89 = .ok (.putfield 45, 3) := by decide +kernel
theorem dX9_init_92 : decode cX9_init 92 = .ok (.aload_n 0, 1) := by decide +kernel
theorem dX9_init_93 : decode cX9_init 93 = .ok (.bipush 40, 2) := by decide +kernel
theorem dX9_init_95 : decode cX9_init 95 = .ok (.newarray .int, 2) := by decide +kernel
theorem dX9_init_97 : decode cX9_init 97 = .ok (.putfield 48, 3) := by decide +kernel
theorem dX9_init_100 : decode cX9_init 100 = .ok (.aload_n 0, 1) := by decide +kernel
theorem dX9_init_101 : decode cX9_init 101 = .ok (.bipush 40, 2) := by decide +kernel
theorem dX9_init_103 : decode cX9_init 103 = .ok (.newarray .int, 2) := by decide +kernel
theorem dX9_init_105 : decode cX9_init 105 = .ok (.putfield 51, 3) := by decide +kernel
theorem dX9_init_108 : decode cX9_init 108 = .ok (.aload_n 0, 1) := by decide +kernel
theorem dX9_init_109 : decode cX9_init 109 = .ok (.bipush 40, 2) := by decide +kernel
theorem dX9_init_111 : decode cX9_init 111 = .ok (.newarray .int, 2) := by decide +kernel
theorem dX9_init_113 : decode cX9_init 113 = .ok (.putfield 54, 3) := by decide +kernel
theorem dX9_init_116 : decode cX9_init 116 = .ok (.aload_n 0, 1) := by decide +kernel
theorem dX9_init_117 : decode cX9_init 117 = .ok (.bipush 40, 2) := by decide +kernel
theorem dX9_init_119 : decode cX9_init 119 = .ok (.newarray .int, 2) := by decide +kernel
theorem dX9_init_121 : decode cX9_init 121 = .ok (.putfield 57, 3) := by decide +kernel
theorem dX9_init_124 : decode cX9_init 124 = .ok (.aload_n 0, 1) := by decide +kernel
theorem dX9_init_125 : decode cX9_init 125 = .ok (.bipush 40, 2) := by decide +kernel
theorem dX9_init_127 : decode cX9_init 127 = .ok (.newarray .int, 2) := by decide +kernel
theorem dX9_init_129 : decode cX9_init 129 = .ok (.putfield 60, 3) := by decide +kernel
theorem dX9_init_132 : decode cX9_init 132 = .ok (.aload_n 0, 1) := by decide +kernel
theorem dX9_init_133 : decode cX9_init 133 = .ok (.bipush 40, 2) := by decide +kernel
theorem dX9_init_135 : decode cX9_init 135 = .ok (.newarray .int, 2) := by decide +kernel
theorem dX9_init_137 : decode cX9_init 137 = .ok (.putfield 63, 3) := by decide +kernel
theorem dX9_init_140 : decode cX9_init 140 = .ok (.aload_n 0, 1) := by decide +kernel
theorem dX9_init_141 : decode cX9_init 141 = .ok (.bipush 40, 2) := by decide +kernel
theorem dX9_init_143 : decode cX9_init 143 = .ok (.newarray .int, 2) := by decide +kernel
theorem dX9_init_145 : decode cX9_init 145 = .ok (.putfield 66, 3) := by decide +kernel
theorem dX9_init_148 : decode cX9_init 148 = .ok (.aload_n 0, 1) := by decide +kernel
theorem dX9_init_149 : decode cX9_init 149 = .ok (.bipush 40, 2) := by decide +kernel
theorem dX9_init_151 : decode cX9_init 151 = .ok (.newarray .int, 2) := by decide +kernel
theorem dX9_init_153 : decode cX9_init 153 = .ok (.putfield 69, 3) := by decide +kernel
theorem dX9_init_156 : decode cX9_init 156 = .ok (.aload_n 0, 1) := by decide +kernel
theorem dX9_init_157 : decode cX9_init 157 = .ok (.sipush 240, 3) := by decide +kernel
theorem dX9_init_160 : decode cX9_init 160 = .ok (.newarray .int, 2) := by decide +kernel
theorem dX9_init_162 : decode cX9_init 162 = .ok (.putfield 72, 3) := by decide +kernel
theorem dX9_init_165 : decode cX9_init 165 = .ok (.aload_n 0, 1) := by decide +kernel
theorem dX9_init_166 : decode cX9_init 166 = .ok (.bipush 40, 2) := by decide +kernel
theorem dX9_init_168 : decode cX9_init 168 = .ok (.newarray .boolean, 2) := by decide +kernel
theorem dX9_init_170 : decode cX9_init 170 = .ok (.putfield 75, 3) := by decide +kernel
theorem dX9_init_173 : decode cX9_init 173 = .ok (.aload_n 0, 1) := by decide +kernel
theorem dX9_init_174 : decode cX9_init 174 = .ok (.bipush 10, 2) := by decide +kernel
theorem dX9_init_176 : decode cX9_init 176 = .ok (.newarray .int, 2) := by decide +kernel
theorem dX9_init_178 : decode cX9_init 178 = .ok (.putfield 78, 3) := by decide +kernel
theorem dX9_init_181 : decode cX9_init 181 = .ok (.aload_n 0, 1) := by decide +kernel
theorem dX9_init_182 : decode cX9_init 182 = .ok (.bipush 10, 2) := by decide +kernel
theorem dX9_init_184 : decode cX9_init 184 = .ok (.newarray .int, 2) := by decide +kernel
theorem dX9_init_186 : decode cX9_init 186 = .ok (.putfield 81, 3) := by decide +kernel
theorem dX9_init_189 : decode cX9_init 189 = .ok (.aload_n 0, 1) := by decide +kernel
theorem dX9_init_190 : decode cX9_init 190 = .ok (.sipush 200, 3) := by decide +kernel
theorem dX9_init_193 : decode cX9_init 193 = .ok (.newarray .int, 2) := by decide +kernel
theorem dX9_init_195 : decode cX9_init 195 = .ok (.putfield 84, 3) := by decide +kernel
theorem dX9_init_198 : decode cX9_init 198 = .ok (.aload_n 0, 1) := by decide +kernel
theorem dX9_init_199 : decode cX9_init 199 = .ok (.sipush 200, 3) := by decide +kernel
theorem dX9_init_202 : decode cX9_init 202 = .ok (.newarray .int, 2) := by decide +kernel
theorem dX9_init_204 : decode cX9_init 204 = .ok (.putfield 87, 3) := by decide +kernel
theorem dX9_init_207 : decode cX9_init 207 = .ok (.aload_n 0, 1) := by decide +kernel
theorem dX9_init_208 : decode cX9_init 208 = .ok (.sipush 200, 3) := by decide +kernel
theorem dX9_init_211 : decode cX9_init 211 = .ok (.newarray .int, 2) := by decide +kernel
theorem dX9_init_213 : decode cX9_init 213 = .ok (.putfield 90, 3) := by decide +kernel
theorem dX9_init_216 : decode cX9_init 216 = .ok (.aload_n 0, 1) := by decide +kernel
theorem dX9_init_217 : decode cX9_init 217 = .ok (.sipush 200, 3) := by decide +kernel
theorem dX9_init_220 : decode cX9_init 220 = .ok (.newarray .boolean, 2) := by decide +kernel
theorem dX9_init_222 : decode cX9_init 222 = .ok (.putfield 93, 3) := by decide +kernel
theorem dX9_init_225 : decode cX9_init 225 = .ok (.aload_n 0, 1) := by decide +kernel
theorem dX9_init_226 : decode cX9_init 226 = .ok (.bipush 20, 2) := by decide +kernel
theorem dX9_init_228 : decode cX9_init 228 = .ok (.newarray .int, 2) := by decide +kernel
theorem dX9_init_230 : decode cX9_init 230 = .ok (.putfield 96, 3) := by decide +kernel
theorem dX9_init_233 : decode cX9_init 233 = .ok (.aload_n 0, 1) := by decide +kernel
theorem dX9_init_234 : decode cX9_init 234 = .ok (.bipush 20, 2) := by decide +kernel
theorem dX9_init_236 : decode cX9_init 236 = .ok (.newarray .int, 2) := by decide +kernel
theorem dX9_init_238 : decode cX9_init 238 = .ok (.putfield 99, 3) := by decide +kernel
theorem dX9_init_241 : decode cX9_init 241 = .ok (.aload_n 0, 1) := by decide +kernel
theorem dX9_init_242 : decode cX9_init 242 = .ok (.bipush 20, 2) := by decide +kernel
theorem dX9_init_244 : decode cX9_init 244 = .ok (.newarray .int, 2) := by decide +kernel
theorem dX9_init_246 : decode cX9_init 246 = .ok (.putfield 102, 3) := by decide +kernel
theorem dX9_init_249 : decode cX9_init 249 = .ok (.aload_n 0, 1) := by decide +kernel
theorem dX9_init_250 : decode cX9_init 250 = .ok (.bipush 20, 2) := by decide +kernel
theorem dX9_init_252 : decode cX9_init 252 = .ok (.newarray .int, 2) := by decide +kernel
theorem dX9_init_254 : decode cX9_init 254 = .ok (.putfield 105, 3) := by decide +kernel
theorem dX9_init_257 : decode cX9_init 257 = .ok (.aload_n 0, 1) := by decide +kernel
theorem dX9_init_258 : decode cX9_init 258 = .ok (.bipush 20, 2) := by decide +kernel
theorem dX9_init_260 : decode cX9_init 260 = .ok (.newarray .int, 2) := by decide +kernel
theorem dX9_init_262 : decode cX9_init 262 = .ok (.putfield 108, 3) := by decide +kernel
theorem dX9_init_265 : decode cX9_init 265 = .ok (.aload_n 0, 1) := by decide +kernel
theorem dX9_init_266 : decode cX9_init 266 = .ok (.bipush 7, 2) := by decide +kernel
theorem dX9_init_268 : decode cX9_init 268 = .ok (.newarray .int, 2) := by decide +kernel
theorem dX9_init_270 : decode cX9_init 270 = .ok (.putfield 111, 3) := by decide +kernel
theorem dX9_init_273 : decode cX9_init 273 = .ok (.aload_n 0, 1) := by decide +kernel
theorem dX9_init_274 : decode cX9_init 274 = .ok (.bipush 40, 2) := by decide +kernel
theorem dX9_init_276 : decode cX9_init 276 = .ok (.newarray .int, 2) := by decide +kernel
theorem dX9_init_278 : decode cX9_init 278 = .ok (.putfield 114, 3) := by decide +kernel
theorem dX9_init_281 : decode cX9_init 281 = .ok (.iconst 0, 1) := by decide +kernel
theorem dX9_init_282 : decode cX9_init 282 = .ok (.istore_n 1, 1) := by decide +kernel
theorem dX9_init_283 : decode cX9_init 283 = .ok (.iload_n 1, 1) := by decide +kernel
theorem dX9_init_284 : decode cX9_init 284 = .ok (.bipush 10, 2) := by decide +kernel
theorem dX9_init_286 : decode cX9_init 286 = .ok (.if_icmp .ge 17, 3) := by decide +kernel
theorem dX9_init_289 : decode cX9_init 289 = .ok (.aload_n 0, 1) := by decide +kernel
theorem dX9_init_290 : decode cX9_init 290 = .ok (.getfield 81, 3) := by decide +kernel
theorem dX9_init_293 : decode cX9_init 293 = .ok (.iload_n 1, 1) := by decide +kernel
theorem dX9_init_294 : decode cX9_init 294 = .ok (.bipush 100, 2) := by decide +kernel
theorem dX9_init_296 : decode cX9_init 296 = .ok (.iastore, 1) := by decide +kernel
theorem dX9_init_297 : decode cX9_init 297 = .ok (.iinc 1 1, 3) := by decide +kernel
theorem dX9_init_300 : decode cX9_init 300 = .ok (.goto (-17), 3) := by decide +kernel
theorem dX9_init_303 : decode cX9_init 303 = .ok (.return_, 1) := by decide +kernel
theorem dX9_no_0 : decode cX9_no 0 = .ok (.aload_n 0, 1) := by decide +kernel
theorem dX9_no_1 : decode cX9_no 1 = .ok (.getfield 111, 3) := by decide +kernel
theorem dX9_no_4 : decode cX9_no 4 = .ok (.iload_n 1, 1) := by decide +kernel
theorem dX9_no_5 : decode cX9_no 5 = .ok (.ineg, 1) := by decide +kernel
theorem dX9_no_6 : decode cX9_no 6 = .ok (.dup2, 1) := by decide +kernel
theorem dX9_no_7 : decode cX9_no 7 = .ok (.iaload, 1) := by decide +kernel
theorem dX9_no_8 : decode cX9_no 8 = .ok (.iconst 1, 1) := by decide +kernel
theorem dX9_no_9 : decode cX9_no 9 = .ok (.iadd, 1) := by decide +kernel
theorem dX9_no_10 : decode cX9_no 10 = .ok (.iastore, 1) := by decide +kernel
theorem dX9_no_11 : decode cX9_no 11 = .ok (.iload_n 1, 1) := by decide +kernel
theorem dX9_no_12 : decode cX9_no 12 = .ok (.ireturn, 1) := by decide +kernel
theorem dX9_isShop_0 : decode cX9_isShop 0 = .ok (.iload_n 0, 1) := by decide +kernel
theorem dX9_isShop_1 : decode cX9_isShop 1 = .ok (.ifCond .lt 13, 3) := by decide +kernel
theorem dX9_isShop_4 : decode cX9_isShop 4 = .ok (.iload_n 0, 1) := by decide +kernel
theorem dX9_isShop_5 : decode cX9_isShop 5 = .ok (.bipush 8, 2) := by decide +kernel
theorem dX9_isShop_7 : decode cX9_isShop 7 = .ok (.if_icmp .ge 7, 3) := by decide +kernel
theorem dX9_isShop_10 : decode cX9_isShop 10 = .ok (.iconst 1, 1) := by decide +kernel
theorem dX9_isShop_11 : decode cX9_isShop 11 = .ok (.goto 4, 3) := by decide +kernel
theorem dX9_isShop_14 : decode cX9_isShop 14 = .ok (.iconst 0, 1) := by decide +kernel
theorem dX9_isShop_15 : decode cX9_isShop 15 = .ok (.ireturn, 1) := by decide +kernel
theorem dX9_isHand_0 : decode cX9_isHand 0 = .ok (.iload_n 1, 1) := by decide +kernel
theorem dX9_isHand_1 : decode cX9_isHand 1 = .ok (.ifCond .lt 15, 3) := by decide +kernel
theorem dX9_isHand_4 : decode cX9_isHand 4 = .ok (.iload_n 1, 1) := by decide +kernel
theorem dX9_isHand_5 : decode cX9_isHand 5 = .ok (.aload_n 0, 1) := by decide +kernel
theorem dX9_isHand_6 : decode cX9_isHand 6 = .ok (.getfield 117, 3) := by decide +kernel
theorem dX9_isHand_9 : decode cX9_isHand 9 = .ok (.if_icmp .ge 7, 3) := by decide +kernel
theorem dX9_isHand_12 : decode cX9_isHand 12 = .ok (.iconst 1, 1) := by decide +kernel
theorem dX9_isHand_13 : decode cX9_isHand 13 = .ok (.goto 4, 3) := by decide +kernel
theorem dX9_isHand_16 : decode cX9_isHand 16 = .ok (.iconst 0, 1) := by decide +kernel
theorem dX9_isHand_17 : decode cX9_isHand 17 = .ok (.ireturn, 1) := by decide +kernel
theorem dX9_isIdea_0 : decode cX9_isIdea 0 = .ok (.iload_n 1, 1) := by decide +kernel
theorem dX9_isIdea_1 : decode cX9_isIdea 1 = .ok (.ifCond .lt 15, 3) := by decide +kernel
theorem dX9_isIdea_4 : decode cX9_isIdea 4 = .ok (.iload_n 1, 1) := by decide +kernel
theorem dX9_isIdea_5 : decode cX9_isIdea 5 = .ok (.aload_n 0, 1) := by decide +kernel
theorem dX9_isIdea_6 : decode cX9_isIdea 6 = .ok (.getfield 120, 3) := by decide +kernel
theorem dX9_isIdea_9 : decode cX9_isIdea 9 = .ok (.if_icmp .ge 7, 3) := by decide +kernel
theorem dX9_isIdea_12 : decode cX9_isIdea 12 = .ok (.iconst 1, 1) := by decide +kernel
theorem dX9_isIdea_13 : decode cX9_isIdea 13 = .ok (.goto 4, 3) := by decide +kernel
theorem dX9_isIdea_16 : decode cX9_isIdea 16 = .ok (.iconst 0, 1) := by decide +kernel
theorem dX9_isIdea_17 : decode cX9_isIdea 17 = .ok (.ireturn, 1) := by decide +kernel
theorem dX9_isBench_0 : decode cX9_isBench 0 = .ok (.iload_n 0, 1) := by decide +kernel
theorem dX9_isBench_1 : decode cX9_isBench 1 = .ok (.ifCond .lt 13, 3) := by decide +kernel
theorem dX9_isBench_4 : decode cX9_isBench 4 = .ok (.iload_n 0, 1) := by decide +kernel
theorem dX9_isBench_5 : decode cX9_isBench 5 = .ok (.bipush 10, 2) := by decide +kernel
theorem dX9_isBench_7 : decode cX9_isBench 7 = .ok (.if_icmp .ge 7, 3) := by decide +kernel
theorem dX9_isBench_10 : decode cX9_isBench 10 = .ok (.iconst 1, 1) := by decide +kernel
theorem dX9_isBench_11 : decode cX9_isBench 11 = .ok (.goto 4, 3) := by decide +kernel
theorem dX9_isBench_14 : decode cX9_isBench 14 = .ok (.iconst 0, 1) := by decide +kernel
theorem dX9_isBench_15 : decode cX9_isBench 15 = .ok (.ireturn, 1) := by decide +kernel
theorem dX9_isMarks_0 : decode cX9_isMarks 0 = .ok (.iload_n 0, 1) := by decide +kernel
theorem dX9_isMarks_1 : decode cX9_isMarks 1 = .ok (.ifCond .le 13, 3) := by decide +kernel
theorem dX9_isMarks_4 : decode cX9_isMarks 4 = .ok (.iload_n 0, 1) := by decide +kernel
theorem dX9_isMarks_5 : decode cX9_isMarks 5 = .ok (.ldc 123, 2) := by decide +kernel
theorem dX9_isMarks_7 : decode cX9_isMarks 7 = .ok (.if_icmp .ge 7, 3) := by decide +kernel
theorem dX9_isMarks_10 : decode cX9_isMarks 10 = .ok (.iconst 1, 1) := by decide +kernel
theorem dX9_isMarks_11 : decode cX9_isMarks 11 = .ok (.goto 4, 3) := by decide +kernel
theorem dX9_isMarks_14 : decode cX9_isMarks 14 = .ok (.iconst 0, 1) := by decide +kernel
theorem dX9_isMarks_15 : decode cX9_isMarks 15 = .ok (.ireturn, 1) := by decide +kernel
theorem dX9_hand_0 : decode cX9_hand 0 = .ok (.iload_n 1, 1) := by decide +kernel
theorem dX9_hand_1 : decode cX9_hand 1 = .ok (.invokestatic 124, 3) := by decide +kernel
theorem dX9_hand_4 : decode cX9_hand 4 = .ok (.ifCond .ne 9, 3) := by decide +kernel
theorem dX9_hand_7 : decode cX9_hand 7 = .ok (.aload_n 0, 1) := by decide +kernel
theorem dX9_hand_8 : decode cX9_hand 8 = .ok (.iconst (-1), 1) := by decide +kernel
theorem dX9_hand_9 : decode cX9_hand 9 = .ok (.invokevirtual 128, 3) := by decide +kernel
theorem dX9_hand_12 : decode cX9_hand 12 = .ok (.ireturn, 1) := by decide +kernel
theorem dX9_hand_13 : decode cX9_hand 13 = .ok (.aload_n 0, 1) := by decide +kernel
theorem dX9_hand_14 : decode cX9_hand 14 = .ok (.getfield 117, 3) := by decide +kernel
theorem dX9_hand_17 : decode cX9_hand 17 = .ok (.bipush 40, 2) := by decide +kernel
theorem dX9_hand_19 : decode cX9_hand 19 = .ok (.if_icmp .ne 10, 3) := by decide +kernel
theorem dX9_hand_22 : decode cX9_hand 22 = .ok (.aload_n 0, 1) := by decide +kernel
theorem dX9_hand_23 : decode cX9_hand 23 = .ok (.bipush (-6), 2) := by decide +kernel
theorem dX9_hand_25 : decode cX9_hand 25 = .ok (.invokevirtual 128, 3) := by decide +kernel
theorem dX9_hand_28 : decode cX9_hand 28 = .ok (.ireturn, 1) := by decide +kernel
theorem dX9_hand_29 : decode cX9_hand 29 = .ok (.aload_n 0, 1) := by decide +kernel
theorem dX9_hand_30 : decode cX9_hand 30 = .ok (.getfield 22, 3) := by decide +kernel
theorem dX9_hand_33 : decode cX9_hand 33 = .ok (.aload_n 0, 1) := by decide +kernel
theorem dX9_hand_34 : decode cX9_hand 34 = .ok (.getfield 117, 3) := by decide +kernel
theorem dX9_hand_37 : decode cX9_hand 37 = .ok (.iload_n 1, 1) := by decide +kernel
theorem dX9_hand_38 : decode cX9_hand 38 = .ok (.iastore, 1) := by decide +kernel
theorem dX9_hand_39 : decode cX9_hand 39 = .ok (.aload_n 0, 1) := by decide +kernel
theorem dX9_hand_40 : decode cX9_hand 40 = .ok (.dup, 1) := by decide +kernel
theorem dX9_hand_41 : decode cX9_hand 41 = .ok (.getfield 117, 3) := by decide +kernel
theorem dX9_hand_44 : decode cX9_hand 44 = .ok (.dup_x1, 1) := by decide +kernel
theorem dX9_hand_45 : decode cX9_hand 45 = .ok (.iconst 1, 1) := by decide +kernel
theorem dX9_hand_46 : decode cX9_hand 46 = .ok (.iadd, 1) := by decide +kernel
theorem dX9_hand_47 : decode cX9_hand 47 = .ok (.putfield 117, 3) := by decide +kernel
theorem dX9_hand_50 : decode cX9_hand 50 = .ok (.ireturn, 1) := by decide +kernel
theorem dX9_kin_0 : decode cX9_kin 0 = .ok (.aload_n 0, 1) := by decide +kernel
theorem dX9_kin_1 : decode cX9_kin 1 = .ok (.iload_n 1, 1) := by decide +kernel
theorem dX9_kin_2 : decode cX9_kin 2 = .ok (.invokevirtual 132, 3) := by decide +kernel
theorem dX9_kin_5 : decode cX9_kin 5 = .ok (.ifCond .eq 16, 3) := by decide +kernel
theorem dX9_kin_8 : decode cX9_kin 8 = .ok (.aload_n 0, 1) := by decide +kernel
theorem dX9_kin_9 : decode cX9_kin 9 = .ok (.iload_n 2, 1) := by decide +kernel
theorem dX9_kin_10 : decode cX9_kin 10 = .ok (.invokevirtual 132, 3) := by decide +kernel
theorem dX9_kin_13 : decode cX9_kin 13 = .ok (.ifCond .eq 8, 3) := by decide +kernel
theorem dX9_kin_16 : decode cX9_kin 16 = .ok (.iload_n 1, 1) := by decide +kernel
theorem dX9_kin_17 : decode cX9_kin 17 = .ok (.iload_n 2, 1) := by decide +kernel
theorem dX9_kin_18 : decode cX9_kin 18 = .ok (.if_icmp .ne 9, 3) := by decide +kernel
theorem dX9_kin_21 : decode cX9_kin 21 = .ok (.aload_n 0, 1) := by decide +kernel
theorem dX9_kin_22 : decode cX9_kin 22 = .ok (.iconst (-1), 1) := by decide +kernel
theorem dX9_kin_23 : decode cX9_kin 23 = .ok (.invokevirtual 128, 3) := by decide +kernel
theorem dX9_kin_26 : decode cX9_kin 26 = .ok (.ireturn, 1) := by decide +kernel
theorem dX9_kin_27 : decode cX9_kin 27 = .ok (.aload_n 0, 1) := by decide +kernel
theorem dX9_kin_28 : decode cX9_kin 28 = .ok (.getfield 39, 3) := by decide +kernel
theorem dX9_kin_31 : decode cX9_kin 31 = .ok (.bipush 40, 2) := by decide +kernel
theorem dX9_kin_33 : decode cX9_kin 33 = .ok (.iload_n 1, 1) := by decide +kernel
theorem dX9_kin_34 : decode cX9_kin 34 = .ok (.imul, 1) := by decide +kernel
theorem dX9_kin_35 : decode cX9_kin 35 = .ok (.iload_n 2, 1) := by decide +kernel
theorem dX9_kin_36 : decode cX9_kin 36 = .ok (.iadd, 1) := by decide +kernel
theorem dX9_kin_37 : decode cX9_kin 37 = .ok (.baload, 1) := by decide +kernel
theorem dX9_kin_38 : decode cX9_kin 38 = .ok (.iload_n 3, 1) := by decide +kernel
theorem dX9_kin_39 : decode cX9_kin 39 = .ok (.if_icmp .ne 5, 3) := by decide +kernel
theorem dX9_kin_42 : decode cX9_kin 42 = .ok (.iconst 0, 1) := by decide +kernel
theorem dX9_kin_43 : decode cX9_kin 43 = .ok (.ireturn, 1) := by decide +kernel
theorem dX9_kin_44 : decode cX9_kin 44 = .ok (.aload_n 0, 1) := by decide +kernel
theorem dX9_kin_45 : decode cX9_kin 45 = .ok (.getfield 39, 3) := by decide +kernel
theorem dX9_kin_48 : decode cX9_kin 48 = .ok (.bipush 40, 2) := by decide +kernel
theorem dX9_kin_50 : decode cX9_kin 50 = .ok (.iload_n 1, 1) := by decide +kernel
theorem dX9_kin_51 : decode cX9_kin 51 = .ok (.imul, 1) := by decide +kernel
theorem dX9_kin_52 : decode cX9_kin 52 = .ok (.iload_n 2, 1) := by decide +kernel
theorem dX9_kin_53 : decode cX9_kin 53 = .ok (.iadd, 1) := by decide +kernel
theorem dX9_kin_54 : decode cX9_kin 54 = .ok (.iload_n 3, 1) := by decide +kernel
theorem dX9_kin_55 : decode cX9_kin 55 = .ok (.bastore, 1) := by decide +kernel
theorem dX9_kin_56 : decode cX9_kin 56 = .ok (.aload_n 0, 1) := by decide +kernel
theorem dX9_kin_57 : decode cX9_kin 57 = .ok (.getfield 39, 3) := by decide +kernel
theorem dX9_kin_60 : decode cX9_kin 60 = .ok (.bipush 40, 2) := by decide +kernel
theorem dX9_kin_62 : decode cX9_kin 62 = .ok (.iload_n 2, 1) := by decide +kernel
theorem dX9_kin_63 : decode cX9_kin 63 = .ok (.imul, 1) := by decide +kernel
theorem dX9_kin_64 : decode cX9_kin 64 = .ok (.iload_n 1, 1) := by decide +kernel
theorem dX9_kin_65 : decode cX9_kin 65 = .ok (.iadd, 1) := by decide +kernel
theorem dX9_kin_66 : decode cX9_kin 66 = .ok (.iload_n 3, 1) := by decide +kernel
theorem dX9_kin_67 : decode cX9_kin 67 = .ok (.bastore, 1) := by decide +kernel
theorem dX9_kin_68 : decode cX9_kin 68 = .ok (.iconst 1, 1) := by decide +kernel
theorem dX9_kin_69 : decode cX9_kin 69 = .ok (.ireturn, 1) := by decide +kernel
theorem dX9_idea_0 : decode cX9_idea 0 = .ok (.aload_n 0, 1) := by decide +kernel
theorem dX9_idea_1 : decode cX9_idea 1 = .ok (.iload_n 1, 1) := by decide +kernel
theorem dX9_idea_2 : decode cX9_idea 2 = .ok (.invokevirtual 132, 3) := by decide +kernel
theorem dX9_idea_5 : decode cX9_idea 5 = .ok (.ifCond .eq 17, 3) := by decide +kernel
theorem dX9_idea_8 : decode cX9_idea 8 = .ok (.iload_n 2, 1) := by decide +kernel
theorem dX9_idea_9 : decode cX9_idea 9 = .ok (.invokestatic 124, 3) := by decide +kernel
theorem dX9_idea_12 : decode cX9_idea 12 = .ok (.ifCond .eq 10, 3) := by decide +kernel
theorem dX9_idea_15 : decode cX9_idea 15 = .ok (.iload_n 3, 1) := by decide +kernel
theorem dX9_idea_16 : decode cX9_idea 16 = .ok (.invokestatic 135, 3) := by decide +kernel
theorem dX9_idea_19 : decode cX9_idea 19 = .ok (.ifCond .ne 9, 3) := by decide +kernel
theorem dX9_idea_22 : decode cX9_idea 22 = .ok (.aload_n 0, 1) := by decide +kernel
theorem dX9_idea_23 : decode cX9_idea 23 = .ok (.iconst (-1), 1) := by decide +kernel
theorem dX9_idea_24 : decode cX9_idea 24 = .ok (.invokevirtual 128, 3) := by decide +kernel
theorem dX9_idea_27 : decode cX9_idea 27 = .ok (.ireturn, 1) := by decide +kernel
theorem dX9_idea_28 : decode cX9_idea 28 = .ok (.iload 4, 2) := by decide +kernel
theorem dX9_idea_30 : decode cX9_idea 30 = .ok (.ifCond .ge 10, 3) := by decide +kernel
theorem dX9_idea_33 : decode cX9_idea 33 = .ok (.aload_n 0, 1) := by decide +kernel
theorem dX9_idea_34 : decode cX9_idea 34 = .ok (.bipush (-4), 2) := by decide +kernel
theorem dX9_idea_36 : decode cX9_idea 36 = .ok (.invokevirtual 128, 3) := by decide +kernel
theorem dX9_idea_39 : decode cX9_idea 39 = .ok (.ireturn, 1) := by decide +kernel
theorem dX9_idea_40 : decode cX9_idea 40 = .ok (.iload 4, 2) := by decide +kernel
theorem dX9_idea_42 : decode cX9_idea 42 = .ok (.bipush 9, 2) := by decide +kernel
theorem dX9_idea_44 : decode cX9_idea 44 = .ok (.if_icmp .gt 12, 3) := by decide +kernel
theorem dX9_idea_47 : decode cX9_idea 47 = .ok (.aload_n 0, 1) := by decide +kernel
theorem dX9_idea_48 : decode cX9_idea 48 = .ok (.getfield 120, 3) := by decide +kernel
theorem dX9_idea_51 : decode cX9_idea 51 = .ok (.bipush 40, 2) := by decide +kernel
theorem dX9_idea_53 : decode cX9_idea 53 = .ok (.if_icmp .ne 10, 3) := by decide +kernel
theorem dX9_idea_56 : decode cX9_idea 56 = .ok (.aload_n 0, 1) := by decide +kernel
theorem dX9_idea_57 : decode cX9_idea 57 = .ok (.bipush (-6), 2) := by decide +kernel
theorem dX9_idea_59 : decode cX9_idea 59 = .ok (.invokevirtual 128, 3) := by decide +kernel
theorem dX9_idea_62 : decode cX9_idea 62 = .ok (.ireturn, 1) := by decide +kernel
theorem dX9_idea_63 : decode cX9_idea 63 = .ok (.aload_n 0, 1) := by decide +kernel
theorem dX9_idea_64 : decode cX9_idea 64 = .ok (.getfield 42, 3) := by decide +kernel
theorem dX9_idea_67 : decode cX9_idea 67 = .ok (.aload_n 0, 1) := by decide +kernel
theorem dX9_idea_68 : decode cX9_idea 68 = .ok (.getfield 120, 3) := by decide +kernel
theorem dX9_idea_71 : decode cX9_idea 71 = .ok (.iload_n 1, 1) := by decide +kernel
theorem dX9_idea_72 : decode cX9_idea 72 = .ok (.iastore, 1) := by decide +kernel
theorem dX9_idea_73 : decode cX9_idea 73 = .ok (.aload_n 0, 1) := by decide +kernel
theorem dX9_idea_74 : decode cX9_idea 74 = .ok (.getfield 45, 3) := by decide +kernel
theorem dX9_idea_77 : decode cX9_idea 77 = .ok (.aload_n 0, 1) := by decide +kernel
theorem dX9_idea_78 : decode cX9_idea 78 = .ok (.getfield 120, 3) := by decide +kernel
theorem dX9_idea_81 : decode cX9_idea 81 = .ok (.iload_n 2, 1) := by decide +kernel
theorem dX9_idea_82 : decode cX9_idea 82 = .ok (.iastore, 1) := by decide +kernel
theorem dX9_idea_83 : decode cX9_idea 83 = .ok (.aload_n 0, 1) := by decide +kernel
theorem dX9_idea_84 : decode cX9_idea 84 = .ok (.getfield 48, 3) := by decide +kernel
theorem dX9_idea_87 : decode cX9_idea 87 = .ok (.aload_n 0, 1) := by decide +kernel
theorem dX9_idea_88 : decode cX9_idea 88 = .ok (.getfield 120, 3) := by decide +kernel
theorem dX9_idea_91 : decode cX9_idea 91 = .ok (.iload_n 3, 1) := by decide +kernel
theorem dX9_idea_92 : decode cX9_idea 92 = .ok (.iastore, 1) := by decide +kernel
theorem dX9_idea_93 : decode cX9_idea 93 = .ok (.aload_n 0, 1) := by decide +kernel
theorem dX9_idea_94 : decode cX9_idea 94 = .ok (.getfield 51, 3) := by decide +kernel
theorem dX9_idea_97 : decode cX9_idea 97 = .ok (.aload_n 0, 1) := by decide +kernel
theorem dX9_idea_98 : decode cX9_idea 98 = .ok (.getfield 120, 3) := by decide +kernel
theorem dX9_idea_101 : decode cX9_idea 101 = .ok (.iload 4, 2) := by decide +kernel
theorem dX9_idea_103 : decode cX9_idea 103 = .ok (.iastore, 1) := by decide +kernel
theorem dX9_idea_104 : decode cX9_idea 104 = .ok (.aload_n 0, 1) := by decide +kernel
theorem dX9_idea_105 : decode cX9_idea 105 = .ok (.getfield 54, 3) := by decide +kernel
theorem dX9_idea_108 : decode cX9_idea 108 = .ok (.aload_n 0, 1) := by decide +kernel
theorem dX9_idea_109 : decode cX9_idea 109 = .ok (.getfield 120, 3) := by decide +kernel
theorem dX9_idea_112 : decode cX9_idea 112 = .ok (.aload_n 0, 1) := by decide +kernel
theorem dX9_idea_113 : decode cX9_idea 113 = .ok (.getfield 138, 3) := by decide +kernel
theorem dX9_idea_116 : decode cX9_idea 116 = .ok (.iastore, 1) := by decide +kernel
theorem dX9_idea_117 : decode cX9_idea 117 = .ok (.aload_n 0, 1) := by decide +kernel
theorem dX9_idea_118 : decode cX9_idea 118 = .ok (.getfield 60, 3) := by decide +kernel
theorem dX9_idea_121 : decode cX9_idea 121 = .ok (.aload_n 0, 1) := by decide +kernel
theorem dX9_idea_122 : decode cX9_idea 122 = .ok (.getfield 120, 3) := by decide +kernel
theorem dX9_idea_125 : decode cX9_idea 125 = .ok (.bipush (-9), 2) := by decide +kernel
theorem dX9_idea_127 : decode cX9_idea 127 = .ok (.iastore, 1) := by decide +kernel
theorem dX9_idea_128 : decode cX9_idea 128 = .ok (.aload_n 0, 1) := by decide +kernel
theorem dX9_idea_129 : decode cX9_idea 129 = .ok (.dup, 1) := by decide +kernel
theorem dX9_idea_130 : decode cX9_idea 130 = .ok (.getfield 120, 3) := by decide +kernel
theorem dX9_idea_133 : decode cX9_idea 133 = .ok (.dup_x1, 1) := by decide +kernel
theorem dX9_idea_134 : decode cX9_idea 134 = .ok (.iconst 1, 1) := by decide +kernel
theorem dX9_idea_135 : decode cX9_idea 135 = .ok (.iadd, 1) := by decide +kernel
theorem dX9_idea_136 : decode cX9_idea 136 = .ok (.putfield 120, 3) := by decide +kernel
theorem dX9_idea_139 : decode cX9_idea 139 = .ok (.ireturn, 1) := by decide +kernel
theorem dX9_isOf_0 : decode cX9_isOf 0 = .ok (.aload_n 0, 1) := by decide +kernel
theorem dX9_isOf_1 : decode cX9_isOf 1 = .ok (.getfield 42, 3) := by decide +kernel
theorem dX9_isOf_4 : decode cX9_isOf 4 = .ok (.iload_n 1, 1) := by decide +kernel
theorem dX9_isOf_5 : decode cX9_isOf 5 = .ok (.iaload, 1) := by decide +kernel
theorem dX9_isOf_6 : decode cX9_isOf 6 = .ok (.iload_n 2, 1) := by decide +kernel
theorem dX9_isOf_7 : decode cX9_isOf 7 = .ok (.if_icmp .ne 5, 3) := by decide +kernel
theorem dX9_isOf_10 : decode cX9_isOf 10 = .ok (.iconst 1, 1) := by decide +kernel
theorem dX9_isOf_11 : decode cX9_isOf 11 = .ok (.ireturn, 1) := by decide +kernel
theorem dX9_isOf_12 : decode cX9_isOf 12 = .ok (.iconst 0, 1) := by decide +kernel
theorem dX9_isOf_13 : decode cX9_isOf 13 = .ok (.istore_n 3, 1) := by decide +kernel
theorem dX9_isOf_14 : decode cX9_isOf 14 = .ok (.iload_n 3, 1) := by decide +kernel
theorem dX9_isOf_15 : decode cX9_isOf 15 = .ok (.aload_n 0, 1) := by decide +kernel
theorem dX9_isOf_16 : decode cX9_isOf 16 = .ok (.getfield 69, 3) := by decide +kernel
theorem dX9_isOf_19 : decode cX9_isOf 19 = .ok (.iload_n 1, 1) := by decide +kernel
theorem dX9_isOf_20 : decode cX9_isOf 20 = .ok (.iaload, 1) := by decide +kernel
theorem dX9_isOf_21 : decode cX9_isOf 21 = .ok (.if_icmp .ge 26, 3) := by decide +kernel
theorem dX9_isOf_24 : decode cX9_isOf 24 = .ok (.aload_n 0, 1) := by decide +kernel
theorem dX9_isOf_25 : decode cX9_isOf 25 = .ok (.getfield 72, 3) := by decide +kernel
theorem dX9_isOf_28 : decode cX9_isOf 28 = .ok (.bipush 6, 2) := by decide +kernel
theorem dX9_isOf_30 : decode cX9_isOf 30 = .ok (.iload_n 1, 1) := by decide +kernel
theorem dX9_isOf_31 : decode cX9_isOf 31 = .ok (.imul, 1) := by decide +kernel
theorem dX9_isOf_32 : decode cX9_isOf 32 = .ok (.iload_n 3, 1) := by decide +kernel
theorem dX9_isOf_33 : decode cX9_isOf 33 = .ok (.iadd, 1) := by decide +kernel
theorem dX9_isOf_34 : decode cX9_isOf 34 = .ok (.iaload, 1) := by decide +kernel
theorem dX9_isOf_35 : decode cX9_isOf 35 = .ok (.iload_n 2, 1) := by decide +kernel
theorem dX9_isOf_36 : decode cX9_isOf 36 = .ok (.if_icmp .ne 5, 3) := by decide +kernel
theorem dX9_isOf_39 : decode cX9_isOf 39 = .ok (.iconst 1, 1) := by decide +kernel
theorem dX9_isOf_40 : decode cX9_isOf 40 = .ok (.ireturn, 1) := by decide +kernel
theorem dX9_isOf_41 : decode cX9_isOf 41 = .ok (.iinc 3 1, 3) := by decide +kernel
theorem dX9_isOf_44 : decode cX9_isOf 44 = .ok (.goto (-30), 3) := by decide +kernel
theorem dX9_isOf_47 : decode cX9_isOf 47 = .ok (.iconst 0, 1) := by decide +kernel
theorem dX9_isOf_48 : decode cX9_isOf 48 = .ok (.ireturn, 1) := by decide +kernel
theorem dX9_team_0 : decode cX9_team 0 = .ok (.aload_n 0, 1) := by decide +kernel
theorem dX9_team_1 : decode cX9_team 1 = .ok (.iload_n 1, 1) := by decide +kernel
theorem dX9_team_2 : decode cX9_team 2 = .ok (.invokevirtual 141, 3) := by decide +kernel
theorem dX9_team_5 : decode cX9_team 5 = .ok (.ifCond .eq 11, 3) := by decide +kernel
theorem dX9_team_8 : decode cX9_team 8 = .ok (.aload_n 0, 1) := by decide +kernel
theorem dX9_team_9 : decode cX9_team 9 = .ok (.iload_n 2, 1) := by decide +kernel
theorem dX9_team_10 : decode cX9_team 10 = .ok (.invokevirtual 132, 3) := by decide +kernel
theorem dX9_team_13 : decode cX9_team 13 = .ok (.ifCond .ne 9, 3) := by decide +kernel
theorem dX9_team_16 : decode cX9_team 16 = .ok (.aload_n 0, 1) := by decide +kernel
theorem dX9_team_17 : decode cX9_team 17 = .ok (.iconst (-1), 1) := by decide +kernel
theorem dX9_team_18 : decode cX9_team 18 = .ok (.invokevirtual 128, 3) := by decide +kernel
theorem dX9_team_21 : decode cX9_team 21 = .ok (.ireturn, 1) := by decide +kernel
theorem dX9_team_22 : decode cX9_team 22 = .ok (.aload_n 0, 1) := by decide +kernel
theorem dX9_team_23 : decode cX9_team 23 = .ok (.iload_n 1, 1) := by decide +kernel
theorem dX9_team_24 : decode cX9_team 24 = .ok (.iload_n 2, 1) := by decide +kernel
theorem dX9_team_25 : decode cX9_team 25 = .ok (.invokevirtual 144, 3) := by decide +kernel
theorem dX9_team_28 : decode cX9_team 28 = .ok (.ifCond .eq 10, 3) := by decide +kernel
theorem dX9_team_31 : decode cX9_team 31 = .ok (.aload_n 0, 1) := by decide +kernel
theorem dX9_team_32 : decode cX9_team 32 = .ok (.bipush (-3), 2) := by decide +kernel
theorem dX9_team_34 : decode cX9_team 34 = .ok (.invokevirtual 128, 3) := by decide +kernel
theorem dX9_team_37 : decode cX9_team 37 = .ok (.ireturn, 1) := by decide +kernel
theorem dX9_team_38 : decode cX9_team 38 = .ok (.aload_n 0, 1) := by decide +kernel
theorem dX9_team_39 : decode cX9_team 39 = .ok (.getfield 69, 3) := by decide +kernel
theorem dX9_team_42 : decode cX9_team 42 = .ok (.iload_n 1, 1) := by decide +kernel
theorem dX9_team_43 : decode cX9_team 43 = .ok (.iaload, 1) := by decide +kernel
theorem dX9_team_44 : decode cX9_team 44 = .ok (.bipush 6, 2) := by decide +kernel
theorem dX9_team_46 : decode cX9_team 46 = .ok (.if_icmp .ne 10, 3) := by decide +kernel
theorem dX9_team_49 : decode cX9_team 49 = .ok (.aload_n 0, 1) := by decide +kernel
theorem dX9_team_50 : decode cX9_team 50 = .ok (.bipush (-6), 2) := by decide +kernel
theorem dX9_team_52 : decode cX9_team 52 = .ok (.invokevirtual 128, 3) := by decide +kernel
theorem dX9_team_55 : decode cX9_team 55 = .ok (.ireturn, 1) := by decide +kernel
theorem dX9_team_56 : decode cX9_team 56 = .ok (.aload_n 0, 1) := by decide +kernel
theorem dX9_team_57 : decode cX9_team 57 = .ok (.getfield 72, 3) := by decide +kernel
theorem dX9_team_60 : decode cX9_team 60 = .ok (.bipush 6, 2) := by decide +kernel
theorem dX9_team_62 : decode cX9_team 62 = .ok (.iload_n 1, 1) := by decide +kernel
theorem dX9_team_63 : decode cX9_team 63 = .ok (.imul, 1) := by decide +kernel
theorem dX9_team_64 : decode cX9_team 64 = .ok (.aload_n 0, 1) := by decide +kernel
theorem dX9_team_65 : decode cX9_team 65 = .ok (.getfield 69, 3) := by decide +kernel
theorem dX9_team_68 : decode cX9_team 68 = .ok (.iload_n 1, 1) := by decide +kernel
theorem dX9_team_69 : decode cX9_team 69 = .ok (.iaload, 1) := by decide +kernel
theorem dX9_team_70 : decode cX9_team 70 = .ok (.iadd, 1) := by decide +kernel
theorem dX9_team_71 : decode cX9_team 71 = .ok (.iload_n 2, 1) := by decide +kernel
theorem dX9_team_72 : decode cX9_team 72 = .ok (.iastore, 1) := by decide +kernel
theorem dX9_team_73 : decode cX9_team 73 = .ok (.aload_n 0, 1) := by decide +kernel
theorem dX9_team_74 : decode cX9_team 74 = .ok (.getfield 69, 3) := by decide +kernel
theorem dX9_team_77 : decode cX9_team 77 = .ok (.iload_n 1, 1) := by decide +kernel
theorem dX9_team_78 : decode cX9_team 78 = .ok (.dup2, 1) := by decide +kernel
theorem dX9_team_79 : decode cX9_team 79 = .ok (.iaload, 1) := by decide +kernel
theorem dX9_team_80 : decode cX9_team 80 = .ok (.iconst 1, 1) := by decide +kernel
theorem dX9_team_81 : decode cX9_team 81 = .ok (.iadd, 1) := by decide +kernel
theorem dX9_team_82 : decode cX9_team 82 = .ok (.dup_x2, 1) := by decide +kernel
theorem dX9_team_83 : decode cX9_team 83 = .ok (.iastore, 1) := by decide +kernel
theorem dX9_team_84 : decode cX9_team 84 = .ok (.ireturn, 1) := by decide +kernel
theorem dX9_set_0 : decode cX9_set 0 = .ok (.iload_n 1, 1) := by decide +kernel
theorem dX9_set_1 : decode cX9_set 1 = .ok (.ifCond .lt 8, 3) := by decide +kernel
theorem dX9_set_4 : decode cX9_set 4 = .ok (.iload_n 1, 1) := by decide +kernel
theorem dX9_set_5 : decode cX9_set 5 = .ok (.iconst 3, 1) := by decide +kernel
theorem dX9_set_6 : decode cX9_set 6 = .ok (.if_icmp .le 10, 3) := by decide +kernel
theorem dX9_set_9 : decode cX9_set 9 = .ok (.aload_n 0, 1) := by decide +kernel
theorem dX9_set_10 : decode cX9_set 10 = .ok (.bipush (-2), 2) := by decide +kernel
theorem dX9_set_12 : decode cX9_set 12 = .ok (.invokevirtual 128, 3) := by decide +kernel
theorem dX9_set_15 : decode cX9_set 15 = .ok (.ireturn, 1) := by decide +kernel
theorem dX9_set_16 : decode cX9_set 16 = .ok (.iload_n 2, 1) := by decide +kernel
theorem dX9_set_17 : decode cX9_set 17 = .ok (.iload_n 1, 1) := by decide +kernel
theorem dX9_set_18 : decode cX9_set 18 = .ok (.ifCond .ne 7, 3) := by decide +kernel
theorem dX9_set_21 : decode cX9_set 21 = .ok (.iconst 1, 1) := by decide +kernel
theorem dX9_set_22 : decode cX9_set 22 = .ok (.goto 4, 3) := by decide +kernel
theorem dX9_set_25 : decode cX9_set 25 = .ok (.iconst 0, 1) := by decide +kernel
theorem dX9_set_26 : decode cX9_set 26 = .ok (.if_icmp .ge 10, 3) := by decide +kernel
theorem dX9_set_29 : decode cX9_set 29 = .ok (.aload_n 0, 1) := by decide +kernel
theorem dX9_set_30 : decode cX9_set 30 = .ok (.bipush (-4), 2) := by decide +kernel
theorem dX9_set_32 : decode cX9_set 32 = .ok (.invokevirtual 128, 3) := by decide +kernel
theorem dX9_set_35 : decode cX9_set 35 = .ok (.ireturn, 1) := by decide +kernel
theorem dX9_set_36 : decode cX9_set 36 = .ok (.iload_n 2, 1) := by decide +kernel
theorem dX9_set_37 : decode cX9_set 37 = .ok (.iload_n 1, 1) := by decide +kernel
theorem dX9_set_38 : decode cX9_set 38 = .ok (.ifCond .ne 8, 3) := by decide +kernel
theorem dX9_set_41 : decode cX9_set 41 = .ok (.bipush 40, 2) := by decide +kernel
theorem dX9_set_43 : decode cX9_set 43 = .ok (.goto 26, 3) := by decide +kernel
theorem dX9_set_46 : decode cX9_set 46 = .ok (.iload_n 1, 1) := by decide +kernel
theorem dX9_set_47 : decode cX9_set 47 = .ok (.iconst 1, 1) := by decide +kernel
theorem dX9_set_48 : decode cX9_set 48 = .ok (.if_icmp .ne 9, 3) := by decide +kernel
theorem dX9_set_51 : decode cX9_set 51 = .ok (.sipush 1000, 3) := by decide +kernel
theorem dX9_set_54 : decode cX9_set 54 = .ok (.goto 15, 3) := by decide +kernel
theorem dX9_set_57 : decode cX9_set 57 = .ok (.iload_n 1, 1) := by decide +kernel
theorem dX9_set_58 : decode cX9_set 58 = .ok (.iconst 2, 1) := by decide +kernel
theorem dX9_set_59 : decode cX9_set 59 = .ok (.if_icmp .ne 8, 3) := by decide +kernel
theorem dX9_set_62 : decode cX9_set 62 = .ok (.bipush 100, 2) := by decide +kernel
theorem dX9_set_64 : decode cX9_set 64 = .ok (.goto 5, 3) := by decide +kernel
theorem dX9_set_67 : decode cX9_set 67 = .ok (.bipush 99, 2) := by decide +kernel
theorem dX9_set_69 : decode cX9_set 69 = .ok (.if_icmp .le 10, 3) := by decide +kernel
theorem dX9_set_72 : decode cX9_set 72 = .ok (.aload_n 0, 1) := by decide +kernel
theorem dX9_set_73 : decode cX9_set 73 = .ok (.bipush (-6), 2) := by decide +kernel
theorem dX9_set_75 : decode cX9_set 75 = .ok (.invokevirtual 128, 3) := by decide +kernel
theorem dX9_set_78 : decode cX9_set 78 = .ok (.ireturn, 1) := by decide +kernel
theorem dX9_set_79 : decode cX9_set 79 = .ok (.iload_n 1, 1) := by decide +kernel
theorem dX9_set_80 : decode cX9_set 80 = .ok (.ifCond .ne 10, 3) := by decide +kernel
theorem dX9_set_83 : decode cX9_set 83 = .ok (.aload_n 0, 1) := by decide +kernel
theorem dX9_set_84 : decode cX9_set 84 = .ok (.getfield 7, 3) := by decide +kernel
theorem dX9_set_87 : decode cX9_set 87 = .ok (.goto 31, 3) := by decide +kernel
theorem dX9_set_90 : decode cX9_set 90 = .ok (.iload_n 1, 1) := by decide +kernel
theorem dX9_set_91 : decode cX9_set 91 = .ok (.iconst 1, 1) := by decide +kernel
theorem dX9_set_92 : decode cX9_set 92 = .ok (.if_icmp .ne 10, 3) := by decide +kernel
theorem dX9_set_95 : decode cX9_set 95 = .ok (.aload_n 0, 1) := by decide +kernel
theorem dX9_set_96 : decode cX9_set 96 = .ok (.getfield 13, 3) := by decide +kernel
theorem dX9_set_99 : decode cX9_set 99 = .ok (.goto 19, 3) := by decide +kernel
theorem dX9_set_102 : decode cX9_set 102 = .ok (.iload_n 1, 1) := by decide +kernel
theorem dX9_set_103 : decode cX9_set 103 = .ok (.iconst 2, 1) := by decide +kernel
theorem dX9_set_104 : decode cX9_set 104 = .ok (.if_icmp .ne 10, 3) := by decide +kernel
theorem dX9_set_107 : decode cX9_set 107 = .ok (.aload_n 0, 1) := by decide +kernel
theorem dX9_set_108 : decode cX9_set 108 = .ok (.getfield 16, 3) := by decide +kernel
theorem dX9_set_111 : decode cX9_set 111 = .ok (.goto 7, 3) := by decide +kernel
theorem dX9_set_114 : decode cX9_set 114 = .ok (.aload_n 0, 1) := by decide +kernel
theorem dX9_set_115 : decode cX9_set 115 = .ok (.getfield 19, 3) := by decide +kernel
theorem dX9_set_118 : decode cX9_set 118 = .ok (.istore_n 3, 1) := by decide +kernel
theorem dX9_set_119 : decode cX9_set 119 = .ok (.iload_n 1, 1) := by decide +kernel
theorem dX9_set_120 : decode cX9_set 120 = .ok (.ifCond .ne 11, 3) := by decide +kernel
theorem dX9_set_123 : decode cX9_set 123 = .ok (.aload_n 0, 1) := by decide +kernel
theorem dX9_set_124 : decode cX9_set 124 = .ok (.iload_n 2, 1) := by decide +kernel
theorem dX9_set_125 : decode cX9_set 125 = .ok (.putfield 7, 3) := by decide +kernel
theorem dX9_set_128 : decode cX9_set 128 = .ok (.goto 34, 3) := by decide +kernel
theorem dX9_set_131 : decode cX9_set 131 = .ok (.iload_n 1, 1) := by decide +kernel
theorem dX9_set_132 : decode cX9_set 132 = .ok (.iconst 1, 1) := by decide +kernel
theorem dX9_set_133 : decode cX9_set 133 = .ok (.if_icmp .ne 11, 3) := by decide +kernel
theorem dX9_set_136 : decode cX9_set 136 = .ok (.aload_n 0, 1) := by decide +kernel
theorem dX9_set_137 : decode cX9_set 137 = .ok (.iload_n 2, 1) := by decide +kernel
theorem dX9_set_138 : decode cX9_set 138 = .ok (.putfield 13, 3) := by decide +kernel
theorem dX9_set_141 : decode cX9_set 141 = .ok (.goto 21, 3) := by decide +kernel
theorem dX9_set_144 : decode cX9_set 144 = .ok (.iload_n 1, 1) := by decide +kernel
theorem dX9_set_145 : decode cX9_set 145 = .ok (.iconst 2, 1) := by decide +kernel
theorem dX9_set_146 : decode cX9_set 146 = .ok (.if_icmp .ne 11, 3) := by decide +kernel
theorem dX9_set_149 : decode cX9_set 149 = .ok (.aload_n 0, 1) := by decide +kernel
theorem dX9_set_150 : decode cX9_set 150 = .ok (.iload_n 2, 1) := by decide +kernel
theorem dX9_set_151 : decode cX9_set 151 = .ok (.putfield 16, 3) := by decide +kernel
theorem dX9_set_154 : decode cX9_set 154 = .ok (.goto 8, 3) := by decide +kernel
theorem dX9_set_157 : decode cX9_set 157 = .ok (.aload_n 0, 1) := by decide +kernel
theorem dX9_set_158 : decode cX9_set 158 = .ok (.iload_n 2, 1) := by decide +kernel
theorem dX9_set_159 : decode cX9_set 159 = .ok (.putfield 19, 3) := by decide +kernel
theorem dX9_set_162 : decode cX9_set 162 = .ok (.iload_n 3, 1) := by decide +kernel
theorem dX9_set_163 : decode cX9_set 163 = .ok (.ireturn, 1) := by decide +kernel
theorem dX9_bits_0 : decode cX9_bits 0 = .ok (.iconst 0, 1) := by decide +kernel
theorem dX9_bits_1 : decode cX9_bits 1 = .ok (.istore_n 1, 1) := by decide +kernel
theorem dX9_bits_2 : decode cX9_bits 2 = .ok (.iconst 0, 1) := by decide +kernel
theorem dX9_bits_3 : decode cX9_bits 3 = .ok (.istore_n 2, 1) := by decide +kernel
theorem dX9_bits_4 : decode cX9_bits 4 = .ok (.iload_n 2, 1) := by decide +kernel
theorem dX9_bits_5 : decode cX9_bits 5 = .ok (.bipush 16, 2) := by decide +kernel
theorem dX9_bits_7 : decode cX9_bits 7 = .ok (.if_icmp .ge 17, 3) := by decide +kernel
theorem dX9_bits_10 : decode cX9_bits 10 = .ok (.iload_n 1, 1) := by decide +kernel
theorem dX9_bits_11 : decode cX9_bits 11 = .ok (.iload_n 0, 1) := by decide +kernel
theorem dX9_bits_12 : decode cX9_bits 12 = .ok (.iload_n 2, 1) := by decide +kernel
theorem dX9_bits_13 : decode cX9_bits 13 = .ok (.ishr, 1) := by decide +kernel
theorem dX9_bits_14 : decode cX9_bits 14 = .ok (.iconst 1, 1) := by decide +kernel
theorem dX9_bits_15 : decode cX9_bits 15 = .ok (.iand, 1) := by decide +kernel
theorem dX9_bits_16 : decode cX9_bits 16 = .ok (.iadd, 1) := by decide +kernel
theorem dX9_bits_17 : decode cX9_bits 17 = .ok (.istore_n 1, 1) := by decide +kernel
theorem dX9_bits_18 : decode cX9_bits 18 = .ok (.iinc 2 1, 3) := by decide +kernel
theorem dX9_bits_21 : decode cX9_bits 21 = .ok (.goto (-17), 3) := by decide +kernel
theorem dX9_bits_24 : decode cX9_bits 24 = .ok (.iload_n 1, 1) := by decide +kernel
theorem dX9_bits_25 : decode cX9_bits 25 = .ok (.ireturn, 1) := by decide +kernel
theorem dX9_likeness_0 : decode cX9_likeness 0 = .ok (.iconst 3, 1) := by decide +kernel
theorem dX9_likeness_1 : decode cX9_likeness 1 = .ok (.iload_n 0, 1) := by decide +kernel
theorem dX9_likeness_2 : decode cX9_likeness 2 = .ok (.iload_n 1, 1) := by decide +kernel
theorem dX9_likeness_3 : decode cX9_likeness 3 = .ok (.iand, 1) := by decide +kernel
theorem dX9_likeness_4 : decode cX9_likeness 4 = .ok (.invokestatic 148, 3) := by decide +kernel
theorem dX9_likeness_7 : decode cX9_likeness 7 = .ok (.imul, 1) := by decide +kernel
theorem dX9_likeness_8 : decode cX9_likeness 8 = .ok (.iload_n 0, 1) := by decide +kernel
theorem dX9_likeness_9 : decode cX9_likeness 9 = .ok (.iload_n 1, 1) := by decide +kernel
theorem dX9_likeness_10 : decode cX9_likeness 10 = .ok (.ixor, 1) := by decide +kernel
theorem dX9_likeness_11 : decode cX9_likeness 11 = .ok (.invokestatic 148, 3) := by decide +kernel
theorem dX9_likeness_14 : decode cX9_likeness 14 = .ok (.isub, 1) := by decide +kernel
theorem dX9_likeness_15 : decode cX9_likeness 15 = .ok (.ireturn, 1) := by decide +kernel
theorem dX9_like_0 : decode cX9_like 0 = .ok (.aload_n 0, 1) := by decide +kernel
theorem dX9_like_1 : decode cX9_like 1 = .ok (.iload_n 1, 1) := by decide +kernel
theorem dX9_like_2 : decode cX9_like 2 = .ok (.invokevirtual 141, 3) := by decide +kernel
theorem dX9_like_5 : decode cX9_like 5 = .ok (.ifCond .eq 33, 3) := by decide +kernel
theorem dX9_like_8 : decode cX9_like 8 = .ok (.aload_n 0, 1) := by decide +kernel
theorem dX9_like_9 : decode cX9_like 9 = .ok (.iload_n 2, 1) := by decide +kernel
theorem dX9_like_10 : decode cX9_like 10 = .ok (.invokevirtual 141, 3) := by decide +kernel
theorem dX9_like_13 : decode cX9_like 13 = .ok (.ifCond .eq 25, 3) := by decide +kernel
theorem dX9_like_16 : decode cX9_like 16 = .ok (.sipush 1000, 3) := by decide +kernel
theorem dX9_like_19 : decode cX9_like 19 = .ok (.aload_n 0, 1) := by decide +kernel
theorem dX9_like_20 : decode cX9_like 20 = .ok (.getfield 48, 3) := by decide +kernel
theorem dX9_like_23 : decode cX9_like 23 = .ok (.iload_n 1, 1) := by decide +kernel
theorem dX9_like_24 : decode cX9_like 24 = .ok (.iaload, 1) := by decide +kernel
theorem dX9_like_25 : decode cX9_like 25 = .ok (.aload_n 0, 1) := by decide +kernel
theorem dX9_like_26 : decode cX9_like 26 = .ok (.getfield 48, 3) := by decide +kernel
theorem dX9_like_29 : decode cX9_like 29 = .ok (.iload_n 2, 1) := by decide +kernel
theorem dX9_like_30 : decode cX9_like 30 = .ok (.iaload, 1) := by decide +kernel
theorem dX9_like_31 : decode cX9_like 31 = .ok (.invokestatic 151, 3) := by decide +kernel
theorem dX9_like_34 : decode cX9_like 34 = .ok (.iadd, 1) := by decide +kernel
theorem dX9_like_35 : decode cX9_like 35 = .ok (.goto 8, 3) := by decide +kernel
theorem dX9_like_38 : decode cX9_like 38 = .ok (.aload_n 0, 1) := by decide +kernel
theorem dX9_like_39 : decode cX9_like 39 = .ok (.iconst (-1), 1) := by decide +kernel
theorem dX9_like_40 : decode cX9_like 40 = .ok (.invokevirtual 128, 3) := by decide +kernel
theorem dX9_like_43 : decode cX9_like 43 = .ok (.ireturn, 1) := by decide +kernel
theorem dX9_families_0 : decode cX9_families 0 = .ok (.iconst 0, 1) := by decide +kernel
theorem dX9_families_1 : decode cX9_families 1 = .ok (.istore_n 2, 1) := by decide +kernel
theorem dX9_families_2 : decode cX9_families 2 = .ok (.iload_n 2, 1) := by decide +kernel
theorem dX9_families_3 : decode cX9_families 3 = .ok (.aload_n 0, 1) := by decide +kernel
theorem dX9_families_4 : decode cX9_families 4 = .ok (.getfield 120, 3) := by decide +kernel
theorem dX9_families_7 : decode cX9_families 7 = .ok (.if_icmp .ge 16, 3) := by decide +kernel
theorem dX9_families_10 : decode cX9_families 10 = .ok (.aload_n 0, 1) := by decide +kernel
theorem dX9_families_11 : decode cX9_families 11 = .ok (.getfield 114, 3) := by decide +kernel
theorem dX9_families_14 : decode cX9_families 14 = .ok (.iload_n 2, 1) := by decide +kernel
theorem dX9_families_15 : decode cX9_families 15 = .ok (.iload_n 2, 1) := by decide +kernel
theorem dX9_families_16 : decode cX9_families 16 = .ok (.iastore, 1) := by decide +kernel
theorem dX9_families_17 : decode cX9_families 17 = .ok (.iinc 2 1, 3) := by decide +kernel
theorem dX9_families_20 : decode cX9_families 20 = .ok (.goto (-18), 3) := by decide +kernel
theorem dX9_families_23 : decode cX9_families 23 = .ok (.iconst 1, 1) := by decide +kernel
theorem dX9_families_24 : decode cX9_families 24 = .ok (.istore_n 2, 1) := by decide +kernel
theorem dX9_families_25 : decode cX9_families 25 = .ok (.iload_n 2, 1) := by decide +kernel
theorem dX9_families_26 : decode cX9_families 26 = .ok (.ifCond .eq 147, 3) := by decide +kernel
theorem dX9_families_29 : decode cX9_families 29 = .ok (.iconst 0, 1) := by decide +kernel
theorem dX9_families_30 : decode cX9_families 30 = .ok (.istore_n 2, 1) := by decide +kernel
theorem dX9_families_31 : decode cX9_families 31 = .ok (.iconst 0, 1) := by decide +kernel
theorem dX9_families_32 : decode cX9_families 32 = .ok (.istore_n 3, 1) := by decide +kernel
theorem dX9_families_33 : decode cX9_families 33 = .ok (.iload_n 3, 1) := by decide +kernel
theorem dX9_families_34 : decode cX9_families 34 = .ok (.aload_n 0, 1) := by decide +kernel
theorem dX9_families_35 : decode cX9_families 35 = .ok (.getfield 120, 3) := by decide +kernel
theorem dX9_families_38 : decode cX9_families 38 = .ok (.if_icmp .ge 132, 3) := by decide +kernel
theorem dX9_families_41 : decode cX9_families 41 = .ok (.iconst 0, 1) := by decide +kernel
theorem dX9_families_42 : decode cX9_families 42 = .ok (.istore 4, 2) := by decide +kernel
theorem dX9_families_44 : decode cX9_families 44 = .ok (.iload 4, 2) := by decide +kernel
theorem dX9_families_46 : decode cX9_families 46 = .ok (.iload_n 3, 1) := by decide +kernel
theorem dX9_families_47 : decode cX9_families 47 = .ok (.if_icmp .ge 117, 3) := by decide +kernel
theorem dX9_families_50 : decode cX9_families 50 = .ok (.aload_n 0, 1) := by decide +kernel
theorem dX9_families_51 : decode cX9_families 51 = .ok (.getfield 114, 3) := by decide +kernel
theorem dX9_families_54 : decode cX9_families 54 = .ok (.iload_n 3, 1) := by decide +kernel
theorem dX9_families_55 : decode cX9_families 55 = .ok (.iaload, 1) := by decide +kernel
theorem dX9_families_56 : decode cX9_families 56 = .ok (.aload_n 0, 1) := by decide +kernel
theorem dX9_families_57 : decode cX9_families 57 = .ok (.getfield 114, 3) := by decide +kernel
theorem dX9_families_60 : decode cX9_families 60 = .ok (.iload 4, 2) := by decide +kernel
theorem dX9_families_62 : decode cX9_families 62 = .ok (.iaload, 1) := by decide +kernel
theorem dX9_families_63 : decode cX9_families 63 = .ok (.if_icmp .eq 95, 3) := by decide +kernel
theorem dX9_families_66 : decode cX9_families 66 = .ok (.aload_n 0, 1) := by decide +kernel
theorem dX9_families_67 : decode cX9_families 67 = .ok (.getfield 45, 3) := by decide +kernel
theorem dX9_families_70 : decode cX9_families 70 = .ok (.iload_n 3, 1) := by decide +kernel
theorem dX9_families_71 : decode cX9_families 71 = .ok (.iaload, 1) := by decide +kernel
theorem dX9_families_72 : decode cX9_families 72 = .ok (.aload_n 0, 1) := by decide +kernel
theorem dX9_families_73 : decode cX9_families 73 = .ok (.getfield 45, 3) := by decide +kernel
theorem dX9_families_76 : decode cX9_families 76 = .ok (.iload 4, 2) := by decide +kernel
theorem dX9_families_78 : decode cX9_families 78 = .ok (.iaload, 1) := by decide +kernel
theorem dX9_families_79 : decode cX9_families 79 = .ok (.if_icmp .ne 79, 3) := by decide +kernel
theorem dX9_families_82 : decode cX9_families 82 = .ok (.aload_n 0, 1) := by decide +kernel
theorem dX9_families_83 : decode cX9_families 83 = .ok (.getfield 48, 3) := by decide +kernel
theorem dX9_families_86 : decode cX9_families 86 = .ok (.iload_n 3, 1) := by decide +kernel
theorem dX9_families_87 : decode cX9_families 87 = .ok (.iaload, 1) := by decide +kernel
theorem dX9_families_88 : decode cX9_families 88 = .ok (.aload_n 0, 1) := by decide +kernel
theorem dX9_families_89 : decode cX9_families 89 = .ok (.getfield 48, 3) := by decide +kernel
theorem dX9_families_92 : decode cX9_families 92 = .ok (.iload 4, 2) := by decide +kernel
theorem dX9_families_94 : decode cX9_families 94 = .ok (.iaload, 1) := by decide +kernel
theorem dX9_families_95 : decode cX9_families 95 = .ok (.invokestatic 151, 3) := by decide +kernel
theorem dX9_families_98 : decode cX9_families 98 = .ok (.iload_n 1, 1) := by decide +kernel
theorem dX9_families_99 : decode cX9_families 99 = .ok (.if_icmp .ge 6, 3) := by decide +kernel
theorem dX9_families_102 : decode cX9_families 102 = .ok (.goto 56, 3) := by decide +kernel
theorem dX9_families_105 : decode cX9_families 105 = .ok (.aload_n 0, 1) := by decide +kernel
theorem dX9_families_106 : decode cX9_families 106 = .ok (.getfield 114, 3) := by decide +kernel
theorem dX9_families_109 : decode cX9_families 109 = .ok (.iload_n 3, 1) := by decide +kernel
theorem dX9_families_110 : decode cX9_families 110 = .ok (.iaload, 1) := by decide +kernel
theorem dX9_families_111 : decode cX9_families 111 = .ok (.aload_n 0, 1) := by decide +kernel
theorem dX9_families_112 : decode cX9_families 112 = .ok (.getfield 114, 3) := by decide +kernel
theorem dX9_families_115 : decode cX9_families 115 = .ok (.iload 4, 2) := by decide +kernel
theorem dX9_families_117 : decode cX9_families 117 = .ok (.iaload, 1) := by decide +kernel
theorem dX9_families_118 : decode cX9_families 118 = .ok (.if_icmp .ge 12, 3) := by decide +kernel
theorem dX9_families_121 : decode cX9_families 121 = .ok (.aload_n 0, 1) := by decide +kernel
theorem dX9_families_122 : decode cX9_families 122 = .ok (.getfield 114, 3) := by decide +kernel
theorem dX9_families_125 : decode cX9_families 125 = .ok (.iload_n 3, 1) := by decide +kernel
theorem dX9_families_126 : decode cX9_families 126 = .ok (.iaload, 1) := by decide +kernel
theorem dX9_families_127 : decode cX9_families 127 = .ok (.goto 10, 3) := by decide +kernel
theorem dX9_families_130 : decode cX9_families 130 = .ok (.aload_n 0, 1) := by decide +kernel
theorem dX9_families_131 : decode cX9_families 131 = .ok (.getfield 114, 3) := by decide +kernel
theorem dX9_families_134 : decode cX9_families 134 = .ok (.iload 4, 2) := by decide +kernel
theorem dX9_families_136 : decode cX9_families 136 = .ok (.iaload, 1) := by decide +kernel
theorem dX9_families_137 : decode cX9_families 137 = .ok (.istore 5, 2) := by decide +kernel
theorem dX9_families_139 : decode cX9_families 139 = .ok (.aload_n 0, 1) := by decide +kernel
theorem dX9_families_140 : decode cX9_families 140 = .ok (.getfield 114, 3) := by decide +kernel
theorem dX9_families_143 : decode cX9_families 143 = .ok (.iload_n 3, 1) := by decide +kernel
theorem dX9_families_144 : decode cX9_families 144 = .ok (.iload 5, 2) := by decide +kernel
theorem dX9_families_146 : decode cX9_families 146 = .ok (.iastore, 1) := by decide +kernel
theorem dX9_families_147 : decode cX9_families 147 = .ok (.aload_n 0, 1) := by decide +kernel
theorem dX9_families_148 : decode cX9_families 148 = .ok (.getfield 114, 3) := by decide +kernel
theorem dX9_families_151 : decode cX9_families 151 = .ok (.iload 4, 2) := by decide +kernel
theorem dX9_families_153 : decode cX9_families 153 = .ok (.iload 5, 2) := by decide +kernel
theorem dX9_families_155 : decode cX9_families 155 = .ok (.iastore, 1) := by decide +kernel
theorem dX9_families_156 : decode cX9_families 156 = .ok (.iconst 1, 1) := by decide +kernel
theorem dX9_families_157 : decode cX9_families 157 = .ok (.istore_n 2, 1) := by decide +kernel
theorem dX9_families_158 : decode cX9_families 158 = .ok (.iinc 4 1, 3) := by decide +kernel
theorem dX9_families_161 : decode cX9_families 161 = .ok (.goto (-117), 3) := by decide +kernel
theorem dX9_families_164 : decode cX9_families 164 = .ok (.iinc 3 1, 3) := by decide +kernel
theorem dX9_families_167 : decode cX9_families 167 = .ok (.goto (-134), 3) := by decide +kernel
theorem dX9_families_170 : decode cX9_families 170 = .ok (.goto (-145), 3) := by decide +kernel
theorem dX9_families_173 : decode cX9_families 173 = .ok (.return_, 1) := by decide +kernel
theorem dX9_family_0 : decode cX9_family 0 = .ok (.aload_n 0, 1) := by decide +kernel
theorem dX9_family_1 : decode cX9_family 1 = .ok (.iload_n 1, 1) := by decide +kernel
theorem dX9_family_2 : decode cX9_family 2 = .ok (.invokevirtual 141, 3) := by decide +kernel
theorem dX9_family_5 : decode cX9_family 5 = .ok (.ifCond .ne 9, 3) := by decide +kernel
theorem dX9_family_8 : decode cX9_family 8 = .ok (.aload_n 0, 1) := by decide +kernel
theorem dX9_family_9 : decode cX9_family 9 = .ok (.iconst (-1), 1) := by decide +kernel
theorem dX9_family_10 : decode cX9_family 10 = .ok (.invokevirtual 128, 3) := by decide +kernel
theorem dX9_family_13 : decode cX9_family 13 = .ok (.ireturn, 1) := by decide +kernel
theorem dX9_family_14 : decode cX9_family 14 = .ok (.aload_n 0, 1) := by decide +kernel
theorem dX9_family_15 : decode cX9_family 15 = .ok (.aload_n 0, 1) := by decide +kernel
theorem dX9_family_16 : decode cX9_family 16 = .ok (.getfield 7, 3) := by decide +kernel
theorem dX9_family_19 : decode cX9_family 19 = .ok (.invokevirtual 155, 3) := by decide +kernel
theorem dX9_family_22 : decode cX9_family 22 = .ok (.aload_n 0, 1) := by decide +kernel
theorem dX9_family_23 : decode cX9_family 23 = .ok (.getfield 114, 3) := by decide +kernel
theorem dX9_family_26 : decode cX9_family 26 = .ok (.iload_n 1, 1) := by decide +kernel
theorem dX9_family_27 : decode cX9_family 27 = .ok (.iaload, 1) := by decide +kernel
theorem dX9_family_28 : decode cX9_family 28 = .ok (.ireturn, 1) := by decide +kernel
theorem dX9_isAhead_0 : decode cX9_isAhead 0 = .ok (.aload_n 0, 1) := by decide +kernel
theorem dX9_isAhead_1 : decode cX9_isAhead 1 = .ok (.getfield 54, 3) := by decide +kernel
theorem dX9_isAhead_4 : decode cX9_isAhead 4 = .ok (.iload_n 1, 1) := by decide +kernel
theorem dX9_isAhead_5 : decode cX9_isAhead 5 = .ok (.iaload, 1) := by decide +kernel
theorem dX9_isAhead_6 : decode cX9_isAhead 6 = .ok (.aload_n 0, 1) := by decide +kernel
theorem dX9_isAhead_7 : decode cX9_isAhead 7 = .ok (.getfield 54, 3) := by decide +kernel
theorem dX9_isAhead_10 : decode cX9_isAhead 10 = .ok (.iload_n 2, 1) := by decide +kernel
theorem dX9_isAhead_11 : decode cX9_isAhead 11 = .ok (.iaload, 1) := by decide +kernel
theorem dX9_isAhead_12 : decode cX9_isAhead 12 = .ok (.if_icmp .eq 24, 3) := by decide +kernel
theorem dX9_isAhead_15 : decode cX9_isAhead 15 = .ok (.aload_n 0, 1) := by decide +kernel
theorem dX9_isAhead_16 : decode cX9_isAhead 16 = .ok (.getfield 54, 3) := by decide +kernel
theorem dX9_isAhead_19 : decode cX9_isAhead 19 = .ok (.iload_n 1, 1) := by decide +kernel
theorem dX9_isAhead_20 : decode cX9_isAhead 20 = .ok (.iaload, 1) := by decide +kernel
theorem dX9_isAhead_21 : decode cX9_isAhead 21 = .ok (.aload_n 0, 1) := by decide +kernel
theorem dX9_isAhead_22 : decode cX9_isAhead 22 = .ok (.getfield 54, 3) := by decide +kernel
theorem dX9_isAhead_25 : decode cX9_isAhead 25 = .ok (.iload_n 2, 1) := by decide +kernel
theorem dX9_isAhead_26 : decode cX9_isAhead 26 = .ok (.iaload, 1) := by decide +kernel
theorem dX9_isAhead_27 : decode cX9_isAhead 27 = .ok (.if_icmp .ge 7, 3) := by decide +kernel
theorem dX9_isAhead_30 : decode cX9_isAhead 30 = .ok (.iconst 1, 1) := by decide +kernel
theorem dX9_isAhead_31 : decode cX9_isAhead 31 = .ok (.goto 4, 3) := by decide +kernel
theorem dX9_isAhead_34 : decode cX9_isAhead 34 = .ok (.iconst 0, 1) := by decide +kernel
theorem dX9_isAhead_35 : decode cX9_isAhead 35 = .ok (.ireturn, 1) := by decide +kernel
theorem dX9_isAhead_36 : decode cX9_isAhead 36 = .ok (.aload_n 0, 1) := by decide +kernel
theorem dX9_isAhead_37 : decode cX9_isAhead 37 = .ok (.getfield 51, 3) := by decide +kernel
theorem dX9_isAhead_40 : decode cX9_isAhead 40 = .ok (.iload_n 1, 1) := by decide +kernel
theorem dX9_isAhead_41 : decode cX9_isAhead 41 = .ok (.iaload, 1) := by decide +kernel
theorem dX9_isAhead_42 : decode cX9_isAhead 42 = .ok (.aload_n 0, 1) := by decide +kernel
theorem dX9_isAhead_43 : decode cX9_isAhead 43 = .ok (.getfield 51, 3) := by decide +kernel
theorem dX9_isAhead_46 : decode cX9_isAhead 46 = .ok (.iload_n 2, 1) := by decide +kernel
theorem dX9_isAhead_47 : decode cX9_isAhead 47 = .ok (.iaload, 1) := by decide +kernel
theorem dX9_isAhead_48 : decode cX9_isAhead 48 = .ok (.if_icmp .eq 24, 3) := by decide +kernel
theorem dX9_isAhead_51 : decode cX9_isAhead 51 = .ok (.aload_n 0, 1) := by decide +kernel
theorem dX9_isAhead_52 : decode cX9_isAhead 52 = .ok (.getfield 51, 3) := by decide +kernel
theorem dX9_isAhead_55 : decode cX9_isAhead 55 = .ok (.iload_n 1, 1) := by decide +kernel
theorem dX9_isAhead_56 : decode cX9_isAhead 56 = .ok (.iaload, 1) := by decide +kernel
theorem dX9_isAhead_57 : decode cX9_isAhead 57 = .ok (.aload_n 0, 1) := by decide +kernel
theorem dX9_isAhead_58 : decode cX9_isAhead 58 = .ok (.getfield 51, 3) := by decide +kernel
theorem dX9_isAhead_61 : decode cX9_isAhead 61 = .ok (.iload_n 2, 1) := by decide +kernel
theorem dX9_isAhead_62 : decode cX9_isAhead 62 = .ok (.iaload, 1) := by decide +kernel
theorem dX9_isAhead_63 : decode cX9_isAhead 63 = .ok (.if_icmp .le 7, 3) := by decide +kernel
theorem dX9_isAhead_66 : decode cX9_isAhead 66 = .ok (.iconst 1, 1) := by decide +kernel
theorem dX9_isAhead_67 : decode cX9_isAhead 67 = .ok (.goto 4, 3) := by decide +kernel
theorem dX9_isAhead_70 : decode cX9_isAhead 70 = .ok (.iconst 0, 1) := by decide +kernel
theorem dX9_isAhead_71 : decode cX9_isAhead 71 = .ok (.ireturn, 1) := by decide +kernel
theorem dX9_isAhead_72 : decode cX9_isAhead 72 = .ok (.iload_n 1, 1) := by decide +kernel
theorem dX9_isAhead_73 : decode cX9_isAhead 73 = .ok (.iload_n 2, 1) := by decide +kernel
theorem dX9_isAhead_74 : decode cX9_isAhead 74 = .ok (.if_icmp .ge 7, 3) := by decide +kernel
theorem dX9_isAhead_77 : decode cX9_isAhead 77 = .ok (.iconst 1, 1) := by decide +kernel
theorem dX9_isAhead_78 : decode cX9_isAhead 78 = .ok (.goto 4, 3) := by decide +kernel
theorem dX9_isAhead_81 : decode cX9_isAhead 81 = .ok (.iconst 0, 1) := by decide +kernel
theorem dX9_isAhead_82 : decode cX9_isAhead 82 = .ok (.ireturn, 1) := by decide +kernel
theorem dX9_headOf_0 : decode cX9_headOf 0 = .ok (.bipush (-9), 2) := by decide +kernel
theorem dX9_headOf_2 : decode cX9_headOf 2 = .ok (.istore_n 2, 1) := by decide +kernel
theorem dX9_headOf_3 : decode cX9_headOf 3 = .ok (.iconst 0, 1) := by decide +kernel
theorem dX9_headOf_4 : decode cX9_headOf 4 = .ok (.istore_n 3, 1) := by decide +kernel
theorem dX9_headOf_5 : decode cX9_headOf 5 = .ok (.iload_n 3, 1) := by decide +kernel
theorem dX9_headOf_6 : decode cX9_headOf 6 = .ok (.aload_n 0, 1) := by decide +kernel
theorem dX9_headOf_7 : decode cX9_headOf 7 = .ok (.getfield 120, 3) := by decide +kernel
theorem dX9_headOf_10 : decode cX9_headOf 10 = .ok (.if_icmp .ge 36, 3) := by decide +kernel
theorem dX9_headOf_13 : decode cX9_headOf 13 = .ok (.aload_n 0, 1) := by decide +kernel
theorem dX9_headOf_14 : decode cX9_headOf 14 = .ok (.getfield 114, 3) := by decide +kernel
theorem dX9_headOf_17 : decode cX9_headOf 17 = .ok (.iload_n 3, 1) := by decide +kernel
theorem dX9_headOf_18 : decode cX9_headOf 18 = .ok (.iaload, 1) := by decide +kernel
theorem dX9_headOf_19 : decode cX9_headOf 19 = .ok (.iload_n 1, 1) := by decide +kernel
theorem dX9_headOf_20 : decode cX9_headOf 20 = .ok (.if_icmp .ne 20, 3) := by decide +kernel
theorem dX9_headOf_23 : decode cX9_headOf 23 = .ok (.iload_n 2, 1) := by decide +kernel
theorem dX9_headOf_24 : decode cX9_headOf 24 = .ok (.bipush (-9), 2) := by decide +kernel
theorem dX9_headOf_26 : decode cX9_headOf 26 = .ok (.if_icmp .eq 12, 3) := by decide +kernel
theorem dX9_headOf_29 : decode cX9_headOf 29 = .ok (.aload_n 0, 1) := by decide +kernel
theorem dX9_headOf_30 : decode cX9_headOf 30 = .ok (.iload_n 3, 1) := by decide +kernel
theorem dX9_headOf_31 : decode cX9_headOf 31 = .ok (.iload_n 2, 1) := by decide +kernel
theorem dX9_headOf_32 : decode cX9_headOf 32 = .ok (.invokevirtual 159, 3) := by decide +kernel
theorem dX9_headOf_35 : decode cX9_headOf 35 = .ok (.ifCond .eq 5, 3) := by decide +kernel
theorem dX9_headOf_38 : decode cX9_headOf 38 = .ok (.iload_n 3, 1) := by decide +kernel
theorem dX9_headOf_39 : decode cX9_headOf 39 = .ok (.istore_n 2, 1) := by decide +kernel
theorem dX9_headOf_40 : decode cX9_headOf 40 = .ok (.iinc 3 1, 3) := by decide +kernel
theorem dX9_headOf_43 : decode cX9_headOf 43 = .ok (.goto (-38), 3) := by decide +kernel
theorem dX9_headOf_46 : decode cX9_headOf 46 = .ok (.iload_n 2, 1) := by decide +kernel
theorem dX9_headOf_47 : decode cX9_headOf 47 = .ok (.ireturn, 1) := by decide +kernel
theorem dX9_head_0 : decode cX9_head 0 = .ok (.aload_n 0, 1) := by decide +kernel
theorem dX9_head_1 : decode cX9_head 1 = .ok (.iload_n 1, 1) := by decide +kernel
theorem dX9_head_2 : decode cX9_head 2 = .ok (.invokevirtual 141, 3) := by decide +kernel
theorem dX9_head_5 : decode cX9_head 5 = .ok (.ifCond .ne 9, 3) := by decide +kernel
theorem dX9_head_8 : decode cX9_head 8 = .ok (.aload_n 0, 1) := by decide +kernel
theorem dX9_head_9 : decode cX9_head 9 = .ok (.iconst (-1), 1) := by decide +kernel
theorem dX9_head_10 : decode cX9_head 10 = .ok (.invokevirtual 128, 3) := by decide +kernel
theorem dX9_head_13 : decode cX9_head 13 = .ok (.ireturn, 1) := by decide +kernel
theorem dX9_head_14 : decode cX9_head 14 = .ok (.aload_n 0, 1) := by decide +kernel
theorem dX9_head_15 : decode cX9_head 15 = .ok (.aload_n 0, 1) := by decide +kernel
theorem dX9_head_16 : decode cX9_head 16 = .ok (.getfield 7, 3) := by decide +kernel
theorem dX9_head_19 : decode cX9_head 19 = .ok (.invokevirtual 155, 3) := by decide +kernel
theorem dX9_head_22 : decode cX9_head 22 = .ok (.aload_n 0, 1) := by decide +kernel
theorem dX9_head_23 : decode cX9_head 23 = .ok (.aload_n 0, 1) := by decide +kernel
theorem dX9_head_24 : decode cX9_head 24 = .ok (.getfield 114, 3) := by decide +kernel
theorem dX9_head_27 : decode cX9_head 27 = .ok (.iload_n 1, 1) := by decide +kernel
theorem dX9_head_28 : decode cX9_head 28 = .ok (.iaload, 1) := by decide +kernel
theorem dX9_head_29 : decode cX9_head 29 = .ok (.invokevirtual 162, 3) := by decide +kernel
theorem dX9_head_32 : decode cX9_head 32 = .ok (.ireturn, 1) := by decide +kernel
theorem dX9_shareOf_0 : decode cX9_shareOf 0 = .ok (.aload_n 0, 1) := by decide +kernel
theorem dX9_shareOf_1 : decode cX9_shareOf 1 = .ok (.aload_n 0, 1) := by decide +kernel
theorem dX9_shareOf_2 : decode cX9_shareOf 2 = .ok (.getfield 114, 3) := by decide +kernel
theorem dX9_shareOf_5 : decode cX9_shareOf 5 = .ok (.iload_n 1, 1) := by decide +kernel
theorem dX9_shareOf_6 : decode cX9_shareOf 6 = .ok (.iaload, 1) := by decide +kernel
theorem dX9_shareOf_7 : decode cX9_shareOf 7 = .ok (.invokevirtual 162, 3) := by decide +kernel
theorem dX9_shareOf_10 : decode cX9_shareOf 10 = .ok (.istore_n 2, 1) := by decide +kernel
theorem dX9_shareOf_11 : decode cX9_shareOf 11 = .ok (.iconst 0, 1) := by decide +kernel
theorem dX9_shareOf_12 : decode cX9_shareOf 12 = .ok (.istore_n 3, 1) := by decide +kernel
theorem dX9_shareOf_13 : decode cX9_shareOf 13 = .ok (.iconst 0, 1) := by decide +kernel
theorem dX9_shareOf_14 : decode cX9_shareOf 14 = .ok (.istore 4, 2) := by decide +kernel
theorem dX9_shareOf_16 : decode cX9_shareOf 16 = .ok (.iconst 0, 1) := by decide +kernel
theorem dX9_shareOf_17 : decode cX9_shareOf 17 = .ok (.istore 5, 2) := by decide +kernel
theorem dX9_shareOf_19 : decode cX9_shareOf 19 = .ok (.iload 5, 2) := by decide +kernel
theorem dX9_shareOf_21 : decode cX9_shareOf 21 = .ok (.aload_n 0, 1) := by decide +kernel
theorem dX9_shareOf_22 : decode cX9_shareOf 22 = .ok (.getfield 120, 3) := by decide +kernel
theorem dX9_shareOf_25 : decode cX9_shareOf 25 = .ok (.if_icmp .ge 49, 3) := by decide +kernel
theorem dX9_shareOf_28 : decode cX9_shareOf 28 = .ok (.aload_n 0, 1) := by decide +kernel
theorem dX9_shareOf_29 : decode cX9_shareOf 29 = .ok (.getfield 114, 3) := by decide +kernel
theorem dX9_shareOf_32 : decode cX9_shareOf 32 = .ok (.iload 5, 2) := by decide +kernel
theorem dX9_shareOf_34 : decode cX9_shareOf 34 = .ok (.iaload, 1) := by decide +kernel
theorem dX9_shareOf_35 : decode cX9_shareOf 35 = .ok (.aload_n 0, 1) := by decide +kernel
theorem dX9_shareOf_36 : decode cX9_shareOf 36 = .ok (.getfield 114, 3) := by decide +kernel
theorem dX9_shareOf_39 : decode cX9_shareOf 39 = .ok (.iload_n 1, 1) := by decide +kernel
theorem dX9_shareOf_40 : decode cX9_shareOf 40 = .ok (.iaload, 1) := by decide +kernel
theorem dX9_shareOf_41 : decode cX9_shareOf 41 = .ok (.if_icmp .ne 27, 3) := by decide +kernel
theorem dX9_shareOf_44 : decode cX9_shareOf 44 = .ok (.iload 5, 2) := by decide +kernel
theorem dX9_shareOf_46 : decode cX9_shareOf 46 = .ok (.iload_n 2, 1) := by decide +kernel
theorem dX9_shareOf_47 : decode cX9_shareOf 47 = .ok (.if_icmp .ne 6, 3) := by decide +kernel
theorem dX9_shareOf_50 : decode cX9_shareOf 50 = .ok (.goto 18, 3) := by decide +kernel
theorem dX9_shareOf_53 : decode cX9_shareOf 53 = .ok (.iload_n 3, 1) := by decide +kernel
theorem dX9_shareOf_54 : decode cX9_shareOf 54 = .ok (.iconst 1, 1) := by decide +kernel
theorem dX9_shareOf_55 : decode cX9_shareOf 55 = .ok (.aload_n 0, 1) := by decide +kernel
theorem dX9_shareOf_56 : decode cX9_shareOf 56 = .ok (.getfield 51, 3) := by decide +kernel
theorem dX9_shareOf_59 : decode cX9_shareOf 59 = .ok (.iload 5, 2) := by decide +kernel
theorem dX9_shareOf_61 : decode cX9_shareOf 61 = .ok (.iaload, 1) := by decide +kernel
theorem dX9_shareOf_62 : decode cX9_shareOf 62 = .ok (.iadd, 1) := by decide +kernel
theorem dX9_shareOf_63 : decode cX9_shareOf 63 = .ok (.iadd, 1) := by decide +kernel
theorem dX9_shareOf_64 : decode cX9_shareOf 64 = .ok (.istore_n 3, 1) := by decide +kernel
theorem dX9_shareOf_65 : decode cX9_shareOf 65 = .ok (.iinc 4 1, 3) := by decide +kernel
theorem dX9_shareOf_68 : decode cX9_shareOf 68 = .ok (.iinc 5 1, 3) := by decide +kernel
theorem dX9_shareOf_71 : decode cX9_shareOf 71 = .ok (.goto (-52), 3) := by decide +kernel
theorem dX9_shareOf_74 : decode cX9_shareOf 74 = .ok (.iload 4, 2) := by decide +kernel
theorem dX9_shareOf_76 : decode cX9_shareOf 76 = .ok (.ifCond .ne 7, 3) := by decide +kernel
theorem dX9_shareOf_79 : decode cX9_shareOf 79 = .ok (.sipush 1000, 3) := by decide +kernel
theorem dX9_shareOf_82 : decode cX9_shareOf 82 = .ok (.ireturn, 1) := by decide +kernel
theorem dX9_shareOf_83 : decode cX9_shareOf 83 = .ok (.iload_n 1, 1) := by decide +kernel
theorem dX9_shareOf_84 : decode cX9_shareOf 84 = .ok (.iload_n 2, 1) := by decide +kernel
theorem dX9_shareOf_85 : decode cX9_shareOf 85 = .ok (.if_icmp .eq 23, 3) := by decide +kernel
theorem dX9_shareOf_88 : decode cX9_shareOf 88 = .ok (.sipush 1000, 3) := by decide +kernel
theorem dX9_shareOf_91 : decode cX9_shareOf 91 = .ok (.aload_n 0, 1) := by decide +kernel
theorem dX9_shareOf_92 : decode cX9_shareOf 92 = .ok (.getfield 13, 3) := by decide +kernel
theorem dX9_shareOf_95 : decode cX9_shareOf 95 = .ok (.isub, 1) := by decide +kernel
theorem dX9_shareOf_96 : decode cX9_shareOf 96 = .ok (.iconst 1, 1) := by decide +kernel
theorem dX9_shareOf_97 : decode cX9_shareOf 97 = .ok (.aload_n 0, 1) := by decide +kernel
theorem dX9_shareOf_98 : decode cX9_shareOf 98 = .ok (.getfield 51, 3) := by decide +kernel
theorem dX9_shareOf_101 : decode cX9_shareOf 101 = .ok (.iload_n 1, 1) := by decide +kernel
theorem dX9_shareOf_102 : decode cX9_shareOf 102 = .ok (.iaload, 1) := by decide +kernel
theorem dX9_shareOf_103 : decode cX9_shareOf 103 = .ok (.iadd, 1) := by decide +kernel
theorem dX9_shareOf_104 : decode cX9_shareOf 104 = .ok (.imul, 1) := by decide +kernel
theorem dX9_shareOf_105 : decode cX9_shareOf 105 = .ok (.iload_n 3, 1) := by decide +kernel
theorem dX9_shareOf_106 : decode cX9_shareOf 106 = .ok (.idiv, 1) := by decide +kernel
theorem dX9_shareOf_107 : decode cX9_shareOf 107 = .ok (.ireturn, 1) := by decide +kernel
theorem dX9_shareOf_108 : decode cX9_shareOf 108 = .ok (.sipush 1000, 3) := by decide +kernel
theorem dX9_shareOf_111 : decode cX9_shareOf 111 = .ok (.istore 5, 2) := by decide +kernel
theorem dX9_shareOf_113 : decode cX9_shareOf 113 = .ok (.iconst 0, 1) := by decide +kernel
theorem dX9_shareOf_114 : decode cX9_shareOf 114 = .ok (.istore 6, 2) := by decide +kernel
theorem dX9_shareOf_116 : decode cX9_shareOf 116 = .ok (.iload 6, 2) := by decide +kernel
theorem dX9_shareOf_118 : decode cX9_shareOf 118 = .ok (.aload_n 0, 1) := by decide +kernel
theorem dX9_shareOf_119 : decode cX9_shareOf 119 = .ok (.getfield 120, 3) := by decide +kernel
theorem dX9_shareOf_122 : decode cX9_shareOf 122 = .ok (.if_icmp .ge 56, 3) := by decide +kernel
theorem dX9_shareOf_125 : decode cX9_shareOf 125 = .ok (.aload_n 0, 1) := by decide +kernel
theorem dX9_shareOf_126 : decode cX9_shareOf 126 = .ok (.getfield 114, 3) := by decide +kernel
theorem dX9_shareOf_129 : decode cX9_shareOf 129 = .ok (.iload 6, 2) := by decide +kernel
theorem dX9_shareOf_131 : decode cX9_shareOf 131 = .ok (.iaload, 1) := by decide +kernel
theorem dX9_shareOf_132 : decode cX9_shareOf 132 = .ok (.aload_n 0, 1) := by decide +kernel
theorem dX9_shareOf_133 : decode cX9_shareOf 133 = .ok (.getfield 114, 3) := by decide +kernel
theorem dX9_shareOf_136 : decode cX9_shareOf 136 = .ok (.iload_n 1, 1) := by decide +kernel
theorem dX9_shareOf_137 : decode cX9_shareOf 137 = .ok (.iaload, 1) := by decide +kernel
theorem dX9_shareOf_138 : decode cX9_shareOf 138 = .ok (.if_icmp .ne 34, 3) := by decide +kernel
theorem dX9_shareOf_141 : decode cX9_shareOf 141 = .ok (.iload 6, 2) := by decide +kernel
theorem dX9_shareOf_143 : decode cX9_shareOf 143 = .ok (.iload_n 2, 1) := by decide +kernel
theorem dX9_shareOf_144 : decode cX9_shareOf 144 = .ok (.if_icmp .eq 28, 3) := by decide +kernel
theorem dX9_shareOf_147 : decode cX9_shareOf 147 = .ok (.iload 5, 2) := by decide +kernel
theorem dX9_shareOf_149 : decode cX9_shareOf 149 = .ok (.sipush 1000, 3) := by decide +kernel
theorem dX9_shareOf_152 : decode cX9_shareOf 152 = .ok (.aload_n 0, 1) := by decide +kernel
theorem dX9_shareOf_153 : decode cX9_shareOf 153 = .ok (.getfield 13, 3) := by decide +kernel
theorem dX9_shareOf_156 : decode cX9_shareOf 156 = .ok (.isub, 1) := by decide +kernel
theorem dX9_shareOf_157 : decode cX9_shareOf 157 = .ok (.iconst 1, 1) := by decide +kernel
theorem dX9_shareOf_158 : decode cX9_shareOf 158 = .ok (.aload_n 0, 1) := by decide +kernel
theorem dX9_shareOf_159 : decode cX9_shareOf 159 = .ok (.getfield 51, 3) := by decide +kernel
theorem dX9_shareOf_162 : decode cX9_shareOf 162 = .ok (.iload 6, 2) := by decide +kernel
theorem dX9_shareOf_164 : decode cX9_shareOf 164 = .ok (.iaload, 1) := by decide +kernel
theorem dX9_shareOf_165 : decode cX9_shareOf 165 = .ok (.iadd, 1) := by decide +kernel
theorem dX9_shareOf_166 : decode cX9_shareOf 166 = .ok (.imul, 1) := by decide +kernel
theorem dX9_shareOf_167 : decode cX9_shareOf 167 = .ok (.iload_n 3, 1) := by decide +kernel
theorem dX9_shareOf_168 : decode cX9_shareOf 168 = .ok (.idiv, 1) := by decide +kernel
theorem dX9_shareOf_169 : decode cX9_shareOf 169 = .ok (.isub, 1) := by decide +kernel
theorem dX9_shareOf_170 : decode cX9_shareOf 170 = .ok (.istore 5, 2) := by decide +kernel
theorem dX9_shareOf_172 : decode cX9_shareOf 172 = .ok (.iinc 6 1, 3) := by decide +kernel
theorem dX9_shareOf_175 : decode cX9_shareOf 175 = .ok (.goto (-59), 3) := by decide +kernel
theorem dX9_shareOf_178 : decode cX9_shareOf 178 = .ok (.iload 5, 2) := by decide +kernel
theorem dX9_shareOf_180 : decode cX9_shareOf 180 = .ok (.ireturn, 1) := by decide +kernel
theorem dX9_share_0 : decode cX9_share 0 = .ok (.aload_n 0, 1) := by decide +kernel
theorem dX9_share_1 : decode cX9_share 1 = .ok (.iload_n 1, 1) := by decide +kernel
theorem dX9_share_2 : decode cX9_share 2 = .ok (.invokevirtual 141, 3) := by decide +kernel
theorem dX9_share_5 : decode cX9_share 5 = .ok (.ifCond .ne 9, 3) := by decide +kernel
theorem dX9_share_8 : decode cX9_share 8 = .ok (.aload_n 0, 1) := by decide +kernel
theorem dX9_share_9 : decode cX9_share 9 = .ok (.iconst (-1), 1) := by decide +kernel
theorem dX9_share_10 : decode cX9_share 10 = .ok (.invokevirtual 128, 3) := by decide +kernel
theorem dX9_share_13 : decode cX9_share 13 = .ok (.ireturn, 1) := by decide +kernel
theorem dX9_share_14 : decode cX9_share 14 = .ok (.aload_n 0, 1) := by decide +kernel
theorem dX9_share_15 : decode cX9_share 15 = .ok (.aload_n 0, 1) := by decide +kernel
theorem dX9_share_16 : decode cX9_share 16 = .ok (.getfield 7, 3) := by decide +kernel
theorem dX9_share_19 : decode cX9_share 19 = .ok (.invokevirtual 155, 3) := by decide +kernel
theorem dX9_share_22 : decode cX9_share 22 = .ok (.aload_n 0, 1) := by decide +kernel
theorem dX9_share_23 : decode cX9_share 23 = .ok (.iload_n 1, 1) := by decide +kernel
theorem dX9_share_24 : decode cX9_share 24 = .ok (.invokevirtual 165, 3) := by decide +kernel
theorem dX9_share_27 : decode cX9_share 27 = .ok (.ireturn, 1) := by decide +kernel
theorem dX9_judge_0 : decode cX9_judge 0 = .ok (.aload_n 0, 1) := by decide +kernel
theorem dX9_judge_1 : decode cX9_judge 1 = .ok (.iload_n 1, 1) := by decide +kernel
theorem dX9_judge_2 : decode cX9_judge 2 = .ok (.invokevirtual 132, 3) := by decide +kernel
theorem dX9_judge_5 : decode cX9_judge 5 = .ok (.ifCond .ne 9, 3) := by decide +kernel
theorem dX9_judge_8 : decode cX9_judge 8 = .ok (.aload_n 0, 1) := by decide +kernel
theorem dX9_judge_9 : decode cX9_judge 9 = .ok (.iconst (-1), 1) := by decide +kernel
theorem dX9_judge_10 : decode cX9_judge 10 = .ok (.invokevirtual 128, 3) := by decide +kernel
theorem dX9_judge_13 : decode cX9_judge 13 = .ok (.ireturn, 1) := by decide +kernel
theorem dX9_judge_14 : decode cX9_judge 14 = .ok (.aload_n 0, 1) := by decide +kernel
theorem dX9_judge_15 : decode cX9_judge 15 = .ok (.getfield 35, 3) := by decide +kernel
theorem dX9_judge_18 : decode cX9_judge 18 = .ok (.iload_n 1, 1) := by decide +kernel
theorem dX9_judge_19 : decode cX9_judge 19 = .ok (.baload, 1) := by decide +kernel
theorem dX9_judge_20 : decode cX9_judge 20 = .ok (.iload_n 2, 1) := by decide +kernel
theorem dX9_judge_21 : decode cX9_judge 21 = .ok (.if_icmp .ne 5, 3) := by decide +kernel
theorem dX9_judge_24 : decode cX9_judge 24 = .ok (.iconst 0, 1) := by decide +kernel
theorem dX9_judge_25 : decode cX9_judge 25 = .ok (.ireturn, 1) := by decide +kernel
theorem dX9_judge_26 : decode cX9_judge 26 = .ok (.aload_n 0, 1) := by decide +kernel
theorem dX9_judge_27 : decode cX9_judge 27 = .ok (.getfield 35, 3) := by decide +kernel
theorem dX9_judge_30 : decode cX9_judge 30 = .ok (.iload_n 1, 1) := by decide +kernel
theorem dX9_judge_31 : decode cX9_judge 31 = .ok (.iload_n 2, 1) := by decide +kernel
theorem dX9_judge_32 : decode cX9_judge 32 = .ok (.bastore, 1) := by decide +kernel
theorem dX9_judge_33 : decode cX9_judge 33 = .ok (.iconst 1, 1) := by decide +kernel
theorem dX9_judge_34 : decode cX9_judge 34 = .ok (.ireturn, 1) := by decide +kernel
theorem dX9_mayJudge_0 : decode cX9_mayJudge 0 = .ok (.aload_n 0, 1) := by decide +kernel
theorem dX9_mayJudge_1 : decode cX9_mayJudge 1 = .ok (.getfield 35, 3) := by decide +kernel
theorem dX9_mayJudge_4 : decode cX9_mayJudge 4 = .ok (.iload_n 1, 1) := by decide +kernel
theorem dX9_mayJudge_5 : decode cX9_mayJudge 5 = .ok (.baload, 1) := by decide +kernel
theorem dX9_mayJudge_6 : decode cX9_mayJudge 6 = .ok (.ifCond .eq 18, 3) := by decide +kernel
theorem dX9_mayJudge_9 : decode cX9_mayJudge 9 = .ok (.aload_n 0, 1) := by decide +kernel
theorem dX9_mayJudge_10 : decode cX9_mayJudge 10 = .ok (.getfield 22, 3) := by decide +kernel
theorem dX9_mayJudge_13 : decode cX9_mayJudge 13 = .ok (.iload_n 1, 1) := by decide +kernel
theorem dX9_mayJudge_14 : decode cX9_mayJudge 14 = .ok (.iaload, 1) := by decide +kernel
theorem dX9_mayJudge_15 : decode cX9_mayJudge 15 = .ok (.aload_n 0, 1) := by decide +kernel
theorem dX9_mayJudge_16 : decode cX9_mayJudge 16 = .ok (.getfield 45, 3) := by decide +kernel
theorem dX9_mayJudge_19 : decode cX9_mayJudge 19 = .ok (.iload_n 2, 1) := by decide +kernel
theorem dX9_mayJudge_20 : decode cX9_mayJudge 20 = .ok (.iaload, 1) := by decide +kernel
theorem dX9_mayJudge_21 : decode cX9_mayJudge 21 = .ok (.if_icmp .ne 5, 3) := by decide +kernel
theorem dX9_mayJudge_24 : decode cX9_mayJudge 24 = .ok (.iconst 0, 1) := by decide +kernel
theorem dX9_mayJudge_25 : decode cX9_mayJudge 25 = .ok (.ireturn, 1) := by decide +kernel
theorem dX9_mayJudge_26 : decode cX9_mayJudge 26 = .ok (.iconst 0, 1) := by decide +kernel
theorem dX9_mayJudge_27 : decode cX9_mayJudge 27 = .ok (.istore_n 3, 1) := by decide +kernel
theorem dX9_mayJudge_28 : decode cX9_mayJudge 28 = .ok (.iload_n 3, 1) := by decide +kernel
theorem dX9_mayJudge_29 : decode cX9_mayJudge 29 = .ok (.aload_n 0, 1) := by decide +kernel
theorem dX9_mayJudge_30 : decode cX9_mayJudge 30 = .ok (.getfield 120, 3) := by decide +kernel
theorem dX9_mayJudge_33 : decode cX9_mayJudge 33 = .ok (.if_icmp .ge 78, 3) := by decide +kernel
theorem dX9_mayJudge_36 : decode cX9_mayJudge 36 = .ok (.aload_n 0, 1) := by decide +kernel
theorem dX9_mayJudge_37 : decode cX9_mayJudge 37 = .ok (.getfield 114, 3) := by decide +kernel
theorem dX9_mayJudge_40 : decode cX9_mayJudge 40 = .ok (.iload_n 3, 1) := by decide +kernel
theorem dX9_mayJudge_41 : decode cX9_mayJudge 41 = .ok (.iaload, 1) := by decide +kernel
theorem dX9_mayJudge_42 : decode cX9_mayJudge 42 = .ok (.aload_n 0, 1) := by decide +kernel
theorem dX9_mayJudge_43 : decode cX9_mayJudge 43 = .ok (.getfield 114, 3) := by decide +kernel
theorem dX9_mayJudge_46 : decode cX9_mayJudge 46 = .ok (.iload_n 2, 1) := by decide +kernel
theorem dX9_mayJudge_47 : decode cX9_mayJudge 47 = .ok (.iaload, 1) := by decide +kernel
theorem dX9_mayJudge_48 : decode cX9_mayJudge 48 = .ok (.if_icmp .eq 6, 3) := by decide +kernel
theorem dX9_mayJudge_51 : decode cX9_mayJudge 51 = .ok (.goto 54, 3) := by decide +kernel
theorem dX9_mayJudge_54 : decode cX9_mayJudge 54 = .ok (.iconst 0, 1) := by decide +kernel
theorem dX9_mayJudge_55 : decode cX9_mayJudge 55 = .ok (.istore 4, 2) := by decide +kernel
theorem dX9_mayJudge_57 : decode cX9_mayJudge 57 = .ok (.iload 4, 2) := by decide +kernel
theorem dX9_mayJudge_59 : decode cX9_mayJudge 59 = .ok (.aload_n 0, 1) := by decide +kernel
theorem dX9_mayJudge_60 : decode cX9_mayJudge 60 = .ok (.getfield 117, 3) := by decide +kernel
theorem dX9_mayJudge_63 : decode cX9_mayJudge 63 = .ok (.if_icmp .ge 42, 3) := by decide +kernel
theorem dX9_mayJudge_66 : decode cX9_mayJudge 66 = .ok (.aload_n 0, 1) := by decide +kernel
theorem dX9_mayJudge_67 : decode cX9_mayJudge 67 = .ok (.iload_n 3, 1) := by decide +kernel
theorem dX9_mayJudge_68 : decode cX9_mayJudge 68 = .ok (.iload 4, 2) := by decide +kernel
theorem dX9_mayJudge_70 : decode cX9_mayJudge 70 = .ok (.invokevirtual 144, 3) := by decide +kernel
theorem dX9_mayJudge_73 : decode cX9_mayJudge 73 = .ok (.ifCond .eq 26, 3) := by decide +kernel
theorem dX9_mayJudge_76 : decode cX9_mayJudge 76 = .ok (.iload 4, 2) := by decide +kernel
theorem dX9_mayJudge_78 : decode cX9_mayJudge 78 = .ok (.iload_n 1, 1) := by decide +kernel
theorem dX9_mayJudge_79 : decode cX9_mayJudge 79 = .ok (.if_icmp .eq 18, 3) := by decide +kernel
theorem dX9_mayJudge_82 : decode cX9_mayJudge 82 = .ok (.aload_n 0, 1) := by decide +kernel
theorem dX9_mayJudge_83 : decode cX9_mayJudge 83 = .ok (.getfield 39, 3) := by decide +kernel
theorem dX9_mayJudge_86 : decode cX9_mayJudge 86 = .ok (.bipush 40, 2) := by decide +kernel
theorem dX9_mayJudge_88 : decode cX9_mayJudge 88 = .ok (.iload 4, 2) := by decide +kernel
theorem dX9_mayJudge_90 : decode cX9_mayJudge 90 = .ok (.imul, 1) := by decide +kernel
theorem dX9_mayJudge_91 : decode cX9_mayJudge 91 = .ok (.iload_n 1, 1) := by decide +kernel
theorem dX9_mayJudge_92 : decode cX9_mayJudge 92 = .ok (.iadd, 1) := by decide +kernel
theorem dX9_mayJudge_93 : decode cX9_mayJudge 93 = .ok (.baload, 1) := by decide +kernel
theorem dX9_mayJudge_94 : decode cX9_mayJudge 94 = .ok (.ifCond .eq 5, 3) := by decide +kernel
theorem dX9_mayJudge_97 : decode cX9_mayJudge 97 = .ok (.iconst 0, 1) := by decide +kernel
theorem dX9_mayJudge_98 : decode cX9_mayJudge 98 = .ok (.ireturn, 1) := by decide +kernel
theorem dX9_mayJudge_99 : decode cX9_mayJudge 99 = .ok (.iinc 4 1, 3) := by decide +kernel
theorem dX9_mayJudge_102 : decode cX9_mayJudge 102 = .ok (.goto (-45), 3) := by decide +kernel
theorem dX9_mayJudge_105 : decode cX9_mayJudge 105 = .ok (.iinc 3 1, 3) := by decide +kernel
theorem dX9_mayJudge_108 : decode cX9_mayJudge 108 = .ok (.goto (-80), 3) := by decide +kernel
theorem dX9_mayJudge_111 : decode cX9_mayJudge 111 = .ok (.iconst 1, 1) := by decide +kernel
theorem dX9_mayJudge_112 : decode cX9_mayJudge 112 = .ok (.ireturn, 1) := by decide +kernel
theorem dX9_may_0 : decode cX9_may 0 = .ok (.aload_n 0, 1) := by decide +kernel
theorem dX9_may_1 : decode cX9_may 1 = .ok (.iload_n 1, 1) := by decide +kernel
theorem dX9_may_2 : decode cX9_may 2 = .ok (.invokevirtual 132, 3) := by decide +kernel
theorem dX9_may_5 : decode cX9_may 5 = .ok (.ifCond .eq 11, 3) := by decide +kernel
theorem dX9_may_8 : decode cX9_may 8 = .ok (.aload_n 0, 1) := by decide +kernel
theorem dX9_may_9 : decode cX9_may 9 = .ok (.iload_n 2, 1) := by decide +kernel
theorem dX9_may_10 : decode cX9_may 10 = .ok (.invokevirtual 141, 3) := by decide +kernel
theorem dX9_may_13 : decode cX9_may 13 = .ok (.ifCond .ne 9, 3) := by decide +kernel
theorem dX9_may_16 : decode cX9_may 16 = .ok (.aload_n 0, 1) := by decide +kernel
theorem dX9_may_17 : decode cX9_may 17 = .ok (.iconst (-1), 1) := by decide +kernel
theorem dX9_may_18 : decode cX9_may 18 = .ok (.invokevirtual 128, 3) := by decide +kernel
theorem dX9_may_21 : decode cX9_may 21 = .ok (.ireturn, 1) := by decide +kernel
theorem dX9_may_22 : decode cX9_may 22 = .ok (.aload_n 0, 1) := by decide +kernel
theorem dX9_may_23 : decode cX9_may 23 = .ok (.aload_n 0, 1) := by decide +kernel
theorem dX9_may_24 : decode cX9_may 24 = .ok (.getfield 7, 3) := by decide +kernel
theorem dX9_may_27 : decode cX9_may 27 = .ok (.invokevirtual 155, 3) := by decide +kernel
theorem dX9_may_30 : decode cX9_may 30 = .ok (.aload_n 0, 1) := by decide +kernel
theorem dX9_may_31 : decode cX9_may 31 = .ok (.iload_n 1, 1) := by decide +kernel
theorem dX9_may_32 : decode cX9_may 32 = .ok (.iload_n 2, 1) := by decide +kernel
theorem dX9_may_33 : decode cX9_may 33 = .ok (.invokevirtual 168, 3) := by decide +kernel
theorem dX9_may_36 : decode cX9_may 36 = .ok (.ifCond .eq 7, 3) := by decide +kernel
theorem dX9_may_39 : decode cX9_may 39 = .ok (.iconst 1, 1) := by decide +kernel
theorem dX9_may_40 : decode cX9_may 40 = .ok (.goto 4, 3) := by decide +kernel
theorem dX9_may_43 : decode cX9_may 43 = .ok (.iconst 0, 1) := by decide +kernel
theorem dX9_may_44 : decode cX9_may 44 = .ok (.ireturn, 1) := by decide +kernel
theorem dX9_nextJudge_0 : decode cX9_nextJudge 0 = .ok (.bipush (-9), 2) := by decide +kernel
theorem dX9_nextJudge_2 : decode cX9_nextJudge 2 = .ok (.istore 4, 2) := by decide +kernel
theorem dX9_nextJudge_4 : decode cX9_nextJudge 4 = .ok (.iconst 0, 1) := by decide +kernel
theorem dX9_nextJudge_5 : decode cX9_nextJudge 5 = .ok (.istore 5, 2) := by decide +kernel
theorem dX9_nextJudge_7 : decode cX9_nextJudge 7 = .ok (.iload 5, 2) := by decide +kernel
theorem dX9_nextJudge_9 : decode cX9_nextJudge 9 = .ok (.aload_n 0, 1) := by decide +kernel
theorem dX9_nextJudge_10 : decode cX9_nextJudge 10 = .ok (.getfield 117, 3) := by decide +kernel
theorem dX9_nextJudge_13 : decode cX9_nextJudge 13 = .ok (.if_icmp .ge 59, 3) := by decide +kernel
theorem dX9_nextJudge_16 : decode cX9_nextJudge 16 = .ok (.iload 5, 2) := by decide +kernel
theorem dX9_nextJudge_18 : decode cX9_nextJudge 18 = .ok (.iload_n 2, 1) := by decide +kernel
theorem dX9_nextJudge_19 : decode cX9_nextJudge 19 = .ok (.if_icmp .eq 47, 3) := by decide +kernel
theorem dX9_nextJudge_22 : decode cX9_nextJudge 22 = .ok (.iload 5, 2) := by decide +kernel
theorem dX9_nextJudge_24 : decode cX9_nextJudge 24 = .ok (.iload_n 3, 1) := by decide +kernel
theorem dX9_nextJudge_25 : decode cX9_nextJudge 25 = .ok (.if_icmp .eq 41, 3) := by decide +kernel
theorem dX9_nextJudge_28 : decode cX9_nextJudge 28 = .ok (.aload_n 0, 1) := by decide +kernel
theorem dX9_nextJudge_29 : decode cX9_nextJudge 29 = .ok (.iload 5, 2) := by decide +kernel
theorem dX9_nextJudge_31 : decode cX9_nextJudge 31 = .ok (.iload_n 1, 1) := by decide +kernel
theorem dX9_nextJudge_32 : decode cX9_nextJudge 32 = .ok (.invokevirtual 168, 3) := by decide +kernel
theorem dX9_nextJudge_35 : decode cX9_nextJudge 35 = .ok (.ifCond .eq 31, 3) := by decide +kernel
theorem dX9_nextJudge_38 : decode cX9_nextJudge 38 = .ok (.iload 4, 2) := by decide +kernel
theorem dX9_nextJudge_40 : decode cX9_nextJudge 40 = .ok (.bipush (-9), 2) := by decide +kernel
theorem dX9_nextJudge_42 : decode cX9_nextJudge 42 = .ok (.if_icmp .eq 20, 3) := by decide +kernel
theorem dX9_nextJudge_45 : decode cX9_nextJudge 45 = .ok (.aload_n 0, 1) := by decide +kernel
theorem dX9_nextJudge_46 : decode cX9_nextJudge 46 = .ok (.getfield 26, 3) := by decide +kernel
theorem dX9_nextJudge_49 : decode cX9_nextJudge 49 = .ok (.iload 5, 2) := by decide +kernel
theorem dX9_nextJudge_51 : decode cX9_nextJudge 51 = .ok (.iaload, 1) := by decide +kernel
theorem dX9_nextJudge_52 : decode cX9_nextJudge 52 = .ok (.aload_n 0, 1) := by decide +kernel
theorem dX9_nextJudge_53 : decode cX9_nextJudge 53 = .ok (.getfield 26, 3) := by decide +kernel
theorem dX9_nextJudge_56 : decode cX9_nextJudge 56 = .ok (.iload 4, 2) := by decide +kernel
theorem dX9_nextJudge_58 : decode cX9_nextJudge 58 = .ok (.iaload, 1) := by decide +kernel
theorem dX9_nextJudge_59 : decode cX9_nextJudge 59 = .ok (.if_icmp .ge 7, 3) := by decide +kernel
theorem dX9_nextJudge_62 : decode cX9_nextJudge 62 = .ok (.iload 5, 2) := by decide +kernel
theorem dX9_nextJudge_64 : decode cX9_nextJudge 64 = .ok (.istore 4, 2) := by decide +kernel
theorem dX9_nextJudge_66 : decode cX9_nextJudge 66 = .ok (.iinc 5 1, 3) := by decide +kernel
theorem dX9_nextJudge_69 : decode cX9_nextJudge 69 = .ok (.goto (-62), 3) := by decide +kernel
theorem dX9_nextJudge_72 : decode cX9_nextJudge 72 = .ok (.iload 4, 2) := by decide +kernel
theorem dX9_nextJudge_74 : decode cX9_nextJudge 74 = .ok (.ireturn, 1) := by decide +kernel
theorem dX9_judgeOf_0 : decode cX9_judgeOf 0 = .ok (.aload_n 0, 1) := by decide +kernel
theorem dX9_judgeOf_1 : decode cX9_judgeOf 1 = .ok (.iload_n 1, 1) := by decide +kernel
theorem dX9_judgeOf_2 : decode cX9_judgeOf 2 = .ok (.invokevirtual 141, 3) := by decide +kernel
theorem dX9_judgeOf_5 : decode cX9_judgeOf 5 = .ok (.ifCond .eq 12, 3) := by decide +kernel
theorem dX9_judgeOf_8 : decode cX9_judgeOf 8 = .ok (.iload_n 2, 1) := by decide +kernel
theorem dX9_judgeOf_9 : decode cX9_judgeOf 9 = .ok (.ifCond .lt 8, 3) := by decide +kernel
theorem dX9_judgeOf_12 : decode cX9_judgeOf 12 = .ok (.iload_n 2, 1) := by decide +kernel
theorem dX9_judgeOf_13 : decode cX9_judgeOf 13 = .ok (.iconst 1, 1) := by decide +kernel
theorem dX9_judgeOf_14 : decode cX9_judgeOf 14 = .ok (.if_icmp .le 9, 3) := by decide +kernel
theorem dX9_judgeOf_17 : decode cX9_judgeOf 17 = .ok (.aload_n 0, 1) := by decide +kernel
theorem dX9_judgeOf_18 : decode cX9_judgeOf 18 = .ok (.iconst (-1), 1) := by decide +kernel
theorem dX9_judgeOf_19 : decode cX9_judgeOf 19 = .ok (.invokevirtual 128, 3) := by decide +kernel
theorem dX9_judgeOf_22 : decode cX9_judgeOf 22 = .ok (.ireturn, 1) := by decide +kernel
theorem dX9_judgeOf_23 : decode cX9_judgeOf 23 = .ok (.aload_n 0, 1) := by decide +kernel
theorem dX9_judgeOf_24 : decode cX9_judgeOf 24 = .ok (.aload_n 0, 1) := by decide +kernel
theorem dX9_judgeOf_25 : decode cX9_judgeOf 25 = .ok (.getfield 7, 3) := by decide +kernel
theorem dX9_judgeOf_28 : decode cX9_judgeOf 28 = .ok (.invokevirtual 155, 3) := by decide +kernel
theorem dX9_judgeOf_31 : decode cX9_judgeOf 31 = .ok (.aload_n 0, 1) := by decide +kernel
theorem dX9_judgeOf_32 : decode cX9_judgeOf 32 = .ok (.iload_n 1, 1) := by decide +kernel
theorem dX9_judgeOf_33 : decode cX9_judgeOf 33 = .ok (.bipush (-9), 2) := by decide +kernel
theorem dX9_judgeOf_35 : decode cX9_judgeOf 35 = .ok (.bipush (-9), 2) := by decide +kernel
theorem dX9_judgeOf_37 : decode cX9_judgeOf 37 = .ok (.invokevirtual 171, 3) := by decide +kernel
theorem dX9_judgeOf_40 : decode cX9_judgeOf 40 = .ok (.istore_n 3, 1) := by decide +kernel
theorem dX9_judgeOf_41 : decode cX9_judgeOf 41 = .ok (.iload_n 3, 1) := by decide +kernel
theorem dX9_judgeOf_42 : decode cX9_judgeOf 42 = .ok (.bipush (-9), 2) := by decide +kernel
theorem dX9_judgeOf_44 : decode cX9_judgeOf 44 = .ok (.if_icmp .ne 8, 3) := by decide +kernel
theorem dX9_judgeOf_47 : decode cX9_judgeOf 47 = .ok (.bipush (-9), 2) := by decide +kernel
theorem dX9_judgeOf_49 : decode cX9_judgeOf 49 = .ok (.goto 11, 3) := by decide +kernel
theorem dX9_judgeOf_52 : decode cX9_judgeOf 52 = .ok (.aload_n 0, 1) := by decide +kernel
theorem dX9_judgeOf_53 : decode cX9_judgeOf 53 = .ok (.iload_n 1, 1) := by decide +kernel
theorem dX9_judgeOf_54 : decode cX9_judgeOf 54 = .ok (.iload_n 3, 1) := by decide +kernel
theorem dX9_judgeOf_55 : decode cX9_judgeOf 55 = .ok (.bipush (-9), 2) := by decide +kernel
theorem dX9_judgeOf_57 : decode cX9_judgeOf 57 = .ok (.invokevirtual 171, 3) := by decide +kernel
theorem dX9_judgeOf_60 : decode cX9_judgeOf 60 = .ok (.istore 4, 2) := by decide +kernel
theorem dX9_judgeOf_62 : decode cX9_judgeOf 62 = .ok (.iload 4, 2) := by decide +kernel
theorem dX9_judgeOf_64 : decode cX9_judgeOf 64 = .ok (.bipush (-9), 2) := by decide +kernel
theorem dX9_judgeOf_66 : decode cX9_judgeOf 66 = .ok (.if_icmp .ne 6, 3) := by decide +kernel
theorem dX9_judgeOf_69 : decode cX9_judgeOf 69 = .ok (.bipush (-9), 2) := by decide +kernel
theorem dX9_judgeOf_71 : decode cX9_judgeOf 71 = .ok (.ireturn, 1) := by decide +kernel
theorem dX9_judgeOf_72 : decode cX9_judgeOf 72 = .ok (.iload_n 2, 1) := by decide +kernel
theorem dX9_judgeOf_73 : decode cX9_judgeOf 73 = .ok (.ifCond .ne 7, 3) := by decide +kernel
theorem dX9_judgeOf_76 : decode cX9_judgeOf 76 = .ok (.iload_n 3, 1) := by decide +kernel
theorem dX9_judgeOf_77 : decode cX9_judgeOf 77 = .ok (.goto 5, 3) := by decide +kernel
theorem dX9_judgeOf_80 : decode cX9_judgeOf 80 = .ok (.iload 4, 2) := by decide +kernel
theorem dX9_judgeOf_82 : decode cX9_judgeOf 82 = .ok (.ireturn, 1) := by decide +kernel
theorem dX9_delay_0 : decode cX9_delay 0 = .ok (.aload_n 0, 1) := by decide +kernel
theorem dX9_delay_1 : decode cX9_delay 1 = .ok (.getfield 138, 3) := by decide +kernel
theorem dX9_delay_4 : decode cX9_delay 4 = .ok (.aload_n 0, 1) := by decide +kernel
theorem dX9_delay_5 : decode cX9_delay 5 = .ok (.getfield 54, 3) := by decide +kernel
theorem dX9_delay_8 : decode cX9_delay 8 = .ok (.iload_n 1, 1) := by decide +kernel
theorem dX9_delay_9 : decode cX9_delay 9 = .ok (.iaload, 1) := by decide +kernel
theorem dX9_delay_10 : decode cX9_delay 10 = .ok (.isub, 1) := by decide +kernel
theorem dX9_delay_11 : decode cX9_delay 11 = .ok (.aload_n 0, 1) := by decide +kernel
theorem dX9_delay_12 : decode cX9_delay 12 = .ok (.getfield 16, 3) := by decide +kernel
theorem dX9_delay_15 : decode cX9_delay 15 = .ok (.isub, 1) := by decide +kernel
theorem dX9_delay_16 : decode cX9_delay 16 = .ok (.istore_n 2, 1) := by decide +kernel
theorem dX9_delay_17 : decode cX9_delay 17 = .ok (.iload_n 2, 1) := by decide +kernel
theorem dX9_delay_18 : decode cX9_delay 18 = .ok (.ifCond .le 12, 3) := by decide +kernel
theorem dX9_delay_21 : decode cX9_delay 21 = .ok (.iload_n 2, 1) := by decide +kernel
theorem dX9_delay_22 : decode cX9_delay 22 = .ok (.aload_n 0, 1) := by decide +kernel
theorem dX9_delay_23 : decode cX9_delay 23 = .ok (.getfield 19, 3) := by decide +kernel
theorem dX9_delay_26 : decode cX9_delay 26 = .ok (.imul, 1) := by decide +kernel
theorem dX9_delay_27 : decode cX9_delay 27 = .ok (.goto 4, 3) := by decide +kernel
theorem dX9_delay_30 : decode cX9_delay 30 = .ok (.iconst 0, 1) := by decide +kernel
theorem dX9_delay_31 : decode cX9_delay 31 = .ok (.istore_n 3, 1) := by decide +kernel
theorem dX9_delay_32 : decode cX9_delay 32 = .ok (.aload_n 0, 1) := by decide +kernel
theorem dX9_delay_33 : decode cX9_delay 33 = .ok (.getfield 32, 3) := by decide +kernel
theorem dX9_delay_36 : decode cX9_delay 36 = .ok (.aload_n 0, 1) := by decide +kernel
theorem dX9_delay_37 : decode cX9_delay 37 = .ok (.getfield 42, 3) := by decide +kernel
theorem dX9_delay_40 : decode cX9_delay 40 = .ok (.iload_n 1, 1) := by decide +kernel
theorem dX9_delay_41 : decode cX9_delay 41 = .ok (.iaload, 1) := by decide +kernel
theorem dX9_delay_42 : decode cX9_delay 42 = .ok (.dup2, 1) := by decide +kernel
theorem dX9_delay_43 : decode cX9_delay 43 = .ok (.iaload, 1) := by decide +kernel
theorem dX9_delay_44 : decode cX9_delay 44 = .ok (.iload_n 3, 1) := by decide +kernel
theorem dX9_delay_45 : decode cX9_delay 45 = .ok (.iadd, 1) := by decide +kernel
theorem dX9_delay_46 : decode cX9_delay 46 = .ok (.iastore, 1) := by decide +kernel
theorem dX9_delay_47 : decode cX9_delay 47 = .ok (.aload_n 0, 1) := by decide +kernel
theorem dX9_delay_48 : decode cX9_delay 48 = .ok (.dup, 1) := by decide +kernel
theorem dX9_delay_49 : decode cX9_delay 49 = .ok (.getfield 175, 3) := by decide +kernel
theorem dX9_delay_52 : decode cX9_delay 52 = .ok (.iload_n 3, 1) := by decide +kernel
theorem dX9_delay_53 : decode cX9_delay 53 = .ok (.iadd, 1) := by decide +kernel
theorem dX9_delay_54 : decode cX9_delay 54 = .ok (.putfield 175, 3) := by decide +kernel
theorem dX9_delay_57 : decode cX9_delay 57 = .ok (.iload_n 3, 1) := by decide +kernel
theorem dX9_delay_58 : decode cX9_delay 58 = .ok (.ireturn, 1) := by decide +kernel
theorem dX9_settles_0 : decode cX9_settles 0 = .ok (.aload_n 0, 1) := by decide +kernel
theorem dX9_settles_1 : decode cX9_settles 1 = .ok (.getfield 57, 3) := by decide +kernel
theorem dX9_settles_4 : decode cX9_settles 4 = .ok (.iload_n 1, 1) := by decide +kernel
theorem dX9_settles_5 : decode cX9_settles 5 = .ok (.iload_n 2, 1) := by decide +kernel
theorem dX9_settles_6 : decode cX9_settles 6 = .ok (.iastore, 1) := by decide +kernel
theorem dX9_settles_7 : decode cX9_settles 7 = .ok (.aload_n 0, 1) := by decide +kernel
theorem dX9_settles_8 : decode cX9_settles 8 = .ok (.getfield 60, 3) := by decide +kernel
theorem dX9_settles_11 : decode cX9_settles 11 = .ok (.iload_n 1, 1) := by decide +kernel
theorem dX9_settles_12 : decode cX9_settles 12 = .ok (.aload_n 0, 1) := by decide +kernel
theorem dX9_settles_13 : decode cX9_settles 13 = .ok (.getfield 138, 3) := by decide +kernel
theorem dX9_settles_16 : decode cX9_settles 16 = .ok (.iastore, 1) := by decide +kernel
theorem dX9_settles_17 : decode cX9_settles 17 = .ok (.aload_n 0, 1) := by decide +kernel
theorem dX9_settles_18 : decode cX9_settles 18 = .ok (.iload_n 1, 1) := by decide +kernel
theorem dX9_settles_19 : decode cX9_settles 19 = .ok (.invokevirtual 178, 3) := by decide +kernel
theorem dX9_settles_22 : decode cX9_settles 22 = .ok (.ireturn, 1) := by decide +kernel
theorem dX9_decide_0 : decode cX9_decide 0 = .ok (.aload_n 0, 1) := by decide +kernel
theorem dX9_decide_1 : decode cX9_decide 1 = .ok (.iload_n 1, 1) := by decide +kernel
theorem dX9_decide_2 : decode cX9_decide 2 = .ok (.invokevirtual 141, 3) := by decide +kernel
theorem dX9_decide_5 : decode cX9_decide 5 = .ok (.ifCond .ne 9, 3) := by decide +kernel
theorem dX9_decide_8 : decode cX9_decide 8 = .ok (.aload_n 0, 1) := by decide +kernel
theorem dX9_decide_9 : decode cX9_decide 9 = .ok (.iconst (-1), 1) := by decide +kernel
theorem dX9_decide_10 : decode cX9_decide 10 = .ok (.invokevirtual 128, 3) := by decide +kernel
theorem dX9_decide_13 : decode cX9_decide 13 = .ok (.ireturn, 1) := by decide +kernel
theorem dX9_decide_14 : decode cX9_decide 14 = .ok (.aload_n 0, 1) := by decide +kernel
theorem dX9_decide_15 : decode cX9_decide 15 = .ok (.aload_n 0, 1) := by decide +kernel
theorem dX9_decide_16 : decode cX9_decide 16 = .ok (.getfield 7, 3) := by decide +kernel
theorem dX9_decide_19 : decode cX9_decide 19 = .ok (.invokevirtual 155, 3) := by decide +kernel
theorem dX9_decide_22 : decode cX9_decide 22 = .ok (.aload_n 0, 1) := by decide +kernel
theorem dX9_decide_23 : decode cX9_decide 23 = .ok (.iload_n 1, 1) := by decide +kernel
theorem dX9_decide_24 : decode cX9_decide 24 = .ok (.bipush (-9), 2) := by decide +kernel
theorem dX9_decide_26 : decode cX9_decide 26 = .ok (.bipush (-9), 2) := by decide +kernel
theorem dX9_decide_28 : decode cX9_decide 28 = .ok (.invokevirtual 171, 3) := by decide +kernel
theorem dX9_decide_31 : decode cX9_decide 31 = .ok (.istore 5, 2) := by decide +kernel
theorem dX9_decide_33 : decode cX9_decide 33 = .ok (.iload 5, 2) := by decide +kernel
theorem dX9_decide_35 : decode cX9_decide 35 = .ok (.bipush (-9), 2) := by decide +kernel
theorem dX9_decide_37 : decode cX9_decide 37 = .ok (.if_icmp .ne 8, 3) := by decide +kernel
theorem dX9_decide_40 : decode cX9_decide 40 = .ok (.bipush (-9), 2) := by decide +kernel
theorem dX9_decide_42 : decode cX9_decide 42 = .ok (.goto 12, 3) := by decide +kernel
theorem dX9_decide_45 : decode cX9_decide 45 = .ok (.aload_n 0, 1) := by decide +kernel
