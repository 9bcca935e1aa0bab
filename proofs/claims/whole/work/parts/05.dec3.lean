theorem dX4_init_0 : decode cX4_init 0 = .ok (.aload_n 0, 1) := by decide +kernel
theorem dX4_init_1 : decode cX4_init 1 = .ok (.invokespecial 1, 3) := by decide +kernel
theorem dX4_init_4 : decode cX4_init 4 = .ok (.aload_n 0, 1) := by decide +kernel
theorem dX4_init_5 : decode cX4_init 5 = .ok (.bipush 120, 2) := by decide +kernel
theorem dX4_init_7 : decode cX4_init 7 = .ok (.newarray .int, 2) := by decide +kernel
theorem dX4_init_9 : decode cX4_init 9 = .ok (.putfield 9, 3) := by decide +kernel
theorem dX4_init_12 : decode cX4_init 12 = .ok (.aload_n 0, 1) := by decide +kernel
theorem dX4_init_13 : decode cX4_init 13 = .ok (.bipush 120, 2) := by decide +kernel
theorem dX4_init_15 : decode cX4_init 15 = .ok (.newarray .int, 2) := by decide +kernel
theorem dX4_init_17 : decode cX4_init 17 = .ok (.putfield 13, 3) := by decide +kernel
theorem dX4_init_20 : decode cX4_init 20 = .ok (.aload_n 0, 1) := by decide +kernel
theorem dX4_init_21 : decode cX4_init 21 = .ok (.bipush 120, 2) := by decide +kernel
theorem dX4_init_23 : decode cX4_init 23 = .ok (.newarray .int, 2) := by decide +kernel
theorem dX4_init_25 : decode cX4_init 25 = .ok (.putfield 16, 3) := by decide +kernel
theorem dX4_init_28 : decode cX4_init 28 = .ok (.aload_n 0, 1) := by decide +kernel
theorem dX4_init_29 : decode cX4_init 29 = .ok (.bipush 120, 2) := by decide +kernel
theorem dX4_init_31 : decode cX4_init 31 = .ok (.newarray .int, 2) := by decide +kernel
theorem dX4_init_33 : decode cX4_init 33 = .ok (.putfield 19, 3) := by decide +kernel
theorem dX4_init_36 : decode cX4_init 36 = .ok (.aload_n 0, 1) := by decide +kernel
theorem dX4_init_37 : decode cX4_init 37 = .ok (.bipush 120, 2) := by decide +kernel
theorem dX4_init_39 : decode cX4_init 39 = .ok (.newarray .float, 2) := by decide +kernel
theorem dX4_init_41 : decode cX4_init 41 = .ok (.putfield 22, 3) := by decide +kernel
theorem dX4_init_44 : decode cX4_init 44 = .ok (.aload_n 0, 1) := by decide +kernel
theorem dX4_init_45 : decode cX4_init 45 = .ok (.bipush 120, 2) := by decide +kernel
theorem dX4_init_47 : decode cX4_init 47 = .ok (.newarray .int, 2) := by decide +kernel
theorem dX4_init_49 : decode cX4_init 49 = .ok (.putfield 26, 3) := by decide +kernel
theorem dX4_init_52 : decode cX4_init 52 = .ok (.aload_n 0, 1) := by decide +kernel
theorem dX4_init_53 : decode cX4_init 53 = .ok (.sipush 1080, 3) := by decide +kernel
theorem dX4_init_56 : decode cX4_init 56 = .ok (.newarray .int, 2) := by decide +kernel
theorem dX4_init_58 : decode cX4_init 58 = .ok (.putfield 29, 3) := by decide +kernel
theorem dX4_init_61 : decode cX4_init 61 = .ok (.aload_n 0, 1) := by decide +kernel
theorem dX4_init_62 : decode cX4_init 62 = .ok (.bipush 120, 2) := by decide +kernel
theorem dX4_init_64 : decode cX4_init 64 = .ok (.newarray .int, 2) := by decide +kernel
theorem dX4_init_66 : decode cX4_init 66 = .ok (.putfield 32, 3) := by decide +kernel
theorem dX4_init_69 : decode cX4_init 69 = .ok (.aload_n 0, 1) := by decide +kernel
theorem dX4_init_70 : decode cX4_init 70 = .ok (.bipush 120, 2) := by decide +kernel
theorem dX4_init_72 : decode cX4_init 72 = .ok (.newarray .int, 2) := by decide +kernel
theorem dX4_init_74 : decode cX4_init 74 = .ok (.putfield 35, 3) := by decide +kernel
theorem dX4_init_77 : decode cX4_init 77 = .ok (.aload_n 0, 1) := by decide +kernel
theorem dX4_init_78 : decode cX4_init 78 = .ok (.bipush 120, 2) := by decide +kernel
theorem dX4_init_80 : decode cX4_init 80 = .ok (.newarray .int, 2) := by decide +kernel
theorem dX4_init_82 : decode cX4_init 82 = .ok (.putfield 38, 3) := by decide +kernel
theorem dX4_init_85 : decode cX4_init 85 = .ok (.aload_n 0, 1) := by decide +kernel
theorem dX4_init_86 : decode cX4_init 86 = .ok (.sipush 960, 3) := by decide +kernel
theorem dX4_init_89 : decode cX4_init 89 = .ok (.newarray .boolean, 2) := by decide +kernel
theorem dX4_init_91 : decode cX4_init 91 = .ok (.putfield 41, 3) := by decide +kernel
theorem dX4_init_94 : decode cX4_init 94 = .ok (.aload_n 0, 1) := by decide +kernel
theorem dX4_init_95 : decode cX4_init 95 = .ok (.sipush 960, 3) := by decide +kernel
theorem dX4_init_98 : decode cX4_init 98 = .ok (.newarray .int, 2) := by decide +kernel
theorem dX4_init_100 : decode cX4_init 100 = .ok (.putfield 45, 3) := by decide +kernel
theorem dX4_init_103 : decode cX4_init 103 = .ok (.aload_n 0, 1) := by decide +kernel
theorem dX4_init_104 : decode cX4_init 104 = .ok (.sipush 960, 3) := by decide +kernel
theorem dX4_init_107 : decode cX4_init 107 = .ok (.newarray .int, 2) := by decide +kernel
theorem dX4_init_109 : decode cX4_init 109 = .ok (.putfield 48, 3) := by decide +kernel
theorem dX4_init_112 : decode cX4_init 112 = .ok (.aload_n 0, 1) := by decide +kernel
theorem dX4_init_113 : decode cX4_init 113 = .ok (.sipush 960, 3) := by decide +kernel
theorem dX4_init_116 : decode cX4_init 116 = .ok (.newarray .float, 2) := by decide +kernel
theorem dX4_init_118 : decode cX4_init 118 = .ok (.putfield 51, 3) := by decide +kernel
theorem dX4_init_121 : decode cX4_init 121 = .ok (.aload_n 0, 1) := by decide +kernel
theorem dX4_init_122 : decode cX4_init 122 = .ok (.bipush 9, 2) := by decide +kernel
theorem dX4_init_124 : decode cX4_init 124 = .ok (.newarray .int, 2) := by decide +kernel
theorem dX4_init_126 : decode cX4_init 126 = .ok (.putfield 54, 3) := by decide +kernel
theorem dX4_init_129 : decode cX4_init 129 = .ok (.aload_n 0, 1) := by decide +kernel
theorem dX4_init_130 : decode cX4_init 130 = .ok (.bipush 6, 2) := by decide +kernel
theorem dX4_init_132 : decode cX4_init 132 = .ok (.newarray .int, 2) := by decide +kernel
theorem dX4_init_134 : decode cX4_init 134 = .ok (.putfield 57, 3) := by decide +kernel
theorem dX4_init_137 : decode cX4_init 137 = .ok (.aload_n 0, 1) := by decide +kernel
theorem dX4_init_138 : decode cX4_init 138 = .ok (.bipush 6, 2) := by decide +kernel
theorem dX4_init_140 : decode cX4_init 140 = .ok (.newarray .int, 2) := by decide +kernel
theorem dX4_init_142 : decode cX4_init 142 = .ok (.putfield 60, 3) := by decide +kernel
theorem dX4_init_145 : decode cX4_init 145 = .ok (.aload_n 0, 1) := by decide +kernel
theorem dX4_init_146 : decode cX4_init 146 = .ok (.bipush 6, 2) := by decide +kernel
theorem dX4_init_148 : decode cX4_init 148 = .ok (.newarray .float, 2) := by decide +kernel
theorem dX4_init_150 : decode cX4_init 150 = .ok (.putfield 63, 3) := by decide +kernel
theorem dX4_init_153 : decode cX4_init 153 = .ok (.aload_n 0, 1) := by decide +kernel
theorem dX4_init_154 : decode cX4_init 154 = .ok (.bipush 6, 2) := by decide +kernel
theorem dX4_init_156 : decode cX4_init 156 = .ok (.newarray .int, 2) := by decide +kernel
theorem dX4_init_158 : decode cX4_init 158 = .ok (.putfield 66, 3) := by decide +kernel
theorem dX4_init_161 : decode cX4_init 161 = .ok (.aload_n 0, 1) := by decide +kernel
theorem dX4_init_162 : decode cX4_init 162 = .ok (.bipush 6, 2) := by decide +kernel
theorem dX4_init_164 : decode cX4_init 164 = .ok (.newarray .int, 2) := by decide +kernel
theorem dX4_init_166 : decode cX4_init 166 = .ok (.putfield 69, 3) := by decide +kernel
theorem dX4_init_169 : decode cX4_init 169 = .ok (.aload_n 0, 1) := by decide +kernel
theorem dX4_init_170 : decode cX4_init 170 = .ok (.bipush 10, 2) := by decide +kernel
theorem dX4_init_172 : decode cX4_init 172 = .ok (.newarray .int, 2) := by decide +kernel
theorem dX4_init_174 : decode cX4_init 174 = .ok (.putfield 72, 3) := by decide +kernel
theorem dX4_init_177 : decode cX4_init 177 = .ok (.aload_n 0, 1) := by decide +kernel
theorem dX4_init_178 : decode cX4_init 178 = .ok (.bipush 120, 2) := by decide +kernel
theorem dX4_init_180 : decode cX4_init 180 = .ok (.newarray .int, 2) := by decide +kernel
theorem dX4_init_182 : decode cX4_init 182 = .ok (.putfield 75, 3) := by decide +kernel
theorem dX4_init_185 : decode cX4_init 185 = .ok (.aload_n 0, 1) := by decide +kernel
theorem dX4_init_186 : decode cX4_init 186 = .ok (.bipush 8, 2) := by decide +kernel
theorem dX4_init_188 : decode cX4_init 188 = .ok (.newarray .boolean, 2) := by decide +kernel
theorem dX4_init_190 : decode cX4_init 190 = .ok (.putfield 78, 3) := by decide +kernel
theorem dX4_init_193 : decode cX4_init 193 = .ok (.aload_n 0, 1) := by decide +kernel
theorem dX4_init_194 : decode cX4_init 194 = .ok (.bipush 8, 2) := by decide +kernel
theorem dX4_init_196 : decode cX4_init 196 = .ok (.newarray .int, 2) := by decide +kernel
theorem dX4_init_198 : decode cX4_init 198 = .ok (.putfield 81, 3) := by decide +kernel
theorem dX4_init_201 : decode cX4_init 201 = .ok (.aload_n 0, 1) := by decide +kernel
theorem dX4_init_202 : decode cX4_init 202 = .ok (.bipush 8, 2) := by decide +kernel
theorem dX4_init_204 : decode cX4_init 204 = .ok (.newarray .int, 2) := by decide +kernel
theorem dX4_init_206 : decode cX4_init 206 = .ok (.putfield 84, 3) := by decide +kernel
theorem dX4_init_209 : decode cX4_init 209 = .ok (.aload_n 0, 1) := by decide +kernel
theorem dX4_init_210 : decode cX4_init 210 = .ok (.bipush 8, 2) := by decide +kernel
theorem dX4_init_212 : decode cX4_init 212 = .ok (.newarray .float, 2) := by decide +kernel
theorem dX4_init_214 : decode cX4_init 214 = .ok (.putfield 87, 3) := by decide +kernel
theorem dX4_init_217 : decode cX4_init 217 = .ok (.aload_n 0, 1) := by decide +kernel
theorem dX4_init_218 : decode cX4_init 218 = .ok (.bipush 120, 2) := by decide +kernel
theorem dX4_init_220 : decode cX4_init 220 = .ok (.newarray .int, 2) := by decide +kernel
theorem dX4_init_222 : decode cX4_init 222 = .ok (.putfield 90, 3) := by decide +kernel
theorem dX4_init_225 : decode cX4_init 225 = .ok (.aload_n 0, 1) := by decide +kernel
theorem dX4_init_226 : decode cX4_init 226 = .ok (.bipush 120, 2) := by decide +kernel
theorem dX4_init_228 : decode cX4_init 228 = .ok (.newarray .float, 2) := by decide +kernel
theorem dX4_init_230 : decode cX4_init 230 = .ok (.putfield 93, 3) := by decide +kernel
theorem dX4_init_233 : decode cX4_init 233 = .ok (.aload_n 0, 1) := by decide +kernel
theorem dX4_init_234 : decode cX4_init 234 = .ok (.sipush 2001, 3) := by decide +kernel
theorem dX4_init_237 : decode cX4_init 237 = .ok (.newarray .boolean, 2) := by decide +kernel
theorem dX4_init_239 : decode cX4_init 239 = .ok (.putfield 96, 3) := by decide +kernel
theorem dX4_init_242 : decode cX4_init 242 = .ok (.aload_n 0, 1) := by decide +kernel
theorem dX4_init_243 : decode cX4_init 243 = .ok (.sipush 12006, 3) := by decide +kernel
theorem dX4_init_246 : decode cX4_init 246 = .ok (.newarray .float, 2) := by decide +kernel
theorem dX4_init_248 : decode cX4_init 248 = .ok (.putfield 99, 3) := by decide +kernel
theorem dX4_init_251 : decode cX4_init 251 = .ok (.aload_n 0, 1) := by decide +kernel
theorem dX4_init_252 : decode cX4_init 252 = .ok (.bipush 6, 2) := by decide +kernel
theorem dX4_init_254 : decode cX4_init 254 = .ok (.newarray .int, 2) := by decide +kernel
theorem dX4_init_256 : decode cX4_init 256 = .ok (.putfield 102, 3) := by decide +kernel
theorem dX4_init_259 : decode cX4_init 259 = .ok (.iconst 0, 1) := by decide +kernel
theorem dX4_init_260 : decode cX4_init 260 = .ok (.istore_n 1, 1) := by decide +kernel
theorem dX4_init_261 : decode cX4_init 261 = .ok (.iload_n 1, 1) := by decide +kernel
theorem dX4_init_262 : decode cX4_init 262 = .ok (.bipush 6, 2) := by decide +kernel
theorem dX4_init_264 : decode cX4_init 264 = .ok (.if_icmp .ge 16, 3) := by decide +kernel
theorem dX4_init_267 : decode cX4_init 267 = .ok (.aload_n 0, 1) := by decide +kernel
theorem dX4_init_268 : decode cX4_init 268 = .ok (.getfield 57, 3) := by decide +kernel
theorem dX4_init_271 : decode cX4_init 271 = .ok (.iload_n 1, 1) := by decide +kernel
theorem dX4_init_272 : decode cX4_init 272 = .ok (.iconst (-1), 1) := by decide +kernel
theorem dX4_init_273 : decode cX4_init 273 = .ok (.iastore, 1) := by decide +kernel
theorem dX4_init_274 : decode cX4_init 274 = .ok (.iinc 1 1, 3) := by decide +kernel
theorem dX4_init_277 : decode cX4_init 277 = .ok (.goto (-16), 3) := by decide +kernel
theorem dX4_init_280 : decode cX4_init 280 = .ok (.return_, 1) := by decide +kernel
theorem dX4_isPiece_0 : decode cX4_isPiece 0 = .ok (.iload_n 1, 1) := by decide +kernel
theorem dX4_isPiece_1 : decode cX4_isPiece 1 = .ok (.ifCond .lt 15, 3) := by decide +kernel
theorem dX4_isPiece_4 : decode cX4_isPiece 4 = .ok (.iload_n 1, 1) := by decide +kernel
theorem dX4_isPiece_5 : decode cX4_isPiece 5 = .ok (.aload_n 0, 1) := by decide +kernel
theorem dX4_isPiece_6 : decode cX4_isPiece 6 = .ok (.getfield 105, 3) := by decide +kernel
theorem dX4_isPiece_9 : decode cX4_isPiece 9 = .ok (.if_icmp .ge 7, 3) := by decide +kernel
theorem dX4_isPiece_12 : decode cX4_isPiece 12 = .ok (.iconst 1, 1) := by decide +kernel
theorem dX4_isPiece_13 : decode cX4_isPiece 13 = .ok (.goto 4, 3) := by decide +kernel
theorem dX4_isPiece_16 : decode cX4_isPiece 16 = .ok (.iconst 0, 1) := by decide +kernel
theorem dX4_isPiece_17 : decode cX4_isPiece 17 = .ok (.ireturn, 1) := by decide +kernel
theorem dX4_isThere_0 : decode cX4_isThere 0 = .ok (.aload_n 0, 1) := by decide +kernel
theorem dX4_isThere_1 : decode cX4_isThere 1 = .ok (.iload_n 1, 1) := by decide +kernel
theorem dX4_isThere_2 : decode cX4_isThere 2 = .ok (.invokevirtual 109, 3) := by decide +kernel
theorem dX4_isThere_5 : decode cX4_isThere 5 = .ok (.ifCond .eq 17, 3) := by decide +kernel
theorem dX4_isThere_8 : decode cX4_isThere 8 = .ok (.aload_n 0, 1) := by decide +kernel
theorem dX4_isThere_9 : decode cX4_isThere 9 = .ok (.getfield 19, 3) := by decide +kernel
theorem dX4_isThere_12 : decode cX4_isThere 12 = .ok (.iload_n 1, 1) := by decide +kernel
theorem dX4_isThere_13 : decode cX4_isThere 13 = .ok (.iaload, 1) := by decide +kernel
theorem dX4_isThere_14 : decode cX4_isThere 14 = .ok (.iconst 3, 1) := by decide +kernel
theorem dX4_isThere_15 : decode cX4_isThere 15 = .ok (.if_icmp .eq 7, 3) := by decide +kernel
theorem dX4_isThere_18 : decode cX4_isThere 18 = .ok (.iconst 1, 1) := by decide +kernel
theorem dX4_isThere_19 : decode cX4_isThere 19 = .ok (.goto 4, 3) := by decide +kernel
theorem dX4_isThere_22 : decode cX4_isThere 22 = .ok (.iconst 0, 1) := by decide +kernel
theorem dX4_isThere_23 : decode cX4_isThere 23 = .ok (.ireturn, 1) := by decide +kernel
theorem dX4_isFree_0 : decode cX4_isFree 0 = .ok (.aload_n 0, 1) := by decide +kernel
theorem dX4_isFree_1 : decode cX4_isFree 1 = .ok (.iload_n 1, 1) := by decide +kernel
theorem dX4_isFree_2 : decode cX4_isFree 2 = .ok (.invokevirtual 109, 3) := by decide +kernel
theorem dX4_isFree_5 : decode cX4_isFree 5 = .ok (.ifCond .eq 16, 3) := by decide +kernel
theorem dX4_isFree_8 : decode cX4_isFree 8 = .ok (.aload_n 0, 1) := by decide +kernel
theorem dX4_isFree_9 : decode cX4_isFree 9 = .ok (.getfield 19, 3) := by decide +kernel
theorem dX4_isFree_12 : decode cX4_isFree 12 = .ok (.iload_n 1, 1) := by decide +kernel
theorem dX4_isFree_13 : decode cX4_isFree 13 = .ok (.iaload, 1) := by decide +kernel
theorem dX4_isFree_14 : decode cX4_isFree 14 = .ok (.ifCond .ne 7, 3) := by decide +kernel
theorem dX4_isFree_17 : decode cX4_isFree 17 = .ok (.iconst 1, 1) := by decide +kernel
theorem dX4_isFree_18 : decode cX4_isFree 18 = .ok (.goto 4, 3) := by decide +kernel
theorem dX4_isFree_21 : decode cX4_isFree 21 = .ok (.iconst 0, 1) := by decide +kernel
theorem dX4_isFree_22 : decode cX4_isFree 22 = .ok (.ireturn, 1) := by decide +kernel
theorem dX4_newPiece_0 : decode cX4_newPiece 0 = .ok (.aload_n 0, 1) := by decide +kernel
theorem dX4_newPiece_1 : decode cX4_newPiece 1 = .ok (.getfield 105, 3) := by decide +kernel
theorem dX4_newPiece_4 : decode cX4_newPiece 4 = .ok (.istore 4, 2) := by decide +kernel
theorem dX4_newPiece_6 : decode cX4_newPiece 6 = .ok (.aload_n 0, 1) := by decide +kernel
theorem dX4_newPiece_7 : decode cX4_newPiece 7 = .ok (.dup, 1) := by decide +kernel
theorem dX4_newPiece_8 : decode cX4_newPiece 8 = .ok (.getfield 105, 3) := by decide +kernel
theorem dX4_newPiece_11 : decode cX4_newPiece 11 = .ok (.iconst 1, 1) := by decide +kernel
theorem dX4_newPiece_12 : decode cX4_newPiece 12 = .ok (.iadd, 1) := by decide +kernel
theorem dX4_newPiece_13 : decode cX4_newPiece 13 = .ok (.putfield 105, 3) := by decide +kernel
theorem dX4_newPiece_16 : decode cX4_newPiece 16 = .ok (.aload_n 0, 1) := by decide +kernel
theorem dX4_newPiece_17 : decode cX4_newPiece 17 = .ok (.getfield 9, 3) := by decide +kernel
theorem dX4_newPiece_20 : decode cX4_newPiece 20 = .ok (.iload 4, 2) := by decide +kernel
theorem dX4_newPiece_22 : decode cX4_newPiece 22 = .ok (.iload_n 1, 1) := by decide +kernel
theorem dX4_newPiece_23 : decode cX4_newPiece 23 = .ok (.iastore, 1) := by decide +kernel
theorem dX4_newPiece_24 : decode cX4_newPiece 24 = .ok (.aload_n 0, 1) := by decide +kernel
theorem dX4_newPiece_25 : decode cX4_newPiece 25 = .ok (.getfield 13, 3) := by decide +kernel
theorem dX4_newPiece_28 : decode cX4_newPiece 28 = .ok (.iload 4, 2) := by decide +kernel
theorem dX4_newPiece_30 : decode cX4_newPiece 30 = .ok (.iload_n 2, 1) := by decide +kernel
theorem dX4_newPiece_31 : decode cX4_newPiece 31 = .ok (.iastore, 1) := by decide +kernel
theorem dX4_newPiece_32 : decode cX4_newPiece 32 = .ok (.aload_n 0, 1) := by decide +kernel
theorem dX4_newPiece_33 : decode cX4_newPiece 33 = .ok (.getfield 16, 3) := by decide +kernel
theorem dX4_newPiece_36 : decode cX4_newPiece 36 = .ok (.iload 4, 2) := by decide +kernel
theorem dX4_newPiece_38 : decode cX4_newPiece 38 = .ok (.iload_n 3, 1) := by decide +kernel
theorem dX4_newPiece_39 : decode cX4_newPiece 39 = .ok (.iastore, 1) := by decide +kernel
theorem dX4_newPiece_40 : decode cX4_newPiece 40 = .ok (.aload_n 0, 1) := by decide +kernel
theorem dX4_newPiece_41 : decode cX4_newPiece 41 = .ok (.getfield 19, 3) := by decide +kernel
theorem dX4_newPiece_44 : decode cX4_newPiece 44 = .ok (.iload 4, 2) := by decide +kernel
theorem dX4_newPiece_46 : decode cX4_newPiece 46 = .ok (.iconst 0, 1) := by decide +kernel
theorem dX4_newPiece_47 : decode cX4_newPiece 47 = .ok (.iastore, 1) := by decide +kernel
theorem dX4_newPiece_48 : decode cX4_newPiece 48 = .ok (.aload_n 0, 1) := by decide +kernel
theorem dX4_newPiece_49 : decode cX4_newPiece 49 = .ok (.getfield 26, 3) := by decide +kernel
theorem dX4_newPiece_52 : decode cX4_newPiece 52 = .ok (.iload 4, 2) := by decide +kernel
theorem dX4_newPiece_54 : decode cX4_newPiece 54 = .ok (.iconst 0, 1) := by decide +kernel
theorem dX4_newPiece_55 : decode cX4_newPiece 55 = .ok (.iastore, 1) := by decide +kernel
theorem dX4_newPiece_56 : decode cX4_newPiece 56 = .ok (.aload_n 0, 1) := by decide +kernel
theorem dX4_newPiece_57 : decode cX4_newPiece 57 = .ok (.getfield 32, 3) := by decide +kernel
theorem dX4_newPiece_60 : decode cX4_newPiece 60 = .ok (.iload 4, 2) := by decide +kernel
theorem dX4_newPiece_62 : decode cX4_newPiece 62 = .ok (.iconst (-1), 1) := by decide +kernel
theorem dX4_newPiece_63 : decode cX4_newPiece 63 = .ok (.iastore, 1) := by decide +kernel
theorem dX4_newPiece_64 : decode cX4_newPiece 64 = .ok (.aload_n 0, 1) := by decide +kernel
theorem dX4_newPiece_65 : decode cX4_newPiece 65 = .ok (.getfield 38, 3) := by decide +kernel
theorem dX4_newPiece_68 : decode cX4_newPiece 68 = .ok (.iload 4, 2) := by decide +kernel
theorem dX4_newPiece_70 : decode cX4_newPiece 70 = .ok (.iconst (-1), 1) := by decide +kernel
theorem dX4_newPiece_71 : decode cX4_newPiece 71 = .ok (.iastore, 1) := by decide +kernel
theorem dX4_newPiece_72 : decode cX4_newPiece 72 = .ok (.iload 4, 2) := by decide +kernel
theorem dX4_newPiece_74 : decode cX4_newPiece 74 = .ok (.ireturn, 1) := by decide +kernel
theorem dX4_single_0 : decode cX4_single 0 = .ok (.iload_n 2, 1) := by decide +kernel
theorem dX4_single_1 : decode cX4_single 1 = .ok (.iconst 1, 1) := by decide +kernel
theorem dX4_single_2 : decode cX4_single 2 = .ok (.if_icmp .lt 29, 3) := by decide +kernel
theorem dX4_single_5 : decode cX4_single 5 = .ok (.iload_n 2, 1) := by decide +kernel
theorem dX4_single_6 : decode cX4_single 6 = .ok (.sipush 2000, 3) := by decide +kernel
theorem dX4_single_9 : decode cX4_single 9 = .ok (.if_icmp .gt 22, 3) := by decide +kernel
theorem dX4_single_12 : decode cX4_single 12 = .ok (.iload_n 3, 1) := by decide +kernel
theorem dX4_single_13 : decode cX4_single 13 = .ok (.ifCond .lt 18, 3) := by decide +kernel
theorem dX4_single_16 : decode cX4_single 16 = .ok (.iload_n 3, 1) := by decide +kernel
theorem dX4_single_17 : decode cX4_single 17 = .ok (.ldc 113, 2) := by decide +kernel
theorem dX4_single_19 : decode cX4_single 19 = .ok (.if_icmp .gt 12, 3) := by decide +kernel
theorem dX4_single_22 : decode cX4_single 22 = .ok (.aload_n 0, 1) := by decide +kernel
theorem dX4_single_23 : decode cX4_single 23 = .ok (.getfield 105, 3) := by decide +kernel
theorem dX4_single_26 : decode cX4_single 26 = .ok (.bipush 120, 2) := by decide +kernel
theorem dX4_single_28 : decode cX4_single 28 = .ok (.if_icmp .ne 6, 3) := by decide +kernel
theorem dX4_single_31 : decode cX4_single 31 = .ok (.bipush (-2), 2) := by decide +kernel
theorem dX4_single_33 : decode cX4_single 33 = .ok (.ireturn, 1) := by decide +kernel
theorem dX4_single_34 : decode cX4_single 34 = .ok (.aload_n 0, 1) := by decide +kernel
theorem dX4_single_35 : decode cX4_single 35 = .ok (.iload_n 1, 1) := by decide +kernel
theorem dX4_single_36 : decode cX4_single 36 = .ok (.iload_n 2, 1) := by decide +kernel
theorem dX4_single_37 : decode cX4_single 37 = .ok (.iconst 0, 1) := by decide +kernel
theorem dX4_single_38 : decode cX4_single 38 = .ok (.invokevirtual 114, 3) := by decide +kernel
theorem dX4_single_41 : decode cX4_single 41 = .ok (.istore 4, 2) := by decide +kernel
theorem dX4_single_43 : decode cX4_single 43 = .ok (.aload_n 0, 1) := by decide +kernel
theorem dX4_single_44 : decode cX4_single 44 = .ok (.getfield 22, 3) := by decide +kernel
theorem dX4_single_47 : decode cX4_single 47 = .ok (.iload 4, 2) := by decide +kernel
theorem dX4_single_49 : decode cX4_single 49 = .ok (.iload_n 3, 1) := by decide +kernel
theorem dX4_single_50 : decode cX4_single 50 = .ok (.i2f, 1) := by decide +kernel
theorem dX4_single_51 : decode cX4_single 51 = .ok (.ldc 118, 2) := by decide +kernel
theorem dX4_single_53 : decode cX4_single 53 = .ok (.fmul, 1) := by decide +kernel
theorem dX4_single_54 : decode cX4_single 54 = .ok (.fastore, 1) := by decide +kernel
theorem dX4_single_55 : decode cX4_single 55 = .ok (.iload 4, 2) := by decide +kernel
theorem dX4_single_57 : decode cX4_single 57 = .ok (.ireturn, 1) := by decide +kernel
theorem dX4_yarn_0 : decode cX4_yarn 0 = .ok (.aload_n 0, 1) := by decide +kernel
theorem dX4_yarn_1 : decode cX4_yarn 1 = .ok (.iconst 0, 1) := by decide +kernel
theorem dX4_yarn_2 : decode cX4_yarn 2 = .ok (.iload_n 1, 1) := by decide +kernel
theorem dX4_yarn_3 : decode cX4_yarn 3 = .ok (.iload_n 2, 1) := by decide +kernel
theorem dX4_yarn_4 : decode cX4_yarn 4 = .ok (.invokevirtual 119, 3) := by decide +kernel
theorem dX4_yarn_7 : decode cX4_yarn 7 = .ok (.ireturn, 1) := by decide +kernel
theorem dX4_tape_0 : decode cX4_tape 0 = .ok (.aload_n 0, 1) := by decide +kernel
theorem dX4_tape_1 : decode cX4_tape 1 = .ok (.iconst 4, 1) := by decide +kernel
theorem dX4_tape_2 : decode cX4_tape 2 = .ok (.iload_n 1, 1) := by decide +kernel
theorem dX4_tape_3 : decode cX4_tape 3 = .ok (.iload_n 2, 1) := by decide +kernel
theorem dX4_tape_4 : decode cX4_tape 4 = .ok (.invokevirtual 119, 3) := by decide +kernel
theorem dX4_tape_7 : decode cX4_tape 7 = .ok (.ireturn, 1) := by decide +kernel
theorem dX4_pick_0 : decode cX4_pick 0 = .ok (.aload_n 0, 1) := by decide +kernel
theorem dX4_pick_1 : decode cX4_pick 1 = .ok (.iload_n 1, 1) := by decide +kernel
theorem dX4_pick_2 : decode cX4_pick 2 = .ok (.invokevirtual 122, 3) := by decide +kernel
theorem dX4_pick_5 : decode cX4_pick 5 = .ok (.ifCond .eq 16, 3) := by decide +kernel
theorem dX4_pick_8 : decode cX4_pick 8 = .ok (.aload_n 0, 1) := by decide +kernel
theorem dX4_pick_9 : decode cX4_pick 9 = .ok (.getfield 125, 3) := by decide +kernel
theorem dX4_pick_12 : decode cX4_pick 12 = .ok (.bipush 9, 2) := by decide +kernel
theorem dX4_pick_14 : decode cX4_pick 14 = .ok (.if_icmp .ge 7, 3) := by decide +kernel
theorem dX4_pick_17 : decode cX4_pick 17 = .ok (.iconst 1, 1) := by decide +kernel
theorem dX4_pick_18 : decode cX4_pick 18 = .ok (.goto 4, 3) := by decide +kernel
theorem dX4_pick_21 : decode cX4_pick 21 = .ok (.iconst 0, 1) := by decide +kernel
theorem dX4_pick_22 : decode cX4_pick 22 = .ok (.istore_n 2, 1) := by decide +kernel
theorem dX4_pick_23 : decode cX4_pick 23 = .ok (.iconst 0, 1) := by decide +kernel
theorem dX4_pick_24 : decode cX4_pick 24 = .ok (.istore_n 3, 1) := by decide +kernel
theorem dX4_pick_25 : decode cX4_pick 25 = .ok (.iload_n 3, 1) := by decide +kernel
theorem dX4_pick_26 : decode cX4_pick 26 = .ok (.aload_n 0, 1) := by decide +kernel
theorem dX4_pick_27 : decode cX4_pick 27 = .ok (.getfield 125, 3) := by decide +kernel
theorem dX4_pick_30 : decode cX4_pick 30 = .ok (.if_icmp .ge 27, 3) := by decide +kernel
theorem dX4_pick_33 : decode cX4_pick 33 = .ok (.iload_n 2, 1) := by decide +kernel
theorem dX4_pick_34 : decode cX4_pick 34 = .ok (.aload_n 0, 1) := by decide +kernel
theorem dX4_pick_35 : decode cX4_pick 35 = .ok (.getfield 54, 3) := by decide +kernel
theorem dX4_pick_38 : decode cX4_pick 38 = .ok (.iload_n 3, 1) := by decide +kernel
theorem dX4_pick_39 : decode cX4_pick 39 = .ok (.iaload, 1) := by decide +kernel
theorem dX4_pick_40 : decode cX4_pick 40 = .ok (.iload_n 1, 1) := by decide +kernel
theorem dX4_pick_41 : decode cX4_pick 41 = .ok (.if_icmp .eq 7, 3) := by decide +kernel
theorem dX4_pick_44 : decode cX4_pick 44 = .ok (.iconst 1, 1) := by decide +kernel
theorem dX4_pick_45 : decode cX4_pick 45 = .ok (.goto 4, 3) := by decide +kernel
theorem dX4_pick_48 : decode cX4_pick 48 = .ok (.iconst 0, 1) := by decide +kernel
theorem dX4_pick_49 : decode cX4_pick 49 = .ok (.iand, 1) := by decide +kernel
theorem dX4_pick_50 : decode cX4_pick 50 = .ok (.istore_n 2, 1) := by decide +kernel
theorem dX4_pick_51 : decode cX4_pick 51 = .ok (.iinc 3 1, 3) := by decide +kernel
theorem dX4_pick_54 : decode cX4_pick 54 = .ok (.goto (-29), 3) := by decide +kernel
theorem dX4_pick_57 : decode cX4_pick 57 = .ok (.iload_n 2, 1) := by decide +kernel
theorem dX4_pick_58 : decode cX4_pick 58 = .ok (.ifCond .ne 6, 3) := by decide +kernel
theorem dX4_pick_61 : decode cX4_pick 61 = .ok (.bipush (-2), 2) := by decide +kernel
theorem dX4_pick_63 : decode cX4_pick 63 = .ok (.ireturn, 1) := by decide +kernel
theorem dX4_pick_64 : decode cX4_pick 64 = .ok (.aload_n 0, 1) := by decide +kernel
theorem dX4_pick_65 : decode cX4_pick 65 = .ok (.getfield 54, 3) := by decide +kernel
theorem dX4_pick_68 : decode cX4_pick 68 = .ok (.aload_n 0, 1) := by decide +kernel
theorem dX4_pick_69 : decode cX4_pick 69 = .ok (.getfield 125, 3) := by decide +kernel
theorem dX4_pick_72 : decode cX4_pick 72 = .ok (.iload_n 1, 1) := by decide +kernel
theorem dX4_pick_73 : decode cX4_pick 73 = .ok (.iastore, 1) := by decide +kernel
theorem dX4_pick_74 : decode cX4_pick 74 = .ok (.aload_n 0, 1) := by decide +kernel
theorem dX4_pick_75 : decode cX4_pick 75 = .ok (.dup, 1) := by decide +kernel
theorem dX4_pick_76 : decode cX4_pick 76 = .ok (.getfield 125, 3) := by decide +kernel
theorem dX4_pick_79 : decode cX4_pick 79 = .ok (.iconst 1, 1) := by decide +kernel
theorem dX4_pick_80 : decode cX4_pick 80 = .ok (.iadd, 1) := by decide +kernel
theorem dX4_pick_81 : decode cX4_pick 81 = .ok (.putfield 125, 3) := by decide +kernel
theorem dX4_pick_84 : decode cX4_pick 84 = .ok (.aload_n 0, 1) := by decide +kernel
theorem dX4_pick_85 : decode cX4_pick 85 = .ok (.getfield 125, 3) := by decide +kernel
theorem dX4_pick_88 : decode cX4_pick 88 = .ok (.ireturn, 1) := by decide +kernel
theorem dX4_drop_0 : decode cX4_drop 0 = .ok (.aload_n 0, 1) := by decide +kernel
theorem dX4_drop_1 : decode cX4_drop 1 = .ok (.getfield 125, 3) := by decide +kernel
theorem dX4_drop_4 : decode cX4_drop 4 = .ok (.istore_n 1, 1) := by decide +kernel
theorem dX4_drop_5 : decode cX4_drop 5 = .ok (.aload_n 0, 1) := by decide +kernel
theorem dX4_drop_6 : decode cX4_drop 6 = .ok (.iconst 0, 1) := by decide +kernel
theorem dX4_drop_7 : decode cX4_drop 7 = .ok (.putfield 125, 3) := by decide +kernel
theorem dX4_drop_10 : decode cX4_drop 10 = .ok (.iload_n 1, 1) := by decide +kernel
theorem dX4_drop_11 : decode cX4_drop 11 = .ok (.ireturn, 1) := by decide +kernel
theorem dX4_mayBeIn_0 : decode cX4_mayBeIn 0 = .ok (.aload_n 0, 1) := by decide +kernel
theorem dX4_mayBeIn_1 : decode cX4_mayBeIn 1 = .ok (.getfield 9, 3) := by decide +kernel
theorem dX4_mayBeIn_4 : decode cX4_mayBeIn 4 = .ok (.iload_n 3, 1) := by decide +kernel
theorem dX4_mayBeIn_5 : decode cX4_mayBeIn 5 = .ok (.iaload, 1) := by decide +kernel
theorem dX4_mayBeIn_6 : decode cX4_mayBeIn 6 = .ok (.istore 4, 2) := by decide +kernel
theorem dX4_mayBeIn_8 : decode cX4_mayBeIn 8 = .ok (.aload_n 0, 1) := by decide +kernel
theorem dX4_mayBeIn_9 : decode cX4_mayBeIn 9 = .ok (.getfield 19, 3) := by decide +kernel
theorem dX4_mayBeIn_12 : decode cX4_mayBeIn 12 = .ok (.iload_n 3, 1) := by decide +kernel
theorem dX4_mayBeIn_13 : decode cX4_mayBeIn 13 = .ok (.iaload, 1) := by decide +kernel
theorem dX4_mayBeIn_14 : decode cX4_mayBeIn 14 = .ok (.ifCond .eq 5, 3) := by decide +kernel
theorem dX4_mayBeIn_17 : decode cX4_mayBeIn 17 = .ok (.iconst 0, 1) := by decide +kernel
theorem dX4_mayBeIn_18 : decode cX4_mayBeIn 18 = .ok (.ireturn, 1) := by decide +kernel
theorem dX4_mayBeIn_19 : decode cX4_mayBeIn 19 = .ok (.iload_n 1, 1) := by decide +kernel
theorem dX4_mayBeIn_20 : decode cX4_mayBeIn 20 = .ok (.iconst 1, 1) := by decide +kernel
theorem dX4_mayBeIn_21 : decode cX4_mayBeIn 21 = .ok (.if_icmp .ne 20, 3) := by decide +kernel
theorem dX4_mayBeIn_24 : decode cX4_mayBeIn 24 = .ok (.iload 4, 2) := by decide +kernel
theorem dX4_mayBeIn_26 : decode cX4_mayBeIn 26 = .ok (.ifCond .eq 9, 3) := by decide +kernel
theorem dX4_mayBeIn_29 : decode cX4_mayBeIn 29 = .ok (.iload 4, 2) := by decide +kernel
theorem dX4_mayBeIn_31 : decode cX4_mayBeIn 31 = .ok (.iconst 4, 1) := by decide +kernel
theorem dX4_mayBeIn_32 : decode cX4_mayBeIn 32 = .ok (.if_icmp .ne 7, 3) := by decide +kernel
theorem dX4_mayBeIn_35 : decode cX4_mayBeIn 35 = .ok (.iconst 1, 1) := by decide +kernel
theorem dX4_mayBeIn_36 : decode cX4_mayBeIn 36 = .ok (.goto 4, 3) := by decide +kernel
theorem dX4_mayBeIn_39 : decode cX4_mayBeIn 39 = .ok (.iconst 0, 1) := by decide +kernel
theorem dX4_mayBeIn_40 : decode cX4_mayBeIn 40 = .ok (.ireturn, 1) := by decide +kernel
theorem dX4_mayBeIn_41 : decode cX4_mayBeIn 41 = .ok (.iload_n 1, 1) := by decide +kernel
theorem dX4_mayBeIn_42 : decode cX4_mayBeIn 42 = .ok (.iconst 2, 1) := by decide +kernel
theorem dX4_mayBeIn_43 : decode cX4_mayBeIn 43 = .ok (.if_icmp .ne 17, 3) := by decide +kernel
theorem dX4_mayBeIn_46 : decode cX4_mayBeIn 46 = .ok (.iload 4, 2) := by decide +kernel
theorem dX4_mayBeIn_48 : decode cX4_mayBeIn 48 = .ok (.iconst 1, 1) := by decide +kernel
theorem dX4_mayBeIn_49 : decode cX4_mayBeIn 49 = .ok (.if_icmp .ne 7, 3) := by decide +kernel
theorem dX4_mayBeIn_52 : decode cX4_mayBeIn 52 = .ok (.iconst 1, 1) := by decide +kernel
theorem dX4_mayBeIn_53 : decode cX4_mayBeIn 53 = .ok (.goto 24, 3) := by decide +kernel
theorem dX4_mayBeIn_56 : decode cX4_mayBeIn 56 = .ok (.iconst 0, 1) := by decide +kernel
theorem dX4_mayBeIn_57 : decode cX4_mayBeIn 57 = .ok (.goto 20, 3) := by decide +kernel
theorem dX4_mayBeIn_60 : decode cX4_mayBeIn 60 = .ok (.iload 4, 2) := by decide +kernel
theorem dX4_mayBeIn_62 : decode cX4_mayBeIn 62 = .ok (.iconst 2, 1) := by decide +kernel
theorem dX4_mayBeIn_63 : decode cX4_mayBeIn 63 = .ok (.if_icmp .eq 9, 3) := by decide +kernel
theorem dX4_mayBeIn_66 : decode cX4_mayBeIn 66 = .ok (.iload 4, 2) := by decide +kernel
theorem dX4_mayBeIn_68 : decode cX4_mayBeIn 68 = .ok (.iconst 5, 1) := by decide +kernel
theorem dX4_mayBeIn_69 : decode cX4_mayBeIn 69 = .ok (.if_icmp .ne 7, 3) := by decide +kernel
theorem dX4_mayBeIn_72 : decode cX4_mayBeIn 72 = .ok (.iconst 1, 1) := by decide +kernel
theorem dX4_mayBeIn_73 : decode cX4_mayBeIn 73 = .ok (.goto 4, 3) := by decide +kernel
theorem dX4_mayBeIn_76 : decode cX4_mayBeIn 76 = .ok (.iconst 0, 1) := by decide +kernel
theorem dX4_mayBeIn_77 : decode cX4_mayBeIn 77 = .ok (.istore 5, 2) := by decide +kernel
theorem dX4_mayBeIn_79 : decode cX4_mayBeIn 79 = .ok (.iload 5, 2) := by decide +kernel
theorem dX4_mayBeIn_81 : decode cX4_mayBeIn 81 = .ok (.ifCond .eq 19, 3) := by decide +kernel
theorem dX4_mayBeIn_84 : decode cX4_mayBeIn 84 = .ok (.aload_n 0, 1) := by decide +kernel
theorem dX4_mayBeIn_85 : decode cX4_mayBeIn 85 = .ok (.getfield 16, 3) := by decide +kernel
theorem dX4_mayBeIn_88 : decode cX4_mayBeIn 88 = .ok (.iload_n 3, 1) := by decide +kernel
theorem dX4_mayBeIn_89 : decode cX4_mayBeIn 89 = .ok (.iaload, 1) := by decide +kernel
theorem dX4_mayBeIn_90 : decode cX4_mayBeIn 90 = .ok (.iconst 3, 1) := by decide +kernel
theorem dX4_mayBeIn_91 : decode cX4_mayBeIn 91 = .ok (.iload_n 2, 1) := by decide +kernel
theorem dX4_mayBeIn_92 : decode cX4_mayBeIn 92 = .ok (.isub, 1) := by decide +kernel
theorem dX4_mayBeIn_93 : decode cX4_mayBeIn 93 = .ok (.if_icmp .ne 7, 3) := by decide +kernel
theorem dX4_mayBeIn_96 : decode cX4_mayBeIn 96 = .ok (.iconst 1, 1) := by decide +kernel
theorem dX4_mayBeIn_97 : decode cX4_mayBeIn 97 = .ok (.goto 4, 3) := by decide +kernel
theorem dX4_mayBeIn_100 : decode cX4_mayBeIn 100 = .ok (.iconst 0, 1) := by decide +kernel
theorem dX4_mayBeIn_101 : decode cX4_mayBeIn 101 = .ok (.ireturn, 1) := by decide +kernel
theorem dX4_lay_0 : decode cX4_lay 0 = .ok (.iload_n 1, 1) := by decide +kernel
theorem dX4_lay_1 : decode cX4_lay 1 = .ok (.iconst 1, 1) := by decide +kernel
theorem dX4_lay_2 : decode cX4_lay 2 = .ok (.if_icmp .lt 38, 3) := by decide +kernel
theorem dX4_lay_5 : decode cX4_lay 5 = .ok (.iload_n 1, 1) := by decide +kernel
theorem dX4_lay_6 : decode cX4_lay 6 = .ok (.iconst 3, 1) := by decide +kernel
theorem dX4_lay_7 : decode cX4_lay 7 = .ok (.if_icmp .gt 33, 3) := by decide +kernel
theorem dX4_lay_10 : decode cX4_lay 10 = .ok (.iload_n 2, 1) := by decide +kernel
theorem dX4_lay_11 : decode cX4_lay 11 = .ok (.iconst 1, 1) := by decide +kernel
theorem dX4_lay_12 : decode cX4_lay 12 = .ok (.if_icmp .lt 28, 3) := by decide +kernel
theorem dX4_lay_15 : decode cX4_lay 15 = .ok (.iload_n 2, 1) := by decide +kernel
theorem dX4_lay_16 : decode cX4_lay 16 = .ok (.iconst 2, 1) := by decide +kernel
theorem dX4_lay_17 : decode cX4_lay 17 = .ok (.if_icmp .gt 23, 3) := by decide +kernel
theorem dX4_lay_20 : decode cX4_lay 20 = .ok (.iload_n 3, 1) := by decide +kernel
theorem dX4_lay_21 : decode cX4_lay 21 = .ok (.ifCond .lt 19, 3) := by decide +kernel
theorem dX4_lay_24 : decode cX4_lay 24 = .ok (.iload_n 3, 1) := by decide +kernel
theorem dX4_lay_25 : decode cX4_lay 25 = .ok (.sipush 400, 3) := by decide +kernel
theorem dX4_lay_28 : decode cX4_lay 28 = .ok (.if_icmp .gt 12, 3) := by decide +kernel
theorem dX4_lay_31 : decode cX4_lay 31 = .ok (.aload_n 0, 1) := by decide +kernel
theorem dX4_lay_32 : decode cX4_lay 32 = .ok (.getfield 105, 3) := by decide +kernel
theorem dX4_lay_35 : decode cX4_lay 35 = .ok (.bipush 120, 2) := by decide +kernel
theorem dX4_lay_37 : decode cX4_lay 37 = .ok (.if_icmp .ne 6, 3) := by decide +kernel
theorem dX4_lay_40 : decode cX4_lay 40 = .ok (.bipush (-2), 2) := by decide +kernel
theorem dX4_lay_42 : decode cX4_lay 42 = .ok (.ireturn, 1) := by decide +kernel
theorem dX4_lay_43 : decode cX4_lay 43 = .ok (.iload_n 1, 1) := by decide +kernel
theorem dX4_lay_44 : decode cX4_lay 44 = .ok (.iconst 1, 1) := by decide +kernel
theorem dX4_lay_45 : decode cX4_lay 45 = .ok (.if_icmp .ne 19, 3) := by decide +kernel
theorem dX4_lay_48 : decode cX4_lay 48 = .ok (.aload_n 0, 1) := by decide +kernel
theorem dX4_lay_49 : decode cX4_lay 49 = .ok (.getfield 125, 3) := by decide +kernel
theorem dX4_lay_52 : decode cX4_lay 52 = .ok (.iconst 2, 1) := by decide +kernel
theorem dX4_lay_53 : decode cX4_lay 53 = .ok (.if_icmp .lt 7, 3) := by decide +kernel
theorem dX4_lay_56 : decode cX4_lay 56 = .ok (.iconst 1, 1) := by decide +kernel
theorem dX4_lay_57 : decode cX4_lay 57 = .ok (.goto 49, 3) := by decide +kernel
theorem dX4_lay_60 : decode cX4_lay 60 = .ok (.iconst 0, 1) := by decide +kernel
theorem dX4_lay_61 : decode cX4_lay 61 = .ok (.goto 45, 3) := by decide +kernel
theorem dX4_lay_64 : decode cX4_lay 64 = .ok (.iload_n 1, 1) := by decide +kernel
theorem dX4_lay_65 : decode cX4_lay 65 = .ok (.iconst 2, 1) := by decide +kernel
theorem dX4_lay_66 : decode cX4_lay 66 = .ok (.if_icmp .ne 27, 3) := by decide +kernel
theorem dX4_lay_69 : decode cX4_lay 69 = .ok (.aload_n 0, 1) := by decide +kernel
theorem dX4_lay_70 : decode cX4_lay 70 = .ok (.getfield 125, 3) := by decide +kernel
theorem dX4_lay_73 : decode cX4_lay 73 = .ok (.iconst 3, 1) := by decide +kernel
theorem dX4_lay_74 : decode cX4_lay 74 = .ok (.if_icmp .eq 11, 3) := by decide +kernel
theorem dX4_lay_77 : decode cX4_lay 77 = .ok (.aload_n 0, 1) := by decide +kernel
theorem dX4_lay_78 : decode cX4_lay 78 = .ok (.getfield 125, 3) := by decide +kernel
theorem dX4_lay_81 : decode cX4_lay 81 = .ok (.iconst 4, 1) := by decide +kernel
theorem dX4_lay_82 : decode cX4_lay 82 = .ok (.if_icmp .ne 7, 3) := by decide +kernel
theorem dX4_lay_85 : decode cX4_lay 85 = .ok (.iconst 1, 1) := by decide +kernel
theorem dX4_lay_86 : decode cX4_lay 86 = .ok (.goto 20, 3) := by decide +kernel
theorem dX4_lay_89 : decode cX4_lay 89 = .ok (.iconst 0, 1) := by decide +kernel
theorem dX4_lay_90 : decode cX4_lay 90 = .ok (.goto 16, 3) := by decide +kernel
theorem dX4_lay_93 : decode cX4_lay 93 = .ok (.aload_n 0, 1) := by decide +kernel
theorem dX4_lay_94 : decode cX4_lay 94 = .ok (.getfield 125, 3) := by decide +kernel
theorem dX4_lay_97 : decode cX4_lay 97 = .ok (.iconst 3, 1) := by decide +kernel
theorem dX4_lay_98 : decode cX4_lay 98 = .ok (.if_icmp .ne 7, 3) := by decide +kernel
theorem dX4_lay_101 : decode cX4_lay 101 = .ok (.iconst 1, 1) := by decide +kernel
theorem dX4_lay_102 : decode cX4_lay 102 = .ok (.goto 4, 3) := by decide +kernel
theorem dX4_lay_105 : decode cX4_lay 105 = .ok (.iconst 0, 1) := by decide +kernel
theorem dX4_lay_106 : decode cX4_lay 106 = .ok (.istore 4, 2) := by decide +kernel
theorem dX4_lay_108 : decode cX4_lay 108 = .ok (.sipush 2000, 3) := by decide +kernel
theorem dX4_lay_111 : decode cX4_lay 111 = .ok (.istore 5, 2) := by decide +kernel
theorem dX4_lay_113 : decode cX4_lay 113 = .ok (.iconst 0, 1) := by decide +kernel
theorem dX4_lay_114 : decode cX4_lay 114 = .ok (.istore 6, 2) := by decide +kernel
theorem dX4_lay_116 : decode cX4_lay 116 = .ok (.iload 6, 2) := by decide +kernel
theorem dX4_lay_118 : decode cX4_lay 118 = .ok (.aload_n 0, 1) := by decide +kernel
theorem dX4_lay_119 : decode cX4_lay 119 = .ok (.getfield 125, 3) := by decide +kernel
theorem dX4_lay_122 : decode cX4_lay 122 = .ok (.if_icmp .ge 63, 3) := by decide +kernel
theorem dX4_lay_125 : decode cX4_lay 125 = .ok (.iload 4, 2) := by decide +kernel
theorem dX4_lay_127 : decode cX4_lay 127 = .ok (.aload_n 0, 1) := by decide +kernel
theorem dX4_lay_128 : decode cX4_lay 128 = .ok (.iload_n 1, 1) := by decide +kernel
theorem dX4_lay_129 : decode cX4_lay 129 = .ok (.iload_n 2, 1) := by decide +kernel
theorem dX4_lay_130 : decode cX4_lay 130 = .ok (.aload_n 0, 1) := by decide +kernel
theorem dX4_lay_131 : decode cX4_lay 131 = .ok (.getfield 54, 3) := by decide +kernel
theorem dX4_lay_134 : decode cX4_lay 134 = .ok (.iload 6, 2) := by decide +kernel
theorem dX4_lay_136 : decode cX4_lay 136 = .ok (.iaload, 1) := by decide +kernel
theorem dX4_lay_137 : decode cX4_lay 137 = .ok (.invokevirtual 128, 3) := by decide +kernel
theorem dX4_lay_140 : decode cX4_lay 140 = .ok (.iand, 1) := by decide +kernel
theorem dX4_lay_141 : decode cX4_lay 141 = .ok (.istore 4, 2) := by decide +kernel
theorem dX4_lay_143 : decode cX4_lay 143 = .ok (.aload_n 0, 1) := by decide +kernel
theorem dX4_lay_144 : decode cX4_lay 144 = .ok (.getfield 13, 3) := by decide +kernel
theorem dX4_lay_147 : decode cX4_lay 147 = .ok (.aload_n 0, 1) := by decide +kernel
theorem dX4_lay_148 : decode cX4_lay 148 = .ok (.getfield 54, 3) := by decide +kernel
theorem dX4_lay_151 : decode cX4_lay 151 = .ok (.iload 6, 2) := by decide +kernel
theorem dX4_lay_153 : decode cX4_lay 153 = .ok (.iaload, 1) := by decide +kernel
theorem dX4_lay_154 : decode cX4_lay 154 = .ok (.iaload, 1) := by decide +kernel
theorem dX4_lay_155 : decode cX4_lay 155 = .ok (.iload 5, 2) := by decide +kernel
theorem dX4_lay_157 : decode cX4_lay 157 = .ok (.if_icmp .ge 18, 3) := by decide +kernel
theorem dX4_lay_160 : decode cX4_lay 160 = .ok (.aload_n 0, 1) := by decide +kernel
theorem dX4_lay_161 : decode cX4_lay 161 = .ok (.getfield 13, 3) := by decide +kernel
theorem dX4_lay_164 : decode cX4_lay 164 = .ok (.aload_n 0, 1) := by decide +kernel
theorem dX4_lay_165 : decode cX4_lay 165 = .ok (.getfield 54, 3) := by decide +kernel
theorem dX4_lay_168 : decode cX4_lay 168 = .ok (.iload 6, 2) := by decide +kernel
theorem dX4_lay_170 : decode cX4_lay 170 = .ok (.iaload, 1) := by decide +kernel
theorem dX4_lay_171 : decode cX4_lay 171 = .ok (.iaload, 1) := by decide +kernel
theorem dX4_lay_172 : decode cX4_lay 172 = .ok (.goto 5, 3) := by decide +kernel
theorem dX4_lay_175 : decode cX4_lay 175 = .ok (.iload 5, 2) := by decide +kernel
theorem dX4_lay_177 : decode cX4_lay 177 = .ok (.istore 5, 2) := by decide +kernel
theorem dX4_lay_179 : decode cX4_lay 179 = .ok (.iinc 6 1, 3) := by decide +kernel
theorem dX4_lay_182 : decode cX4_lay 182 = .ok (.goto (-66), 3) := by decide +kernel
theorem dX4_lay_185 : decode cX4_lay 185 = .ok (.iload 5, 2) := by decide +kernel
theorem dX4_lay_187 : decode cX4_lay 187 = .ok (.sipush 1000, 3) := by decide +kernel
theorem dX4_lay_190 : decode cX4_lay 190 = .ok (.iload_n 3, 1) := by decide +kernel
theorem dX4_lay_191 : decode cX4_lay 191 = .ok (.isub, 1) := by decide +kernel
theorem dX4_lay_192 : decode cX4_lay 192 = .ok (.imul, 1) := by decide +kernel
theorem dX4_lay_193 : decode cX4_lay 193 = .ok (.sipush 1000, 3) := by decide +kernel
theorem dX4_lay_196 : decode cX4_lay 196 = .ok (.idiv, 1) := by decide +kernel
theorem dX4_lay_197 : decode cX4_lay 197 = .ok (.istore 6, 2) := by decide +kernel
theorem dX4_lay_199 : decode cX4_lay 199 = .ok (.iload 4, 2) := by decide +kernel
theorem dX4_lay_201 : decode cX4_lay 201 = .ok (.ifCond .eq 8, 3) := by decide +kernel
theorem dX4_lay_204 : decode cX4_lay 204 = .ok (.iload 6, 2) := by decide +kernel
theorem dX4_lay_206 : decode cX4_lay 206 = .ok (.ifCond .ne 6, 3) := by decide +kernel
theorem dX4_lay_209 : decode cX4_lay 209 = .ok (.bipush (-2), 2) := by decide +kernel
theorem dX4_lay_211 : decode cX4_lay 211 = .ok (.ireturn, 1) := by decide +kernel
theorem dX4_lay_212 : decode cX4_lay 212 = .ok (.aload_n 0, 1) := by decide +kernel
theorem dX4_lay_213 : decode cX4_lay 213 = .ok (.iload_n 1, 1) := by decide +kernel
theorem dX4_lay_214 : decode cX4_lay 214 = .ok (.iload 6, 2) := by decide +kernel
theorem dX4_lay_216 : decode cX4_lay 216 = .ok (.iload_n 2, 1) := by decide +kernel
theorem dX4_lay_217 : decode cX4_lay 217 = .ok (.invokevirtual 114, 3) := by decide +kernel
theorem dX4_lay_220 : decode cX4_lay 220 = .ok (.istore 7, 2) := by decide +kernel
theorem dX4_lay_222 : decode cX4_lay 222 = .ok (.iconst 0, 1) := by decide +kernel
theorem dX4_lay_223 : decode cX4_lay 223 = .ok (.istore 8, 2) := by decide +kernel
theorem dX4_lay_225 : decode cX4_lay 225 = .ok (.iload 8, 2) := by decide +kernel
theorem dX4_lay_227 : decode cX4_lay 227 = .ok (.aload_n 0, 1) := by decide +kernel
theorem dX4_lay_228 : decode cX4_lay 228 = .ok (.getfield 125, 3) := by decide +kernel
theorem dX4_lay_231 : decode cX4_lay 231 = .ok (.if_icmp .ge 22, 3) := by decide +kernel
theorem dX4_lay_234 : decode cX4_lay 234 = .ok (.aload_n 0, 1) := by decide +kernel
theorem dX4_lay_235 : decode cX4_lay 235 = .ok (.iload 7, 2) := by decide +kernel
theorem dX4_lay_237 : decode cX4_lay 237 = .ok (.aload_n 0, 1) := by decide +kernel
theorem dX4_lay_238 : decode cX4_lay 238 = .ok (.getfield 54, 3) := by decide +kernel
theorem dX4_lay_241 : decode cX4_lay 241 = .ok (.iload 8, 2) := by decide +kernel
theorem dX4_lay_243 : decode cX4_lay 243 = .ok (.iaload, 1) := by decide +kernel
theorem dX4_lay_244 : decode cX4_lay 244 = .ok (.invokevirtual 132, 3) := by decide +kernel
theorem dX4_lay_247 : decode cX4_lay 247 = .ok (.iinc 8 1, 3) := by decide +kernel
theorem dX4_lay_250 : decode cX4_lay 250 = .ok (.goto (-25), 3) := by decide +kernel
theorem dX4_lay_253 : decode cX4_lay 253 = .ok (.aload_n 0, 1) := by decide +kernel
theorem dX4_lay_254 : decode cX4_lay 254 = .ok (.iconst 0, 1) := by decide +kernel
theorem dX4_lay_255 : decode cX4_lay 255 = .ok (.putfield 125, 3) := by decide +kernel
theorem dX4_lay_258 : decode cX4_lay 258 = .ok (.iload 7, 2) := by decide +kernel
theorem dX4_lay_260 : decode cX4_lay 260 = .ok (.ireturn, 1) := by decide +kernel
theorem dX4_putIn_0 : decode cX4_putIn 0 = .ok (.aload_n 0, 1) := by decide +kernel
theorem dX4_putIn_1 : decode cX4_putIn 1 = .ok (.getfield 29, 3) := by decide +kernel
theorem dX4_putIn_4 : decode cX4_putIn 4 = .ok (.bipush 9, 2) := by decide +kernel
theorem dX4_putIn_6 : decode cX4_putIn 6 = .ok (.iload_n 1, 1) := by decide +kernel
theorem dX4_putIn_7 : decode cX4_putIn 7 = .ok (.imul, 1) := by decide +kernel
theorem dX4_putIn_8 : decode cX4_putIn 8 = .ok (.aload_n 0, 1) := by decide +kernel
theorem dX4_putIn_9 : decode cX4_putIn 9 = .ok (.getfield 26, 3) := by decide +kernel
theorem dX4_putIn_12 : decode cX4_putIn 12 = .ok (.iload_n 1, 1) := by decide +kernel
theorem dX4_putIn_13 : decode cX4_putIn 13 = .ok (.iaload, 1) := by decide +kernel
theorem dX4_putIn_14 : decode cX4_putIn 14 = .ok (.iadd, 1) := by decide +kernel
theorem dX4_putIn_15 : decode cX4_putIn 15 = .ok (.iload_n 2, 1) := by decide +kernel
theorem dX4_putIn_16 : decode cX4_putIn 16 = .ok (.iastore, 1) := by decide +kernel
theorem dX4_putIn_17 : decode cX4_putIn 17 = .ok (.aload_n 0, 1) := by decide +kernel
theorem dX4_putIn_18 : decode cX4_putIn 18 = .ok (.getfield 26, 3) := by decide +kernel
theorem dX4_putIn_21 : decode cX4_putIn 21 = .ok (.iload_n 1, 1) := by decide +kernel
theorem dX4_putIn_22 : decode cX4_putIn 22 = .ok (.dup2, 1) := by decide +kernel
theorem dX4_putIn_23 : decode cX4_putIn 23 = .ok (.iaload, 1) := by decide +kernel
theorem dX4_putIn_24 : decode cX4_putIn 24 = .ok (.iconst 1, 1) := by decide +kernel
theorem dX4_putIn_25 : decode cX4_putIn 25 = .ok (.iadd, 1) := by decide +kernel
theorem dX4_putIn_26 : decode cX4_putIn 26 = .ok (.iastore, 1) := by decide +kernel
theorem dX4_putIn_27 : decode cX4_putIn 27 = .ok (.aload_n 0, 1) := by decide +kernel
theorem dX4_putIn_28 : decode cX4_putIn 28 = .ok (.getfield 19, 3) := by decide +kernel
theorem dX4_putIn_31 : decode cX4_putIn 31 = .ok (.iload_n 2, 1) := by decide +kernel
theorem dX4_putIn_32 : decode cX4_putIn 32 = .ok (.iconst 1, 1) := by decide +kernel
theorem dX4_putIn_33 : decode cX4_putIn 33 = .ok (.iastore, 1) := by decide +kernel
theorem dX4_putIn_34 : decode cX4_putIn 34 = .ok (.aload_n 0, 1) := by decide +kernel
theorem dX4_putIn_35 : decode cX4_putIn 35 = .ok (.getfield 32, 3) := by decide +kernel
theorem dX4_putIn_38 : decode cX4_putIn 38 = .ok (.iload_n 2, 1) := by decide +kernel
theorem dX4_putIn_39 : decode cX4_putIn 39 = .ok (.iload_n 1, 1) := by decide +kernel
theorem dX4_putIn_40 : decode cX4_putIn 40 = .ok (.iastore, 1) := by decide +kernel
theorem dX4_putIn_41 : decode cX4_putIn 41 = .ok (.return_, 1) := by decide +kernel
theorem dX4_isThick_0 : decode cX4_isThick 0 = .ok (.aload_n 0, 1) := by decide +kernel
theorem dX4_isThick_1 : decode cX4_isThick 1 = .ok (.getfield 9, 3) := by decide +kernel
theorem dX4_isThick_4 : decode cX4_isThick 4 = .ok (.iload_n 1, 1) := by decide +kernel
theorem dX4_isThick_5 : decode cX4_isThick 5 = .ok (.iaload, 1) := by decide +kernel
theorem dX4_isThick_6 : decode cX4_isThick 6 = .ok (.iconst 2, 1) := by decide +kernel
theorem dX4_isThick_7 : decode cX4_isThick 7 = .ok (.if_icmp .eq 23, 3) := by decide +kernel
theorem dX4_isThick_10 : decode cX4_isThick 10 = .ok (.aload_n 0, 1) := by decide +kernel
theorem dX4_isThick_11 : decode cX4_isThick 11 = .ok (.getfield 9, 3) := by decide +kernel
theorem dX4_isThick_14 : decode cX4_isThick 14 = .ok (.iload_n 1, 1) := by decide +kernel
theorem dX4_isThick_15 : decode cX4_isThick 15 = .ok (.iaload, 1) := by decide +kernel
theorem dX4_isThick_16 : decode cX4_isThick 16 = .ok (.iconst 3, 1) := by decide +kernel
theorem dX4_isThick_17 : decode cX4_isThick 17 = .ok (.if_icmp .eq 13, 3) := by decide +kernel
theorem dX4_isThick_20 : decode cX4_isThick 20 = .ok (.aload_n 0, 1) := by decide +kernel
theorem dX4_isThick_21 : decode cX4_isThick 21 = .ok (.getfield 9, 3) := by decide +kernel
theorem dX4_isThick_24 : decode cX4_isThick 24 = .ok (.iload_n 1, 1) := by decide +kernel
theorem dX4_isThick_25 : decode cX4_isThick 25 = .ok (.iaload, 1) := by decide +kernel
theorem dX4_isThick_26 : decode cX4_isThick 26 = .ok (.iconst 5, 1) := by decide +kernel
theorem dX4_isThick_27 : decode cX4_isThick 27 = .ok (.if_icmp .ne 7, 3) := by decide +kernel
theorem dX4_isThick_30 : decode cX4_isThick 30 = .ok (.iconst 1, 1) := by decide +kernel
theorem dX4_isThick_31 : decode cX4_isThick 31 = .ok (.goto 4, 3) := by decide +kernel
theorem dX4_isThick_34 : decode cX4_isThick 34 = .ok (.iconst 0, 1) := by decide +kernel
theorem dX4_isThick_35 : decode cX4_isThick 35 = .ok (.ireturn, 1) := by decide +kernel
theorem dX4_splice_0 : decode cX4_splice 0 = .ok (.aload_n 0, 1) := by decide +kernel
theorem dX4_splice_1 : decode cX4_splice 1 = .ok (.iload_n 1, 1) := by decide +kernel
theorem dX4_splice_2 : decode cX4_splice 2 = .ok (.invokevirtual 122, 3) := by decide +kernel
theorem dX4_splice_5 : decode cX4_splice 5 = .ok (.ifCond .eq 72, 3) := by decide +kernel
theorem dX4_splice_8 : decode cX4_splice 8 = .ok (.aload_n 0, 1) := by decide +kernel
theorem dX4_splice_9 : decode cX4_splice 9 = .ok (.iload_n 2, 1) := by decide +kernel
theorem dX4_splice_10 : decode cX4_splice 10 = .ok (.invokevirtual 122, 3) := by decide +kernel
theorem dX4_splice_13 : decode cX4_splice 13 = .ok (.ifCond .eq 64, 3) := by decide +kernel
theorem dX4_splice_16 : decode cX4_splice 16 = .ok (.iload_n 1, 1) := by decide +kernel
theorem dX4_splice_17 : decode cX4_splice 17 = .ok (.iload_n 2, 1) := by decide +kernel
theorem dX4_splice_18 : decode cX4_splice 18 = .ok (.if_icmp .eq 59, 3) := by decide +kernel
theorem dX4_splice_21 : decode cX4_splice 21 = .ok (.aload_n 0, 1) := by decide +kernel
theorem dX4_splice_22 : decode cX4_splice 22 = .ok (.iload_n 1, 1) := by decide +kernel
theorem dX4_splice_23 : decode cX4_splice 23 = .ok (.invokevirtual 136, 3) := by decide +kernel
theorem dX4_splice_26 : decode cX4_splice 26 = .ok (.ifCond .eq 51, 3) := by decide +kernel
theorem dX4_splice_29 : decode cX4_splice 29 = .ok (.aload_n 0, 1) := by decide +kernel
theorem dX4_splice_30 : decode cX4_splice 30 = .ok (.iload_n 2, 1) := by decide +kernel
theorem dX4_splice_31 : decode cX4_splice 31 = .ok (.invokevirtual 136, 3) := by decide +kernel
theorem dX4_splice_34 : decode cX4_splice 34 = .ok (.ifCond .eq 43, 3) := by decide +kernel
theorem dX4_splice_37 : decode cX4_splice 37 = .ok (.aload_n 0, 1) := by decide +kernel
theorem dX4_splice_38 : decode cX4_splice 38 = .ok (.getfield 16, 3) := by decide +kernel
theorem dX4_splice_41 : decode cX4_splice 41 = .ok (.iload_n 1, 1) := by decide +kernel
theorem dX4_splice_42 : decode cX4_splice 42 = .ok (.iaload, 1) := by decide +kernel
theorem dX4_splice_43 : decode cX4_splice 43 = .ok (.aload_n 0, 1) := by decide +kernel
theorem dX4_splice_44 : decode cX4_splice 44 = .ok (.getfield 16, 3) := by decide +kernel
theorem dX4_splice_47 : decode cX4_splice 47 = .ok (.iload_n 2, 1) := by decide +kernel
theorem dX4_splice_48 : decode cX4_splice 48 = .ok (.iaload, 1) := by decide +kernel
theorem dX4_splice_49 : decode cX4_splice 49 = .ok (.if_icmp .ne 28, 3) := by decide +kernel
theorem dX4_splice_52 : decode cX4_splice 52 = .ok (.iload_n 3, 1) := by decide +kernel
theorem dX4_splice_53 : decode cX4_splice 53 = .ok (.iconst 1, 1) := by decide +kernel
theorem dX4_splice_54 : decode cX4_splice 54 = .ok (.if_icmp .lt 23, 3) := by decide +kernel
theorem dX4_splice_57 : decode cX4_splice 57 = .ok (.iload_n 3, 1) := by decide +kernel
theorem dX4_splice_58 : decode cX4_splice 58 = .ok (.aload_n 0, 1) := by decide +kernel
theorem dX4_splice_59 : decode cX4_splice 59 = .ok (.getfield 13, 3) := by decide +kernel
theorem dX4_splice_62 : decode cX4_splice 62 = .ok (.iload_n 1, 1) := by decide +kernel
theorem dX4_splice_63 : decode cX4_splice 63 = .ok (.iaload, 1) := by decide +kernel
theorem dX4_splice_64 : decode cX4_splice 64 = .ok (.if_icmp .gt 13, 3) := by decide +kernel
theorem dX4_splice_67 : decode cX4_splice 67 = .ok (.iload_n 3, 1) := by decide +kernel
theorem dX4_splice_68 : decode cX4_splice 68 = .ok (.aload_n 0, 1) := by decide +kernel
theorem dX4_splice_69 : decode cX4_splice 69 = .ok (.getfield 13, 3) := by decide +kernel
theorem dX4_splice_72 : decode cX4_splice 72 = .ok (.iload_n 2, 1) := by decide +kernel
theorem dX4_splice_73 : decode cX4_splice 73 = .ok (.iaload, 1) := by decide +kernel
theorem dX4_splice_74 : decode cX4_splice 74 = .ok (.if_icmp .le 6, 3) := by decide +kernel
theorem dX4_splice_77 : decode cX4_splice 77 = .ok (.bipush (-2), 2) := by decide +kernel
theorem dX4_splice_79 : decode cX4_splice 79 = .ok (.ireturn, 1) := by decide +kernel
theorem dX4_splice_80 : decode cX4_splice 80 = .ok (.aload_n 0, 1) := by decide +kernel
theorem dX4_splice_81 : decode cX4_splice 81 = .ok (.getfield 13, 3) := by decide +kernel
theorem dX4_splice_84 : decode cX4_splice 84 = .ok (.iload_n 1, 1) := by decide +kernel
theorem dX4_splice_85 : decode cX4_splice 85 = .ok (.iaload, 1) := by decide +kernel
theorem dX4_splice_86 : decode cX4_splice 86 = .ok (.aload_n 0, 1) := by decide +kernel
theorem dX4_splice_87 : decode cX4_splice 87 = .ok (.getfield 13, 3) := by decide +kernel
theorem dX4_splice_90 : decode cX4_splice 90 = .ok (.iload_n 2, 1) := by decide +kernel
theorem dX4_splice_91 : decode cX4_splice 91 = .ok (.iaload, 1) := by decide +kernel
theorem dX4_splice_92 : decode cX4_splice 92 = .ok (.iadd, 1) := by decide +kernel
theorem dX4_splice_93 : decode cX4_splice 93 = .ok (.iload_n 3, 1) := by decide +kernel
theorem dX4_splice_94 : decode cX4_splice 94 = .ok (.isub, 1) := by decide +kernel
theorem dX4_splice_95 : decode cX4_splice 95 = .ok (.istore 4, 2) := by decide +kernel
theorem dX4_splice_97 : decode cX4_splice 97 = .ok (.iload 4, 2) := by decide +kernel
theorem dX4_splice_99 : decode cX4_splice 99 = .ok (.sipush 2000, 3) := by decide +kernel
theorem dX4_splice_102 : decode cX4_splice 102 = .ok (.if_icmp .gt 12, 3) := by decide +kernel
theorem dX4_splice_105 : decode cX4_splice 105 = .ok (.aload_n 0, 1) := by decide +kernel
theorem dX4_splice_106 : decode cX4_splice 106 = .ok (.getfield 105, 3) := by decide +kernel
theorem dX4_splice_109 : decode cX4_splice 109 = .ok (.bipush 120, 2) := by decide +kernel
theorem dX4_splice_111 : decode cX4_splice 111 = .ok (.if_icmp .ne 6, 3) := by decide +kernel
theorem dX4_splice_114 : decode cX4_splice 114 = .ok (.bipush (-2), 2) := by decide +kernel
theorem dX4_splice_116 : decode cX4_splice 116 = .ok (.ireturn, 1) := by decide +kernel
theorem dX4_splice_117 : decode cX4_splice 117 = .ok (.aload_n 0, 1) := by decide +kernel
theorem dX4_splice_118 : decode cX4_splice 118 = .ok (.iconst 5, 1) := by decide +kernel
theorem dX4_splice_119 : decode cX4_splice 119 = .ok (.iload 4, 2) := by decide +kernel
theorem dX4_splice_121 : decode cX4_splice 121 = .ok (.aload_n 0, 1) := by decide +kernel
theorem dX4_splice_122 : decode cX4_splice 122 = .ok (.getfield 16, 3) := by decide +kernel
theorem dX4_splice_125 : decode cX4_splice 125 = .ok (.iload_n 1, 1) := by decide +kernel
theorem dX4_splice_126 : decode cX4_splice 126 = .ok (.iaload, 1) := by decide +kernel
theorem dX4_splice_127 : decode cX4_splice 127 = .ok (.invokevirtual 114, 3) := by decide +kernel
theorem dX4_splice_130 : decode cX4_splice 130 = .ok (.istore 5, 2) := by decide +kernel
theorem dX4_splice_132 : decode cX4_splice 132 = .ok (.aload_n 0, 1) := by decide +kernel
theorem dX4_splice_133 : decode cX4_splice 133 = .ok (.getfield 35, 3) := by decide +kernel
theorem dX4_splice_136 : decode cX4_splice 136 = .ok (.iload 5, 2) := by decide +kernel
theorem dX4_splice_138 : decode cX4_splice 138 = .ok (.iload_n 3, 1) := by decide +kernel
theorem dX4_splice_139 : decode cX4_splice 139 = .ok (.iastore, 1) := by decide +kernel
theorem dX4_splice_140 : decode cX4_splice 140 = .ok (.aload_n 0, 1) := by decide +kernel
theorem dX4_splice_141 : decode cX4_splice 141 = .ok (.iload 5, 2) := by decide +kernel
theorem dX4_splice_143 : decode cX4_splice 143 = .ok (.iload_n 1, 1) := by decide +kernel
theorem dX4_splice_144 : decode cX4_splice 144 = .ok (.invokevirtual 132, 3) := by decide +kernel
theorem dX4_splice_147 : decode cX4_splice 147 = .ok (.aload_n 0, 1) := by decide +kernel
theorem dX4_splice_148 : decode cX4_splice 148 = .ok (.iload 5, 2) := by decide +kernel
theorem dX4_splice_150 : decode cX4_splice 150 = .ok (.iload_n 2, 1) := by decide +kernel
theorem dX4_splice_151 : decode cX4_splice 151 = .ok (.invokevirtual 132, 3) := by decide +kernel
theorem dX4_splice_154 : decode cX4_splice 154 = .ok (.iload 5, 2) := by decide +kernel
theorem dX4_splice_156 : decode cX4_splice 156 = .ok (.ireturn, 1) := by decide +kernel
theorem dX4_untwist_0 : decode cX4_untwist 0 = .ok (.aload_n 0, 1) := by decide +kernel
theorem dX4_untwist_1 : decode cX4_untwist 1 = .ok (.iload_n 1, 1) := by decide +kernel
theorem dX4_untwist_2 : decode cX4_untwist 2 = .ok (.invokevirtual 122, 3) := by decide +kernel
theorem dX4_untwist_5 : decode cX4_untwist 5 = .ok (.ifCond .eq 12, 3) := by decide +kernel
theorem dX4_untwist_8 : decode cX4_untwist 8 = .ok (.aload_n 0, 1) := by decide +kernel
theorem dX4_untwist_9 : decode cX4_untwist 9 = .ok (.getfield 26, 3) := by decide +kernel
theorem dX4_untwist_12 : decode cX4_untwist 12 = .ok (.iload_n 1, 1) := by decide +kernel
theorem dX4_untwist_13 : decode cX4_untwist 13 = .ok (.iaload, 1) := by decide +kernel
theorem dX4_untwist_14 : decode cX4_untwist 14 = .ok (.ifCond .ne 6, 3) := by decide +kernel
theorem dX4_untwist_17 : decode cX4_untwist 17 = .ok (.bipush (-2), 2) := by decide +kernel
theorem dX4_untwist_19 : decode cX4_untwist 19 = .ok (.ireturn, 1) := by decide +kernel
theorem dX4_untwist_20 : decode cX4_untwist 20 = .ok (.aload_n 0, 1) := by decide +kernel
theorem dX4_untwist_21 : decode cX4_untwist 21 = .ok (.getfield 19, 3) := by decide +kernel
theorem dX4_untwist_24 : decode cX4_untwist 24 = .ok (.iload_n 1, 1) := by decide +kernel
theorem dX4_untwist_25 : decode cX4_untwist 25 = .ok (.iconst 3, 1) := by decide +kernel
theorem dX4_untwist_26 : decode cX4_untwist 26 = .ok (.iastore, 1) := by decide +kernel
theorem dX4_untwist_27 : decode cX4_untwist 27 = .ok (.iconst 0, 1) := by decide +kernel
theorem dX4_untwist_28 : decode cX4_untwist 28 = .ok (.istore_n 2, 1) := by decide +kernel
theorem dX4_untwist_29 : decode cX4_untwist 29 = .ok (.iload_n 2, 1) := by decide +kernel
theorem dX4_untwist_30 : decode cX4_untwist 30 = .ok (.aload_n 0, 1) := by decide +kernel
theorem dX4_untwist_31 : decode cX4_untwist 31 = .ok (.getfield 26, 3) := by decide +kernel
theorem dX4_untwist_34 : decode cX4_untwist 34 = .ok (.iload_n 1, 1) := by decide +kernel
theorem dX4_untwist_35 : decode cX4_untwist 35 = .ok (.iaload, 1) := by decide +kernel
theorem dX4_untwist_36 : decode cX4_untwist 36 = .ok (.if_icmp .ge 35, 3) := by decide +kernel
theorem dX4_untwist_39 : decode cX4_untwist 39 = .ok (.aload_n 0, 1) := by decide +kernel
theorem dX4_untwist_40 : decode cX4_untwist 40 = .ok (.getfield 29, 3) := by decide +kernel
theorem dX4_untwist_43 : decode cX4_untwist 43 = .ok (.bipush 9, 2) := by decide +kernel
theorem dX4_untwist_45 : decode cX4_untwist 45 = .ok (.iload_n 1, 1) := by decide +kernel
theorem dX4_untwist_46 : decode cX4_untwist 46 = .ok (.imul, 1) := by decide +kernel
theorem dX4_untwist_47 : decode cX4_untwist 47 = .ok (.iload_n 2, 1) := by decide +kernel
theorem dX4_untwist_48 : decode cX4_untwist 48 = .ok (.iadd, 1) := by decide +kernel
theorem dX4_untwist_49 : decode cX4_untwist 49 = .ok (.iaload, 1) := by decide +kernel
theorem dX4_untwist_50 : decode cX4_untwist 50 = .ok (.istore_n 3, 1) := by decide +kernel
theorem dX4_untwist_51 : decode cX4_untwist 51 = .ok (.aload_n 0, 1) := by decide +kernel
theorem dX4_untwist_52 : decode cX4_untwist 52 = .ok (.getfield 19, 3) := by decide +kernel
theorem dX4_untwist_55 : decode cX4_untwist 55 = .ok (.iload_n 3, 1) := by decide +kernel
theorem dX4_untwist_56 : decode cX4_untwist 56 = .ok (.iconst 0, 1) := by decide +kernel
theorem dX4_untwist_57 : decode cX4_untwist 57 = .ok (.iastore, 1) := by decide +kernel
theorem dX4_untwist_58 : decode cX4_untwist 58 = .ok (.aload_n 0, 1) := by decide +kernel
theorem dX4_untwist_59 : decode cX4_untwist 59 = .ok (.getfield 32, 3) := by decide +kernel
theorem dX4_untwist_62 : decode cX4_untwist 62 = .ok (.iload_n 3, 1) := by decide +kernel
theorem dX4_untwist_63 : decode cX4_untwist 63 = .ok (.iconst (-1), 1) := by decide +kernel
theorem dX4_untwist_64 : decode cX4_untwist 64 = .ok (.iastore, 1) := by decide +kernel
theorem dX4_untwist_65 : decode cX4_untwist 65 = .ok (.iinc 2 1, 3) := by decide +kernel
theorem dX4_untwist_68 : decode cX4_untwist 68 = .ok (.goto (-39), 3) := by decide +kernel
theorem dX4_untwist_71 : decode cX4_untwist 71 = .ok (.aload_n 0, 1) := by decide +kernel
theorem dX4_untwist_72 : decode cX4_untwist 72 = .ok (.getfield 26, 3) := by decide +kernel
theorem dX4_untwist_75 : decode cX4_untwist 75 = .ok (.iload_n 1, 1) := by decide +kernel
theorem dX4_untwist_76 : decode cX4_untwist 76 = .ok (.iaload, 1) := by decide +kernel
theorem dX4_untwist_77 : decode cX4_untwist 77 = .ok (.ireturn, 1) := by decide +kernel
theorem dX4_weight_0 : decode cX4_weight 0 = .ok (.iconst 0, 1) := by decide +kernel
theorem dX4_weight_1 : decode cX4_weight 1 = .ok (.istore_n 2, 1) := by decide +kernel
theorem dX4_weight_2 : decode cX4_weight 2 = .ok (.iload_n 2, 1) := by decide +kernel
theorem dX4_weight_3 : decode cX4_weight 3 = .ok (.iload_n 1, 1) := by decide +kernel
theorem dX4_weight_4 : decode cX4_weight 4 = .ok (.if_icmp .gt 118, 3) := by decide +kernel
theorem dX4_weight_7 : decode cX4_weight 7 = .ok (.iconst 0, 1) := by decide +kernel
theorem dX4_weight_8 : decode cX4_weight 8 = .ok (.istore_n 3, 1) := by decide +kernel
theorem dX4_weight_9 : decode cX4_weight 9 = .ok (.iconst 0, 1) := by decide +kernel
theorem dX4_weight_10 : decode cX4_weight 10 = .ok (.istore 4, 2) := by decide +kernel
theorem dX4_weight_12 : decode cX4_weight 12 = .ok (.iload 4, 2) := by decide +kernel
theorem dX4_weight_14 : decode cX4_weight 14 = .ok (.aload_n 0, 1) := by decide +kernel
theorem dX4_weight_15 : decode cX4_weight 15 = .ok (.getfield 26, 3) := by decide +kernel
theorem dX4_weight_18 : decode cX4_weight 18 = .ok (.iload_n 2, 1) := by decide +kernel
theorem dX4_weight_19 : decode cX4_weight 19 = .ok (.iaload, 1) := by decide +kernel
theorem dX4_weight_20 : decode cX4_weight 20 = .ok (.if_icmp .ge 29, 3) := by decide +kernel
theorem dX4_weight_23 : decode cX4_weight 23 = .ok (.iload_n 3, 1) := by decide +kernel
theorem dX4_weight_24 : decode cX4_weight 24 = .ok (.aload_n 0, 1) := by decide +kernel
theorem dX4_weight_25 : decode cX4_weight 25 = .ok (.getfield 75, 3) := by decide +kernel
theorem dX4_weight_28 : decode cX4_weight 28 = .ok (.aload_n 0, 1) := by decide +kernel
theorem dX4_weight_29 : decode cX4_weight 29 = .ok (.getfield 29, 3) := by decide +kernel
theorem dX4_weight_32 : decode cX4_weight 32 = .ok (.bipush 9, 2) := by decide +kernel
theorem dX4_weight_34 : decode cX4_weight 34 = .ok (.iload_n 2, 1) := by decide +kernel
theorem dX4_weight_35 : decode cX4_weight 35 = .ok (.imul, 1) := by decide +kernel
theorem dX4_weight_36 : decode cX4_weight 36 = .ok (.iload 4, 2) := by decide +kernel
theorem dX4_weight_38 : decode cX4_weight 38 = .ok (.iadd, 1) := by decide +kernel
theorem dX4_weight_39 : decode cX4_weight 39 = .ok (.iaload, 1) := by decide +kernel
theorem dX4_weight_40 : decode cX4_weight 40 = .ok (.iaload, 1) := by decide +kernel
theorem dX4_weight_41 : decode cX4_weight 41 = .ok (.iadd, 1) := by decide +kernel
theorem dX4_weight_42 : decode cX4_weight 42 = .ok (.istore_n 3, 1) := by decide +kernel
theorem dX4_weight_43 : decode cX4_weight 43 = .ok (.iinc 4 1, 3) := by decide +kernel
theorem dX4_weight_46 : decode cX4_weight 46 = .ok (.goto (-34), 3) := by decide +kernel
theorem dX4_weight_49 : decode cX4_weight 49 = .ok (.aload_n 0, 1) := by decide +kernel
theorem dX4_weight_50 : decode cX4_weight 50 = .ok (.getfield 75, 3) := by decide +kernel
theorem dX4_weight_53 : decode cX4_weight 53 = .ok (.iload_n 2, 1) := by decide +kernel
theorem dX4_weight_54 : decode cX4_weight 54 = .ok (.aload_n 0, 1) := by decide +kernel
theorem dX4_weight_55 : decode cX4_weight 55 = .ok (.getfield 9, 3) := by decide +kernel
theorem dX4_weight_58 : decode cX4_weight 58 = .ok (.iload_n 2, 1) := by decide +kernel
theorem dX4_weight_59 : decode cX4_weight 59 = .ok (.iaload, 1) := by decide +kernel
theorem dX4_weight_60 : decode cX4_weight 60 = .ok (.ifCond .ne 12, 3) := by decide +kernel
theorem dX4_weight_63 : decode cX4_weight 63 = .ok (.aload_n 0, 1) := by decide +kernel
theorem dX4_weight_64 : decode cX4_weight 64 = .ok (.getfield 13, 3) := by decide +kernel
theorem dX4_weight_67 : decode cX4_weight 67 = .ok (.iload_n 2, 1) := by decide +kernel
theorem dX4_weight_68 : decode cX4_weight 68 = .ok (.iaload, 1) := by decide +kernel
theorem dX4_weight_69 : decode cX4_weight 69 = .ok (.goto 46, 3) := by decide +kernel
theorem dX4_weight_72 : decode cX4_weight 72 = .ok (.aload_n 0, 1) := by decide +kernel
theorem dX4_weight_73 : decode cX4_weight 73 = .ok (.getfield 9, 3) := by decide +kernel
theorem dX4_weight_76 : decode cX4_weight 76 = .ok (.iload_n 2, 1) := by decide +kernel
theorem dX4_weight_77 : decode cX4_weight 77 = .ok (.iaload, 1) := by decide +kernel
theorem dX4_weight_78 : decode cX4_weight 78 = .ok (.iconst 4, 1) := by decide +kernel
theorem dX4_weight_79 : decode cX4_weight 79 = .ok (.if_icmp .ne 14, 3) := by decide +kernel
theorem dX4_weight_82 : decode cX4_weight 82 = .ok (.iconst 2, 1) := by decide +kernel
theorem dX4_weight_83 : decode cX4_weight 83 = .ok (.aload_n 0, 1) := by decide +kernel
theorem dX4_weight_84 : decode cX4_weight 84 = .ok (.getfield 13, 3) := by decide +kernel
theorem dX4_weight_87 : decode cX4_weight 87 = .ok (.iload_n 2, 1) := by decide +kernel
theorem dX4_weight_88 : decode cX4_weight 88 = .ok (.iaload, 1) := by decide +kernel
theorem dX4_weight_89 : decode cX4_weight 89 = .ok (.imul, 1) := by decide +kernel
theorem dX4_weight_90 : decode cX4_weight 90 = .ok (.goto 25, 3) := by decide +kernel
theorem dX4_weight_93 : decode cX4_weight 93 = .ok (.aload_n 0, 1) := by decide +kernel
theorem dX4_weight_94 : decode cX4_weight 94 = .ok (.getfield 9, 3) := by decide +kernel
theorem dX4_weight_97 : decode cX4_weight 97 = .ok (.iload_n 2, 1) := by decide +kernel
theorem dX4_weight_98 : decode cX4_weight 98 = .ok (.iaload, 1) := by decide +kernel
theorem dX4_weight_99 : decode cX4_weight 99 = .ok (.iconst 3, 1) := by decide +kernel
theorem dX4_weight_100 : decode cX4_weight 100 = .ok (.if_icmp .ne 14, 3) := by decide +kernel
theorem dX4_weight_103 : decode cX4_weight 103 = .ok (.iload_n 3, 1) := by decide +kernel
theorem dX4_weight_104 : decode cX4_weight 104 = .ok (.aload_n 0, 1) := by decide +kernel
theorem dX4_weight_105 : decode cX4_weight 105 = .ok (.getfield 13, 3) := by decide +kernel
theorem dX4_weight_108 : decode cX4_weight 108 = .ok (.iload_n 2, 1) := by decide +kernel
theorem dX4_weight_109 : decode cX4_weight 109 = .ok (.iaload, 1) := by decide +kernel
theorem dX4_weight_110 : decode cX4_weight 110 = .ok (.iadd, 1) := by decide +kernel
theorem dX4_weight_111 : decode cX4_weight 111 = .ok (.goto 4, 3) := by decide +kernel
theorem dX4_weight_114 : decode cX4_weight 114 = .ok (.iload_n 3, 1) := by decide +kernel
theorem dX4_weight_115 : decode cX4_weight 115 = .ok (.iastore, 1) := by decide +kernel
theorem dX4_weight_116 : decode cX4_weight 116 = .ok (.iinc 2 1, 3) := by decide +kernel
theorem dX4_weight_119 : decode cX4_weight 119 = .ok (.goto (-117), 3) := by decide +kernel
theorem dX4_weight_122 : decode cX4_weight 122 = .ok (.aload_n 0, 1) := by decide +kernel
theorem dX4_weight_123 : decode cX4_weight 123 = .ok (.getfield 75, 3) := by decide +kernel
theorem dX4_weight_126 : decode cX4_weight 126 = .ok (.iload_n 1, 1) := by decide +kernel
theorem dX4_weight_127 : decode cX4_weight 127 = .ok (.iaload, 1) := by decide +kernel
theorem dX4_weight_128 : decode cX4_weight 128 = .ok (.ireturn, 1) := by decide +kernel
theorem dX4_of_0 : decode cX4_of 0 = .ok (.aload_n 0, 1) := by decide +kernel
theorem dX4_of_1 : decode cX4_of 1 = .ok (.iload_n 1, 1) := by decide +kernel
theorem dX4_of_2 : decode cX4_of 2 = .ok (.invokevirtual 109, 3) := by decide +kernel
theorem dX4_of_5 : decode cX4_of 5 = .ok (.ifCond .ne 6, 3) := by decide +kernel
theorem dX4_of_8 : decode cX4_of 8 = .ok (.bipush (-2), 2) := by decide +kernel
theorem dX4_of_10 : decode cX4_of 10 = .ok (.ireturn, 1) := by decide +kernel
theorem dX4_of_11 : decode cX4_of 11 = .ok (.iload_n 2, 1) := by decide +kernel
theorem dX4_of_12 : decode cX4_of 12 = .ok (.tableswitch 103 0 7 #[48, 55, 62, 69, 76, 83, 89, 96], 48) := by decide +kernel
theorem dX4_of_60 : decode cX4_of 60 = .ok (.aload_n 0, 1) := by decide +kernel
theorem dX4_of_61 : decode cX4_of 61 = .ok (.getfield 9, 3) := by decide +kernel
theorem dX4_of_64 : decode cX4_of 64 = .ok (.iload_n 1, 1) := by decide +kernel
theorem dX4_of_65 : decode cX4_of 65 = .ok (.iaload, 1) := by decide +kernel
theorem dX4_of_66 : decode cX4_of 66 = .ok (.ireturn, 1) := by decide +kernel
theorem dX4_of_67 : decode cX4_of 67 = .ok (.aload_n 0, 1) := by decide +kernel
theorem dX4_of_68 : decode cX4_of 68 = .ok (.getfield 13, 3) := by decide +kernel
theorem dX4_of_71 : decode cX4_of 71 = .ok (.iload_n 1, 1) := by decide +kernel
theorem dX4_of_72 : decode cX4_of 72 = .ok (.iaload, 1) := by decide +kernel
theorem dX4_of_73 : decode cX4_of 73 = .ok (.ireturn, 1) := by decide +kernel
theorem dX4_of_74 : decode cX4_of 74 = .ok (.aload_n 0, 1) := by decide +kernel
theorem dX4_of_75 : decode cX4_of 75 = .ok (.getfield 16, 3) := by decide +kernel
theorem dX4_of_78 : decode cX4_of 78 = .ok (.iload_n 1, 1) := by decide +kernel
theorem dX4_of_79 : decode cX4_of 79 = .ok (.iaload, 1) := by decide +kernel
theorem dX4_of_80 : decode cX4_of 80 = .ok (.ireturn, 1) := by decide +kernel
theorem dX4_of_81 : decode cX4_of 81 = .ok (.aload_n 0, 1) := by decide +kernel
theorem dX4_of_82 : decode cX4_of 82 = .ok (.getfield 19, 3) := by decide +kernel
theorem dX4_of_85 : decode cX4_of 85 = .ok (.iload_n 1, 1) := by decide +kernel
theorem dX4_of_86 : decode cX4_of 86 = .ok (.iaload, 1) := by decide +kernel
theorem dX4_of_87 : decode cX4_of 87 = .ok (.ireturn, 1) := by decide +kernel
theorem dX4_of_88 : decode cX4_of 88 = .ok (.aload_n 0, 1) := by decide +kernel
theorem dX4_of_89 : decode cX4_of 89 = .ok (.getfield 26, 3) := by decide +kernel
theorem dX4_of_92 : decode cX4_of 92 = .ok (.iload_n 1, 1) := by decide +kernel
theorem dX4_of_93 : decode cX4_of 93 = .ok (.iaload, 1) := by decide +kernel
theorem dX4_of_94 : decode cX4_of 94 = .ok (.ireturn, 1) := by decide +kernel
theorem dX4_of_95 : decode cX4_of 95 = .ok (.aload_n 0, 1) := by decide +kernel
theorem dX4_of_96 : decode cX4_of 96 = .ok (.iload_n 1, 1) := by decide +kernel
theorem dX4_of_97 : decode cX4_of 97 = .ok (.invokevirtual 139, 3) := by decide +kernel
theorem dX4_of_100 : decode cX4_of 100 = .ok (.ireturn, 1) := by decide +kernel
theorem dX4_of_101 : decode cX4_of 101 = .ok (.aload_n 0, 1) := by decide +kernel
theorem dX4_of_102 : decode cX4_of 102 = .ok (.getfield 32, 3) := by decide +kernel
theorem dX4_of_105 : decode cX4_of 105 = .ok (.iload_n 1, 1) := by decide +kernel
theorem dX4_of_106 : decode cX4_of 106 = .ok (.iaload, 1) := by decide +kernel
theorem dX4_of_107 : decode cX4_of 107 = .ok (.ireturn, 1) := by decide +kernel
theorem dX4_of_108 : decode cX4_of 108 = .ok (.aload_n 0, 1) := by decide +kernel
theorem dX4_of_109 : decode cX4_of 109 = .ok (.getfield 38, 3) := by decide +kernel
theorem dX4_of_112 : decode cX4_of 112 = .ok (.iload_n 1, 1) := by decide +kernel
theorem dX4_of_113 : decode cX4_of 113 = .ok (.iaload, 1) := by decide +kernel
theorem dX4_of_114 : decode cX4_of 114 = .ok (.ireturn, 1) := by decide +kernel
theorem dX4_of_115 : decode cX4_of 115 = .ok (.bipush (-2), 2) := by decide +kernel
theorem dX4_of_117 : decode cX4_of 117 = .ok (.ireturn, 1) := by decide +kernel
theorem dX4_part_0 : decode cX4_part 0 = .ok (.aload_n 0, 1) := by decide +kernel
theorem dX4_part_1 : decode cX4_part 1 = .ok (.iload_n 1, 1) := by decide +kernel
theorem dX4_part_2 : decode cX4_part 2 = .ok (.invokevirtual 109, 3) := by decide +kernel
theorem dX4_part_5 : decode cX4_part 5 = .ok (.ifCond .eq 17, 3) := by decide +kernel
theorem dX4_part_8 : decode cX4_part 8 = .ok (.iload_n 2, 1) := by decide +kernel
theorem dX4_part_9 : decode cX4_part 9 = .ok (.ifCond .lt 13, 3) := by decide +kernel
theorem dX4_part_12 : decode cX4_part 12 = .ok (.iload_n 2, 1) := by decide +kernel
theorem dX4_part_13 : decode cX4_part 13 = .ok (.aload_n 0, 1) := by decide +kernel
theorem dX4_part_14 : decode cX4_part 14 = .ok (.getfield 26, 3) := by decide +kernel
theorem dX4_part_17 : decode cX4_part 17 = .ok (.iload_n 1, 1) := by decide +kernel
theorem dX4_part_18 : decode cX4_part 18 = .ok (.iaload, 1) := by decide +kernel
theorem dX4_part_19 : decode cX4_part 19 = .ok (.if_icmp .lt 8, 3) := by decide +kernel
theorem dX4_part_22 : decode cX4_part 22 = .ok (.bipush (-2), 2) := by decide +kernel
theorem dX4_part_24 : decode cX4_part 24 = .ok (.goto 14, 3) := by decide +kernel
theorem dX4_part_27 : decode cX4_part 27 = .ok (.aload_n 0, 1) := by decide +kernel
theorem dX4_part_28 : decode cX4_part 28 = .ok (.getfield 29, 3) := by decide +kernel
theorem dX4_part_31 : decode cX4_part 31 = .ok (.bipush 9, 2) := by decide +kernel
theorem dX4_part_33 : decode cX4_part 33 = .ok (.iload_n 1, 1) := by decide +kernel
theorem dX4_part_34 : decode cX4_part 34 = .ok (.imul, 1) := by decide +kernel
theorem dX4_part_35 : decode cX4_part 35 = .ok (.iload_n 2, 1) := by decide +kernel
theorem dX4_part_36 : decode cX4_part 36 = .ok (.iadd, 1) := by decide +kernel
theorem dX4_part_37 : decode cX4_part 37 = .ok (.iaload, 1) := by decide +kernel
theorem dX4_part_38 : decode cX4_part 38 = .ok (.ireturn, 1) := by decide +kernel
theorem dX4_count_0 : decode cX4_count 0 = .ok (.iconst 0, 1) := by decide +kernel
theorem dX4_count_1 : decode cX4_count 1 = .ok (.istore_n 2, 1) := by decide +kernel
theorem dX4_count_2 : decode cX4_count 2 = .ok (.iload_n 1, 1) := by decide +kernel
theorem dX4_count_3 : decode cX4_count 3 = .ok (.ifCond .ne 8, 3) := by decide +kernel
theorem dX4_count_6 : decode cX4_count 6 = .ok (.aload_n 0, 1) := by decide +kernel
theorem dX4_count_7 : decode cX4_count 7 = .ok (.getfield 105, 3) := by decide +kernel
theorem dX4_count_10 : decode cX4_count 10 = .ok (.ireturn, 1) := by decide +kernel
theorem dX4_count_11 : decode cX4_count 11 = .ok (.iload_n 1, 1) := by decide +kernel
theorem dX4_count_12 : decode cX4_count 12 = .ok (.iconst 1, 1) := by decide +kernel
theorem dX4_count_13 : decode cX4_count 13 = .ok (.if_icmp .lt 46, 3) := by decide +kernel
theorem dX4_count_16 : decode cX4_count 16 = .ok (.iload_n 1, 1) := by decide +kernel
theorem dX4_count_17 : decode cX4_count 17 = .ok (.iconst 4, 1) := by decide +kernel
theorem dX4_count_18 : decode cX4_count 18 = .ok (.if_icmp .gt 41, 3) := by decide +kernel
theorem dX4_count_21 : decode cX4_count 21 = .ok (.iconst 0, 1) := by decide +kernel
theorem dX4_count_22 : decode cX4_count 22 = .ok (.istore_n 3, 1) := by decide +kernel
theorem dX4_count_23 : decode cX4_count 23 = .ok (.iload_n 3, 1) := by decide +kernel
theorem dX4_count_24 : decode cX4_count 24 = .ok (.aload_n 0, 1) := by decide +kernel
theorem dX4_count_25 : decode cX4_count 25 = .ok (.getfield 105, 3) := by decide +kernel
theorem dX4_count_28 : decode cX4_count 28 = .ok (.if_icmp .ge 29, 3) := by decide +kernel
theorem dX4_count_31 : decode cX4_count 31 = .ok (.iload_n 2, 1) := by decide +kernel
theorem dX4_count_32 : decode cX4_count 32 = .ok (.aload_n 0, 1) := by decide +kernel
theorem dX4_count_33 : decode cX4_count 33 = .ok (.getfield 19, 3) := by decide +kernel
theorem dX4_count_36 : decode cX4_count 36 = .ok (.iload_n 3, 1) := by decide +kernel
theorem dX4_count_37 : decode cX4_count 37 = .ok (.iaload, 1) := by decide +kernel
theorem dX4_count_38 : decode cX4_count 38 = .ok (.iload_n 1, 1) := by decide +kernel
theorem dX4_count_39 : decode cX4_count 39 = .ok (.iconst 1, 1) := by decide +kernel
theorem dX4_count_40 : decode cX4_count 40 = .ok (.isub, 1) := by decide +kernel
theorem dX4_count_41 : decode cX4_count 41 = .ok (.if_icmp .ne 7, 3) := by decide +kernel
theorem dX4_count_44 : decode cX4_count 44 = .ok (.iconst 1, 1) := by decide +kernel
theorem dX4_count_45 : decode cX4_count 45 = .ok (.goto 4, 3) := by decide +kernel
theorem dX4_count_48 : decode cX4_count 48 = .ok (.iconst 0, 1) := by decide +kernel
theorem dX4_count_49 : decode cX4_count 49 = .ok (.iadd, 1) := by decide +kernel
theorem dX4_count_50 : decode cX4_count 50 = .ok (.istore_n 2, 1) := by decide +kernel
theorem dX4_count_51 : decode cX4_count 51 = .ok (.iinc 3 1, 3) := by decide +kernel
theorem dX4_count_54 : decode cX4_count 54 = .ok (.goto (-31), 3) := by decide +kernel
theorem dX4_count_57 : decode cX4_count 57 = .ok (.iload_n 2, 1) := by decide +kernel
theorem dX4_count_58 : decode cX4_count 58 = .ok (.ireturn, 1) := by decide +kernel
theorem dX4_count_59 : decode cX4_count 59 = .ok (.iload_n 1, 1) := by decide +kernel
theorem dX4_count_60 : decode cX4_count 60 = .ok (.bipush 7, 2) := by decide +kernel
theorem dX4_count_62 : decode cX4_count 62 = .ok (.if_icmp .ne 38, 3) := by decide +kernel
theorem dX4_count_65 : decode cX4_count 65 = .ok (.iconst 0, 1) := by decide +kernel
theorem dX4_count_66 : decode cX4_count 66 = .ok (.istore_n 3, 1) := by decide +kernel
theorem dX4_count_67 : decode cX4_count 67 = .ok (.iload_n 3, 1) := by decide +kernel
theorem dX4_count_68 : decode cX4_count 68 = .ok (.aload_n 0, 1) := by decide +kernel
theorem dX4_count_69 : decode cX4_count 69 = .ok (.getfield 143, 3) := by decide +kernel
theorem dX4_count_72 : decode cX4_count 72 = .ok (.if_icmp .ge 26, 3) := by decide +kernel
theorem dX4_count_75 : decode cX4_count 75 = .ok (.iload_n 2, 1) := by decide +kernel
theorem dX4_count_76 : decode cX4_count 76 = .ok (.aload_n 0, 1) := by decide +kernel
theorem dX4_count_77 : decode cX4_count 77 = .ok (.getfield 66, 3) := by decide +kernel
theorem dX4_count_80 : decode cX4_count 80 = .ok (.iload_n 3, 1) := by decide +kernel
theorem dX4_count_81 : decode cX4_count 81 = .ok (.iaload, 1) := by decide +kernel
theorem dX4_count_82 : decode cX4_count 82 = .ok (.ifCond .lt 7, 3) := by decide +kernel
theorem dX4_count_85 : decode cX4_count 85 = .ok (.iconst 1, 1) := by decide +kernel
theorem dX4_count_86 : decode cX4_count 86 = .ok (.goto 4, 3) := by decide +kernel
theorem dX4_count_89 : decode cX4_count 89 = .ok (.iconst 0, 1) := by decide +kernel
theorem dX4_count_90 : decode cX4_count 90 = .ok (.iadd, 1) := by decide +kernel
theorem dX4_count_91 : decode cX4_count 91 = .ok (.istore_n 2, 1) := by decide +kernel
theorem dX4_count_92 : decode cX4_count 92 = .ok (.iinc 3 1, 3) := by decide +kernel
theorem dX4_count_95 : decode cX4_count 95 = .ok (.goto (-28), 3) := by decide +kernel
theorem dX4_count_98 : decode cX4_count 98 = .ok (.iload_n 2, 1) := by decide +kernel
theorem dX4_count_99 : decode cX4_count 99 = .ok (.ireturn, 1) := by decide +kernel
theorem dX4_count_100 : decode cX4_count 100 = .ok (.iload_n 1, 1) := by decide +kernel
theorem dX4_count_101 : decode cX4_count 101 = .ok (.iconst 5, 1) := by decide +kernel
theorem dX4_count_102 : decode cX4_count 102 = .ok (.if_icmp .ne 10, 3) := by decide +kernel
theorem dX4_count_105 : decode cX4_count 105 = .ok (.aload_n 0, 1) := by decide +kernel
theorem dX4_count_106 : decode cX4_count 106 = .ok (.getfield 125, 3) := by decide +kernel
theorem dX4_count_109 : decode cX4_count 109 = .ok (.goto 31, 3) := by decide +kernel
theorem dX4_count_112 : decode cX4_count 112 = .ok (.iload_n 1, 1) := by decide +kernel
theorem dX4_count_113 : decode cX4_count 113 = .ok (.bipush 6, 2) := by decide +kernel
theorem dX4_count_115 : decode cX4_count 115 = .ok (.if_icmp .ne 10, 3) := by decide +kernel
theorem dX4_count_118 : decode cX4_count 118 = .ok (.aload_n 0, 1) := by decide +kernel
theorem dX4_count_119 : decode cX4_count 119 = .ok (.getfield 143, 3) := by decide +kernel
theorem dX4_count_122 : decode cX4_count 122 = .ok (.goto 18, 3) := by decide +kernel
theorem dX4_count_125 : decode cX4_count 125 = .ok (.iload_n 1, 1) := by decide +kernel
theorem dX4_count_126 : decode cX4_count 126 = .ok (.bipush 8, 2) := by decide +kernel
theorem dX4_count_128 : decode cX4_count 128 = .ok (.if_icmp .ne 10, 3) := by decide +kernel
theorem dX4_count_131 : decode cX4_count 131 = .ok (.aload_n 0, 1) := by decide +kernel
theorem dX4_count_132 : decode cX4_count 132 = .ok (.getfield 146, 3) := by decide +kernel
theorem dX4_count_135 : decode cX4_count 135 = .ok (.goto 5, 3) := by decide +kernel
theorem dX4_count_138 : decode cX4_count 138 = .ok (.bipush (-2), 2) := by decide +kernel
theorem dX4_count_140 : decode cX4_count 140 = .ok (.ireturn, 1) := by decide +kernel
theorem dX4_row_0 : decode cX4_row 0 = .ok (.aload_n 0, 1) := by decide +kernel
theorem dX4_row_1 : decode cX4_row 1 = .ok (.iload_n 1, 1) := by decide +kernel
theorem dX4_row_2 : decode cX4_row 2 = .ok (.invokevirtual 149, 3) := by decide +kernel
theorem dX4_row_5 : decode cX4_row 5 = .ok (.ifCond .eq 9, 3) := by decide +kernel
theorem dX4_row_8 : decode cX4_row 8 = .ok (.iload_n 2, 1) := by decide +kernel
theorem dX4_row_9 : decode cX4_row 9 = .ok (.bipush 8, 2) := by decide +kernel
theorem dX4_row_11 : decode cX4_row 11 = .ok (.if_icmp .le 6, 3) := by decide +kernel
theorem dX4_row_14 : decode cX4_row 14 = .ok (.bipush (-2), 2) := by decide +kernel
theorem dX4_row_16 : decode cX4_row 16 = .ok (.ireturn, 1) := by decide +kernel
theorem dX4_row_17 : decode cX4_row 17 = .ok (.iload_n 2, 1) := by decide +kernel
theorem dX4_row_18 : decode cX4_row 18 = .ok (.ifCond .ge 6, 3) := by decide +kernel
theorem dX4_row_21 : decode cX4_row 21 = .ok (.bipush (-13), 2) := by decide +kernel
theorem dX4_row_23 : decode cX4_row 23 = .ok (.ireturn, 1) := by decide +kernel
theorem dX4_row_24 : decode cX4_row 24 = .ok (.aload_n 0, 1) := by decide +kernel
theorem dX4_row_25 : decode cX4_row 25 = .ok (.getfield 38, 3) := by decide +kernel
theorem dX4_row_28 : decode cX4_row 28 = .ok (.iload_n 1, 1) := by decide +kernel
theorem dX4_row_29 : decode cX4_row 29 = .ok (.iload_n 2, 1) := by decide +kernel
theorem dX4_row_30 : decode cX4_row 30 = .ok (.iastore, 1) := by decide +kernel
theorem dX4_row_31 : decode cX4_row 31 = .ok (.iconst 0, 1) := by decide +kernel
theorem dX4_row_32 : decode cX4_row 32 = .ok (.istore_n 3, 1) := by decide +kernel
theorem dX4_row_33 : decode cX4_row 33 = .ok (.iload_n 3, 1) := by decide +kernel
theorem dX4_row_34 : decode cX4_row 34 = .ok (.bipush 8, 2) := by decide +kernel
theorem dX4_row_36 : decode cX4_row 36 = .ok (.if_icmp .ge 21, 3) := by decide +kernel
theorem dX4_row_39 : decode cX4_row 39 = .ok (.aload_n 0, 1) := by decide +kernel
theorem dX4_row_40 : decode cX4_row 40 = .ok (.getfield 41, 3) := by decide +kernel
theorem dX4_row_43 : decode cX4_row 43 = .ok (.bipush 8, 2) := by decide +kernel
theorem dX4_row_45 : decode cX4_row 45 = .ok (.iload_n 1, 1) := by decide +kernel
theorem dX4_row_46 : decode cX4_row 46 = .ok (.imul, 1) := by decide +kernel
theorem dX4_row_47 : decode cX4_row 47 = .ok (.iload_n 3, 1) := by decide +kernel
theorem dX4_row_48 : decode cX4_row 48 = .ok (.iadd, 1) := by decide +kernel
theorem dX4_row_49 : decode cX4_row 49 = .ok (.iconst 0, 1) := by decide +kernel
theorem dX4_row_50 : decode cX4_row 50 = .ok (.bastore, 1) := by decide +kernel
theorem dX4_row_51 : decode cX4_row 51 = .ok (.iinc 3 1, 3) := by decide +kernel
theorem dX4_row_54 : decode cX4_row 54 = .ok (.goto (-21), 3) := by decide +kernel
theorem dX4_row_57 : decode cX4_row 57 = .ok (.iload_n 2, 1) := by decide +kernel
theorem dX4_row_58 : decode cX4_row 58 = .ok (.ireturn, 1) := by decide +kernel
theorem dX4_lose_0 : decode cX4_lose 0 = .ok (.aload_n 0, 1) := by decide +kernel
theorem dX4_lose_1 : decode cX4_lose 1 = .ok (.iload_n 1, 1) := by decide +kernel
theorem dX4_lose_2 : decode cX4_lose 2 = .ok (.invokevirtual 149, 3) := by decide +kernel
theorem dX4_lose_5 : decode cX4_lose 5 = .ok (.ifCond .ne 6, 3) := by decide +kernel
theorem dX4_lose_8 : decode cX4_lose 8 = .ok (.bipush (-2), 2) := by decide +kernel
theorem dX4_lose_10 : decode cX4_lose 10 = .ok (.ireturn, 1) := by decide +kernel
theorem dX4_lose_11 : decode cX4_lose 11 = .ok (.aload_n 0, 1) := by decide +kernel
theorem dX4_lose_12 : decode cX4_lose 12 = .ok (.getfield 38, 3) := by decide +kernel
theorem dX4_lose_15 : decode cX4_lose 15 = .ok (.iload_n 1, 1) := by decide +kernel
theorem dX4_lose_16 : decode cX4_lose 16 = .ok (.iaload, 1) := by decide +kernel
theorem dX4_lose_17 : decode cX4_lose 17 = .ok (.ifCond .lt 7, 3) := by decide +kernel
theorem dX4_lose_20 : decode cX4_lose 20 = .ok (.iconst 1, 1) := by decide +kernel
theorem dX4_lose_21 : decode cX4_lose 21 = .ok (.goto 4, 3) := by decide +kernel
theorem dX4_lose_24 : decode cX4_lose 24 = .ok (.iconst 0, 1) := by decide +kernel
theorem dX4_lose_25 : decode cX4_lose 25 = .ok (.istore_n 2, 1) := by decide +kernel
theorem dX4_lose_26 : decode cX4_lose 26 = .ok (.aload_n 0, 1) := by decide +kernel
theorem dX4_lose_27 : decode cX4_lose 27 = .ok (.getfield 38, 3) := by decide +kernel
theorem dX4_lose_30 : decode cX4_lose 30 = .ok (.iload_n 1, 1) := by decide +kernel
theorem dX4_lose_31 : decode cX4_lose 31 = .ok (.iconst (-1), 1) := by decide +kernel
theorem dX4_lose_32 : decode cX4_lose 32 = .ok (.iastore, 1) := by decide +kernel
theorem dX4_lose_33 : decode cX4_lose 33 = .ok (.iload_n 2, 1) := by decide +kernel
theorem dX4_lose_34 : decode cX4_lose 34 = .ok (.ireturn, 1) := by decide +kernel
theorem dX4_spot_0 : decode cX4_spot 0 = .ok (.aload_n 0, 1) := by decide +kernel
theorem dX4_spot_1 : decode cX4_spot 1 = .ok (.iload_n 1, 1) := by decide +kernel
theorem dX4_spot_2 : decode cX4_spot 2 = .ok (.invokevirtual 149, 3) := by decide +kernel
theorem dX4_spot_5 : decode cX4_spot 5 = .ok (.ifCond .eq 40, 3) := by decide +kernel
theorem dX4_spot_8 : decode cX4_spot 8 = .ok (.iload_n 3, 1) := by decide +kernel
theorem dX4_spot_9 : decode cX4_spot 9 = .ok (.ifCond .lt 36, 3) := by decide +kernel
theorem dX4_spot_12 : decode cX4_spot 12 = .ok (.iload_n 3, 1) := by decide +kernel
theorem dX4_spot_13 : decode cX4_spot 13 = .ok (.sipush 2000, 3) := by decide +kernel
theorem dX4_spot_16 : decode cX4_spot 16 = .ok (.if_icmp .gt 29, 3) := by decide +kernel
theorem dX4_spot_19 : decode cX4_spot 19 = .ok (.iload 4, 2) := by decide +kernel
theorem dX4_spot_21 : decode cX4_spot 21 = .ok (.ifCond .lt 24, 3) := by decide +kernel
theorem dX4_spot_24 : decode cX4_spot 24 = .ok (.iload 4, 2) := by decide +kernel
theorem dX4_spot_26 : decode cX4_spot 26 = .ok (.sipush 2000, 3) := by decide +kernel
theorem dX4_spot_29 : decode cX4_spot 29 = .ok (.if_icmp .gt 16, 3) := by decide +kernel
theorem dX4_spot_32 : decode cX4_spot 32 = .ok (.iload 5, 2) := by decide +kernel
theorem dX4_spot_34 : decode cX4_spot 34 = .ok (.iconst (-1), 1) := by decide +kernel
theorem dX4_spot_35 : decode cX4_spot 35 = .ok (.if_icmp .lt 10, 3) := by decide +kernel
theorem dX4_spot_38 : decode cX4_spot 38 = .ok (.iload 5, 2) := by decide +kernel
theorem dX4_spot_40 : decode cX4_spot 40 = .ok (.bipush 8, 2) := by decide +kernel
theorem dX4_spot_42 : decode cX4_spot 42 = .ok (.if_icmp .le 6, 3) := by decide +kernel
theorem dX4_spot_45 : decode cX4_spot 45 = .ok (.bipush (-2), 2) := by decide +kernel
theorem dX4_spot_47 : decode cX4_spot 47 = .ok (.ireturn, 1) := by decide +kernel
theorem dX4_spot_48 : decode cX4_spot 48 = .ok (.aload_n 0, 1) := by decide +kernel
theorem dX4_spot_49 : decode cX4_spot 49 = .ok (.getfield 38, 3) := by decide +kernel
theorem dX4_spot_52 : decode cX4_spot 52 = .ok (.iload_n 1, 1) := by decide +kernel
theorem dX4_spot_53 : decode cX4_spot 53 = .ok (.iaload, 1) := by decide +kernel
theorem dX4_spot_54 : decode cX4_spot 54 = .ok (.ifCond .ge 6, 3) := by decide +kernel
theorem dX4_spot_57 : decode cX4_spot 57 = .ok (.bipush (-10), 2) := by decide +kernel
theorem dX4_spot_59 : decode cX4_spot 59 = .ok (.ireturn, 1) := by decide +kernel
theorem dX4_spot_60 : decode cX4_spot 60 = .ok (.iload_n 2, 1) := by decide +kernel
theorem dX4_spot_61 : decode cX4_spot 61 = .ok (.ifCond .lt 13, 3) := by decide +kernel
theorem dX4_spot_64 : decode cX4_spot 64 = .ok (.iload_n 2, 1) := by decide +kernel
theorem dX4_spot_65 : decode cX4_spot 65 = .ok (.aload_n 0, 1) := by decide +kernel
theorem dX4_spot_66 : decode cX4_spot 66 = .ok (.getfield 38, 3) := by decide +kernel
theorem dX4_spot_69 : decode cX4_spot 69 = .ok (.iload_n 1, 1) := by decide +kernel
theorem dX4_spot_70 : decode cX4_spot 70 = .ok (.iaload, 1) := by decide +kernel
theorem dX4_spot_71 : decode cX4_spot 71 = .ok (.if_icmp .lt 6, 3) := by decide +kernel
theorem dX4_spot_74 : decode cX4_spot 74 = .ok (.bipush (-11), 2) := by decide +kernel
theorem dX4_spot_76 : decode cX4_spot 76 = .ok (.ireturn, 1) := by decide +kernel
theorem dX4_spot_77 : decode cX4_spot 77 = .ok (.bipush 8, 2) := by decide +kernel
theorem dX4_spot_79 : decode cX4_spot 79 = .ok (.iload_n 1, 1) := by decide +kernel
theorem dX4_spot_80 : decode cX4_spot 80 = .ok (.imul, 1) := by decide +kernel
theorem dX4_spot_81 : decode cX4_spot 81 = .ok (.iload_n 2, 1) := by decide +kernel
theorem dX4_spot_82 : decode cX4_spot 82 = .ok (.iadd, 1) := by decide +kernel
theorem dX4_spot_83 : decode cX4_spot 83 = .ok (.istore 6, 2) := by decide +kernel
theorem dX4_spot_85 : decode cX4_spot 85 = .ok (.aload_n 0, 1) := by decide +kernel
theorem dX4_spot_86 : decode cX4_spot 86 = .ok (.getfield 41, 3) := by decide +kernel
theorem dX4_spot_89 : decode cX4_spot 89 = .ok (.iload 6, 2) := by decide +kernel
theorem dX4_spot_91 : decode cX4_spot 91 = .ok (.baload, 1) := by decide +kernel
theorem dX4_spot_92 : decode cX4_spot 92 = .ok (.ifCond .eq 7, 3) := by decide +kernel
theorem dX4_spot_95 : decode cX4_spot 95 = .ok (.iconst 1, 1) := by decide +kernel
theorem dX4_spot_96 : decode cX4_spot 96 = .ok (.goto 4, 3) := by decide +kernel
theorem dX4_spot_99 : decode cX4_spot 99 = .ok (.iconst 0, 1) := by decide +kernel
theorem dX4_spot_100 : decode cX4_spot 100 = .ok (.istore 7, 2) := by decide +kernel
theorem dX4_spot_102 : decode cX4_spot 102 = .ok (.aload_n 0, 1) := by decide +kernel
theorem dX4_spot_103 : decode cX4_spot 103 = .ok (.getfield 41, 3) := by decide +kernel
theorem dX4_spot_106 : decode cX4_spot 106 = .ok (.iload 6, 2) := by decide +kernel
theorem dX4_spot_108 : decode cX4_spot 108 = .ok (.iload 5, 2) := by decide +kernel
theorem dX4_spot_110 : decode cX4_spot 110 = .ok (.ifCond .lt 7, 3) := by decide +kernel
theorem dX4_spot_113 : decode cX4_spot 113 = .ok (.iconst 1, 1) := by decide +kernel
theorem dX4_spot_114 : decode cX4_spot 114 = .ok (.goto 4, 3) := by decide +kernel
theorem dX4_spot_117 : decode cX4_spot 117 = .ok (.iconst 0, 1) := by decide +kernel
theorem dX4_spot_118 : decode cX4_spot 118 = .ok (.bastore, 1) := by decide +kernel
theorem dX4_spot_119 : decode cX4_spot 119 = .ok (.aload_n 0, 1) := by decide +kernel
theorem dX4_spot_120 : decode cX4_spot 120 = .ok (.getfield 45, 3) := by decide +kernel
theorem dX4_spot_123 : decode cX4_spot 123 = .ok (.iload 6, 2) := by decide +kernel
theorem dX4_spot_125 : decode cX4_spot 125 = .ok (.iload_n 3, 1) := by decide +kernel
theorem dX4_spot_126 : decode cX4_spot 126 = .ok (.iastore, 1) := by decide +kernel
theorem dX4_spot_127 : decode cX4_spot 127 = .ok (.aload_n 0, 1) := by decide +kernel
theorem dX4_spot_128 : decode cX4_spot 128 = .ok (.getfield 48, 3) := by decide +kernel
theorem dX4_spot_131 : decode cX4_spot 131 = .ok (.iload 6, 2) := by decide +kernel
theorem dX4_spot_133 : decode cX4_spot 133 = .ok (.iload 4, 2) := by decide +kernel
theorem dX4_spot_135 : decode cX4_spot 135 = .ok (.iastore, 1) := by decide +kernel
theorem dX4_spot_136 : decode cX4_spot 136 = .ok (.aload_n 0, 1) := by decide +kernel
theorem dX4_spot_137 : decode cX4_spot 137 = .ok (.getfield 51, 3) := by decide +kernel
theorem dX4_spot_140 : decode cX4_spot 140 = .ok (.iload 6, 2) := by decide +kernel
theorem dX4_spot_142 : decode cX4_spot 142 = .ok (.iload 5, 2) := by decide +kernel
theorem dX4_spot_144 : decode cX4_spot 144 = .ok (.i2f, 1) := by decide +kernel
theorem dX4_spot_145 : decode cX4_spot 145 = .ok (.ldc 118, 2) := by decide +kernel
theorem dX4_spot_147 : decode cX4_spot 147 = .ok (.fmul, 1) := by decide +kernel
theorem dX4_spot_148 : decode cX4_spot 148 = .ok (.fastore, 1) := by decide +kernel
theorem dX4_spot_149 : decode cX4_spot 149 = .ok (.iload 7, 2) := by decide +kernel
theorem dX4_spot_151 : decode cX4_spot 151 = .ok (.ireturn, 1) := by decide +kernel
theorem dX4_carry_0 : decode cX4_carry 0 = .ok (.aload_n 0, 1) := by decide +kernel
theorem dX4_carry_1 : decode cX4_carry 1 = .ok (.iload_n 1, 1) := by decide +kernel
theorem dX4_carry_2 : decode cX4_carry 2 = .ok (.invokevirtual 149, 3) := by decide +kernel
theorem dX4_carry_5 : decode cX4_carry 5 = .ok (.ifCond .eq 11, 3) := by decide +kernel
theorem dX4_carry_8 : decode cX4_carry 8 = .ok (.aload_n 0, 1) := by decide +kernel
theorem dX4_carry_9 : decode cX4_carry 9 = .ok (.iload_n 3, 1) := by decide +kernel
theorem dX4_carry_10 : decode cX4_carry 10 = .ok (.invokevirtual 149, 3) := by decide +kernel
theorem dX4_carry_13 : decode cX4_carry 13 = .ok (.ifCond .ne 6, 3) := by decide +kernel
theorem dX4_carry_16 : decode cX4_carry 16 = .ok (.bipush (-2), 2) := by decide +kernel
theorem dX4_carry_18 : decode cX4_carry 18 = .ok (.ireturn, 1) := by decide +kernel
theorem dX4_carry_19 : decode cX4_carry 19 = .ok (.aload_n 0, 1) := by decide +kernel
theorem dX4_carry_20 : decode cX4_carry 20 = .ok (.getfield 38, 3) := by decide +kernel
theorem dX4_carry_23 : decode cX4_carry 23 = .ok (.iload_n 1, 1) := by decide +kernel
theorem dX4_carry_24 : decode cX4_carry 24 = .ok (.iaload, 1) := by decide +kernel
theorem dX4_carry_25 : decode cX4_carry 25 = .ok (.ifCond .lt 12, 3) := by decide +kernel
theorem dX4_carry_28 : decode cX4_carry 28 = .ok (.aload_n 0, 1) := by decide +kernel
theorem dX4_carry_29 : decode cX4_carry 29 = .ok (.getfield 38, 3) := by decide +kernel
theorem dX4_carry_32 : decode cX4_carry 32 = .ok (.iload_n 3, 1) := by decide +kernel
theorem dX4_carry_33 : decode cX4_carry 33 = .ok (.iaload, 1) := by decide +kernel
theorem dX4_carry_34 : decode cX4_carry 34 = .ok (.ifCond .ge 6, 3) := by decide +kernel
theorem dX4_carry_37 : decode cX4_carry 37 = .ok (.bipush (-10), 2) := by decide +kernel
theorem dX4_carry_39 : decode cX4_carry 39 = .ok (.ireturn, 1) := by decide +kernel
theorem dX4_carry_40 : decode cX4_carry 40 = .ok (.iload_n 2, 1) := by decide +kernel
theorem dX4_carry_41 : decode cX4_carry 41 = .ok (.ifCond .lt 47, 3) := by decide +kernel
theorem dX4_carry_44 : decode cX4_carry 44 = .ok (.iload 4, 2) := by decide +kernel
theorem dX4_carry_46 : decode cX4_carry 46 = .ok (.ifCond .lt 42, 3) := by decide +kernel
theorem dX4_carry_49 : decode cX4_carry 49 = .ok (.iload 5, 2) := by decide +kernel
theorem dX4_carry_51 : decode cX4_carry 51 = .ok (.ifCond .lt 37, 3) := by decide +kernel
theorem dX4_carry_54 : decode cX4_carry 54 = .ok (.iload 5, 2) := by decide +kernel
theorem dX4_carry_56 : decode cX4_carry 56 = .ok (.bipush 8, 2) := by decide +kernel
theorem dX4_carry_58 : decode cX4_carry 58 = .ok (.if_icmp .gt 30, 3) := by decide +kernel
theorem dX4_carry_61 : decode cX4_carry 61 = .ok (.iload_n 2, 1) := by decide +kernel
theorem dX4_carry_62 : decode cX4_carry 62 = .ok (.aload_n 0, 1) := by decide +kernel
theorem dX4_carry_63 : decode cX4_carry 63 = .ok (.getfield 38, 3) := by decide +kernel
theorem dX4_carry_66 : decode cX4_carry 66 = .ok (.iload_n 1, 1) := by decide +kernel
theorem dX4_carry_67 : decode cX4_carry 67 = .ok (.iaload, 1) := by decide +kernel
theorem dX4_carry_68 : decode cX4_carry 68 = .ok (.iload 5, 2) := by decide +kernel
theorem dX4_carry_70 : decode cX4_carry 70 = .ok (.isub, 1) := by decide +kernel
theorem dX4_carry_71 : decode cX4_carry 71 = .ok (.if_icmp .gt 17, 3) := by decide +kernel
theorem dX4_carry_74 : decode cX4_carry 74 = .ok (.iload 4, 2) := by decide +kernel
theorem dX4_carry_76 : decode cX4_carry 76 = .ok (.aload_n 0, 1) := by decide +kernel
theorem dX4_carry_77 : decode cX4_carry 77 = .ok (.getfield 38, 3) := by decide +kernel
theorem dX4_carry_80 : decode cX4_carry 80 = .ok (.iload_n 3, 1) := by decide +kernel
theorem dX4_carry_81 : decode cX4_carry 81 = .ok (.iaload, 1) := by decide +kernel
theorem dX4_carry_82 : decode cX4_carry 82 = .ok (.iload 5, 2) := by decide +kernel
theorem dX4_carry_84 : decode cX4_carry 84 = .ok (.isub, 1) := by decide +kernel
theorem dX4_carry_85 : decode cX4_carry 85 = .ok (.if_icmp .le 6, 3) := by decide +kernel
theorem dX4_carry_88 : decode cX4_carry 88 = .ok (.bipush (-11), 2) := by decide +kernel
theorem dX4_carry_90 : decode cX4_carry 90 = .ok (.ireturn, 1) := by decide +kernel
theorem dX4_carry_91 : decode cX4_carry 91 = .ok (.iconst 0, 1) := by decide +kernel
theorem dX4_carry_92 : decode cX4_carry 92 = .ok (.istore 6, 2) := by decide +kernel
theorem dX4_carry_94 : decode cX4_carry 94 = .ok (.iload 6, 2) := by decide +kernel
theorem dX4_carry_96 : decode cX4_carry 96 = .ok (.iload 5, 2) := by decide +kernel
theorem dX4_carry_98 : decode cX4_carry 98 = .ok (.if_icmp .ge 76, 3) := by decide +kernel
theorem dX4_carry_101 : decode cX4_carry 101 = .ok (.bipush 8, 2) := by decide +kernel
theorem dX4_carry_103 : decode cX4_carry 103 = .ok (.iload_n 1, 1) := by decide +kernel
theorem dX4_carry_104 : decode cX4_carry 104 = .ok (.imul, 1) := by decide +kernel
theorem dX4_carry_105 : decode cX4_carry 105 = .ok (.iload_n 2, 1) := by decide +kernel
theorem dX4_carry_106 : decode cX4_carry 106 = .ok (.iadd, 1) := by decide +kernel
theorem dX4_carry_107 : decode cX4_carry 107 = .ok (.iload 6, 2) := by decide +kernel
theorem dX4_carry_109 : decode cX4_carry 109 = .ok (.iadd, 1) := by decide +kernel
theorem dX4_carry_110 : decode cX4_carry 110 = .ok (.istore 7, 2) := by decide +kernel
theorem dX4_carry_112 : decode cX4_carry 112 = .ok (.aload_n 0, 1) := by decide +kernel
theorem dX4_carry_113 : decode cX4_carry 113 = .ok (.getfield 78, 3) := by decide +kernel
theorem dX4_carry_116 : decode cX4_carry 116 = .ok (.iload 6, 2) := by decide +kernel
theorem dX4_carry_118 : decode cX4_carry 118 = .ok (.aload_n 0, 1) := by decide +kernel
theorem dX4_carry_119 : decode cX4_carry 119 = .ok (.getfield 41, 3) := by decide +kernel
theorem dX4_carry_122 : decode cX4_carry 122 = .ok (.iload 7, 2) := by decide +kernel
theorem dX4_carry_124 : decode cX4_carry 124 = .ok (.baload, 1) := by decide +kernel
theorem dX4_carry_125 : decode cX4_carry 125 = .ok (.bastore, 1) := by decide +kernel
theorem dX4_carry_126 : decode cX4_carry 126 = .ok (.aload_n 0, 1) := by decide +kernel
theorem dX4_carry_127 : decode cX4_carry 127 = .ok (.getfield 81, 3) := by decide +kernel
theorem dX4_carry_130 : decode cX4_carry 130 = .ok (.iload 6, 2) := by decide +kernel
theorem dX4_carry_132 : decode cX4_carry 132 = .ok (.aload_n 0, 1) := by decide +kernel
theorem dX4_carry_133 : decode cX4_carry 133 = .ok (.getfield 45, 3) := by decide +kernel
theorem dX4_carry_136 : decode cX4_carry 136 = .ok (.iload 7, 2) := by decide +kernel
theorem dX4_carry_138 : decode cX4_carry 138 = .ok (.iaload, 1) := by decide +kernel
theorem dX4_carry_139 : decode cX4_carry 139 = .ok (.iastore, 1) := by decide +kernel
theorem dX4_carry_140 : decode cX4_carry 140 = .ok (.aload_n 0, 1) := by decide +kernel
theorem dX4_carry_141 : decode cX4_carry 141 = .ok (.getfield 84, 3) := by decide +kernel
theorem dX4_carry_144 : decode cX4_carry 144 = .ok (.iload 6, 2) := by decide +kernel
theorem dX4_carry_146 : decode cX4_carry 146 = .ok (.aload_n 0, 1) := by decide +kernel
theorem dX4_carry_147 : decode cX4_carry 147 = .ok (.getfield 48, 3) := by decide +kernel
theorem dX4_carry_150 : decode cX4_carry 150 = .ok (.iload 7, 2) := by decide +kernel
theorem dX4_carry_152 : decode cX4_carry 152 = .ok (.iaload, 1) := by decide +kernel
theorem dX4_carry_153 : decode cX4_carry 153 = .ok (.iastore, 1) := by decide +kernel
theorem dX4_carry_154 : decode cX4_carry 154 = .ok (.aload_n 0, 1) := by decide +kernel
theorem dX4_carry_155 : decode cX4_carry 155 = .ok (.getfield 87, 3) := by decide +kernel
theorem dX4_carry_158 : decode cX4_carry 158 = .ok (.iload 6, 2) := by decide +kernel
theorem dX4_carry_160 : decode cX4_carry 160 = .ok (.aload_n 0, 1) := by decide +kernel
theorem dX4_carry_161 : decode cX4_carry 161 = .ok (.getfield 51, 3) := by decide +kernel
theorem dX4_carry_164 : decode cX4_carry 164 = .ok (.iload 7, 2) := by decide +kernel
theorem dX4_carry_166 : decode cX4_carry 166 = .ok (.faload, 1) := by decide +kernel
theorem dX4_carry_167 : decode cX4_carry 167 = .ok (.fastore, 1) := by decide +kernel
theorem dX4_carry_168 : decode cX4_carry 168 = .ok (.iinc 6 1, 3) := by decide +kernel
theorem dX4_carry_171 : decode cX4_carry 171 = .ok (.goto (-77), 3) := by decide +kernel
theorem dX4_carry_174 : decode cX4_carry 174 = .ok (.iconst 0, 1) := by decide +kernel
theorem dX4_carry_175 : decode cX4_carry 175 = .ok (.istore 6, 2) := by decide +kernel
theorem dX4_carry_177 : decode cX4_carry 177 = .ok (.iload 6, 2) := by decide +kernel
theorem dX4_carry_179 : decode cX4_carry 179 = .ok (.iload 5, 2) := by decide +kernel
theorem dX4_carry_181 : decode cX4_carry 181 = .ok (.if_icmp .ge 77, 3) := by decide +kernel
theorem dX4_carry_184 : decode cX4_carry 184 = .ok (.bipush 8, 2) := by decide +kernel
theorem dX4_carry_186 : decode cX4_carry 186 = .ok (.iload_n 3, 1) := by decide +kernel
theorem dX4_carry_187 : decode cX4_carry 187 = .ok (.imul, 1) := by decide +kernel
theorem dX4_carry_188 : decode cX4_carry 188 = .ok (.iload 4, 2) := by decide +kernel
theorem dX4_carry_190 : decode cX4_carry 190 = .ok (.iadd, 1) := by decide +kernel
theorem dX4_carry_191 : decode cX4_carry 191 = .ok (.iload 6, 2) := by decide +kernel
theorem dX4_carry_193 : decode cX4_carry 193 = .ok (.iadd, 1) := by decide +kernel
theorem dX4_carry_194 : decode cX4_carry 194 = .ok (.istore 7, 2) := by decide +kernel
theorem dX4_carry_196 : decode cX4_carry 196 = .ok (.aload_n 0, 1) := by decide +kernel
theorem dX4_carry_197 : decode cX4_carry 197 = .ok (.getfield 41, 3) := by decide +kernel
theorem dX4_carry_200 : decode cX4_carry 200 = .ok (.iload 7, 2) := by decide +kernel
theorem dX4_carry_202 : decode cX4_carry 202 = .ok (.aload_n 0, 1) := by decide +kernel
theorem dX4_carry_203 : decode cX4_carry 203 = .ok (.getfield 78, 3) := by decide +kernel
theorem dX4_carry_206 : decode cX4_carry 206 = .ok (.iload 6, 2) := by decide +kernel
theorem dX4_carry_208 : decode cX4_carry 208 = .ok (.baload, 1) := by decide +kernel
theorem dX4_carry_209 : decode cX4_carry 209 = .ok (.bastore, 1) := by decide +kernel
theorem dX4_carry_210 : decode cX4_carry 210 = .ok (.aload_n 0, 1) := by decide +kernel
theorem dX4_carry_211 : decode cX4_carry 211 = .ok (.getfield 45, 3) := by decide +kernel
theorem dX4_carry_214 : decode cX4_carry 214 = .ok (.iload 7, 2) := by decide +kernel
theorem dX4_carry_216 : decode cX4_carry 216 = .ok (.aload_n 0, 1) := by decide +kernel
theorem dX4_carry_217 : decode cX4_carry 217 = .ok (.getfield 81, 3) := by decide +kernel
theorem dX4_carry_220 : decode cX4_carry 220 = .ok (.iload 6, 2) := by decide +kernel
theorem dX4_carry_222 : decode cX4_carry 222 = .ok (.iaload, 1) := by decide +kernel
theorem dX4_carry_223 : decode cX4_carry 223 = .ok (.iastore, 1) := by decide +kernel
theorem dX4_carry_224 : decode cX4_carry 224 = .ok (.aload_n 0, 1) := by decide +kernel
theorem dX4_carry_225 : decode cX4_carry 225 = .ok (.getfield 48, 3) := by decide +kernel
theorem dX4_carry_228 : decode cX4_carry 228 = .ok (.iload 7, 2) := by decide +kernel
theorem dX4_carry_230 : decode cX4_carry 230 = .ok (.aload_n 0, 1) := by decide +kernel
theorem dX4_carry_231 : decode cX4_carry 231 = .ok (.getfield 84, 3) := by decide +kernel
theorem dX4_carry_234 : decode cX4_carry 234 = .ok (.iload 6, 2) := by decide +kernel
theorem dX4_carry_236 : decode cX4_carry 236 = .ok (.iaload, 1) := by decide +kernel
theorem dX4_carry_237 : decode cX4_carry 237 = .ok (.iastore, 1) := by decide +kernel
theorem dX4_carry_238 : decode cX4_carry 238 = .ok (.aload_n 0, 1) := by decide +kernel
theorem dX4_carry_239 : decode cX4_carry 239 = .ok (.getfield 51, 3) := by decide +kernel
theorem dX4_carry_242 : decode cX4_carry 242 = .ok (.iload 7, 2) := by decide +kernel
theorem dX4_carry_244 : decode cX4_carry 244 = .ok (.aload_n 0, 1) := by decide +kernel
theorem dX4_carry_245 : decode cX4_carry 245 = .ok (.getfield 87, 3) := by decide +kernel
theorem dX4_carry_248 : decode cX4_carry 248 = .ok (.iload 6, 2) := by decide +kernel
theorem dX4_carry_250 : decode cX4_carry 250 = .ok (.faload, 1) := by decide +kernel
theorem dX4_carry_251 : decode cX4_carry 251 = .ok (.fastore, 1) := by decide +kernel
theorem dX4_carry_252 : decode cX4_carry 252 = .ok (.iinc 6 1, 3) := by decide +kernel
theorem dX4_carry_255 : decode cX4_carry 255 = .ok (.goto (-78), 3) := by decide +kernel
theorem dX4_carry_258 : decode cX4_carry 258 = .ok (.iconst 0, 1) := by decide +kernel
theorem dX4_carry_259 : decode cX4_carry 259 = .ok (.istore 6, 2) := by decide +kernel
theorem dX4_carry_261 : decode cX4_carry 261 = .ok (.iconst 0, 1) := by decide +kernel
theorem dX4_carry_262 : decode cX4_carry 262 = .ok (.istore 7, 2) := by decide +kernel
theorem dX4_carry_264 : decode cX4_carry 264 = .ok (.iload 7, 2) := by decide +kernel
theorem dX4_carry_266 : decode cX4_carry 266 = .ok (.aload_n 0, 1) := by decide +kernel
theorem dX4_carry_267 : decode cX4_carry 267 = .ok (.getfield 38, 3) := by decide +kernel
theorem dX4_carry_270 : decode cX4_carry 270 = .ok (.iload_n 3, 1) := by decide +kernel
theorem dX4_carry_271 : decode cX4_carry 271 = .ok (.iaload, 1) := by decide +kernel
theorem dX4_carry_272 : decode cX4_carry 272 = .ok (.if_icmp .ge 34, 3) := by decide +kernel
theorem dX4_carry_275 : decode cX4_carry 275 = .ok (.iload 6, 2) := by decide +kernel
theorem dX4_carry_277 : decode cX4_carry 277 = .ok (.aload_n 0, 1) := by decide +kernel
theorem dX4_carry_278 : decode cX4_carry 278 = .ok (.getfield 41, 3) := by decide +kernel
theorem dX4_carry_281 : decode cX4_carry 281 = .ok (.bipush 8, 2) := by decide +kernel
theorem dX4_carry_283 : decode cX4_carry 283 = .ok (.iload_n 3, 1) := by decide +kernel
theorem dX4_carry_284 : decode cX4_carry 284 = .ok (.imul, 1) := by decide +kernel
theorem dX4_carry_285 : decode cX4_carry 285 = .ok (.iload 7, 2) := by decide +kernel
theorem dX4_carry_287 : decode cX4_carry 287 = .ok (.iadd, 1) := by decide +kernel
theorem dX4_carry_288 : decode cX4_carry 288 = .ok (.baload, 1) := by decide +kernel
theorem dX4_carry_289 : decode cX4_carry 289 = .ok (.ifCond .eq 7, 3) := by decide +kernel
theorem dX4_carry_292 : decode cX4_carry 292 = .ok (.iconst 1, 1) := by decide +kernel
theorem dX4_carry_293 : decode cX4_carry 293 = .ok (.goto 4, 3) := by decide +kernel
theorem dX4_carry_296 : decode cX4_carry 296 = .ok (.iconst 0, 1) := by decide +kernel
theorem dX4_carry_297 : decode cX4_carry 297 = .ok (.iadd, 1) := by decide +kernel
theorem dX4_carry_298 : decode cX4_carry 298 = .ok (.istore 6, 2) := by decide +kernel
theorem dX4_carry_300 : decode cX4_carry 300 = .ok (.iinc 7 1, 3) := by decide +kernel
theorem dX4_carry_303 : decode cX4_carry 303 = .ok (.goto (-39), 3) := by decide +kernel
theorem dX4_carry_306 : decode cX4_carry 306 = .ok (.iload 6, 2) := by decide +kernel
theorem dX4_carry_308 : decode cX4_carry 308 = .ok (.ireturn, 1) := by decide +kernel
theorem dX4_tellPlaces_0 : decode cX4_tellPlaces 0 = .ok (.iconst 0, 1) := by decide +kernel
theorem dX4_tellPlaces_1 : decode cX4_tellPlaces 1 = .ok (.istore_n 3, 1) := by decide +kernel
theorem dX4_tellPlaces_2 : decode cX4_tellPlaces 2 = .ok (.iload_n 3, 1) := by decide +kernel
theorem dX4_tellPlaces_3 : decode cX4_tellPlaces 3 = .ok (.iload_n 1, 1) := by decide +kernel
theorem dX4_tellPlaces_4 : decode cX4_tellPlaces 4 = .ok (.if_icmp .ge 16, 3) := by decide +kernel
theorem dX4_tellPlaces_7 : decode cX4_tellPlaces 7 = .ok (.aload_n 0, 1) := by decide +kernel
theorem dX4_tellPlaces_8 : decode cX4_tellPlaces 8 = .ok (.getfield 90, 3) := by decide +kernel
theorem dX4_tellPlaces_11 : decode cX4_tellPlaces 11 = .ok (.iload_n 3, 1) := by decide +kernel
theorem dX4_tellPlaces_12 : decode cX4_tellPlaces 12 = .ok (.iconst (-1), 1) := by decide +kernel
theorem dX4_tellPlaces_13 : decode cX4_tellPlaces 13 = .ok (.iastore, 1) := by decide +kernel
theorem dX4_tellPlaces_14 : decode cX4_tellPlaces 14 = .ok (.iinc 3 1, 3) := by decide +kernel
theorem dX4_tellPlaces_17 : decode cX4_tellPlaces 17 = .ok (.goto (-15), 3) := by decide +kernel
theorem dX4_tellPlaces_20 : decode cX4_tellPlaces 20 = .ok (.aload_n 0, 1) := by decide +kernel
theorem dX4_tellPlaces_21 : decode cX4_tellPlaces 21 = .ok (.getfield 90, 3) := by decide +kernel
theorem dX4_tellPlaces_24 : decode cX4_tellPlaces 24 = .ok (.iload_n 1, 1) := by decide +kernel
theorem dX4_tellPlaces_25 : decode cX4_tellPlaces 25 = .ok (.iload_n 2, 1) := by decide +kernel
theorem dX4_tellPlaces_26 : decode cX4_tellPlaces 26 = .ok (.iastore, 1) := by decide +kernel
theorem dX4_tellPlaces_27 : decode cX4_tellPlaces 27 = .ok (.iload_n 1, 1) := by decide +kernel
theorem dX4_tellPlaces_28 : decode cX4_tellPlaces 28 = .ok (.istore_n 3, 1) := by decide +kernel
theorem dX4_tellPlaces_29 : decode cX4_tellPlaces 29 = .ok (.iload_n 3, 1) := by decide +kernel
theorem dX4_tellPlaces_30 : decode cX4_tellPlaces 30 = .ok (.ifCond .lt 189, 3) := by decide +kernel
theorem dX4_tellPlaces_33 : decode cX4_tellPlaces 33 = .ok (.iconst 0, 1) := by decide +kernel
theorem dX4_tellPlaces_34 : decode cX4_tellPlaces 34 = .ok (.istore 4, 2) := by decide +kernel
theorem dX4_tellPlaces_36 : decode cX4_tellPlaces 36 = .ok (.iload 4, 2) := by decide +kernel
theorem dX4_tellPlaces_38 : decode cX4_tellPlaces 38 = .ok (.aload_n 0, 1) := by decide +kernel
theorem dX4_tellPlaces_39 : decode cX4_tellPlaces 39 = .ok (.getfield 26, 3) := by decide +kernel
theorem dX4_tellPlaces_42 : decode cX4_tellPlaces 42 = .ok (.iload_n 3, 1) := by decide +kernel
theorem dX4_tellPlaces_43 : decode cX4_tellPlaces 43 = .ok (.iaload, 1) := by decide +kernel
theorem dX4_tellPlaces_44 : decode cX4_tellPlaces 44 = .ok (.if_icmp .ge 169, 3) := by decide +kernel
theorem dX4_tellPlaces_47 : decode cX4_tellPlaces 47 = .ok (.aload_n 0, 1) := by decide +kernel
theorem dX4_tellPlaces_48 : decode cX4_tellPlaces 48 = .ok (.getfield 90, 3) := by decide +kernel
theorem dX4_tellPlaces_51 : decode cX4_tellPlaces 51 = .ok (.iload_n 3, 1) := by decide +kernel
theorem dX4_tellPlaces_52 : decode cX4_tellPlaces 52 = .ok (.iaload, 1) := by decide +kernel
theorem dX4_tellPlaces_53 : decode cX4_tellPlaces 53 = .ok (.ifCond .lt 160, 3) := by decide +kernel
theorem dX4_tellPlaces_56 : decode cX4_tellPlaces 56 = .ok (.aload_n 0, 1) := by decide +kernel
theorem dX4_tellPlaces_57 : decode cX4_tellPlaces 57 = .ok (.getfield 29, 3) := by decide +kernel
theorem dX4_tellPlaces_60 : decode cX4_tellPlaces 60 = .ok (.bipush 9, 2) := by decide +kernel
theorem dX4_tellPlaces_62 : decode cX4_tellPlaces 62 = .ok (.iload_n 3, 1) := by decide +kernel
theorem dX4_tellPlaces_63 : decode cX4_tellPlaces 63 = .ok (.imul, 1) := by decide +kernel
theorem dX4_tellPlaces_64 : decode cX4_tellPlaces 64 = .ok (.iload 4, 2) := by decide +kernel
theorem dX4_tellPlaces_66 : decode cX4_tellPlaces 66 = .ok (.iadd, 1) := by decide +kernel
theorem dX4_tellPlaces_67 : decode cX4_tellPlaces 67 = .ok (.iaload, 1) := by decide +kernel
theorem dX4_tellPlaces_68 : decode cX4_tellPlaces 68 = .ok (.istore 5, 2) := by decide +kernel
theorem dX4_tellPlaces_70 : decode cX4_tellPlaces 70 = .ok (.aload_n 0, 1) := by decide +kernel
theorem dX4_tellPlaces_71 : decode cX4_tellPlaces 71 = .ok (.getfield 32, 3) := by decide +kernel
theorem dX4_tellPlaces_74 : decode cX4_tellPlaces 74 = .ok (.iload 5, 2) := by decide +kernel
theorem dX4_tellPlaces_76 : decode cX4_tellPlaces 76 = .ok (.iaload, 1) := by decide +kernel
theorem dX4_tellPlaces_77 : decode cX4_tellPlaces 77 = .ok (.iload_n 3, 1) := by decide +kernel
theorem dX4_tellPlaces_78 : decode cX4_tellPlaces 78 = .ok (.if_icmp .ne 90, 3) := by decide +kernel
theorem dX4_tellPlaces_81 : decode cX4_tellPlaces 81 = .ok (.aload_n 0, 1) := by decide +kernel
theorem dX4_tellPlaces_82 : decode cX4_tellPlaces 82 = .ok (.getfield 9, 3) := by decide +kernel
theorem dX4_tellPlaces_85 : decode cX4_tellPlaces 85 = .ok (.iload_n 3, 1) := by decide +kernel
theorem dX4_tellPlaces_86 : decode cX4_tellPlaces 86 = .ok (.iaload, 1) := by decide +kernel
theorem dX4_tellPlaces_87 : decode cX4_tellPlaces 87 = .ok (.iconst 5, 1) := by decide +kernel
theorem dX4_tellPlaces_88 : decode cX4_tellPlaces 88 = .ok (.if_icmp .ne 80, 3) := by decide +kernel
theorem dX4_tellPlaces_91 : decode cX4_tellPlaces 91 = .ok (.iload 4, 2) := by decide +kernel
theorem dX4_tellPlaces_93 : decode cX4_tellPlaces 93 = .ok (.ifCond .ne 12, 3) := by decide +kernel
theorem dX4_tellPlaces_96 : decode cX4_tellPlaces 96 = .ok (.aload_n 0, 1) := by decide +kernel
theorem dX4_tellPlaces_97 : decode cX4_tellPlaces 97 = .ok (.getfield 90, 3) := by decide +kernel
theorem dX4_tellPlaces_100 : decode cX4_tellPlaces 100 = .ok (.iload_n 3, 1) := by decide +kernel
theorem dX4_tellPlaces_101 : decode cX4_tellPlaces 101 = .ok (.iaload, 1) := by decide +kernel
theorem dX4_tellPlaces_102 : decode cX4_tellPlaces 102 = .ok (.goto 31, 3) := by decide +kernel
theorem dX4_tellPlaces_105 : decode cX4_tellPlaces 105 = .ok (.aload_n 0, 1) := by decide +kernel
theorem dX4_tellPlaces_106 : decode cX4_tellPlaces 106 = .ok (.getfield 90, 3) := by decide +kernel
theorem dX4_tellPlaces_109 : decode cX4_tellPlaces 109 = .ok (.iload_n 3, 1) := by decide +kernel
theorem dX4_tellPlaces_110 : decode cX4_tellPlaces 110 = .ok (.iaload, 1) := by decide +kernel
theorem dX4_tellPlaces_111 : decode cX4_tellPlaces 111 = .ok (.aload_n 0, 1) := by decide +kernel
theorem dX4_tellPlaces_112 : decode cX4_tellPlaces 112 = .ok (.getfield 13, 3) := by decide +kernel
theorem dX4_tellPlaces_115 : decode cX4_tellPlaces 115 = .ok (.aload_n 0, 1) := by decide +kernel
theorem dX4_tellPlaces_116 : decode cX4_tellPlaces 116 = .ok (.getfield 29, 3) := by decide +kernel
theorem dX4_tellPlaces_119 : decode cX4_tellPlaces 119 = .ok (.bipush 9, 2) := by decide +kernel
theorem dX4_tellPlaces_121 : decode cX4_tellPlaces 121 = .ok (.iload_n 3, 1) := by decide +kernel
theorem dX4_tellPlaces_122 : decode cX4_tellPlaces 122 = .ok (.imul, 1) := by decide +kernel
theorem dX4_tellPlaces_123 : decode cX4_tellPlaces 123 = .ok (.iaload, 1) := by decide +kernel
theorem dX4_tellPlaces_124 : decode cX4_tellPlaces 124 = .ok (.iaload, 1) := by decide +kernel
theorem dX4_tellPlaces_125 : decode cX4_tellPlaces 125 = .ok (.isub, 1) := by decide +kernel
theorem dX4_tellPlaces_126 : decode cX4_tellPlaces 126 = .ok (.aload_n 0, 1) := by decide +kernel
theorem dX4_tellPlaces_127 : decode cX4_tellPlaces 127 = .ok (.getfield 35, 3) := by decide +kernel
theorem dX4_tellPlaces_130 : decode cX4_tellPlaces 130 = .ok (.iload_n 3, 1) := by decide +kernel
theorem dX4_tellPlaces_131 : decode cX4_tellPlaces 131 = .ok (.iaload, 1) := by decide +kernel
theorem dX4_tellPlaces_132 : decode cX4_tellPlaces 132 = .ok (.iadd, 1) := by decide +kernel
theorem dX4_tellPlaces_133 : decode cX4_tellPlaces 133 = .ok (.istore 6, 2) := by decide +kernel
theorem dX4_tellPlaces_135 : decode cX4_tellPlaces 135 = .ok (.aload_n 0, 1) := by decide +kernel
theorem dX4_tellPlaces_136 : decode cX4_tellPlaces 136 = .ok (.getfield 90, 3) := by decide +kernel
theorem dX4_tellPlaces_139 : decode cX4_tellPlaces 139 = .ok (.iload 5, 2) := by decide +kernel
theorem dX4_tellPlaces_141 : decode cX4_tellPlaces 141 = .ok (.iload 6, 2) := by decide +kernel
theorem dX4_tellPlaces_143 : decode cX4_tellPlaces 143 = .ok (.ifCond .lt 20, 3) := by decide +kernel
theorem dX4_tellPlaces_146 : decode cX4_tellPlaces 146 = .ok (.iload 6, 2) := by decide +kernel
theorem dX4_tellPlaces_148 : decode cX4_tellPlaces 148 = .ok (.aload_n 0, 1) := by decide +kernel
theorem dX4_tellPlaces_149 : decode cX4_tellPlaces 149 = .ok (.getfield 13, 3) := by decide +kernel
theorem dX4_tellPlaces_152 : decode cX4_tellPlaces 152 = .ok (.iload 5, 2) := by decide +kernel
theorem dX4_tellPlaces_154 : decode cX4_tellPlaces 154 = .ok (.iaload, 1) := by decide +kernel
theorem dX4_tellPlaces_155 : decode cX4_tellPlaces 155 = .ok (.if_icmp .ge 8, 3) := by decide +kernel
theorem dX4_tellPlaces_158 : decode cX4_tellPlaces 158 = .ok (.iload 6, 2) := by decide +kernel
theorem dX4_tellPlaces_160 : decode cX4_tellPlaces 160 = .ok (.goto 4, 3) := by decide +kernel
theorem dX4_tellPlaces_163 : decode cX4_tellPlaces 163 = .ok (.iconst (-1), 1) := by decide +kernel
theorem dX4_tellPlaces_164 : decode cX4_tellPlaces 164 = .ok (.iastore, 1) := by decide +kernel
theorem dX4_tellPlaces_165 : decode cX4_tellPlaces 165 = .ok (.goto 42, 3) := by decide +kernel
theorem dX4_tellPlaces_168 : decode cX4_tellPlaces 168 = .ok (.aload_n 0, 1) := by decide +kernel
theorem dX4_tellPlaces_169 : decode cX4_tellPlaces 169 = .ok (.getfield 32, 3) := by decide +kernel
theorem dX4_tellPlaces_172 : decode cX4_tellPlaces 172 = .ok (.iload 5, 2) := by decide +kernel
theorem dX4_tellPlaces_174 : decode cX4_tellPlaces 174 = .ok (.iaload, 1) := by decide +kernel
theorem dX4_tellPlaces_175 : decode cX4_tellPlaces 175 = .ok (.iload_n 3, 1) := by decide +kernel
theorem dX4_tellPlaces_176 : decode cX4_tellPlaces 176 = .ok (.if_icmp .ne 31, 3) := by decide +kernel
theorem dX4_tellPlaces_179 : decode cX4_tellPlaces 179 = .ok (.aload_n 0, 1) := by decide +kernel
theorem dX4_tellPlaces_180 : decode cX4_tellPlaces 180 = .ok (.getfield 90, 3) := by decide +kernel
theorem dX4_tellPlaces_183 : decode cX4_tellPlaces 183 = .ok (.iload 5, 2) := by decide +kernel
theorem dX4_tellPlaces_185 : decode cX4_tellPlaces 185 = .ok (.aload_n 0, 1) := by decide +kernel
theorem dX4_tellPlaces_186 : decode cX4_tellPlaces 186 = .ok (.getfield 90, 3) := by decide +kernel
theorem dX4_tellPlaces_189 : decode cX4_tellPlaces 189 = .ok (.iload_n 3, 1) := by decide +kernel
theorem dX4_tellPlaces_190 : decode cX4_tellPlaces 190 = .ok (.iaload, 1) := by decide +kernel
theorem dX4_tellPlaces_191 : decode cX4_tellPlaces 191 = .ok (.aload_n 0, 1) := by decide +kernel
theorem dX4_tellPlaces_192 : decode cX4_tellPlaces 192 = .ok (.getfield 13, 3) := by decide +kernel
theorem dX4_tellPlaces_195 : decode cX4_tellPlaces 195 = .ok (.iload 5, 2) := by decide +kernel
theorem dX4_tellPlaces_197 : decode cX4_tellPlaces 197 = .ok (.iaload, 1) := by decide +kernel
theorem dX4_tellPlaces_198 : decode cX4_tellPlaces 198 = .ok (.imul, 1) := by decide +kernel
theorem dX4_tellPlaces_199 : decode cX4_tellPlaces 199 = .ok (.aload_n 0, 1) := by decide +kernel
theorem dX4_tellPlaces_200 : decode cX4_tellPlaces 200 = .ok (.getfield 13, 3) := by decide +kernel
theorem dX4_tellPlaces_203 : decode cX4_tellPlaces 203 = .ok (.iload_n 3, 1) := by decide +kernel
theorem dX4_tellPlaces_204 : decode cX4_tellPlaces 204 = .ok (.iaload, 1) := by decide +kernel
theorem dX4_tellPlaces_205 : decode cX4_tellPlaces 205 = .ok (.idiv, 1) := by decide +kernel
theorem dX4_tellPlaces_206 : decode cX4_tellPlaces 206 = .ok (.iastore, 1) := by decide +kernel
theorem dX4_tellPlaces_207 : decode cX4_tellPlaces 207 = .ok (.iinc 4 1, 3) := by decide +kernel
theorem dX4_tellPlaces_210 : decode cX4_tellPlaces 210 = .ok (.goto (-174), 3) := by decide +kernel
theorem dX4_tellPlaces_213 : decode cX4_tellPlaces 213 = .ok (.iinc 3 (-1), 3) := by decide +kernel
theorem dX4_tellPlaces_216 : decode cX4_tellPlaces 216 = .ok (.goto (-187), 3) := by decide +kernel
theorem dX4_tellPlaces_219 : decode cX4_tellPlaces 219 = .ok (.return_, 1) := by decide +kernel
theorem dX4_base_0 : decode cX4_base 0 = .ok (.aload_n 0, 1) := by decide +kernel
theorem dX4_base_1 : decode cX4_base 1 = .ok (.getfield 9, 3) := by decide +kernel
theorem dX4_base_4 : decode cX4_base 4 = .ok (.iload_n 1, 1) := by decide +kernel
theorem dX4_base_5 : decode cX4_base 5 = .ok (.iaload, 1) := by decide +kernel
theorem dX4_base_6 : decode cX4_base 6 = .ok (.ifCond .ne 10, 3) := by decide +kernel
theorem dX4_base_9 : decode cX4_base 9 = .ok (.aload_n 0, 1) := by decide +kernel
