theorem dX8_init_0 : decode cX8_init 0 = .ok (.aload_n 0, 1) := by decide +kernel
theorem dX8_init_1 : decode cX8_init 1 = .ok (.invokespecial 1, 3) := by decide +kernel
theorem dX8_init_4 : decode cX8_init 4 = .ok (.aload_n 0, 1) := by decide +kernel
theorem dX8_init_5 : decode cX8_init 5 = .ok (.bipush 74, 2) := by decide +kernel
theorem dX8_init_7 : decode cX8_init 7 = .ok (.newarray .long, 2) := by decide +kernel
theorem dX8_init_9 : decode cX8_init 9 = .ok (.putfield 7, 3) := by decide +kernel
theorem dX8_init_12 : decode cX8_init 12 = .ok (.aload_n 0, 1) := by decide +kernel
theorem dX8_init_13 : decode cX8_init 13 = .ok (.bipush 74, 2) := by decide +kernel
theorem dX8_init_15 : decode cX8_init 15 = .ok (.newarray .long, 2) := by decide +kernel
theorem dX8_init_17 : decode cX8_init 17 = .ok (.putfield 13, 3) := by decide +kernel
theorem dX8_init_20 : decode cX8_init 20 = .ok (.aload_n 0, 1) := by decide +kernel
theorem dX8_init_21 : decode cX8_init 21 = .ok (.bipush 74, 2) := by decide +kernel
theorem dX8_init_23 : decode cX8_init 23 = .ok (.newarray .long, 2) := by decide +kernel
theorem dX8_init_25 : decode cX8_init 25 = .ok (.putfield 16, 3) := by decide +kernel
theorem dX8_init_28 : decode cX8_init 28 = .ok (.aload_n 0, 1) := by decide +kernel
theorem dX8_init_29 : decode cX8_init 29 = .ok (.bipush 74, 2) := by decide +kernel
theorem dX8_init_31 : decode cX8_init 31 = .ok (.newarray .long, 2) := by decide +kernel
theorem dX8_init_33 : decode cX8_init 33 = .ok (.putfield 19, 3) := by decide +kernel
theorem dX8_init_36 : decode cX8_init 36 = .ok (.aload_n 0, 1) := by decide +kernel
theorem dX8_init_37 : decode cX8_init 37 = .ok (.bipush 74, 2) := by decide +kernel
theorem dX8_init_39 : decode cX8_init 39 = .ok (.newarray .long, 2) := by decide +kernel
theorem dX8_init_41 : decode cX8_init 41 = .ok (.putfield 22, 3) := by decide +kernel
theorem dX8_init_44 : decode cX8_init 44 = .ok (.aload_n 0, 1) := by decide +kernel
theorem dX8_init_45 : decode cX8_init 45 = .ok (.bipush 8, 2) := by decide +kernel
theorem dX8_init_47 : decode cX8_init 47 = .ok (.newarray .int, 2) := by decide +kernel
theorem dX8_init_49 : decode cX8_init 49 = .ok (.putfield 25, 3) := by decide +kernel
theorem dX8_init_52 : decode cX8_init 52 = .ok (.aload_n 0, 1) := by decide +kernel
theorem dX8_init_53 : decode cX8_init 53 = .ok (.bipush 120, 2) := by decide +kernel
theorem dX8_init_55 : decode cX8_init 55 = .ok (.newarray .int, 2) := by decide +kernel
theorem dX8_init_57 : decode cX8_init 57 = .ok (.putfield 29, 3) := by decide +kernel
theorem dX8_init_60 : decode cX8_init 60 = .ok (.aload_n 0, 1) := by decide +kernel
theorem dX8_init_61 : decode cX8_init 61 = .ok (.bipush 120, 2) := by decide +kernel
theorem dX8_init_63 : decode cX8_init 63 = .ok (.newarray .int, 2) := by decide +kernel
theorem dX8_init_65 : decode cX8_init 65 = .ok (.putfield 32, 3) := by decide +kernel
theorem dX8_init_68 : decode cX8_init 68 = .ok (.aload_n 0, 1) := by decide +kernel
theorem dX8_init_69 : decode cX8_init 69 = .ok (.bipush 120, 2) := by decide +kernel
theorem dX8_init_71 : decode cX8_init 71 = .ok (.newarray .int, 2) := by decide +kernel
theorem dX8_init_73 : decode cX8_init 73 = .ok (.putfield 35, 3) := by decide +kernel
theorem dX8_init_76 : decode cX8_init 76 = .ok (.aload_n 0, 1) := by decide +kernel
theorem dX8_init_77 : decode cX8_init 77 = .ok (.bipush 120, 2) := by decide +kernel
theorem dX8_init_79 : decode cX8_init 79 = .ok (.newarray .int, 2) := by decide +kernel
theorem dX8_init_81 : decode cX8_init 81 = .ok (.putfield 38, 3) := by decide +kernel
theorem dX8_init_84 : decode cX8_init 84 = .ok (.aload_n 0, 1) := by decide +kernel
theorem dX8_init_85 : decode cX8_init 85 = .ok (.bipush 12, 2) := by decide +kernel
theorem dX8_init_87 : decode cX8_init 87 = .ok (.newarray .int, 2) := by decide +kernel
theorem dX8_init_89 : decode cX8_init 89 = .ok (.putfield 41, 3) := by decide +kernel
theorem dX8_init_92 : decode cX8_init 92 = .ok (.aload_n 0, 1) := by decide +kernel
theorem dX8_init_93 : decode cX8_init 93 = .ok (.iconst 1, 1) := by decide +kernel
theorem dX8_init_94 : decode cX8_init 94 = .ok (.putfield 44, 3) := by decide +kernel
theorem dX8_init_97 : decode cX8_init 97 = .ok (.aload_n 0, 1) := by decide +kernel
theorem dX8_init_98 : decode cX8_init 98 = .ok (.bipush 8, 2) := by decide +kernel
theorem dX8_init_100 : decode cX8_init 100 = .ok (.newarray .int, 2) := by decide +kernel
theorem dX8_init_102 : decode cX8_init 102 = .ok (.putfield 48, 3) := by decide +kernel
theorem dX8_init_105 : decode cX8_init 105 = .ok (.aload_n 0, 1) := by decide +kernel
theorem dX8_init_106 : decode cX8_init 106 = .ok (.sipush 1024, 3) := by decide +kernel
theorem dX8_init_109 : decode cX8_init 109 = .ok (.newarray .int, 2) := by decide +kernel
theorem dX8_init_111 : decode cX8_init 111 = .ok (.putfield 51, 3) := by decide +kernel
theorem dX8_init_114 : decode cX8_init 114 = .ok (.aload_n 0, 1) := by decide +kernel
theorem dX8_init_115 : decode cX8_init 115 = .ok (.bipush 120, 2) := by decide +kernel
theorem dX8_init_117 : decode cX8_init 117 = .ok (.newarray .int, 2) := by decide +kernel
theorem dX8_init_119 : decode cX8_init 119 = .ok (.putfield 54, 3) := by decide +kernel
theorem dX8_init_122 : decode cX8_init 122 = .ok (.aload_n 0, 1) := by decide +kernel
theorem dX8_init_123 : decode cX8_init 123 = .ok (.bipush 12, 2) := by decide +kernel
theorem dX8_init_125 : decode cX8_init 125 = .ok (.newarray .int, 2) := by decide +kernel
theorem dX8_init_127 : decode cX8_init 127 = .ok (.putfield 57, 3) := by decide +kernel
theorem dX8_init_130 : decode cX8_init 130 = .ok (.aload_n 0, 1) := by decide +kernel
theorem dX8_init_131 : decode cX8_init 131 = .ok (.bipush 10, 2) := by decide +kernel
theorem dX8_init_133 : decode cX8_init 133 = .ok (.newarray .int, 2) := by decide +kernel
theorem dX8_init_135 : decode cX8_init 135 = .ok (.putfield 60, 3) := by decide +kernel
theorem dX8_init_138 : decode cX8_init 138 = .ok (.aload_n 0, 1) := by decide +kernel
theorem dX8_init_139 : decode cX8_init 139 = .ok (.bipush 10, 2) := by decide +kernel
theorem dX8_init_141 : decode cX8_init 141 = .ok (.newarray .int, 2) := by decide +kernel
theorem dX8_init_143 : decode cX8_init 143 = .ok (.putfield 63, 3) := by decide +kernel
theorem dX8_init_146 : decode cX8_init 146 = .ok (.aload_n 0, 1) := by decide +kernel
theorem dX8_init_147 : decode cX8_init 147 = .ok (.bipush 12, 2) := by decide +kernel
theorem dX8_init_149 : decode cX8_init 149 = .ok (.newarray .boolean, 2) := by decide +kernel
theorem dX8_init_151 : decode cX8_init 151 = .ok (.putfield 66, 3) := by decide +kernel
theorem dX8_init_154 : decode cX8_init 154 = .ok (.aload_n 0, 1) := by decide +kernel
theorem dX8_init_155 : decode cX8_init 155 = .ok (.bipush 120, 2) := by decide +kernel
theorem dX8_init_157 : decode cX8_init 157 = .ok (.newarray .int, 2) := by decide +kernel
theorem dX8_init_159 : decode cX8_init 159 = .ok (.putfield 70, 3) := by decide +kernel
theorem dX8_init_162 : decode cX8_init 162 = .ok (.aload_n 0, 1) := by decide +kernel
theorem dX8_init_163 : decode cX8_init 163 = .ok (.bipush 120, 2) := by decide +kernel
theorem dX8_init_165 : decode cX8_init 165 = .ok (.newarray .int, 2) := by decide +kernel
theorem dX8_init_167 : decode cX8_init 167 = .ok (.putfield 73, 3) := by decide +kernel
theorem dX8_init_170 : decode cX8_init 170 = .ok (.aload_n 0, 1) := by decide +kernel
theorem dX8_init_171 : decode cX8_init 171 = .ok (.bipush 120, 2) := by decide +kernel
theorem dX8_init_173 : decode cX8_init 173 = .ok (.newarray .int, 2) := by decide +kernel
theorem dX8_init_175 : decode cX8_init 175 = .ok (.putfield 76, 3) := by decide +kernel
theorem dX8_init_178 : decode cX8_init 178 = .ok (.aload_n 0, 1) := by decide +kernel
theorem dX8_init_179 : decode cX8_init 179 = .ok (.bipush 120, 2) := by decide +kernel
theorem dX8_init_181 : decode cX8_init 181 = .ok (.newarray .int, 2) := by decide +kernel
theorem dX8_init_183 : decode cX8_init 183 = .ok (.putfield 79, 3) := by decide +kernel
theorem dX8_init_186 : decode cX8_init 186 = .ok (.aload_n 0, 1) := by decide +kernel
theorem dX8_init_187 : decode cX8_init 187 = .ok (.bipush 120, 2) := by decide +kernel
theorem dX8_init_189 : decode cX8_init 189 = .ok (.newarray .int, 2) := by decide +kernel
theorem dX8_init_191 : decode cX8_init 191 = .ok (.putfield 82, 3) := by decide +kernel
theorem dX8_init_194 : decode cX8_init 194 = .ok (.aload_n 0, 1) := by decide +kernel
theorem dX8_init_195 : decode cX8_init 195 = .ok (.sipush 840, 3) := by decide +kernel
theorem dX8_init_198 : decode cX8_init 198 = .ok (.newarray .int, 2) := by decide +kernel
theorem dX8_init_200 : decode cX8_init 200 = .ok (.putfield 85, 3) := by decide +kernel
theorem dX8_init_203 : decode cX8_init 203 = .ok (.aload_n 0, 1) := by decide +kernel
theorem dX8_init_204 : decode cX8_init 204 = .ok (.bipush 7, 2) := by decide +kernel
theorem dX8_init_206 : decode cX8_init 206 = .ok (.newarray .int, 2) := by decide +kernel
theorem dX8_init_208 : decode cX8_init 208 = .ok (.putfield 88, 3) := by decide +kernel
theorem dX8_init_211 : decode cX8_init 211 = .ok (.aload_n 0, 1) := by decide +kernel
theorem dX8_init_212 : decode cX8_init 212 = .ok (.bipush 7, 2) := by decide +kernel
theorem dX8_init_214 : decode cX8_init 214 = .ok (.newarray .int, 2) := by decide +kernel
theorem dX8_init_216 : decode cX8_init 216 = .ok (.putfield 91, 3) := by decide +kernel
theorem dX8_init_219 : decode cX8_init 219 = .ok (.aload_n 0, 1) := by decide +kernel
theorem dX8_init_220 : decode cX8_init 220 = .ok (.bipush 7, 2) := by decide +kernel
theorem dX8_init_222 : decode cX8_init 222 = .ok (.newarray .int, 2) := by decide +kernel
theorem dX8_init_224 : decode cX8_init 224 = .ok (.putfield 94, 3) := by decide +kernel
theorem dX8_init_227 : decode cX8_init 227 = .ok (.aload_n 0, 1) := by decide +kernel
theorem dX8_init_228 : decode cX8_init 228 = .ok (.bipush 7, 2) := by decide +kernel
theorem dX8_init_230 : decode cX8_init 230 = .ok (.newarray .int, 2) := by decide +kernel
theorem dX8_init_232 : decode cX8_init 232 = .ok (.putfield 97, 3) := by decide +kernel
theorem dX8_init_235 : decode cX8_init 235 = .ok (.aload_n 0, 1) := by decide +kernel
theorem dX8_init_236 : decode cX8_init 236 = .ok (.iconst (-1), 1) := by decide +kernel
theorem dX8_init_237 : decode cX8_init 237 = .ok (.putfield 100, 3) := by decide +kernel
theorem dX8_init_240 : decode cX8_init 240 = .ok (.aload_n 0, 1) := by decide +kernel
theorem dX8_init_241 : decode cX8_init 241 = .ok (.bipush 74, 2) := by decide +kernel
theorem dX8_init_243 : decode cX8_init 243 = .ok (.newarray .long, 2) := by decide +kernel
theorem dX8_init_245 : decode cX8_init 245 = .ok (.putfield 103, 3) := by decide +kernel
theorem dX8_init_248 : decode cX8_init 248 = .ok (.aload_n 0, 1) := by decide +kernel
theorem dX8_init_249 : decode cX8_init 249 = .ok (.bipush 16, 2) := by decide +kernel
theorem dX8_init_251 : decode cX8_init 251 = .ok (.newarray .int, 2) := by decide +kernel
theorem dX8_init_253 : decode cX8_init 253 = .ok (.putfield 106, 3) := by decide +kernel
theorem dX8_init_256 : decode cX8_init 256 = .ok (.aload_n 0, 1) := by decide +kernel
theorem dX8_init_257 : decode cX8_init 257 = .ok (.bipush 64, 2) := by decide +kernel
theorem dX8_init_259 : decode cX8_init 259 = .ok (.newarray .int, 2) := by decide +kernel
theorem dX8_init_261 : decode cX8_init 261 = .ok (.putfield 109, 3) := by decide +kernel
theorem dX8_init_264 : decode cX8_init 264 = .ok (.aload_n 0, 1) := by decide +kernel
theorem dX8_init_265 : decode cX8_init 265 = .ok (.bipush 64, 2) := by decide +kernel
theorem dX8_init_267 : decode cX8_init 267 = .ok (.newarray .int, 2) := by decide +kernel
theorem dX8_init_269 : decode cX8_init 269 = .ok (.putfield 112, 3) := by decide +kernel
theorem dX8_init_272 : decode cX8_init 272 = .ok (.aload_n 0, 1) := by decide +kernel
theorem dX8_init_273 : decode cX8_init 273 = .ok (.iconst (-1), 1) := by decide +kernel
theorem dX8_init_274 : decode cX8_init 274 = .ok (.putfield 115, 3) := by decide +kernel
theorem dX8_init_277 : decode cX8_init 277 = .ok (.iconst 0, 1) := by decide +kernel
theorem dX8_init_278 : decode cX8_init 278 = .ok (.istore_n 1, 1) := by decide +kernel
theorem dX8_init_279 : decode cX8_init 279 = .ok (.iload_n 1, 1) := by decide +kernel
theorem dX8_init_280 : decode cX8_init 280 = .ok (.bipush 8, 2) := by decide +kernel
theorem dX8_init_282 : decode cX8_init 282 = .ok (.if_icmp .ge 17, 3) := by decide +kernel
theorem dX8_init_285 : decode cX8_init 285 = .ok (.aload_n 0, 1) := by decide +kernel
theorem dX8_init_286 : decode cX8_init 286 = .ok (.getfield 25, 3) := by decide +kernel
theorem dX8_init_289 : decode cX8_init 289 = .ok (.iload_n 1, 1) := by decide +kernel
theorem dX8_init_290 : decode cX8_init 290 = .ok (.bipush 16, 2) := by decide +kernel
theorem dX8_init_292 : decode cX8_init 292 = .ok (.iastore, 1) := by decide +kernel
theorem dX8_init_293 : decode cX8_init 293 = .ok (.iinc 1 1, 3) := by decide +kernel
theorem dX8_init_296 : decode cX8_init 296 = .ok (.goto (-17), 3) := by decide +kernel
theorem dX8_init_299 : decode cX8_init 299 = .ok (.iconst 0, 1) := by decide +kernel
theorem dX8_init_300 : decode cX8_init 300 = .ok (.istore_n 1, 1) := by decide +kernel
theorem dX8_isIn_0 : decode cX8_isIn 0 = .ok (.lload_n 0, 1) := by decide +kernel
theorem dX8_isIn_1 : decode cX8_isIn 1 = .ok (.lload_n 2, 1) := by decide +kernel
theorem dX8_isIn_2 : decode cX8_isIn 2 = .ok (.lcmp, 1) := by decide +kernel
theorem dX8_isIn_3 : decode cX8_isIn 3 = .ok (.ifCond .lt 14, 3) := by decide +kernel
theorem dX8_isIn_6 : decode cX8_isIn 6 = .ok (.lload_n 0, 1) := by decide +kernel
theorem dX8_isIn_7 : decode cX8_isIn 7 = .ok (.lload 4, 2) := by decide +kernel
theorem dX8_isIn_9 : decode cX8_isIn 9 = .ok (.lcmp, 1) := by decide +kernel
theorem dX8_isIn_10 : decode cX8_isIn 10 = .ok (.ifCond .gt 7, 3) := by decide +kernel
theorem dX8_isIn_13 : decode cX8_isIn 13 = .ok (.iconst 1, 1) := by decide +kernel
theorem dX8_isIn_14 : decode cX8_isIn 14 = .ok (.goto 4, 3) := by decide +kernel
theorem dX8_isIn_17 : decode cX8_isIn 17 = .ok (.iconst 0, 1) := by decide +kernel
theorem dX8_isIn_18 : decode cX8_isIn 18 = .ok (.ireturn, 1) := by decide +kernel
theorem dX8_no_0 : decode cX8_no 0 = .ok (.aload_n 0, 1) := by decide +kernel
theorem dX8_no_1 : decode cX8_no 1 = .ok (.getfield 48, 3) := by decide +kernel
theorem dX8_no_4 : decode cX8_no 4 = .ok (.iload_n 1, 1) := by decide +kernel
theorem dX8_no_5 : decode cX8_no 5 = .ok (.ineg, 1) := by decide +kernel
theorem dX8_no_6 : decode cX8_no 6 = .ok (.dup2, 1) := by decide +kernel
theorem dX8_no_7 : decode cX8_no 7 = .ok (.iaload, 1) := by decide +kernel
theorem dX8_no_8 : decode cX8_no 8 = .ok (.iconst 1, 1) := by decide +kernel
theorem dX8_no_9 : decode cX8_no 9 = .ok (.iadd, 1) := by decide +kernel
theorem dX8_no_10 : decode cX8_no 10 = .ok (.iastore, 1) := by decide +kernel
theorem dX8_no_11 : decode cX8_no 11 = .ok (.iload_n 1, 1) := by decide +kernel
theorem dX8_no_12 : decode cX8_no 12 = .ok (.ireturn, 1) := by decide +kernel
theorem dX8_isRegister_0 : decode cX8_isRegister 0 = .ok (.iload_n 0, 1) := by decide +kernel
theorem dX8_isRegister_1 : decode cX8_isRegister 1 = .ok (.ifCond .lt 13, 3) := by decide +kernel
theorem dX8_isRegister_4 : decode cX8_isRegister 4 = .ok (.iload_n 0, 1) := by decide +kernel
theorem dX8_isRegister_5 : decode cX8_isRegister 5 = .ok (.bipush 8, 2) := by decide +kernel
theorem dX8_isRegister_7 : decode cX8_isRegister 7 = .ok (.if_icmp .ge 7, 3) := by decide +kernel
theorem dX8_isRegister_10 : decode cX8_isRegister 10 = .ok (.iconst 1, 1) := by decide +kernel
theorem dX8_isRegister_11 : decode cX8_isRegister 11 = .ok (.goto 4, 3) := by decide +kernel
theorem dX8_isRegister_14 : decode cX8_isRegister 14 = .ok (.iconst 0, 1) := by decide +kernel
theorem dX8_isRegister_15 : decode cX8_isRegister 15 = .ok (.ireturn, 1) := by decide +kernel
theorem dX8_isCell_0 : decode cX8_isCell 0 = .ok (.iload_n 0, 1) := by decide +kernel
theorem dX8_isCell_1 : decode cX8_isCell 1 = .ok (.ifCond .lt 13, 3) := by decide +kernel
theorem dX8_isCell_4 : decode cX8_isCell 4 = .ok (.iload_n 0, 1) := by decide +kernel
theorem dX8_isCell_5 : decode cX8_isCell 5 = .ok (.bipush 64, 2) := by decide +kernel
theorem dX8_isCell_7 : decode cX8_isCell 7 = .ok (.if_icmp .ge 7, 3) := by decide +kernel
theorem dX8_isCell_10 : decode cX8_isCell 10 = .ok (.iconst 1, 1) := by decide +kernel
theorem dX8_isCell_11 : decode cX8_isCell 11 = .ok (.goto 4, 3) := by decide +kernel
theorem dX8_isCell_14 : decode cX8_isCell 14 = .ok (.iconst 0, 1) := by decide +kernel
theorem dX8_isCell_15 : decode cX8_isCell 15 = .ok (.ireturn, 1) := by decide +kernel
theorem dX8_isInstruction_0 : decode cX8_isInstruction 0 = .ok (.iload_n 0, 1) := by decide +kernel
theorem dX8_isInstruction_1 : decode cX8_isInstruction 1 = .ok (.ifCond .lt 13, 3) := by decide +kernel
theorem dX8_isInstruction_4 : decode cX8_isInstruction 4 = .ok (.iload_n 0, 1) := by decide +kernel
theorem dX8_isInstruction_5 : decode cX8_isInstruction 5 = .ok (.bipush 12, 2) := by decide +kernel
theorem dX8_isInstruction_7 : decode cX8_isInstruction 7 = .ok (.if_icmp .ge 7, 3) := by decide +kernel
theorem dX8_isInstruction_10 : decode cX8_isInstruction 10 = .ok (.iconst 1, 1) := by decide +kernel
theorem dX8_isInstruction_11 : decode cX8_isInstruction 11 = .ok (.goto 4, 3) := by decide +kernel
theorem dX8_isInstruction_14 : decode cX8_isInstruction 14 = .ok (.iconst 0, 1) := by decide +kernel
theorem dX8_isInstruction_15 : decode cX8_isInstruction 15 = .ok (.ireturn, 1) := by decide +kernel
theorem dX8_cut_0 : decode cX8_cut 0 = .ok (.lload_n 2, 1) := by decide +kernel
theorem dX8_cut_1 : decode cX8_cut 1 = .ok (.lconst 1, 1) := by decide +kernel
theorem dX8_cut_2 : decode cX8_cut 2 = .ok (.aload_n 0, 1) := by decide +kernel
theorem dX8_cut_3 : decode cX8_cut 3 = .ok (.getfield 25, 3) := by decide +kernel
theorem dX8_cut_6 : decode cX8_cut 6 = .ok (.iload_n 1, 1) := by decide +kernel
theorem dX8_cut_7 : decode cX8_cut 7 = .ok (.iaload, 1) := by decide +kernel
theorem dX8_cut_8 : decode cX8_cut 8 = .ok (.lshl, 1) := by decide +kernel
theorem dX8_cut_9 : decode cX8_cut 9 = .ok (.lconst 1, 1) := by decide +kernel
theorem dX8_cut_10 : decode cX8_cut 10 = .ok (.lsub, 1) := by decide +kernel
theorem dX8_cut_11 : decode cX8_cut 11 = .ok (.land, 1) := by decide +kernel
theorem dX8_cut_12 : decode cX8_cut 12 = .ok (.lreturn, 1) := by decide +kernel
set_option maxRecDepth 20000 in
theorem ggX8_width_X8_isRegister : GoodIn wsX8_width wsX8_isRegister := goodIn_r _ [7] rfl (by decide +kernel)
set_option maxRecDepth 20000 in
theorem gX8_width_X8_isRegister : GoodIn wsX8_width (va_wsS RX8 118 yX8_isRegister wsX8_isRegister) := goodIn_app (goodIn_of _ (by decide +kernel)) ggX8_width_X8_isRegister
set_option maxRecDepth 20000 in
theorem ggX8_width_X8_no : GoodIn wsX8_width wsX8_no := goodIn_r _ [11, 12, 20, 21, 22, 23, 24, 25, 26, 27, 28, 29, 30, 31, 32, 33, 34, 35, 36, 37, 38, 39, 40, 41, 42, 43, 44, 45, 46, 47, 48, 49, 50, 51, 52, 53, 54, 55, 56, 57, 58, 59, 60, 61, 62, 63] rfl (by decide +kernel)
set_option maxRecDepth 20000 in
theorem gX8_width_X8_no : GoodIn wsX8_width (wsV RX8 122 RX8 yX8_no wsX8_no) := goodIn_app (goodIn_of _ (by decide +kernel)) ggX8_width_X8_no
set_option maxRecDepth 20000 in
theorem ggX8_width_X8_isIn : GoodIn wsX8_width wsX8_isIn := goodIn_r _ [15] rfl (by decide +kernel)
set_option maxRecDepth 20000 in
theorem gX8_width_X8_isIn : GoodIn wsX8_width (va_wsS RX8 128 yX8_isIn wsX8_isIn) := goodIn_app (goodIn_of _ (by decide +kernel)) ggX8_width_X8_isIn
set_option maxRecDepth 20000 in
theorem ggX8_width_X8_cut : GoodIn wsX8_width wsX8_cut := goodIn_r _ [19, 2, 20, 21, 22, 23, 24, 25, 26, 27, 28, 29, 30, 31, 32, 33, 34, 35, 36, 37, 38, 39, 40, 41, 42, 43, 44, 45, 46, 47, 48, 49, 50, 51, 52, 53, 54, 55, 56, 57, 58, 59, 60, 61, 62, 63] rfl (by decide +kernel)
set_option maxRecDepth 20000 in
theorem gX8_width_X8_cut : GoodIn wsX8_width (wsV RX8 132 RX8 yX8_cut wsX8_cut) := goodIn_app (goodIn_of _ (by decide +kernel)) ggX8_width_X8_cut
theorem dX8_width_0 : decode cX8_width 0 = .ok (.iload_n 1, 1) := by decide +kernel
theorem dX8_width_1 : decode cX8_width 1 = .ok (.invokestatic 118, 3) := by decide +kernel
theorem dX8_width_4 : decode cX8_width 4 = .ok (.ifCond .ne 10, 3) := by decide +kernel
theorem dX8_width_7 : decode cX8_width 7 = .ok (.aload_n 0, 1) := by decide +kernel
theorem dX8_width_8 : decode cX8_width 8 = .ok (.bipush (-3), 2) := by decide +kernel
theorem dX8_width_10 : decode cX8_width 10 = .ok (.invokevirtual 122, 3) := by decide +kernel
theorem dX8_width_13 : decode cX8_width 13 = .ok (.ireturn, 1) := by decide +kernel
theorem dX8_width_14 : decode cX8_width 14 = .ok (.iload_n 2, 1) := by decide +kernel
theorem dX8_width_15 : decode cX8_width 15 = .ok (.i2l, 1) := by decide +kernel
theorem dX8_width_16 : decode cX8_width 16 = .ok (.lconst 1, 1) := by decide +kernel
theorem dX8_width_17 : decode cX8_width 17 = .ok (.ldc2_w 126, 3) := by decide +kernel
theorem dX8_width_20 : decode cX8_width 20 = .ok (.invokestatic 128, 3) := by decide +kernel
theorem dX8_width_23 : decode cX8_width 23 = .ok (.ifCond .ne 10, 3) := by decide +kernel
theorem dX8_width_26 : decode cX8_width 26 = .ok (.aload_n 0, 1) := by decide +kernel
theorem dX8_width_27 : decode cX8_width 27 = .ok (.bipush (-6), 2) := by decide +kernel
theorem dX8_width_29 : decode cX8_width 29 = .ok (.invokevirtual 122, 3) := by decide +kernel
theorem dX8_width_32 : decode cX8_width 32 = .ok (.ireturn, 1) := by decide +kernel
theorem dX8_width_33 : decode cX8_width 33 = .ok (.aload_n 0, 1) := by decide +kernel
theorem dX8_width_34 : decode cX8_width 34 = .ok (.getfield 25, 3) := by decide +kernel
theorem dX8_width_37 : decode cX8_width 37 = .ok (.iload_n 1, 1) := by decide +kernel
theorem dX8_width_38 : decode cX8_width 38 = .ok (.iaload, 1) := by decide +kernel
theorem dX8_width_39 : decode cX8_width 39 = .ok (.istore_n 3, 1) := by decide +kernel
theorem dX8_width_40 : decode cX8_width 40 = .ok (.aload_n 0, 1) := by decide +kernel
theorem dX8_width_41 : decode cX8_width 41 = .ok (.getfield 25, 3) := by decide +kernel
theorem dX8_width_44 : decode cX8_width 44 = .ok (.iload_n 1, 1) := by decide +kernel
theorem dX8_width_45 : decode cX8_width 45 = .ok (.iload_n 2, 1) := by decide +kernel
theorem dX8_width_46 : decode cX8_width 46 = .ok (.iastore, 1) := by decide +kernel
theorem dX8_width_47 : decode cX8_width 47 = .ok (.aload_n 0, 1) := by decide +kernel
theorem dX8_width_48 : decode cX8_width 48 = .ok (.getfield 7, 3) := by decide +kernel
theorem dX8_width_51 : decode cX8_width 51 = .ok (.iload_n 1, 1) := by decide +kernel
theorem dX8_width_52 : decode cX8_width 52 = .ok (.aload_n 0, 1) := by decide +kernel
theorem dX8_width_53 : decode cX8_width 53 = .ok (.iload_n 1, 1) := by decide +kernel
theorem dX8_width_54 : decode cX8_width 54 = .ok (.aload_n 0, 1) := by decide +kernel
theorem dX8_width_55 : decode cX8_width 55 = .ok (.getfield 7, 3) := by decide +kernel
theorem dX8_width_58 : decode cX8_width 58 = .ok (.iload_n 1, 1) := by decide +kernel
theorem dX8_width_59 : decode cX8_width 59 = .ok (.laload, 1) := by decide +kernel
theorem dX8_width_60 : decode cX8_width 60 = .ok (.invokevirtual 132, 3) := by decide +kernel
theorem dX8_width_63 : decode cX8_width 63 = .ok (.lastore, 1) := by decide +kernel
theorem dX8_width_64 : decode cX8_width 64 = .ok (.iload_n 3, 1) := by decide +kernel
theorem dX8_width_65 : decode cX8_width 65 = .ok (.ireturn, 1) := by decide +kernel
set_option maxRecDepth 20000 in
theorem ggX8_set_X8_isRegister : GoodIn wsX8_set wsX8_isRegister := goodIn_r _ [5] rfl (by decide +kernel)
set_option maxRecDepth 20000 in
theorem gX8_set_X8_isRegister : GoodIn wsX8_set (va_wsS RX8 118 yX8_isRegister wsX8_isRegister) := goodIn_app (goodIn_of _ (by decide +kernel)) ggX8_set_X8_isRegister
set_option maxRecDepth 20000 in
theorem ggX8_set_X8_no : GoodIn wsX8_set wsX8_no := goodIn_r _ [9, 10, 16, 17, 18, 19, 20, 21, 22, 23, 24, 25, 26, 27, 28, 29, 30, 31, 32, 33, 34, 35, 36, 37, 38, 39, 40, 41, 42, 43, 44, 45, 46, 47, 48, 49, 50, 51, 52, 53, 54, 55, 56, 57, 58, 59] rfl (by decide +kernel)
set_option maxRecDepth 20000 in
theorem gX8_set_X8_no : GoodIn wsX8_set (wsV RX8 122 RX8 yX8_no wsX8_no) := goodIn_app (goodIn_of _ (by decide +kernel)) ggX8_set_X8_no
set_option maxRecDepth 20000 in
theorem ggX8_set_X8_cut : GoodIn wsX8_set wsX8_cut := goodIn_r _ [14, 15, 16, 17, 18, 19, 20, 21, 22, 23, 24, 25, 26, 27, 28, 29, 30, 31, 32, 33, 34, 35, 36, 37, 38, 39, 40, 41, 42, 43, 44, 45, 46, 47, 48, 49, 50, 51, 52, 53, 54, 55, 56, 57, 58, 59] rfl (by decide +kernel)
set_option maxRecDepth 20000 in
theorem gX8_set_X8_cut : GoodIn wsX8_set (wsV RX8 132 RX8 yX8_cut wsX8_cut) := goodIn_app (goodIn_of _ (by decide +kernel)) ggX8_set_X8_cut
theorem dX8_set_0 : decode cX8_set 0 = .ok (.iload_n 1, 1) := by decide +kernel
theorem dX8_set_1 : decode cX8_set 1 = .ok (.invokestatic 118, 3) := by decide +kernel
theorem dX8_set_4 : decode cX8_set 4 = .ok (.ifCond .ne 10, 3) := by decide +kernel
theorem dX8_set_7 : decode cX8_set 7 = .ok (.aload_n 0, 1) := by decide +kernel
theorem dX8_set_8 : decode cX8_set 8 = .ok (.bipush (-3), 2) := by decide +kernel
theorem dX8_set_10 : decode cX8_set 10 = .ok (.invokevirtual 122, 3) := by decide +kernel
theorem dX8_set_13 : decode cX8_set 13 = .ok (.ireturn, 1) := by decide +kernel
theorem dX8_set_14 : decode cX8_set 14 = .ok (.aload_n 0, 1) := by decide +kernel
theorem dX8_set_15 : decode cX8_set 15 = .ok (.getfield 7, 3) := by decide +kernel
theorem dX8_set_18 : decode cX8_set 18 = .ok (.iload_n 1, 1) := by decide +kernel
theorem dX8_set_19 : decode cX8_set 19 = .ok (.laload, 1) := by decide +kernel
theorem dX8_set_20 : decode cX8_set 20 = .ok (.lstore 4, 2) := by decide +kernel
theorem dX8_set_22 : decode cX8_set 22 = .ok (.aload_n 0, 1) := by decide +kernel
theorem dX8_set_23 : decode cX8_set 23 = .ok (.getfield 7, 3) := by decide +kernel
theorem dX8_set_26 : decode cX8_set 26 = .ok (.iload_n 1, 1) := by decide +kernel
theorem dX8_set_27 : decode cX8_set 27 = .ok (.aload_n 0, 1) := by decide +kernel
theorem dX8_set_28 : decode cX8_set 28 = .ok (.iload_n 1, 1) := by decide +kernel
theorem dX8_set_29 : decode cX8_set 29 = .ok (.lload_n 2, 1) := by decide +kernel
theorem dX8_set_30 : decode cX8_set 30 = .ok (.invokevirtual 132, 3) := by decide +kernel
theorem dX8_set_33 : decode cX8_set 33 = .ok (.lastore, 1) := by decide +kernel
theorem dX8_set_34 : decode cX8_set 34 = .ok (.lload 4, 2) := by decide +kernel
theorem dX8_set_36 : decode cX8_set 36 = .ok (.aload_n 0, 1) := by decide +kernel
theorem dX8_set_37 : decode cX8_set 37 = .ok (.getfield 7, 3) := by decide +kernel
theorem dX8_set_40 : decode cX8_set 40 = .ok (.iload_n 1, 1) := by decide +kernel
theorem dX8_set_41 : decode cX8_set 41 = .ok (.laload, 1) := by decide +kernel
theorem dX8_set_42 : decode cX8_set 42 = .ok (.lcmp, 1) := by decide +kernel
theorem dX8_set_43 : decode cX8_set 43 = .ok (.ifCond .eq 7, 3) := by decide +kernel
theorem dX8_set_46 : decode cX8_set 46 = .ok (.iconst 1, 1) := by decide +kernel
theorem dX8_set_47 : decode cX8_set 47 = .ok (.goto 4, 3) := by decide +kernel
theorem dX8_set_50 : decode cX8_set 50 = .ok (.iconst 0, 1) := by decide +kernel
theorem dX8_set_51 : decode cX8_set 51 = .ok (.ireturn, 1) := by decide +kernel
set_option maxRecDepth 20000 in
theorem ggX8_register_X8_isRegister : GoodIn wsX8_register wsX8_isRegister := goodIn_r _ [5] rfl (by decide +kernel)
set_option maxRecDepth 20000 in
theorem gX8_register_X8_isRegister : GoodIn wsX8_register (va_wsS RX8 118 yX8_isRegister wsX8_isRegister) := goodIn_app (goodIn_of _ (by decide +kernel)) ggX8_register_X8_isRegister
set_option maxRecDepth 20000 in
theorem ggX8_register_X8_no : GoodIn wsX8_register wsX8_no := goodIn_r _ [9, 10, 11, 12, 13, 14, 15, 16, 17, 18, 19, 20, 21, 22, 23, 24, 25, 26, 27, 28, 29, 30, 31, 32, 33, 34, 35, 36, 37, 38, 39, 40, 41, 42, 43, 44, 45, 46, 47, 48, 49, 50, 51, 52, 53, 54] rfl (by decide +kernel)
set_option maxRecDepth 20000 in
theorem gX8_register_X8_no : GoodIn wsX8_register (wsV RX8 122 RX8 yX8_no wsX8_no) := goodIn_app (goodIn_of _ (by decide +kernel)) ggX8_register_X8_no
theorem dX8_register_0 : decode cX8_register 0 = .ok (.iload_n 1, 1) := by decide +kernel
theorem dX8_register_1 : decode cX8_register 1 = .ok (.invokestatic 118, 3) := by decide +kernel
theorem dX8_register_4 : decode cX8_register 4 = .ok (.ifCond .eq 10, 3) := by decide +kernel
theorem dX8_register_7 : decode cX8_register 7 = .ok (.aload_n 0, 1) := by decide +kernel
theorem dX8_register_8 : decode cX8_register 8 = .ok (.getfield 7, 3) := by decide +kernel
theorem dX8_register_11 : decode cX8_register 11 = .ok (.iload_n 1, 1) := by decide +kernel
theorem dX8_register_12 : decode cX8_register 12 = .ok (.laload, 1) := by decide +kernel
theorem dX8_register_13 : decode cX8_register 13 = .ok (.lreturn, 1) := by decide +kernel
theorem dX8_register_14 : decode cX8_register 14 = .ok (.aload_n 0, 1) := by decide +kernel
theorem dX8_register_15 : decode cX8_register 15 = .ok (.bipush (-3), 2) := by decide +kernel
theorem dX8_register_17 : decode cX8_register 17 = .ok (.invokevirtual 122, 3) := by decide +kernel
theorem dX8_register_20 : decode cX8_register 20 = .ok (.istore_n 2, 1) := by decide +kernel
theorem dX8_register_21 : decode cX8_register 21 = .ok (.lconst 0, 1) := by decide +kernel
theorem dX8_register_22 : decode cX8_register 22 = .ok (.lreturn, 1) := by decide +kernel
set_option maxRecDepth 20000 in
theorem ggX8_poke_X8_isCell : GoodIn wsX8_poke wsX8_isCell := goodIn_r _ [6] rfl (by decide +kernel)
set_option maxRecDepth 20000 in
theorem gX8_poke_X8_isCell : GoodIn wsX8_poke (va_wsS RX8 136 yX8_isCell wsX8_isCell) := goodIn_app (goodIn_of _ (by decide +kernel)) ggX8_poke_X8_isCell
set_option maxRecDepth 20000 in
theorem ggX8_poke_X8_no : GoodIn wsX8_poke wsX8_no := goodIn_r _ [10, 11, 12, 13, 14, 15, 16, 17, 18, 19, 20, 21, 22, 23, 24, 25, 26, 27, 28, 29, 30, 31, 32, 33, 34, 35, 36, 37, 38, 39, 40, 41, 42, 43, 44, 45, 46, 47, 48, 49, 50, 51, 52, 53, 54, 55] rfl (by decide +kernel)
set_option maxRecDepth 20000 in
theorem gX8_poke_X8_no : GoodIn wsX8_poke (wsV RX8 122 RX8 yX8_no wsX8_no) := goodIn_app (goodIn_of _ (by decide +kernel)) ggX8_poke_X8_no
theorem dX8_poke_0 : decode cX8_poke 0 = .ok (.iload_n 1, 1) := by decide +kernel
theorem dX8_poke_1 : decode cX8_poke 1 = .ok (.invokestatic 136, 3) := by decide +kernel
theorem dX8_poke_4 : decode cX8_poke 4 = .ok (.ifCond .ne 10, 3) := by decide +kernel
theorem dX8_poke_7 : decode cX8_poke 7 = .ok (.aload_n 0, 1) := by decide +kernel
theorem dX8_poke_8 : decode cX8_poke 8 = .ok (.bipush (-3), 2) := by decide +kernel
theorem dX8_poke_10 : decode cX8_poke 10 = .ok (.invokevirtual 122, 3) := by decide +kernel
theorem dX8_poke_13 : decode cX8_poke 13 = .ok (.ireturn, 1) := by decide +kernel
theorem dX8_poke_14 : decode cX8_poke 14 = .ok (.aload_n 0, 1) := by decide +kernel
theorem dX8_poke_15 : decode cX8_poke 15 = .ok (.getfield 7, 3) := by decide +kernel
theorem dX8_poke_18 : decode cX8_poke 18 = .ok (.bipush 10, 2) := by decide +kernel
theorem dX8_poke_20 : decode cX8_poke 20 = .ok (.iload_n 1, 1) := by decide +kernel
theorem dX8_poke_21 : decode cX8_poke 21 = .ok (.iadd, 1) := by decide +kernel
theorem dX8_poke_22 : decode cX8_poke 22 = .ok (.laload, 1) := by decide +kernel
theorem dX8_poke_23 : decode cX8_poke 23 = .ok (.lstore 4, 2) := by decide +kernel
theorem dX8_poke_25 : decode cX8_poke 25 = .ok (.aload_n 0, 1) := by decide +kernel
theorem dX8_poke_26 : decode cX8_poke 26 = .ok (.getfield 7, 3) := by decide +kernel
theorem dX8_poke_29 : decode cX8_poke 29 = .ok (.bipush 10, 2) := by decide +kernel
theorem dX8_poke_31 : decode cX8_poke 31 = .ok (.iload_n 1, 1) := by decide +kernel
theorem dX8_poke_32 : decode cX8_poke 32 = .ok (.iadd, 1) := by decide +kernel
theorem dX8_poke_33 : decode cX8_poke 33 = .ok (.lload_n 2, 1) := by decide +kernel
theorem dX8_poke_34 : decode cX8_poke 34 = .ok (.ldc2_w 139, 3) := by decide +kernel
theorem dX8_poke_37 : decode cX8_poke 37 = .ok (.land, 1) := by decide +kernel
theorem dX8_poke_38 : decode cX8_poke 38 = .ok (.lastore, 1) := by decide +kernel
theorem dX8_poke_39 : decode cX8_poke 39 = .ok (.lload 4, 2) := by decide +kernel
theorem dX8_poke_41 : decode cX8_poke 41 = .ok (.aload_n 0, 1) := by decide +kernel
theorem dX8_poke_42 : decode cX8_poke 42 = .ok (.getfield 7, 3) := by decide +kernel
theorem dX8_poke_45 : decode cX8_poke 45 = .ok (.bipush 10, 2) := by decide +kernel
theorem dX8_poke_47 : decode cX8_poke 47 = .ok (.iload_n 1, 1) := by decide +kernel
theorem dX8_poke_48 : decode cX8_poke 48 = .ok (.iadd, 1) := by decide +kernel
theorem dX8_poke_49 : decode cX8_poke 49 = .ok (.laload, 1) := by decide +kernel
theorem dX8_poke_50 : decode cX8_poke 50 = .ok (.lcmp, 1) := by decide +kernel
theorem dX8_poke_51 : decode cX8_poke 51 = .ok (.ifCond .eq 7, 3) := by decide +kernel
theorem dX8_poke_54 : decode cX8_poke 54 = .ok (.iconst 1, 1) := by decide +kernel
theorem dX8_poke_55 : decode cX8_poke 55 = .ok (.goto 4, 3) := by decide +kernel
theorem dX8_poke_58 : decode cX8_poke 58 = .ok (.iconst 0, 1) := by decide +kernel
theorem dX8_poke_59 : decode cX8_poke 59 = .ok (.ireturn, 1) := by decide +kernel
set_option maxRecDepth 20000 in
theorem ggX8_cell_X8_isCell : GoodIn wsX8_cell wsX8_isCell := goodIn_r _ [5] rfl (by decide +kernel)
set_option maxRecDepth 20000 in
theorem gX8_cell_X8_isCell : GoodIn wsX8_cell (va_wsS RX8 136 yX8_isCell wsX8_isCell) := goodIn_app (goodIn_of _ (by decide +kernel)) ggX8_cell_X8_isCell
set_option maxRecDepth 20000 in
theorem ggX8_cell_X8_no : GoodIn wsX8_cell wsX8_no := goodIn_r _ [9, 10, 11, 12, 13, 14, 15, 16, 17, 18, 19, 20, 21, 22, 23, 24, 25, 26, 27, 28, 29, 30, 31, 32, 33, 34, 35, 36, 37, 38, 39, 40, 41, 42, 43, 44, 45, 46, 47, 48, 49, 50, 51, 52, 53, 54] rfl (by decide +kernel)
set_option maxRecDepth 20000 in
theorem gX8_cell_X8_no : GoodIn wsX8_cell (wsV RX8 122 RX8 yX8_no wsX8_no) := goodIn_app (goodIn_of _ (by decide +kernel)) ggX8_cell_X8_no
theorem dX8_cell_0 : decode cX8_cell 0 = .ok (.iload_n 1, 1) := by decide +kernel
theorem dX8_cell_1 : decode cX8_cell 1 = .ok (.invokestatic 136, 3) := by decide +kernel
theorem dX8_cell_4 : decode cX8_cell 4 = .ok (.ifCond .eq 13, 3) := by decide +kernel
theorem dX8_cell_7 : decode cX8_cell 7 = .ok (.aload_n 0, 1) := by decide +kernel
theorem dX8_cell_8 : decode cX8_cell 8 = .ok (.getfield 7, 3) := by decide +kernel
theorem dX8_cell_11 : decode cX8_cell 11 = .ok (.bipush 10, 2) := by decide +kernel
theorem dX8_cell_13 : decode cX8_cell 13 = .ok (.iload_n 1, 1) := by decide +kernel
theorem dX8_cell_14 : decode cX8_cell 14 = .ok (.iadd, 1) := by decide +kernel
theorem dX8_cell_15 : decode cX8_cell 15 = .ok (.laload, 1) := by decide +kernel
theorem dX8_cell_16 : decode cX8_cell 16 = .ok (.lreturn, 1) := by decide +kernel
theorem dX8_cell_17 : decode cX8_cell 17 = .ok (.aload_n 0, 1) := by decide +kernel
theorem dX8_cell_18 : decode cX8_cell 18 = .ok (.bipush (-3), 2) := by decide +kernel
theorem dX8_cell_20 : decode cX8_cell 20 = .ok (.invokevirtual 122, 3) := by decide +kernel
theorem dX8_cell_23 : decode cX8_cell 23 = .ok (.istore_n 2, 1) := by decide +kernel
theorem dX8_cell_24 : decode cX8_cell 24 = .ok (.lconst 0, 1) := by decide +kernel
theorem dX8_cell_25 : decode cX8_cell 25 = .ok (.lreturn, 1) := by decide +kernel
set_option maxRecDepth 20000 in
theorem ggX8_flag_X8_isIn : GoodIn wsX8_flag wsX8_isIn := goodIn_r _ [5] rfl (by decide +kernel)
set_option maxRecDepth 20000 in
theorem gX8_flag_X8_isIn : GoodIn wsX8_flag (va_wsS RX8 128 yX8_isIn wsX8_isIn) := goodIn_app (goodIn_of _ (by decide +kernel)) ggX8_flag_X8_isIn
set_option maxRecDepth 20000 in
theorem ggX8_flag_X8_no : GoodIn wsX8_flag wsX8_no := goodIn_r _ [9, 10, 11, 12, 13, 14, 15, 16, 17, 18, 19, 20, 21, 22, 23, 24, 25, 26, 27, 28, 29, 30, 31, 32, 33, 34, 35, 36, 37, 38, 39, 40, 41, 42, 43, 44, 45, 46, 47, 48, 49, 50, 51, 52, 53, 54] rfl (by decide +kernel)
set_option maxRecDepth 20000 in
theorem gX8_flag_X8_no : GoodIn wsX8_flag (wsV RX8 122 RX8 yX8_no wsX8_no) := goodIn_app (goodIn_of _ (by decide +kernel)) ggX8_flag_X8_no
theorem dX8_flag_0 : decode cX8_flag 0 = .ok (.iload_n 1, 1) := by decide +kernel
theorem dX8_flag_1 : decode cX8_flag 1 = .ok (.i2l, 1) := by decide +kernel
theorem dX8_flag_2 : decode cX8_flag 2 = .ok (.lconst 0, 1) := by decide +kernel
theorem dX8_flag_3 : decode cX8_flag 3 = .ok (.lconst 1, 1) := by decide +kernel
theorem dX8_flag_4 : decode cX8_flag 4 = .ok (.invokestatic 128, 3) := by decide +kernel
theorem dX8_flag_7 : decode cX8_flag 7 = .ok (.ifCond .ne 10, 3) := by decide +kernel
theorem dX8_flag_10 : decode cX8_flag 10 = .ok (.aload_n 0, 1) := by decide +kernel
theorem dX8_flag_11 : decode cX8_flag 11 = .ok (.bipush (-3), 2) := by decide +kernel
theorem dX8_flag_13 : decode cX8_flag 13 = .ok (.invokevirtual 122, 3) := by decide +kernel
theorem dX8_flag_16 : decode cX8_flag 16 = .ok (.ireturn, 1) := by decide +kernel
theorem dX8_flag_17 : decode cX8_flag 17 = .ok (.aload_n 0, 1) := by decide +kernel
theorem dX8_flag_18 : decode cX8_flag 18 = .ok (.getfield 7, 3) := by decide +kernel
theorem dX8_flag_21 : decode cX8_flag 21 = .ok (.bipush 8, 2) := by decide +kernel
theorem dX8_flag_23 : decode cX8_flag 23 = .ok (.iload_n 1, 1) := by decide +kernel
theorem dX8_flag_24 : decode cX8_flag 24 = .ok (.iadd, 1) := by decide +kernel
theorem dX8_flag_25 : decode cX8_flag 25 = .ok (.laload, 1) := by decide +kernel
theorem dX8_flag_26 : decode cX8_flag 26 = .ok (.l2i, 1) := by decide +kernel
theorem dX8_flag_27 : decode cX8_flag 27 = .ok (.istore_n 3, 1) := by decide +kernel
theorem dX8_flag_28 : decode cX8_flag 28 = .ok (.aload_n 0, 1) := by decide +kernel
theorem dX8_flag_29 : decode cX8_flag 29 = .ok (.getfield 7, 3) := by decide +kernel
theorem dX8_flag_32 : decode cX8_flag 32 = .ok (.bipush 8, 2) := by decide +kernel
theorem dX8_flag_34 : decode cX8_flag 34 = .ok (.iload_n 1, 1) := by decide +kernel
theorem dX8_flag_35 : decode cX8_flag 35 = .ok (.iadd, 1) := by decide +kernel
theorem dX8_flag_36 : decode cX8_flag 36 = .ok (.iload_n 2, 1) := by decide +kernel
theorem dX8_flag_37 : decode cX8_flag 37 = .ok (.ifCond .eq 7, 3) := by decide +kernel
theorem dX8_flag_40 : decode cX8_flag 40 = .ok (.lconst 1, 1) := by decide +kernel
theorem dX8_flag_41 : decode cX8_flag 41 = .ok (.goto 4, 3) := by decide +kernel
theorem dX8_flag_44 : decode cX8_flag 44 = .ok (.lconst 0, 1) := by decide +kernel
theorem dX8_flag_45 : decode cX8_flag 45 = .ok (.lastore, 1) := by decide +kernel
theorem dX8_flag_46 : decode cX8_flag 46 = .ok (.iload_n 3, 1) := by decide +kernel
theorem dX8_flag_47 : decode cX8_flag 47 = .ok (.ireturn, 1) := by decide +kernel
theorem dX8_flags_0 : decode cX8_flags 0 = .ok (.aload_n 0, 1) := by decide +kernel
theorem dX8_flags_1 : decode cX8_flags 1 = .ok (.getfield 7, 3) := by decide +kernel
theorem dX8_flags_4 : decode cX8_flags 4 = .ok (.bipush 8, 2) := by decide +kernel
theorem dX8_flags_6 : decode cX8_flags 6 = .ok (.laload, 1) := by decide +kernel
theorem dX8_flags_7 : decode cX8_flags 7 = .ok (.ldc2_w 141, 3) := by decide +kernel
theorem dX8_flags_10 : decode cX8_flags 10 = .ok (.aload_n 0, 1) := by decide +kernel
theorem dX8_flags_11 : decode cX8_flags 11 = .ok (.getfield 7, 3) := by decide +kernel
theorem dX8_flags_14 : decode cX8_flags 14 = .ok (.bipush 9, 2) := by decide +kernel
theorem dX8_flags_16 : decode cX8_flags 16 = .ok (.laload, 1) := by decide +kernel
theorem dX8_flags_17 : decode cX8_flags 17 = .ok (.lmul, 1) := by decide +kernel
theorem dX8_flags_18 : decode cX8_flags 18 = .ok (.ladd, 1) := by decide +kernel
theorem dX8_flags_19 : decode cX8_flags 19 = .ok (.l2i, 1) := by decide +kernel
theorem dX8_flags_20 : decode cX8_flags 20 = .ok (.ireturn, 1) := by decide +kernel
theorem dX8_hasD_0 : decode cX8_hasD 0 = .ok (.iload_n 0, 1) := by decide +kernel
theorem dX8_hasD_1 : decode cX8_hasD 1 = .ok (.bipush 7, 2) := by decide +kernel
theorem dX8_hasD_3 : decode cX8_hasD 3 = .ok (.if_icmp .gt 7, 3) := by decide +kernel
theorem dX8_hasD_6 : decode cX8_hasD 6 = .ok (.iconst 1, 1) := by decide +kernel
theorem dX8_hasD_7 : decode cX8_hasD 7 = .ok (.goto 4, 3) := by decide +kernel
theorem dX8_hasD_10 : decode cX8_hasD 10 = .ok (.iconst 0, 1) := by decide +kernel
theorem dX8_hasD_11 : decode cX8_hasD 11 = .ok (.ireturn, 1) := by decide +kernel
theorem dX8_hasY_0 : decode cX8_hasY 0 = .ok (.iload_n 0, 1) := by decide +kernel
theorem dX8_hasY_1 : decode cX8_hasY 1 = .ok (.iconst 2, 1) := by decide +kernel
theorem dX8_hasY_2 : decode cX8_hasY 2 = .ok (.if_icmp .lt 13, 3) := by decide +kernel
theorem dX8_hasY_5 : decode cX8_hasY 5 = .ok (.iload_n 0, 1) := by decide +kernel
theorem dX8_hasY_6 : decode cX8_hasY 6 = .ok (.bipush 7, 2) := by decide +kernel
theorem dX8_hasY_8 : decode cX8_hasY 8 = .ok (.if_icmp .eq 7, 3) := by decide +kernel
theorem dX8_hasY_11 : decode cX8_hasY 11 = .ok (.iconst 1, 1) := by decide +kernel
theorem dX8_hasY_12 : decode cX8_hasY 12 = .ok (.goto 4, 3) := by decide +kernel
theorem dX8_hasY_15 : decode cX8_hasY 15 = .ok (.iconst 0, 1) := by decide +kernel
theorem dX8_hasY_16 : decode cX8_hasY 16 = .ok (.ireturn, 1) := by decide +kernel
set_option maxRecDepth 20000 in
theorem ggX8_isActs_X8_isIn : GoodIn wsX8_isActs wsX8_isIn := goodIn_r _ [8] rfl (by decide +kernel)
set_option maxRecDepth 20000 in
theorem gX8_isActs_X8_isIn : GoodIn wsX8_isActs (va_wsS RX8 128 yX8_isIn wsX8_isIn) := goodIn_app (goodIn_of _ (by decide +kernel)) ggX8_isActs_X8_isIn
set_option maxRecDepth 20000 in
theorem ggX8_isActs_X8_hasD : GoodIn wsX8_isActs wsX8_hasD := goodIn_r _ [11] rfl (by decide +kernel)
set_option maxRecDepth 20000 in
theorem gX8_isActs_X8_hasD : GoodIn wsX8_isActs (va_wsS RX8 145 yX8_hasD wsX8_hasD) := goodIn_app (goodIn_of _ (by decide +kernel)) ggX8_isActs_X8_hasD
set_option maxRecDepth 20000 in
theorem ggX8_isActs_X8_isRegister : GoodIn wsX8_isActs wsX8_isRegister := goodIn_r _ [14] rfl (by decide +kernel)
set_option maxRecDepth 20000 in
theorem gX8_isActs_X8_isRegister : GoodIn wsX8_isActs (va_wsS RX8 118 yX8_isRegister wsX8_isRegister) := goodIn_app (goodIn_of _ (by decide +kernel)) ggX8_isActs_X8_isRegister
set_option maxRecDepth 20000 in
theorem ggX8_isActs_X8_hasY : GoodIn wsX8_isActs wsX8_hasY := goodIn_r _ [17] rfl (by decide +kernel)
set_option maxRecDepth 20000 in
theorem gX8_isActs_X8_hasY : GoodIn wsX8_isActs (va_wsS RX8 150 yX8_hasY wsX8_hasY) := goodIn_app (goodIn_of _ (by decide +kernel)) ggX8_isActs_X8_hasY
theorem dX8_isActs_0 : decode cX8_isActs 0 = .ok (.iload_n 0, 1) := by decide +kernel
theorem dX8_isActs_1 : decode cX8_isActs 1 = .ok (.i2l, 1) := by decide +kernel
theorem dX8_isActs_2 : decode cX8_isActs 2 = .ok (.lconst 0, 1) := by decide +kernel
theorem dX8_isActs_3 : decode cX8_isActs 3 = .ok (.ldc2_w 143, 3) := by decide +kernel
theorem dX8_isActs_6 : decode cX8_isActs 6 = .ok (.invokestatic 128, 3) := by decide +kernel
theorem dX8_isActs_9 : decode cX8_isActs 9 = .ok (.ifCond .eq 17, 3) := by decide +kernel
theorem dX8_isActs_12 : decode cX8_isActs 12 = .ok (.iload_n 0, 1) := by decide +kernel
theorem dX8_isActs_13 : decode cX8_isActs 13 = .ok (.invokestatic 145, 3) := by decide +kernel
theorem dX8_isActs_16 : decode cX8_isActs 16 = .ok (.ifCond .eq 12, 3) := by decide +kernel
theorem dX8_isActs_19 : decode cX8_isActs 19 = .ok (.iload_n 1, 1) := by decide +kernel
theorem dX8_isActs_20 : decode cX8_isActs 20 = .ok (.invokestatic 118, 3) := by decide +kernel
theorem dX8_isActs_23 : decode cX8_isActs 23 = .ok (.ifCond .ne 5, 3) := by decide +kernel
theorem dX8_isActs_26 : decode cX8_isActs 26 = .ok (.iconst 0, 1) := by decide +kernel
theorem dX8_isActs_27 : decode cX8_isActs 27 = .ok (.ireturn, 1) := by decide +kernel
theorem dX8_isActs_28 : decode cX8_isActs 28 = .ok (.iload_n 0, 1) := by decide +kernel
theorem dX8_isActs_29 : decode cX8_isActs 29 = .ok (.bipush 9, 2) := by decide +kernel
theorem dX8_isActs_31 : decode cX8_isActs 31 = .ok (.if_icmp .lt 7, 3) := by decide +kernel
theorem dX8_isActs_34 : decode cX8_isActs 34 = .ok (.iconst 1, 1) := by decide +kernel
theorem dX8_isActs_35 : decode cX8_isActs 35 = .ok (.goto 4, 3) := by decide +kernel
theorem dX8_isActs_38 : decode cX8_isActs 38 = .ok (.iconst 0, 1) := by decide +kernel
theorem dX8_isActs_39 : decode cX8_isActs 39 = .ok (.istore 4, 2) := by decide +kernel
theorem dX8_isActs_41 : decode cX8_isActs 41 = .ok (.iload_n 0, 1) := by decide +kernel
theorem dX8_isActs_42 : decode cX8_isActs 42 = .ok (.ifCond .ne 18, 3) := by decide +kernel
theorem dX8_isActs_45 : decode cX8_isActs 45 = .ok (.iload_n 2, 1) := by decide +kernel
theorem dX8_isActs_46 : decode cX8_isActs 46 = .ok (.i2l, 1) := by decide +kernel
theorem dX8_isActs_47 : decode cX8_isActs 47 = .ok (.lconst 0, 1) := by decide +kernel
theorem dX8_isActs_48 : decode cX8_isActs 48 = .ok (.ldc2_w 148, 3) := by decide +kernel
theorem dX8_isActs_51 : decode cX8_isActs 51 = .ok (.invokestatic 128, 3) := by decide +kernel
theorem dX8_isActs_54 : decode cX8_isActs 54 = .ok (.ifCond .ne 33, 3) := by decide +kernel
theorem dX8_isActs_57 : decode cX8_isActs 57 = .ok (.goto 28, 3) := by decide +kernel
theorem dX8_isActs_60 : decode cX8_isActs 60 = .ok (.iload 4, 2) := by decide +kernel
theorem dX8_isActs_62 : decode cX8_isActs 62 = .ok (.ifCond .eq 16, 3) := by decide +kernel
theorem dX8_isActs_65 : decode cX8_isActs 65 = .ok (.iload_n 2, 1) := by decide +kernel
theorem dX8_isActs_66 : decode cX8_isActs 66 = .ok (.i2l, 1) := by decide +kernel
theorem dX8_isActs_67 : decode cX8_isActs 67 = .ok (.lconst 0, 1) := by decide +kernel
theorem dX8_isActs_68 : decode cX8_isActs 68 = .ok (.lconst 1, 1) := by decide +kernel
theorem dX8_isActs_69 : decode cX8_isActs 69 = .ok (.invokestatic 128, 3) := by decide +kernel
theorem dX8_isActs_72 : decode cX8_isActs 72 = .ok (.ifCond .ne 15, 3) := by decide +kernel
theorem dX8_isActs_75 : decode cX8_isActs 75 = .ok (.goto 10, 3) := by decide +kernel
theorem dX8_isActs_78 : decode cX8_isActs 78 = .ok (.iload_n 2, 1) := by decide +kernel
theorem dX8_isActs_79 : decode cX8_isActs 79 = .ok (.invokestatic 118, 3) := by decide +kernel
theorem dX8_isActs_82 : decode cX8_isActs 82 = .ok (.ifCond .ne 5, 3) := by decide +kernel
theorem dX8_isActs_85 : decode cX8_isActs 85 = .ok (.iconst 0, 1) := by decide +kernel
theorem dX8_isActs_86 : decode cX8_isActs 86 = .ok (.ireturn, 1) := by decide +kernel
theorem dX8_isActs_87 : decode cX8_isActs 87 = .ok (.iload_n 0, 1) := by decide +kernel
theorem dX8_isActs_88 : decode cX8_isActs 88 = .ok (.invokestatic 150, 3) := by decide +kernel
theorem dX8_isActs_91 : decode cX8_isActs 91 = .ok (.ifCond .ne 5, 3) := by decide +kernel
theorem dX8_isActs_94 : decode cX8_isActs 94 = .ok (.iconst 1, 1) := by decide +kernel
theorem dX8_isActs_95 : decode cX8_isActs 95 = .ok (.ireturn, 1) := by decide +kernel
theorem dX8_isActs_96 : decode cX8_isActs 96 = .ok (.iload_n 0, 1) := by decide +kernel
theorem dX8_isActs_97 : decode cX8_isActs 97 = .ok (.bipush 6, 2) := by decide +kernel
theorem dX8_isActs_99 : decode cX8_isActs 99 = .ok (.if_icmp .ne 17, 3) := by decide +kernel
theorem dX8_isActs_102 : decode cX8_isActs 102 = .ok (.iload_n 3, 1) := by decide +kernel
theorem dX8_isActs_103 : decode cX8_isActs 103 = .ok (.i2l, 1) := by decide +kernel
theorem dX8_isActs_104 : decode cX8_isActs 104 = .ok (.ldc2_w 153, 3) := by decide +kernel
theorem dX8_isActs_107 : decode cX8_isActs 107 = .ok (.ldc2_w 155, 3) := by decide +kernel
theorem dX8_isActs_110 : decode cX8_isActs 110 = .ok (.invokestatic 128, 3) := by decide +kernel
theorem dX8_isActs_113 : decode cX8_isActs 113 = .ok (.goto 22, 3) := by decide +kernel
theorem dX8_isActs_116 : decode cX8_isActs 116 = .ok (.iload 4, 2) := by decide +kernel
theorem dX8_isActs_118 : decode cX8_isActs 118 = .ok (.ifCond .eq 13, 3) := by decide +kernel
theorem dX8_isActs_121 : decode cX8_isActs 121 = .ok (.iload_n 3, 1) := by decide +kernel
theorem dX8_isActs_122 : decode cX8_isActs 122 = .ok (.i2l, 1) := by decide +kernel
theorem dX8_isActs_123 : decode cX8_isActs 123 = .ok (.lconst 0, 1) := by decide +kernel
theorem dX8_isActs_124 : decode cX8_isActs 124 = .ok (.lconst 1, 1) := by decide +kernel
theorem dX8_isActs_125 : decode cX8_isActs 125 = .ok (.invokestatic 128, 3) := by decide +kernel
theorem dX8_isActs_128 : decode cX8_isActs 128 = .ok (.goto 7, 3) := by decide +kernel
theorem dX8_isActs_131 : decode cX8_isActs 131 = .ok (.iload_n 3, 1) := by decide +kernel
theorem dX8_isActs_132 : decode cX8_isActs 132 = .ok (.invokestatic 118, 3) := by decide +kernel
theorem dX8_isActs_135 : decode cX8_isActs 135 = .ok (.ireturn, 1) := by decide +kernel
set_option maxRecDepth 20000 in
theorem ggX8_act_X8_isInstruction : GoodIn wsX8_act wsX8_isInstruction := goodIn_r _ [11] rfl (by decide +kernel)
set_option maxRecDepth 20000 in
theorem gX8_act_X8_isInstruction : GoodIn wsX8_act (va_wsS RX8 157 yX8_isInstruction wsX8_isInstruction) := goodIn_app (goodIn_of _ (by decide +kernel)) ggX8_act_X8_isInstruction
set_option maxRecDepth 20000 in
theorem ggX8_act_X8_no : GoodIn wsX8_act wsX8_no := goodIn_r _ [15, 16, 36, 37, 38, 39, 40, 41, 42, 43, 44, 45, 46, 47, 48, 49, 50, 51, 52, 53, 54, 55, 56, 57, 58, 59, 60, 61, 62, 63, 64, 65, 66, 67, 68, 69, 70, 71, 72, 73, 74, 75, 76, 77, 78, 79] rfl (by decide +kernel)
set_option maxRecDepth 20000 in
theorem gX8_act_X8_no : GoodIn wsX8_act (wsV RX8 122 RX8 yX8_no wsX8_no) := goodIn_app (goodIn_of _ (by decide +kernel)) ggX8_act_X8_no
set_option maxRecDepth 20000 in
theorem ggX8_act_X8_isActs : GoodIn wsX8_act wsX8_isActs := goodIn_r _ [19, 20, 21, 22, 23, 24, 25, 10, 26, 27, 28, 29, 30, 31, 32, 33, 34, 35] rfl (by decide +kernel)
set_option maxRecDepth 20000 in
theorem gX8_act_X8_isActs : GoodIn wsX8_act (va_wsS RX8 160 yX8_isActs wsX8_isActs) := goodIn_app (goodIn_of _ (by decide +kernel)) ggX8_act_X8_isActs
set_option maxRecDepth 20000 in
theorem ggX8_act_X8_hasD : GoodIn wsX8_act wsX8_hasD := goodIn_r _ [29] rfl (by decide +kernel)
set_option maxRecDepth 20000 in
theorem gX8_act_X8_hasD : GoodIn wsX8_act (va_wsS RX8 145 yX8_hasD wsX8_hasD) := goodIn_app (goodIn_of _ (by decide +kernel)) ggX8_act_X8_hasD
set_option maxRecDepth 20000 in
theorem ggX8_act_X8_hasY : GoodIn wsX8_act wsX8_hasY := goodIn_r _ [35] rfl (by decide +kernel)
set_option maxRecDepth 20000 in
theorem gX8_act_X8_hasY : GoodIn wsX8_act (va_wsS RX8 150 yX8_hasY wsX8_hasY) := goodIn_app (goodIn_of _ (by decide +kernel)) ggX8_act_X8_hasY
theorem dX8_act_0 : decode cX8_act 0 = .ok (.iload_n 1, 1) := by decide +kernel
theorem dX8_act_1 : decode cX8_act 1 = .ok (.invokestatic 157, 3) := by decide +kernel
theorem dX8_act_4 : decode cX8_act 4 = .ok (.ifCond .ne 10, 3) := by decide +kernel
theorem dX8_act_7 : decode cX8_act 7 = .ok (.aload_n 0, 1) := by decide +kernel
theorem dX8_act_8 : decode cX8_act 8 = .ok (.bipush (-3), 2) := by decide +kernel
theorem dX8_act_10 : decode cX8_act 10 = .ok (.invokevirtual 122, 3) := by decide +kernel
theorem dX8_act_13 : decode cX8_act 13 = .ok (.ireturn, 1) := by decide +kernel
theorem dX8_act_14 : decode cX8_act 14 = .ok (.iload_n 2, 1) := by decide +kernel
theorem dX8_act_15 : decode cX8_act 15 = .ok (.iload_n 3, 1) := by decide +kernel
theorem dX8_act_16 : decode cX8_act 16 = .ok (.iload 4, 2) := by decide +kernel
theorem dX8_act_18 : decode cX8_act 18 = .ok (.iload 5, 2) := by decide +kernel
theorem dX8_act_20 : decode cX8_act 20 = .ok (.invokestatic 160, 3) := by decide +kernel
theorem dX8_act_23 : decode cX8_act 23 = .ok (.ifCond .ne 10, 3) := by decide +kernel
theorem dX8_act_26 : decode cX8_act 26 = .ok (.aload_n 0, 1) := by decide +kernel
theorem dX8_act_27 : decode cX8_act 27 = .ok (.bipush (-6), 2) := by decide +kernel
theorem dX8_act_29 : decode cX8_act 29 = .ok (.invokevirtual 122, 3) := by decide +kernel
theorem dX8_act_32 : decode cX8_act 32 = .ok (.ireturn, 1) := by decide +kernel
theorem dX8_act_33 : decode cX8_act 33 = .ok (.aload_n 0, 1) := by decide +kernel
theorem dX8_act_34 : decode cX8_act 34 = .ok (.getfield 41, 3) := by decide +kernel
theorem dX8_act_37 : decode cX8_act 37 = .ok (.iload_n 1, 1) := by decide +kernel
theorem dX8_act_38 : decode cX8_act 38 = .ok (.iaload, 1) := by decide +kernel
theorem dX8_act_39 : decode cX8_act 39 = .ok (.bipush 10, 2) := by decide +kernel
theorem dX8_act_41 : decode cX8_act 41 = .ok (.if_icmp .ne 10, 3) := by decide +kernel
theorem dX8_act_51 : decode cX8_act 51 = .ok (.bipush 10, 2) := by decide +kernel
theorem dX8_act_53 : decode cX8_act 53 = .ok (.iload_n 1, 1) := by decide +kernel
theorem dX8_act_54 : decode cX8_act 54 = .ok (.imul, 1) := by decide +kernel
theorem dX8_act_55 : decode cX8_act 55 = .ok (.aload_n 0, 1) := by decide +kernel
theorem dX8_act_56 : decode cX8_act 56 = .ok (.getfield 41, 3) := by decide +kernel
theorem dX8_act_59 : decode cX8_act 59 = .ok (.iload_n 1, 1) := by decide +kernel
theorem dX8_act_60 : decode cX8_act 60 = .ok (.iaload, 1) := by decide +kernel
theorem dX8_act_61 : decode cX8_act 61 = .ok (.iadd, 1) := by decide +kernel
theorem dX8_act_62 : decode cX8_act 62 = .ok (.istore 6, 2) := by decide +kernel
theorem dX8_act_64 : decode cX8_act 64 = .ok (.aload_n 0, 1) := by decide +kernel
theorem dX8_act_65 : decode cX8_act 65 = .ok (.getfield 29, 3) := by decide +kernel
theorem dX8_act_68 : decode cX8_act 68 = .ok (.iload 6, 2) := by decide +kernel
theorem dX8_act_70 : decode cX8_act 70 = .ok (.iload_n 2, 1) := by decide +kernel
theorem dX8_act_71 : decode cX8_act 71 = .ok (.iastore, 1) := by decide +kernel
theorem dX8_act_72 : decode cX8_act 72 = .ok (.aload_n 0, 1) := by decide +kernel
theorem dX8_act_73 : decode cX8_act 73 = .ok (.getfield 32, 3) := by decide +kernel
theorem dX8_act_76 : decode cX8_act 76 = .ok (.iload 6, 2) := by decide +kernel
theorem dX8_act_78 : decode cX8_act 78 = .ok (.iload_n 2, 1) := by decide +kernel
theorem dX8_act_79 : decode cX8_act 79 = .ok (.invokestatic 145, 3) := by decide +kernel
theorem dX8_act_82 : decode cX8_act 82 = .ok (.ifCond .eq 7, 3) := by decide +kernel
theorem dX8_act_85 : decode cX8_act 85 = .ok (.iload_n 3, 1) := by decide +kernel
theorem dX8_act_86 : decode cX8_act 86 = .ok (.goto 4, 3) := by decide +kernel
theorem dX8_act_89 : decode cX8_act 89 = .ok (.iconst (-1), 1) := by decide +kernel
theorem dX8_act_90 : decode cX8_act 90 = .ok (.iastore, 1) := by decide +kernel
theorem dX8_act_91 : decode cX8_act 91 = .ok (.aload_n 0, 1) := by decide +kernel
theorem dX8_act_92 : decode cX8_act 92 = .ok (.getfield 35, 3) := by decide +kernel
theorem dX8_act_95 : decode cX8_act 95 = .ok (.iload 6, 2) := by decide +kernel
theorem dX8_act_97 : decode cX8_act 97 = .ok (.iload 4, 2) := by decide +kernel
theorem dX8_act_99 : decode cX8_act 99 = .ok (.iastore, 1) := by decide +kernel
theorem dX8_act_100 : decode cX8_act 100 = .ok (.aload_n 0, 1) := by decide +kernel
theorem dX8_act_101 : decode cX8_act 101 = .ok (.getfield 38, 3) := by decide +kernel
theorem dX8_act_104 : decode cX8_act 104 = .ok (.iload 6, 2) := by decide +kernel
theorem dX8_act_106 : decode cX8_act 106 = .ok (.iload_n 2, 1) := by decide +kernel
theorem dX8_act_107 : decode cX8_act 107 = .ok (.invokestatic 150, 3) := by decide +kernel
theorem dX8_act_110 : decode cX8_act 110 = .ok (.ifCond .eq 8, 3) := by decide +kernel
theorem dX8_act_113 : decode cX8_act 113 = .ok (.iload 5, 2) := by decide +kernel
theorem dX8_act_115 : decode cX8_act 115 = .ok (.goto 4, 3) := by decide +kernel
theorem dX8_act_118 : decode cX8_act 118 = .ok (.iconst (-1), 1) := by decide +kernel
theorem dX8_act_119 : decode cX8_act 119 = .ok (.iastore, 1) := by decide +kernel
theorem dX8_act_120 : decode cX8_act 120 = .ok (.aload_n 0, 1) := by decide +kernel
theorem dX8_act_121 : decode cX8_act 121 = .ok (.getfield 41, 3) := by decide +kernel
theorem dX8_act_124 : decode cX8_act 124 = .ok (.iload_n 1, 1) := by decide +kernel
theorem dX8_act_125 : decode cX8_act 125 = .ok (.dup2, 1) := by decide +kernel
theorem dX8_act_126 : decode cX8_act 126 = .ok (.iaload, 1) := by decide +kernel
theorem dX8_act_127 : decode cX8_act 127 = .ok (.iconst 1, 1) := by decide +kernel
theorem dX8_act_128 : decode cX8_act 128 = .ok (.iadd, 1) := by decide +kernel
theorem dX8_act_129 : decode cX8_act 129 = .ok (.iastore, 1) := by decide +kernel
theorem dX8_act_130 : decode cX8_act 130 = .ok (.aload_n 0, 1) := by decide +kernel
theorem dX8_act_131 : decode cX8_act 131 = .ok (.getfield 66, 3) := by decide +kernel
theorem dX8_act_134 : decode cX8_act 134 = .ok (.iload_n 1, 1) := by decide +kernel
theorem dX8_act_135 : decode cX8_act 135 = .ok (.iconst 0, 1) := by decide +kernel
theorem dX8_act_136 : decode cX8_act 136 = .ok (.bastore, 1) := by decide +kernel
theorem dX8_act_137 : decode cX8_act 137 = .ok (.aload_n 0, 1) := by decide +kernel
theorem dX8_act_138 : decode cX8_act 138 = .ok (.iconst 0, 1) := by decide +kernel
theorem dX8_act_139 : decode cX8_act 139 = .ok (.putfield 164, 3) := by decide +kernel
theorem dX8_act_142 : decode cX8_act 142 = .ok (.aload_n 0, 1) := by decide +kernel
theorem dX8_act_143 : decode cX8_act 143 = .ok (.getfield 41, 3) := by decide +kernel
theorem dX8_act_146 : decode cX8_act 146 = .ok (.iload_n 1, 1) := by decide +kernel
theorem dX8_act_147 : decode cX8_act 147 = .ok (.iaload, 1) := by decide +kernel
theorem dX8_act_148 : decode cX8_act 148 = .ok (.ireturn, 1) := by decide +kernel
set_option maxRecDepth 20000 in
theorem ggX8_clear_X8_isInstruction : GoodIn wsX8_clear wsX8_isInstruction := goodIn_r _ [7] rfl (by decide +kernel)
set_option maxRecDepth 20000 in
theorem gX8_clear_X8_isInstruction : GoodIn wsX8_clear (va_wsS RX8 157 yX8_isInstruction wsX8_isInstruction) := goodIn_app (goodIn_of _ (by decide +kernel)) ggX8_clear_X8_isInstruction
set_option maxRecDepth 20000 in
theorem ggX8_clear_X8_no : GoodIn wsX8_clear wsX8_no := goodIn_r _ [11, 12, 13, 14, 15, 16, 17, 18, 19, 20, 21, 22, 23, 24, 25, 26, 27, 28, 29, 30, 31, 32, 33, 34, 35, 36, 37, 38, 39, 40, 41, 42, 43, 44, 45, 46, 47, 48, 49, 50, 51, 52, 53, 54, 55, 56] rfl (by decide +kernel)
set_option maxRecDepth 20000 in
theorem gX8_clear_X8_no : GoodIn wsX8_clear (wsV RX8 122 RX8 yX8_no wsX8_no) := goodIn_app (goodIn_of _ (by decide +kernel)) ggX8_clear_X8_no
theorem dX8_clear_0 : decode cX8_clear 0 = .ok (.iload_n 1, 1) := by decide +kernel
theorem dX8_clear_1 : decode cX8_clear 1 = .ok (.invokestatic 157, 3) := by decide +kernel
theorem dX8_clear_4 : decode cX8_clear 4 = .ok (.ifCond .ne 10, 3) := by decide +kernel
theorem dX8_clear_7 : decode cX8_clear 7 = .ok (.aload_n 0, 1) := by decide +kernel
theorem dX8_clear_8 : decode cX8_clear 8 = .ok (.bipush (-3), 2) := by decide +kernel
theorem dX8_clear_10 : decode cX8_clear 10 = .ok (.invokevirtual 122, 3) := by decide +kernel
theorem dX8_clear_13 : decode cX8_clear 13 = .ok (.ireturn, 1) := by decide +kernel
theorem dX8_clear_14 : decode cX8_clear 14 = .ok (.aload_n 0, 1) := by decide +kernel
theorem dX8_clear_15 : decode cX8_clear 15 = .ok (.getfield 41, 3) := by decide +kernel
theorem dX8_clear_18 : decode cX8_clear 18 = .ok (.iload_n 1, 1) := by decide +kernel
theorem dX8_clear_19 : decode cX8_clear 19 = .ok (.iaload, 1) := by decide +kernel
theorem dX8_clear_20 : decode cX8_clear 20 = .ok (.istore_n 2, 1) := by decide +kernel
theorem dX8_clear_21 : decode cX8_clear 21 = .ok (.iload_n 2, 1) := by decide +kernel
theorem dX8_clear_22 : decode cX8_clear 22 = .ok (.ifCond .ne 5, 3) := by decide +kernel
theorem dX8_clear_25 : decode cX8_clear 25 = .ok (.iconst 0, 1) := by decide +kernel
theorem dX8_clear_26 : decode cX8_clear 26 = .ok (.ireturn, 1) := by decide +kernel
set_option maxRecDepth 20000 in
theorem ggX8_isAct_X8_isInstruction : GoodIn wsX8_isAct wsX8_isInstruction := goodIn_r _ [5] rfl (by decide +kernel)
set_option maxRecDepth 20000 in
theorem gX8_isAct_X8_isInstruction : GoodIn wsX8_isAct (va_wsS RX8 157 yX8_isInstruction wsX8_isInstruction) := goodIn_app (goodIn_of _ (by decide +kernel)) ggX8_isAct_X8_isInstruction
theorem dX8_isAct_0 : decode cX8_isAct 0 = .ok (.iload_n 1, 1) := by decide +kernel
theorem dX8_isAct_1 : decode cX8_isAct 1 = .ok (.invokestatic 157, 3) := by decide +kernel
theorem dX8_isAct_4 : decode cX8_isAct 4 = .ok (.ifCond .eq 21, 3) := by decide +kernel
theorem dX8_isAct_7 : decode cX8_isAct 7 = .ok (.iload_n 2, 1) := by decide +kernel
theorem dX8_isAct_8 : decode cX8_isAct 8 = .ok (.ifCond .lt 17, 3) := by decide +kernel
theorem dX8_isAct_11 : decode cX8_isAct 11 = .ok (.iload_n 2, 1) := by decide +kernel
theorem dX8_isAct_12 : decode cX8_isAct 12 = .ok (.aload_n 0, 1) := by decide +kernel
theorem dX8_isAct_13 : decode cX8_isAct 13 = .ok (.getfield 41, 3) := by decide +kernel
theorem dX8_isAct_16 : decode cX8_isAct 16 = .ok (.iload_n 1, 1) := by decide +kernel
theorem dX8_isAct_17 : decode cX8_isAct 17 = .ok (.iaload, 1) := by decide +kernel
theorem dX8_isAct_18 : decode cX8_isAct 18 = .ok (.if_icmp .ge 7, 3) := by decide +kernel
theorem dX8_isAct_21 : decode cX8_isAct 21 = .ok (.iconst 1, 1) := by decide +kernel
theorem dX8_isAct_22 : decode cX8_isAct 22 = .ok (.goto 4, 3) := by decide +kernel
theorem dX8_isAct_25 : decode cX8_isAct 25 = .ok (.iconst 0, 1) := by decide +kernel
theorem dX8_isAct_26 : decode cX8_isAct 26 = .ok (.ireturn, 1) := by decide +kernel
set_option maxRecDepth 20000 in
theorem ggX8_look_X8_isAct : GoodIn wsX8_look wsX8_isAct := goodIn_r _ [9, 10, 11, 12, 8, 13, 25, 26, 27, 28, 29, 30, 31, 32, 33, 34, 35, 36, 37, 38, 39, 40, 41, 42, 43, 44, 45, 46, 47, 48, 49, 50, 51, 52, 53, 54, 55, 56, 57, 58, 59, 60, 61, 62, 63, 64, 65, 66, 67, 68] rfl (by decide +kernel)
set_option maxRecDepth 20000 in
theorem gX8_look_X8_isAct : GoodIn wsX8_look (wsV RX8 168 RX8 yX8_isAct wsX8_isAct) := goodIn_app (goodIn_of _ (by decide +kernel)) ggX8_look_X8_isAct
set_option maxRecDepth 20000 in
theorem ggX8_look_X8_no : GoodIn wsX8_look wsX8_no := goodIn_r _ [17, 18, 25, 26, 27, 28, 29, 30, 31, 32, 33, 34, 35, 36, 37, 38, 39, 40, 41, 42, 43, 44, 45, 46, 47, 48, 49, 50, 51, 52, 53, 54, 55, 56, 57, 58, 59, 60, 61, 62, 63, 64, 65, 66, 67, 68] rfl (by decide +kernel)
set_option maxRecDepth 20000 in
theorem gX8_look_X8_no : GoodIn wsX8_look (wsV RX8 122 RX8 yX8_no wsX8_no) := goodIn_app (goodIn_of _ (by decide +kernel)) ggX8_look_X8_no
theorem dX8_look_0 : decode cX8_look 0 = .ok (.aload_n 0, 1) := by decide +kernel
theorem dX8_look_1 : decode cX8_look 1 = .ok (.iload_n 1, 1) := by decide +kernel
theorem dX8_look_2 : decode cX8_look 2 = .ok (.iload_n 2, 1) := by decide +kernel
theorem dX8_look_3 : decode cX8_look 3 = .ok (.invokevirtual 168, 3) := by decide +kernel
theorem dX8_look_6 : decode cX8_look 6 = .ok (.ifCond .ne 10, 3) := by decide +kernel
theorem dX8_look_9 : decode cX8_look 9 = .ok (.aload_n 0, 1) := by decide +kernel
theorem dX8_look_10 : decode cX8_look 10 = .ok (.bipush (-3), 2) := by decide +kernel
theorem dX8_look_12 : decode cX8_look 12 = .ok (.invokevirtual 122, 3) := by decide +kernel
theorem dX8_look_15 : decode cX8_look 15 = .ok (.ireturn, 1) := by decide +kernel
set_option maxRecDepth 20000 in
theorem ggX8_buses_X8_isIn : GoodIn wsX8_buses wsX8_isIn := goodIn_r _ [8] rfl (by decide +kernel)
set_option maxRecDepth 20000 in
theorem gX8_buses_X8_isIn : GoodIn wsX8_buses (va_wsS RX8 128 yX8_isIn wsX8_isIn) := goodIn_app (goodIn_of _ (by decide +kernel)) ggX8_buses_X8_isIn
set_option maxRecDepth 20000 in
theorem ggX8_buses_X8_no : GoodIn wsX8_buses wsX8_no := goodIn_r _ [12, 13, 14, 15, 16, 17, 18, 19, 20, 21, 22, 23, 24, 25, 26, 27, 28, 29, 30, 31, 32, 33, 34, 35, 36, 37, 38, 39, 40, 41, 42, 43, 44, 45, 46, 47, 48, 49, 50, 51, 52, 53, 54, 55, 56, 57] rfl (by decide +kernel)
set_option maxRecDepth 20000 in
theorem gX8_buses_X8_no : GoodIn wsX8_buses (wsV RX8 122 RX8 yX8_no wsX8_no) := goodIn_app (goodIn_of _ (by decide +kernel)) ggX8_buses_X8_no
theorem dX8_buses_0 : decode cX8_buses 0 = .ok (.iload_n 1, 1) := by decide +kernel
theorem dX8_buses_1 : decode cX8_buses 1 = .ok (.i2l, 1) := by decide +kernel
theorem dX8_buses_2 : decode cX8_buses 2 = .ok (.lconst 1, 1) := by decide +kernel
theorem dX8_buses_3 : decode cX8_buses 3 = .ok (.ldc2_w 178, 3) := by decide +kernel
theorem dX8_buses_6 : decode cX8_buses 6 = .ok (.invokestatic 128, 3) := by decide +kernel
theorem dX8_buses_9 : decode cX8_buses 9 = .ok (.ifCond .ne 10, 3) := by decide +kernel
theorem dX8_buses_12 : decode cX8_buses 12 = .ok (.aload_n 0, 1) := by decide +kernel
theorem dX8_buses_13 : decode cX8_buses 13 = .ok (.bipush (-6), 2) := by decide +kernel
theorem dX8_buses_15 : decode cX8_buses 15 = .ok (.invokevirtual 122, 3) := by decide +kernel
theorem dX8_buses_18 : decode cX8_buses 18 = .ok (.ireturn, 1) := by decide +kernel
theorem dX8_buses_19 : decode cX8_buses 19 = .ok (.aload_n 0, 1) := by decide +kernel
theorem dX8_buses_20 : decode cX8_buses 20 = .ok (.getfield 44, 3) := by decide +kernel
theorem dX8_buses_23 : decode cX8_buses 23 = .ok (.istore_n 2, 1) := by decide +kernel
theorem dX8_buses_24 : decode cX8_buses 24 = .ok (.aload_n 0, 1) := by decide +kernel
theorem dX8_buses_25 : decode cX8_buses 25 = .ok (.iload_n 1, 1) := by decide +kernel
theorem dX8_buses_26 : decode cX8_buses 26 = .ok (.putfield 44, 3) := by decide +kernel
theorem dX8_buses_29 : decode cX8_buses 29 = .ok (.iconst 0, 1) := by decide +kernel
theorem dX8_buses_30 : decode cX8_buses 30 = .ok (.istore_n 3, 1) := by decide +kernel
theorem dX8_buses_31 : decode cX8_buses 31 = .ok (.iload_n 3, 1) := by decide +kernel
theorem dX8_buses_32 : decode cX8_buses 32 = .ok (.bipush 12, 2) := by decide +kernel
theorem dX8_buses_34 : decode cX8_buses 34 = .ok (.if_icmp .ge 21, 3) := by decide +kernel
theorem dX8_buses_37 : decode cX8_buses 37 = .ok (.iload_n 2, 1) := by decide +kernel
theorem dX8_buses_38 : decode cX8_buses 38 = .ok (.iload_n 1, 1) := by decide +kernel
theorem dX8_buses_39 : decode cX8_buses 39 = .ok (.if_icmp .eq 16, 3) := by decide +kernel
theorem dX8_buses_42 : decode cX8_buses 42 = .ok (.aload_n 0, 1) := by decide +kernel
theorem dX8_buses_43 : decode cX8_buses 43 = .ok (.getfield 66, 3) := by decide +kernel
theorem dX8_buses_46 : decode cX8_buses 46 = .ok (.iload_n 3, 1) := by decide +kernel
theorem dX8_buses_47 : decode cX8_buses 47 = .ok (.iconst 0, 1) := by decide +kernel
theorem dX8_buses_48 : decode cX8_buses 48 = .ok (.bastore, 1) := by decide +kernel
theorem dX8_buses_49 : decode cX8_buses 49 = .ok (.iinc 3 1, 3) := by decide +kernel
theorem dX8_buses_52 : decode cX8_buses 52 = .ok (.goto (-21), 3) := by decide +kernel
theorem dX8_buses_55 : decode cX8_buses 55 = .ok (.aload_n 0, 1) := by decide +kernel
theorem dX8_buses_56 : decode cX8_buses 56 = .ok (.aload_n 0, 1) := by decide +kernel
theorem dX8_buses_57 : decode cX8_buses 57 = .ok (.getfield 164, 3) := by decide +kernel
theorem dX8_buses_60 : decode cX8_buses 60 = .ok (.ifCond .eq 12, 3) := by decide +kernel
theorem dX8_buses_72 : decode cX8_buses 72 = .ok (.iconst 0, 1) := by decide +kernel
theorem dX8_buses_73 : decode cX8_buses 73 = .ok (.putfield 164, 3) := by decide +kernel
theorem dX8_buses_76 : decode cX8_buses 76 = .ok (.iload_n 2, 1) := by decide +kernel
theorem dX8_buses_77 : decode cX8_buses 77 = .ok (.ireturn, 1) := by decide +kernel
set_option maxRecDepth 20000 in
theorem ggX8_needs_X8_isAct : GoodIn wsX8_needs wsX8_isAct := goodIn_r _ [5, 6, 7, 8, 4, 9, 37, 38, 39, 40, 41, 42, 43, 44, 45, 46, 47, 48, 49, 50, 51, 52, 53, 54, 55, 56, 57, 58, 59, 60, 61, 62, 63, 64, 65, 66, 67, 68, 69, 70, 71, 72, 73, 74, 75, 76, 77, 78, 79, 80] rfl (by decide +kernel)
set_option maxRecDepth 20000 in
theorem gX8_needs_X8_isAct : GoodIn wsX8_needs (wsV RX8 168 RX8 yX8_isAct wsX8_isAct) := goodIn_app (goodIn_of _ (by decide +kernel)) ggX8_needs_X8_isAct
set_option maxRecDepth 20000 in
theorem ggX8_needs_X8_no : GoodIn wsX8_needs wsX8_no := goodIn_r _ [13, 14, 37, 38, 39, 40, 41, 42, 43, 44, 45, 46, 47, 48, 49, 50, 51, 52, 53, 54, 55, 56, 57, 58, 59, 60, 61, 62, 63, 64, 65, 66, 67, 68, 69, 70, 71, 72, 73, 74, 75, 76, 77, 78, 79, 80] rfl (by decide +kernel)
set_option maxRecDepth 20000 in
theorem gX8_needs_X8_no : GoodIn wsX8_needs (wsV RX8 122 RX8 yX8_no wsX8_no) := goodIn_app (goodIn_of _ (by decide +kernel)) ggX8_needs_X8_no
theorem dX8_needs_0 : decode cX8_needs 0 = .ok (.aload_n 0, 1) := by decide +kernel
theorem dX8_needs_1 : decode cX8_needs 1 = .ok (.iload_n 1, 1) := by decide +kernel
theorem dX8_needs_2 : decode cX8_needs 2 = .ok (.iload_n 2, 1) := by decide +kernel
theorem dX8_needs_3 : decode cX8_needs 3 = .ok (.invokevirtual 168, 3) := by decide +kernel
theorem dX8_needs_6 : decode cX8_needs 6 = .ok (.ifCond .eq 12, 3) := by decide +kernel
theorem dX8_needs_18 : decode cX8_needs 18 = .ok (.aload_n 0, 1) := by decide +kernel
theorem dX8_needs_19 : decode cX8_needs 19 = .ok (.bipush (-3), 2) := by decide +kernel
theorem dX8_needs_21 : decode cX8_needs 21 = .ok (.invokevirtual 122, 3) := by decide +kernel
theorem dX8_needs_24 : decode cX8_needs 24 = .ok (.ireturn, 1) := by decide +kernel
theorem dX8_packs_0 : decode cX8_packs 0 = .ok (.aload_n 0, 1) := by decide +kernel
theorem dX8_packs_1 : decode cX8_packs 1 = .ok (.getfield 66, 3) := by decide +kernel
theorem dX8_packs_4 : decode cX8_packs 4 = .ok (.iload_n 1, 1) := by decide +kernel
theorem dX8_packs_5 : decode cX8_packs 5 = .ok (.baload, 1) := by decide +kernel
theorem dX8_packs_6 : decode cX8_packs 6 = .ok (.ifCond .eq 4, 3) := by decide +kernel
theorem dX8_packs_9 : decode cX8_packs 9 = .ok (.return_, 1) := by decide +kernel
theorem dX8_packs_10 : decode cX8_packs 10 = .ok (.aload_n 0, 1) := by decide +kernel
theorem dX8_packs_11 : decode cX8_packs 11 = .ok (.getfield 41, 3) := by decide +kernel
theorem dX8_packs_14 : decode cX8_packs 14 = .ok (.iload_n 1, 1) := by decide +kernel
theorem dX8_packs_15 : decode cX8_packs 15 = .ok (.iaload, 1) := by decide +kernel
theorem dX8_packs_16 : decode cX8_packs 16 = .ok (.istore_n 2, 1) := by decide +kernel
theorem dX8_packs_17 : decode cX8_packs 17 = .ok (.iconst 1, 1) := by decide +kernel
theorem dX8_packs_18 : decode cX8_packs 18 = .ok (.iload_n 2, 1) := by decide +kernel
theorem dX8_packs_19 : decode cX8_packs 19 = .ok (.ishl, 1) := by decide +kernel
theorem dX8_packs_20 : decode cX8_packs 20 = .ok (.iconst 1, 1) := by decide +kernel
theorem dX8_packs_21 : decode cX8_packs 21 = .ok (.isub, 1) := by decide +kernel
theorem dX8_packs_22 : decode cX8_packs 22 = .ok (.istore_n 3, 1) := by decide +kernel
theorem dX8_packs_23 : decode cX8_packs 23 = .ok (.iconst 0, 1) := by decide +kernel
theorem dX8_packs_24 : decode cX8_packs 24 = .ok (.istore 4, 2) := by decide +kernel
theorem dX8_packs_26 : decode cX8_packs 26 = .ok (.iload 4, 2) := by decide +kernel
theorem dX8_packs_28 : decode cX8_packs 28 = .ok (.iload_n 2, 1) := by decide +kernel
theorem dX8_packs_29 : decode cX8_packs 29 = .ok (.if_icmp .ge 101, 3) := by decide +kernel
theorem dX8_packs_130 : decode cX8_packs 130 = .ok (.aload_n 0, 1) := by decide +kernel
theorem dX8_packs_131 : decode cX8_packs 131 = .ok (.getfield 51, 3) := by decide +kernel
theorem dX8_packs_134 : decode cX8_packs 134 = .ok (.iload_n 3, 1) := by decide +kernel
theorem dX8_packs_135 : decode cX8_packs 135 = .ok (.iconst 0, 1) := by decide +kernel
theorem dX8_packs_136 : decode cX8_packs 136 = .ok (.iastore, 1) := by decide +kernel
theorem dX8_packs_137 : decode cX8_packs 137 = .ok (.iload_n 3, 1) := by decide +kernel
theorem dX8_packs_138 : decode cX8_packs 138 = .ok (.iconst 1, 1) := by decide +kernel
theorem dX8_packs_139 : decode cX8_packs 139 = .ok (.isub, 1) := by decide +kernel
theorem dX8_packs_140 : decode cX8_packs 140 = .ok (.istore 4, 2) := by decide +kernel
theorem dX8_packs_142 : decode cX8_packs 142 = .ok (.iload 4, 2) := by decide +kernel
theorem dX8_packs_144 : decode cX8_packs 144 = .ok (.ifCond .lt 101, 3) := by decide +kernel
theorem dX8_packs_245 : decode cX8_packs 245 = .ok (.iconst 0, 1) := by decide +kernel
theorem dX8_packs_246 : decode cX8_packs 246 = .ok (.istore 4, 2) := by decide +kernel
theorem dX8_packs_248 : decode cX8_packs 248 = .ok (.iconst 0, 1) := by decide +kernel
theorem dX8_packs_249 : decode cX8_packs 249 = .ok (.istore 5, 2) := by decide +kernel
theorem dX8_packs_251 : decode cX8_packs 251 = .ok (.iload 4, 2) := by decide +kernel
theorem dX8_packs_253 : decode cX8_packs 253 = .ok (.iload_n 3, 1) := by decide +kernel
theorem dX8_packs_254 : decode cX8_packs 254 = .ok (.if_icmp .eq 116, 3) := by decide +kernel
theorem dX8_packs_370 : decode cX8_packs 370 = .ok (.aload_n 0, 1) := by decide +kernel
theorem dX8_packs_371 : decode cX8_packs 371 = .ok (.getfield 57, 3) := by decide +kernel
theorem dX8_packs_374 : decode cX8_packs 374 = .ok (.iload_n 1, 1) := by decide +kernel
theorem dX8_packs_375 : decode cX8_packs 375 = .ok (.iload 5, 2) := by decide +kernel
theorem dX8_packs_377 : decode cX8_packs 377 = .ok (.iastore, 1) := by decide +kernel
theorem dX8_packs_378 : decode cX8_packs 378 = .ok (.aload_n 0, 1) := by decide +kernel
theorem dX8_packs_379 : decode cX8_packs 379 = .ok (.getfield 66, 3) := by decide +kernel
theorem dX8_packs_382 : decode cX8_packs 382 = .ok (.iload_n 1, 1) := by decide +kernel
theorem dX8_packs_383 : decode cX8_packs 383 = .ok (.iconst 1, 1) := by decide +kernel
theorem dX8_packs_384 : decode cX8_packs 384 = .ok (.bastore, 1) := by decide +kernel
theorem dX8_packs_385 : decode cX8_packs 385 = .ok (.return_, 1) := by decide +kernel
set_option maxRecDepth 20000 in
theorem ggX8_pack_X8_isInstruction : GoodIn wsX8_pack wsX8_isInstruction := goodIn_r _ [5] rfl (by decide +kernel)
set_option maxRecDepth 20000 in
theorem gX8_pack_X8_isInstruction : GoodIn wsX8_pack (va_wsS RX8 157 yX8_isInstruction wsX8_isInstruction) := goodIn_app (goodIn_of _ (by decide +kernel)) ggX8_pack_X8_isInstruction
set_option maxRecDepth 20000 in
theorem ggX8_pack_X8_no : GoodIn wsX8_pack wsX8_no := goodIn_r _ [9, 10, 51, 52, 53, 54, 55, 56, 57, 58, 59, 60, 61, 62, 63, 64, 65, 66, 67, 68, 69, 70, 71, 72, 73, 74, 75, 76, 77, 78, 79, 80, 81, 82, 83, 84, 85, 86, 87, 88, 89, 90, 91, 92, 93, 94] rfl (by decide +kernel)
set_option maxRecDepth 20000 in
theorem gX8_pack_X8_no : GoodIn wsX8_pack (wsV RX8 122 RX8 yX8_no wsX8_no) := goodIn_app (goodIn_of _ (by decide +kernel)) ggX8_pack_X8_no
set_option maxRecDepth 20000 in
theorem ggX8_pack_X8_packs : GoodIn wsX8_pack wsX8_packs := goodIn_r _ [14, 15, 16, 17, 18, 19, 20, 1, 21, 22, 23, 4, 24, 25, 26, 27, 28, 29, 30, 31, 32, 33, 34, 35, 36, 37, 38, 39, 40, 41, 42, 43, 44, 45, 46, 47, 48, 49, 50, 51, 52, 53, 54, 55, 56, 57, 58, 59, 60, 61, 62, 63, 64, 65, 66, 67, 68, 69, 70, 71, 72, 73, 74, 75, 76, 77, 78, 79, 80, 81, 82, 83, 84, 85, 86, 87, 88, 89, 90, 91, 92, 93, 94] rfl (by decide +kernel)
set_option maxRecDepth 20000 in
theorem gX8_pack_X8_packs : GoodIn wsX8_pack (wsV RX8 194 RX8 yX8_packs wsX8_packs) := goodIn_app (goodIn_of _ (by decide +kernel)) ggX8_pack_X8_packs
theorem dX8_pack_0 : decode cX8_pack 0 = .ok (.iload_n 1, 1) := by decide +kernel
theorem dX8_pack_1 : decode cX8_pack 1 = .ok (.invokestatic 157, 3) := by decide +kernel
theorem dX8_pack_4 : decode cX8_pack 4 = .ok (.ifCond .ne 10, 3) := by decide +kernel
theorem dX8_pack_7 : decode cX8_pack 7 = .ok (.aload_n 0, 1) := by decide +kernel
theorem dX8_pack_8 : decode cX8_pack 8 = .ok (.bipush (-3), 2) := by decide +kernel
theorem dX8_pack_10 : decode cX8_pack 10 = .ok (.invokevirtual 122, 3) := by decide +kernel
theorem dX8_pack_13 : decode cX8_pack 13 = .ok (.ireturn, 1) := by decide +kernel
theorem dX8_pack_14 : decode cX8_pack 14 = .ok (.aload_n 0, 1) := by decide +kernel
theorem dX8_pack_15 : decode cX8_pack 15 = .ok (.iload_n 1, 1) := by decide +kernel
theorem dX8_pack_16 : decode cX8_pack 16 = .ok (.invokevirtual 194, 3) := by decide +kernel
theorem dX8_pack_19 : decode cX8_pack 19 = .ok (.aload_n 0, 1) := by decide +kernel
theorem dX8_pack_20 : decode cX8_pack 20 = .ok (.getfield 57, 3) := by decide +kernel
theorem dX8_pack_23 : decode cX8_pack 23 = .ok (.iload_n 1, 1) := by decide +kernel
theorem dX8_pack_24 : decode cX8_pack 24 = .ok (.iaload, 1) := by decide +kernel
theorem dX8_pack_25 : decode cX8_pack 25 = .ok (.ireturn, 1) := by decide +kernel
set_option maxRecDepth 20000 in
theorem ggX8_word_X8_isAct : GoodIn wsX8_word wsX8_isAct := goodIn_r _ [7, 8, 9, 10, 6, 11, 17, 18, 19, 20, 21, 22, 23, 24, 25, 26, 27, 28, 29, 30, 31, 32, 33, 34, 35, 36, 37, 38, 39, 40, 41, 42, 43, 44, 45, 46, 47, 48, 49, 50, 51, 52, 53, 54, 55, 56, 57, 58, 59, 60] rfl (by decide +kernel)
set_option maxRecDepth 20000 in
theorem gX8_word_X8_isAct : GoodIn wsX8_word (wsV RX8 168 RX8 yX8_isAct wsX8_isAct) := goodIn_app (goodIn_of _ (by decide +kernel)) ggX8_word_X8_isAct
set_option maxRecDepth 20000 in
theorem ggX8_word_X8_no : GoodIn wsX8_word wsX8_no := goodIn_r _ [15, 16, 17, 18, 19, 20, 21, 22, 23, 24, 25, 26, 27, 28, 29, 30, 31, 32, 33, 34, 35, 36, 37, 38, 39, 40, 41, 42, 43, 44, 45, 46, 47, 48, 49, 50, 51, 52, 53, 54, 55, 56, 57, 58, 59, 60] rfl (by decide +kernel)
set_option maxRecDepth 20000 in
theorem gX8_word_X8_no : GoodIn wsX8_word (wsV RX8 122 RX8 yX8_no wsX8_no) := goodIn_app (goodIn_of _ (by decide +kernel)) ggX8_word_X8_no
theorem dX8_word_0 : decode cX8_word 0 = .ok (.aload_n 0, 1) := by decide +kernel
theorem dX8_word_1 : decode cX8_word 1 = .ok (.iload_n 1, 1) := by decide +kernel
theorem dX8_word_2 : decode cX8_word 2 = .ok (.iload_n 2, 1) := by decide +kernel
theorem dX8_word_3 : decode cX8_word 3 = .ok (.invokevirtual 168, 3) := by decide +kernel
theorem dX8_word_6 : decode cX8_word 6 = .ok (.ifCond .ne 10, 3) := by decide +kernel
theorem dX8_word_9 : decode cX8_word 9 = .ok (.aload_n 0, 1) := by decide +kernel
theorem dX8_word_10 : decode cX8_word 10 = .ok (.bipush (-3), 2) := by decide +kernel
theorem dX8_word_12 : decode cX8_word 12 = .ok (.invokevirtual 122, 3) := by decide +kernel
theorem dX8_word_15 : decode cX8_word 15 = .ok (.ireturn, 1) := by decide +kernel
set_option maxRecDepth 20000 in
theorem ggX8_why_X8_isAct : GoodIn wsX8_why wsX8_isAct := goodIn_r _ [7, 8, 9, 10, 6, 11, 39, 40, 41, 42, 43, 44, 45, 46, 47, 48, 49, 50, 51, 52, 53, 54, 55, 56, 57, 58, 59, 60, 61, 62, 63, 64, 65, 66, 67, 68, 69, 70, 71, 72, 73, 74, 75, 76, 77, 78, 79, 80, 81, 82] rfl (by decide +kernel)
set_option maxRecDepth 20000 in
theorem gX8_why_X8_isAct : GoodIn wsX8_why (wsV RX8 168 RX8 yX8_isAct wsX8_isAct) := goodIn_app (goodIn_of _ (by decide +kernel)) ggX8_why_X8_isAct
set_option maxRecDepth 20000 in
theorem ggX8_why_X8_no : GoodIn wsX8_why wsX8_no := goodIn_r _ [15, 16, 39, 40, 41, 42, 43, 44, 45, 46, 47, 48, 49, 50, 51, 52, 53, 54, 55, 56, 57, 58, 59, 60, 61, 62, 63, 64, 65, 66, 67, 68, 69, 70, 71, 72, 73, 74, 75, 76, 77, 78, 79, 80, 81, 82] rfl (by decide +kernel)
set_option maxRecDepth 20000 in
theorem gX8_why_X8_no : GoodIn wsX8_why (wsV RX8 122 RX8 yX8_no wsX8_no) := goodIn_app (goodIn_of _ (by decide +kernel)) ggX8_why_X8_no
theorem dX8_why_0 : decode cX8_why 0 = .ok (.aload_n 0, 1) := by decide +kernel
theorem dX8_why_1 : decode cX8_why 1 = .ok (.iload_n 1, 1) := by decide +kernel
theorem dX8_why_2 : decode cX8_why 2 = .ok (.iload_n 2, 1) := by decide +kernel
theorem dX8_why_3 : decode cX8_why 3 = .ok (.invokevirtual 168, 3) := by decide +kernel
theorem dX8_why_6 : decode cX8_why 6 = .ok (.ifCond .ne 10, 3) := by decide +kernel
theorem dX8_why_9 : decode cX8_why 9 = .ok (.aload_n 0, 1) := by decide +kernel
theorem dX8_why_10 : decode cX8_why 10 = .ok (.bipush (-3), 2) := by decide +kernel
theorem dX8_why_12 : decode cX8_why 12 = .ok (.invokevirtual 122, 3) := by decide +kernel
theorem dX8_why_15 : decode cX8_why 15 = .ok (.ireturn, 1) := by decide +kernel
set_option maxRecDepth 20000 in
theorem ggX8_store_X8_packs : GoodIn wsX8_store wsX8_packs := goodIn_r _ [9, 10, 11, 12, 13, 14, 15, 2, 16, 17, 18, 8, 19, 20, 21, 22, 23, 24, 25, 26, 27, 28, 29, 30, 31, 32, 33, 34, 35, 36, 37, 38, 39, 40, 41, 42, 43, 44, 45, 92, 93, 94, 95, 96, 97, 98, 99, 100, 101, 102, 103, 104, 105, 106, 107, 108, 109, 110, 111, 112, 113, 114, 115, 116, 117, 118, 119, 120, 121, 122, 123, 124, 125, 126, 127, 128, 129, 130, 131, 132, 133, 134, 135] rfl (by decide +kernel)
set_option maxRecDepth 20000 in
theorem gX8_store_X8_packs : GoodIn wsX8_store (wsV RX8 194 RX8 yX8_packs wsX8_packs) := goodIn_app (goodIn_of _ (by decide +kernel)) ggX8_store_X8_packs
set_option maxRecDepth 20000 in
theorem ggX8_store_X8_findFields : GoodIn wsX8_store wsX8_findFields := goodIn_r _ [69, 70, 71, 1, 72, 52, 53, 20, 73, 74, 75, 8, 76, 58, 59, 60, 61, 11, 15, 43, 44, 45, 77, 78, 79, 80, 62, 63, 64, 65, 25, 33, 34, 81, 82, 83, 84, 85, 86, 87, 88, 89, 90, 91, 92, 93, 94, 95, 96, 97, 98, 99, 100, 101, 102, 103, 104, 105, 106, 107, 108, 109, 110, 111, 112, 113, 114, 115, 116, 117, 118, 119, 120, 121, 122, 123, 124, 125, 126, 127, 128, 129, 130, 131, 132, 133, 134, 135] rfl (by decide +kernel)
set_option maxRecDepth 20000 in
theorem gX8_store_X8_findFields : GoodIn wsX8_store (wsV RX8 214 RX8 yX8_findFields wsX8_findFields) := goodIn_app (goodIn_of _ (by decide +kernel)) ggX8_store_X8_findFields
theorem dX8_store_0 : decode cX8_store 0 = .ok (.aload_n 0, 1) := by decide +kernel
theorem dX8_store_1 : decode cX8_store 1 = .ok (.iconst 0, 1) := by decide +kernel
theorem dX8_store_2 : decode cX8_store 2 = .ok (.putfield 205, 3) := by decide +kernel
theorem dX8_store_5 : decode cX8_store 5 = .ok (.iconst 0, 1) := by decide +kernel
theorem dX8_store_6 : decode cX8_store 6 = .ok (.istore_n 1, 1) := by decide +kernel
theorem dX8_store_7 : decode cX8_store 7 = .ok (.iload_n 1, 1) := by decide +kernel
theorem dX8_store_8 : decode cX8_store 8 = .ok (.bipush 12, 2) := by decide +kernel
theorem dX8_store_10 : decode cX8_store 10 = .ok (.if_icmp .ge 55, 3) := by decide +kernel
theorem dX8_store_13 : decode cX8_store 13 = .ok (.aload_n 0, 1) := by decide +kernel
theorem dX8_store_14 : decode cX8_store 14 = .ok (.iload_n 1, 1) := by decide +kernel
theorem dX8_store_15 : decode cX8_store 15 = .ok (.invokevirtual 194, 3) := by decide +kernel
theorem dX8_store_18 : decode cX8_store 18 = .ok (.iconst (-1), 1) := by decide +kernel
theorem dX8_store_19 : decode cX8_store 19 = .ok (.istore_n 2, 1) := by decide +kernel
theorem dX8_store_20 : decode cX8_store 20 = .ok (.aload_n 0, 1) := by decide +kernel
theorem dX8_store_21 : decode cX8_store 21 = .ok (.getfield 57, 3) := by decide +kernel
theorem dX8_store_24 : decode cX8_store 24 = .ok (.iload_n 1, 1) := by decide +kernel
theorem dX8_store_25 : decode cX8_store 25 = .ok (.iaload, 1) := by decide +kernel
theorem dX8_store_26 : decode cX8_store 26 = .ok (.iconst 1, 1) := by decide +kernel
theorem dX8_store_27 : decode cX8_store 27 = .ok (.isub, 1) := by decide +kernel
theorem dX8_store_28 : decode cX8_store 28 = .ok (.istore_n 3, 1) := by decide +kernel
theorem dX8_store_29 : decode cX8_store 29 = .ok (.iload_n 3, 1) := by decide +kernel
theorem dX8_store_30 : decode cX8_store 30 = .ok (.ifCond .lt 29, 3) := by decide +kernel
theorem dX8_store_59 : decode cX8_store 59 = .ok (.iinc 1 1, 3) := by decide +kernel
theorem dX8_store_62 : decode cX8_store 62 = .ok (.goto (-55), 3) := by decide +kernel
theorem dX8_store_65 : decode cX8_store 65 = .ok (.aload_n 0, 1) := by decide +kernel
theorem dX8_store_66 : decode cX8_store 66 = .ok (.iconst 1, 1) := by decide +kernel
theorem dX8_store_67 : decode cX8_store 67 = .ok (.putfield 164, 3) := by decide +kernel
theorem dX8_store_70 : decode cX8_store 70 = .ok (.aload_n 0, 1) := by decide +kernel
theorem dX8_store_71 : decode cX8_store 71 = .ok (.invokevirtual 214, 3) := by decide +kernel
theorem dX8_store_74 : decode cX8_store 74 = .ok (.aload_n 0, 1) := by decide +kernel
theorem dX8_store_75 : decode cX8_store 75 = .ok (.getfield 205, 3) := by decide +kernel
theorem dX8_store_78 : decode cX8_store 78 = .ok (.ireturn, 1) := by decide +kernel
set_option maxRecDepth 20000 in
theorem ggX8_place_X8_isInstruction : GoodIn wsX8_place wsX8_isInstruction := goodIn_r _ [7] rfl (by decide +kernel)
set_option maxRecDepth 20000 in
theorem gX8_place_X8_isInstruction : GoodIn wsX8_place (va_wsS RX8 157 yX8_isInstruction wsX8_isInstruction) := goodIn_app (goodIn_of _ (by decide +kernel)) ggX8_place_X8_isInstruction
set_option maxRecDepth 20000 in
theorem ggX8_place_X8_no : GoodIn wsX8_place wsX8_no := goodIn_r _ [11, 12, 16, 17, 18, 19, 20, 21, 22, 23, 24, 25, 26, 27, 28, 29, 30, 31, 32, 33, 34, 35, 36, 37, 38, 39, 40, 41, 42, 43, 44, 45, 46, 47, 48, 49, 50, 51, 52, 53, 54, 55, 56, 57, 58, 59] rfl (by decide +kernel)
set_option maxRecDepth 20000 in
theorem gX8_place_X8_no : GoodIn wsX8_place (wsV RX8 122 RX8 yX8_no wsX8_no) := goodIn_app (goodIn_of _ (by decide +kernel)) ggX8_place_X8_no
theorem dX8_place_0 : decode cX8_place 0 = .ok (.iload_n 1, 1) := by decide +kernel
theorem dX8_place_1 : decode cX8_place 1 = .ok (.invokestatic 157, 3) := by decide +kernel
theorem dX8_place_4 : decode cX8_place 4 = .ok (.ifCond .ne 10, 3) := by decide +kernel
theorem dX8_place_7 : decode cX8_place 7 = .ok (.aload_n 0, 1) := by decide +kernel
theorem dX8_place_8 : decode cX8_place 8 = .ok (.bipush (-3), 2) := by decide +kernel
theorem dX8_place_10 : decode cX8_place 10 = .ok (.invokevirtual 122, 3) := by decide +kernel
theorem dX8_place_13 : decode cX8_place 13 = .ok (.ireturn, 1) := by decide +kernel
theorem dX8_place_14 : decode cX8_place 14 = .ok (.aload_n 0, 1) := by decide +kernel
theorem dX8_place_15 : decode cX8_place 15 = .ok (.getfield 164, 3) := by decide +kernel
theorem dX8_place_18 : decode cX8_place 18 = .ok (.ifCond .ne 10, 3) := by decide +kernel
theorem dX8_place_21 : decode cX8_place 21 = .ok (.aload_n 0, 1) := by decide +kernel
theorem dX8_place_22 : decode cX8_place 22 = .ok (.bipush (-2), 2) := by decide +kernel
theorem dX8_place_24 : decode cX8_place 24 = .ok (.invokevirtual 122, 3) := by decide +kernel
theorem dX8_place_27 : decode cX8_place 27 = .ok (.ireturn, 1) := by decide +kernel
set_option maxRecDepth 20000 in
theorem ggX8_at_X8_no : GoodIn wsX8_at wsX8_no := goodIn_r _ [9, 10, 26, 27, 28, 29, 30, 31, 32, 33, 34, 35, 36, 37, 38, 39, 40, 41, 42, 43, 44, 45, 46, 47, 48, 49, 50, 51, 52, 53, 54, 55, 56, 57, 58, 59, 60, 61, 62, 63, 64, 65, 66, 67, 68, 69] rfl (by decide +kernel)
set_option maxRecDepth 20000 in
theorem gX8_at_X8_no : GoodIn wsX8_at (wsV RX8 122 RX8 yX8_no wsX8_no) := goodIn_app (goodIn_of _ (by decide +kernel)) ggX8_at_X8_no
theorem dX8_at_0 : decode cX8_at 0 = .ok (.aload_n 0, 1) := by decide +kernel
theorem dX8_at_1 : decode cX8_at 1 = .ok (.getfield 164, 3) := by decide +kernel
theorem dX8_at_4 : decode cX8_at 4 = .ok (.ifCond .ne 10, 3) := by decide +kernel
theorem dX8_at_7 : decode cX8_at 7 = .ok (.aload_n 0, 1) := by decide +kernel
theorem dX8_at_8 : decode cX8_at 8 = .ok (.bipush (-2), 2) := by decide +kernel
theorem dX8_at_10 : decode cX8_at 10 = .ok (.invokevirtual 122, 3) := by decide +kernel
theorem dX8_at_13 : decode cX8_at 13 = .ok (.ireturn, 1) := by decide +kernel
set_option maxRecDepth 20000 in
theorem ggX8_findFields_X8_findGroups : GoodIn wsX8_findFields wsX8_findGroups := goodIn_r _ [36, 37, 38, 1, 39, 40, 41, 42, 11, 43, 2, 44, 45, 46, 47, 48, 49, 50, 51, 52, 53, 54, 55, 56, 57, 58, 59, 60, 61, 62, 63, 64, 65, 66, 67, 68, 69, 70, 71, 72, 73, 74, 75, 76, 77, 78, 79, 80, 81, 82, 83, 84, 85, 86, 87] rfl (by decide +kernel)
set_option maxRecDepth 20000 in
theorem gX8_findFields_X8_findGroups : GoodIn wsX8_findFields (wsV RX8 223 RX8 yX8_findGroups wsX8_findGroups) := goodIn_app (goodIn_of _ (by decide +kernel)) ggX8_findFields_X8_findGroups
theorem dX8_findFields_0 : decode cX8_findFields 0 = .ok (.iconst 0, 1) := by decide +kernel
theorem dX8_findFields_1 : decode cX8_findFields 1 = .ok (.istore_n 1, 1) := by decide +kernel
theorem dX8_findFields_2 : decode cX8_findFields 2 = .ok (.iload_n 1, 1) := by decide +kernel
theorem dX8_findFields_3 : decode cX8_findFields 3 = .ok (.bipush 7, 2) := by decide +kernel
theorem dX8_findFields_5 : decode cX8_findFields 5 = .ok (.if_icmp .ge 23, 3) := by decide +kernel
theorem dX8_findFields_8 : decode cX8_findFields 8 = .ok (.aload_n 0, 1) := by decide +kernel
theorem dX8_findFields_9 : decode cX8_findFields 9 = .ok (.getfield 88, 3) := by decide +kernel
theorem dX8_findFields_12 : decode cX8_findFields 12 = .ok (.iload_n 1, 1) := by decide +kernel
theorem dX8_findFields_13 : decode cX8_findFields 13 = .ok (.iconst 0, 1) := by decide +kernel
theorem dX8_findFields_14 : decode cX8_findFields 14 = .ok (.iastore, 1) := by decide +kernel
theorem dX8_findFields_15 : decode cX8_findFields 15 = .ok (.aload_n 0, 1) := by decide +kernel
theorem dX8_findFields_16 : decode cX8_findFields 16 = .ok (.getfield 91, 3) := by decide +kernel
theorem dX8_findFields_19 : decode cX8_findFields 19 = .ok (.iload_n 1, 1) := by decide +kernel
theorem dX8_findFields_20 : decode cX8_findFields 20 = .ok (.iconst 0, 1) := by decide +kernel
theorem dX8_findFields_21 : decode cX8_findFields 21 = .ok (.iastore, 1) := by decide +kernel
theorem dX8_findFields_22 : decode cX8_findFields 22 = .ok (.iinc 1 1, 3) := by decide +kernel
theorem dX8_findFields_25 : decode cX8_findFields 25 = .ok (.goto (-23), 3) := by decide +kernel
theorem dX8_findFields_28 : decode cX8_findFields 28 = .ok (.iconst 0, 1) := by decide +kernel
theorem dX8_findFields_29 : decode cX8_findFields 29 = .ok (.istore_n 1, 1) := by decide +kernel
theorem dX8_findFields_30 : decode cX8_findFields 30 = .ok (.iload_n 1, 1) := by decide +kernel
theorem dX8_findFields_31 : decode cX8_findFields 31 = .ok (.aload_n 0, 1) := by decide +kernel
theorem dX8_findFields_32 : decode cX8_findFields 32 = .ok (.getfield 205, 3) := by decide +kernel
theorem dX8_findFields_35 : decode cX8_findFields 35 = .ok (.if_icmp .ge 226, 3) := by decide +kernel
theorem dX8_findFields_261 : decode cX8_findFields 261 = .ok (.aload_n 0, 1) := by decide +kernel
theorem dX8_findFields_262 : decode cX8_findFields 262 = .ok (.invokevirtual 223, 3) := by decide +kernel
theorem dX8_findFields_265 : decode cX8_findFields 265 = .ok (.return_, 1) := by decide +kernel
theorem dX8_findGroups_0 : decode cX8_findGroups 0 = .ok (.aload_n 0, 1) := by decide +kernel
theorem dX8_findGroups_1 : decode cX8_findGroups 1 = .ok (.iconst 0, 1) := by decide +kernel
theorem dX8_findGroups_2 : decode cX8_findGroups 2 = .ok (.putfield 226, 3) := by decide +kernel
theorem dX8_findGroups_5 : decode cX8_findGroups 5 = .ok (.iconst 0, 1) := by decide +kernel
theorem dX8_findGroups_6 : decode cX8_findGroups 6 = .ok (.istore_n 1, 1) := by decide +kernel
theorem dX8_findGroups_7 : decode cX8_findGroups 7 = .ok (.iload_n 1, 1) := by decide +kernel
theorem dX8_findGroups_8 : decode cX8_findGroups 8 = .ok (.bipush 7, 2) := by decide +kernel
theorem dX8_findGroups_10 : decode cX8_findGroups 10 = .ok (.if_icmp .ge 100, 3) := by decide +kernel
theorem dX8_findGroups_13 : decode cX8_findGroups 13 = .ok (.aload_n 0, 1) := by decide +kernel
theorem dX8_findGroups_14 : decode cX8_findGroups 14 = .ok (.getfield 94, 3) := by decide +kernel
theorem dX8_findGroups_17 : decode cX8_findGroups 17 = .ok (.iload_n 1, 1) := by decide +kernel
theorem dX8_findGroups_18 : decode cX8_findGroups 18 = .ok (.iconst (-1), 1) := by decide +kernel
theorem dX8_findGroups_19 : decode cX8_findGroups 19 = .ok (.iastore, 1) := by decide +kernel
theorem dX8_findGroups_20 : decode cX8_findGroups 20 = .ok (.aload_n 0, 1) := by decide +kernel
theorem dX8_findGroups_21 : decode cX8_findGroups 21 = .ok (.getfield 88, 3) := by decide +kernel
theorem dX8_findGroups_24 : decode cX8_findGroups 24 = .ok (.iload_n 1, 1) := by decide +kernel
theorem dX8_findGroups_25 : decode cX8_findGroups 25 = .ok (.iaload, 1) := by decide +kernel
theorem dX8_findGroups_26 : decode cX8_findGroups 26 = .ok (.ifCond .ne 6, 3) := by decide +kernel
theorem dX8_findGroups_29 : decode cX8_findGroups 29 = .ok (.goto 75, 3) := by decide +kernel
theorem dX8_findGroups_104 : decode cX8_findGroups 104 = .ok (.iinc 1 1, 3) := by decide +kernel
theorem dX8_findGroups_107 : decode cX8_findGroups 107 = .ok (.goto (-100), 3) := by decide +kernel
theorem dX8_findGroups_110 : decode cX8_findGroups 110 = .ok (.return_, 1) := by decide +kernel
set_option maxRecDepth 20000 in
theorem ggX8_group_X8_isIn : GoodIn wsX8_group wsX8_isIn := goodIn_r _ [7] rfl (by decide +kernel)
set_option maxRecDepth 20000 in
theorem gX8_group_X8_isIn : GoodIn wsX8_group (va_wsS RX8 128 yX8_isIn wsX8_isIn) := goodIn_app (goodIn_of _ (by decide +kernel)) ggX8_group_X8_isIn
set_option maxRecDepth 20000 in
theorem ggX8_group_X8_no : GoodIn wsX8_group wsX8_no := goodIn_r _ [11, 12, 13, 14, 15, 16, 17, 18, 19, 20, 21, 22, 23, 24, 25, 26, 27, 28, 29, 30, 31, 32, 33, 34, 35, 36, 37, 38, 39, 40, 41, 42, 43, 44, 45, 46, 47, 48, 49, 50, 51, 52, 53, 54, 55, 56] rfl (by decide +kernel)
set_option maxRecDepth 20000 in
theorem gX8_group_X8_no : GoodIn wsX8_group (wsV RX8 122 RX8 yX8_no wsX8_no) := goodIn_app (goodIn_of _ (by decide +kernel)) ggX8_group_X8_no
theorem dX8_group_0 : decode cX8_group 0 = .ok (.iload_n 1, 1) := by decide +kernel
theorem dX8_group_1 : decode cX8_group 1 = .ok (.i2l, 1) := by decide +kernel
theorem dX8_group_2 : decode cX8_group 2 = .ok (.lconst 0, 1) := by decide +kernel
theorem dX8_group_3 : decode cX8_group 3 = .ok (.ldc2_w 232, 3) := by decide +kernel
theorem dX8_group_6 : decode cX8_group 6 = .ok (.invokestatic 128, 3) := by decide +kernel
theorem dX8_group_9 : decode cX8_group 9 = .ok (.ifCond .ne 10, 3) := by decide +kernel
theorem dX8_group_12 : decode cX8_group 12 = .ok (.aload_n 0, 1) := by decide +kernel
theorem dX8_group_13 : decode cX8_group 13 = .ok (.bipush (-3), 2) := by decide +kernel
theorem dX8_group_15 : decode cX8_group 15 = .ok (.invokevirtual 122, 3) := by decide +kernel
theorem dX8_group_18 : decode cX8_group 18 = .ok (.ireturn, 1) := by decide +kernel
theorem dX8_group_19 : decode cX8_group 19 = .ok (.aload_n 0, 1) := by decide +kernel
theorem dX8_group_20 : decode cX8_group 20 = .ok (.getfield 164, 3) := by decide +kernel
theorem dX8_group_23 : decode cX8_group 23 = .ok (.ifCond .eq 12, 3) := by decide +kernel
theorem dX8_group_35 : decode cX8_group 35 = .ok (.aload_n 0, 1) := by decide +kernel
theorem dX8_group_36 : decode cX8_group 36 = .ok (.bipush (-2), 2) := by decide +kernel
theorem dX8_group_38 : decode cX8_group 38 = .ok (.invokevirtual 122, 3) := by decide +kernel
theorem dX8_group_41 : decode cX8_group 41 = .ok (.ireturn, 1) := by decide +kernel
set_option maxRecDepth 20000 in
theorem ggX8_narrow_X8_no : GoodIn wsX8_narrow wsX8_no := goodIn_r _ [11, 12, 19, 20, 21, 22, 23, 24, 25, 26, 27, 28, 29, 30, 31, 32, 33, 34, 35, 36, 37, 38, 39, 40, 41, 42, 43, 44, 45, 46, 47, 48, 49, 50, 51, 52, 53, 54, 55, 56, 57, 58, 59, 60, 61, 62] rfl (by decide +kernel)
set_option maxRecDepth 20000 in
theorem gX8_narrow_X8_no : GoodIn wsX8_narrow (wsV RX8 122 RX8 yX8_no wsX8_no) := goodIn_app (goodIn_of _ (by decide +kernel)) ggX8_narrow_X8_no
theorem dX8_narrow_0 : decode cX8_narrow 0 = .ok (.aload_n 0, 1) := by decide +kernel
theorem dX8_narrow_1 : decode cX8_narrow 1 = .ok (.getfield 164, 3) := by decide +kernel
theorem dX8_narrow_4 : decode cX8_narrow 4 = .ok (.ifCond .ne 10, 3) := by decide +kernel
theorem dX8_narrow_7 : decode cX8_narrow 7 = .ok (.aload_n 0, 1) := by decide +kernel
theorem dX8_narrow_8 : decode cX8_narrow 8 = .ok (.bipush (-2), 2) := by decide +kernel
theorem dX8_narrow_10 : decode cX8_narrow 10 = .ok (.invokevirtual 122, 3) := by decide +kernel
theorem dX8_narrow_13 : decode cX8_narrow 13 = .ok (.ireturn, 1) := by decide +kernel
theorem dX8_copies_0 : decode cX8_copies 0 = .ok (.iconst 0, 1) := by decide +kernel
theorem dX8_copies_1 : decode cX8_copies 1 = .ok (.istore_n 2, 1) := by decide +kernel
theorem dX8_copies_2 : decode cX8_copies 2 = .ok (.iload_n 2, 1) := by decide +kernel
theorem dX8_copies_3 : decode cX8_copies 3 = .ok (.bipush 74, 2) := by decide +kernel
theorem dX8_copies_5 : decode cX8_copies 5 = .ok (.if_icmp .ge 15, 3) := by decide +kernel
theorem dX8_copies_8 : decode cX8_copies 8 = .ok (.aload_n 1, 1) := by decide +kernel
theorem dX8_copies_9 : decode cX8_copies 9 = .ok (.iload_n 2, 1) := by decide +kernel
theorem dX8_copies_10 : decode cX8_copies 10 = .ok (.aload_n 0, 1) := by decide +kernel
theorem dX8_copies_11 : decode cX8_copies 11 = .ok (.iload_n 2, 1) := by decide +kernel
theorem dX8_copies_12 : decode cX8_copies 12 = .ok (.laload, 1) := by decide +kernel
theorem dX8_copies_13 : decode cX8_copies 13 = .ok (.lastore, 1) := by decide +kernel
theorem dX8_copies_14 : decode cX8_copies 14 = .ok (.iinc 2 1, 3) := by decide +kernel
theorem dX8_copies_17 : decode cX8_copies 17 = .ok (.goto (-15), 3) := by decide +kernel
theorem dX8_copies_20 : decode cX8_copies 20 = .ok (.return_, 1) := by decide +kernel
set_option maxRecDepth 20000 in
theorem ggX8_plainly_X8_copies : GoodIn wsX8_plainly wsX8_copies := goodIn_r _ [12] rfl (by decide +kernel)
set_option maxRecDepth 20000 in
theorem gX8_plainly_X8_copies : GoodIn wsX8_plainly (va_wsS RX8 246 yX8_copies wsX8_copies) := goodIn_app (goodIn_of _ (by decide +kernel)) ggX8_plainly_X8_copies
theorem dX8_plainly_0 : decode cX8_plainly 0 = .ok (.aload_n 0, 1) := by decide +kernel
theorem dX8_plainly_1 : decode cX8_plainly 1 = .ok (.getfield 7, 3) := by decide +kernel
theorem dX8_plainly_4 : decode cX8_plainly 4 = .ok (.aload_n 0, 1) := by decide +kernel
theorem dX8_plainly_5 : decode cX8_plainly 5 = .ok (.getfield 19, 3) := by decide +kernel
theorem dX8_plainly_8 : decode cX8_plainly 8 = .ok (.invokestatic 246, 3) := by decide +kernel
theorem dX8_plainly_11 : decode cX8_plainly 11 = .ok (.aload_n 0, 1) := by decide +kernel
theorem dX8_plainly_12 : decode cX8_plainly 12 = .ok (.iconst 0, 1) := by decide +kernel
theorem dX8_plainly_13 : decode cX8_plainly 13 = .ok (.putfield 250, 3) := by decide +kernel
theorem dX8_plainly_16 : decode cX8_plainly 16 = .ok (.aload_n 0, 1) := by decide +kernel
theorem dX8_plainly_17 : decode cX8_plainly 17 = .ok (.iconst 0, 1) := by decide +kernel
theorem dX8_plainly_18 : decode cX8_plainly 18 = .ok (.putfield 253, 3) := by decide +kernel
theorem dX8_plainly_21 : decode cX8_plainly 21 = .ok (.aload_n 0, 1) := by decide +kernel
theorem dX8_plainly_22 : decode cX8_plainly 22 = .ok (.iconst (-1), 1) := by decide +kernel
theorem dX8_plainly_23 : decode cX8_plainly 23 = .ok (.putfield 100, 3) := by decide +kernel
theorem dX8_plainly_26 : decode cX8_plainly 26 = .ok (.iconst 0, 1) := by decide +kernel
theorem dX8_plainly_27 : decode cX8_plainly 27 = .ok (.istore_n 2, 1) := by decide +kernel
theorem dX8_plainly_28 : decode cX8_plainly 28 = .ok (.iload_n 2, 1) := by decide +kernel
theorem dX8_plainly_29 : decode cX8_plainly 29 = .ok (.aload_n 0, 1) := by decide +kernel
theorem dX8_plainly_30 : decode cX8_plainly 30 = .ok (.getfield 41, 3) := by decide +kernel
theorem dX8_plainly_33 : decode cX8_plainly 33 = .ok (.iload_n 1, 1) := by decide +kernel
theorem dX8_plainly_34 : decode cX8_plainly 34 = .ok (.iaload, 1) := by decide +kernel
theorem dX8_plainly_35 : decode cX8_plainly 35 = .ok (.if_icmp .ge 89, 3) := by decide +kernel
theorem dX8_plainly_124 : decode cX8_plainly 124 = .ok (.iconst 0, 1) := by decide +kernel
theorem dX8_plainly_125 : decode cX8_plainly 125 = .ok (.ireturn, 1) := by decide +kernel
set_option maxRecDepth 20000 in
theorem ggX8_byWords_X8_packs : GoodIn wsX8_byWords wsX8_packs := goodIn_r _ [15, 16, 8, 17, 18, 19, 9, 6, 20, 21, 22, 14, 23, 10, 24, 25, 26, 27, 28, 29, 30, 31, 32, 33, 34, 35, 36, 37, 38, 39, 40, 41, 42, 43, 44, 45, 46, 47, 48, 74, 75, 76, 77, 78, 79, 80, 81, 82, 83, 84, 85, 86, 87, 88, 89, 90, 91, 92, 93, 94, 95, 96, 97, 98, 99, 100, 101, 102, 103, 104, 105, 106, 107, 108, 109, 110, 111, 112, 113, 114, 115, 116, 117] rfl (by decide +kernel)
set_option maxRecDepth 20000 in
theorem gX8_byWords_X8_packs : GoodIn wsX8_byWords (wsV RX8 194 RX8 yX8_packs wsX8_packs) := goodIn_app (goodIn_of _ (by decide +kernel)) ggX8_byWords_X8_packs
set_option maxRecDepth 20000 in
theorem ggX8_byWords_X8_copies : GoodIn wsX8_byWords wsX8_copies := goodIn_r _ [51] rfl (by decide +kernel)
set_option maxRecDepth 20000 in
theorem gX8_byWords_X8_copies : GoodIn wsX8_byWords (va_wsS RX8 246 yX8_copies wsX8_copies) := goodIn_app (goodIn_of _ (by decide +kernel)) ggX8_byWords_X8_copies
theorem dX8_byWords_0 : decode cX8_byWords 0 = .ok (.aload_n 0, 1) := by decide +kernel
theorem dX8_byWords_1 : decode cX8_byWords 1 = .ok (.iload_n 1, 1) := by decide +kernel
theorem dX8_byWords_2 : decode cX8_byWords 2 = .ok (.invokevirtual 194, 3) := by decide +kernel
theorem dX8_byWords_5 : decode cX8_byWords 5 = .ok (.aload_n 0, 1) := by decide +kernel
theorem dX8_byWords_6 : decode cX8_byWords 6 = .ok (.getfield 7, 3) := by decide +kernel
theorem dX8_byWords_9 : decode cX8_byWords 9 = .ok (.aload_n 0, 1) := by decide +kernel
theorem dX8_byWords_10 : decode cX8_byWords 10 = .ok (.getfield 19, 3) := by decide +kernel
theorem dX8_byWords_13 : decode cX8_byWords 13 = .ok (.invokestatic 246, 3) := by decide +kernel
theorem dX8_byWords_16 : decode cX8_byWords 16 = .ok (.aload_n 0, 1) := by decide +kernel
theorem dX8_byWords_17 : decode cX8_byWords 17 = .ok (.iconst 0, 1) := by decide +kernel
theorem dX8_byWords_18 : decode cX8_byWords 18 = .ok (.putfield 250, 3) := by decide +kernel
theorem dX8_byWords_21 : decode cX8_byWords 21 = .ok (.aload_n 0, 1) := by decide +kernel
theorem dX8_byWords_22 : decode cX8_byWords 22 = .ok (.iconst 0, 1) := by decide +kernel
theorem dX8_byWords_23 : decode cX8_byWords 23 = .ok (.putfield 253, 3) := by decide +kernel
theorem dX8_byWords_26 : decode cX8_byWords 26 = .ok (.aload_n 0, 1) := by decide +kernel
theorem dX8_byWords_27 : decode cX8_byWords 27 = .ok (.iconst (-1), 1) := by decide +kernel
theorem dX8_byWords_28 : decode cX8_byWords 28 = .ok (.putfield 100, 3) := by decide +kernel
theorem dX8_byWords_31 : decode cX8_byWords 31 = .ok (.iconst 0, 1) := by decide +kernel
theorem dX8_byWords_32 : decode cX8_byWords 32 = .ok (.istore_n 2, 1) := by decide +kernel
theorem dX8_byWords_33 : decode cX8_byWords 33 = .ok (.iload_n 2, 1) := by decide +kernel
theorem dX8_byWords_34 : decode cX8_byWords 34 = .ok (.aload_n 0, 1) := by decide +kernel
theorem dX8_byWords_35 : decode cX8_byWords 35 = .ok (.getfield 57, 3) := by decide +kernel
theorem dX8_byWords_38 : decode cX8_byWords 38 = .ok (.iload_n 1, 1) := by decide +kernel
theorem dX8_byWords_39 : decode cX8_byWords 39 = .ok (.iaload, 1) := by decide +kernel
theorem dX8_byWords_40 : decode cX8_byWords 40 = .ok (.if_icmp .ge 159, 3) := by decide +kernel
theorem dX8_byWords_199 : decode cX8_byWords 199 = .ok (.iconst 0, 1) := by decide +kernel
theorem dX8_byWords_200 : decode cX8_byWords 200 = .ok (.ireturn, 1) := by decide +kernel
set_option maxRecDepth 20000 in
theorem ggX8_run_X8_isInstruction : GoodIn wsX8_run wsX8_isInstruction := goodIn_r _ [4] rfl (by decide +kernel)
set_option maxRecDepth 20000 in
theorem gX8_run_X8_isInstruction : GoodIn wsX8_run (va_wsS RX8 157 yX8_isInstruction wsX8_isInstruction) := goodIn_app (goodIn_of _ (by decide +kernel)) ggX8_run_X8_isInstruction
set_option maxRecDepth 20000 in
theorem ggX8_run_X8_no : GoodIn wsX8_run wsX8_no := goodIn_r _ [8, 9, 90, 91, 92, 93, 94, 95, 96, 97, 98, 99, 100, 101, 102, 103, 104, 105, 106, 107, 108, 109, 110, 111, 112, 113, 114, 115, 116, 117, 118, 119, 120, 121, 122, 123, 124, 125, 126, 127, 128, 129, 130, 131, 132, 133] rfl (by decide +kernel)
set_option maxRecDepth 20000 in
theorem gX8_run_X8_no : GoodIn wsX8_run (wsV RX8 122 RX8 yX8_no wsX8_no) := goodIn_app (goodIn_of _ (by decide +kernel)) ggX8_run_X8_no
set_option maxRecDepth 20000 in
theorem ggX8_run_X8_byWords : GoodIn wsX8_run wsX8_byWords := goodIn_r _ [13, 14, 15, 16, 17, 18, 19, 20, 21, 22, 23, 24, 25, 26, 3, 27, 28, 29, 30, 31, 32, 33, 34, 35, 36, 37, 38, 39, 40, 41, 42, 43, 44, 45, 46, 47, 48, 49, 50, 51, 52, 53, 54, 55, 56, 57, 58, 59, 60, 61, 62, 63, 64, 65, 66, 67, 68, 69, 70, 71, 72, 73, 74, 75, 76, 77, 78, 79, 80, 81, 82, 83, 84, 85, 90, 91, 92, 93, 94, 95, 96, 97, 98, 99, 100, 101, 102, 103, 104, 105, 106, 107, 108, 109, 110, 111, 112, 113, 114, 115, 116, 117, 118, 119, 120, 121, 122, 123, 124, 125, 126, 127, 128, 129, 130, 131, 132, 133] rfl (by decide +kernel)
set_option maxRecDepth 20000 in
theorem gX8_run_X8_byWords : GoodIn wsX8_run (wsV RX8 262 RX8 yX8_byWords wsX8_byWords) := goodIn_app (goodIn_of _ (by decide +kernel)) ggX8_run_X8_byWords
set_option maxRecDepth 20000 in
theorem ggX8_run_X8_plainly : GoodIn wsX8_run wsX8_plainly := goodIn_r _ [89, 14, 15, 16, 17, 18, 21, 20, 23, 61, 62, 3, 63, 64, 65, 66, 67, 48, 49, 68, 69, 70, 71, 72, 73, 74, 75, 76, 40, 77, 78, 79, 80, 81, 82, 83, 84, 85, 90, 91, 92, 93, 94, 95, 96, 97, 98, 99, 100, 101, 102, 103, 104, 105, 106, 107, 108, 109, 110, 111, 112, 113, 114, 115, 116, 117, 118, 119, 120, 121, 122, 123, 124, 125, 126, 127, 128, 129, 130, 131, 132, 133] rfl (by decide +kernel)
set_option maxRecDepth 20000 in
theorem gX8_run_X8_plainly : GoodIn wsX8_run (wsV RX8 265 RX8 yX8_plainly wsX8_plainly) := goodIn_app (goodIn_of _ (by decide +kernel)) ggX8_run_X8_plainly
theorem dX8_run_0 : decode cX8_run 0 = .ok (.iload_n 1, 1) := by decide +kernel
theorem dX8_run_1 : decode cX8_run 1 = .ok (.invokestatic 157, 3) := by decide +kernel
theorem dX8_run_4 : decode cX8_run 4 = .ok (.ifCond .ne 10, 3) := by decide +kernel
theorem dX8_run_7 : decode cX8_run 7 = .ok (.aload_n 0, 1) := by decide +kernel
theorem dX8_run_8 : decode cX8_run 8 = .ok (.bipush (-3), 2) := by decide +kernel
theorem dX8_run_10 : decode cX8_run 10 = .ok (.invokevirtual 122, 3) := by decide +kernel
theorem dX8_run_13 : decode cX8_run 13 = .ok (.ireturn, 1) := by decide +kernel
theorem dX8_run_14 : decode cX8_run 14 = .ok (.iload_n 2, 1) := by decide +kernel
theorem dX8_run_15 : decode cX8_run 15 = .ok (.ifCond .eq 11, 3) := by decide +kernel
theorem dX8_run_18 : decode cX8_run 18 = .ok (.aload_n 0, 1) := by decide +kernel
theorem dX8_run_19 : decode cX8_run 19 = .ok (.iload_n 1, 1) := by decide +kernel
theorem dX8_run_20 : decode cX8_run 20 = .ok (.invokevirtual 262, 3) := by decide +kernel
theorem dX8_run_23 : decode cX8_run 23 = .ok (.goto 8, 3) := by decide +kernel
theorem dX8_run_26 : decode cX8_run 26 = .ok (.aload_n 0, 1) := by decide +kernel
theorem dX8_run_27 : decode cX8_run 27 = .ok (.iload_n 1, 1) := by decide +kernel
theorem dX8_run_28 : decode cX8_run 28 = .ok (.invokevirtual 265, 3) := by decide +kernel
theorem dX8_run_31 : decode cX8_run 31 = .ok (.ireturn, 1) := by decide +kernel
set_option maxRecDepth 20000 in
theorem ggX8_told_X8_isIn : GoodIn wsX8_told wsX8_isIn := goodIn_r _ [8] rfl (by decide +kernel)
set_option maxRecDepth 20000 in
theorem gX8_told_X8_isIn : GoodIn wsX8_told (va_wsS RX8 128 yX8_isIn wsX8_isIn) := goodIn_app (goodIn_of _ (by decide +kernel)) ggX8_told_X8_isIn
set_option maxRecDepth 20000 in
theorem ggX8_told_X8_no : GoodIn wsX8_told wsX8_no := goodIn_r _ [12, 13, 14, 15, 16, 17, 18, 19, 20, 21, 22, 23, 24, 25, 26, 27, 28, 29, 30, 31, 32, 33, 34, 35, 36, 37, 38, 39, 40, 41, 42, 43, 44, 45, 46, 47, 48, 49, 50, 51, 52, 53, 54, 55, 56, 57] rfl (by decide +kernel)
set_option maxRecDepth 20000 in
theorem gX8_told_X8_no : GoodIn wsX8_told (wsV RX8 122 RX8 yX8_no wsX8_no) := goodIn_app (goodIn_of _ (by decide +kernel)) ggX8_told_X8_no
theorem dX8_told_0 : decode cX8_told 0 = .ok (.iload_n 1, 1) := by decide +kernel
theorem dX8_told_1 : decode cX8_told 1 = .ok (.i2l, 1) := by decide +kernel
theorem dX8_told_2 : decode cX8_told 2 = .ok (.lconst 0, 1) := by decide +kernel
theorem dX8_told_3 : decode cX8_told 3 = .ok (.ldc2_w 141, 3) := by decide +kernel
theorem dX8_told_6 : decode cX8_told 6 = .ok (.invokestatic 128, 3) := by decide +kernel
theorem dX8_told_9 : decode cX8_told 9 = .ok (.ifCond .ne 10, 3) := by decide +kernel
theorem dX8_told_12 : decode cX8_told 12 = .ok (.aload_n 0, 1) := by decide +kernel
theorem dX8_told_13 : decode cX8_told 13 = .ok (.bipush (-6), 2) := by decide +kernel
theorem dX8_told_15 : decode cX8_told 15 = .ok (.invokevirtual 122, 3) := by decide +kernel
theorem dX8_told_18 : decode cX8_told 18 = .ok (.ireturn, 1) := by decide +kernel
theorem dX8_told_19 : decode cX8_told 19 = .ok (.iload_n 1, 1) := by decide +kernel
theorem dX8_told_20 : decode cX8_told 20 = .ok (.ifCond .ne 10, 3) := by decide +kernel
theorem dX8_told_23 : decode cX8_told 23 = .ok (.aload_n 0, 1) := by decide +kernel
theorem dX8_told_24 : decode cX8_told 24 = .ok (.getfield 250, 3) := by decide +kernel
theorem dX8_told_27 : decode cX8_told 27 = .ok (.goto 19, 3) := by decide +kernel
theorem dX8_told_30 : decode cX8_told 30 = .ok (.iload_n 1, 1) := by decide +kernel
theorem dX8_told_31 : decode cX8_told 31 = .ok (.iconst 1, 1) := by decide +kernel
theorem dX8_told_32 : decode cX8_told 32 = .ok (.if_icmp .ne 10, 3) := by decide +kernel
theorem dX8_told_35 : decode cX8_told 35 = .ok (.aload_n 0, 1) := by decide +kernel
theorem dX8_told_36 : decode cX8_told 36 = .ok (.getfield 253, 3) := by decide +kernel
theorem dX8_told_39 : decode cX8_told 39 = .ok (.goto 7, 3) := by decide +kernel
theorem dX8_told_42 : decode cX8_told 42 = .ok (.aload_n 0, 1) := by decide +kernel
theorem dX8_told_43 : decode cX8_told 43 = .ok (.getfield 100, 3) := by decide +kernel
theorem dX8_told_46 : decode cX8_told 46 = .ok (.ireturn, 1) := by decide +kernel
set_option maxRecDepth 20000 in
theorem ggX8_beside_X8_isInstruction : GoodIn wsX8_beside wsX8_isInstruction := goodIn_r _ [10] rfl (by decide +kernel)
set_option maxRecDepth 20000 in
theorem gX8_beside_X8_isInstruction : GoodIn wsX8_beside (va_wsS RX8 157 yX8_isInstruction wsX8_isInstruction) := goodIn_app (goodIn_of _ (by decide +kernel)) ggX8_beside_X8_isInstruction
set_option maxRecDepth 20000 in
theorem ggX8_beside_X8_no : GoodIn wsX8_beside wsX8_no := goodIn_r _ [14, 15, 92, 93, 94, 95, 96, 97, 98, 99, 100, 101, 102, 103, 104, 105, 106, 107, 108, 109, 110, 111, 112, 113, 114, 115, 116, 117, 118, 119, 120, 121, 122, 123, 124, 125, 126, 127, 128, 129, 130, 131, 132, 133, 134, 135] rfl (by decide +kernel)
set_option maxRecDepth 20000 in
theorem gX8_beside_X8_no : GoodIn wsX8_beside (wsV RX8 122 RX8 yX8_no wsX8_no) := goodIn_app (goodIn_of _ (by decide +kernel)) ggX8_beside_X8_no
set_option maxRecDepth 20000 in
theorem ggX8_beside_X8_copies : GoodIn wsX8_beside wsX8_copies := goodIn_r _ [18] rfl (by decide +kernel)
set_option maxRecDepth 20000 in
theorem gX8_beside_X8_copies : GoodIn wsX8_beside (va_wsS RX8 246 yX8_copies wsX8_copies) := goodIn_app (goodIn_of _ (by decide +kernel)) ggX8_beside_X8_copies
set_option maxRecDepth 20000 in
theorem ggX8_beside_X8_plainly : GoodIn wsX8_beside wsX8_plainly := goodIn_r _ [22, 4, 23, 1, 2, 3, 24, 25, 26, 16, 17, 9, 18, 27, 28, 29, 30, 31, 32, 33, 34, 35, 36, 37, 38, 39, 40, 41, 42, 43, 44, 45, 46, 47, 48, 49, 50, 51, 92, 93, 94, 95, 96, 97, 98, 99, 100, 101, 102, 103, 104, 105, 106, 107, 108, 109, 110, 111, 112, 113, 114, 115, 116, 117, 118, 119, 120, 121, 122, 123, 124, 125, 126, 127, 128, 129, 130, 131, 132, 133, 134, 135] rfl (by decide +kernel)
set_option maxRecDepth 20000 in
theorem gX8_beside_X8_plainly : GoodIn wsX8_beside (wsV RX8 265 RX8 yX8_plainly wsX8_plainly) := goodIn_app (goodIn_of _ (by decide +kernel)) ggX8_beside_X8_plainly
set_option maxRecDepth 20000 in
theorem ggX8_beside_X8_byWords : GoodIn wsX8_beside wsX8_byWords := goodIn_r _ [55, 4, 23, 1, 2, 3, 56, 25, 24, 57, 26, 58, 59, 60, 9, 61, 62, 63, 64, 65, 66, 67, 68, 69, 70, 71, 72, 73, 42, 74, 75, 76, 77, 78, 79, 80, 31, 32, 81, 82, 83, 84, 85, 86, 87, 88, 89, 90, 91, 16, 17, 18, 27, 28, 29, 30, 33, 34, 35, 36, 37, 38, 39, 40, 41, 43, 44, 45, 46, 47, 48, 49, 50, 51, 92, 93, 94, 95, 96, 97, 98, 99, 100, 101, 102, 103, 104, 105, 106, 107, 108, 109, 110, 111, 112, 113, 114, 115, 116, 117, 118, 119, 120, 121, 122, 123, 124, 125, 126, 127, 128, 129, 130, 131, 132, 133, 134, 135] rfl (by decide +kernel)
set_option maxRecDepth 20000 in
theorem gX8_beside_X8_byWords : GoodIn wsX8_beside (wsV RX8 262 RX8 yX8_byWords wsX8_byWords) := goodIn_app (goodIn_of _ (by decide +kernel)) ggX8_beside_X8_byWords
theorem dX8_beside_0 : decode cX8_beside 0 = .ok (.iload_n 1, 1) := by decide +kernel
theorem dX8_beside_1 : decode cX8_beside 1 = .ok (.invokestatic 157, 3) := by decide +kernel
theorem dX8_beside_4 : decode cX8_beside 4 = .ok (.ifCond .ne 10, 3) := by decide +kernel
theorem dX8_beside_7 : decode cX8_beside 7 = .ok (.aload_n 0, 1) := by decide +kernel
theorem dX8_beside_8 : decode cX8_beside 8 = .ok (.bipush (-3), 2) := by decide +kernel
theorem dX8_beside_10 : decode cX8_beside 10 = .ok (.invokevirtual 122, 3) := by decide +kernel
theorem dX8_beside_13 : decode cX8_beside 13 = .ok (.ireturn, 1) := by decide +kernel
theorem dX8_beside_14 : decode cX8_beside 14 = .ok (.aload_n 0, 1) := by decide +kernel
theorem dX8_beside_15 : decode cX8_beside 15 = .ok (.getfield 250, 3) := by decide +kernel
theorem dX8_beside_18 : decode cX8_beside 18 = .ok (.istore_n 2, 1) := by decide +kernel
theorem dX8_beside_19 : decode cX8_beside 19 = .ok (.aload_n 0, 1) := by decide +kernel
theorem dX8_beside_20 : decode cX8_beside 20 = .ok (.getfield 253, 3) := by decide +kernel
theorem dX8_beside_23 : decode cX8_beside 23 = .ok (.istore_n 3, 1) := by decide +kernel
theorem dX8_beside_24 : decode cX8_beside 24 = .ok (.aload_n 0, 1) := by decide +kernel
theorem dX8_beside_25 : decode cX8_beside 25 = .ok (.getfield 100, 3) := by decide +kernel
theorem dX8_beside_28 : decode cX8_beside 28 = .ok (.istore 4, 2) := by decide +kernel
theorem dX8_beside_30 : decode cX8_beside 30 = .ok (.aload_n 0, 1) := by decide +kernel
theorem dX8_beside_31 : decode cX8_beside 31 = .ok (.getfield 7, 3) := by decide +kernel
theorem dX8_beside_34 : decode cX8_beside 34 = .ok (.aload_n 0, 1) := by decide +kernel
theorem dX8_beside_35 : decode cX8_beside 35 = .ok (.getfield 103, 3) := by decide +kernel
theorem dX8_beside_38 : decode cX8_beside 38 = .ok (.invokestatic 246, 3) := by decide +kernel
theorem dX8_beside_41 : decode cX8_beside 41 = .ok (.aload_n 0, 1) := by decide +kernel
theorem dX8_beside_42 : decode cX8_beside 42 = .ok (.iload_n 1, 1) := by decide +kernel
theorem dX8_beside_43 : decode cX8_beside 43 = .ok (.invokevirtual 265, 3) := by decide +kernel
theorem dX8_beside_46 : decode cX8_beside 46 = .ok (.istore 5, 2) := by decide +kernel
theorem dX8_beside_48 : decode cX8_beside 48 = .ok (.aload_n 0, 1) := by decide +kernel
theorem dX8_beside_49 : decode cX8_beside 49 = .ok (.getfield 7, 3) := by decide +kernel
theorem dX8_beside_52 : decode cX8_beside 52 = .ok (.aload_n 0, 1) := by decide +kernel
theorem dX8_beside_53 : decode cX8_beside 53 = .ok (.getfield 22, 3) := by decide +kernel
theorem dX8_beside_56 : decode cX8_beside 56 = .ok (.invokestatic 246, 3) := by decide +kernel
theorem dX8_beside_59 : decode cX8_beside 59 = .ok (.aload_n 0, 1) := by decide +kernel
theorem dX8_beside_60 : decode cX8_beside 60 = .ok (.getfield 103, 3) := by decide +kernel
theorem dX8_beside_63 : decode cX8_beside 63 = .ok (.aload_n 0, 1) := by decide +kernel
theorem dX8_beside_64 : decode cX8_beside 64 = .ok (.getfield 7, 3) := by decide +kernel
theorem dX8_beside_67 : decode cX8_beside 67 = .ok (.invokestatic 246, 3) := by decide +kernel
theorem dX8_beside_70 : decode cX8_beside 70 = .ok (.aload_n 0, 1) := by decide +kernel
theorem dX8_beside_71 : decode cX8_beside 71 = .ok (.iload_n 1, 1) := by decide +kernel
theorem dX8_beside_72 : decode cX8_beside 72 = .ok (.invokevirtual 262, 3) := by decide +kernel
theorem dX8_beside_75 : decode cX8_beside 75 = .ok (.iload 5, 2) := by decide +kernel
theorem dX8_beside_77 : decode cX8_beside 77 = .ok (.if_icmp .ne 7, 3) := by decide +kernel
theorem dX8_beside_80 : decode cX8_beside 80 = .ok (.iconst 1, 1) := by decide +kernel
theorem dX8_beside_81 : decode cX8_beside 81 = .ok (.goto 4, 3) := by decide +kernel
theorem dX8_beside_85 : decode cX8_beside 85 = .ok (.istore 6, 2) := by decide +kernel
theorem dX8_beside_87 : decode cX8_beside 87 = .ok (.iconst 0, 1) := by decide +kernel
theorem dX8_beside_88 : decode cX8_beside 88 = .ok (.istore 7, 2) := by decide +kernel
theorem dX8_beside_90 : decode cX8_beside 90 = .ok (.iload 7, 2) := by decide +kernel
theorem dX8_beside_92 : decode cX8_beside 92 = .ok (.bipush 74, 2) := by decide +kernel
theorem dX8_beside_94 : decode cX8_beside 94 = .ok (.if_icmp .ge 39, 3) := by decide +kernel
theorem dX8_beside_97 : decode cX8_beside 97 = .ok (.iload 6, 2) := by decide +kernel
theorem dX8_beside_99 : decode cX8_beside 99 = .ok (.ifCond .eq 25, 3) := by decide +kernel
theorem dX8_beside_102 : decode cX8_beside 102 = .ok (.aload_n 0, 1) := by decide +kernel
theorem dX8_beside_103 : decode cX8_beside 103 = .ok (.getfield 7, 3) := by decide +kernel
theorem dX8_beside_106 : decode cX8_beside 106 = .ok (.iload 7, 2) := by decide +kernel
theorem dX8_beside_108 : decode cX8_beside 108 = .ok (.laload, 1) := by decide +kernel
theorem dX8_beside_109 : decode cX8_beside 109 = .ok (.aload_n 0, 1) := by decide +kernel
theorem dX8_beside_110 : decode cX8_beside 110 = .ok (.getfield 22, 3) := by decide +kernel
theorem dX8_beside_113 : decode cX8_beside 113 = .ok (.iload 7, 2) := by decide +kernel
theorem dX8_beside_115 : decode cX8_beside 115 = .ok (.laload, 1) := by decide +kernel
theorem dX8_beside_116 : decode cX8_beside 116 = .ok (.lcmp, 1) := by decide +kernel
theorem dX8_beside_117 : decode cX8_beside 117 = .ok (.ifCond .ne 7, 3) := by decide +kernel
theorem dX8_beside_120 : decode cX8_beside 120 = .ok (.iconst 1, 1) := by decide +kernel
theorem dX8_beside_121 : decode cX8_beside 121 = .ok (.goto 4, 3) := by decide +kernel
theorem dX8_beside_125 : decode cX8_beside 125 = .ok (.istore 6, 2) := by decide +kernel
theorem dX8_beside_127 : decode cX8_beside 127 = .ok (.iinc 7 1, 3) := by decide +kernel
theorem dX8_beside_130 : decode cX8_beside 130 = .ok (.goto (-40), 3) := by decide +kernel
theorem dX8_beside_133 : decode cX8_beside 133 = .ok (.aload_n 0, 1) := by decide +kernel
theorem dX8_beside_134 : decode cX8_beside 134 = .ok (.getfield 103, 3) := by decide +kernel
theorem dX8_beside_137 : decode cX8_beside 137 = .ok (.aload_n 0, 1) := by decide +kernel
theorem dX8_beside_138 : decode cX8_beside 138 = .ok (.getfield 7, 3) := by decide +kernel
theorem dX8_beside_141 : decode cX8_beside 141 = .ok (.invokestatic 246, 3) := by decide +kernel
theorem dX8_beside_144 : decode cX8_beside 144 = .ok (.aload_n 0, 1) := by decide +kernel
theorem dX8_beside_145 : decode cX8_beside 145 = .ok (.iload_n 2, 1) := by decide +kernel
theorem dX8_beside_146 : decode cX8_beside 146 = .ok (.putfield 250, 3) := by decide +kernel
theorem dX8_beside_149 : decode cX8_beside 149 = .ok (.aload_n 0, 1) := by decide +kernel
theorem dX8_beside_150 : decode cX8_beside 150 = .ok (.iload_n 3, 1) := by decide +kernel
theorem dX8_beside_151 : decode cX8_beside 151 = .ok (.putfield 253, 3) := by decide +kernel
theorem dX8_beside_154 : decode cX8_beside 154 = .ok (.aload_n 0, 1) := by decide +kernel
theorem dX8_beside_155 : decode cX8_beside 155 = .ok (.iload 4, 2) := by decide +kernel
theorem dX8_beside_157 : decode cX8_beside 157 = .ok (.putfield 100, 3) := by decide +kernel
theorem dX8_beside_160 : decode cX8_beside 160 = .ok (.iload 6, 2) := by decide +kernel
theorem dX8_beside_162 : decode cX8_beside 162 = .ok (.ifCond .eq 7, 3) := by decide +kernel
theorem dX8_beside_165 : decode cX8_beside 165 = .ok (.iconst 0, 1) := by decide +kernel
theorem dX8_beside_166 : decode cX8_beside 166 = .ok (.goto 4, 3) := by decide +kernel
theorem dX8_beside_170 : decode cX8_beside 170 = .ok (.ireturn, 1) := by decide +kernel
set_option maxRecDepth 20000 in
theorem ggX8_code_X8_isIn : GoodIn wsX8_code wsX8_isIn := goodIn_r _ [6] rfl (by decide +kernel)
set_option maxRecDepth 20000 in
theorem gX8_code_X8_isIn : GoodIn wsX8_code (va_wsS RX8 128 yX8_isIn wsX8_isIn) := goodIn_app (goodIn_of _ (by decide +kernel)) ggX8_code_X8_isIn
set_option maxRecDepth 20000 in
theorem ggX8_code_X8_isInstruction : GoodIn wsX8_code wsX8_isInstruction := goodIn_r _ [9] rfl (by decide +kernel)
set_option maxRecDepth 20000 in
theorem gX8_code_X8_isInstruction : GoodIn wsX8_code (va_wsS RX8 157 yX8_isInstruction wsX8_isInstruction) := goodIn_app (goodIn_of _ (by decide +kernel)) ggX8_code_X8_isInstruction
set_option maxRecDepth 20000 in
theorem ggX8_code_X8_no : GoodIn wsX8_code wsX8_no := goodIn_r _ [13, 14, 15, 16, 17, 18, 19, 20, 21, 22, 23, 24, 25, 26, 27, 28, 29, 30, 31, 32, 33, 34, 35, 36, 37, 38, 39, 40, 41, 42, 43, 44, 45, 46, 47, 48, 49, 50, 51, 52, 53, 54, 55, 56, 57, 58] rfl (by decide +kernel)
set_option maxRecDepth 20000 in
theorem gX8_code_X8_no : GoodIn wsX8_code (wsV RX8 122 RX8 yX8_no wsX8_no) := goodIn_app (goodIn_of _ (by decide +kernel)) ggX8_code_X8_no
theorem dX8_code_0 : decode cX8_code 0 = .ok (.iload_n 1, 1) := by decide +kernel
theorem dX8_code_1 : decode cX8_code 1 = .ok (.i2l, 1) := by decide +kernel
theorem dX8_code_2 : decode cX8_code 2 = .ok (.lconst 0, 1) := by decide +kernel
theorem dX8_code_3 : decode cX8_code 3 = .ok (.ldc2_w 268, 3) := by decide +kernel
theorem dX8_code_6 : decode cX8_code 6 = .ok (.invokestatic 128, 3) := by decide +kernel
theorem dX8_code_9 : decode cX8_code 9 = .ok (.ifCond .eq 15, 3) := by decide +kernel
theorem dX8_code_12 : decode cX8_code 12 = .ok (.iload_n 2, 1) := by decide +kernel
theorem dX8_code_13 : decode cX8_code 13 = .ok (.iconst (-1), 1) := by decide +kernel
theorem dX8_code_14 : decode cX8_code 14 = .ok (.if_icmp .eq 17, 3) := by decide +kernel
theorem dX8_code_17 : decode cX8_code 17 = .ok (.iload_n 2, 1) := by decide +kernel
theorem dX8_code_18 : decode cX8_code 18 = .ok (.invokestatic 157, 3) := by decide +kernel
theorem dX8_code_21 : decode cX8_code 21 = .ok (.ifCond .ne 10, 3) := by decide +kernel
theorem dX8_code_24 : decode cX8_code 24 = .ok (.aload_n 0, 1) := by decide +kernel
theorem dX8_code_25 : decode cX8_code 25 = .ok (.bipush (-3), 2) := by decide +kernel
theorem dX8_code_27 : decode cX8_code 27 = .ok (.invokevirtual 122, 3) := by decide +kernel
theorem dX8_code_30 : decode cX8_code 30 = .ok (.ireturn, 1) := by decide +kernel
theorem dX8_code_31 : decode cX8_code 31 = .ok (.aload_n 0, 1) := by decide +kernel
theorem dX8_code_32 : decode cX8_code 32 = .ok (.getfield 106, 3) := by decide +kernel
theorem dX8_code_35 : decode cX8_code 35 = .ok (.iload_n 1, 1) := by decide +kernel
theorem dX8_code_36 : decode cX8_code 36 = .ok (.iaload, 1) := by decide +kernel
theorem dX8_code_37 : decode cX8_code 37 = .ok (.istore_n 3, 1) := by decide +kernel
theorem dX8_code_38 : decode cX8_code 38 = .ok (.aload_n 0, 1) := by decide +kernel
theorem dX8_code_39 : decode cX8_code 39 = .ok (.getfield 106, 3) := by decide +kernel
theorem dX8_code_42 : decode cX8_code 42 = .ok (.iload_n 1, 1) := by decide +kernel
theorem dX8_code_43 : decode cX8_code 43 = .ok (.iload_n 2, 1) := by decide +kernel
theorem dX8_code_44 : decode cX8_code 44 = .ok (.iastore, 1) := by decide +kernel
theorem dX8_code_45 : decode cX8_code 45 = .ok (.iload_n 3, 1) := by decide +kernel
theorem dX8_code_46 : decode cX8_code 46 = .ok (.ireturn, 1) := by decide +kernel
set_option maxRecDepth 20000 in
theorem ggX8_step_X8_no : GoodIn wsX8_step wsX8_no := goodIn_r _ [13, 14, 92, 93, 94, 95, 96, 97, 98, 99, 100, 101, 102, 103, 104, 105, 106, 107, 108, 109, 110, 111, 112, 113, 114, 115, 116, 117, 118, 119, 120, 121, 122, 123, 124, 125, 126, 127, 128, 129, 130, 131, 132, 133, 134, 135] rfl (by decide +kernel)
set_option maxRecDepth 20000 in
theorem gX8_step_X8_no : GoodIn wsX8_step (wsV RX8 122 RX8 yX8_no wsX8_no) := goodIn_app (goodIn_of _ (by decide +kernel)) ggX8_step_X8_no
set_option maxRecDepth 20000 in
theorem ggX8_step_X8_isIn : GoodIn wsX8_step wsX8_isIn := goodIn_r _ [17] rfl (by decide +kernel)
set_option maxRecDepth 20000 in
theorem gX8_step_X8_isIn : GoodIn wsX8_step (va_wsS RX8 128 yX8_isIn wsX8_isIn) := goodIn_app (goodIn_of _ (by decide +kernel)) ggX8_step_X8_isIn
theorem dX8_step_0 : decode cX8_step 0 = .ok (.iload_n 1, 1) := by decide +kernel
theorem dX8_step_1 : decode cX8_step 1 = .ok (.ifCond .ge 10, 3) := by decide +kernel
theorem dX8_step_4 : decode cX8_step 4 = .ok (.aload_n 0, 1) := by decide +kernel
theorem dX8_step_5 : decode cX8_step 5 = .ok (.bipush (-4), 2) := by decide +kernel
theorem dX8_step_7 : decode cX8_step 7 = .ok (.invokevirtual 122, 3) := by decide +kernel
theorem dX8_step_10 : decode cX8_step 10 = .ok (.ireturn, 1) := by decide +kernel
theorem dX8_step_11 : decode cX8_step 11 = .ok (.iload_n 1, 1) := by decide +kernel
theorem dX8_step_12 : decode cX8_step 12 = .ok (.i2l, 1) := by decide +kernel
theorem dX8_step_13 : decode cX8_step 13 = .ok (.lconst 1, 1) := by decide +kernel
theorem dX8_step_14 : decode cX8_step 14 = .ok (.ldc2_w 270, 3) := by decide +kernel
theorem dX8_step_17 : decode cX8_step 17 = .ok (.invokestatic 128, 3) := by decide +kernel
theorem dX8_step_20 : decode cX8_step 20 = .ok (.ifCond .ne 10, 3) := by decide +kernel
theorem dX8_step_23 : decode cX8_step 23 = .ok (.aload_n 0, 1) := by decide +kernel
theorem dX8_step_24 : decode cX8_step 24 = .ok (.bipush (-6), 2) := by decide +kernel
theorem dX8_step_26 : decode cX8_step 26 = .ok (.invokevirtual 122, 3) := by decide +kernel
theorem dX8_step_29 : decode cX8_step 29 = .ok (.ireturn, 1) := by decide +kernel
theorem dX8_step_30 : decode cX8_step 30 = .ok (.aload_n 0, 1) := by decide +kernel
theorem dX8_step_31 : decode cX8_step 31 = .ok (.iconst 0, 1) := by decide +kernel
theorem dX8_step_32 : decode cX8_step 32 = .ok (.putfield 272, 3) := by decide +kernel
theorem dX8_step_35 : decode cX8_step 35 = .ok (.iconst 0, 1) := by decide +kernel
theorem dX8_step_36 : decode cX8_step 36 = .ok (.istore_n 2, 1) := by decide +kernel
theorem dX8_step_37 : decode cX8_step 37 = .ok (.iload_n 2, 1) := by decide +kernel
theorem dX8_step_38 : decode cX8_step 38 = .ok (.iload_n 1, 1) := by decide +kernel
theorem dX8_step_39 : decode cX8_step 39 = .ok (.if_icmp .ge 129, 3) := by decide +kernel
theorem dX8_step_42 : decode cX8_step 42 = .ok (.aload_n 0, 1) := by decide +kernel
theorem dX8_step_43 : decode cX8_step 43 = .ok (.getfield 272, 3) := by decide +kernel
theorem dX8_step_46 : decode cX8_step 46 = .ok (.ifCond .ne 122, 3) := by decide +kernel
theorem dX8_step_49 : decode cX8_step 49 = .ok (.aload_n 0, 1) := by decide +kernel
theorem dX8_step_50 : decode cX8_step 50 = .ok (.getfield 7, 3) := by decide +kernel
theorem dX8_step_53 : decode cX8_step 53 = .ok (.bipush 7, 2) := by decide +kernel
theorem dX8_step_55 : decode cX8_step 55 = .ok (.laload, 1) := by decide +kernel
theorem dX8_step_56 : decode cX8_step 56 = .ok (.lstore_n 3, 1) := by decide +kernel
theorem dX8_step_57 : decode cX8_step 57 = .ok (.lload_n 3, 1) := by decide +kernel
theorem dX8_step_58 : decode cX8_step 58 = .ok (.ldc2_w 237, 3) := by decide +kernel
theorem dX8_step_61 : decode cX8_step 61 = .ok (.lcmp, 1) := by decide +kernel
theorem dX8_step_62 : decode cX8_step 62 = .ok (.ifCond .le 7, 3) := by decide +kernel
theorem dX8_step_69 : decode cX8_step 69 = .ok (.aload_n 0, 1) := by decide +kernel
theorem dX8_step_70 : decode cX8_step 70 = .ok (.getfield 106, 3) := by decide +kernel
theorem dX8_step_73 : decode cX8_step 73 = .ok (.aload_n 0, 1) := by decide +kernel
theorem dX8_step_74 : decode cX8_step 74 = .ok (.getfield 7, 3) := by decide +kernel
theorem dX8_step_77 : decode cX8_step 77 = .ok (.bipush 10, 2) := by decide +kernel
theorem dX8_step_79 : decode cX8_step 79 = .ok (.lload_n 3, 1) := by decide +kernel
theorem dX8_step_80 : decode cX8_step 80 = .ok (.l2i, 1) := by decide +kernel
theorem dX8_step_81 : decode cX8_step 81 = .ok (.iadd, 1) := by decide +kernel
theorem dX8_step_82 : decode cX8_step 82 = .ok (.laload, 1) := by decide +kernel
theorem dX8_step_83 : decode cX8_step 83 = .ok (.ldc2_w 275, 3) := by decide +kernel
theorem dX8_step_86 : decode cX8_step 86 = .ok (.lrem, 1) := by decide +kernel
theorem dX8_step_87 : decode cX8_step 87 = .ok (.l2i, 1) := by decide +kernel
theorem dX8_step_88 : decode cX8_step 88 = .ok (.iaload, 1) := by decide +kernel
theorem dX8_step_89 : decode cX8_step 89 = .ok (.istore 5, 2) := by decide +kernel
theorem dX8_step_91 : decode cX8_step 91 = .ok (.iload 5, 2) := by decide +kernel
theorem dX8_step_93 : decode cX8_step 93 = .ok (.ifCond .ge 23, 3) := by decide +kernel
theorem dX8_step_96 : decode cX8_step 96 = .ok (.aload_n 0, 1) := by decide +kernel
theorem dX8_step_97 : decode cX8_step 97 = .ok (.lload_n 3, 1) := by decide +kernel
theorem dX8_step_98 : decode cX8_step 98 = .ok (.ldc2_w 237, 3) := by decide +kernel
theorem dX8_step_101 : decode cX8_step 101 = .ok (.lcmp, 1) := by decide +kernel
theorem dX8_step_102 : decode cX8_step 102 = .ok (.ifCond .le 7, 3) := by decide +kernel
theorem dX8_step_109 : decode cX8_step 109 = .ok (.iconst 2, 1) := by decide +kernel
theorem dX8_step_110 : decode cX8_step 110 = .ok (.putfield 272, 3) := by decide +kernel
theorem dX8_step_113 : decode cX8_step 113 = .ok (.goto 52, 3) := by decide +kernel
theorem dX8_step_165 : decode cX8_step 165 = .ok (.goto (-128), 3) := by decide +kernel
theorem dX8_step_168 : decode cX8_step 168 = .ok (.iload_n 2, 1) := by decide +kernel
theorem dX8_step_169 : decode cX8_step 169 = .ok (.ireturn, 1) := by decide +kernel
set_option maxRecDepth 20000 in
theorem ggX8_count_X8_no : GoodIn wsX8_count wsX8_no := goodIn_r _ [8, 9, 10, 11, 12, 13, 14, 15, 16, 17, 18, 19, 20, 21, 22, 23, 24, 25, 26, 27, 28, 29, 30, 31, 32, 33, 34, 35, 36, 37, 38, 39, 40, 41, 42, 43, 44, 45, 46, 47, 48, 49, 50, 51, 52, 53] rfl (by decide +kernel)
set_option maxRecDepth 20000 in
theorem gX8_count_X8_no : GoodIn wsX8_count (wsV RX8 122 RX8 yX8_no wsX8_no) := goodIn_app (goodIn_of _ (by decide +kernel)) ggX8_count_X8_no
theorem dX8_count_0 : decode cX8_count 0 = .ok (.iload_n 1, 1) := by decide +kernel
theorem dX8_count_1 : decode cX8_count 1 = .ok (.tableswitch 42 0 2 #[27, 32, 37], 27) := by decide +kernel
theorem dX8_count_28 : decode cX8_count 28 = .ok (.aload_n 0, 1) := by decide +kernel
theorem dX8_count_29 : decode cX8_count 29 = .ok (.getfield 280, 3) := by decide +kernel
theorem dX8_count_32 : decode cX8_count 32 = .ok (.ireturn, 1) := by decide +kernel
theorem dX8_count_33 : decode cX8_count 33 = .ok (.aload_n 0, 1) := by decide +kernel
theorem dX8_count_34 : decode cX8_count 34 = .ok (.getfield 277, 3) := by decide +kernel
theorem dX8_count_37 : decode cX8_count 37 = .ok (.ireturn, 1) := by decide +kernel
theorem dX8_count_38 : decode cX8_count 38 = .ok (.aload_n 0, 1) := by decide +kernel
theorem dX8_count_39 : decode cX8_count 39 = .ok (.getfield 272, 3) := by decide +kernel
theorem dX8_count_42 : decode cX8_count 42 = .ok (.ireturn, 1) := by decide +kernel
theorem dX8_count_43 : decode cX8_count 43 = .ok (.aload_n 0, 1) := by decide +kernel
theorem dX8_count_44 : decode cX8_count 44 = .ok (.bipush (-6), 2) := by decide +kernel
theorem dX8_count_46 : decode cX8_count 46 = .ok (.invokevirtual 122, 3) := by decide +kernel
theorem dX8_count_49 : decode cX8_count 49 = .ok (.ireturn, 1) := by decide +kernel
set_option maxRecDepth 20000 in
theorem ggX8_image_X8_copies : GoodIn wsX8_image wsX8_copies := goodIn_r _ [7] rfl (by decide +kernel)
set_option maxRecDepth 20000 in
theorem gX8_image_X8_copies : GoodIn wsX8_image (va_wsS RX8 246 yX8_copies wsX8_copies) := goodIn_app (goodIn_of _ (by decide +kernel)) ggX8_image_X8_copies
theorem dX8_image_0 : decode cX8_image 0 = .ok (.aload_n 0, 1) := by decide +kernel
theorem dX8_image_1 : decode cX8_image 1 = .ok (.getfield 7, 3) := by decide +kernel
theorem dX8_image_4 : decode cX8_image 4 = .ok (.aload_n 0, 1) := by decide +kernel
theorem dX8_image_5 : decode cX8_image 5 = .ok (.getfield 13, 3) := by decide +kernel
theorem dX8_image_8 : decode cX8_image 8 = .ok (.invokestatic 246, 3) := by decide +kernel
theorem dX8_image_11 : decode cX8_image 11 = .ok (.aload_n 0, 1) := by decide +kernel
theorem dX8_image_12 : decode cX8_image 12 = .ok (.iconst 1, 1) := by decide +kernel
theorem dX8_image_13 : decode cX8_image 13 = .ok (.putfield 283, 3) := by decide +kernel
theorem dX8_image_16 : decode cX8_image 16 = .ok (.iconst 0, 1) := by decide +kernel
theorem dX8_image_17 : decode cX8_image 17 = .ok (.istore_n 1, 1) := by decide +kernel
theorem dX8_image_18 : decode cX8_image 18 = .ok (.iconst 0, 1) := by decide +kernel
theorem dX8_image_19 : decode cX8_image 19 = .ok (.istore_n 2, 1) := by decide +kernel
theorem dX8_image_20 : decode cX8_image 20 = .ok (.iload_n 2, 1) := by decide +kernel
theorem dX8_image_21 : decode cX8_image 21 = .ok (.bipush 74, 2) := by decide +kernel
theorem dX8_image_23 : decode cX8_image 23 = .ok (.if_icmp .ge 28, 3) := by decide +kernel
theorem dX8_image_26 : decode cX8_image 26 = .ok (.iload_n 1, 1) := by decide +kernel
theorem dX8_image_27 : decode cX8_image 27 = .ok (.aload_n 0, 1) := by decide +kernel
theorem dX8_image_28 : decode cX8_image 28 = .ok (.getfield 7, 3) := by decide +kernel
theorem dX8_image_31 : decode cX8_image 31 = .ok (.iload_n 2, 1) := by decide +kernel
theorem dX8_image_32 : decode cX8_image 32 = .ok (.laload, 1) := by decide +kernel
theorem dX8_image_33 : decode cX8_image 33 = .ok (.lconst 0, 1) := by decide +kernel
theorem dX8_image_34 : decode cX8_image 34 = .ok (.lcmp, 1) := by decide +kernel
theorem dX8_image_35 : decode cX8_image 35 = .ok (.ifCond .eq 7, 3) := by decide +kernel
theorem dX8_image_42 : decode cX8_image 42 = .ok (.iconst 0, 1) := by decide +kernel
theorem dX8_image_43 : decode cX8_image 43 = .ok (.iadd, 1) := by decide +kernel
theorem dX8_image_44 : decode cX8_image 44 = .ok (.istore_n 1, 1) := by decide +kernel
theorem dX8_image_45 : decode cX8_image 45 = .ok (.iinc 2 1, 3) := by decide +kernel
theorem dX8_image_48 : decode cX8_image 48 = .ok (.goto (-28), 3) := by decide +kernel
theorem dX8_image_51 : decode cX8_image 51 = .ok (.iload_n 1, 1) := by decide +kernel
theorem dX8_image_52 : decode cX8_image 52 = .ok (.ireturn, 1) := by decide +kernel
set_option maxRecDepth 20000 in
theorem ggX8_restore_X8_no : GoodIn wsX8_restore wsX8_no := goodIn_r _ [8, 9, 15, 16, 17, 18, 19, 20, 21, 22, 23, 24, 25, 26, 27, 28, 29, 30, 31, 32, 33, 34, 35, 36, 37, 38, 39, 40, 41, 42, 43, 44, 45, 46, 47, 48, 49, 50, 51, 52, 53, 54, 55, 56, 57, 58] rfl (by decide +kernel)
set_option maxRecDepth 20000 in
theorem gX8_restore_X8_no : GoodIn wsX8_restore (wsV RX8 122 RX8 yX8_no wsX8_no) := goodIn_app (goodIn_of _ (by decide +kernel)) ggX8_restore_X8_no
theorem dX8_restore_0 : decode cX8_restore 0 = .ok (.aload_n 0, 1) := by decide +kernel
theorem dX8_restore_1 : decode cX8_restore 1 = .ok (.getfield 283, 3) := by decide +kernel
theorem dX8_restore_4 : decode cX8_restore 4 = .ok (.ifCond .ne 10, 3) := by decide +kernel
theorem dX8_restore_7 : decode cX8_restore 7 = .ok (.aload_n 0, 1) := by decide +kernel
theorem dX8_restore_8 : decode cX8_restore 8 = .ok (.bipush (-2), 2) := by decide +kernel
theorem dX8_restore_10 : decode cX8_restore 10 = .ok (.invokevirtual 122, 3) := by decide +kernel
theorem dX8_restore_13 : decode cX8_restore 13 = .ok (.ireturn, 1) := by decide +kernel
set_option maxRecDepth 20000 in
theorem ggX8_lay_X8_no : GoodIn wsX8_lay wsX8_no := goodIn_r _ [11, 12, 13, 14, 15, 16, 17, 18, 19, 20, 21, 22, 23, 24, 25, 26, 27, 28, 29, 30, 31, 32, 33, 34, 35, 36, 37, 38, 39, 40, 41, 42, 43, 44, 45, 46, 47, 48, 49, 50, 51, 52, 53, 54, 55, 56] rfl (by decide +kernel)
set_option maxRecDepth 20000 in
theorem gX8_lay_X8_no : GoodIn wsX8_lay (wsV RX8 122 RX8 yX8_no wsX8_no) := goodIn_app (goodIn_of _ (by decide +kernel)) ggX8_lay_X8_no
theorem dX8_lay_0 : decode cX8_lay 0 = .ok (.iload_n 2, 1) := by decide +kernel
theorem dX8_lay_1 : decode cX8_lay 1 = .ok (.ifCond .ge 10, 3) := by decide +kernel
theorem dX8_lay_4 : decode cX8_lay 4 = .ok (.aload_n 0, 1) := by decide +kernel
theorem dX8_lay_5 : decode cX8_lay 5 = .ok (.bipush (-4), 2) := by decide +kernel
theorem dX8_lay_7 : decode cX8_lay 7 = .ok (.invokevirtual 122, 3) := by decide +kernel
theorem dX8_lay_10 : decode cX8_lay 10 = .ok (.ireturn, 1) := by decide +kernel
theorem dX8_lay_11 : decode cX8_lay 11 = .ok (.iload_n 1, 1) := by decide +kernel
theorem dX8_lay_12 : decode cX8_lay 12 = .ok (.ifCond .lt 15, 3) := by decide +kernel
theorem dX8_lay_15 : decode cX8_lay 15 = .ok (.iload_n 1, 1) := by decide +kernel
theorem dX8_lay_16 : decode cX8_lay 16 = .ok (.i2l, 1) := by decide +kernel
theorem dX8_lay_17 : decode cX8_lay 17 = .ok (.iload_n 2, 1) := by decide +kernel
theorem dX8_lay_18 : decode cX8_lay 18 = .ok (.i2l, 1) := by decide +kernel
theorem dX8_lay_19 : decode cX8_lay 19 = .ok (.ladd, 1) := by decide +kernel
theorem dX8_lay_20 : decode cX8_lay 20 = .ok (.ldc2_w 286, 3) := by decide +kernel
theorem dX8_lay_23 : decode cX8_lay 23 = .ok (.lcmp, 1) := by decide +kernel
theorem dX8_lay_24 : decode cX8_lay 24 = .ok (.ifCond .le 10, 3) := by decide +kernel
theorem dX8_lay_27 : decode cX8_lay 27 = .ok (.aload_n 0, 1) := by decide +kernel
theorem dX8_lay_28 : decode cX8_lay 28 = .ok (.bipush (-3), 2) := by decide +kernel
theorem dX8_lay_30 : decode cX8_lay 30 = .ok (.invokevirtual 122, 3) := by decide +kernel
theorem dX8_lay_33 : decode cX8_lay 33 = .ok (.ireturn, 1) := by decide +kernel
theorem dX8_lay_34 : decode cX8_lay 34 = .ok (.aload_n 0, 1) := by decide +kernel
theorem dX8_lay_35 : decode cX8_lay 35 = .ok (.iload_n 2, 1) := by decide +kernel
theorem dX8_lay_36 : decode cX8_lay 36 = .ok (.putfield 115, 3) := by decide +kernel
theorem dX8_lay_39 : decode cX8_lay 39 = .ok (.iconst 0, 1) := by decide +kernel
theorem dX8_lay_40 : decode cX8_lay 40 = .ok (.istore_n 3, 1) := by decide +kernel
theorem dX8_lay_41 : decode cX8_lay 41 = .ok (.iload_n 3, 1) := by decide +kernel
theorem dX8_lay_42 : decode cX8_lay 42 = .ok (.iload_n 2, 1) := by decide +kernel
theorem dX8_lay_43 : decode cX8_lay 43 = .ok (.if_icmp .ge 52, 3) := by decide +kernel
theorem dX8_lay_46 : decode cX8_lay 46 = .ok (.aload_n 0, 1) := by decide +kernel
theorem dX8_lay_47 : decode cX8_lay 47 = .ok (.getfield 7, 3) := by decide +kernel
theorem dX8_lay_50 : decode cX8_lay 50 = .ok (.bipush 10, 2) := by decide +kernel
theorem dX8_lay_52 : decode cX8_lay 52 = .ok (.iload_n 1, 1) := by decide +kernel
theorem dX8_lay_53 : decode cX8_lay 53 = .ok (.iadd, 1) := by decide +kernel
theorem dX8_lay_54 : decode cX8_lay 54 = .ok (.iload_n 3, 1) := by decide +kernel
theorem dX8_lay_55 : decode cX8_lay 55 = .ok (.iadd, 1) := by decide +kernel
theorem dX8_lay_56 : decode cX8_lay 56 = .ok (.laload, 1) := by decide +kernel
theorem dX8_lay_57 : decode cX8_lay 57 = .ok (.ldc2_w 288, 3) := by decide +kernel
theorem dX8_lay_60 : decode cX8_lay 60 = .ok (.land, 1) := by decide +kernel
theorem dX8_lay_61 : decode cX8_lay 61 = .ok (.l2i, 1) := by decide +kernel
theorem dX8_lay_62 : decode cX8_lay 62 = .ok (.istore 4, 2) := by decide +kernel
theorem dX8_lay_64 : decode cX8_lay 64 = .ok (.aload_n 0, 1) := by decide +kernel
theorem dX8_lay_65 : decode cX8_lay 65 = .ok (.getfield 109, 3) := by decide +kernel
theorem dX8_lay_68 : decode cX8_lay 68 = .ok (.iload_n 3, 1) := by decide +kernel
theorem dX8_lay_69 : decode cX8_lay 69 = .ok (.iload 4, 2) := by decide +kernel
theorem dX8_lay_71 : decode cX8_lay 71 = .ok (.sipush 32767, 3) := by decide +kernel
theorem dX8_lay_74 : decode cX8_lay 74 = .ok (.if_icmp .le 12, 3) := by decide +kernel
theorem dX8_lay_86 : decode cX8_lay 86 = .ok (.iload 4, 2) := by decide +kernel
theorem dX8_lay_88 : decode cX8_lay 88 = .ok (.iastore, 1) := by decide +kernel
theorem dX8_lay_89 : decode cX8_lay 89 = .ok (.iinc 3 1, 3) := by decide +kernel
theorem dX8_lay_92 : decode cX8_lay 92 = .ok (.goto (-51), 3) := by decide +kernel
theorem dX8_lay_95 : decode cX8_lay 95 = .ok (.iload_n 2, 1) := by decide +kernel
theorem dX8_lay_96 : decode cX8_lay 96 = .ok (.ireturn, 1) := by decide +kernel
theorem dX8_tear_0 : decode cX8_tear 0 = .ok (.aload_n 0, 1) := by decide +kernel
theorem dX8_tear_1 : decode cX8_tear 1 = .ok (.getfield 115, 3) := by decide +kernel
theorem dX8_tear_4 : decode cX8_tear 4 = .ok (.ifCond .lt 7, 3) := by decide +kernel
theorem dX8_tear_11 : decode cX8_tear 11 = .ok (.iconst 0, 1) := by decide +kernel
theorem dX8_tear_12 : decode cX8_tear 12 = .ok (.istore_n 1, 1) := by decide +kernel
theorem dX8_tear_13 : decode cX8_tear 13 = .ok (.aload_n 0, 1) := by decide +kernel
theorem dX8_tear_14 : decode cX8_tear 14 = .ok (.iconst (-1), 1) := by decide +kernel
theorem dX8_tear_15 : decode cX8_tear 15 = .ok (.putfield 115, 3) := by decide +kernel
theorem dX8_tear_18 : decode cX8_tear 18 = .ok (.iload_n 1, 1) := by decide +kernel
theorem dX8_tear_19 : decode cX8_tear 19 = .ok (.ireturn, 1) := by decide +kernel
set_option maxRecDepth 20000 in
theorem ggX8_row_X8_no : GoodIn wsX8_row wsX8_no := goodIn_r _ [7, 8, 12, 13, 14, 15, 16, 17, 18, 19, 20, 21, 22, 23, 24, 25, 26, 27, 28, 29, 30, 31, 32, 33, 34, 35, 36, 37, 38, 39, 40, 41, 42, 43, 44, 45, 46, 47, 48, 49, 50, 51, 52, 53, 54, 55] rfl (by decide +kernel)
set_option maxRecDepth 20000 in
theorem gX8_row_X8_no : GoodIn wsX8_row (wsV RX8 122 RX8 yX8_no wsX8_no) := goodIn_app (goodIn_of _ (by decide +kernel)) ggX8_row_X8_no
theorem dX8_row_0 : decode cX8_row 0 = .ok (.aload_n 0, 1) := by decide +kernel
theorem dX8_row_1 : decode cX8_row 1 = .ok (.getfield 115, 3) := by decide +kernel
theorem dX8_row_4 : decode cX8_row 4 = .ok (.ifCond .ge 10, 3) := by decide +kernel
theorem dX8_row_7 : decode cX8_row 7 = .ok (.aload_n 0, 1) := by decide +kernel
theorem dX8_row_8 : decode cX8_row 8 = .ok (.bipush (-2), 2) := by decide +kernel
theorem dX8_row_10 : decode cX8_row 10 = .ok (.invokevirtual 122, 3) := by decide +kernel
theorem dX8_row_13 : decode cX8_row 13 = .ok (.ireturn, 1) := by decide +kernel
set_option maxRecDepth 20000 in
theorem ggX8_copy_X8_no : GoodIn wsX8_copy wsX8_no := goodIn_r _ [8, 9, 10, 11, 12, 13, 14, 15, 16, 17, 18, 19, 20, 21, 22, 23, 24, 25, 26, 27, 28, 29, 30, 31, 32, 33, 34, 35, 36, 37, 38, 39, 40, 41, 42, 43, 44, 45, 46, 47, 48, 49, 50, 51, 52, 53] rfl (by decide +kernel)
set_option maxRecDepth 20000 in
theorem gX8_copy_X8_no : GoodIn wsX8_copy (wsV RX8 122 RX8 yX8_no wsX8_no) := goodIn_app (goodIn_of _ (by decide +kernel)) ggX8_copy_X8_no
theorem dX8_copy_0 : decode cX8_copy 0 = .ok (.aload_n 0, 1) := by decide +kernel
theorem dX8_copy_1 : decode cX8_copy 1 = .ok (.getfield 115, 3) := by decide +kernel
theorem dX8_copy_4 : decode cX8_copy 4 = .ok (.ifCond .ge 10, 3) := by decide +kernel
theorem dX8_copy_7 : decode cX8_copy 7 = .ok (.aload_n 0, 1) := by decide +kernel
theorem dX8_copy_8 : decode cX8_copy 8 = .ok (.bipush (-2), 2) := by decide +kernel
theorem dX8_copy_10 : decode cX8_copy 10 = .ok (.invokevirtual 122, 3) := by decide +kernel
theorem dX8_copy_13 : decode cX8_copy 13 = .ok (.ireturn, 1) := by decide +kernel
set_option maxRecDepth 20000 in
theorem ggX8_status_X8_isIn : GoodIn wsX8_status wsX8_isIn := goodIn_r _ [7] rfl (by decide +kernel)
set_option maxRecDepth 20000 in
theorem gX8_status_X8_isIn : GoodIn wsX8_status (va_wsS RX8 128 yX8_isIn wsX8_isIn) := goodIn_app (goodIn_of _ (by decide +kernel)) ggX8_status_X8_isIn
set_option maxRecDepth 20000 in
theorem ggX8_status_X8_no : GoodIn wsX8_status wsX8_no := goodIn_r _ [11, 3, 12, 13, 14, 15, 16, 17, 18, 19, 20, 21, 22, 23, 24, 25, 26, 27, 28, 29, 30, 31, 32, 33, 34, 35, 36, 37, 38, 39, 40, 41, 42, 43, 44, 45, 46, 47, 48, 49, 50, 51, 52, 53, 54, 55] rfl (by decide +kernel)
set_option maxRecDepth 20000 in
theorem gX8_status_X8_no : GoodIn wsX8_status (wsV RX8 122 RX8 yX8_no wsX8_no) := goodIn_app (goodIn_of _ (by decide +kernel)) ggX8_status_X8_no
theorem dX8_status_0 : decode cX8_status 0 = .ok (.iload_n 1, 1) := by decide +kernel
theorem dX8_status_1 : decode cX8_status 1 = .ok (.i2l, 1) := by decide +kernel
theorem dX8_status_2 : decode cX8_status 2 = .ok (.ldc2_w 291, 3) := by decide +kernel
theorem dX8_status_5 : decode cX8_status 5 = .ok (.ldc2_w 293, 3) := by decide +kernel
theorem dX8_status_8 : decode cX8_status 8 = .ok (.invokestatic 128, 3) := by decide +kernel
theorem dX8_status_11 : decode cX8_status 11 = .ok (.ifCond .eq 13, 3) := by decide +kernel
theorem dX8_status_14 : decode cX8_status 14 = .ok (.aload_n 0, 1) := by decide +kernel
theorem dX8_status_15 : decode cX8_status 15 = .ok (.getfield 48, 3) := by decide +kernel
theorem dX8_status_18 : decode cX8_status 18 = .ok (.iload_n 1, 1) := by decide +kernel
theorem dX8_status_19 : decode cX8_status 19 = .ok (.ineg, 1) := by decide +kernel
theorem dX8_status_20 : decode cX8_status 20 = .ok (.iaload, 1) := by decide +kernel
theorem dX8_status_21 : decode cX8_status 21 = .ok (.goto 9, 3) := by decide +kernel
theorem dX8_status_24 : decode cX8_status 24 = .ok (.aload_n 0, 1) := by decide +kernel
theorem dX8_status_25 : decode cX8_status 25 = .ok (.bipush (-6), 2) := by decide +kernel
theorem dX8_status_27 : decode cX8_status 27 = .ok (.invokevirtual 122, 3) := by decide +kernel
theorem dX8_status_30 : decode cX8_status 30 = .ok (.ireturn, 1) := by decide +kernel
