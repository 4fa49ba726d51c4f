theorem dX8_init_0 : decode cX8_init 0 = .ok (.aload_n 0, 1) := by decide +kernel
theorem dX8_init_1 : decode cX8_init 1 = .ok (.invokespecial 1, 3) := by decide +kernel
theorem dX8_init_4 : decode cX8_init 4 = .ok (.aload_n 0, 1) := by decide +kernel
theorem dX8_init_5 : decode cX8_init 5 = .ok (.bipush 74, 2) := by decide +kernel
theorem dX8_init_7 : decode cX8_init 7 = .ok (.newarray .long, 2) := by decide +kernel
theorem dX8_init_9 : decode cX8_init 9 = .ok (.putfield 7, 3) := by decide +kernel
theorem dX8_init_12 : decode cX8_init 12 = .ok (.aload_n 0, 1) := by decide +kernel
theorem dX8_init_13 : decode cX8_init 13 = .ok (.bipush 74, 2) := by decide +kernel
theorem dX8_init_15 : decode cX8_init 15 = .ok (.newarray .long, 2) := by decide +kernel
theorem dX8_init_17 : decode cX8_init 17 = .ok (.putfield 13, 3) := by decide +kernel
theorem dX8_init_20 : decode cX8_init 20 = .ok (.aload_n 0, 1) := by decide +kernel
theorem dX8_init_21 : decode cX8_init 21 = .ok (.bipush 74, 2) := by decide +kernel
theorem dX8_init_23 : decode cX8_init 23 = .ok (.newarray .long, 2) := by decide +kernel
theorem dX8_init_25 : decode cX8_init 25 = .ok (.putfield 16, 3) := by decide +kernel
theorem dX8_init_28 : decode cX8_init 28 = .ok (.aload_n 0, 1) := by decide +kernel
theorem dX8_init_29 : decode cX8_init 29 = .ok (.bipush 74, 2) := by decide +kernel
theorem dX8_init_31 : decode cX8_init 31 = .ok (.newarray .long, 2) := by decide +kernel
theorem dX8_init_33 : decode cX8_init 33 = .ok (.putfield 19, 3) := by decide +kernel
theorem dX8_init_36 : decode cX8_init 36 = .ok (.aload_n 0, 1) := by decide +kernel
theorem dX8_init_37 : decode cX8_init 37 = .ok (.bipush 74, 2) := by decide +kernel
theorem dX8_init_39 : decode cX8_init 39 = .ok (.newarray .long, 2) := by decide +kernel
theorem dX8_init_41 : decode cX8_init 41 = .ok (.putfield 22, 3) := by decide +kernel
theorem dX8_init_44 : decode cX8_init 44 = .ok (.aload_n 0, 1) := by decide +kernel
theorem dX8_init_45 : decode cX8_init 45 = .ok (.bipush 8, 2) := by decide +kernel
theorem dX8_init_47 : decode cX8_init 47 = .ok (.newarray .int, 2) := by decide +kernel
theorem dX8_init_49 : decode cX8_init 49 = .ok (.putfield 25, 3) := by decide +kernel
theorem dX8_init_52 : decode cX8_init 52 = .ok (.aload_n 0, 1) := by decide +kernel
theorem dX8_init_53 : decode cX8_init 53 = .ok (.bipush 120, 2) := by decide +kernel
theorem dX8_init_55 : decode cX8_init 55 = .ok (.newarray .int, 2) := by decide +kernel
theorem dX8_init_57 : decode cX8_init 57 = .ok (.putfield 29, 3) := by decide +kernel
theorem dX8_init_60 : decode cX8_init 60 = .ok (.aload_n 0, 1) := by decide +kernel
theorem dX8_init_61 : decode cX8_init 61 = .ok (.bipush 120, 2) := by decide +kernel
theorem dX8_init_63 : decode cX8_init 63 = .ok (.newarray .int, 2) := by decide +kernel
theorem dX8_init_65 : decode cX8_init 65 = .ok (.putfield 32, 3) := by decide +kernel
theorem dX8_init_68 : decode cX8_init 68 = .ok (.aload_n 0, 1) := by decide +kernel
theorem dX8_init_69 : decode cX8_init 69 = .ok (.bipush 120, 2) := by decide +kernel
theorem dX8_init_71 : decode cX8_init 71 = .ok (.newarray .int, 2) := by decide +kernel
theorem dX8_init_73 : decode cX8_init 73 = .ok (.putfield 35, 3) := by decide +kernel
theorem dX8_init_76 : decode cX8_init 76 = .ok (.aload_n 0, 1) := by decide +kernel
theorem dX8_init_77 : decode cX8_init 77 = .ok (.bipush 120, 2) := by decide +kernel
theorem dX8_init_79 : decode cX8_init 79 = .ok (.newarray .int, 2) := by decide +kernel
theorem dX8_init_81 : decode cX8_init 81 = .ok (.putfield 38, 3) := by decide +kernel
theorem dX8_init_84 : decode cX8_init 84 = .ok (.aload_n 0, 1) := by decide +kernel
theorem dX8_init_85 : decode cX8_init 85 = .ok (.bipush 12, 2) := by decide +kernel
theorem dX8_init_87 : decode cX8_init 87 = .ok (.newarray .int, 2) := by decide +kernel
theorem dX8_init_89 : decode cX8_init 89 = .ok (.putfield 41, 3) := by decide +kernel
theorem dX8_init_92 : decode cX8_init 92 = .ok (.aload_n 0, 1) := by decide +kernel
theorem dX8_init_93 : decode cX8_init 93 = .ok (.iconst 1, 1) := by decide +kernel
theorem dX8_init_94 : decode cX8_init 94 = .ok (.putfield 44, 3) := by decide +kernel
theorem dX8_init_97 : decode cX8_init 97 = .ok (.aload_n 0, 1) := by decide +kernel
theorem dX8_init_98 : decode cX8_init 98 = .ok (.bipush 8, 2) := by decide +kernel
theorem dX8_init_100 : decode cX8_init 100 = .ok (.newarray .int, 2) := by decide +kernel
theorem dX8_init_102 : decode cX8_init 102 = .ok (.putfield 48, 3) := by decide +kernel
theorem dX8_init_105 : decode cX8_init 105 = .ok (.aload_n 0, 1) := by decide +kernel
theorem dX8_init_106 : decode cX8_init 106 = .ok (.sipush 1024, 3) := by decide +kernel
theorem dX8_init_109 : decode cX8_init 109 = .ok (.newarray .int, 2) := by decide +kernel
theorem dX8_init_111 : decode cX8_init 111 = .ok (.putfield 51, 3) := by decide +kernel
theorem dX8_init_114 : decode cX8_init 114 = .ok (.aload_n 0, 1) := by decide +kernel
theorem dX8_init_115 : decode cX8_init 115 = .ok (.bipush 120, 2) := by decide +kernel
theorem dX8_init_117 : decode cX8_init 117 = .ok (.newarray .int, 2) := by decide +kernel
theorem dX8_init_119 : decode cX8_init 119 = .ok (.putfield 54, 3) := by decide +kernel
theorem dX8_init_122 : decode cX8_init 122 = .ok (.aload_n 0, 1) := by decide +kernel
theorem dX8_init_123 : decode cX8_init 123 = .ok (.bipush 12, 2) := by decide +kernel
theorem dX8_init_125 : decode cX8_init 125 = .ok (.newarray .int, 2) := by decide +kernel
theorem dX8_init_127 : decode cX8_init 127 = .ok (.putfield 57, 3) := by decide +kernel
theorem dX8_init_130 : decode cX8_init 130 = .ok (.aload_n 0, 1) := by decide +kernel
theorem dX8_init_131 : decode cX8_init 131 = .ok (.bipush 10, 2) := by decide +kernel
theorem dX8_init_133 : decode cX8_init 133 = .ok (.newarray .int, 2) := by decide +kernel
theorem dX8_init_135 : decode cX8_init 135 = .ok (.putfield 60, 3) := by decide +kernel
theorem dX8_init_138 : decode cX8_init 138 = .ok (.aload_n 0, 1) := by decide +kernel
theorem dX8_init_139 : decode cX8_init 139 = .ok (.bipush 10, 2) := by decide +kernel
theorem dX8_init_141 : decode cX8_init 141 = .ok (.newarray .int, 2) := by decide +kernel
theorem dX8_init_143 : decode cX8_init 143 = .ok (.putfield 63, 3) := by decide +kernel
theorem dX8_init_146 : decode cX8_init 146 = .ok (.aload_n 0, 1) := by decide +kernel
theorem dX8_init_147 : decode cX8_init 147 = .ok (.bipush 12, 2) := by decide +kernel
theorem dX8_init_149 : decode cX8_init 149 = .ok (.newarray .boolean, 2) := by decide +kernel
theorem dX8_init_151 : decode cX8_init 151 = .ok (.putfield 66, 3) := by decide +kernel
theorem dX8_init_154 : decode cX8_init 154 = .ok (.aload_n 0, 1) := by decide +kernel
theorem dX8_init_155 : decode cX8_init 155 = .ok (.bipush 120, 2) := by decide +kernel
theorem dX8_init_157 : decode cX8_init 157 = .ok (.newarray .int, 2) := by decide +kernel
theorem dX8_init_159 : decode cX8_init 159 = .ok (.putfield 70, 3) := by decide +kernel
theorem dX8_init_162 : decode cX8_init 162 = .ok (.aload_n 0, 1) := by decide +kernel
theorem dX8_init_163 : decode cX8_init 163 = .ok (.bipush 120, 2) := by decide +kernel
theorem dX8_init_165 : decode cX8_init 165 = .ok (.newarray .int, 2) := by decide +kernel
theorem dX8_init_167 : decode cX8_init 167 = .ok (.putfield 73, 3) := by decide +kernel
theorem dX8_init_170 : decode cX8_init 170 = .ok (.aload_n 0, 1) := by decide +kernel
theorem dX8_init_171 : decode cX8_init 171 = .ok (.bipush 120, 2) := by decide +kernel
theorem dX8_init_173 : decode cX8_init 173 = .ok (.newarray .int, 2) := by decide +kernel
theorem dX8_init_175 : decode cX8_init 175 = .ok (.putfield 76, 3) := by decide +kernel
theorem dX8_init_178 : decode cX8_init 178 = .ok (.aload_n 0, 1) := by decide +kernel
theorem dX8_init_179 : decode cX8_init 179 = .ok (.bipush 120, 2) := by decide +kernel
theorem dX8_init_181 : decode cX8_init 181 = .ok (.newarray .int, 2) := by decide +kernel
theorem dX8_init_183 : decode cX8_init 183 = .ok (.putfield 79, 3) := by decide +kernel
theorem dX8_init_186 : decode cX8_init 186 = .ok (.aload_n 0, 1) := by decide +kernel
theorem dX8_init_187 : decode cX8_init 187 = .ok (.bipush 120, 2) := by decide +kernel
theorem dX8_init_189 : decode cX8_init 189 = .ok (.newarray .int, 2) := by decide +kernel
theorem dX8_init_191 : decode cX8_init 191 = .ok (.putfield 82, 3) := by decide +kernel
theorem dX8_init_194 : decode cX8_init 194 = .ok (.aload_n 0, 1) := by decide +kernel
theorem dX8_init_195 : decode cX8_init 195 = .ok (.sipush 840, 3) := by decide +kernel
theorem dX8_init_198 : decode cX8_init 198 = .ok (.newarray .int, 2) := by decide +kernel
theorem dX8_init_200 : decode cX8_init 200 = .ok (.putfield 85, 3) := by decide +kernel
theorem dX8_init_203 : decode cX8_init 203 = .ok (.aload_n 0, 1) := by decide +kernel
theorem dX8_init_204 : decode cX8_init 204 = .ok (.bipush 7, 2) := by decide +kernel
theorem dX8_init_206 : decode cX8_init 206 = .ok (.newarray .int, 2) := by decide +kernel
theorem dX8_init_208 : decode cX8_init 208 = .ok (.putfield 88, 3) := by decide +kernel
theorem dX8_init_211 : decode cX8_init 211 = .ok (.aload_n 0, 1) := by decide +kernel
theorem dX8_init_212 : decode cX8_init 212 = .ok (.bipush 7, 2) := by decide +kernel
theorem dX8_init_214 : decode cX8_init 214 = .ok (.newarray .int, 2) := by decide +kernel
theorem dX8_init_216 : decode cX8_init 216 = .ok (.putfield 91, 3) := by decide +kernel
theorem dX8_init_219 : decode cX8_init 219 = .ok (.aload_n 0, 1) := by decide +kernel
theorem dX8_init_220 : decode cX8_init 220 = .ok (.bipush 7, 2) := by decide +kernel
theorem dX8_init_222 : decode cX8_init 222 = .ok (.newarray .int, 2) := by decide +kernel
theorem dX8_init_224 : decode cX8_init 224 = .ok (.putfield 94, 3) := by decide +kernel
theorem dX8_init_227 : decode cX8_init 227 = .ok (.aload_n 0, 1) := by decide +kernel
theorem dX8_init_228 : decode cX8_init 228 = .ok (.bipush 7, 2) := by decide +kernel
theorem dX8_init_230 : decode cX8_init 230 = .ok (.newarray .int, 2) := by decide +kernel
theorem dX8_init_232 : decode cX8_init 232 = .ok (.putfield 97, 3) := by decide +kernel
theorem dX8_init_235 : decode cX8_init 235 = .ok (.aload_n 0, 1) := by decide +kernel
theorem dX8_init_236 : decode cX8_init 236 = .ok (.iconst (-1), 1) := by decide +kernel
theorem dX8_init_237 : decode cX8_init 237 = .ok (.putfield 100, 3) := by decide +kernel
theorem dX8_init_240 : decode cX8_init 240 = .ok (.aload_n 0, 1) := by decide +kernel
theorem dX8_init_241 : decode cX8_init 241 = .ok (.bipush 74, 2) := by decide +kernel
theorem dX8_init_243 : decode cX8_init 243 = .ok (.newarray .long, 2) := by decide +kernel
theorem dX8_init_245 : decode cX8_init 245 = .ok (.putfield 103, 3) := by decide +kernel
theorem dX8_init_248 : decode cX8_init 248 = .ok (.aload_n 0, 1) := by decide +kernel
theorem dX8_init_249 : decode cX8_init 249 = .ok (.bipush 16, 2) := by decide +kernel
theorem dX8_init_251 : decode cX8_init 251 = .ok (.newarray .int, 2) := by decide +kernel
theorem dX8_init_253 : decode cX8_init 253 = .ok (.putfield 106, 3) := by decide +kernel
theorem dX8_init_256 : decode cX8_init 256 = .ok (.aload_n 0, 1) := by decide +kernel
theorem dX8_init_257 : decode cX8_init 257 = .ok (.bipush 64, 2) := by decide +kernel
theorem dX8_init_259 : decode cX8_init 259 = .ok (.newarray .int, 2) := by decide +kernel
theorem dX8_init_261 : decode cX8_init 261 = .ok (.putfield 109, 3) := by decide +kernel
theorem dX8_init_264 : decode cX8_init 264 = .ok (.aload_n 0, 1) := by decide +kernel
theorem dX8_init_265 : decode cX8_init 265 = .ok (.bipush 64, 2) := by decide +kernel
theorem dX8_init_267 : decode cX8_init 267 = .ok (.newarray .int, 2) := by decide +kernel
theorem dX8_init_269 : decode cX8_init 269 = .ok (.putfield 112, 3) := by decide +kernel
theorem dX8_init_272 : decode cX8_init 272 = .ok (.aload_n 0, 1) := by decide +kernel
theorem dX8_init_273 : decode cX8_init 273 = .ok (.iconst (-1), 1) := by decide +kernel
theorem dX8_init_274 : decode cX8_init 274 = .ok (.putfield 115, 3) := by decide +kernel
theorem dX8_init_277 : decode cX8_init 277 = .ok (.iconst 0, 1) := by decide +kernel
theorem dX8_init_278 : decode cX8_init 278 = .ok (.istore_n 1, 1) := by decide +kernel
theorem dX8_init_279 : decode cX8_init 279 = .ok (.iload_n 1, 1) := by decide +kernel
theorem dX8_init_280 : decode cX8_init 280 = .ok (.bipush 8, 2) := by decide +kernel
theorem dX8_init_282 : decode cX8_init 282 = .ok (.if_icmp .ge 17, 3) := by decide +kernel
theorem dX8_init_285 : decode cX8_init 285 = .ok (.aload_n 0, 1) := by decide +kernel
theorem dX8_init_286 : decode cX8_init 286 = .ok (.getfield 25, 3) := by decide +kernel
theorem dX8_init_289 : decode cX8_init 289 = .ok (.iload_n 1, 1) := by decide +kernel
theorem dX8_init_290 : decode cX8_init 290 = .ok (.bipush 16, 2) := by decide +kernel
theorem dX8_init_292 : decode cX8_init 292 = .ok (.iastore, 1) := by decide +kernel
theorem dX8_init_293 : decode cX8_init 293 = .ok (.iinc 1 1, 3) := by decide +kernel
theorem dX8_init_296 : decode cX8_init 296 = .ok (.goto (-17), 3) := by decide +kernel
theorem dX8_init_299 : decode cX8_init 299 = .ok (.iconst 0, 1) := by decide +kernel
theorem dX8_init_300 : decode cX8_init 300 = .ok (.istore_n 1, 1) := by decide +kernel
theorem dX8_init_301 : decode cX8_init 301 = .ok (.iload_n 1, 1) := by decide +kernel
theorem dX8_init_302 : decode cX8_init 302 = .ok (.bipush 16, 2) := by decide +kernel
theorem dX8_init_304 : decode cX8_init 304 = .ok (.if_icmp .ge 16, 3) := by decide +kernel
theorem dX8_init_307 : decode cX8_init 307 = .ok (.aload_n 0, 1) := by decide +kernel
theorem dX8_init_308 : decode cX8_init 308 = .ok (.getfield 106, 3) := by decide +kernel
theorem dX8_init_311 : decode cX8_init 311 = .ok (.iload_n 1, 1) := by decide +kernel
theorem dX8_init_312 : decode cX8_init 312 = .ok (.iconst (-1), 1) := by decide +kernel
theorem dX8_init_313 : decode cX8_init 313 = .ok (.iastore, 1) := by decide +kernel
theorem dX8_init_314 : decode cX8_init 314 = .ok (.iinc 1 1, 3) := by decide +kernel
theorem dX8_init_317 : decode cX8_init 317 = .ok (.goto (-16), 3) := by decide +kernel
theorem dX8_init_320 : decode cX8_init 320 = .ok (.return_, 1) := by decide +kernel
theorem dX8_isIn_0 : decode cX8_isIn 0 = .ok (.lload_n 0, 1) := by decide +kernel
theorem dX8_isIn_1 : decode cX8_isIn 1 = .ok (.lload_n 2, 1) := by decide +kernel
theorem dX8_isIn_2 : decode cX8_isIn 2 = .ok (.lcmp, 1) := by decide +kernel
theorem dX8_isIn_3 : decode cX8_isIn 3 = .ok (.ifCond .lt 14, 3) := by decide +kernel
theorem dX8_isIn_6 : decode cX8_isIn 6 = .ok (.lload_n 0, 1) := by decide +kernel
theorem dX8_isIn_7 : decode cX8_isIn 7 = .ok (.lload 4, 2) := by decide +kernel
theorem dX8_isIn_9 : decode cX8_isIn 9 = .ok (.lcmp, 1) := by decide +kernel
theorem dX8_isIn_10 : decode cX8_isIn 10 = .ok (.ifCond .gt 7, 3) := by decide +kernel
theorem dX8_isIn_13 : decode cX8_isIn 13 = .ok (.iconst 1, 1) := by decide +kernel
theorem dX8_isIn_14 : decode cX8_isIn 14 = .ok (.goto 4, 3) := by decide +kernel
theorem dX8_isIn_17 : decode cX8_isIn 17 = .ok (.iconst 0, 1) := by decide +kernel
theorem dX8_isIn_18 : decode cX8_isIn 18 = .ok (.ireturn, 1) := by decide +kernel
theorem dX8_no_0 : decode cX8_no 0 = .ok (.aload_n 0, 1) := by decide +kernel
theorem dX8_no_1 : decode cX8_no 1 = .ok (.getfield 48, 3) := by decide +kernel
theorem dX8_no_4 : decode cX8_no 4 = .ok (.iload_n 1, 1) := by decide +kernel
theorem dX8_no_5 : decode cX8_no 5 = .ok (.ineg, 1) := by decide +kernel
theorem dX8_no_6 : decode cX8_no 6 = .ok (.dup2, 1) := by decide +kernel
theorem dX8_no_7 : decode cX8_no 7 = .ok (.iaload, 1) := by decide +kernel
theorem dX8_no_8 : decode cX8_no 8 = .ok (.iconst 1, 1) := by decide +kernel
theorem dX8_no_9 : decode cX8_no 9 = .ok (.iadd, 1) := by decide +kernel
theorem dX8_no_10 : decode cX8_no 10 = .ok (.iastore, 1) := by decide +kernel
theorem dX8_no_11 : decode cX8_no 11 = .ok (.iload_n 1, 1) := by decide +kernel
theorem dX8_no_12 : decode cX8_no 12 = .ok (.ireturn, 1) := by decide +kernel
theorem dX8_isRegister_0 : decode cX8_isRegister 0 = .ok (.iload_n 0, 1) := by decide +kernel
theorem dX8_isRegister_1 : decode cX8_isRegister 1 = .ok (.ifCond .lt 13, 3) := by decide +kernel
theorem dX8_isRegister_4 : decode cX8_isRegister 4 = .ok (.iload_n 0, 1) := by decide +kernel
theorem dX8_isRegister_5 : decode cX8_isRegister 5 = .ok (.bipush 8, 2) := by decide +kernel
theorem dX8_isRegister_7 : decode cX8_isRegister 7 = .ok (.if_icmp .ge 7, 3) := by decide +kernel
theorem dX8_isRegister_10 : decode cX8_isRegister 10 = .ok (.iconst 1, 1) := by decide +kernel
theorem dX8_isRegister_11 : decode cX8_isRegister 11 = .ok (.goto 4, 3) := by decide +kernel
theorem dX8_isRegister_14 : decode cX8_isRegister 14 = .ok (.iconst 0, 1) := by decide +kernel
theorem dX8_isRegister_15 : decode cX8_isRegister 15 = .ok (.ireturn, 1) := by decide +kernel
theorem dX8_isCell_0 : decode cX8_isCell 0 = .ok (.iload_n 0, 1) := by decide +kernel
theorem dX8_isCell_1 : decode cX8_isCell 1 = .ok (.ifCond .lt 13, 3) := by decide +kernel
theorem dX8_isCell_4 : decode cX8_isCell 4 = .ok (.iload_n 0, 1) := by decide +kernel
theorem dX8_isCell_5 : decode cX8_isCell 5 = .ok (.bipush 64, 2) := by decide +kernel
theorem dX8_isCell_7 : decode cX8_isCell 7 = .ok (.if_icmp .ge 7, 3) := by decide +kernel
theorem dX8_isCell_10 : decode cX8_isCell 10 = .ok (.iconst 1, 1) := by decide +kernel
theorem dX8_isCell_11 : decode cX8_isCell 11 = .ok (.goto 4, 3) := by decide +kernel
theorem dX8_isCell_14 : decode cX8_isCell 14 = .ok (.iconst 0, 1) := by decide +kernel
theorem dX8_isCell_15 : decode cX8_isCell 15 = .ok (.ireturn, 1) := by decide +kernel
theorem dX8_isInstruction_0 : decode cX8_isInstruction 0 = .ok (.iload_n 0, 1) := by decide +kernel
theorem dX8_isInstruction_1 : decode cX8_isInstruction 1 = .ok (.ifCond .lt 13, 3) := by decide +kernel
theorem dX8_isInstruction_4 : decode cX8_isInstruction 4 = .ok (.iload_n 0, 1) := by decide +kernel
theorem dX8_isInstruction_5 : decode cX8_isInstruction 5 = .ok (.bipush 12, 2) := by decide +kernel
theorem dX8_isInstruction_7 : decode cX8_isInstruction 7 = .ok (.if_icmp .ge 7, 3) := by decide +kernel
theorem dX8_isInstruction_10 : decode cX8_isInstruction 10 = .ok (.iconst 1, 1) := by decide +kernel
theorem dX8_isInstruction_11 : decode cX8_isInstruction 11 = .ok (.goto 4, 3) := by decide +kernel
theorem dX8_isInstruction_14 : decode cX8_isInstruction 14 = .ok (.iconst 0, 1) := by decide +kernel
theorem dX8_isInstruction_15 : decode cX8_isInstruction 15 = .ok (.ireturn, 1) := by decide +kernel
theorem dX8_cut_0 : decode cX8_cut 0 = .ok (.lload_n 2, 1) := by decide +kernel
theorem dX8_cut_1 : decode cX8_cut 1 = .ok (.lconst 1, 1) := by decide +kernel
theorem dX8_cut_2 : decode cX8_cut 2 = .ok (.aload_n 0, 1) := by decide +kernel
theorem dX8_cut_3 : decode cX8_cut 3 = .ok (.getfield 25, 3) := by decide +kernel
theorem dX8_cut_6 : decode cX8_cut 6 = .ok (.iload_n 1, 1) := by decide +kernel
theorem dX8_cut_7 : decode cX8_cut 7 = .ok (.iaload, 1) := by decide +kernel
theorem dX8_cut_8 : decode cX8_cut 8 = .ok (.lshl, 1) := by decide +kernel
theorem dX8_cut_9 : decode cX8_cut 9 = .ok (.lconst 1, 1) := by decide +kernel
theorem dX8_cut_10 : decode cX8_cut 10 = .ok (.lsub, 1) := by decide +kernel
theorem dX8_cut_11 : decode cX8_cut 11 = .ok (.land, 1) := by decide +kernel
theorem dX8_cut_12 : decode cX8_cut 12 = .ok (.lreturn, 1) := by decide +kernel
set_option maxRecDepth 20000 in
theorem ggX8_width_X8_isRegister : GoodIn wsX8_width wsX8_isRegister := goodIn_r _ [7] (by decide +kernel) (by decide +kernel)
set_option maxRecDepth 20000 in
theorem gX8_width_X8_isRegister : GoodIn wsX8_width (va_wsS RX8 118 yX8_isRegister wsX8_isRegister) := goodIn_app (goodIn_of _ (by decide +kernel)) ggX8_width_X8_isRegister
set_option maxRecDepth 20000 in
theorem ggX8_width_X8_no : GoodIn wsX8_width wsX8_no := goodIn_r _ [11, 12, 20, 21, 22, 23, 24, 25, 26, 27, 28, 29, 30, 31, 32, 33, 34, 35, 36, 37, 38, 39, 40, 41, 42, 43, 44, 45, 46, 47, 48, 49, 50, 51, 52, 53, 54, 55, 56, 57, 58, 59, 60, 61, 62, 63] (by decide +kernel) (by decide +kernel)
set_option maxRecDepth 20000 in
theorem gX8_width_X8_no : GoodIn wsX8_width (wsV RX8 122 RX8 yX8_no wsX8_no) := goodIn_app (goodIn_of _ (by decide +kernel)) ggX8_width_X8_no
set_option maxRecDepth 20000 in
theorem ggX8_width_X8_isIn : GoodIn wsX8_width wsX8_isIn := goodIn_r _ [15] (by decide +kernel) (by decide +kernel)
set_option maxRecDepth 20000 in
theorem gX8_width_X8_isIn : GoodIn wsX8_width (va_wsS RX8 128 yX8_isIn wsX8_isIn) := goodIn_app (goodIn_of _ (by decide +kernel)) ggX8_width_X8_isIn
set_option maxRecDepth 20000 in
theorem ggX8_width_X8_cut : GoodIn wsX8_width wsX8_cut := goodIn_r _ [19, 2, 20, 21, 22, 23, 24, 25, 26, 27, 28, 29, 30, 31, 32, 33, 34, 35, 36, 37, 38, 39, 40, 41, 42, 43, 44, 45, 46, 47, 48, 49, 50, 51, 52, 53, 54, 55, 56, 57, 58, 59, 60, 61, 62, 63] (by decide +kernel) (by decide +kernel)
set_option maxRecDepth 20000 in
theorem gX8_width_X8_cut : GoodIn wsX8_width (wsV RX8 132 RX8 yX8_cut wsX8_cut) := goodIn_app (goodIn_of _ (by decide +kernel)) ggX8_width_X8_cut
theorem dX8_width_0 : decode cX8_width 0 = .ok (.iload_n 1, 1) := by decide +kernel
theorem dX8_width_1 : decode cX8_width 1 = .ok (.invokestatic 118, 3) := by decide +kernel
theorem dX8_width_4 : decode cX8_width 4 = .ok (.ifCond .ne 10, 3) := by decide +kernel
theorem dX8_width_7 : decode cX8_width 7 = .ok (.aload_n 0, 1) := by decide +kernel
theorem dX8_width_8 : decode cX8_width 8 = .ok (.bipush (-3), 2) := by decide +kernel
theorem dX8_width_10 : decode cX8_width 10 = .ok (.invokevirtual 122, 3) := by decide +kernel
theorem dX8_width_13 : decode cX8_width 13 = .ok (.ireturn, 1) := by decide +kernel
theorem dX8_width_14 : decode cX8_width 14 = .ok (.iload_n 2, 1) := by decide +kernel
theorem dX8_width_15 : decode cX8_width 15 = .ok (.i2l, 1) := by decide +kernel
theorem dX8_width_16 : decode cX8_width 16 = .ok (.lconst 1, 1) := by decide +kernel
theorem dX8_width_17 : decode cX8_width 17 = .ok (.ldc2_w 126, 3) := by decide +kernel
theorem dX8_width_20 : decode cX8_width 20 = .ok (.invokestatic 128, 3) := by decide +kernel
theorem dX8_width_23 : decode cX8_width 23 = .ok (.ifCond .ne 10, 3) := by decide +kernel
theorem dX8_width_26 : decode cX8_width 26 = .ok (.aload_n 0, 1) := by decide +kernel
theorem dX8_width_27 : decode cX8_width 27 = .ok (.bipush (-6), 2) := by decide +kernel
theorem dX8_width_29 : decode cX8_width 29 = .ok (.invokevirtual 122, 3) := by decide +kernel
theorem dX8_width_32 : decode cX8_width 32 = .ok (.ireturn, 1) := by decide +kernel
theorem dX8_width_33 : decode cX8_width 33 = .ok (.aload_n 0, 1) := by decide +kernel
theorem dX8_width_34 : decode cX8_width 34 = .ok (.getfield 25, 3) := by decide +kernel
theorem dX8_width_37 : decode cX8_width 37 = .ok (.iload_n 1, 1) := by decide +kernel
theorem dX8_width_38 : decode cX8_width 38 = .ok (.iaload, 1) := by decide +kernel
theorem dX8_width_39 : decode cX8_width 39 = .ok (.istore_n 3, 1) := by decide +kernel
theorem dX8_width_40 : decode cX8_width 40 = .ok (.aload_n 0, 1) := by decide +kernel
theorem dX8_width_41 : decode cX8_width 41 = .ok (.getfield 25, 3) := by decide +kernel
theorem dX8_width_44 : decode cX8_width 44 = .ok (.iload_n 1, 1) := by decide +kernel
theorem dX8_width_45 : decode cX8_width 45 = .ok (.iload_n 2, 1) := by decide +kernel
theorem dX8_width_46 : decode cX8_width 46 = .ok (.iastore, 1) := by decide +kernel
theorem dX8_width_47 : decode cX8_width 47 = .ok (.aload_n 0, 1) := by decide +kernel
theorem dX8_width_48 : decode cX8_width 48 = .ok (.getfield 7, 3) := by decide +kernel
theorem dX8_width_51 : decode cX8_width 51 = .ok (.iload_n 1, 1) := by decide +kernel
theorem dX8_width_52 : decode cX8_width 52 = .ok (.aload_n 0, 1) := by decide +kernel
theorem dX8_width_53 : decode cX8_width 53 = .ok (.iload_n 1, 1) := by decide +kernel
theorem dX8_width_54 : decode cX8_width 54 = .ok (.aload_n 0, 1) := by decide +kernel
theorem dX8_width_55 : decode cX8_width 55 = .ok (.getfield 7, 3) := by decide +kernel
theorem dX8_width_58 : decode cX8_width 58 = .ok (.iload_n 1, 1) := by decide +kernel
theorem dX8_width_59 : decode cX8_width 59 = .ok (.laload, 1) := by decide +kernel
theorem dX8_width_60 : decode cX8_width 60 = .ok (.invokevirtual 132, 3) := by decide +kernel
theorem dX8_width_63 : decode cX8_width 63 = .ok (.lastore, 1) := by decide +kernel
theorem dX8_width_64 : decode cX8_width 64 = .ok (.iload_n 3, 1) := by decide +kernel
theorem dX8_width_65 : decode cX8_width 65 = .ok (.ireturn, 1) := by decide +kernel
set_option maxRecDepth 20000 in
theorem ggX8_set_X8_isRegister : GoodIn wsX8_set wsX8_isRegister := goodIn_r _ [5] (by decide +kernel) (by decide +kernel)
set_option maxRecDepth 20000 in
theorem gX8_set_X8_isRegister : GoodIn wsX8_set (va_wsS RX8 118 yX8_isRegister wsX8_isRegister) := goodIn_app (goodIn_of _ (by decide +kernel)) ggX8_set_X8_isRegister
set_option maxRecDepth 20000 in
theorem ggX8_set_X8_no : GoodIn wsX8_set wsX8_no := goodIn_r _ [9, 10, 16, 17, 18, 19, 20, 21, 22, 23, 24, 25, 26, 27, 28, 29, 30, 31, 32, 33, 34, 35, 36, 37, 38, 39, 40, 41, 42, 43, 44, 45, 46, 47, 48, 49, 50, 51, 52, 53, 54, 55, 56, 57, 58, 59] (by decide +kernel) (by decide +kernel)
set_option maxRecDepth 20000 in
theorem gX8_set_X8_no : GoodIn wsX8_set (wsV RX8 122 RX8 yX8_no wsX8_no) := goodIn_app (goodIn_of _ (by decide +kernel)) ggX8_set_X8_no
set_option maxRecDepth 20000 in
theorem ggX8_set_X8_cut : GoodIn wsX8_set wsX8_cut := goodIn_r _ [14, 15, 16, 17, 18, 19, 20, 21, 22, 23, 24, 25, 26, 27, 28, 29, 30, 31, 32, 33, 34, 35, 36, 37, 38, 39, 40, 41, 42, 43, 44, 45, 46, 47, 48, 49, 50, 51, 52, 53, 54, 55, 56, 57, 58, 59] (by decide +kernel) (by decide +kernel)
set_option maxRecDepth 20000 in
theorem gX8_set_X8_cut : GoodIn wsX8_set (wsV RX8 132 RX8 yX8_cut wsX8_cut) := goodIn_app (goodIn_of _ (by decide +kernel)) ggX8_set_X8_cut
theorem dX8_set_0 : decode cX8_set 0 = .ok (.iload_n 1, 1) := by decide +kernel
theorem dX8_set_1 : decode cX8_set 1 = .ok (.invokestatic 118, 3) := by decide +kernel
theorem dX8_set_4 : decode cX8_set 4 = .ok (.ifCond .ne 10, 3) := by decide +kernel
theorem dX8_set_7 : decode cX8_set 7 = .ok (.aload_n 0, 1) := by decide +kernel
theorem dX8_set_8 : decode cX8_set 8 = .ok (.bipush (-3), 2) := by decide +kernel
theorem dX8_set_10 : decode cX8_set 10 = .ok (.invokevirtual 122, 3) := by decide +kernel
theorem dX8_set_13 : decode cX8_set 13 = .ok (.ireturn, 1) := by decide +kernel
theorem dX8_set_14 : decode cX8_set 14 = .ok (.aload_n 0, 1) := by decide +kernel
theorem dX8_set_15 : decode cX8_set 15 = .ok (.getfield 7, 3) := by decide +kernel
theorem dX8_set_18 : decode cX8_set 18 = .ok (.iload_n 1, 1) := by decide +kernel
theorem dX8_set_19 : decode cX8_set 19 = .ok (.laload, 1) := by decide +kernel
theorem dX8_set_20 : decode cX8_set 20 = .ok (.lstore 4, 2) := by decide +kernel
theorem dX8_set_22 : decode cX8_set 22 = .ok (.aload_n 0, 1) := by decide +kernel
theorem dX8_set_23 : decode cX8_set 23 = .ok (.getfield 7, 3) := by decide +kernel
theorem dX8_set_26 : decode cX8_set 26 = .ok (.iload_n 1, 1) := by decide +kernel
theorem dX8_set_27 : decode cX8_set 27 = .ok (.aload_n 0, 1) := by decide +kernel
theorem dX8_set_28 : decode cX8_set 28 = .ok (.iload_n 1, 1) := by decide +kernel
theorem dX8_set_29 : decode cX8_set 29 = .ok (.lload_n 2, 1) := by decide +kernel
theorem dX8_set_30 : decode cX8_set 30 = .ok (.invokevirtual 132, 3) := by decide +kernel
theorem dX8_set_33 : decode cX8_set 33 = .ok (.lastore, 1) := by decide +kernel
theorem dX8_set_34 : decode cX8_set 34 = .ok (.lload 4, 2) := by decide +kernel
theorem dX8_set_36 : decode cX8_set 36 = .ok (.aload_n 0, 1) := by decide +kernel
theorem dX8_set_37 : decode cX8_set 37 = .ok (.getfield 7, 3) := by decide +kernel
theorem dX8_set_40 : decode cX8_set 40 = .ok (.iload_n 1, 1) := by decide +kernel
theorem dX8_set_41 : decode cX8_set 41 = .ok (.laload, 1) := by decide +kernel
theorem dX8_set_42 : decode cX8_set 42 = .ok (.lcmp, 1) := by decide +kernel
theorem dX8_set_43 : decode cX8_set 43 = .ok (.ifCond .eq 7, 3) := by decide +kernel
theorem dX8_set_46 : decode cX8_set 46 = .ok (.iconst 1, 1) := by decide +kernel
theorem dX8_set_47 : decode cX8_set 47 = .ok (.goto 4, 3) := by decide +kernel
theorem dX8_set_50 : decode cX8_set 50 = .ok (.iconst 0, 1) := by decide +kernel
theorem dX8_set_51 : decode cX8_set 51 = .ok (.ireturn, 1) := by decide +kernel
set_option maxRecDepth 20000 in
theorem ggX8_register_X8_isRegister : GoodIn wsX8_register wsX8_isRegister := goodIn_r _ [5] (by decide +kernel) (by decide +kernel)
set_option maxRecDepth 20000 in
theorem gX8_register_X8_isRegister : GoodIn wsX8_register (va_wsS RX8 118 yX8_isRegister wsX8_isRegister) := goodIn_app (goodIn_of _ (by decide +kernel)) ggX8_register_X8_isRegister
set_option maxRecDepth 20000 in
theorem ggX8_register_X8_no : GoodIn wsX8_register wsX8_no := goodIn_r _ [9, 10, 11, 12, 13, 14, 15, 16, 17, 18, 19, 20, 21, 22, 23, 24, 25, 26, 27, 28, 29, 30, 31, 32, 33, 34, 35, 36, 37, 38, 39, 40, 41, 42, 43, 44, 45, 46, 47, 48, 49, 50, 51, 52, 53, 54] (by decide +kernel) (by decide +kernel)
set_option maxRecDepth 20000 in
theorem gX8_register_X8_no : GoodIn wsX8_register (wsV RX8 122 RX8 yX8_no wsX8_no) := goodIn_app (goodIn_of _ (by decide +kernel)) ggX8_register_X8_no
theorem dX8_register_0 : decode cX8_register 0 = .ok (.iload_n 1, 1) := by decide +kernel
theorem dX8_register_1 : decode cX8_register 1 = .ok (.invokestatic 118, 3) := by decide +kernel
theorem dX8_register_4 : decode cX8_register 4 = .ok (.ifCond .eq 10, 3) := by decide +kernel
theorem dX8_register_7 : decode cX8_register 7 = .ok (.aload_n 0, 1) := by decide +kernel
theorem dX8_register_8 : decode cX8_register 8 = .ok (.getfield 7, 3) := by decide +kernel
theorem dX8_register_11 : decode cX8_register 11 = .ok (.iload_n 1, 1) := by decide +kernel
theorem dX8_register_12 : decode cX8_register 12 = .ok (.laload, 1) := by decide +kernel
theorem dX8_register_13 : decode cX8_register 13 = .ok (.lreturn, 1) := by decide +kernel
theorem dX8_register_14 : decode cX8_register 14 = .ok (.aload_n 0, 1) := by decide +kernel
theorem dX8_register_15 : decode cX8_register 15 = .ok (.bipush (-3), 2) := by decide +kernel
theorem dX8_register_17 : decode cX8_register 17 = .ok (.invokevirtual 122, 3) := by decide +kernel
theorem dX8_register_20 : decode cX8_register 20 = .ok (.istore_n 2, 1) := by decide +kernel
theorem dX8_register_21 : decode cX8_register 21 = .ok (.lconst 0, 1) := by decide +kernel
theorem dX8_register_22 : decode cX8_register 22 = .ok (.lreturn, 1) := by decide +kernel
set_option maxRecDepth 20000 in
theorem ggX8_poke_X8_isCell : GoodIn wsX8_poke wsX8_isCell := goodIn_r _ [6] (by decide +kernel) (by decide +kernel)
set_option maxRecDepth 20000 in
theorem gX8_poke_X8_isCell : GoodIn wsX8_poke (va_wsS RX8 136 yX8_isCell wsX8_isCell) := goodIn_app (goodIn_of _ (by decide +kernel)) ggX8_poke_X8_isCell
set_option maxRecDepth 20000 in
theorem ggX8_poke_X8_no : GoodIn wsX8_poke wsX8_no := goodIn_r _ [10, 11, 12, 13, 14, 15, 16, 17, 18, 19, 20, 21, 22, 23, 24, 25, 26, 27, 28, 29, 30, 31, 32, 33, 34, 35, 36, 37, 38, 39, 40, 41, 42, 43, 44, 45, 46, 47, 48, 49, 50, 51, 52, 53, 54, 55] (by decide +kernel) (by decide +kernel)
set_option maxRecDepth 20000 in
theorem gX8_poke_X8_no : GoodIn wsX8_poke (wsV RX8 122 RX8 yX8_no wsX8_no) := goodIn_app (goodIn_of _ (by decide +kernel)) ggX8_poke_X8_no
theorem dX8_poke_0 : decode cX8_poke 0 = .ok (.iload_n 1, 1) := by decide +kernel
theorem dX8_poke_1 : decode cX8_poke 1 = .ok (.invokestatic 136, 3) := by decide +kernel
theorem dX8_poke_4 : decode cX8_poke 4 = .ok (.ifCond .ne 10, 3) := by decide +kernel
theorem dX8_poke_7 : decode cX8_poke 7 = .ok (.aload_n 0, 1) := by decide +kernel
theorem dX8_poke_8 : decode cX8_poke 8 = .ok (.bipush (-3), 2) := by decide +kernel
theorem dX8_poke_10 : decode cX8_poke 10 = .ok (.invokevirtual 122, 3) := by decide +kernel
theorem dX8_poke_13 : decode cX8_poke 13 = .ok (.ireturn, 1) := by decide +kernel
theorem dX8_poke_14 : decode cX8_poke 14 = .ok (.aload_n 0, 1) := by decide +kernel
theorem dX8_poke_15 : decode cX8_poke 15 = .ok (.getfield 7, 3) := by decide +kernel
theorem dX8_poke_18 : decode cX8_poke 18 = .ok (.bipush 10, 2) := by decide +kernel
theorem dX8_poke_20 : decode cX8_poke 20 = .ok (.iload_n 1, 1) := by decide +kernel
theorem dX8_poke_21 : decode cX8_poke 21 = .ok (.iadd, 1) := by decide +kernel
theorem dX8_poke_22 : decode cX8_poke 22 = .ok (.laload, 1) := by decide +kernel
theorem dX8_poke_23 : decode cX8_poke 23 = .ok (.lstore 4, 2) := by decide +kernel
theorem dX8_poke_25 : decode cX8_poke 25 = .ok (.aload_n 0, 1) := by decide +kernel
theorem dX8_poke_26 : decode cX8_poke 26 = .ok (.getfield 7, 3) := by decide +kernel
theorem dX8_poke_29 : decode cX8_poke 29 = .ok (.bipush 10, 2) := by decide +kernel
theorem dX8_poke_31 : decode cX8_poke 31 = .ok (.iload_n 1, 1) := by decide +kernel
theorem dX8_poke_32 : decode cX8_poke 32 = .ok (.iadd, 1) := by decide +kernel
theorem dX8_poke_33 : decode cX8_poke 33 = .ok (.lload_n 2, 1) := by decide +kernel
theorem dX8_poke_34 : decode cX8_poke 34 = .ok (.ldc2_w 139, 3) := by decide +kernel
theorem dX8_poke_37 : decode cX8_poke 37 = .ok (.land, 1) := by decide +kernel
theorem dX8_poke_38 : decode cX8_poke 38 = .ok (.lastore, 1) := by decide +kernel
theorem dX8_poke_39 : decode cX8_poke 39 = .ok (.lload 4, 2) := by decide +kernel
theorem dX8_poke_41 : decode cX8_poke 41 = .ok (.aload_n 0, 1) := by decide +kernel
theorem dX8_poke_42 : decode cX8_poke 42 = .ok (.getfield 7, 3) := by decide +kernel
theorem dX8_poke_45 : decode cX8_poke 45 = .ok (.bipush 10, 2) := by decide +kernel
theorem dX8_poke_47 : decode cX8_poke 47 = .ok (.iload_n 1, 1) := by decide +kernel
theorem dX8_poke_48 : decode cX8_poke 48 = .ok (.iadd, 1) := by decide +kernel
theorem dX8_poke_49 : decode cX8_poke 49 = .ok (.laload, 1) := by decide +kernel
theorem dX8_poke_50 : decode cX8_poke 50 = .ok (.lcmp, 1) := by decide +kernel
theorem dX8_poke_51 : decode cX8_poke 51 = .ok (.ifCond .eq 7, 3) := by decide +kernel
theorem dX8_poke_54 : decode cX8_poke 54 = .ok (.iconst 1, 1) := by decide +kernel
theorem dX8_poke_55 : decode cX8_poke 55 = .ok (.goto 4, 3) := by decide +kernel
theorem dX8_poke_58 : decode cX8_poke 58 = .ok (.iconst 0, 1) := by decide +kernel
theorem dX8_poke_59 : decode cX8_poke 59 = .ok (.ireturn, 1) := by decide +kernel
set_option maxRecDepth 20000 in
theorem ggX8_cell_X8_isCell : GoodIn wsX8_cell wsX8_isCell := goodIn_r _ [5] (by decide +kernel) (by decide +kernel)
set_option maxRecDepth 20000 in
theorem gX8_cell_X8_isCell : GoodIn wsX8_cell (va_wsS RX8 136 yX8_isCell wsX8_isCell) := goodIn_app (goodIn_of _ (by decide +kernel)) ggX8_cell_X8_isCell
set_option maxRecDepth 20000 in
theorem ggX8_cell_X8_no : GoodIn wsX8_cell wsX8_no := goodIn_r _ [9, 10, 11, 12, 13, 14, 15, 16, 17, 18, 19, 20, 21, 22, 23, 24, 25, 26, 27, 28, 29, 30, 31, 32, 33, 34, 35, 36, 37, 38, 39, 40, 41, 42, 43, 44, 45, 46, 47, 48, 49, 50, 51, 52, 53, 54] (by decide +kernel) (by decide +kernel)
set_option maxRecDepth 20000 in
theorem gX8_cell_X8_no : GoodIn wsX8_cell (wsV RX8 122 RX8 yX8_no wsX8_no) := goodIn_app (goodIn_of _ (by decide +kernel)) ggX8_cell_X8_no
theorem dX8_cell_0 : decode cX8_cell 0 = .ok (.iload_n 1, 1) := by decide +kernel
theorem dX8_cell_1 : decode cX8_cell 1 = .ok (.invokestatic 136, 3) := by decide +kernel
theorem dX8_cell_4 : decode cX8_cell 4 = .ok (.ifCond .eq 13, 3) := by decide +kernel
theorem dX8_cell_7 : decode cX8_cell 7 = .ok (.aload_n 0, 1) := by decide +kernel
theorem dX8_cell_8 : decode cX8_cell 8 = .ok (.getfield 7, 3) := by decide +kernel
theorem dX8_cell_11 : decode cX8_cell 11 = .ok (.bipush 10, 2) := by decide +kernel
theorem dX8_cell_13 : decode cX8_cell 13 = .ok (.iload_n 1, 1) := by decide +kernel
theorem dX8_cell_14 : decode cX8_cell 14 = .ok (.iadd, 1) := by decide +kernel
theorem dX8_cell_15 : decode cX8_cell 15 = .ok (.laload, 1) := by decide +kernel
theorem dX8_cell_16 : decode cX8_cell 16 = .ok (.lreturn, 1) := by decide +kernel
theorem dX8_cell_17 : decode cX8_cell 17 = .ok (.aload_n 0, 1) := by decide +kernel
theorem dX8_cell_18 : decode cX8_cell 18 = .ok (.bipush (-3), 2) := by decide +kernel
theorem dX8_cell_20 : decode cX8_cell 20 = .ok (.invokevirtual 122, 3) := by decide +kernel
theorem dX8_cell_23 : decode cX8_cell 23 = .ok (.istore_n 2, 1) := by decide +kernel
theorem dX8_cell_24 : decode cX8_cell 24 = .ok (.lconst 0, 1) := by decide +kernel
theorem dX8_cell_25 : decode cX8_cell 25 = .ok (.lreturn, 1) := by decide +kernel
set_option maxRecDepth 20000 in
theorem ggX8_flag_X8_isIn : GoodIn wsX8_flag wsX8_isIn := goodIn_r _ [5] (by decide +kernel) (by decide +kernel)
set_option maxRecDepth 20000 in
theorem gX8_flag_X8_isIn : GoodIn wsX8_flag (va_wsS RX8 128 yX8_isIn wsX8_isIn) := goodIn_app (goodIn_of _ (by decide +kernel)) ggX8_flag_X8_isIn
set_option maxRecDepth 20000 in
theorem ggX8_flag_X8_no : GoodIn wsX8_flag wsX8_no := goodIn_r _ [9, 10, 11, 12, 13, 14, 15, 16, 17, 18, 19, 20, 21, 22, 23, 24, 25, 26, 27, 28, 29, 30, 31, 32, 33, 34, 35, 36, 37, 38, 39, 40, 41, 42, 43, 44, 45, 46, 47, 48, 49, 50, 51, 52, 53, 54] (by decide +kernel) (by decide +kernel)
set_option maxRecDepth 20000 in
theorem gX8_flag_X8_no : GoodIn wsX8_flag (wsV RX8 122 RX8 yX8_no wsX8_no) := goodIn_app (goodIn_of _ (by decide +kernel)) ggX8_flag_X8_no
theorem dX8_flag_0 : decode cX8_flag 0 = .ok (.iload_n 1, 1) := by decide +kernel
theorem dX8_flag_1 : decode cX8_flag 1 = .ok (.i2l, 1) := by decide +kernel
theorem dX8_flag_2 : decode cX8_flag 2 = .ok (.lconst 0, 1) := by decide +kernel
theorem dX8_flag_3 : decode cX8_flag 3 = .ok (.lconst 1, 1) := by decide +kernel
theorem dX8_flag_4 : decode cX8_flag 4 = .ok (.invokestatic 128, 3) := by decide +kernel
theorem dX8_flag_7 : decode cX8_flag 7 = .ok (.ifCond .ne 10, 3) := by decide +kernel
theorem dX8_flag_10 : decode cX8_flag 10 = .ok (.aload_n 0, 1) := by decide +kernel
theorem dX8_flag_11 : decode cX8_flag 11 = .ok (.bipush (-3), 2) := by decide +kernel
theorem dX8_flag_13 : decode cX8_flag 13 = .ok (.invokevirtual 122, 3) := by decide +kernel
theorem dX8_flag_16 : decode cX8_flag 16 = .ok (.ireturn, 1) := by decide +kernel
theorem dX8_flag_17 : decode cX8_flag 17 = .ok (.aload_n 0, 1) := by decide +kernel
theorem dX8_flag_18 : decode cX8_flag 18 = .ok (.getfield 7, 3) := by decide +kernel
theorem dX8_flag_21 : decode cX8_flag 21 = .ok (.bipush 8, 2) := by decide +kernel
theorem dX8_flag_23 : decode cX8_flag 23 = .ok (.iload_n 1, 1) := by decide +kernel
theorem dX8_flag_24 : decode cX8_flag 24 = .ok (.iadd, 1) := by decide +kernel
theorem dX8_flag_25 : decode cX8_flag 25 = .ok (.laload, 1) := by decide +kernel
theorem dX8_flag_26 : decode cX8_flag 26 = .ok (.l2i, 1) := by decide +kernel
theorem dX8_flag_27 : decode cX8_flag 27 = .ok (.istore_n 3, 1) := by decide +kernel
theorem dX8_flag_28 : decode cX8_flag 28 = .ok (.aload_n 0, 1) := by decide +kernel
theorem dX8_flag_29 : decode cX8_flag 29 = .ok (.getfield 7, 3) := by decide +kernel
theorem dX8_flag_32 : decode cX8_flag 32 = .ok (.bipush 8, 2) := by decide +kernel
theorem dX8_flag_34 : decode cX8_flag 34 = .ok (.iload_n 1, 1) := by decide +kernel
theorem dX8_flag_35 : decode cX8_flag 35 = .ok (.iadd, 1) := by decide +kernel
theorem dX8_flag_36 : decode cX8_flag 36 = .ok (.iload_n 2, 1) := by decide +kernel
theorem dX8_flag_37 : decode cX8_flag 37 = .ok (.ifCond .eq 7, 3) := by decide +kernel
theorem dX8_flag_40 : decode cX8_flag 40 = .ok (.lconst 1, 1) := by decide +kernel
theorem dX8_flag_41 : decode cX8_flag 41 = .ok (.goto 4, 3) := by decide +kernel
theorem dX8_flag_44 : decode cX8_flag 44 = .ok (.lconst 0, 1) := by decide +kernel
theorem dX8_flag_45 : decode cX8_flag 45 = .ok (.lastore, 1) := by decide +kernel
theorem dX8_flag_46 : decode cX8_flag 46 = .ok (.iload_n 3, 1) := by decide +kernel
theorem dX8_flag_47 : decode cX8_flag 47 = .ok (.ireturn, 1) := by decide +kernel
theorem dX8_flags_0 : decode cX8_flags 0 = .ok (.aload_n 0, 1) := by decide +kernel
theorem dX8_flags_1 : decode cX8_flags 1 = .ok (.getfield 7, 3) := by decide +kernel
theorem dX8_flags_4 : decode cX8_flags 4 = .ok (.bipush 8, 2) := by decide +kernel
theorem dX8_flags_6 : decode cX8_flags 6 = .ok (.laload, 1) := by decide +kernel
theorem dX8_flags_7 : decode cX8_flags 7 = .ok (.ldc2_w 141, 3) := by decide +kernel
theorem dX8_flags_10 : decode cX8_flags 10 = .ok (.aload_n 0, 1) := by decide +kernel
theorem dX8_flags_11 : decode cX8_flags 11 = .ok (.getfield 7, 3) := by decide +kernel
theorem dX8_flags_14 : decode cX8_flags 14 = .ok (.bipush 9, 2) := by decide +kernel
theorem dX8_flags_16 : decode cX8_flags 16 = .ok (.laload, 1) := by decide +kernel
theorem dX8_flags_17 : decode cX8_flags 17 = .ok (.lmul, 1) := by decide +kernel
theorem dX8_flags_18 : decode cX8_flags 18 = .ok (.ladd, 1) := by decide +kernel
theorem dX8_flags_19 : decode cX8_flags 19 = .ok (.l2i, 1) := by decide +kernel
theorem dX8_flags_20 : decode cX8_flags 20 = .ok (.ireturn, 1) := by decide +kernel
theorem dX8_hasD_0 : decode cX8_hasD 0 = .ok (.iload_n 0, 1) := by decide +kernel
theorem dX8_hasD_1 : decode cX8_hasD 1 = .ok (.bipush 7, 2) := by decide +kernel
theorem dX8_hasD_3 : decode cX8_hasD 3 = .ok (.if_icmp .gt 7, 3) := by decide +kernel
theorem dX8_hasD_6 : decode cX8_hasD 6 = .ok (.iconst 1, 1) := by decide +kernel
theorem dX8_hasD_7 : decode cX8_hasD 7 = .ok (.goto 4, 3) := by decide +kernel
theorem dX8_hasD_10 : decode cX8_hasD 10 = .ok (.iconst 0, 1) := by decide +kernel
theorem dX8_hasD_11 : decode cX8_hasD 11 = .ok (.ireturn, 1) := by decide +kernel
theorem dX8_hasY_0 : decode cX8_hasY 0 = .ok (.iload_n 0, 1) := by decide +kernel
theorem dX8_hasY_1 : decode cX8_hasY 1 = .ok (.iconst 2, 1) := by decide +kernel
theorem dX8_hasY_2 : decode cX8_hasY 2 = .ok (.if_icmp .lt 13, 3) := by decide +kernel
theorem dX8_hasY_5 : decode cX8_hasY 5 = .ok (.iload_n 0, 1) := by decide +kernel
theorem dX8_hasY_6 : decode cX8_hasY 6 = .ok (.bipush 7, 2) := by decide +kernel
theorem dX8_hasY_8 : decode cX8_hasY 8 = .ok (.if_icmp .eq 7, 3) := by decide +kernel
theorem dX8_hasY_11 : decode cX8_hasY 11 = .ok (.iconst 1, 1) := by decide +kernel
theorem dX8_hasY_12 : decode cX8_hasY 12 = .ok (.goto 4, 3) := by decide +kernel
theorem dX8_hasY_15 : decode cX8_hasY 15 = .ok (.iconst 0, 1) := by decide +kernel
theorem dX8_hasY_16 : decode cX8_hasY 16 = .ok (.ireturn, 1) := by decide +kernel
set_option maxRecDepth 20000 in
theorem ggX8_isActs_X8_isIn : GoodIn wsX8_isActs wsX8_isIn := goodIn_r _ [8] (by decide +kernel) (by decide +kernel)
set_option maxRecDepth 20000 in
theorem gX8_isActs_X8_isIn : GoodIn wsX8_isActs (va_wsS RX8 128 yX8_isIn wsX8_isIn) := goodIn_app (goodIn_of _ (by decide +kernel)) ggX8_isActs_X8_isIn
set_option maxRecDepth 20000 in
theorem ggX8_isActs_X8_hasD : GoodIn wsX8_isActs wsX8_hasD := goodIn_r _ [11] (by decide +kernel) (by decide +kernel)
set_option maxRecDepth 20000 in
theorem gX8_isActs_X8_hasD : GoodIn wsX8_isActs (va_wsS RX8 145 yX8_hasD wsX8_hasD) := goodIn_app (goodIn_of _ (by decide +kernel)) ggX8_isActs_X8_hasD
set_option maxRecDepth 20000 in
theorem ggX8_isActs_X8_isRegister : GoodIn wsX8_isActs wsX8_isRegister := goodIn_r _ [14] (by decide +kernel) (by decide +kernel)
set_option maxRecDepth 20000 in
theorem gX8_isActs_X8_isRegister : GoodIn wsX8_isActs (va_wsS RX8 118 yX8_isRegister wsX8_isRegister) := goodIn_app (goodIn_of _ (by decide +kernel)) ggX8_isActs_X8_isRegister
set_option maxRecDepth 20000 in
theorem ggX8_isActs_X8_hasY : GoodIn wsX8_isActs wsX8_hasY := goodIn_r _ [17] (by decide +kernel) (by decide +kernel)
set_option maxRecDepth 20000 in
theorem gX8_isActs_X8_hasY : GoodIn wsX8_isActs (va_wsS RX8 150 yX8_hasY wsX8_hasY) := goodIn_app (goodIn_of _ (by decide +kernel)) ggX8_isActs_X8_hasY
theorem dX8_isActs_0 : decode cX8_isActs 0 = .ok (.iload_n 0, 1) := by decide +kernel
theorem dX8_isActs_1 : decode cX8_isActs 1 = .ok (.i2l, 1) := by decide +kernel
theorem dX8_isActs_2 : decode cX8_isActs 2 = .ok (.lconst 0, 1) := by decide +kernel
theorem dX8_isActs_3 : decode cX8_isActs 3 = .ok (.ldc2_w 143, 3) := by decide +kernel
theorem dX8_isActs_6 : decode cX8_isActs 6 = .ok (.invokestatic 128, 3) := by decide +kernel
theorem dX8_isActs_9 : decode cX8_isActs 9 = .ok (.ifCond .eq 17, 3) := by decide +kernel
theorem dX8_isActs_12 : decode cX8_isActs 12 = .ok (.iload_n 0, 1) := by decide +kernel
theorem dX8_isActs_13 : decode cX8_isActs 13 = .ok (.invokestatic 145, 3) := by decide +kernel
theorem dX8_isActs_16 : decode cX8_isActs 16 = .ok (.ifCond .eq 12, 3) := by decide +kernel
theorem dX8_isActs_19 : decode cX8_isActs 19 = .ok (.iload_n 1, 1) := by decide +kernel
theorem dX8_isActs_20 : decode cX8_isActs 20 = .ok (.invokestatic 118, 3) := by decide +kernel
theorem dX8_isActs_23 : decode cX8_isActs 23 = .ok (.ifCond .ne 5, 3) := by decide +kernel
theorem dX8_isActs_26 : decode cX8_isActs 26 = .ok (.iconst 0, 1) := by decide +kernel
theorem dX8_isActs_27 : decode cX8_isActs 27 = .ok (.ireturn, 1) := by decide +kernel
theorem dX8_isActs_28 : decode cX8_isActs 28 = .ok (.iload_n 0, 1) := by decide +kernel
theorem dX8_isActs_29 : decode cX8_isActs 29 = .ok (.bipush 9, 2) := by decide +kernel
theorem dX8_isActs_31 : decode cX8_isActs 31 = .ok (.if_icmp .lt 7, 3) := by decide +kernel
theorem dX8_isActs_34 : decode cX8_isActs 34 = .ok (.iconst 1, 1) := by decide +kernel
theorem dX8_isActs_35 : decode cX8_isActs 35 = .ok (.goto 4, 3) := by decide +kernel
theorem dX8_isActs_38 : decode cX8_isActs 38 = .ok (.iconst 0, 1) := by decide +kernel
theorem dX8_isActs_39 : decode cX8_isActs 39 = .ok (.istore 4, 2) := by decide +kernel
theorem dX8_isActs_41 : decode cX8_isActs 41 = .ok (.iload_n 0, 1) := by decide +kernel
theorem dX8_isActs_42 : decode cX8_isActs 42 = .ok (.ifCond .ne 18, 3) := by decide +kernel
theorem dX8_isActs_45 : decode cX8_isActs 45 = .ok (.iload_n 2, 1) := by decide +kernel
theorem dX8_isActs_46 : decode cX8_isActs 46 = .ok (.i2l, 1) := by decide +kernel
theorem dX8_isActs_47 : decode cX8_isActs 47 = .ok (.lconst 0, 1) := by decide +kernel
theorem dX8_isActs_48 : decode cX8_isActs 48 = .ok (.ldc2_w 148, 3) := by decide +kernel
theorem dX8_isActs_51 : decode cX8_isActs 51 = .ok (.invokestatic 128, 3) := by decide +kernel
theorem dX8_isActs_54 : decode cX8_isActs 54 = .ok (.ifCond .ne 33, 3) := by decide +kernel
theorem dX8_isActs_57 : decode cX8_isActs 57 = .ok (.goto 28, 3) := by decide +kernel
theorem dX8_isActs_60 : decode cX8_isActs 60 = .ok (.iload 4, 2) := by decide +kernel
theorem dX8_isActs_62 : decode cX8_isActs 62 = .ok (.ifCond .eq 16, 3) := by decide +kernel
theorem dX8_isActs_65 : decode cX8_isActs 65 = .ok (.iload_n 2, 1) := by decide +kernel
theorem dX8_isActs_66 : decode cX8_isActs 66 = .ok (.i2l, 1) := by decide +kernel
theorem dX8_isActs_67 : decode cX8_isActs 67 = .ok (.lconst 0, 1) := by decide +kernel
theorem dX8_isActs_68 : decode cX8_isActs 68 = .ok (.lconst 1, 1) := by decide +kernel
theorem dX8_isActs_69 : decode cX8_isActs 69 = .ok (.invokestatic 128, 3) := by decide +kernel
theorem dX8_isActs_72 : decode cX8_isActs 72 = .ok (.ifCond .ne 15, 3) := by decide +kernel
theorem dX8_isActs_75 : decode cX8_isActs 75 = .ok (.goto 10, 3) := by decide +kernel
theorem dX8_isActs_78 : decode cX8_isActs 78 = .ok (.iload_n 2, 1) := by decide +kernel
theorem dX8_isActs_79 : decode cX8_isActs 79 = .ok (.invokestatic 118, 3) := by decide +kernel
theorem dX8_isActs_82 : decode cX8_isActs 82 = .ok (.ifCond .ne 5, 3) := by decide +kernel
theorem dX8_isActs_85 : decode cX8_isActs 85 = .ok (.iconst 0, 1) := by decide +kernel
theorem dX8_isActs_86 : decode cX8_isActs 86 = .ok (.ireturn, 1) := by decide +kernel
theorem dX8_isActs_87 : decode cX8_isActs 87 = .ok (.iload_n 0, 1) := by decide +kernel
theorem dX8_isActs_88 : decode cX8_isActs 88 = .ok (.invokestatic 150, 3) := by decide +kernel
theorem dX8_isActs_91 : decode cX8_isActs 91 = .ok (.ifCond .ne 5, 3) := by decide +kernel
theorem dX8_isActs_94 : decode cX8_isActs 94 = .ok (.iconst 1, 1) := by decide +kernel
theorem dX8_isActs_95 : decode cX8_isActs 95 = .ok (.ireturn, 1) := by decide +kernel
theorem dX8_isActs_96 : decode cX8_isActs 96 = .ok (.iload_n 0, 1) := by decide +kernel
theorem dX8_isActs_97 : decode cX8_isActs 97 = .ok (.bipush 6, 2) := by decide +kernel
theorem dX8_isActs_99 : decode cX8_isActs 99 = .ok (.if_icmp .ne 17, 3) := by decide +kernel
theorem dX8_isActs_102 : decode cX8_isActs 102 = .ok (.iload_n 3, 1) := by decide +kernel
theorem dX8_isActs_103 : decode cX8_isActs 103 = .ok (.i2l, 1) := by decide +kernel
theorem dX8_isActs_104 : decode cX8_isActs 104 = .ok (.ldc2_w 153, 3) := by decide +kernel
theorem dX8_isActs_107 : decode cX8_isActs 107 = .ok (.ldc2_w 155, 3) := by decide +kernel
theorem dX8_isActs_110 : decode cX8_isActs 110 = .ok (.invokestatic 128, 3) := by decide +kernel
theorem dX8_isActs_113 : decode cX8_isActs 113 = .ok (.goto 22, 3) := by decide +kernel
theorem dX8_isActs_116 : decode cX8_isActs 116 = .ok (.iload 4, 2) := by decide +kernel
theorem dX8_isActs_118 : decode cX8_isActs 118 = .ok (.ifCond .eq 13, 3) := by decide +kernel
theorem dX8_isActs_121 : decode cX8_isActs 121 = .ok (.iload_n 3, 1) := by decide +kernel
theorem dX8_isActs_122 : decode cX8_isActs 122 = .ok (.i2l, 1) := by decide +kernel
theorem dX8_isActs_123 : decode cX8_isActs 123 = .ok (.lconst 0, 1) := by decide +kernel
theorem dX8_isActs_124 : decode cX8_isActs 124 = .ok (.lconst 1, 1) := by decide +kernel
theorem dX8_isActs_125 : decode cX8_isActs 125 = .ok (.invokestatic 128, 3) := by decide +kernel
theorem dX8_isActs_128 : decode cX8_isActs 128 = .ok (.goto 7, 3) := by decide +kernel
theorem dX8_isActs_131 : decode cX8_isActs 131 = .ok (.iload_n 3, 1) := by decide +kernel
theorem dX8_isActs_132 : decode cX8_isActs 132 = .ok (.invokestatic 118, 3) := by decide +kernel
theorem dX8_isActs_135 : decode cX8_isActs 135 = .ok (.ireturn, 1) := by decide +kernel
set_option maxRecDepth 20000 in
theorem ggX8_act_X8_isInstruction : GoodIn wsX8_act wsX8_isInstruction := goodIn_r _ [11] (by decide +kernel) (by decide +kernel)
set_option maxRecDepth 20000 in
theorem gX8_act_X8_isInstruction : GoodIn wsX8_act (va_wsS RX8 157 yX8_isInstruction wsX8_isInstruction) := goodIn_app (goodIn_of _ (by decide +kernel)) ggX8_act_X8_isInstruction
set_option maxRecDepth 20000 in
theorem ggX8_act_X8_no : GoodIn wsX8_act wsX8_no := goodIn_r _ [15, 16, 36, 37, 38, 39, 40, 41, 42, 43, 44, 45, 46, 47, 48, 49, 50, 51, 52, 53, 54, 55, 56, 57, 58, 59, 60, 61, 62, 63, 64, 65, 66, 67, 68, 69, 70, 71, 72, 73, 74, 75, 76, 77, 78, 79] (by decide +kernel) (by decide +kernel)
set_option maxRecDepth 20000 in
theorem gX8_act_X8_no : GoodIn wsX8_act (wsV RX8 122 RX8 yX8_no wsX8_no) := goodIn_app (goodIn_of _ (by decide +kernel)) ggX8_act_X8_no
set_option maxRecDepth 20000 in
theorem ggX8_act_X8_isActs : GoodIn wsX8_act wsX8_isActs := goodIn_r _ [19, 20, 21, 22, 23, 24, 25, 10, 26, 27, 28, 29, 30, 31, 32, 33, 34, 35] (by decide +kernel) (by decide +kernel)
set_option maxRecDepth 20000 in
theorem gX8_act_X8_isActs : GoodIn wsX8_act (va_wsS RX8 160 yX8_isActs wsX8_isActs) := goodIn_app (goodIn_of _ (by decide +kernel)) ggX8_act_X8_isActs
set_option maxRecDepth 20000 in
theorem ggX8_act_X8_hasD : GoodIn wsX8_act wsX8_hasD := goodIn_r _ [29] (by decide +kernel) (by decide +kernel)
set_option maxRecDepth 20000 in
theorem gX8_act_X8_hasD : GoodIn wsX8_act (va_wsS RX8 145 yX8_hasD wsX8_hasD) := goodIn_app (goodIn_of _ (by decide +kernel)) ggX8_act_X8_hasD
set_option maxRecDepth 20000 in
theorem ggX8_act_X8_hasY : GoodIn wsX8_act wsX8_hasY := goodIn_r _ [35] (by decide +kernel) (by decide +kernel)
set_option maxRecDepth 20000 in
theorem gX8_act_X8_hasY : GoodIn wsX8_act (va_wsS RX8 150 yX8_hasY wsX8_hasY) := goodIn_app (goodIn_of _ (by decide +kernel)) ggX8_act_X8_hasY
theorem dX8_act_0 : decode cX8_act 0 = .ok (.iload_n 1, 1) := by decide +kernel
theorem dX8_act_1 : decode cX8_act 1 = .ok (.invokestatic 157, 3) := by decide +kernel
theorem dX8_act_4 : decode cX8_act 4 = .ok (.ifCond .ne 10, 3) := by decide +kernel
theorem dX8_act_7 : decode cX8_act 7 = .ok (.aload_n 0, 1) := by decide +kernel
theorem dX8_act_8 : decode cX8_act 8 = .ok (.bipush (-3), 2) := by decide +kernel
theorem dX8_act_10 : decode cX8_act 10 = .ok (.invokevirtual 122, 3) := by decide +kernel
theorem dX8_act_13 : decode cX8_act 13 = .ok (.ireturn, 1) := by decide +kernel
theorem dX8_act_14 : decode cX8_act 14 = .ok (.iload_n 2, 1) := by decide +kernel
theorem dX8_act_15 : decode cX8_act 15 = .ok (.iload_n 3, 1) := by decide +kernel
theorem dX8_act_16 : decode cX8_act 16 = .ok (.iload 4, 2) := by decide +kernel
theorem dX8_act_18 : decode cX8_act 18 = .ok (.iload 5, 2) := by decide +kernel
theorem dX8_act_20 : decode cX8_act 20 = .ok (.invokestatic 160, 3) := by decide +kernel
theorem dX8_act_23 : decode cX8_act 23 = .ok (.ifCond .ne 10, 3) := by decide +kernel
theorem dX8_act_26 : decode cX8_act 26 = .ok (.aload_n 0, 1) := by decide +kernel
theorem dX8_act_27 : decode cX8_act 27 = .ok (.bipush (-6), 2) := by decide +kernel
theorem dX8_act_29 : decode cX8_act 29 = .ok (.invokevirtual 122, 3) := by decide +kernel
theorem dX8_act_32 : decode cX8_act 32 = .ok (.ireturn, 1) := by decide +kernel
theorem dX8_act_33 : decode cX8_act 33 = .ok (.aload_n 0, 1) := by decide +kernel
theorem dX8_act_34 : decode cX8_act 34 = .ok (.getfield 41, 3) := by decide +kernel
theorem dX8_act_37 : decode cX8_act 37 = .ok (.iload_n 1, 1) := by decide +kernel
theorem dX8_act_38 : decode cX8_act 38 = .ok (.iaload, 1) := by decide +kernel
theorem dX8_act_39 : decode cX8_act 39 = .ok (.bipush 10, 2) := by decide +kernel
theorem dX8_act_41 : decode cX8_act 41 = .ok (.if_icmp .ne 10, 3) := by decide +kernel
theorem dX8_act_44 : decode cX8_act 44 = .ok (.aload_n 0, 1) := by decide +kernel
theorem dX8_act_45 : decode cX8_act 45 = .ok (.bipush (-7), 2) := by decide +kernel
theorem dX8_act_47 : decode cX8_act 47 = .ok (.invokevirtual 122, 3) := by decide +kernel
theorem dX8_act_50 : decode cX8_act 50 = .ok (.ireturn, 1) := by decide +kernel
theorem dX8_act_51 : decode cX8_act 51 = .ok (.bipush 10, 2) := by decide +kernel
theorem dX8_act_53 : decode cX8_act 53 = .ok (.iload_n 1, 1) := by decide +kernel
theorem dX8_act_54 : decode cX8_act 54 = .ok (.imul, 1) := by decide +kernel
theorem dX8_act_55 : decode cX8_act 55 = .ok (.aload_n 0, 1) := by decide +kernel
theorem dX8_act_56 : decode cX8_act 56 = .ok (.getfield 41, 3) := by decide +kernel
theorem dX8_act_59 : decode cX8_act 59 = .ok (.iload_n 1, 1) := by decide +kernel
theorem dX8_act_60 : decode cX8_act 60 = .ok (.iaload, 1) := by decide +kernel
theorem dX8_act_61 : decode cX8_act 61 = .ok (.iadd, 1) := by decide +kernel
theorem dX8_act_62 : decode cX8_act 62 = .ok (.istore 6, 2) := by decide +kernel
theorem dX8_act_64 : decode cX8_act 64 = .ok (.aload_n 0, 1) := by decide +kernel
theorem dX8_act_65 : decode cX8_act 65 = .ok (.getfield 29, 3) := by decide +kernel
theorem dX8_act_68 : decode cX8_act 68 = .ok (.iload 6, 2) := by decide +kernel
theorem dX8_act_70 : decode cX8_act 70 = .ok (.iload_n 2, 1) := by decide +kernel
theorem dX8_act_71 : decode cX8_act 71 = .ok (.iastore, 1) := by decide +kernel
theorem dX8_act_72 : decode cX8_act 72 = .ok (.aload_n 0, 1) := by decide +kernel
theorem dX8_act_73 : decode cX8_act 73 = .ok (.getfield 32, 3) := by decide +kernel
theorem dX8_act_76 : decode cX8_act 76 = .ok (.iload 6, 2) := by decide +kernel
theorem dX8_act_78 : decode cX8_act 78 = .ok (.iload_n 2, 1) := by decide +kernel
theorem dX8_act_79 : decode cX8_act 79 = .ok (.invokestatic 145, 3) := by decide +kernel
theorem dX8_act_82 : decode cX8_act 82 = .ok (.ifCond .eq 7, 3) := by decide +kernel
theorem dX8_act_85 : decode cX8_act 85 = .ok (.iload_n 3, 1) := by decide +kernel
theorem dX8_act_86 : decode cX8_act 86 = .ok (.goto 4, 3) := by decide +kernel
theorem dX8_act_89 : decode cX8_act 89 = .ok (.iconst (-1), 1) := by decide +kernel
theorem dX8_act_90 : decode cX8_act 90 = .ok (.iastore, 1) := by decide +kernel
theorem dX8_act_91 : decode cX8_act 91 = .ok (.aload_n 0, 1) := by decide +kernel
theorem dX8_act_92 : decode cX8_act 92 = .ok (.getfield 35, 3) := by decide +kernel
theorem dX8_act_95 : decode cX8_act 95 = .ok (.iload 6, 2) := by decide +kernel
theorem dX8_act_97 : decode cX8_act 97 = .ok (.iload 4, 2) := by decide +kernel
theorem dX8_act_99 : decode cX8_act 99 = .ok (.iastore, 1) := by decide +kernel
theorem dX8_act_100 : decode cX8_act 100 = .ok (.aload_n 0, 1) := by decide +kernel
theorem dX8_act_101 : decode cX8_act 101 = .ok (.getfield 38, 3) := by decide +kernel
theorem dX8_act_104 : decode cX8_act 104 = .ok (.iload 6, 2) := by decide +kernel
theorem dX8_act_106 : decode cX8_act 106 = .ok (.iload_n 2, 1) := by decide +kernel
theorem dX8_act_107 : decode cX8_act 107 = .ok (.invokestatic 150, 3) := by decide +kernel
theorem dX8_act_110 : decode cX8_act 110 = .ok (.ifCond .eq 8, 3) := by decide +kernel
theorem dX8_act_113 : decode cX8_act 113 = .ok (.iload 5, 2) := by decide +kernel
theorem dX8_act_115 : decode cX8_act 115 = .ok (.goto 4, 3) := by decide +kernel
theorem dX8_act_118 : decode cX8_act 118 = .ok (.iconst (-1), 1) := by decide +kernel
theorem dX8_act_119 : decode cX8_act 119 = .ok (.iastore, 1) := by decide +kernel
theorem dX8_act_120 : decode cX8_act 120 = .ok (.aload_n 0, 1) := by decide +kernel
theorem dX8_act_121 : decode cX8_act 121 = .ok (.getfield 41, 3) := by decide +kernel
theorem dX8_act_124 : decode cX8_act 124 = .ok (.iload_n 1, 1) := by decide +kernel
theorem dX8_act_125 : decode cX8_act 125 = .ok (.dup2, 1) := by decide +kernel
theorem dX8_act_126 : decode cX8_act 126 = .ok (.iaload, 1) := by decide +kernel
theorem dX8_act_127 : decode cX8_act 127 = .ok (.iconst 1, 1) := by decide +kernel
theorem dX8_act_128 : decode cX8_act 128 = .ok (.iadd, 1) := by decide +kernel
theorem dX8_act_129 : decode cX8_act 129 = .ok (.iastore, 1) := by decide +kernel
theorem dX8_act_130 : decode cX8_act 130 = .ok (.aload_n 0, 1) := by decide +kernel
theorem dX8_act_131 : decode cX8_act 131 = .ok (.getfield 66, 3) := by decide +kernel
theorem dX8_act_134 : decode cX8_act 134 = .ok (.iload_n 1, 1) := by decide +kernel
theorem dX8_act_135 : decode cX8_act 135 = .ok (.iconst 0, 1) := by decide +kernel
theorem dX8_act_136 : decode cX8_act 136 = .ok (.bastore, 1) := by decide +kernel
theorem dX8_act_137 : decode cX8_act 137 = .ok (.aload_n 0, 1) := by decide +kernel
theorem dX8_act_138 : decode cX8_act 138 = .ok (.iconst 0, 1) := by decide +kernel
theorem dX8_act_139 : decode cX8_act 139 = .ok (.putfield 164, 3) := by decide +kernel
theorem dX8_act_142 : decode cX8_act 142 = .ok (.aload_n 0, 1) := by decide +kernel
theorem dX8_act_143 : decode cX8_act 143 = .ok (.getfield 41, 3) := by decide +kernel
theorem dX8_act_146 : decode cX8_act 146 = .ok (.iload_n 1, 1) := by decide +kernel
theorem dX8_act_147 : decode cX8_act 147 = .ok (.iaload, 1) := by decide +kernel
theorem dX8_act_148 : decode cX8_act 148 = .ok (.ireturn, 1) := by decide +kernel
set_option maxRecDepth 20000 in
theorem ggX8_clear_X8_isInstruction : GoodIn wsX8_clear wsX8_isInstruction := goodIn_r _ [7] (by decide +kernel) (by decide +kernel)
set_option maxRecDepth 20000 in
theorem gX8_clear_X8_isInstruction : GoodIn wsX8_clear (va_wsS RX8 157 yX8_isInstruction wsX8_isInstruction) := goodIn_app (goodIn_of _ (by decide +kernel)) ggX8_clear_X8_isInstruction
set_option maxRecDepth 20000 in
theorem ggX8_clear_X8_no : GoodIn wsX8_clear wsX8_no := goodIn_r _ [11, 12, 13, 14, 15, 16, 17, 18, 19, 20, 21, 22, 23, 24, 25, 26, 27, 28, 29, 30, 31, 32, 33, 34, 35, 36, 37, 38, 39, 40, 41, 42, 43, 44, 45, 46, 47, 48, 49, 50, 51, 52, 53, 54, 55, 56] (by decide +kernel) (by decide +kernel)
set_option maxRecDepth 20000 in
theorem gX8_clear_X8_no : GoodIn wsX8_clear (wsV RX8 122 RX8 yX8_no wsX8_no) := goodIn_app (goodIn_of _ (by decide +kernel)) ggX8_clear_X8_no
theorem dX8_clear_0 : decode cX8_clear 0 = .ok (.iload_n 1, 1) := by decide +kernel
theorem dX8_clear_1 : decode cX8_clear 1 = .ok (.invokestatic 157, 3) := by decide +kernel
theorem dX8_clear_4 : decode cX8_clear 4 = .ok (.ifCond .ne 10, 3) := by decide +kernel
theorem dX8_clear_7 : decode cX8_clear 7 = .ok (.aload_n 0, 1) := by decide +kernel
theorem dX8_clear_8 : decode cX8_clear 8 = .ok (.bipush (-3), 2) := by decide +kernel
theorem dX8_clear_10 : decode cX8_clear 10 = .ok (.invokevirtual 122, 3) := by decide +kernel
theorem dX8_clear_13 : decode cX8_clear 13 = .ok (.ireturn, 1) := by decide +kernel
theorem dX8_clear_14 : decode cX8_clear 14 = .ok (.aload_n 0, 1) := by decide +kernel
theorem dX8_clear_15 : decode cX8_clear 15 = .ok (.getfield 41, 3) := by decide +kernel
theorem dX8_clear_18 : decode cX8_clear 18 = .ok (.iload_n 1, 1) := by decide +kernel
theorem dX8_clear_19 : decode cX8_clear 19 = .ok (.iaload, 1) := by decide +kernel
theorem dX8_clear_20 : decode cX8_clear 20 = .ok (.istore_n 2, 1) := by decide +kernel
theorem dX8_clear_21 : decode cX8_clear 21 = .ok (.iload_n 2, 1) := by decide +kernel
theorem dX8_clear_22 : decode cX8_clear 22 = .ok (.ifCond .ne 5, 3) := by decide +kernel
theorem dX8_clear_25 : decode cX8_clear 25 = .ok (.iconst 0, 1) := by decide +kernel
theorem dX8_clear_26 : decode cX8_clear 26 = .ok (.ireturn, 1) := by decide +kernel
theorem dX8_clear_27 : decode cX8_clear 27 = .ok (.aload_n 0, 1) := by decide +kernel
theorem dX8_clear_28 : decode cX8_clear 28 = .ok (.getfield 41, 3) := by decide +kernel
theorem dX8_clear_31 : decode cX8_clear 31 = .ok (.iload_n 1, 1) := by decide +kernel
theorem dX8_clear_32 : decode cX8_clear 32 = .ok (.iconst 0, 1) := by decide +kernel
theorem dX8_clear_33 : decode cX8_clear 33 = .ok (.iastore, 1) := by decide +kernel
theorem dX8_clear_34 : decode cX8_clear 34 = .ok (.aload_n 0, 1) := by decide +kernel
theorem dX8_clear_35 : decode cX8_clear 35 = .ok (.getfield 66, 3) := by decide +kernel
theorem dX8_clear_38 : decode cX8_clear 38 = .ok (.iload_n 1, 1) := by decide +kernel
theorem dX8_clear_39 : decode cX8_clear 39 = .ok (.iconst 0, 1) := by decide +kernel
theorem dX8_clear_40 : decode cX8_clear 40 = .ok (.bastore, 1) := by decide +kernel
theorem dX8_clear_41 : decode cX8_clear 41 = .ok (.aload_n 0, 1) := by decide +kernel
theorem dX8_clear_42 : decode cX8_clear 42 = .ok (.iconst 0, 1) := by decide +kernel
theorem dX8_clear_43 : decode cX8_clear 43 = .ok (.putfield 164, 3) := by decide +kernel
theorem dX8_clear_46 : decode cX8_clear 46 = .ok (.iload_n 2, 1) := by decide +kernel
theorem dX8_clear_47 : decode cX8_clear 47 = .ok (.ireturn, 1) := by decide +kernel
set_option maxRecDepth 20000 in
theorem ggX8_isAct_X8_isInstruction : GoodIn wsX8_isAct wsX8_isInstruction := goodIn_r _ [5] (by decide +kernel) (by decide +kernel)
set_option maxRecDepth 20000 in
theorem gX8_isAct_X8_isInstruction : GoodIn wsX8_isAct (va_wsS RX8 157 yX8_isInstruction wsX8_isInstruction) := goodIn_app (goodIn_of _ (by decide +kernel)) ggX8_isAct_X8_isInstruction
theorem dX8_isAct_0 : decode cX8_isAct 0 = .ok (.iload_n 1, 1) := by decide +kernel
theorem dX8_isAct_1 : decode cX8_isAct 1 = .ok (.invokestatic 157, 3) := by decide +kernel
theorem dX8_isAct_4 : decode cX8_isAct 4 = .ok (.ifCond .eq 21, 3) := by decide +kernel
theorem dX8_isAct_7 : decode cX8_isAct 7 = .ok (.iload_n 2, 1) := by decide +kernel
theorem dX8_isAct_8 : decode cX8_isAct 8 = .ok (.ifCond .lt 17, 3) := by decide +kernel
theorem dX8_isAct_11 : decode cX8_isAct 11 = .ok (.iload_n 2, 1) := by decide +kernel
theorem dX8_isAct_12 : decode cX8_isAct 12 = .ok (.aload_n 0, 1) := by decide +kernel
theorem dX8_isAct_13 : decode cX8_isAct 13 = .ok (.getfield 41, 3) := by decide +kernel
theorem dX8_isAct_16 : decode cX8_isAct 16 = .ok (.iload_n 1, 1) := by decide +kernel
theorem dX8_isAct_17 : decode cX8_isAct 17 = .ok (.iaload, 1) := by decide +kernel
theorem dX8_isAct_18 : decode cX8_isAct 18 = .ok (.if_icmp .ge 7, 3) := by decide +kernel
theorem dX8_isAct_21 : decode cX8_isAct 21 = .ok (.iconst 1, 1) := by decide +kernel
theorem dX8_isAct_22 : decode cX8_isAct 22 = .ok (.goto 4, 3) := by decide +kernel
theorem dX8_isAct_25 : decode cX8_isAct 25 = .ok (.iconst 0, 1) := by decide +kernel
theorem dX8_isAct_26 : decode cX8_isAct 26 = .ok (.ireturn, 1) := by decide +kernel
theorem dX8_partOf_0 : decode cX8_partOf 0 = .ok (.iload_n 0, 1) := by decide +kernel
theorem dX8_partOf_1 : decode cX8_partOf 1 = .ok (.iconst 1, 1) := by decide +kernel
theorem dX8_partOf_2 : decode cX8_partOf 2 = .ok (.if_icmp .gt 7, 3) := by decide +kernel
theorem dX8_partOf_5 : decode cX8_partOf 5 = .ok (.iconst 0, 1) := by decide +kernel
theorem dX8_partOf_6 : decode cX8_partOf 6 = .ok (.goto 33, 3) := by decide +kernel
theorem dX8_partOf_9 : decode cX8_partOf 9 = .ok (.iload_n 0, 1) := by decide +kernel
theorem dX8_partOf_10 : decode cX8_partOf 10 = .ok (.iconst 5, 1) := by decide +kernel
theorem dX8_partOf_11 : decode cX8_partOf 11 = .ok (.if_icmp .gt 7, 3) := by decide +kernel
theorem dX8_partOf_14 : decode cX8_partOf 14 = .ok (.iconst 1, 1) := by decide +kernel
theorem dX8_partOf_15 : decode cX8_partOf 15 = .ok (.goto 24, 3) := by decide +kernel
theorem dX8_partOf_18 : decode cX8_partOf 18 = .ok (.iload_n 0, 1) := by decide +kernel
theorem dX8_partOf_19 : decode cX8_partOf 19 = .ok (.bipush 6, 2) := by decide +kernel
theorem dX8_partOf_21 : decode cX8_partOf 21 = .ok (.if_icmp .ne 7, 3) := by decide +kernel
theorem dX8_partOf_24 : decode cX8_partOf 24 = .ok (.iconst 2, 1) := by decide +kernel
theorem dX8_partOf_25 : decode cX8_partOf 25 = .ok (.goto 14, 3) := by decide +kernel
theorem dX8_partOf_28 : decode cX8_partOf 28 = .ok (.iload_n 0, 1) := by decide +kernel
theorem dX8_partOf_29 : decode cX8_partOf 29 = .ok (.bipush 8, 2) := by decide +kernel
theorem dX8_partOf_31 : decode cX8_partOf 31 = .ok (.if_icmp .gt 7, 3) := by decide +kernel
theorem dX8_partOf_34 : decode cX8_partOf 34 = .ok (.iconst 3, 1) := by decide +kernel
theorem dX8_partOf_35 : decode cX8_partOf 35 = .ok (.goto 4, 3) := by decide +kernel
theorem dX8_partOf_38 : decode cX8_partOf 38 = .ok (.iconst 4, 1) := by decide +kernel
theorem dX8_partOf_39 : decode cX8_partOf 39 = .ok (.ireturn, 1) := by decide +kernel
theorem dX8_canTrap_0 : decode cX8_canTrap 0 = .ok (.iload_n 0, 1) := by decide +kernel
theorem dX8_canTrap_1 : decode cX8_canTrap 1 = .ok (.bipush 7, 2) := by decide +kernel
theorem dX8_canTrap_3 : decode cX8_canTrap 3 = .ok (.if_icmp .eq 15, 3) := by decide +kernel
theorem dX8_canTrap_6 : decode cX8_canTrap 6 = .ok (.iload_n 0, 1) := by decide +kernel
theorem dX8_canTrap_7 : decode cX8_canTrap 7 = .ok (.bipush 8, 2) := by decide +kernel
theorem dX8_canTrap_9 : decode cX8_canTrap 9 = .ok (.if_icmp .eq 9, 3) := by decide +kernel
theorem dX8_canTrap_12 : decode cX8_canTrap 12 = .ok (.iload_n 0, 1) := by decide +kernel
theorem dX8_canTrap_13 : decode cX8_canTrap 13 = .ok (.bipush 10, 2) := by decide +kernel
theorem dX8_canTrap_15 : decode cX8_canTrap 15 = .ok (.if_icmp .ne 7, 3) := by decide +kernel
theorem dX8_canTrap_18 : decode cX8_canTrap 18 = .ok (.iconst 1, 1) := by decide +kernel
theorem dX8_canTrap_19 : decode cX8_canTrap 19 = .ok (.goto 4, 3) := by decide +kernel
theorem dX8_canTrap_22 : decode cX8_canTrap 22 = .ok (.iconst 0, 1) := by decide +kernel
theorem dX8_canTrap_23 : decode cX8_canTrap 23 = .ok (.ireturn, 1) := by decide +kernel
set_option maxRecDepth 20000 in
theorem ggX8_look_X8_isAct : GoodIn wsX8_look wsX8_isAct := goodIn_r _ [9, 10, 11, 12, 8, 13, 25, 26, 27, 28, 29, 30, 31, 32, 33, 34, 35, 36, 37, 38, 39, 40, 41, 42, 43, 44, 45, 46, 47, 48, 49, 50, 51, 52, 53, 54, 55, 56, 57, 58, 59, 60, 61, 62, 63, 64, 65, 66, 67, 68] (by decide +kernel) (by decide +kernel)
set_option maxRecDepth 20000 in
theorem gX8_look_X8_isAct : GoodIn wsX8_look (wsV RX8 168 RX8 yX8_isAct wsX8_isAct) := goodIn_app (goodIn_of _ (by decide +kernel)) ggX8_look_X8_isAct
set_option maxRecDepth 20000 in
theorem ggX8_look_X8_no : GoodIn wsX8_look wsX8_no := goodIn_r _ [17, 18, 25, 26, 27, 28, 29, 30, 31, 32, 33, 34, 35, 36, 37, 38, 39, 40, 41, 42, 43, 44, 45, 46, 47, 48, 49, 50, 51, 52, 53, 54, 55, 56, 57, 58, 59, 60, 61, 62, 63, 64, 65, 66, 67, 68] (by decide +kernel) (by decide +kernel)
set_option maxRecDepth 20000 in
theorem gX8_look_X8_no : GoodIn wsX8_look (wsV RX8 122 RX8 yX8_no wsX8_no) := goodIn_app (goodIn_of _ (by decide +kernel)) ggX8_look_X8_no
set_option maxRecDepth 20000 in
theorem ggX8_look_X8_partOf : GoodIn wsX8_look wsX8_partOf := goodIn_r _ [21] (by decide +kernel) (by decide +kernel)
set_option maxRecDepth 20000 in
theorem gX8_look_X8_partOf : GoodIn wsX8_look (va_wsS RX8 172 yX8_partOf wsX8_partOf) := goodIn_app (goodIn_of _ (by decide +kernel)) ggX8_look_X8_partOf
set_option maxRecDepth 20000 in
theorem ggX8_look_X8_canTrap : GoodIn wsX8_look wsX8_canTrap := goodIn_r _ [24] (by decide +kernel) (by decide +kernel)
set_option maxRecDepth 20000 in
theorem gX8_look_X8_canTrap : GoodIn wsX8_look (va_wsS RX8 175 yX8_canTrap wsX8_canTrap) := goodIn_app (goodIn_of _ (by decide +kernel)) ggX8_look_X8_canTrap
theorem dX8_look_0 : decode cX8_look 0 = .ok (.aload_n 0, 1) := by decide +kernel
theorem dX8_look_1 : decode cX8_look 1 = .ok (.iload_n 1, 1) := by decide +kernel
theorem dX8_look_2 : decode cX8_look 2 = .ok (.iload_n 2, 1) := by decide +kernel
theorem dX8_look_3 : decode cX8_look 3 = .ok (.invokevirtual 168, 3) := by decide +kernel
theorem dX8_look_6 : decode cX8_look 6 = .ok (.ifCond .ne 10, 3) := by decide +kernel
theorem dX8_look_9 : decode cX8_look 9 = .ok (.aload_n 0, 1) := by decide +kernel
theorem dX8_look_10 : decode cX8_look 10 = .ok (.bipush (-3), 2) := by decide +kernel
theorem dX8_look_12 : decode cX8_look 12 = .ok (.invokevirtual 122, 3) := by decide +kernel
theorem dX8_look_15 : decode cX8_look 15 = .ok (.ireturn, 1) := by decide +kernel
theorem dX8_look_16 : decode cX8_look 16 = .ok (.bipush 10, 2) := by decide +kernel
theorem dX8_look_18 : decode cX8_look 18 = .ok (.iload_n 1, 1) := by decide +kernel
theorem dX8_look_19 : decode cX8_look 19 = .ok (.imul, 1) := by decide +kernel
theorem dX8_look_20 : decode cX8_look 20 = .ok (.iload_n 2, 1) := by decide +kernel
theorem dX8_look_21 : decode cX8_look 21 = .ok (.iadd, 1) := by decide +kernel
theorem dX8_look_22 : decode cX8_look 22 = .ok (.istore 4, 2) := by decide +kernel
theorem dX8_look_24 : decode cX8_look 24 = .ok (.iload_n 3, 1) := by decide +kernel
theorem dX8_look_25 : decode cX8_look 25 = .ok (.tableswitch 101 0 5 #[39, 47, 55, 63, 71, 82], 39) := by decide +kernel
theorem dX8_look_64 : decode cX8_look 64 = .ok (.aload_n 0, 1) := by decide +kernel
theorem dX8_look_65 : decode cX8_look 65 = .ok (.getfield 29, 3) := by decide +kernel
theorem dX8_look_68 : decode cX8_look 68 = .ok (.iload 4, 2) := by decide +kernel
theorem dX8_look_70 : decode cX8_look 70 = .ok (.iaload, 1) := by decide +kernel
theorem dX8_look_71 : decode cX8_look 71 = .ok (.ireturn, 1) := by decide +kernel
theorem dX8_look_72 : decode cX8_look 72 = .ok (.aload_n 0, 1) := by decide +kernel
theorem dX8_look_73 : decode cX8_look 73 = .ok (.getfield 32, 3) := by decide +kernel
theorem dX8_look_76 : decode cX8_look 76 = .ok (.iload 4, 2) := by decide +kernel
theorem dX8_look_78 : decode cX8_look 78 = .ok (.iaload, 1) := by decide +kernel
theorem dX8_look_79 : decode cX8_look 79 = .ok (.ireturn, 1) := by decide +kernel
theorem dX8_look_80 : decode cX8_look 80 = .ok (.aload_n 0, 1) := by decide +kernel
theorem dX8_look_81 : decode cX8_look 81 = .ok (.getfield 35, 3) := by decide +kernel
theorem dX8_look_84 : decode cX8_look 84 = .ok (.iload 4, 2) := by decide +kernel
theorem dX8_look_86 : decode cX8_look 86 = .ok (.iaload, 1) := by decide +kernel
theorem dX8_look_87 : decode cX8_look 87 = .ok (.ireturn, 1) := by decide +kernel
theorem dX8_look_88 : decode cX8_look 88 = .ok (.aload_n 0, 1) := by decide +kernel
theorem dX8_look_89 : decode cX8_look 89 = .ok (.getfield 38, 3) := by decide +kernel
theorem dX8_look_92 : decode cX8_look 92 = .ok (.iload 4, 2) := by decide +kernel
theorem dX8_look_94 : decode cX8_look 94 = .ok (.iaload, 1) := by decide +kernel
theorem dX8_look_95 : decode cX8_look 95 = .ok (.ireturn, 1) := by decide +kernel
theorem dX8_look_96 : decode cX8_look 96 = .ok (.aload_n 0, 1) := by decide +kernel
theorem dX8_look_97 : decode cX8_look 97 = .ok (.getfield 29, 3) := by decide +kernel
theorem dX8_look_100 : decode cX8_look 100 = .ok (.iload 4, 2) := by decide +kernel
theorem dX8_look_102 : decode cX8_look 102 = .ok (.iaload, 1) := by decide +kernel
theorem dX8_look_103 : decode cX8_look 103 = .ok (.invokestatic 172, 3) := by decide +kernel
theorem dX8_look_106 : decode cX8_look 106 = .ok (.ireturn, 1) := by decide +kernel
theorem dX8_look_107 : decode cX8_look 107 = .ok (.aload_n 0, 1) := by decide +kernel
theorem dX8_look_108 : decode cX8_look 108 = .ok (.getfield 29, 3) := by decide +kernel
theorem dX8_look_111 : decode cX8_look 111 = .ok (.iload 4, 2) := by decide +kernel
theorem dX8_look_113 : decode cX8_look 113 = .ok (.iaload, 1) := by decide +kernel
theorem dX8_look_114 : decode cX8_look 114 = .ok (.invokestatic 175, 3) := by decide +kernel
theorem dX8_look_117 : decode cX8_look 117 = .ok (.ifCond .eq 7, 3) := by decide +kernel
theorem dX8_look_120 : decode cX8_look 120 = .ok (.iconst 1, 1) := by decide +kernel
theorem dX8_look_121 : decode cX8_look 121 = .ok (.goto 4, 3) := by decide +kernel
theorem dX8_look_124 : decode cX8_look 124 = .ok (.iconst 0, 1) := by decide +kernel
theorem dX8_look_125 : decode cX8_look 125 = .ok (.ireturn, 1) := by decide +kernel
theorem dX8_look_126 : decode cX8_look 126 = .ok (.aload_n 0, 1) := by decide +kernel
theorem dX8_look_127 : decode cX8_look 127 = .ok (.bipush (-6), 2) := by decide +kernel
theorem dX8_look_129 : decode cX8_look 129 = .ok (.invokevirtual 122, 3) := by decide +kernel
theorem dX8_look_132 : decode cX8_look 132 = .ok (.ireturn, 1) := by decide +kernel
set_option maxRecDepth 20000 in
theorem ggX8_buses_X8_isIn : GoodIn wsX8_buses wsX8_isIn := goodIn_r _ [8] (by decide +kernel) (by decide +kernel)
set_option maxRecDepth 20000 in
theorem gX8_buses_X8_isIn : GoodIn wsX8_buses (va_wsS RX8 128 yX8_isIn wsX8_isIn) := goodIn_app (goodIn_of _ (by decide +kernel)) ggX8_buses_X8_isIn
set_option maxRecDepth 20000 in
theorem ggX8_buses_X8_no : GoodIn wsX8_buses wsX8_no := goodIn_r _ [12, 13, 14, 15, 16, 17, 18, 19, 20, 21, 22, 23, 24, 25, 26, 27, 28, 29, 30, 31, 32, 33, 34, 35, 36, 37, 38, 39, 40, 41, 42, 43, 44, 45, 46, 47, 48, 49, 50, 51, 52, 53, 54, 55, 56, 57] (by decide +kernel) (by decide +kernel)
set_option maxRecDepth 20000 in
theorem gX8_buses_X8_no : GoodIn wsX8_buses (wsV RX8 122 RX8 yX8_no wsX8_no) := goodIn_app (goodIn_of _ (by decide +kernel)) ggX8_buses_X8_no
theorem dX8_buses_0 : decode cX8_buses 0 = .ok (.iload_n 1, 1) := by decide +kernel
theorem dX8_buses_1 : decode cX8_buses 1 = .ok (.i2l, 1) := by decide +kernel
theorem dX8_buses_2 : decode cX8_buses 2 = .ok (.lconst 1, 1) := by decide +kernel
theorem dX8_buses_3 : decode cX8_buses 3 = .ok (.ldc2_w 178, 3) := by decide +kernel
theorem dX8_buses_6 : decode cX8_buses 6 = .ok (.invokestatic 128, 3) := by decide +kernel
theorem dX8_buses_9 : decode cX8_buses 9 = .ok (.ifCond .ne 10, 3) := by decide +kernel
theorem dX8_buses_12 : decode cX8_buses 12 = .ok (.aload_n 0, 1) := by decide +kernel
theorem dX8_buses_13 : decode cX8_buses 13 = .ok (.bipush (-6), 2) := by decide +kernel
theorem dX8_buses_15 : decode cX8_buses 15 = .ok (.invokevirtual 122, 3) := by decide +kernel
theorem dX8_buses_18 : decode cX8_buses 18 = .ok (.ireturn, 1) := by decide +kernel
theorem dX8_buses_19 : decode cX8_buses 19 = .ok (.aload_n 0, 1) := by decide +kernel
theorem dX8_buses_20 : decode cX8_buses 20 = .ok (.getfield 44, 3) := by decide +kernel
theorem dX8_buses_23 : decode cX8_buses 23 = .ok (.istore_n 2, 1) := by decide +kernel
theorem dX8_buses_24 : decode cX8_buses 24 = .ok (.aload_n 0, 1) := by decide +kernel
theorem dX8_buses_25 : decode cX8_buses 25 = .ok (.iload_n 1, 1) := by decide +kernel
theorem dX8_buses_26 : decode cX8_buses 26 = .ok (.putfield 44, 3) := by decide +kernel
theorem dX8_buses_29 : decode cX8_buses 29 = .ok (.iconst 0, 1) := by decide +kernel
theorem dX8_buses_30 : decode cX8_buses 30 = .ok (.istore_n 3, 1) := by decide +kernel
theorem dX8_buses_31 : decode cX8_buses 31 = .ok (.iload_n 3, 1) := by decide +kernel
theorem dX8_buses_32 : decode cX8_buses 32 = .ok (.bipush 12, 2) := by decide +kernel
theorem dX8_buses_34 : decode cX8_buses 34 = .ok (.if_icmp .ge 21, 3) := by decide +kernel
theorem dX8_buses_37 : decode cX8_buses 37 = .ok (.iload_n 2, 1) := by decide +kernel
theorem dX8_buses_38 : decode cX8_buses 38 = .ok (.iload_n 1, 1) := by decide +kernel
theorem dX8_buses_39 : decode cX8_buses 39 = .ok (.if_icmp .eq 16, 3) := by decide +kernel
theorem dX8_buses_42 : decode cX8_buses 42 = .ok (.aload_n 0, 1) := by decide +kernel
theorem dX8_buses_43 : decode cX8_buses 43 = .ok (.getfield 66, 3) := by decide +kernel
theorem dX8_buses_46 : decode cX8_buses 46 = .ok (.iload_n 3, 1) := by decide +kernel
theorem dX8_buses_47 : decode cX8_buses 47 = .ok (.iconst 0, 1) := by decide +kernel
theorem dX8_buses_48 : decode cX8_buses 48 = .ok (.bastore, 1) := by decide +kernel
theorem dX8_buses_49 : decode cX8_buses 49 = .ok (.iinc 3 1, 3) := by decide +kernel
theorem dX8_buses_52 : decode cX8_buses 52 = .ok (.goto (-21), 3) := by decide +kernel
theorem dX8_buses_55 : decode cX8_buses 55 = .ok (.aload_n 0, 1) := by decide +kernel
theorem dX8_buses_56 : decode cX8_buses 56 = .ok (.aload_n 0, 1) := by decide +kernel
theorem dX8_buses_57 : decode cX8_buses 57 = .ok (.getfield 164, 3) := by decide +kernel
theorem dX8_buses_60 : decode cX8_buses 60 = .ok (.ifCond .eq 12, 3) := by decide +kernel
theorem dX8_buses_63 : decode cX8_buses 63 = .ok (.iload_n 2, 1) := by decide +kernel
theorem dX8_buses_64 : decode cX8_buses 64 = .ok (.iload_n 1, 1) := by decide +kernel
theorem dX8_buses_65 : decode cX8_buses 65 = .ok (.if_icmp .ne 7, 3) := by decide +kernel
theorem dX8_buses_68 : decode cX8_buses 68 = .ok (.iconst 1, 1) := by decide +kernel
theorem dX8_buses_69 : decode cX8_buses 69 = .ok (.goto 4, 3) := by decide +kernel
theorem dX8_buses_72 : decode cX8_buses 72 = .ok (.iconst 0, 1) := by decide +kernel
theorem dX8_buses_73 : decode cX8_buses 73 = .ok (.putfield 164, 3) := by decide +kernel
theorem dX8_buses_76 : decode cX8_buses 76 = .ok (.iload_n 2, 1) := by decide +kernel
theorem dX8_buses_77 : decode cX8_buses 77 = .ok (.ireturn, 1) := by decide +kernel
theorem dX8_reads_0 : decode cX8_reads 0 = .ok (.iconst 0, 1) := by decide +kernel
theorem dX8_reads_1 : decode cX8_reads 1 = .ok (.istore_n 2, 1) := by decide +kernel
theorem dX8_reads_2 : decode cX8_reads 2 = .ok (.aload_n 0, 1) := by decide +kernel
theorem dX8_reads_3 : decode cX8_reads 3 = .ok (.getfield 29, 3) := by decide +kernel
theorem dX8_reads_6 : decode cX8_reads 6 = .ok (.iload_n 1, 1) := by decide +kernel
theorem dX8_reads_7 : decode cX8_reads 7 = .ok (.iaload, 1) := by decide +kernel
theorem dX8_reads_8 : decode cX8_reads 8 = .ok (.iconst 1, 1) := by decide +kernel
theorem dX8_reads_9 : decode cX8_reads 9 = .ok (.if_icmp .lt 25, 3) := by decide +kernel
theorem dX8_reads_12 : decode cX8_reads 12 = .ok (.aload_n 0, 1) := by decide +kernel
theorem dX8_reads_13 : decode cX8_reads 13 = .ok (.getfield 29, 3) := by decide +kernel
theorem dX8_reads_16 : decode cX8_reads 16 = .ok (.iload_n 1, 1) := by decide +kernel
theorem dX8_reads_17 : decode cX8_reads 17 = .ok (.iaload, 1) := by decide +kernel
theorem dX8_reads_18 : decode cX8_reads 18 = .ok (.bipush 8, 2) := by decide +kernel
theorem dX8_reads_20 : decode cX8_reads 20 = .ok (.if_icmp .gt 14, 3) := by decide +kernel
theorem dX8_reads_23 : decode cX8_reads 23 = .ok (.iload_n 2, 1) := by decide +kernel
theorem dX8_reads_24 : decode cX8_reads 24 = .ok (.iconst 1, 1) := by decide +kernel
theorem dX8_reads_25 : decode cX8_reads 25 = .ok (.aload_n 0, 1) := by decide +kernel
theorem dX8_reads_26 : decode cX8_reads 26 = .ok (.getfield 35, 3) := by decide +kernel
theorem dX8_reads_29 : decode cX8_reads 29 = .ok (.iload_n 1, 1) := by decide +kernel
theorem dX8_reads_30 : decode cX8_reads 30 = .ok (.iaload, 1) := by decide +kernel
theorem dX8_reads_31 : decode cX8_reads 31 = .ok (.ishl, 1) := by decide +kernel
theorem dX8_reads_32 : decode cX8_reads 32 = .ok (.ior, 1) := by decide +kernel
theorem dX8_reads_33 : decode cX8_reads 33 = .ok (.istore_n 2, 1) := by decide +kernel
theorem dX8_reads_34 : decode cX8_reads 34 = .ok (.aload_n 0, 1) := by decide +kernel
theorem dX8_reads_35 : decode cX8_reads 35 = .ok (.getfield 29, 3) := by decide +kernel
theorem dX8_reads_38 : decode cX8_reads 38 = .ok (.iload_n 1, 1) := by decide +kernel
theorem dX8_reads_39 : decode cX8_reads 39 = .ok (.iaload, 1) := by decide +kernel
theorem dX8_reads_40 : decode cX8_reads 40 = .ok (.iconst 2, 1) := by decide +kernel
theorem dX8_reads_41 : decode cX8_reads 41 = .ok (.if_icmp .lt 13, 3) := by decide +kernel
theorem dX8_reads_44 : decode cX8_reads 44 = .ok (.aload_n 0, 1) := by decide +kernel
theorem dX8_reads_45 : decode cX8_reads 45 = .ok (.getfield 29, 3) := by decide +kernel
theorem dX8_reads_48 : decode cX8_reads 48 = .ok (.iload_n 1, 1) := by decide +kernel
theorem dX8_reads_49 : decode cX8_reads 49 = .ok (.iaload, 1) := by decide +kernel
theorem dX8_reads_50 : decode cX8_reads 50 = .ok (.iconst 5, 1) := by decide +kernel
theorem dX8_reads_51 : decode cX8_reads 51 = .ok (.if_icmp .le 14, 3) := by decide +kernel
theorem dX8_reads_54 : decode cX8_reads 54 = .ok (.aload_n 0, 1) := by decide +kernel
theorem dX8_reads_55 : decode cX8_reads 55 = .ok (.getfield 29, 3) := by decide +kernel
theorem dX8_reads_58 : decode cX8_reads 58 = .ok (.iload_n 1, 1) := by decide +kernel
theorem dX8_reads_59 : decode cX8_reads 59 = .ok (.iaload, 1) := by decide +kernel
theorem dX8_reads_60 : decode cX8_reads 60 = .ok (.bipush 8, 2) := by decide +kernel
theorem dX8_reads_62 : decode cX8_reads 62 = .ok (.if_icmp .ne 14, 3) := by decide +kernel
theorem dX8_reads_65 : decode cX8_reads 65 = .ok (.iload_n 2, 1) := by decide +kernel
theorem dX8_reads_66 : decode cX8_reads 66 = .ok (.iconst 1, 1) := by decide +kernel
theorem dX8_reads_67 : decode cX8_reads 67 = .ok (.aload_n 0, 1) := by decide +kernel
theorem dX8_reads_68 : decode cX8_reads 68 = .ok (.getfield 38, 3) := by decide +kernel
theorem dX8_reads_71 : decode cX8_reads 71 = .ok (.iload_n 1, 1) := by decide +kernel
theorem dX8_reads_72 : decode cX8_reads 72 = .ok (.iaload, 1) := by decide +kernel
theorem dX8_reads_73 : decode cX8_reads 73 = .ok (.ishl, 1) := by decide +kernel
theorem dX8_reads_74 : decode cX8_reads 74 = .ok (.ior, 1) := by decide +kernel
theorem dX8_reads_75 : decode cX8_reads 75 = .ok (.istore_n 2, 1) := by decide +kernel
theorem dX8_reads_76 : decode cX8_reads 76 = .ok (.aload_n 0, 1) := by decide +kernel
theorem dX8_reads_77 : decode cX8_reads 77 = .ok (.getfield 29, 3) := by decide +kernel
theorem dX8_reads_80 : decode cX8_reads 80 = .ok (.iload_n 1, 1) := by decide +kernel
theorem dX8_reads_81 : decode cX8_reads 81 = .ok (.iaload, 1) := by decide +kernel
theorem dX8_reads_82 : decode cX8_reads 82 = .ok (.bipush 7, 2) := by decide +kernel
theorem dX8_reads_84 : decode cX8_reads 84 = .ok (.if_icmp .ne 9, 3) := by decide +kernel
theorem dX8_reads_87 : decode cX8_reads 87 = .ok (.iload_n 2, 1) := by decide +kernel
theorem dX8_reads_88 : decode cX8_reads 88 = .ok (.sipush 1024, 3) := by decide +kernel
theorem dX8_reads_91 : decode cX8_reads 91 = .ok (.ior, 1) := by decide +kernel
theorem dX8_reads_92 : decode cX8_reads 92 = .ok (.istore_n 2, 1) := by decide +kernel
theorem dX8_reads_93 : decode cX8_reads 93 = .ok (.aload_n 0, 1) := by decide +kernel
theorem dX8_reads_94 : decode cX8_reads 94 = .ok (.getfield 29, 3) := by decide +kernel
theorem dX8_reads_97 : decode cX8_reads 97 = .ok (.iload_n 1, 1) := by decide +kernel
theorem dX8_reads_98 : decode cX8_reads 98 = .ok (.iaload, 1) := by decide +kernel
theorem dX8_reads_99 : decode cX8_reads 99 = .ok (.bipush 9, 2) := by decide +kernel
theorem dX8_reads_101 : decode cX8_reads 101 = .ok (.if_icmp .lt 17, 3) := by decide +kernel
theorem dX8_reads_104 : decode cX8_reads 104 = .ok (.iload_n 2, 1) := by decide +kernel
theorem dX8_reads_105 : decode cX8_reads 105 = .ok (.iconst 1, 1) := by decide +kernel
theorem dX8_reads_106 : decode cX8_reads 106 = .ok (.bipush 8, 2) := by decide +kernel
theorem dX8_reads_108 : decode cX8_reads 108 = .ok (.aload_n 0, 1) := by decide +kernel
theorem dX8_reads_109 : decode cX8_reads 109 = .ok (.getfield 35, 3) := by decide +kernel
theorem dX8_reads_112 : decode cX8_reads 112 = .ok (.iload_n 1, 1) := by decide +kernel
theorem dX8_reads_113 : decode cX8_reads 113 = .ok (.iaload, 1) := by decide +kernel
theorem dX8_reads_114 : decode cX8_reads 114 = .ok (.iadd, 1) := by decide +kernel
theorem dX8_reads_115 : decode cX8_reads 115 = .ok (.ishl, 1) := by decide +kernel
theorem dX8_reads_116 : decode cX8_reads 116 = .ok (.ior, 1) := by decide +kernel
theorem dX8_reads_117 : decode cX8_reads 117 = .ok (.istore_n 2, 1) := by decide +kernel
theorem dX8_reads_118 : decode cX8_reads 118 = .ok (.iload_n 2, 1) := by decide +kernel
theorem dX8_reads_119 : decode cX8_reads 119 = .ok (.ireturn, 1) := by decide +kernel
set_option maxRecDepth 20000 in
theorem ggX8_writes_X8_hasD : GoodIn wsX8_writes wsX8_hasD := goodIn_r _ [6] (by decide +kernel) (by decide +kernel)
set_option maxRecDepth 20000 in
theorem gX8_writes_X8_hasD : GoodIn wsX8_writes (va_wsS RX8 145 yX8_hasD wsX8_hasD) := goodIn_app (goodIn_of _ (by decide +kernel)) ggX8_writes_X8_hasD
theorem dX8_writes_0 : decode cX8_writes 0 = .ok (.aload_n 0, 1) := by decide +kernel
theorem dX8_writes_1 : decode cX8_writes 1 = .ok (.getfield 29, 3) := by decide +kernel
theorem dX8_writes_4 : decode cX8_writes 4 = .ok (.iload_n 1, 1) := by decide +kernel
theorem dX8_writes_5 : decode cX8_writes 5 = .ok (.iaload, 1) := by decide +kernel
theorem dX8_writes_6 : decode cX8_writes 6 = .ok (.invokestatic 145, 3) := by decide +kernel
theorem dX8_writes_9 : decode cX8_writes 9 = .ok (.ifCond .eq 14, 3) := by decide +kernel
theorem dX8_writes_12 : decode cX8_writes 12 = .ok (.iconst 1, 1) := by decide +kernel
theorem dX8_writes_13 : decode cX8_writes 13 = .ok (.aload_n 0, 1) := by decide +kernel
theorem dX8_writes_14 : decode cX8_writes 14 = .ok (.getfield 32, 3) := by decide +kernel
theorem dX8_writes_17 : decode cX8_writes 17 = .ok (.iload_n 1, 1) := by decide +kernel
theorem dX8_writes_18 : decode cX8_writes 18 = .ok (.iaload, 1) := by decide +kernel
theorem dX8_writes_19 : decode cX8_writes 19 = .ok (.ishl, 1) := by decide +kernel
theorem dX8_writes_20 : decode cX8_writes 20 = .ok (.goto 4, 3) := by decide +kernel
theorem dX8_writes_23 : decode cX8_writes 23 = .ok (.iconst 0, 1) := by decide +kernel
theorem dX8_writes_24 : decode cX8_writes 24 = .ok (.istore_n 2, 1) := by decide +kernel
theorem dX8_writes_25 : decode cX8_writes 25 = .ok (.aload_n 0, 1) := by decide +kernel
theorem dX8_writes_26 : decode cX8_writes 26 = .ok (.getfield 29, 3) := by decide +kernel
theorem dX8_writes_29 : decode cX8_writes 29 = .ok (.iload_n 1, 1) := by decide +kernel
theorem dX8_writes_30 : decode cX8_writes 30 = .ok (.iaload, 1) := by decide +kernel
theorem dX8_writes_31 : decode cX8_writes 31 = .ok (.iconst 2, 1) := by decide +kernel
theorem dX8_writes_32 : decode cX8_writes 32 = .ok (.if_icmp .lt 19, 3) := by decide +kernel
theorem dX8_writes_35 : decode cX8_writes 35 = .ok (.aload_n 0, 1) := by decide +kernel
theorem dX8_writes_36 : decode cX8_writes 36 = .ok (.getfield 29, 3) := by decide +kernel
theorem dX8_writes_39 : decode cX8_writes 39 = .ok (.iload_n 1, 1) := by decide +kernel
theorem dX8_writes_40 : decode cX8_writes 40 = .ok (.iaload, 1) := by decide +kernel
theorem dX8_writes_41 : decode cX8_writes 41 = .ok (.iconst 5, 1) := by decide +kernel
theorem dX8_writes_42 : decode cX8_writes 42 = .ok (.if_icmp .gt 9, 3) := by decide +kernel
theorem dX8_writes_45 : decode cX8_writes 45 = .ok (.iload_n 2, 1) := by decide +kernel
theorem dX8_writes_46 : decode cX8_writes 46 = .ok (.sipush 768, 3) := by decide +kernel
theorem dX8_writes_49 : decode cX8_writes 49 = .ok (.ior, 1) := by decide +kernel
theorem dX8_writes_50 : decode cX8_writes 50 = .ok (.istore_n 2, 1) := by decide +kernel
theorem dX8_writes_51 : decode cX8_writes 51 = .ok (.aload_n 0, 1) := by decide +kernel
theorem dX8_writes_52 : decode cX8_writes 52 = .ok (.getfield 29, 3) := by decide +kernel
theorem dX8_writes_55 : decode cX8_writes 55 = .ok (.iload_n 1, 1) := by decide +kernel
theorem dX8_writes_56 : decode cX8_writes 56 = .ok (.iaload, 1) := by decide +kernel
theorem dX8_writes_57 : decode cX8_writes 57 = .ok (.bipush 8, 2) := by decide +kernel
theorem dX8_writes_59 : decode cX8_writes 59 = .ok (.if_icmp .ne 9, 3) := by decide +kernel
theorem dX8_writes_62 : decode cX8_writes 62 = .ok (.iload_n 2, 1) := by decide +kernel
theorem dX8_writes_63 : decode cX8_writes 63 = .ok (.sipush 1024, 3) := by decide +kernel
theorem dX8_writes_66 : decode cX8_writes 66 = .ok (.ior, 1) := by decide +kernel
theorem dX8_writes_67 : decode cX8_writes 67 = .ok (.istore_n 2, 1) := by decide +kernel
theorem dX8_writes_68 : decode cX8_writes 68 = .ok (.iload_n 2, 1) := by decide +kernel
theorem dX8_writes_69 : decode cX8_writes 69 = .ok (.ireturn, 1) := by decide +kernel
set_option maxRecDepth 20000 in
theorem ggX8_needed_X8_writes : GoodIn wsX8_needed wsX8_writes := goodIn_r _ [6, 1, 7, 8, 9, 5, 10, 20, 21, 22, 23, 24, 25, 26, 27, 28, 29, 30, 31, 32, 33, 34, 35, 36, 37, 38, 39, 40, 41, 42, 43, 44, 45, 46, 47, 48, 49, 50, 51, 52, 53, 54, 55, 56, 57, 58, 59, 60, 61, 62, 63] (by decide +kernel) (by decide +kernel)
set_option maxRecDepth 20000 in
theorem gX8_needed_X8_writes : GoodIn wsX8_needed (wsV RX8 180 RX8 yX8_writes wsX8_writes) := goodIn_app (goodIn_of _ (by decide +kernel)) ggX8_needed_X8_writes
set_option maxRecDepth 20000 in
theorem ggX8_needed_X8_reads : GoodIn wsX8_needed wsX8_reads := goodIn_r _ [14, 1, 15, 16, 20, 21, 22, 23, 24, 25, 26, 27, 28, 29, 30, 31, 32, 33, 34, 35, 36, 37, 38, 39, 40, 41, 42, 43, 44, 45, 46, 47, 48, 49, 50, 51, 52, 53, 54, 55, 56, 57, 58, 59, 60, 61, 62, 63] (by decide +kernel) (by decide +kernel)
set_option maxRecDepth 20000 in
theorem gX8_needed_X8_reads : GoodIn wsX8_needed (wsV RX8 183 RX8 yX8_reads wsX8_reads) := goodIn_app (goodIn_of _ (by decide +kernel)) ggX8_needed_X8_reads
set_option maxRecDepth 20000 in
theorem ggX8_needed_X8_canTrap : GoodIn wsX8_needed wsX8_canTrap := goodIn_r _ [19] (by decide +kernel) (by decide +kernel)
set_option maxRecDepth 20000 in
theorem gX8_needed_X8_canTrap : GoodIn wsX8_needed (va_wsS RX8 175 yX8_canTrap wsX8_canTrap) := goodIn_app (goodIn_of _ (by decide +kernel)) ggX8_needed_X8_canTrap
theorem dX8_needed_0 : decode cX8_needed 0 = .ok (.aload_n 0, 1) := by decide +kernel
theorem dX8_needed_1 : decode cX8_needed 1 = .ok (.iload_n 1, 1) := by decide +kernel
theorem dX8_needed_2 : decode cX8_needed 2 = .ok (.invokevirtual 180, 3) := by decide +kernel
theorem dX8_needed_5 : decode cX8_needed 5 = .ok (.aload_n 0, 1) := by decide +kernel
theorem dX8_needed_6 : decode cX8_needed 6 = .ok (.iload_n 2, 1) := by decide +kernel
theorem dX8_needed_7 : decode cX8_needed 7 = .ok (.invokevirtual 183, 3) := by decide +kernel
theorem dX8_needed_10 : decode cX8_needed 10 = .ok (.aload_n 0, 1) := by decide +kernel
theorem dX8_needed_11 : decode cX8_needed 11 = .ok (.iload_n 2, 1) := by decide +kernel
theorem dX8_needed_12 : decode cX8_needed 12 = .ok (.invokevirtual 180, 3) := by decide +kernel
theorem dX8_needed_15 : decode cX8_needed 15 = .ok (.ior, 1) := by decide +kernel
theorem dX8_needed_16 : decode cX8_needed 16 = .ok (.iand, 1) := by decide +kernel
theorem dX8_needed_17 : decode cX8_needed 17 = .ok (.ifCond .ne 46, 3) := by decide +kernel
theorem dX8_needed_20 : decode cX8_needed 20 = .ok (.aload_n 0, 1) := by decide +kernel
theorem dX8_needed_21 : decode cX8_needed 21 = .ok (.getfield 29, 3) := by decide +kernel
theorem dX8_needed_24 : decode cX8_needed 24 = .ok (.iload_n 1, 1) := by decide +kernel
theorem dX8_needed_25 : decode cX8_needed 25 = .ok (.iaload, 1) := by decide +kernel
theorem dX8_needed_26 : decode cX8_needed 26 = .ok (.bipush 9, 2) := by decide +kernel
theorem dX8_needed_28 : decode cX8_needed 28 = .ok (.if_icmp .eq 35, 3) := by decide +kernel
theorem dX8_needed_31 : decode cX8_needed 31 = .ok (.aload_n 0, 1) := by decide +kernel
theorem dX8_needed_32 : decode cX8_needed 32 = .ok (.getfield 29, 3) := by decide +kernel
theorem dX8_needed_35 : decode cX8_needed 35 = .ok (.iload_n 1, 1) := by decide +kernel
theorem dX8_needed_36 : decode cX8_needed 36 = .ok (.iaload, 1) := by decide +kernel
theorem dX8_needed_37 : decode cX8_needed 37 = .ok (.invokestatic 175, 3) := by decide +kernel
theorem dX8_needed_40 : decode cX8_needed 40 = .ok (.ifCond .eq 25, 3) := by decide +kernel
theorem dX8_needed_43 : decode cX8_needed 43 = .ok (.aload_n 0, 1) := by decide +kernel
theorem dX8_needed_44 : decode cX8_needed 44 = .ok (.iload_n 2, 1) := by decide +kernel
theorem dX8_needed_45 : decode cX8_needed 45 = .ok (.invokevirtual 180, 3) := by decide +kernel
theorem dX8_needed_48 : decode cX8_needed 48 = .ok (.ifCond .ne 15, 3) := by decide +kernel
theorem dX8_needed_51 : decode cX8_needed 51 = .ok (.aload_n 0, 1) := by decide +kernel
theorem dX8_needed_52 : decode cX8_needed 52 = .ok (.getfield 29, 3) := by decide +kernel
theorem dX8_needed_55 : decode cX8_needed 55 = .ok (.iload_n 2, 1) := by decide +kernel
theorem dX8_needed_56 : decode cX8_needed 56 = .ok (.iaload, 1) := by decide +kernel
theorem dX8_needed_57 : decode cX8_needed 57 = .ok (.invokestatic 175, 3) := by decide +kernel
theorem dX8_needed_60 : decode cX8_needed 60 = .ok (.ifCond .eq 5, 3) := by decide +kernel
theorem dX8_needed_63 : decode cX8_needed 63 = .ok (.iconst 2, 1) := by decide +kernel
theorem dX8_needed_64 : decode cX8_needed 64 = .ok (.ireturn, 1) := by decide +kernel
theorem dX8_needed_65 : decode cX8_needed 65 = .ok (.aload_n 0, 1) := by decide +kernel
theorem dX8_needed_66 : decode cX8_needed 66 = .ok (.iload_n 1, 1) := by decide +kernel
theorem dX8_needed_67 : decode cX8_needed 67 = .ok (.invokevirtual 183, 3) := by decide +kernel
theorem dX8_needed_70 : decode cX8_needed 70 = .ok (.aload_n 0, 1) := by decide +kernel
theorem dX8_needed_71 : decode cX8_needed 71 = .ok (.iload_n 2, 1) := by decide +kernel
theorem dX8_needed_72 : decode cX8_needed 72 = .ok (.invokevirtual 180, 3) := by decide +kernel
theorem dX8_needed_75 : decode cX8_needed 75 = .ok (.iand, 1) := by decide +kernel
theorem dX8_needed_76 : decode cX8_needed 76 = .ok (.ifCond .ne 14, 3) := by decide +kernel
theorem dX8_needed_79 : decode cX8_needed 79 = .ok (.aload_n 0, 1) := by decide +kernel
theorem dX8_needed_80 : decode cX8_needed 80 = .ok (.getfield 29, 3) := by decide +kernel
theorem dX8_needed_83 : decode cX8_needed 83 = .ok (.iload_n 2, 1) := by decide +kernel
theorem dX8_needed_84 : decode cX8_needed 84 = .ok (.iaload, 1) := by decide +kernel
theorem dX8_needed_85 : decode cX8_needed 85 = .ok (.bipush 9, 2) := by decide +kernel
theorem dX8_needed_87 : decode cX8_needed 87 = .ok (.if_icmp .ne 7, 3) := by decide +kernel
theorem dX8_needed_90 : decode cX8_needed 90 = .ok (.iconst 1, 1) := by decide +kernel
theorem dX8_needed_91 : decode cX8_needed 91 = .ok (.goto 4, 3) := by decide +kernel
theorem dX8_needed_94 : decode cX8_needed 94 = .ok (.iconst 0, 1) := by decide +kernel
theorem dX8_needed_95 : decode cX8_needed 95 = .ok (.ireturn, 1) := by decide +kernel
set_option maxRecDepth 20000 in
theorem ggX8_needs_X8_isAct : GoodIn wsX8_needs wsX8_isAct := goodIn_r _ [5, 6, 7, 8, 4, 9, 37, 38, 39, 40, 41, 42, 43, 44, 45, 46, 47, 48, 49, 50, 51, 52, 53, 54, 55, 56, 57, 58, 59, 60, 61, 62, 63, 64, 65, 66, 67, 68, 69, 70, 71, 72, 73, 74, 75, 76, 77, 78, 79, 80] (by decide +kernel) (by decide +kernel)
set_option maxRecDepth 20000 in
theorem gX8_needs_X8_isAct : GoodIn wsX8_needs (wsV RX8 168 RX8 yX8_isAct wsX8_isAct) := goodIn_app (goodIn_of _ (by decide +kernel)) ggX8_needs_X8_isAct
set_option maxRecDepth 20000 in
theorem ggX8_needs_X8_no : GoodIn wsX8_needs wsX8_no := goodIn_r _ [13, 14, 37, 38, 39, 40, 41, 42, 43, 44, 45, 46, 47, 48, 49, 50, 51, 52, 53, 54, 55, 56, 57, 58, 59, 60, 61, 62, 63, 64, 65, 66, 67, 68, 69, 70, 71, 72, 73, 74, 75, 76, 77, 78, 79, 80] (by decide +kernel) (by decide +kernel)
set_option maxRecDepth 20000 in
theorem gX8_needs_X8_no : GoodIn wsX8_needs (wsV RX8 122 RX8 yX8_no wsX8_no) := goodIn_app (goodIn_of _ (by decide +kernel)) ggX8_needs_X8_no
set_option maxRecDepth 20000 in
theorem ggX8_needs_X8_needed : GoodIn wsX8_needs wsX8_needed := goodIn_r _ [18, 19, 20, 21, 22, 4, 23, 24, 25, 26, 27, 28, 29, 30, 31, 32, 33, 34, 35, 36, 37, 38, 39, 40, 41, 42, 43, 44, 45, 46, 47, 48, 49, 50, 51, 52, 53, 54, 55, 56, 57, 58, 59, 60, 61, 62, 63, 64, 65, 66, 67, 68, 69, 70, 71, 72, 73, 74, 75, 76, 77, 78, 79, 80] (by decide +kernel) (by decide +kernel)
set_option maxRecDepth 20000 in
theorem gX8_needs_X8_needed : GoodIn wsX8_needs (wsV RX8 186 RX8 yX8_needed wsX8_needed) := goodIn_app (goodIn_of _ (by decide +kernel)) ggX8_needs_X8_needed
theorem dX8_needs_0 : decode cX8_needs 0 = .ok (.aload_n 0, 1) := by decide +kernel
theorem dX8_needs_1 : decode cX8_needs 1 = .ok (.iload_n 1, 1) := by decide +kernel
theorem dX8_needs_2 : decode cX8_needs 2 = .ok (.iload_n 2, 1) := by decide +kernel
theorem dX8_needs_3 : decode cX8_needs 3 = .ok (.invokevirtual 168, 3) := by decide +kernel
theorem dX8_needs_6 : decode cX8_needs 6 = .ok (.ifCond .eq 12, 3) := by decide +kernel
theorem dX8_needs_9 : decode cX8_needs 9 = .ok (.aload_n 0, 1) := by decide +kernel
theorem dX8_needs_10 : decode cX8_needs 10 = .ok (.iload_n 1, 1) := by decide +kernel
theorem dX8_needs_11 : decode cX8_needs 11 = .ok (.iload_n 3, 1) := by decide +kernel
theorem dX8_needs_12 : decode cX8_needs 12 = .ok (.invokevirtual 168, 3) := by decide +kernel
theorem dX8_needs_15 : decode cX8_needs 15 = .ok (.ifCond .ne 10, 3) := by decide +kernel
theorem dX8_needs_18 : decode cX8_needs 18 = .ok (.aload_n 0, 1) := by decide +kernel
theorem dX8_needs_19 : decode cX8_needs 19 = .ok (.bipush (-3), 2) := by decide +kernel
theorem dX8_needs_21 : decode cX8_needs 21 = .ok (.invokevirtual 122, 3) := by decide +kernel
theorem dX8_needs_24 : decode cX8_needs 24 = .ok (.ireturn, 1) := by decide +kernel
theorem dX8_needs_25 : decode cX8_needs 25 = .ok (.iload_n 2, 1) := by decide +kernel
theorem dX8_needs_26 : decode cX8_needs 26 = .ok (.iload_n 3, 1) := by decide +kernel
theorem dX8_needs_27 : decode cX8_needs 27 = .ok (.if_icmp .lt 10, 3) := by decide +kernel
theorem dX8_needs_30 : decode cX8_needs 30 = .ok (.aload_n 0, 1) := by decide +kernel
theorem dX8_needs_31 : decode cX8_needs 31 = .ok (.bipush (-6), 2) := by decide +kernel
theorem dX8_needs_33 : decode cX8_needs 33 = .ok (.invokevirtual 122, 3) := by decide +kernel
theorem dX8_needs_36 : decode cX8_needs 36 = .ok (.ireturn, 1) := by decide +kernel
theorem dX8_needs_37 : decode cX8_needs 37 = .ok (.aload_n 0, 1) := by decide +kernel
theorem dX8_needs_38 : decode cX8_needs 38 = .ok (.bipush 10, 2) := by decide +kernel
theorem dX8_needs_40 : decode cX8_needs 40 = .ok (.iload_n 1, 1) := by decide +kernel
theorem dX8_needs_41 : decode cX8_needs 41 = .ok (.imul, 1) := by decide +kernel
theorem dX8_needs_42 : decode cX8_needs 42 = .ok (.iload_n 2, 1) := by decide +kernel
theorem dX8_needs_43 : decode cX8_needs 43 = .ok (.iadd, 1) := by decide +kernel
theorem dX8_needs_44 : decode cX8_needs 44 = .ok (.bipush 10, 2) := by decide +kernel
theorem dX8_needs_46 : decode cX8_needs 46 = .ok (.iload_n 1, 1) := by decide +kernel
theorem dX8_needs_47 : decode cX8_needs 47 = .ok (.imul, 1) := by decide +kernel
theorem dX8_needs_48 : decode cX8_needs 48 = .ok (.iload_n 3, 1) := by decide +kernel
theorem dX8_needs_49 : decode cX8_needs 49 = .ok (.iadd, 1) := by decide +kernel
theorem dX8_needs_50 : decode cX8_needs 50 = .ok (.invokevirtual 186, 3) := by decide +kernel
theorem dX8_needs_53 : decode cX8_needs 53 = .ok (.ireturn, 1) := by decide +kernel
set_option maxRecDepth 20000 in
theorem ggX8_isWord_X8_partOf : GoodIn wsX8_isWord wsX8_partOf := goodIn_r _ [9] (by decide +kernel) (by decide +kernel)
set_option maxRecDepth 20000 in
theorem gX8_isWord_X8_partOf : GoodIn wsX8_isWord (va_wsS RX8 172 yX8_partOf wsX8_partOf) := goodIn_app (goodIn_of _ (by decide +kernel)) ggX8_isWord_X8_partOf
theorem dX8_isWord_0 : decode cX8_isWord 0 = .ok (.iconst 0, 1) := by decide +kernel
theorem dX8_isWord_1 : decode cX8_isWord 1 = .ok (.istore 4, 2) := by decide +kernel
theorem dX8_isWord_3 : decode cX8_isWord 3 = .ok (.iconst 0, 1) := by decide +kernel
theorem dX8_isWord_4 : decode cX8_isWord 4 = .ok (.istore 5, 2) := by decide +kernel
theorem dX8_isWord_6 : decode cX8_isWord 6 = .ok (.iconst 0, 1) := by decide +kernel
theorem dX8_isWord_7 : decode cX8_isWord 7 = .ok (.istore 6, 2) := by decide +kernel
theorem dX8_isWord_9 : decode cX8_isWord 9 = .ok (.iload 6, 2) := by decide +kernel
theorem dX8_isWord_11 : decode cX8_isWord 11 = .ok (.aload_n 0, 1) := by decide +kernel
theorem dX8_isWord_12 : decode cX8_isWord 12 = .ok (.getfield 41, 3) := by decide +kernel
theorem dX8_isWord_15 : decode cX8_isWord 15 = .ok (.iload_n 1, 1) := by decide +kernel
theorem dX8_isWord_16 : decode cX8_isWord 16 = .ok (.iaload, 1) := by decide +kernel
theorem dX8_isWord_17 : decode cX8_isWord 17 = .ok (.if_icmp .ge 103, 3) := by decide +kernel
theorem dX8_isWord_20 : decode cX8_isWord 20 = .ok (.iload_n 3, 1) := by decide +kernel
theorem dX8_isWord_21 : decode cX8_isWord 21 = .ok (.iload 6, 2) := by decide +kernel
theorem dX8_isWord_23 : decode cX8_isWord 23 = .ok (.ishr, 1) := by decide +kernel
theorem dX8_isWord_24 : decode cX8_isWord 24 = .ok (.iconst 1, 1) := by decide +kernel
theorem dX8_isWord_25 : decode cX8_isWord 25 = .ok (.iand, 1) := by decide +kernel
theorem dX8_isWord_26 : decode cX8_isWord 26 = .ok (.ifCond .ne 6, 3) := by decide +kernel
theorem dX8_isWord_29 : decode cX8_isWord 29 = .ok (.goto 85, 3) := by decide +kernel
theorem dX8_isWord_32 : decode cX8_isWord 32 = .ok (.aload_n 0, 1) := by decide +kernel
theorem dX8_isWord_33 : decode cX8_isWord 33 = .ok (.getfield 29, 3) := by decide +kernel
theorem dX8_isWord_36 : decode cX8_isWord 36 = .ok (.bipush 10, 2) := by decide +kernel
theorem dX8_isWord_38 : decode cX8_isWord 38 = .ok (.iload_n 1, 1) := by decide +kernel
theorem dX8_isWord_39 : decode cX8_isWord 39 = .ok (.imul, 1) := by decide +kernel
theorem dX8_isWord_40 : decode cX8_isWord 40 = .ok (.iload 6, 2) := by decide +kernel
theorem dX8_isWord_42 : decode cX8_isWord 42 = .ok (.iadd, 1) := by decide +kernel
theorem dX8_isWord_43 : decode cX8_isWord 43 = .ok (.iaload, 1) := by decide +kernel
theorem dX8_isWord_44 : decode cX8_isWord 44 = .ok (.invokestatic 172, 3) := by decide +kernel
theorem dX8_isWord_47 : decode cX8_isWord 47 = .ok (.istore 7, 2) := by decide +kernel
theorem dX8_isWord_49 : decode cX8_isWord 49 = .ok (.iload 7, 2) := by decide +kernel
theorem dX8_isWord_51 : decode cX8_isWord 51 = .ok (.ifCond .ne 9, 3) := by decide +kernel
theorem dX8_isWord_54 : decode cX8_isWord 54 = .ok (.iinc 4 1, 3) := by decide +kernel
theorem dX8_isWord_57 : decode cX8_isWord 57 = .ok (.goto 25, 3) := by decide +kernel
theorem dX8_isWord_60 : decode cX8_isWord 60 = .ok (.iload 5, 2) := by decide +kernel
theorem dX8_isWord_62 : decode cX8_isWord 62 = .ok (.iload 7, 2) := by decide +kernel
theorem dX8_isWord_64 : decode cX8_isWord 64 = .ok (.ishr, 1) := by decide +kernel
theorem dX8_isWord_65 : decode cX8_isWord 65 = .ok (.iconst 1, 1) := by decide +kernel
theorem dX8_isWord_66 : decode cX8_isWord 66 = .ok (.iand, 1) := by decide +kernel
theorem dX8_isWord_67 : decode cX8_isWord 67 = .ok (.iconst 1, 1) := by decide +kernel
theorem dX8_isWord_68 : decode cX8_isWord 68 = .ok (.if_icmp .ne 5, 3) := by decide +kernel
theorem dX8_isWord_71 : decode cX8_isWord 71 = .ok (.iconst 0, 1) := by decide +kernel
theorem dX8_isWord_72 : decode cX8_isWord 72 = .ok (.ireturn, 1) := by decide +kernel
theorem dX8_isWord_73 : decode cX8_isWord 73 = .ok (.iload 5, 2) := by decide +kernel
theorem dX8_isWord_75 : decode cX8_isWord 75 = .ok (.iconst 1, 1) := by decide +kernel
theorem dX8_isWord_76 : decode cX8_isWord 76 = .ok (.iload 7, 2) := by decide +kernel
theorem dX8_isWord_78 : decode cX8_isWord 78 = .ok (.ishl, 1) := by decide +kernel
theorem dX8_isWord_79 : decode cX8_isWord 79 = .ok (.ior, 1) := by decide +kernel
theorem dX8_isWord_80 : decode cX8_isWord 80 = .ok (.istore 5, 2) := by decide +kernel
theorem dX8_isWord_82 : decode cX8_isWord 82 = .ok (.aload_n 0, 1) := by decide +kernel
theorem dX8_isWord_83 : decode cX8_isWord 83 = .ok (.getfield 60, 3) := by decide +kernel
theorem dX8_isWord_86 : decode cX8_isWord 86 = .ok (.iload 6, 2) := by decide +kernel
theorem dX8_isWord_88 : decode cX8_isWord 88 = .ok (.iaload, 1) := by decide +kernel
theorem dX8_isWord_89 : decode cX8_isWord 89 = .ok (.iload_n 2, 1) := by decide +kernel
theorem dX8_isWord_90 : decode cX8_isWord 90 = .ok (.iconst (-1), 1) := by decide +kernel
theorem dX8_isWord_91 : decode cX8_isWord 91 = .ok (.ixor, 1) := by decide +kernel
theorem dX8_isWord_92 : decode cX8_isWord 92 = .ok (.iand, 1) := by decide +kernel
theorem dX8_isWord_93 : decode cX8_isWord 93 = .ok (.ifCond .ne 19, 3) := by decide +kernel
theorem dX8_isWord_96 : decode cX8_isWord 96 = .ok (.aload_n 0, 1) := by decide +kernel
theorem dX8_isWord_97 : decode cX8_isWord 97 = .ok (.getfield 63, 3) := by decide +kernel
theorem dX8_isWord_100 : decode cX8_isWord 100 = .ok (.iload 6, 2) := by decide +kernel
theorem dX8_isWord_102 : decode cX8_isWord 102 = .ok (.iaload, 1) := by decide +kernel
theorem dX8_isWord_103 : decode cX8_isWord 103 = .ok (.iload_n 2, 1) := by decide +kernel
theorem dX8_isWord_104 : decode cX8_isWord 104 = .ok (.iload_n 3, 1) := by decide +kernel
theorem dX8_isWord_105 : decode cX8_isWord 105 = .ok (.ior, 1) := by decide +kernel
theorem dX8_isWord_106 : decode cX8_isWord 106 = .ok (.iconst (-1), 1) := by decide +kernel
theorem dX8_isWord_107 : decode cX8_isWord 107 = .ok (.ixor, 1) := by decide +kernel
theorem dX8_isWord_108 : decode cX8_isWord 108 = .ok (.iand, 1) := by decide +kernel
theorem dX8_isWord_109 : decode cX8_isWord 109 = .ok (.ifCond .eq 5, 3) := by decide +kernel
theorem dX8_isWord_112 : decode cX8_isWord 112 = .ok (.iconst 0, 1) := by decide +kernel
theorem dX8_isWord_113 : decode cX8_isWord 113 = .ok (.ireturn, 1) := by decide +kernel
theorem dX8_isWord_114 : decode cX8_isWord 114 = .ok (.iinc 6 1, 3) := by decide +kernel
theorem dX8_isWord_117 : decode cX8_isWord 117 = .ok (.goto (-108), 3) := by decide +kernel
theorem dX8_isWord_120 : decode cX8_isWord 120 = .ok (.iload 4, 2) := by decide +kernel
theorem dX8_isWord_122 : decode cX8_isWord 122 = .ok (.aload_n 0, 1) := by decide +kernel
theorem dX8_isWord_123 : decode cX8_isWord 123 = .ok (.getfield 44, 3) := by decide +kernel
theorem dX8_isWord_126 : decode cX8_isWord 126 = .ok (.if_icmp .gt 7, 3) := by decide +kernel
theorem dX8_isWord_129 : decode cX8_isWord 129 = .ok (.iconst 1, 1) := by decide +kernel
theorem dX8_isWord_130 : decode cX8_isWord 130 = .ok (.goto 4, 3) := by decide +kernel
theorem dX8_isWord_133 : decode cX8_isWord 133 = .ok (.iconst 0, 1) := by decide +kernel
theorem dX8_isWord_134 : decode cX8_isWord 134 = .ok (.ireturn, 1) := by decide +kernel
set_option maxRecDepth 20000 in
theorem ggX8_packs_X8_needed : GoodIn wsX8_packs wsX8_needed := goodIn_r _ [12, 13, 14, 15, 16, 11, 17, 18, 19, 20, 21, 22, 23, 24, 25, 26, 27, 28, 29, 30, 39, 40, 41, 42, 43, 44, 45, 46, 47, 48, 49, 50, 51, 52, 53, 54, 55, 56, 57, 58, 59, 60, 61, 62, 63, 64, 65, 66, 67, 68, 69, 70, 71, 72, 73, 74, 75, 76, 77, 78, 79, 80, 81, 82] (by decide +kernel) (by decide +kernel)
set_option maxRecDepth 20000 in
theorem gX8_packs_X8_needed : GoodIn wsX8_packs (wsV RX8 186 RX8 yX8_needed wsX8_needed) := goodIn_app (goodIn_of _ (by decide +kernel)) ggX8_packs_X8_needed
set_option maxRecDepth 20000 in
theorem ggX8_packs_X8_isWord : GoodIn wsX8_packs wsX8_isWord := goodIn_r _ [34, 2, 13, 3, 4, 35, 36, 37, 11, 38, 39, 40, 41, 42, 43, 44, 45, 46, 47, 48, 49, 50, 51, 52, 53, 54, 55, 56, 57, 58, 59, 60, 61, 62, 63, 64, 65, 66, 67, 68, 69, 70, 71, 72, 73, 74, 75, 76, 77, 78, 79, 80, 81, 82] (by decide +kernel) (by decide +kernel)
set_option maxRecDepth 20000 in
theorem gX8_packs_X8_isWord : GoodIn wsX8_packs (wsV RX8 190 RX8 yX8_isWord wsX8_isWord) := goodIn_app (goodIn_of _ (by decide +kernel)) ggX8_packs_X8_isWord
theorem dX8_packs_0 : decode cX8_packs 0 = .ok (.aload_n 0, 1) := by decide +kernel
theorem dX8_packs_1 : decode cX8_packs 1 = .ok (.getfield 66, 3) := by decide +kernel
theorem dX8_packs_4 : decode cX8_packs 4 = .ok (.iload_n 1, 1) := by decide +kernel
theorem dX8_packs_5 : decode cX8_packs 5 = .ok (.baload, 1) := by decide +kernel
theorem dX8_packs_6 : decode cX8_packs 6 = .ok (.ifCond .eq 4, 3) := by decide +kernel
theorem dX8_packs_9 : decode cX8_packs 9 = .ok (.return_, 1) := by decide +kernel
theorem dX8_packs_10 : decode cX8_packs 10 = .ok (.aload_n 0, 1) := by decide +kernel
theorem dX8_packs_11 : decode cX8_packs 11 = .ok (.getfield 41, 3) := by decide +kernel
theorem dX8_packs_14 : decode cX8_packs 14 = .ok (.iload_n 1, 1) := by decide +kernel
theorem dX8_packs_15 : decode cX8_packs 15 = .ok (.iaload, 1) := by decide +kernel
theorem dX8_packs_16 : decode cX8_packs 16 = .ok (.istore_n 2, 1) := by decide +kernel
theorem dX8_packs_17 : decode cX8_packs 17 = .ok (.iconst 1, 1) := by decide +kernel
theorem dX8_packs_18 : decode cX8_packs 18 = .ok (.iload_n 2, 1) := by decide +kernel
theorem dX8_packs_19 : decode cX8_packs 19 = .ok (.ishl, 1) := by decide +kernel
theorem dX8_packs_20 : decode cX8_packs 20 = .ok (.iconst 1, 1) := by decide +kernel
theorem dX8_packs_21 : decode cX8_packs 21 = .ok (.isub, 1) := by decide +kernel
theorem dX8_packs_22 : decode cX8_packs 22 = .ok (.istore_n 3, 1) := by decide +kernel
theorem dX8_packs_23 : decode cX8_packs 23 = .ok (.iconst 0, 1) := by decide +kernel
theorem dX8_packs_24 : decode cX8_packs 24 = .ok (.istore 4, 2) := by decide +kernel
theorem dX8_packs_26 : decode cX8_packs 26 = .ok (.iload 4, 2) := by decide +kernel
theorem dX8_packs_28 : decode cX8_packs 28 = .ok (.iload_n 2, 1) := by decide +kernel
theorem dX8_packs_29 : decode cX8_packs 29 = .ok (.if_icmp .ge 101, 3) := by decide +kernel
theorem dX8_packs_32 : decode cX8_packs 32 = .ok (.aload_n 0, 1) := by decide +kernel
theorem dX8_packs_33 : decode cX8_packs 33 = .ok (.getfield 60, 3) := by decide +kernel
theorem dX8_packs_36 : decode cX8_packs 36 = .ok (.iload 4, 2) := by decide +kernel
theorem dX8_packs_38 : decode cX8_packs 38 = .ok (.iconst 0, 1) := by decide +kernel
theorem dX8_packs_39 : decode cX8_packs 39 = .ok (.iastore, 1) := by decide +kernel
theorem dX8_packs_40 : decode cX8_packs 40 = .ok (.aload_n 0, 1) := by decide +kernel
theorem dX8_packs_41 : decode cX8_packs 41 = .ok (.getfield 63, 3) := by decide +kernel
theorem dX8_packs_44 : decode cX8_packs 44 = .ok (.iload 4, 2) := by decide +kernel
theorem dX8_packs_46 : decode cX8_packs 46 = .ok (.iconst 0, 1) := by decide +kernel
theorem dX8_packs_47 : decode cX8_packs 47 = .ok (.iastore, 1) := by decide +kernel
theorem dX8_packs_48 : decode cX8_packs 48 = .ok (.iconst 0, 1) := by decide +kernel
theorem dX8_packs_49 : decode cX8_packs 49 = .ok (.istore 5, 2) := by decide +kernel
theorem dX8_packs_51 : decode cX8_packs 51 = .ok (.iload 5, 2) := by decide +kernel
theorem dX8_packs_53 : decode cX8_packs 53 = .ok (.iload 4, 2) := by decide +kernel
theorem dX8_packs_55 : decode cX8_packs 55 = .ok (.if_icmp .ge 69, 3) := by decide +kernel
theorem dX8_packs_58 : decode cX8_packs 58 = .ok (.aload_n 0, 1) := by decide +kernel
theorem dX8_packs_59 : decode cX8_packs 59 = .ok (.bipush 10, 2) := by decide +kernel
theorem dX8_packs_61 : decode cX8_packs 61 = .ok (.iload_n 1, 1) := by decide +kernel
theorem dX8_packs_62 : decode cX8_packs 62 = .ok (.imul, 1) := by decide +kernel
theorem dX8_packs_63 : decode cX8_packs 63 = .ok (.iload 5, 2) := by decide +kernel
theorem dX8_packs_65 : decode cX8_packs 65 = .ok (.iadd, 1) := by decide +kernel
theorem dX8_packs_66 : decode cX8_packs 66 = .ok (.bipush 10, 2) := by decide +kernel
theorem dX8_packs_68 : decode cX8_packs 68 = .ok (.iload_n 1, 1) := by decide +kernel
theorem dX8_packs_69 : decode cX8_packs 69 = .ok (.imul, 1) := by decide +kernel
theorem dX8_packs_70 : decode cX8_packs 70 = .ok (.iload 4, 2) := by decide +kernel
theorem dX8_packs_72 : decode cX8_packs 72 = .ok (.iadd, 1) := by decide +kernel
theorem dX8_packs_73 : decode cX8_packs 73 = .ok (.invokevirtual 186, 3) := by decide +kernel
theorem dX8_packs_76 : decode cX8_packs 76 = .ok (.istore 6, 2) := by decide +kernel
theorem dX8_packs_78 : decode cX8_packs 78 = .ok (.iload 6, 2) := by decide +kernel
theorem dX8_packs_80 : decode cX8_packs 80 = .ok (.iconst 2, 1) := by decide +kernel
theorem dX8_packs_81 : decode cX8_packs 81 = .ok (.if_icmp .ne 17, 3) := by decide +kernel
theorem dX8_packs_84 : decode cX8_packs 84 = .ok (.aload_n 0, 1) := by decide +kernel
theorem dX8_packs_85 : decode cX8_packs 85 = .ok (.getfield 60, 3) := by decide +kernel
theorem dX8_packs_88 : decode cX8_packs 88 = .ok (.iload 4, 2) := by decide +kernel
theorem dX8_packs_90 : decode cX8_packs 90 = .ok (.dup2, 1) := by decide +kernel
theorem dX8_packs_91 : decode cX8_packs 91 = .ok (.iaload, 1) := by decide +kernel
theorem dX8_packs_92 : decode cX8_packs 92 = .ok (.iconst 1, 1) := by decide +kernel
theorem dX8_packs_93 : decode cX8_packs 93 = .ok (.iload 5, 2) := by decide +kernel
theorem dX8_packs_95 : decode cX8_packs 95 = .ok (.ishl, 1) := by decide +kernel
theorem dX8_packs_96 : decode cX8_packs 96 = .ok (.ior, 1) := by decide +kernel
theorem dX8_packs_97 : decode cX8_packs 97 = .ok (.iastore, 1) := by decide +kernel
theorem dX8_packs_98 : decode cX8_packs 98 = .ok (.iload 6, 2) := by decide +kernel
theorem dX8_packs_100 : decode cX8_packs 100 = .ok (.iconst 1, 1) := by decide +kernel
theorem dX8_packs_101 : decode cX8_packs 101 = .ok (.if_icmp .ne 17, 3) := by decide +kernel
theorem dX8_packs_104 : decode cX8_packs 104 = .ok (.aload_n 0, 1) := by decide +kernel
theorem dX8_packs_105 : decode cX8_packs 105 = .ok (.getfield 63, 3) := by decide +kernel
theorem dX8_packs_108 : decode cX8_packs 108 = .ok (.iload 4, 2) := by decide +kernel
theorem dX8_packs_110 : decode cX8_packs 110 = .ok (.dup2, 1) := by decide +kernel
theorem dX8_packs_111 : decode cX8_packs 111 = .ok (.iaload, 1) := by decide +kernel
theorem dX8_packs_112 : decode cX8_packs 112 = .ok (.iconst 1, 1) := by decide +kernel
theorem dX8_packs_113 : decode cX8_packs 113 = .ok (.iload 5, 2) := by decide +kernel
theorem dX8_packs_115 : decode cX8_packs 115 = .ok (.ishl, 1) := by decide +kernel
theorem dX8_packs_116 : decode cX8_packs 116 = .ok (.ior, 1) := by decide +kernel
theorem dX8_packs_117 : decode cX8_packs 117 = .ok (.iastore, 1) := by decide +kernel
theorem dX8_packs_118 : decode cX8_packs 118 = .ok (.iinc 5 1, 3) := by decide +kernel
theorem dX8_packs_121 : decode cX8_packs 121 = .ok (.goto (-70), 3) := by decide +kernel
theorem dX8_packs_124 : decode cX8_packs 124 = .ok (.iinc 4 1, 3) := by decide +kernel
theorem dX8_packs_127 : decode cX8_packs 127 = .ok (.goto (-101), 3) := by decide +kernel
theorem dX8_packs_130 : decode cX8_packs 130 = .ok (.aload_n 0, 1) := by decide +kernel
theorem dX8_packs_131 : decode cX8_packs 131 = .ok (.getfield 51, 3) := by decide +kernel
theorem dX8_packs_134 : decode cX8_packs 134 = .ok (.iload_n 3, 1) := by decide +kernel
theorem dX8_packs_135 : decode cX8_packs 135 = .ok (.iconst 0, 1) := by decide +kernel
theorem dX8_packs_136 : decode cX8_packs 136 = .ok (.iastore, 1) := by decide +kernel
theorem dX8_packs_137 : decode cX8_packs 137 = .ok (.iload_n 3, 1) := by decide +kernel
theorem dX8_packs_138 : decode cX8_packs 138 = .ok (.iconst 1, 1) := by decide +kernel
theorem dX8_packs_139 : decode cX8_packs 139 = .ok (.isub, 1) := by decide +kernel
theorem dX8_packs_140 : decode cX8_packs 140 = .ok (.istore 4, 2) := by decide +kernel
theorem dX8_packs_142 : decode cX8_packs 142 = .ok (.iload 4, 2) := by decide +kernel
theorem dX8_packs_144 : decode cX8_packs 144 = .ok (.ifCond .lt 101, 3) := by decide +kernel
theorem dX8_packs_147 : decode cX8_packs 147 = .ok (.aload_n 0, 1) := by decide +kernel
theorem dX8_packs_148 : decode cX8_packs 148 = .ok (.getfield 51, 3) := by decide +kernel
theorem dX8_packs_151 : decode cX8_packs 151 = .ok (.iload 4, 2) := by decide +kernel
theorem dX8_packs_153 : decode cX8_packs 153 = .ok (.sipush 1000, 3) := by decide +kernel
theorem dX8_packs_156 : decode cX8_packs 156 = .ok (.iastore, 1) := by decide +kernel
theorem dX8_packs_157 : decode cX8_packs 157 = .ok (.iload_n 3, 1) := by decide +kernel
theorem dX8_packs_158 : decode cX8_packs 158 = .ok (.iload 4, 2) := by decide +kernel
theorem dX8_packs_160 : decode cX8_packs 160 = .ok (.iconst (-1), 1) := by decide +kernel
theorem dX8_packs_161 : decode cX8_packs 161 = .ok (.ixor, 1) := by decide +kernel
theorem dX8_packs_162 : decode cX8_packs 162 = .ok (.iand, 1) := by decide +kernel
theorem dX8_packs_163 : decode cX8_packs 163 = .ok (.istore 5, 2) := by decide +kernel
theorem dX8_packs_165 : decode cX8_packs 165 = .ok (.iload 5, 2) := by decide +kernel
theorem dX8_packs_167 : decode cX8_packs 167 = .ok (.istore 6, 2) := by decide +kernel
theorem dX8_packs_169 : decode cX8_packs 169 = .ok (.iload 6, 2) := by decide +kernel
theorem dX8_packs_171 : decode cX8_packs 171 = .ok (.ifCond .le 68, 3) := by decide +kernel
theorem dX8_packs_174 : decode cX8_packs 174 = .ok (.aload_n 0, 1) := by decide +kernel
theorem dX8_packs_175 : decode cX8_packs 175 = .ok (.getfield 51, 3) := by decide +kernel
theorem dX8_packs_178 : decode cX8_packs 178 = .ok (.iload 4, 2) := by decide +kernel
theorem dX8_packs_180 : decode cX8_packs 180 = .ok (.iload 6, 2) := by decide +kernel
theorem dX8_packs_182 : decode cX8_packs 182 = .ok (.ior, 1) := by decide +kernel
theorem dX8_packs_183 : decode cX8_packs 183 = .ok (.iaload, 1) := by decide +kernel
theorem dX8_packs_184 : decode cX8_packs 184 = .ok (.iconst 1, 1) := by decide +kernel
theorem dX8_packs_185 : decode cX8_packs 185 = .ok (.iadd, 1) := by decide +kernel
theorem dX8_packs_186 : decode cX8_packs 186 = .ok (.aload_n 0, 1) := by decide +kernel
theorem dX8_packs_187 : decode cX8_packs 187 = .ok (.getfield 51, 3) := by decide +kernel
theorem dX8_packs_190 : decode cX8_packs 190 = .ok (.iload 4, 2) := by decide +kernel
theorem dX8_packs_192 : decode cX8_packs 192 = .ok (.iaload, 1) := by decide +kernel
theorem dX8_packs_193 : decode cX8_packs 193 = .ok (.if_icmp .ge 34, 3) := by decide +kernel
theorem dX8_packs_196 : decode cX8_packs 196 = .ok (.aload_n 0, 1) := by decide +kernel
theorem dX8_packs_197 : decode cX8_packs 197 = .ok (.iload_n 1, 1) := by decide +kernel
theorem dX8_packs_198 : decode cX8_packs 198 = .ok (.iload 4, 2) := by decide +kernel
theorem dX8_packs_200 : decode cX8_packs 200 = .ok (.iload 6, 2) := by decide +kernel
theorem dX8_packs_202 : decode cX8_packs 202 = .ok (.invokevirtual 190, 3) := by decide +kernel
theorem dX8_packs_205 : decode cX8_packs 205 = .ok (.ifCond .eq 22, 3) := by decide +kernel
theorem dX8_packs_208 : decode cX8_packs 208 = .ok (.aload_n 0, 1) := by decide +kernel
theorem dX8_packs_209 : decode cX8_packs 209 = .ok (.getfield 51, 3) := by decide +kernel
theorem dX8_packs_212 : decode cX8_packs 212 = .ok (.iload 4, 2) := by decide +kernel
theorem dX8_packs_214 : decode cX8_packs 214 = .ok (.aload_n 0, 1) := by decide +kernel
theorem dX8_packs_215 : decode cX8_packs 215 = .ok (.getfield 51, 3) := by decide +kernel
theorem dX8_packs_218 : decode cX8_packs 218 = .ok (.iload 4, 2) := by decide +kernel
theorem dX8_packs_220 : decode cX8_packs 220 = .ok (.iload 6, 2) := by decide +kernel
theorem dX8_packs_222 : decode cX8_packs 222 = .ok (.ior, 1) := by decide +kernel
theorem dX8_packs_223 : decode cX8_packs 223 = .ok (.iaload, 1) := by decide +kernel
theorem dX8_packs_224 : decode cX8_packs 224 = .ok (.iconst 1, 1) := by decide +kernel
theorem dX8_packs_225 : decode cX8_packs 225 = .ok (.iadd, 1) := by decide +kernel
theorem dX8_packs_226 : decode cX8_packs 226 = .ok (.iastore, 1) := by decide +kernel
theorem dX8_packs_227 : decode cX8_packs 227 = .ok (.iload 6, 2) := by decide +kernel
theorem dX8_packs_229 : decode cX8_packs 229 = .ok (.iconst 1, 1) := by decide +kernel
theorem dX8_packs_230 : decode cX8_packs 230 = .ok (.isub, 1) := by decide +kernel
theorem dX8_packs_231 : decode cX8_packs 231 = .ok (.iload 5, 2) := by decide +kernel
theorem dX8_packs_233 : decode cX8_packs 233 = .ok (.iand, 1) := by decide +kernel
theorem dX8_packs_234 : decode cX8_packs 234 = .ok (.istore 6, 2) := by decide +kernel
theorem dX8_packs_236 : decode cX8_packs 236 = .ok (.goto (-67), 3) := by decide +kernel
theorem dX8_packs_239 : decode cX8_packs 239 = .ok (.iinc 4 (-1), 3) := by decide +kernel
theorem dX8_packs_242 : decode cX8_packs 242 = .ok (.goto (-100), 3) := by decide +kernel
theorem dX8_packs_245 : decode cX8_packs 245 = .ok (.iconst 0, 1) := by decide +kernel
theorem dX8_packs_246 : decode cX8_packs 246 = .ok (.istore 4, 2) := by decide +kernel
theorem dX8_packs_248 : decode cX8_packs 248 = .ok (.iconst 0, 1) := by decide +kernel
theorem dX8_packs_249 : decode cX8_packs 249 = .ok (.istore 5, 2) := by decide +kernel
theorem dX8_packs_251 : decode cX8_packs 251 = .ok (.iload 4, 2) := by decide +kernel
theorem dX8_packs_253 : decode cX8_packs 253 = .ok (.iload_n 3, 1) := by decide +kernel
theorem dX8_packs_254 : decode cX8_packs 254 = .ok (.if_icmp .eq 116, 3) := by decide +kernel
theorem dX8_packs_257 : decode cX8_packs 257 = .ok (.iconst 1, 1) := by decide +kernel
theorem dX8_packs_258 : decode cX8_packs 258 = .ok (.istore 6, 2) := by decide +kernel
theorem dX8_packs_260 : decode cX8_packs 260 = .ok (.iload 6, 2) := by decide +kernel
theorem dX8_packs_262 : decode cX8_packs 262 = .ok (.iload 4, 2) := by decide +kernel
theorem dX8_packs_264 : decode cX8_packs 264 = .ok (.iand, 1) := by decide +kernel
theorem dX8_packs_265 : decode cX8_packs 265 = .ok (.ifCond .ne 46, 3) := by decide +kernel
theorem dX8_packs_268 : decode cX8_packs 268 = .ok (.iload 6, 2) := by decide +kernel
theorem dX8_packs_270 : decode cX8_packs 270 = .ok (.iload_n 3, 1) := by decide +kernel
theorem dX8_packs_271 : decode cX8_packs 271 = .ok (.iconst (-1), 1) := by decide +kernel
theorem dX8_packs_272 : decode cX8_packs 272 = .ok (.ixor, 1) := by decide +kernel
theorem dX8_packs_273 : decode cX8_packs 273 = .ok (.iand, 1) := by decide +kernel
theorem dX8_packs_274 : decode cX8_packs 274 = .ok (.ifCond .ne 37, 3) := by decide +kernel
theorem dX8_packs_277 : decode cX8_packs 277 = .ok (.aload_n 0, 1) := by decide +kernel
theorem dX8_packs_278 : decode cX8_packs 278 = .ok (.getfield 51, 3) := by decide +kernel
theorem dX8_packs_281 : decode cX8_packs 281 = .ok (.iload 4, 2) := by decide +kernel
theorem dX8_packs_283 : decode cX8_packs 283 = .ok (.iload 6, 2) := by decide +kernel
theorem dX8_packs_285 : decode cX8_packs 285 = .ok (.ior, 1) := by decide +kernel
theorem dX8_packs_286 : decode cX8_packs 286 = .ok (.iaload, 1) := by decide +kernel
theorem dX8_packs_287 : decode cX8_packs 287 = .ok (.iconst 1, 1) := by decide +kernel
theorem dX8_packs_288 : decode cX8_packs 288 = .ok (.iadd, 1) := by decide +kernel
theorem dX8_packs_289 : decode cX8_packs 289 = .ok (.aload_n 0, 1) := by decide +kernel
theorem dX8_packs_290 : decode cX8_packs 290 = .ok (.getfield 51, 3) := by decide +kernel
theorem dX8_packs_293 : decode cX8_packs 293 = .ok (.iload 4, 2) := by decide +kernel
theorem dX8_packs_295 : decode cX8_packs 295 = .ok (.iaload, 1) := by decide +kernel
theorem dX8_packs_296 : decode cX8_packs 296 = .ok (.if_icmp .ne 15, 3) := by decide +kernel
theorem dX8_packs_299 : decode cX8_packs 299 = .ok (.aload_n 0, 1) := by decide +kernel
theorem dX8_packs_300 : decode cX8_packs 300 = .ok (.iload_n 1, 1) := by decide +kernel
theorem dX8_packs_301 : decode cX8_packs 301 = .ok (.iload 4, 2) := by decide +kernel
theorem dX8_packs_303 : decode cX8_packs 303 = .ok (.iload 6, 2) := by decide +kernel
theorem dX8_packs_305 : decode cX8_packs 305 = .ok (.invokevirtual 190, 3) := by decide +kernel
theorem dX8_packs_308 : decode cX8_packs 308 = .ok (.ifCond .ne 9, 3) := by decide +kernel
theorem dX8_packs_311 : decode cX8_packs 311 = .ok (.iinc 6 1, 3) := by decide +kernel
theorem dX8_packs_314 : decode cX8_packs 314 = .ok (.goto (-54), 3) := by decide +kernel
theorem dX8_packs_317 : decode cX8_packs 317 = .ok (.iconst 0, 1) := by decide +kernel
theorem dX8_packs_318 : decode cX8_packs 318 = .ok (.istore 7, 2) := by decide +kernel
theorem dX8_packs_320 : decode cX8_packs 320 = .ok (.iload 7, 2) := by decide +kernel
theorem dX8_packs_322 : decode cX8_packs 322 = .ok (.iload_n 2, 1) := by decide +kernel
theorem dX8_packs_323 : decode cX8_packs 323 = .ok (.if_icmp .ge 34, 3) := by decide +kernel
theorem dX8_packs_326 : decode cX8_packs 326 = .ok (.iload 6, 2) := by decide +kernel
theorem dX8_packs_328 : decode cX8_packs 328 = .ok (.iload 7, 2) := by decide +kernel
theorem dX8_packs_330 : decode cX8_packs 330 = .ok (.ishr, 1) := by decide +kernel
theorem dX8_packs_331 : decode cX8_packs 331 = .ok (.iconst 1, 1) := by decide +kernel
theorem dX8_packs_332 : decode cX8_packs 332 = .ok (.iand, 1) := by decide +kernel
theorem dX8_packs_333 : decode cX8_packs 333 = .ok (.iconst 1, 1) := by decide +kernel
theorem dX8_packs_334 : decode cX8_packs 334 = .ok (.if_icmp .ne 17, 3) := by decide +kernel
theorem dX8_packs_337 : decode cX8_packs 337 = .ok (.aload_n 0, 1) := by decide +kernel
theorem dX8_packs_338 : decode cX8_packs 338 = .ok (.getfield 54, 3) := by decide +kernel
theorem dX8_packs_341 : decode cX8_packs 341 = .ok (.bipush 10, 2) := by decide +kernel
theorem dX8_packs_343 : decode cX8_packs 343 = .ok (.iload_n 1, 1) := by decide +kernel
theorem dX8_packs_344 : decode cX8_packs 344 = .ok (.imul, 1) := by decide +kernel
theorem dX8_packs_345 : decode cX8_packs 345 = .ok (.iload 7, 2) := by decide +kernel
theorem dX8_packs_347 : decode cX8_packs 347 = .ok (.iadd, 1) := by decide +kernel
theorem dX8_packs_348 : decode cX8_packs 348 = .ok (.iload 5, 2) := by decide +kernel
theorem dX8_packs_350 : decode cX8_packs 350 = .ok (.iastore, 1) := by decide +kernel
theorem dX8_packs_351 : decode cX8_packs 351 = .ok (.iinc 7 1, 3) := by decide +kernel
theorem dX8_packs_354 : decode cX8_packs 354 = .ok (.goto (-34), 3) := by decide +kernel
theorem dX8_packs_357 : decode cX8_packs 357 = .ok (.iload 4, 2) := by decide +kernel
theorem dX8_packs_359 : decode cX8_packs 359 = .ok (.iload 6, 2) := by decide +kernel
theorem dX8_packs_361 : decode cX8_packs 361 = .ok (.ior, 1) := by decide +kernel
theorem dX8_packs_362 : decode cX8_packs 362 = .ok (.istore 4, 2) := by decide +kernel
theorem dX8_packs_364 : decode cX8_packs 364 = .ok (.iinc 5 1, 3) := by decide +kernel
theorem dX8_packs_367 : decode cX8_packs 367 = .ok (.goto (-116), 3) := by decide +kernel
theorem dX8_packs_370 : decode cX8_packs 370 = .ok (.aload_n 0, 1) := by decide +kernel
theorem dX8_packs_371 : decode cX8_packs 371 = .ok (.getfield 57, 3) := by decide +kernel
theorem dX8_packs_374 : decode cX8_packs 374 = .ok (.iload_n 1, 1) := by decide +kernel
theorem dX8_packs_375 : decode cX8_packs 375 = .ok (.iload 5, 2) := by decide +kernel
theorem dX8_packs_377 : decode cX8_packs 377 = .ok (.iastore, 1) := by decide +kernel
theorem dX8_packs_378 : decode cX8_packs 378 = .ok (.aload_n 0, 1) := by decide +kernel
theorem dX8_packs_379 : decode cX8_packs 379 = .ok (.getfield 66, 3) := by decide +kernel
theorem dX8_packs_382 : decode cX8_packs 382 = .ok (.iload_n 1, 1) := by decide +kernel
theorem dX8_packs_383 : decode cX8_packs 383 = .ok (.iconst 1, 1) := by decide +kernel
theorem dX8_packs_384 : decode cX8_packs 384 = .ok (.bastore, 1) := by decide +kernel
theorem dX8_packs_385 : decode cX8_packs 385 = .ok (.return_, 1) := by decide +kernel
set_option maxRecDepth 20000 in
theorem ggX8_pack_X8_isInstruction : GoodIn wsX8_pack wsX8_isInstruction := goodIn_r _ [5] (by decide +kernel) (by decide +kernel)
set_option maxRecDepth 20000 in
theorem gX8_pack_X8_isInstruction : GoodIn wsX8_pack (va_wsS RX8 157 yX8_isInstruction wsX8_isInstruction) := goodIn_app (goodIn_of _ (by decide +kernel)) ggX8_pack_X8_isInstruction
set_option maxRecDepth 20000 in
theorem ggX8_pack_X8_no : GoodIn wsX8_pack wsX8_no := goodIn_r _ [9, 10, 51, 52, 53, 54, 55, 56, 57, 58, 59, 60, 61, 62, 63, 64, 65, 66, 67, 68, 69, 70, 71, 72, 73, 74, 75, 76, 77, 78, 79, 80, 81, 82, 83, 84, 85, 86, 87, 88, 89, 90, 91, 92, 93, 94] (by decide +kernel) (by decide +kernel)
set_option maxRecDepth 20000 in
theorem gX8_pack_X8_no : GoodIn wsX8_pack (wsV RX8 122 RX8 yX8_no wsX8_no) := goodIn_app (goodIn_of _ (by decide +kernel)) ggX8_pack_X8_no
set_option maxRecDepth 20000 in
theorem ggX8_pack_X8_packs : GoodIn wsX8_pack wsX8_packs := goodIn_r _ [14, 15, 16, 17, 18, 19, 20, 1, 21, 22, 23, 4, 24, 25, 26, 27, 28, 29, 30, 31, 32, 33, 34, 35, 36, 37, 38, 39, 40, 41, 42, 43, 44, 45, 46, 47, 48, 49, 50, 51, 52, 53, 54, 55, 56, 57, 58, 59, 60, 61, 62, 63, 64, 65, 66, 67, 68, 69, 70, 71, 72, 73, 74, 75, 76, 77, 78, 79, 80, 81, 82, 83, 84, 85, 86, 87, 88, 89, 90, 91, 92, 93, 94] (by decide +kernel) (by decide +kernel)
set_option maxRecDepth 20000 in
theorem gX8_pack_X8_packs : GoodIn wsX8_pack (wsV RX8 194 RX8 yX8_packs wsX8_packs) := goodIn_app (goodIn_of _ (by decide +kernel)) ggX8_pack_X8_packs
theorem dX8_pack_0 : decode cX8_pack 0 = .ok (.iload_n 1, 1) := by decide +kernel
theorem dX8_pack_1 : decode cX8_pack 1 = .ok (.invokestatic 157, 3) := by decide +kernel
theorem dX8_pack_4 : decode cX8_pack 4 = .ok (.ifCond .ne 10, 3) := by decide +kernel
theorem dX8_pack_7 : decode cX8_pack 7 = .ok (.aload_n 0, 1) := by decide +kernel
theorem dX8_pack_8 : decode cX8_pack 8 = .ok (.bipush (-3), 2) := by decide +kernel
theorem dX8_pack_10 : decode cX8_pack 10 = .ok (.invokevirtual 122, 3) := by decide +kernel
theorem dX8_pack_13 : decode cX8_pack 13 = .ok (.ireturn, 1) := by decide +kernel
theorem dX8_pack_14 : decode cX8_pack 14 = .ok (.aload_n 0, 1) := by decide +kernel
theorem dX8_pack_15 : decode cX8_pack 15 = .ok (.iload_n 1, 1) := by decide +kernel
theorem dX8_pack_16 : decode cX8_pack 16 = .ok (.invokevirtual 194, 3) := by decide +kernel
theorem dX8_pack_19 : decode cX8_pack 19 = .ok (.aload_n 0, 1) := by decide +kernel
theorem dX8_pack_20 : decode cX8_pack 20 = .ok (.getfield 57, 3) := by decide +kernel
theorem dX8_pack_23 : decode cX8_pack 23 = .ok (.iload_n 1, 1) := by decide +kernel
theorem dX8_pack_24 : decode cX8_pack 24 = .ok (.iaload, 1) := by decide +kernel
theorem dX8_pack_25 : decode cX8_pack 25 = .ok (.ireturn, 1) := by decide +kernel
set_option maxRecDepth 20000 in
theorem ggX8_word_X8_isAct : GoodIn wsX8_word wsX8_isAct := goodIn_r _ [7, 8, 9, 10, 6, 11, 17, 18, 19, 20, 21, 22, 23, 24, 25, 26, 27, 28, 29, 30, 31, 32, 33, 34, 35, 36, 37, 38, 39, 40, 41, 42, 43, 44, 45, 46, 47, 48, 49, 50, 51, 52, 53, 54, 55, 56, 57, 58, 59, 60] (by decide +kernel) (by decide +kernel)
set_option maxRecDepth 20000 in
theorem gX8_word_X8_isAct : GoodIn wsX8_word (wsV RX8 168 RX8 yX8_isAct wsX8_isAct) := goodIn_app (goodIn_of _ (by decide +kernel)) ggX8_word_X8_isAct
set_option maxRecDepth 20000 in
theorem ggX8_word_X8_no : GoodIn wsX8_word wsX8_no := goodIn_r _ [15, 16, 17, 18, 19, 20, 21, 22, 23, 24, 25, 26, 27, 28, 29, 30, 31, 32, 33, 34, 35, 36, 37, 38, 39, 40, 41, 42, 43, 44, 45, 46, 47, 48, 49, 50, 51, 52, 53, 54, 55, 56, 57, 58, 59, 60] (by decide +kernel) (by decide +kernel)
set_option maxRecDepth 20000 in
theorem gX8_word_X8_no : GoodIn wsX8_word (wsV RX8 122 RX8 yX8_no wsX8_no) := goodIn_app (goodIn_of _ (by decide +kernel)) ggX8_word_X8_no
theorem dX8_word_0 : decode cX8_word 0 = .ok (.aload_n 0, 1) := by decide +kernel
theorem dX8_word_1 : decode cX8_word 1 = .ok (.iload_n 1, 1) := by decide +kernel
theorem dX8_word_2 : decode cX8_word 2 = .ok (.iload_n 2, 1) := by decide +kernel
theorem dX8_word_3 : decode cX8_word 3 = .ok (.invokevirtual 168, 3) := by decide +kernel
theorem dX8_word_6 : decode cX8_word 6 = .ok (.ifCond .ne 10, 3) := by decide +kernel
theorem dX8_word_9 : decode cX8_word 9 = .ok (.aload_n 0, 1) := by decide +kernel
theorem dX8_word_10 : decode cX8_word 10 = .ok (.bipush (-3), 2) := by decide +kernel
theorem dX8_word_12 : decode cX8_word 12 = .ok (.invokevirtual 122, 3) := by decide +kernel
theorem dX8_word_15 : decode cX8_word 15 = .ok (.ireturn, 1) := by decide +kernel
theorem dX8_word_16 : decode cX8_word 16 = .ok (.aload_n 0, 1) := by decide +kernel
theorem dX8_word_17 : decode cX8_word 17 = .ok (.getfield 66, 3) := by decide +kernel
theorem dX8_word_20 : decode cX8_word 20 = .ok (.iload_n 1, 1) := by decide +kernel
theorem dX8_word_21 : decode cX8_word 21 = .ok (.baload, 1) := by decide +kernel
theorem dX8_word_22 : decode cX8_word 22 = .ok (.ifCond .eq 17, 3) := by decide +kernel
theorem dX8_word_25 : decode cX8_word 25 = .ok (.aload_n 0, 1) := by decide +kernel
theorem dX8_word_26 : decode cX8_word 26 = .ok (.getfield 54, 3) := by decide +kernel
theorem dX8_word_29 : decode cX8_word 29 = .ok (.bipush 10, 2) := by decide +kernel
theorem dX8_word_31 : decode cX8_word 31 = .ok (.iload_n 1, 1) := by decide +kernel
theorem dX8_word_32 : decode cX8_word 32 = .ok (.imul, 1) := by decide +kernel
theorem dX8_word_33 : decode cX8_word 33 = .ok (.iload_n 2, 1) := by decide +kernel
theorem dX8_word_34 : decode cX8_word 34 = .ok (.iadd, 1) := by decide +kernel
theorem dX8_word_35 : decode cX8_word 35 = .ok (.iaload, 1) := by decide +kernel
theorem dX8_word_36 : decode cX8_word 36 = .ok (.goto 9, 3) := by decide +kernel
theorem dX8_word_39 : decode cX8_word 39 = .ok (.aload_n 0, 1) := by decide +kernel
theorem dX8_word_40 : decode cX8_word 40 = .ok (.bipush (-2), 2) := by decide +kernel
theorem dX8_word_42 : decode cX8_word 42 = .ok (.invokevirtual 122, 3) := by decide +kernel
theorem dX8_word_45 : decode cX8_word 45 = .ok (.ireturn, 1) := by decide +kernel
set_option maxRecDepth 20000 in
theorem ggX8_why_X8_isAct : GoodIn wsX8_why wsX8_isAct := goodIn_r _ [7, 8, 9, 10, 6, 11, 39, 40, 41, 42, 43, 44, 45, 46, 47, 48, 49, 50, 51, 52, 53, 54, 55, 56, 57, 58, 59, 60, 61, 62, 63, 64, 65, 66, 67, 68, 69, 70, 71, 72, 73, 74, 75, 76, 77, 78, 79, 80, 81, 82] (by decide +kernel) (by decide +kernel)
set_option maxRecDepth 20000 in
theorem gX8_why_X8_isAct : GoodIn wsX8_why (wsV RX8 168 RX8 yX8_isAct wsX8_isAct) := goodIn_app (goodIn_of _ (by decide +kernel)) ggX8_why_X8_isAct
set_option maxRecDepth 20000 in
theorem ggX8_why_X8_no : GoodIn wsX8_why wsX8_no := goodIn_r _ [15, 16, 39, 40, 41, 42, 43, 44, 45, 46, 47, 48, 49, 50, 51, 52, 53, 54, 55, 56, 57, 58, 59, 60, 61, 62, 63, 64, 65, 66, 67, 68, 69, 70, 71, 72, 73, 74, 75, 76, 77, 78, 79, 80, 81, 82] (by decide +kernel) (by decide +kernel)
set_option maxRecDepth 20000 in
theorem gX8_why_X8_no : GoodIn wsX8_why (wsV RX8 122 RX8 yX8_no wsX8_no) := goodIn_app (goodIn_of _ (by decide +kernel)) ggX8_why_X8_no
set_option maxRecDepth 20000 in
theorem ggX8_why_X8_needed : GoodIn wsX8_why wsX8_needed := goodIn_r _ [20, 21, 22, 23, 24, 6, 25, 26, 27, 28, 29, 30, 31, 32, 33, 34, 35, 36, 37, 38, 39, 40, 41, 42, 43, 44, 45, 46, 47, 48, 49, 50, 51, 52, 53, 54, 55, 56, 57, 58, 59, 60, 61, 62, 63, 64, 65, 66, 67, 68, 69, 70, 71, 72, 73, 74, 75, 76, 77, 78, 79, 80, 81, 82] (by decide +kernel) (by decide +kernel)
set_option maxRecDepth 20000 in
theorem gX8_why_X8_needed : GoodIn wsX8_why (wsV RX8 186 RX8 yX8_needed wsX8_needed) := goodIn_app (goodIn_of _ (by decide +kernel)) ggX8_why_X8_needed
theorem dX8_why_0 : decode cX8_why 0 = .ok (.aload_n 0, 1) := by decide +kernel
theorem dX8_why_1 : decode cX8_why 1 = .ok (.iload_n 1, 1) := by decide +kernel
theorem dX8_why_2 : decode cX8_why 2 = .ok (.iload_n 2, 1) := by decide +kernel
theorem dX8_why_3 : decode cX8_why 3 = .ok (.invokevirtual 168, 3) := by decide +kernel
theorem dX8_why_6 : decode cX8_why 6 = .ok (.ifCond .ne 10, 3) := by decide +kernel
theorem dX8_why_9 : decode cX8_why 9 = .ok (.aload_n 0, 1) := by decide +kernel
theorem dX8_why_10 : decode cX8_why 10 = .ok (.bipush (-3), 2) := by decide +kernel
theorem dX8_why_12 : decode cX8_why 12 = .ok (.invokevirtual 122, 3) := by decide +kernel
theorem dX8_why_15 : decode cX8_why 15 = .ok (.ireturn, 1) := by decide +kernel
theorem dX8_why_16 : decode cX8_why 16 = .ok (.aload_n 0, 1) := by decide +kernel
theorem dX8_why_17 : decode cX8_why 17 = .ok (.getfield 66, 3) := by decide +kernel
theorem dX8_why_20 : decode cX8_why 20 = .ok (.iload_n 1, 1) := by decide +kernel
theorem dX8_why_21 : decode cX8_why 21 = .ok (.baload, 1) := by decide +kernel
theorem dX8_why_22 : decode cX8_why 22 = .ok (.ifCond .ne 10, 3) := by decide +kernel
theorem dX8_why_25 : decode cX8_why 25 = .ok (.aload_n 0, 1) := by decide +kernel
theorem dX8_why_26 : decode cX8_why 26 = .ok (.bipush (-2), 2) := by decide +kernel
theorem dX8_why_28 : decode cX8_why 28 = .ok (.invokevirtual 122, 3) := by decide +kernel
theorem dX8_why_31 : decode cX8_why 31 = .ok (.ireturn, 1) := by decide +kernel
theorem dX8_why_32 : decode cX8_why 32 = .ok (.bipush 10, 2) := by decide +kernel
theorem dX8_why_34 : decode cX8_why 34 = .ok (.iload_n 1, 1) := by decide +kernel
theorem dX8_why_35 : decode cX8_why 35 = .ok (.imul, 1) := by decide +kernel
theorem dX8_why_36 : decode cX8_why 36 = .ok (.istore_n 3, 1) := by decide +kernel
theorem dX8_why_37 : decode cX8_why 37 = .ok (.iconst 0, 1) := by decide +kernel
theorem dX8_why_38 : decode cX8_why 38 = .ok (.istore 4, 2) := by decide +kernel
theorem dX8_why_40 : decode cX8_why 40 = .ok (.iload 4, 2) := by decide +kernel
theorem dX8_why_42 : decode cX8_why 42 = .ok (.iload_n 2, 1) := by decide +kernel
theorem dX8_why_43 : decode cX8_why 43 = .ok (.if_icmp .ge 79, 3) := by decide +kernel
theorem dX8_why_46 : decode cX8_why 46 = .ok (.aload_n 0, 1) := by decide +kernel
theorem dX8_why_47 : decode cX8_why 47 = .ok (.iload_n 3, 1) := by decide +kernel
theorem dX8_why_48 : decode cX8_why 48 = .ok (.iload 4, 2) := by decide +kernel
theorem dX8_why_50 : decode cX8_why 50 = .ok (.iadd, 1) := by decide +kernel
theorem dX8_why_51 : decode cX8_why 51 = .ok (.iload_n 3, 1) := by decide +kernel
theorem dX8_why_52 : decode cX8_why 52 = .ok (.iload_n 2, 1) := by decide +kernel
theorem dX8_why_53 : decode cX8_why 53 = .ok (.iadd, 1) := by decide +kernel
theorem dX8_why_54 : decode cX8_why 54 = .ok (.invokevirtual 186, 3) := by decide +kernel
theorem dX8_why_57 : decode cX8_why 57 = .ok (.istore 5, 2) := by decide +kernel
theorem dX8_why_59 : decode cX8_why 59 = .ok (.iload 5, 2) := by decide +kernel
theorem dX8_why_61 : decode cX8_why 61 = .ok (.iconst 2, 1) := by decide +kernel
theorem dX8_why_62 : decode cX8_why 62 = .ok (.if_icmp .ne 25, 3) := by decide +kernel
theorem dX8_why_65 : decode cX8_why 65 = .ok (.aload_n 0, 1) := by decide +kernel
theorem dX8_why_66 : decode cX8_why 66 = .ok (.getfield 54, 3) := by decide +kernel
theorem dX8_why_69 : decode cX8_why 69 = .ok (.iload_n 3, 1) := by decide +kernel
theorem dX8_why_70 : decode cX8_why 70 = .ok (.iload 4, 2) := by decide +kernel
theorem dX8_why_72 : decode cX8_why 72 = .ok (.iadd, 1) := by decide +kernel
theorem dX8_why_73 : decode cX8_why 73 = .ok (.iaload, 1) := by decide +kernel
theorem dX8_why_74 : decode cX8_why 74 = .ok (.aload_n 0, 1) := by decide +kernel
theorem dX8_why_75 : decode cX8_why 75 = .ok (.getfield 54, 3) := by decide +kernel
theorem dX8_why_78 : decode cX8_why 78 = .ok (.iload_n 3, 1) := by decide +kernel
theorem dX8_why_79 : decode cX8_why 79 = .ok (.iload_n 2, 1) := by decide +kernel
theorem dX8_why_80 : decode cX8_why 80 = .ok (.iadd, 1) := by decide +kernel
theorem dX8_why_81 : decode cX8_why 81 = .ok (.iaload, 1) := by decide +kernel
theorem dX8_why_82 : decode cX8_why 82 = .ok (.iconst 1, 1) := by decide +kernel
theorem dX8_why_83 : decode cX8_why 83 = .ok (.isub, 1) := by decide +kernel
theorem dX8_why_84 : decode cX8_why 84 = .ok (.if_icmp .eq 29, 3) := by decide +kernel
theorem dX8_why_87 : decode cX8_why 87 = .ok (.iload 5, 2) := by decide +kernel
theorem dX8_why_89 : decode cX8_why 89 = .ok (.iconst 1, 1) := by decide +kernel
theorem dX8_why_90 : decode cX8_why 90 = .ok (.if_icmp .ne 26, 3) := by decide +kernel
theorem dX8_why_93 : decode cX8_why 93 = .ok (.aload_n 0, 1) := by decide +kernel
theorem dX8_why_94 : decode cX8_why 94 = .ok (.getfield 54, 3) := by decide +kernel
theorem dX8_why_97 : decode cX8_why 97 = .ok (.iload_n 3, 1) := by decide +kernel
theorem dX8_why_98 : decode cX8_why 98 = .ok (.iload 4, 2) := by decide +kernel
theorem dX8_why_100 : decode cX8_why 100 = .ok (.iadd, 1) := by decide +kernel
theorem dX8_why_101 : decode cX8_why 101 = .ok (.iaload, 1) := by decide +kernel
theorem dX8_why_102 : decode cX8_why 102 = .ok (.aload_n 0, 1) := by decide +kernel
theorem dX8_why_103 : decode cX8_why 103 = .ok (.getfield 54, 3) := by decide +kernel
theorem dX8_why_106 : decode cX8_why 106 = .ok (.iload_n 3, 1) := by decide +kernel
theorem dX8_why_107 : decode cX8_why 107 = .ok (.iload_n 2, 1) := by decide +kernel
theorem dX8_why_108 : decode cX8_why 108 = .ok (.iadd, 1) := by decide +kernel
theorem dX8_why_109 : decode cX8_why 109 = .ok (.iaload, 1) := by decide +kernel
theorem dX8_why_110 : decode cX8_why 110 = .ok (.if_icmp .ne 6, 3) := by decide +kernel
theorem dX8_why_113 : decode cX8_why 113 = .ok (.iload 4, 2) := by decide +kernel
theorem dX8_why_115 : decode cX8_why 115 = .ok (.ireturn, 1) := by decide +kernel
theorem dX8_why_116 : decode cX8_why 116 = .ok (.iinc 4 1, 3) := by decide +kernel
theorem dX8_why_119 : decode cX8_why 119 = .ok (.goto (-79), 3) := by decide +kernel
theorem dX8_why_122 : decode cX8_why 122 = .ok (.iconst (-1), 1) := by decide +kernel
theorem dX8_why_123 : decode cX8_why 123 = .ok (.ireturn, 1) := by decide +kernel
theorem dX8_actOf_0 : decode cX8_actOf 0 = .ok (.iload_n 3, 1) := by decide +kernel
theorem dX8_actOf_1 : decode cX8_actOf 1 = .ok (.istore 4, 2) := by decide +kernel
theorem dX8_actOf_3 : decode cX8_actOf 3 = .ok (.iconst 0, 1) := by decide +kernel
theorem dX8_actOf_4 : decode cX8_actOf 4 = .ok (.istore 5, 2) := by decide +kernel
theorem dX8_actOf_6 : decode cX8_actOf 6 = .ok (.iload 5, 2) := by decide +kernel
theorem dX8_actOf_8 : decode cX8_actOf 8 = .ok (.aload_n 0, 1) := by decide +kernel
theorem dX8_actOf_9 : decode cX8_actOf 9 = .ok (.getfield 41, 3) := by decide +kernel
theorem dX8_actOf_12 : decode cX8_actOf 12 = .ok (.iload_n 1, 1) := by decide +kernel
theorem dX8_actOf_13 : decode cX8_actOf 13 = .ok (.iaload, 1) := by decide +kernel
theorem dX8_actOf_14 : decode cX8_actOf 14 = .ok (.if_icmp .ge 44, 3) := by decide +kernel
theorem dX8_actOf_17 : decode cX8_actOf 17 = .ok (.aload_n 0, 1) := by decide +kernel
theorem dX8_actOf_18 : decode cX8_actOf 18 = .ok (.getfield 54, 3) := by decide +kernel
theorem dX8_actOf_21 : decode cX8_actOf 21 = .ok (.bipush 10, 2) := by decide +kernel
theorem dX8_actOf_23 : decode cX8_actOf 23 = .ok (.iload_n 1, 1) := by decide +kernel
theorem dX8_actOf_24 : decode cX8_actOf 24 = .ok (.imul, 1) := by decide +kernel
theorem dX8_actOf_25 : decode cX8_actOf 25 = .ok (.iload 5, 2) := by decide +kernel
theorem dX8_actOf_27 : decode cX8_actOf 27 = .ok (.iadd, 1) := by decide +kernel
theorem dX8_actOf_28 : decode cX8_actOf 28 = .ok (.iaload, 1) := by decide +kernel
theorem dX8_actOf_29 : decode cX8_actOf 29 = .ok (.iload_n 2, 1) := by decide +kernel
theorem dX8_actOf_30 : decode cX8_actOf 30 = .ok (.if_icmp .eq 6, 3) := by decide +kernel
theorem dX8_actOf_33 : decode cX8_actOf 33 = .ok (.goto 19, 3) := by decide +kernel
theorem dX8_actOf_36 : decode cX8_actOf 36 = .ok (.iload 4, 2) := by decide +kernel
theorem dX8_actOf_38 : decode cX8_actOf 38 = .ok (.ifCond .ne 11, 3) := by decide +kernel
theorem dX8_actOf_41 : decode cX8_actOf 41 = .ok (.bipush 10, 2) := by decide +kernel
theorem dX8_actOf_43 : decode cX8_actOf 43 = .ok (.iload_n 1, 1) := by decide +kernel
theorem dX8_actOf_44 : decode cX8_actOf 44 = .ok (.imul, 1) := by decide +kernel
theorem dX8_actOf_45 : decode cX8_actOf 45 = .ok (.iload 5, 2) := by decide +kernel
theorem dX8_actOf_47 : decode cX8_actOf 47 = .ok (.iadd, 1) := by decide +kernel
theorem dX8_actOf_48 : decode cX8_actOf 48 = .ok (.ireturn, 1) := by decide +kernel
theorem dX8_actOf_49 : decode cX8_actOf 49 = .ok (.iinc 4 (-1), 3) := by decide +kernel
theorem dX8_actOf_52 : decode cX8_actOf 52 = .ok (.iinc 5 1, 3) := by decide +kernel
theorem dX8_actOf_55 : decode cX8_actOf 55 = .ok (.goto (-49), 3) := by decide +kernel
theorem dX8_actOf_58 : decode cX8_actOf 58 = .ok (.iconst (-1), 1) := by decide +kernel
theorem dX8_actOf_59 : decode cX8_actOf 59 = .ok (.ireturn, 1) := by decide +kernel
theorem dX8_areSame_0 : decode cX8_areSame 0 = .ok (.aload_n 0, 1) := by decide +kernel
theorem dX8_areSame_1 : decode cX8_areSame 1 = .ok (.getfield 29, 3) := by decide +kernel
theorem dX8_areSame_4 : decode cX8_areSame 4 = .ok (.iload_n 1, 1) := by decide +kernel
theorem dX8_areSame_5 : decode cX8_areSame 5 = .ok (.iaload, 1) := by decide +kernel
theorem dX8_areSame_6 : decode cX8_areSame 6 = .ok (.aload_n 0, 1) := by decide +kernel
theorem dX8_areSame_7 : decode cX8_areSame 7 = .ok (.getfield 29, 3) := by decide +kernel
theorem dX8_areSame_10 : decode cX8_areSame 10 = .ok (.iload_n 2, 1) := by decide +kernel
theorem dX8_areSame_11 : decode cX8_areSame 11 = .ok (.iaload, 1) := by decide +kernel
theorem dX8_areSame_12 : decode cX8_areSame 12 = .ok (.if_icmp .ne 52, 3) := by decide +kernel
theorem dX8_areSame_15 : decode cX8_areSame 15 = .ok (.aload_n 0, 1) := by decide +kernel
theorem dX8_areSame_16 : decode cX8_areSame 16 = .ok (.getfield 32, 3) := by decide +kernel
theorem dX8_areSame_19 : decode cX8_areSame 19 = .ok (.iload_n 1, 1) := by decide +kernel
theorem dX8_areSame_20 : decode cX8_areSame 20 = .ok (.iaload, 1) := by decide +kernel
theorem dX8_areSame_21 : decode cX8_areSame 21 = .ok (.aload_n 0, 1) := by decide +kernel
theorem dX8_areSame_22 : decode cX8_areSame 22 = .ok (.getfield 32, 3) := by decide +kernel
theorem dX8_areSame_25 : decode cX8_areSame 25 = .ok (.iload_n 2, 1) := by decide +kernel
theorem dX8_areSame_26 : decode cX8_areSame 26 = .ok (.iaload, 1) := by decide +kernel
theorem dX8_areSame_27 : decode cX8_areSame 27 = .ok (.if_icmp .ne 37, 3) := by decide +kernel
theorem dX8_areSame_30 : decode cX8_areSame 30 = .ok (.aload_n 0, 1) := by decide +kernel
theorem dX8_areSame_31 : decode cX8_areSame 31 = .ok (.getfield 35, 3) := by decide +kernel
theorem dX8_areSame_34 : decode cX8_areSame 34 = .ok (.iload_n 1, 1) := by decide +kernel
theorem dX8_areSame_35 : decode cX8_areSame 35 = .ok (.iaload, 1) := by decide +kernel
theorem dX8_areSame_36 : decode cX8_areSame 36 = .ok (.aload_n 0, 1) := by decide +kernel
theorem dX8_areSame_37 : decode cX8_areSame 37 = .ok (.getfield 35, 3) := by decide +kernel
theorem dX8_areSame_40 : decode cX8_areSame 40 = .ok (.iload_n 2, 1) := by decide +kernel
theorem dX8_areSame_41 : decode cX8_areSame 41 = .ok (.iaload, 1) := by decide +kernel
theorem dX8_areSame_42 : decode cX8_areSame 42 = .ok (.if_icmp .ne 22, 3) := by decide +kernel
theorem dX8_areSame_45 : decode cX8_areSame 45 = .ok (.aload_n 0, 1) := by decide +kernel
theorem dX8_areSame_46 : decode cX8_areSame 46 = .ok (.getfield 38, 3) := by decide +kernel
theorem dX8_areSame_49 : decode cX8_areSame 49 = .ok (.iload_n 1, 1) := by decide +kernel
theorem dX8_areSame_50 : decode cX8_areSame 50 = .ok (.iaload, 1) := by decide +kernel
theorem dX8_areSame_51 : decode cX8_areSame 51 = .ok (.aload_n 0, 1) := by decide +kernel
theorem dX8_areSame_52 : decode cX8_areSame 52 = .ok (.getfield 38, 3) := by decide +kernel
theorem dX8_areSame_55 : decode cX8_areSame 55 = .ok (.iload_n 2, 1) := by decide +kernel
theorem dX8_areSame_56 : decode cX8_areSame 56 = .ok (.iaload, 1) := by decide +kernel
theorem dX8_areSame_57 : decode cX8_areSame 57 = .ok (.if_icmp .ne 7, 3) := by decide +kernel
theorem dX8_areSame_60 : decode cX8_areSame 60 = .ok (.iconst 1, 1) := by decide +kernel
theorem dX8_areSame_61 : decode cX8_areSame 61 = .ok (.goto 4, 3) := by decide +kernel
theorem dX8_areSame_64 : decode cX8_areSame 64 = .ok (.iconst 0, 1) := by decide +kernel
theorem dX8_areSame_65 : decode cX8_areSame 65 = .ok (.ireturn, 1) := by decide +kernel
set_option maxRecDepth 20000 in
theorem ggX8_isLike_X8_actOf : GoodIn wsX8_isLike wsX8_actOf := goodIn_r _ [7, 8, 9, 18, 19, 20, 21, 22, 23, 24, 25, 26, 27, 28, 29, 30, 31, 32, 33, 34, 35, 36, 37, 38, 39, 40, 41, 42, 43, 44, 45, 46, 47, 48, 49, 50, 51, 52, 53, 54, 55, 56, 57, 58, 59, 60, 61] (by decide +kernel) (by decide +kernel)
set_option maxRecDepth 20000 in
theorem gX8_isLike_X8_actOf : GoodIn wsX8_isLike (wsV RX8 198 RX8 yX8_actOf wsX8_actOf) := goodIn_app (goodIn_of _ (by decide +kernel)) ggX8_isLike_X8_actOf
set_option maxRecDepth 20000 in
theorem ggX8_isLike_X8_areSame : GoodIn wsX8_isLike wsX8_areSame := goodIn_r _ [13, 14, 15, 16, 17, 18, 19, 20, 21, 22, 23, 24, 25, 26, 27, 28, 29, 30, 31, 32, 33, 34, 35, 36, 37, 38, 39, 40, 41, 42, 43, 44, 45, 46, 47, 48, 49, 50, 51, 52, 53, 54, 55, 56, 57, 58, 59, 60, 61] (by decide +kernel) (by decide +kernel)
set_option maxRecDepth 20000 in
theorem gX8_isLike_X8_areSame : GoodIn wsX8_isLike (wsV RX8 202 RX8 yX8_areSame wsX8_areSame) := goodIn_app (goodIn_of _ (by decide +kernel)) ggX8_isLike_X8_areSame
theorem dX8_isLike_0 : decode cX8_isLike 0 = .ok (.iconst 0, 1) := by decide +kernel
theorem dX8_isLike_1 : decode cX8_isLike 1 = .ok (.istore 4, 2) := by decide +kernel
theorem dX8_isLike_3 : decode cX8_isLike 3 = .ok (.iload 4, 2) := by decide +kernel
theorem dX8_isLike_5 : decode cX8_isLike 5 = .ok (.bipush 10, 2) := by decide +kernel
theorem dX8_isLike_7 : decode cX8_isLike 7 = .ok (.if_icmp .gt 74, 3) := by decide +kernel
theorem dX8_isLike_10 : decode cX8_isLike 10 = .ok (.aload_n 0, 1) := by decide +kernel
theorem dX8_isLike_11 : decode cX8_isLike 11 = .ok (.iload_n 1, 1) := by decide +kernel
theorem dX8_isLike_12 : decode cX8_isLike 12 = .ok (.iload_n 2, 1) := by decide +kernel
theorem dX8_isLike_13 : decode cX8_isLike 13 = .ok (.iload 4, 2) := by decide +kernel
theorem dX8_isLike_15 : decode cX8_isLike 15 = .ok (.invokevirtual 198, 3) := by decide +kernel
theorem dX8_isLike_18 : decode cX8_isLike 18 = .ok (.istore 5, 2) := by decide +kernel
theorem dX8_isLike_20 : decode cX8_isLike 20 = .ok (.aload_n 0, 1) := by decide +kernel
theorem dX8_isLike_21 : decode cX8_isLike 21 = .ok (.aload_n 0, 1) := by decide +kernel
theorem dX8_isLike_22 : decode cX8_isLike 22 = .ok (.getfield 70, 3) := by decide +kernel
theorem dX8_isLike_25 : decode cX8_isLike 25 = .ok (.iload_n 3, 1) := by decide +kernel
theorem dX8_isLike_26 : decode cX8_isLike 26 = .ok (.iaload, 1) := by decide +kernel
theorem dX8_isLike_27 : decode cX8_isLike 27 = .ok (.aload_n 0, 1) := by decide +kernel
theorem dX8_isLike_28 : decode cX8_isLike 28 = .ok (.getfield 73, 3) := by decide +kernel
theorem dX8_isLike_31 : decode cX8_isLike 31 = .ok (.iload_n 3, 1) := by decide +kernel
theorem dX8_isLike_32 : decode cX8_isLike 32 = .ok (.iaload, 1) := by decide +kernel
theorem dX8_isLike_33 : decode cX8_isLike 33 = .ok (.iload 4, 2) := by decide +kernel
theorem dX8_isLike_35 : decode cX8_isLike 35 = .ok (.invokevirtual 198, 3) := by decide +kernel
theorem dX8_isLike_38 : decode cX8_isLike 38 = .ok (.istore 6, 2) := by decide +kernel
theorem dX8_isLike_40 : decode cX8_isLike 40 = .ok (.iload 5, 2) := by decide +kernel
theorem dX8_isLike_42 : decode cX8_isLike 42 = .ok (.ifCond .ge 10, 3) := by decide +kernel
theorem dX8_isLike_45 : decode cX8_isLike 45 = .ok (.iload 6, 2) := by decide +kernel
theorem dX8_isLike_47 : decode cX8_isLike 47 = .ok (.ifCond .ge 5, 3) := by decide +kernel
theorem dX8_isLike_50 : decode cX8_isLike 50 = .ok (.iconst 1, 1) := by decide +kernel
theorem dX8_isLike_51 : decode cX8_isLike 51 = .ok (.ireturn, 1) := by decide +kernel
theorem dX8_isLike_52 : decode cX8_isLike 52 = .ok (.iload 5, 2) := by decide +kernel
theorem dX8_isLike_54 : decode cX8_isLike 54 = .ok (.ifCond .lt 19, 3) := by decide +kernel
theorem dX8_isLike_57 : decode cX8_isLike 57 = .ok (.iload 6, 2) := by decide +kernel
theorem dX8_isLike_59 : decode cX8_isLike 59 = .ok (.ifCond .lt 14, 3) := by decide +kernel
theorem dX8_isLike_62 : decode cX8_isLike 62 = .ok (.aload_n 0, 1) := by decide +kernel
theorem dX8_isLike_63 : decode cX8_isLike 63 = .ok (.iload 5, 2) := by decide +kernel
theorem dX8_isLike_65 : decode cX8_isLike 65 = .ok (.iload 6, 2) := by decide +kernel
theorem dX8_isLike_67 : decode cX8_isLike 67 = .ok (.invokevirtual 202, 3) := by decide +kernel
theorem dX8_isLike_70 : decode cX8_isLike 70 = .ok (.ifCond .ne 5, 3) := by decide +kernel
theorem dX8_isLike_73 : decode cX8_isLike 73 = .ok (.iconst 0, 1) := by decide +kernel
theorem dX8_isLike_74 : decode cX8_isLike 74 = .ok (.ireturn, 1) := by decide +kernel
theorem dX8_isLike_75 : decode cX8_isLike 75 = .ok (.iinc 4 1, 3) := by decide +kernel
theorem dX8_isLike_78 : decode cX8_isLike 78 = .ok (.goto (-75), 3) := by decide +kernel
theorem dX8_isLike_81 : decode cX8_isLike 81 = .ok (.iconst 1, 1) := by decide +kernel
theorem dX8_isLike_82 : decode cX8_isLike 82 = .ok (.ireturn, 1) := by decide +kernel
set_option maxRecDepth 20000 in
theorem ggX8_lays_X8_isLike : GoodIn wsX8_lays wsX8_isLike := goodIn_r _ [10, 4, 5, 11, 12, 13, 9, 14, 15, 16, 17, 18, 19, 20, 21, 22, 23, 24, 25, 26, 27, 28, 29, 30, 31, 32, 33, 34, 35, 36, 37, 38, 39, 40, 41, 42, 43, 44, 45, 46, 47, 48, 49, 50, 51, 52, 53, 54, 55, 56, 57, 58, 59, 60, 61, 62, 63, 64, 65, 66, 67, 68] (by decide +kernel) (by decide +kernel)
set_option maxRecDepth 20000 in
theorem gX8_lays_X8_isLike : GoodIn wsX8_lays (wsV RX8 208 RX8 yX8_isLike wsX8_isLike) := goodIn_app (goodIn_of _ (by decide +kernel)) ggX8_lays_X8_isLike
theorem dX8_lays_0 : decode cX8_lays 0 = .ok (.iconst 0, 1) := by decide +kernel
theorem dX8_lays_1 : decode cX8_lays 1 = .ok (.istore 4, 2) := by decide +kernel
theorem dX8_lays_3 : decode cX8_lays 3 = .ok (.iload 4, 2) := by decide +kernel
theorem dX8_lays_5 : decode cX8_lays 5 = .ok (.aload_n 0, 1) := by decide +kernel
theorem dX8_lays_6 : decode cX8_lays 6 = .ok (.getfield 205, 3) := by decide +kernel
theorem dX8_lays_9 : decode cX8_lays 9 = .ok (.if_icmp .ge 48, 3) := by decide +kernel
theorem dX8_lays_12 : decode cX8_lays 12 = .ok (.aload_n 0, 1) := by decide +kernel
theorem dX8_lays_13 : decode cX8_lays 13 = .ok (.getfield 76, 3) := by decide +kernel
theorem dX8_lays_16 : decode cX8_lays 16 = .ok (.iload 4, 2) := by decide +kernel
theorem dX8_lays_18 : decode cX8_lays 18 = .ok (.iaload, 1) := by decide +kernel
theorem dX8_lays_19 : decode cX8_lays 19 = .ok (.iload_n 3, 1) := by decide +kernel
theorem dX8_lays_20 : decode cX8_lays 20 = .ok (.if_icmp .ne 31, 3) := by decide +kernel
theorem dX8_lays_23 : decode cX8_lays 23 = .ok (.aload_n 0, 1) := by decide +kernel
theorem dX8_lays_24 : decode cX8_lays 24 = .ok (.iload_n 1, 1) := by decide +kernel
theorem dX8_lays_25 : decode cX8_lays 25 = .ok (.iload_n 2, 1) := by decide +kernel
theorem dX8_lays_26 : decode cX8_lays 26 = .ok (.iload 4, 2) := by decide +kernel
theorem dX8_lays_28 : decode cX8_lays 28 = .ok (.invokevirtual 208, 3) := by decide +kernel
theorem dX8_lays_31 : decode cX8_lays 31 = .ok (.ifCond .ne 6, 3) := by decide +kernel
theorem dX8_lays_34 : decode cX8_lays 34 = .ok (.goto 17, 3) := by decide +kernel
theorem dX8_lays_37 : decode cX8_lays 37 = .ok (.aload_n 0, 1) := by decide +kernel
theorem dX8_lays_38 : decode cX8_lays 38 = .ok (.getfield 79, 3) := by decide +kernel
theorem dX8_lays_41 : decode cX8_lays 41 = .ok (.iload 4, 2) := by decide +kernel
theorem dX8_lays_43 : decode cX8_lays 43 = .ok (.dup2, 1) := by decide +kernel
theorem dX8_lays_44 : decode cX8_lays 44 = .ok (.iaload, 1) := by decide +kernel
theorem dX8_lays_45 : decode cX8_lays 45 = .ok (.iconst 1, 1) := by decide +kernel
theorem dX8_lays_46 : decode cX8_lays 46 = .ok (.iadd, 1) := by decide +kernel
theorem dX8_lays_47 : decode cX8_lays 47 = .ok (.iastore, 1) := by decide +kernel
theorem dX8_lays_48 : decode cX8_lays 48 = .ok (.iload 4, 2) := by decide +kernel
theorem dX8_lays_50 : decode cX8_lays 50 = .ok (.ireturn, 1) := by decide +kernel
theorem dX8_lays_51 : decode cX8_lays 51 = .ok (.iinc 4 1, 3) := by decide +kernel
theorem dX8_lays_54 : decode cX8_lays 54 = .ok (.goto (-51), 3) := by decide +kernel
theorem dX8_lays_57 : decode cX8_lays 57 = .ok (.aload_n 0, 1) := by decide +kernel
theorem dX8_lays_58 : decode cX8_lays 58 = .ok (.getfield 205, 3) := by decide +kernel
theorem dX8_lays_61 : decode cX8_lays 61 = .ok (.istore 4, 2) := by decide +kernel
theorem dX8_lays_63 : decode cX8_lays 63 = .ok (.aload_n 0, 1) := by decide +kernel
theorem dX8_lays_64 : decode cX8_lays 64 = .ok (.dup, 1) := by decide +kernel
theorem dX8_lays_65 : decode cX8_lays 65 = .ok (.getfield 205, 3) := by decide +kernel
theorem dX8_lays_68 : decode cX8_lays 68 = .ok (.iconst 1, 1) := by decide +kernel
theorem dX8_lays_69 : decode cX8_lays 69 = .ok (.iadd, 1) := by decide +kernel
theorem dX8_lays_70 : decode cX8_lays 70 = .ok (.putfield 205, 3) := by decide +kernel
theorem dX8_lays_73 : decode cX8_lays 73 = .ok (.aload_n 0, 1) := by decide +kernel
theorem dX8_lays_74 : decode cX8_lays 74 = .ok (.getfield 70, 3) := by decide +kernel
theorem dX8_lays_77 : decode cX8_lays 77 = .ok (.iload 4, 2) := by decide +kernel
theorem dX8_lays_79 : decode cX8_lays 79 = .ok (.iload_n 1, 1) := by decide +kernel
theorem dX8_lays_80 : decode cX8_lays 80 = .ok (.iastore, 1) := by decide +kernel
theorem dX8_lays_81 : decode cX8_lays 81 = .ok (.aload_n 0, 1) := by decide +kernel
theorem dX8_lays_82 : decode cX8_lays 82 = .ok (.getfield 73, 3) := by decide +kernel
theorem dX8_lays_85 : decode cX8_lays 85 = .ok (.iload 4, 2) := by decide +kernel
theorem dX8_lays_87 : decode cX8_lays 87 = .ok (.iload_n 2, 1) := by decide +kernel
theorem dX8_lays_88 : decode cX8_lays 88 = .ok (.iastore, 1) := by decide +kernel
theorem dX8_lays_89 : decode cX8_lays 89 = .ok (.aload_n 0, 1) := by decide +kernel
theorem dX8_lays_90 : decode cX8_lays 90 = .ok (.getfield 76, 3) := by decide +kernel
theorem dX8_lays_93 : decode cX8_lays 93 = .ok (.iload 4, 2) := by decide +kernel
theorem dX8_lays_95 : decode cX8_lays 95 = .ok (.iload_n 3, 1) := by decide +kernel
theorem dX8_lays_96 : decode cX8_lays 96 = .ok (.iastore, 1) := by decide +kernel
theorem dX8_lays_97 : decode cX8_lays 97 = .ok (.aload_n 0, 1) := by decide +kernel
theorem dX8_lays_98 : decode cX8_lays 98 = .ok (.getfield 79, 3) := by decide +kernel
theorem dX8_lays_101 : decode cX8_lays 101 = .ok (.iload 4, 2) := by decide +kernel
theorem dX8_lays_103 : decode cX8_lays 103 = .ok (.iconst 1, 1) := by decide +kernel
theorem dX8_lays_104 : decode cX8_lays 104 = .ok (.iastore, 1) := by decide +kernel
theorem dX8_lays_105 : decode cX8_lays 105 = .ok (.iload 4, 2) := by decide +kernel
theorem dX8_lays_107 : decode cX8_lays 107 = .ok (.ireturn, 1) := by decide +kernel
set_option maxRecDepth 20000 in
theorem ggX8_store_X8_packs : GoodIn wsX8_store wsX8_packs := goodIn_r _ [9, 10, 11, 12, 13, 14, 15, 2, 16, 17, 18, 8, 19, 20, 21, 22, 23, 24, 25, 26, 27, 28, 29, 30, 31, 32, 33, 34, 35, 36, 37, 38, 39, 40, 41, 42, 43, 44, 45, 92, 93, 94, 95, 96, 97, 98, 99, 100, 101, 102, 103, 104, 105, 106, 107, 108, 109, 110, 111, 112, 113, 114, 115, 116, 117, 118, 119, 120, 121, 122, 123, 124, 125, 126, 127, 128, 129, 130, 131, 132, 133, 134, 135] (by decide +kernel) (by decide +kernel)
set_option maxRecDepth 20000 in
theorem gX8_store_X8_packs : GoodIn wsX8_store (wsV RX8 194 RX8 yX8_packs wsX8_packs) := goodIn_app (goodIn_of _ (by decide +kernel)) ggX8_store_X8_packs
set_option maxRecDepth 20000 in
theorem ggX8_store_X8_lays : GoodIn wsX8_store wsX8_lays := goodIn_r _ [49, 1, 50, 51, 52, 53, 54, 55, 56, 8, 57, 58, 59, 60, 61, 11, 15, 62, 63, 64, 65, 20, 25, 33, 34, 92, 93, 94, 95, 96, 97, 98, 99, 100, 101, 102, 103, 104, 105, 106, 107, 108, 109, 110, 111, 112, 113, 114, 115, 116, 117, 118, 119, 120, 121, 122, 123, 124, 125, 126, 127, 128, 129, 130, 131, 132, 133, 134, 135] (by decide +kernel) (by decide +kernel)
set_option maxRecDepth 20000 in
theorem gX8_store_X8_lays : GoodIn wsX8_store (wsV RX8 211 RX8 yX8_lays wsX8_lays) := goodIn_app (goodIn_of _ (by decide +kernel)) ggX8_store_X8_lays
set_option maxRecDepth 20000 in
theorem ggX8_store_X8_findFields : GoodIn wsX8_store wsX8_findFields := goodIn_r _ [69, 70, 71, 1, 72, 52, 53, 20, 73, 74, 75, 8, 76, 58, 59, 60, 61, 11, 15, 43, 44, 45, 77, 78, 79, 80, 62, 63, 64, 65, 25, 33, 34, 81, 82, 83, 84, 85, 86, 87, 88, 89, 90, 91, 92, 93, 94, 95, 96, 97, 98, 99, 100, 101, 102, 103, 104, 105, 106, 107, 108, 109, 110, 111, 112, 113, 114, 115, 116, 117, 118, 119, 120, 121, 122, 123, 124, 125, 126, 127, 128, 129, 130, 131, 132, 133, 134, 135] (by decide +kernel) (by decide +kernel)
set_option maxRecDepth 20000 in
theorem gX8_store_X8_findFields : GoodIn wsX8_store (wsV RX8 214 RX8 yX8_findFields wsX8_findFields) := goodIn_app (goodIn_of _ (by decide +kernel)) ggX8_store_X8_findFields
theorem dX8_store_0 : decode cX8_store 0 = .ok (.aload_n 0, 1) := by decide +kernel
theorem dX8_store_1 : decode cX8_store 1 = .ok (.iconst 0, 1) := by decide +kernel
theorem dX8_store_2 : decode cX8_store 2 = .ok (.putfield 205, 3) := by decide +kernel
theorem dX8_store_5 : decode cX8_store 5 = .ok (.iconst 0, 1) := by decide +kernel
theorem dX8_store_6 : decode cX8_store 6 = .ok (.istore_n 1, 1) := by decide +kernel
theorem dX8_store_7 : decode cX8_store 7 = .ok (.iload_n 1, 1) := by decide +kernel
theorem dX8_store_8 : decode cX8_store 8 = .ok (.bipush 12, 2) := by decide +kernel
theorem dX8_store_10 : decode cX8_store 10 = .ok (.if_icmp .ge 55, 3) := by decide +kernel
theorem dX8_store_13 : decode cX8_store 13 = .ok (.aload_n 0, 1) := by decide +kernel
theorem dX8_store_14 : decode cX8_store 14 = .ok (.iload_n 1, 1) := by decide +kernel
theorem dX8_store_15 : decode cX8_store 15 = .ok (.invokevirtual 194, 3) := by decide +kernel
theorem dX8_store_18 : decode cX8_store 18 = .ok (.iconst (-1), 1) := by decide +kernel
theorem dX8_store_19 : decode cX8_store 19 = .ok (.istore_n 2, 1) := by decide +kernel
theorem dX8_store_20 : decode cX8_store 20 = .ok (.aload_n 0, 1) := by decide +kernel
theorem dX8_store_21 : decode cX8_store 21 = .ok (.getfield 57, 3) := by decide +kernel
theorem dX8_store_24 : decode cX8_store 24 = .ok (.iload_n 1, 1) := by decide +kernel
theorem dX8_store_25 : decode cX8_store 25 = .ok (.iaload, 1) := by decide +kernel
theorem dX8_store_26 : decode cX8_store 26 = .ok (.iconst 1, 1) := by decide +kernel
theorem dX8_store_27 : decode cX8_store 27 = .ok (.isub, 1) := by decide +kernel
theorem dX8_store_28 : decode cX8_store 28 = .ok (.istore_n 3, 1) := by decide +kernel
theorem dX8_store_29 : decode cX8_store 29 = .ok (.iload_n 3, 1) := by decide +kernel
theorem dX8_store_30 : decode cX8_store 30 = .ok (.ifCond .lt 29, 3) := by decide +kernel
theorem dX8_store_33 : decode cX8_store 33 = .ok (.aload_n 0, 1) := by decide +kernel
theorem dX8_store_34 : decode cX8_store 34 = .ok (.iload_n 1, 1) := by decide +kernel
theorem dX8_store_35 : decode cX8_store 35 = .ok (.iload_n 3, 1) := by decide +kernel
theorem dX8_store_36 : decode cX8_store 36 = .ok (.iload_n 2, 1) := by decide +kernel
theorem dX8_store_37 : decode cX8_store 37 = .ok (.invokevirtual 211, 3) := by decide +kernel
theorem dX8_store_40 : decode cX8_store 40 = .ok (.istore_n 2, 1) := by decide +kernel
theorem dX8_store_41 : decode cX8_store 41 = .ok (.aload_n 0, 1) := by decide +kernel
theorem dX8_store_42 : decode cX8_store 42 = .ok (.getfield 82, 3) := by decide +kernel
theorem dX8_store_45 : decode cX8_store 45 = .ok (.bipush 10, 2) := by decide +kernel
theorem dX8_store_47 : decode cX8_store 47 = .ok (.iload_n 1, 1) := by decide +kernel
theorem dX8_store_48 : decode cX8_store 48 = .ok (.imul, 1) := by decide +kernel
theorem dX8_store_49 : decode cX8_store 49 = .ok (.iload_n 3, 1) := by decide +kernel
theorem dX8_store_50 : decode cX8_store 50 = .ok (.iadd, 1) := by decide +kernel
theorem dX8_store_51 : decode cX8_store 51 = .ok (.iload_n 2, 1) := by decide +kernel
theorem dX8_store_52 : decode cX8_store 52 = .ok (.iastore, 1) := by decide +kernel
theorem dX8_store_53 : decode cX8_store 53 = .ok (.iinc 3 (-1), 3) := by decide +kernel
theorem dX8_store_56 : decode cX8_store 56 = .ok (.goto (-27), 3) := by decide +kernel
theorem dX8_store_59 : decode cX8_store 59 = .ok (.iinc 1 1, 3) := by decide +kernel
theorem dX8_store_62 : decode cX8_store 62 = .ok (.goto (-55), 3) := by decide +kernel
theorem dX8_store_65 : decode cX8_store 65 = .ok (.aload_n 0, 1) := by decide +kernel
theorem dX8_store_66 : decode cX8_store 66 = .ok (.iconst 1, 1) := by decide +kernel
theorem dX8_store_67 : decode cX8_store 67 = .ok (.putfield 164, 3) := by decide +kernel
theorem dX8_store_70 : decode cX8_store 70 = .ok (.aload_n 0, 1) := by decide +kernel
theorem dX8_store_71 : decode cX8_store 71 = .ok (.invokevirtual 214, 3) := by decide +kernel
theorem dX8_store_74 : decode cX8_store 74 = .ok (.aload_n 0, 1) := by decide +kernel
theorem dX8_store_75 : decode cX8_store 75 = .ok (.getfield 205, 3) := by decide +kernel
theorem dX8_store_78 : decode cX8_store 78 = .ok (.ireturn, 1) := by decide +kernel
set_option maxRecDepth 20000 in
theorem ggX8_place_X8_isInstruction : GoodIn wsX8_place wsX8_isInstruction := goodIn_r _ [7] (by decide +kernel) (by decide +kernel)
set_option maxRecDepth 20000 in
theorem gX8_place_X8_isInstruction : GoodIn wsX8_place (va_wsS RX8 157 yX8_isInstruction wsX8_isInstruction) := goodIn_app (goodIn_of _ (by decide +kernel)) ggX8_place_X8_isInstruction
set_option maxRecDepth 20000 in
theorem ggX8_place_X8_no : GoodIn wsX8_place wsX8_no := goodIn_r _ [11, 12, 16, 17, 18, 19, 20, 21, 22, 23, 24, 25, 26, 27, 28, 29, 30, 31, 32, 33, 34, 35, 36, 37, 38, 39, 40, 41, 42, 43, 44, 45, 46, 47, 48, 49, 50, 51, 52, 53, 54, 55, 56, 57, 58, 59] (by decide +kernel) (by decide +kernel)
set_option maxRecDepth 20000 in
theorem gX8_place_X8_no : GoodIn wsX8_place (wsV RX8 122 RX8 yX8_no wsX8_no) := goodIn_app (goodIn_of _ (by decide +kernel)) ggX8_place_X8_no
set_option maxRecDepth 20000 in
theorem ggX8_place_X8_isIn : GoodIn wsX8_place wsX8_isIn := goodIn_r _ [15] (by decide +kernel) (by decide +kernel)
set_option maxRecDepth 20000 in
theorem gX8_place_X8_isIn : GoodIn wsX8_place (va_wsS RX8 128 yX8_isIn wsX8_isIn) := goodIn_app (goodIn_of _ (by decide +kernel)) ggX8_place_X8_isIn
theorem dX8_place_0 : decode cX8_place 0 = .ok (.iload_n 1, 1) := by decide +kernel
theorem dX8_place_1 : decode cX8_place 1 = .ok (.invokestatic 157, 3) := by decide +kernel
theorem dX8_place_4 : decode cX8_place 4 = .ok (.ifCond .ne 10, 3) := by decide +kernel
theorem dX8_place_7 : decode cX8_place 7 = .ok (.aload_n 0, 1) := by decide +kernel
theorem dX8_place_8 : decode cX8_place 8 = .ok (.bipush (-3), 2) := by decide +kernel
theorem dX8_place_10 : decode cX8_place 10 = .ok (.invokevirtual 122, 3) := by decide +kernel
theorem dX8_place_13 : decode cX8_place 13 = .ok (.ireturn, 1) := by decide +kernel
theorem dX8_place_14 : decode cX8_place 14 = .ok (.aload_n 0, 1) := by decide +kernel
theorem dX8_place_15 : decode cX8_place 15 = .ok (.getfield 164, 3) := by decide +kernel
theorem dX8_place_18 : decode cX8_place 18 = .ok (.ifCond .ne 10, 3) := by decide +kernel
theorem dX8_place_21 : decode cX8_place 21 = .ok (.aload_n 0, 1) := by decide +kernel
theorem dX8_place_22 : decode cX8_place 22 = .ok (.bipush (-2), 2) := by decide +kernel
theorem dX8_place_24 : decode cX8_place 24 = .ok (.invokevirtual 122, 3) := by decide +kernel
theorem dX8_place_27 : decode cX8_place 27 = .ok (.ireturn, 1) := by decide +kernel
theorem dX8_place_28 : decode cX8_place 28 = .ok (.iload_n 2, 1) := by decide +kernel
theorem dX8_place_29 : decode cX8_place 29 = .ok (.i2l, 1) := by decide +kernel
theorem dX8_place_30 : decode cX8_place 30 = .ok (.lconst 0, 1) := by decide +kernel
theorem dX8_place_31 : decode cX8_place 31 = .ok (.aload_n 0, 1) := by decide +kernel
theorem dX8_place_32 : decode cX8_place 32 = .ok (.getfield 57, 3) := by decide +kernel
theorem dX8_place_35 : decode cX8_place 35 = .ok (.iload_n 1, 1) := by decide +kernel
theorem dX8_place_36 : decode cX8_place 36 = .ok (.iaload, 1) := by decide +kernel
theorem dX8_place_37 : decode cX8_place 37 = .ok (.iconst 1, 1) := by decide +kernel
theorem dX8_place_38 : decode cX8_place 38 = .ok (.isub, 1) := by decide +kernel
theorem dX8_place_39 : decode cX8_place 39 = .ok (.i2l, 1) := by decide +kernel
theorem dX8_place_40 : decode cX8_place 40 = .ok (.invokestatic 128, 3) := by decide +kernel
theorem dX8_place_43 : decode cX8_place 43 = .ok (.ifCond .eq 17, 3) := by decide +kernel
theorem dX8_place_46 : decode cX8_place 46 = .ok (.aload_n 0, 1) := by decide +kernel
theorem dX8_place_47 : decode cX8_place 47 = .ok (.getfield 82, 3) := by decide +kernel
theorem dX8_place_50 : decode cX8_place 50 = .ok (.bipush 10, 2) := by decide +kernel
theorem dX8_place_52 : decode cX8_place 52 = .ok (.iload_n 1, 1) := by decide +kernel
theorem dX8_place_53 : decode cX8_place 53 = .ok (.imul, 1) := by decide +kernel
theorem dX8_place_54 : decode cX8_place 54 = .ok (.iload_n 2, 1) := by decide +kernel
theorem dX8_place_55 : decode cX8_place 55 = .ok (.iadd, 1) := by decide +kernel
theorem dX8_place_56 : decode cX8_place 56 = .ok (.iaload, 1) := by decide +kernel
theorem dX8_place_57 : decode cX8_place 57 = .ok (.goto 9, 3) := by decide +kernel
theorem dX8_place_60 : decode cX8_place 60 = .ok (.aload_n 0, 1) := by decide +kernel
theorem dX8_place_61 : decode cX8_place 61 = .ok (.bipush (-3), 2) := by decide +kernel
theorem dX8_place_63 : decode cX8_place 63 = .ok (.invokevirtual 122, 3) := by decide +kernel
theorem dX8_place_66 : decode cX8_place 66 = .ok (.ireturn, 1) := by decide +kernel
set_option maxRecDepth 20000 in
theorem ggX8_actsAt_X8_actOf : GoodIn wsX8_actsAt wsX8_actOf := goodIn_r _ [7, 8, 9, 10, 11, 12, 13, 14, 15, 16, 17, 18, 19, 20, 21, 22, 23, 24, 25, 26, 27, 28, 29, 30, 31, 32, 33, 34, 35, 36, 37, 38, 39, 40, 41, 42, 43, 44, 45, 46, 47, 48, 49, 50, 51, 52, 53] (by decide +kernel) (by decide +kernel)
set_option maxRecDepth 20000 in
theorem gX8_actsAt_X8_actOf : GoodIn wsX8_actsAt (wsV RX8 198 RX8 yX8_actOf wsX8_actOf) := goodIn_app (goodIn_of _ (by decide +kernel)) ggX8_actsAt_X8_actOf
theorem dX8_actsAt_0 : decode cX8_actsAt 0 = .ok (.iconst 0, 1) := by decide +kernel
theorem dX8_actsAt_1 : decode cX8_actsAt 1 = .ok (.istore_n 2, 1) := by decide +kernel
theorem dX8_actsAt_2 : decode cX8_actsAt 2 = .ok (.aload_n 0, 1) := by decide +kernel
theorem dX8_actsAt_3 : decode cX8_actsAt 3 = .ok (.aload_n 0, 1) := by decide +kernel
theorem dX8_actsAt_4 : decode cX8_actsAt 4 = .ok (.getfield 70, 3) := by decide +kernel
theorem dX8_actsAt_7 : decode cX8_actsAt 7 = .ok (.iload_n 1, 1) := by decide +kernel
theorem dX8_actsAt_8 : decode cX8_actsAt 8 = .ok (.iaload, 1) := by decide +kernel
theorem dX8_actsAt_9 : decode cX8_actsAt 9 = .ok (.aload_n 0, 1) := by decide +kernel
theorem dX8_actsAt_10 : decode cX8_actsAt 10 = .ok (.getfield 73, 3) := by decide +kernel
theorem dX8_actsAt_13 : decode cX8_actsAt 13 = .ok (.iload_n 1, 1) := by decide +kernel
theorem dX8_actsAt_14 : decode cX8_actsAt 14 = .ok (.iaload, 1) := by decide +kernel
theorem dX8_actsAt_15 : decode cX8_actsAt 15 = .ok (.iload_n 2, 1) := by decide +kernel
theorem dX8_actsAt_16 : decode cX8_actsAt 16 = .ok (.invokevirtual 198, 3) := by decide +kernel
theorem dX8_actsAt_19 : decode cX8_actsAt 19 = .ok (.ifCond .lt 9, 3) := by decide +kernel
theorem dX8_actsAt_22 : decode cX8_actsAt 22 = .ok (.iinc 2 1, 3) := by decide +kernel
theorem dX8_actsAt_25 : decode cX8_actsAt 25 = .ok (.goto (-23), 3) := by decide +kernel
theorem dX8_actsAt_28 : decode cX8_actsAt 28 = .ok (.iload_n 2, 1) := by decide +kernel
theorem dX8_actsAt_29 : decode cX8_actsAt 29 = .ok (.ireturn, 1) := by decide +kernel
set_option maxRecDepth 20000 in
theorem ggX8_at_X8_no : GoodIn wsX8_at wsX8_no := goodIn_r _ [9, 10, 26, 27, 28, 29, 30, 31, 32, 33, 34, 35, 36, 37, 38, 39, 40, 41, 42, 43, 44, 45, 46, 47, 48, 49, 50, 51, 52, 53, 54, 55, 56, 57, 58, 59, 60, 61, 62, 63, 64, 65, 66, 67, 68, 69] (by decide +kernel) (by decide +kernel)
set_option maxRecDepth 20000 in
theorem gX8_at_X8_no : GoodIn wsX8_at (wsV RX8 122 RX8 yX8_no wsX8_no) := goodIn_app (goodIn_of _ (by decide +kernel)) ggX8_at_X8_no
set_option maxRecDepth 20000 in
theorem ggX8_at_X8_isIn : GoodIn wsX8_at wsX8_isIn := goodIn_r _ [13] (by decide +kernel) (by decide +kernel)
set_option maxRecDepth 20000 in
theorem gX8_at_X8_isIn : GoodIn wsX8_at (va_wsS RX8 128 yX8_isIn wsX8_isIn) := goodIn_app (goodIn_of _ (by decide +kernel)) ggX8_at_X8_isIn
set_option maxRecDepth 20000 in
theorem ggX8_at_X8_actsAt : GoodIn wsX8_at wsX8_actsAt := goodIn_r _ [17, 18, 19, 20, 21, 22, 8, 23, 24, 25, 26, 27, 28, 29, 30, 31, 32, 33, 34, 35, 36, 37, 38, 39, 40, 41, 42, 43, 44, 45, 46, 47, 48, 49, 50, 51, 52, 53, 54, 55, 56, 57, 58, 59, 60, 61, 62, 63, 64, 65, 66, 67, 68, 69] (by decide +kernel) (by decide +kernel)
set_option maxRecDepth 20000 in
theorem gX8_at_X8_actsAt : GoodIn wsX8_at (wsV RX8 217 RX8 yX8_actsAt wsX8_actsAt) := goodIn_app (goodIn_of _ (by decide +kernel)) ggX8_at_X8_actsAt
theorem dX8_at_0 : decode cX8_at 0 = .ok (.aload_n 0, 1) := by decide +kernel
theorem dX8_at_1 : decode cX8_at 1 = .ok (.getfield 164, 3) := by decide +kernel
theorem dX8_at_4 : decode cX8_at 4 = .ok (.ifCond .ne 10, 3) := by decide +kernel
theorem dX8_at_7 : decode cX8_at 7 = .ok (.aload_n 0, 1) := by decide +kernel
theorem dX8_at_8 : decode cX8_at 8 = .ok (.bipush (-2), 2) := by decide +kernel
theorem dX8_at_10 : decode cX8_at 10 = .ok (.invokevirtual 122, 3) := by decide +kernel
theorem dX8_at_13 : decode cX8_at 13 = .ok (.ireturn, 1) := by decide +kernel
theorem dX8_at_14 : decode cX8_at 14 = .ok (.iload_n 1, 1) := by decide +kernel
theorem dX8_at_15 : decode cX8_at 15 = .ok (.i2l, 1) := by decide +kernel
theorem dX8_at_16 : decode cX8_at 16 = .ok (.lconst 0, 1) := by decide +kernel
theorem dX8_at_17 : decode cX8_at 17 = .ok (.aload_n 0, 1) := by decide +kernel
theorem dX8_at_18 : decode cX8_at 18 = .ok (.getfield 205, 3) := by decide +kernel
theorem dX8_at_21 : decode cX8_at 21 = .ok (.iconst 1, 1) := by decide +kernel
theorem dX8_at_22 : decode cX8_at 22 = .ok (.isub, 1) := by decide +kernel
theorem dX8_at_23 : decode cX8_at 23 = .ok (.i2l, 1) := by decide +kernel
theorem dX8_at_24 : decode cX8_at 24 = .ok (.invokestatic 128, 3) := by decide +kernel
theorem dX8_at_27 : decode cX8_at 27 = .ok (.ifCond .ne 10, 3) := by decide +kernel
theorem dX8_at_30 : decode cX8_at 30 = .ok (.aload_n 0, 1) := by decide +kernel
theorem dX8_at_31 : decode cX8_at 31 = .ok (.bipush (-3), 2) := by decide +kernel
theorem dX8_at_33 : decode cX8_at 33 = .ok (.invokevirtual 122, 3) := by decide +kernel
theorem dX8_at_36 : decode cX8_at 36 = .ok (.ireturn, 1) := by decide +kernel
theorem dX8_at_37 : decode cX8_at 37 = .ok (.iload_n 2, 1) := by decide +kernel
theorem dX8_at_38 : decode cX8_at 38 = .ok (.tableswitch 46 0 2 #[26, 32, 39], 26) := by decide +kernel
theorem dX8_at_64 : decode cX8_at 64 = .ok (.aload_n 0, 1) := by decide +kernel
theorem dX8_at_65 : decode cX8_at 65 = .ok (.iload_n 1, 1) := by decide +kernel
theorem dX8_at_66 : decode cX8_at 66 = .ok (.invokevirtual 217, 3) := by decide +kernel
theorem dX8_at_69 : decode cX8_at 69 = .ok (.ireturn, 1) := by decide +kernel
theorem dX8_at_70 : decode cX8_at 70 = .ok (.aload_n 0, 1) := by decide +kernel
theorem dX8_at_71 : decode cX8_at 71 = .ok (.getfield 76, 3) := by decide +kernel
theorem dX8_at_74 : decode cX8_at 74 = .ok (.iload_n 1, 1) := by decide +kernel
theorem dX8_at_75 : decode cX8_at 75 = .ok (.iaload, 1) := by decide +kernel
theorem dX8_at_76 : decode cX8_at 76 = .ok (.ireturn, 1) := by decide +kernel
theorem dX8_at_77 : decode cX8_at 77 = .ok (.aload_n 0, 1) := by decide +kernel
theorem dX8_at_78 : decode cX8_at 78 = .ok (.getfield 79, 3) := by decide +kernel
theorem dX8_at_81 : decode cX8_at 81 = .ok (.iload_n 1, 1) := by decide +kernel
theorem dX8_at_82 : decode cX8_at 82 = .ok (.iaload, 1) := by decide +kernel
theorem dX8_at_83 : decode cX8_at 83 = .ok (.ireturn, 1) := by decide +kernel
theorem dX8_at_84 : decode cX8_at 84 = .ok (.aload_n 0, 1) := by decide +kernel
theorem dX8_at_85 : decode cX8_at 85 = .ok (.bipush (-6), 2) := by decide +kernel
theorem dX8_at_87 : decode cX8_at 87 = .ok (.invokevirtual 122, 3) := by decide +kernel
theorem dX8_at_90 : decode cX8_at 90 = .ok (.ireturn, 1) := by decide +kernel
set_option maxRecDepth 20000 in
theorem ggX8_findFields_X8_actsAt : GoodIn wsX8_findFields wsX8_actsAt := goodIn_r _ [12, 5, 6, 13, 14, 15, 11, 16, 17, 18, 44, 45, 46, 47, 48, 49, 50, 51, 52, 53, 54, 55, 56, 57, 58, 59, 60, 61, 62, 63, 64, 65, 66, 67, 68, 69, 70, 71, 72, 73, 74, 75, 76, 77, 78, 79, 80, 81, 82, 83, 84, 85, 86, 87] (by decide +kernel) (by decide +kernel)
set_option maxRecDepth 20000 in
theorem gX8_findFields_X8_actsAt : GoodIn wsX8_findFields (wsV RX8 217 RX8 yX8_actsAt wsX8_actsAt) := goodIn_app (goodIn_of _ (by decide +kernel)) ggX8_findFields_X8_actsAt
set_option maxRecDepth 20000 in
theorem ggX8_findFields_X8_actOf : GoodIn wsX8_findFields wsX8_actOf := goodIn_r _ [16, 17, 18, 44, 45, 46, 47, 48, 49, 50, 51, 52, 53, 54, 55, 56, 57, 58, 59, 60, 61, 62, 63, 64, 65, 66, 67, 68, 69, 70, 71, 72, 73, 74, 75, 76, 77, 78, 79, 80, 81, 82, 83, 84, 85, 86, 87] (by decide +kernel) (by decide +kernel)
set_option maxRecDepth 20000 in
theorem gX8_findFields_X8_actOf : GoodIn wsX8_findFields (wsV RX8 198 RX8 yX8_actOf wsX8_actOf) := goodIn_app (goodIn_of _ (by decide +kernel)) ggX8_findFields_X8_actOf
set_option maxRecDepth 20000 in
theorem ggX8_findFields_X8_partOf : GoodIn wsX8_findFields wsX8_partOf := goodIn_r _ [21] (by decide +kernel) (by decide +kernel)
set_option maxRecDepth 20000 in
theorem gX8_findFields_X8_partOf : GoodIn wsX8_findFields (va_wsS RX8 172 yX8_partOf wsX8_partOf) := goodIn_app (goodIn_of _ (by decide +kernel)) ggX8_findFields_X8_partOf
set_option maxRecDepth 20000 in
theorem ggX8_findFields_X8_isNew : GoodIn wsX8_findFields wsX8_isNew := goodIn_r _ [25, 4, 26, 27, 28, 11, 29, 7, 30, 31, 32, 44, 45, 46, 47, 48, 49, 50, 51, 52, 53, 54, 55, 56, 57, 58, 59, 60, 61, 62, 63, 64, 65, 66, 67, 68, 69, 70, 71, 72, 73, 74, 75, 76, 77, 78, 79, 80, 81, 82, 83, 84, 85, 86, 87] (by decide +kernel) (by decide +kernel)
set_option maxRecDepth 20000 in
theorem gX8_findFields_X8_isNew : GoodIn wsX8_findFields (wsV RX8 220 RX8 yX8_isNew wsX8_isNew) := goodIn_app (goodIn_of _ (by decide +kernel)) ggX8_findFields_X8_isNew
set_option maxRecDepth 20000 in
theorem ggX8_findFields_X8_findGroups : GoodIn wsX8_findFields wsX8_findGroups := goodIn_r _ [36, 37, 38, 1, 39, 40, 41, 42, 11, 43, 2, 44, 45, 46, 47, 48, 49, 50, 51, 52, 53, 54, 55, 56, 57, 58, 59, 60, 61, 62, 63, 64, 65, 66, 67, 68, 69, 70, 71, 72, 73, 74, 75, 76, 77, 78, 79, 80, 81, 82, 83, 84, 85, 86, 87] (by decide +kernel) (by decide +kernel)
set_option maxRecDepth 20000 in
theorem gX8_findFields_X8_findGroups : GoodIn wsX8_findFields (wsV RX8 223 RX8 yX8_findGroups wsX8_findGroups) := goodIn_app (goodIn_of _ (by decide +kernel)) ggX8_findFields_X8_findGroups
theorem dX8_findFields_0 : decode cX8_findFields 0 = .ok (.iconst 0, 1) := by decide +kernel
theorem dX8_findFields_1 : decode cX8_findFields 1 = .ok (.istore_n 1, 1) := by decide +kernel
theorem dX8_findFields_2 : decode cX8_findFields 2 = .ok (.iload_n 1, 1) := by decide +kernel
theorem dX8_findFields_3 : decode cX8_findFields 3 = .ok (.bipush 7, 2) := by decide +kernel
theorem dX8_findFields_5 : decode cX8_findFields 5 = .ok (.if_icmp .ge 23, 3) := by decide +kernel
theorem dX8_findFields_8 : decode cX8_findFields 8 = .ok (.aload_n 0, 1) := by decide +kernel
theorem dX8_findFields_9 : decode cX8_findFields 9 = .ok (.getfield 88, 3) := by decide +kernel
theorem dX8_findFields_12 : decode cX8_findFields 12 = .ok (.iload_n 1, 1) := by decide +kernel
theorem dX8_findFields_13 : decode cX8_findFields 13 = .ok (.iconst 0, 1) := by decide +kernel
theorem dX8_findFields_14 : decode cX8_findFields 14 = .ok (.iastore, 1) := by decide +kernel
theorem dX8_findFields_15 : decode cX8_findFields 15 = .ok (.aload_n 0, 1) := by decide +kernel
theorem dX8_findFields_16 : decode cX8_findFields 16 = .ok (.getfield 91, 3) := by decide +kernel
theorem dX8_findFields_19 : decode cX8_findFields 19 = .ok (.iload_n 1, 1) := by decide +kernel
theorem dX8_findFields_20 : decode cX8_findFields 20 = .ok (.iconst 0, 1) := by decide +kernel
theorem dX8_findFields_21 : decode cX8_findFields 21 = .ok (.iastore, 1) := by decide +kernel
theorem dX8_findFields_22 : decode cX8_findFields 22 = .ok (.iinc 1 1, 3) := by decide +kernel
theorem dX8_findFields_25 : decode cX8_findFields 25 = .ok (.goto (-23), 3) := by decide +kernel
theorem dX8_findFields_28 : decode cX8_findFields 28 = .ok (.iconst 0, 1) := by decide +kernel
theorem dX8_findFields_29 : decode cX8_findFields 29 = .ok (.istore_n 1, 1) := by decide +kernel
theorem dX8_findFields_30 : decode cX8_findFields 30 = .ok (.iload_n 1, 1) := by decide +kernel
theorem dX8_findFields_31 : decode cX8_findFields 31 = .ok (.aload_n 0, 1) := by decide +kernel
theorem dX8_findFields_32 : decode cX8_findFields 32 = .ok (.getfield 205, 3) := by decide +kernel
theorem dX8_findFields_35 : decode cX8_findFields 35 = .ok (.if_icmp .ge 226, 3) := by decide +kernel
theorem dX8_findFields_38 : decode cX8_findFields 38 = .ok (.iconst 0, 1) := by decide +kernel
theorem dX8_findFields_39 : decode cX8_findFields 39 = .ok (.istore_n 2, 1) := by decide +kernel
theorem dX8_findFields_40 : decode cX8_findFields 40 = .ok (.iconst 0, 1) := by decide +kernel
theorem dX8_findFields_41 : decode cX8_findFields 41 = .ok (.istore_n 3, 1) := by decide +kernel
theorem dX8_findFields_42 : decode cX8_findFields 42 = .ok (.iload_n 3, 1) := by decide +kernel
theorem dX8_findFields_43 : decode cX8_findFields 43 = .ok (.bipush 7, 2) := by decide +kernel
theorem dX8_findFields_45 : decode cX8_findFields 45 = .ok (.if_icmp .ge 21, 3) := by decide +kernel
theorem dX8_findFields_48 : decode cX8_findFields 48 = .ok (.aload_n 0, 1) := by decide +kernel
theorem dX8_findFields_49 : decode cX8_findFields 49 = .ok (.getfield 85, 3) := by decide +kernel
theorem dX8_findFields_52 : decode cX8_findFields 52 = .ok (.bipush 7, 2) := by decide +kernel
theorem dX8_findFields_54 : decode cX8_findFields 54 = .ok (.iload_n 1, 1) := by decide +kernel
theorem dX8_findFields_55 : decode cX8_findFields 55 = .ok (.imul, 1) := by decide +kernel
theorem dX8_findFields_56 : decode cX8_findFields 56 = .ok (.iload_n 3, 1) := by decide +kernel
theorem dX8_findFields_57 : decode cX8_findFields 57 = .ok (.iadd, 1) := by decide +kernel
theorem dX8_findFields_58 : decode cX8_findFields 58 = .ok (.iconst (-1), 1) := by decide +kernel
theorem dX8_findFields_59 : decode cX8_findFields 59 = .ok (.iastore, 1) := by decide +kernel
theorem dX8_findFields_60 : decode cX8_findFields 60 = .ok (.iinc 3 1, 3) := by decide +kernel
theorem dX8_findFields_63 : decode cX8_findFields 63 = .ok (.goto (-21), 3) := by decide +kernel
theorem dX8_findFields_66 : decode cX8_findFields 66 = .ok (.iconst 0, 1) := by decide +kernel
theorem dX8_findFields_67 : decode cX8_findFields 67 = .ok (.istore_n 3, 1) := by decide +kernel
theorem dX8_findFields_68 : decode cX8_findFields 68 = .ok (.iload_n 3, 1) := by decide +kernel
theorem dX8_findFields_69 : decode cX8_findFields 69 = .ok (.aload_n 0, 1) := by decide +kernel
theorem dX8_findFields_70 : decode cX8_findFields 70 = .ok (.iload_n 1, 1) := by decide +kernel
theorem dX8_findFields_71 : decode cX8_findFields 71 = .ok (.invokevirtual 217, 3) := by decide +kernel
theorem dX8_findFields_74 : decode cX8_findFields 74 = .ok (.if_icmp .ge 73, 3) := by decide +kernel
theorem dX8_findFields_77 : decode cX8_findFields 77 = .ok (.aload_n 0, 1) := by decide +kernel
theorem dX8_findFields_78 : decode cX8_findFields 78 = .ok (.aload_n 0, 1) := by decide +kernel
theorem dX8_findFields_79 : decode cX8_findFields 79 = .ok (.getfield 70, 3) := by decide +kernel
theorem dX8_findFields_82 : decode cX8_findFields 82 = .ok (.iload_n 1, 1) := by decide +kernel
theorem dX8_findFields_83 : decode cX8_findFields 83 = .ok (.iaload, 1) := by decide +kernel
theorem dX8_findFields_84 : decode cX8_findFields 84 = .ok (.aload_n 0, 1) := by decide +kernel
theorem dX8_findFields_85 : decode cX8_findFields 85 = .ok (.getfield 73, 3) := by decide +kernel
theorem dX8_findFields_88 : decode cX8_findFields 88 = .ok (.iload_n 1, 1) := by decide +kernel
theorem dX8_findFields_89 : decode cX8_findFields 89 = .ok (.iaload, 1) := by decide +kernel
theorem dX8_findFields_90 : decode cX8_findFields 90 = .ok (.iload_n 3, 1) := by decide +kernel
theorem dX8_findFields_91 : decode cX8_findFields 91 = .ok (.invokevirtual 198, 3) := by decide +kernel
theorem dX8_findFields_94 : decode cX8_findFields 94 = .ok (.istore 4, 2) := by decide +kernel
theorem dX8_findFields_96 : decode cX8_findFields 96 = .ok (.aload_n 0, 1) := by decide +kernel
theorem dX8_findFields_97 : decode cX8_findFields 97 = .ok (.getfield 29, 3) := by decide +kernel
theorem dX8_findFields_100 : decode cX8_findFields 100 = .ok (.iload 4, 2) := by decide +kernel
theorem dX8_findFields_102 : decode cX8_findFields 102 = .ok (.iaload, 1) := by decide +kernel
theorem dX8_findFields_103 : decode cX8_findFields 103 = .ok (.invokestatic 172, 3) := by decide +kernel
theorem dX8_findFields_106 : decode cX8_findFields 106 = .ok (.istore 5, 2) := by decide +kernel
theorem dX8_findFields_108 : decode cX8_findFields 108 = .ok (.aload_n 0, 1) := by decide +kernel
theorem dX8_findFields_109 : decode cX8_findFields 109 = .ok (.getfield 85, 3) := by decide +kernel
theorem dX8_findFields_112 : decode cX8_findFields 112 = .ok (.bipush 7, 2) := by decide +kernel
theorem dX8_findFields_114 : decode cX8_findFields 114 = .ok (.iload_n 1, 1) := by decide +kernel
theorem dX8_findFields_115 : decode cX8_findFields 115 = .ok (.imul, 1) := by decide +kernel
theorem dX8_findFields_116 : decode cX8_findFields 116 = .ok (.iload 5, 2) := by decide +kernel
theorem dX8_findFields_118 : decode cX8_findFields 118 = .ok (.ifCond .ne 7, 3) := by decide +kernel
theorem dX8_findFields_121 : decode cX8_findFields 121 = .ok (.iload_n 2, 1) := by decide +kernel
theorem dX8_findFields_122 : decode cX8_findFields 122 = .ok (.goto 7, 3) := by decide +kernel
theorem dX8_findFields_125 : decode cX8_findFields 125 = .ok (.iload 5, 2) := by decide +kernel
theorem dX8_findFields_127 : decode cX8_findFields 127 = .ok (.iconst 2, 1) := by decide +kernel
theorem dX8_findFields_128 : decode cX8_findFields 128 = .ok (.iadd, 1) := by decide +kernel
theorem dX8_findFields_129 : decode cX8_findFields 129 = .ok (.iadd, 1) := by decide +kernel
theorem dX8_findFields_130 : decode cX8_findFields 130 = .ok (.iload 4, 2) := by decide +kernel
theorem dX8_findFields_132 : decode cX8_findFields 132 = .ok (.iastore, 1) := by decide +kernel
theorem dX8_findFields_133 : decode cX8_findFields 133 = .ok (.iload 5, 2) := by decide +kernel
theorem dX8_findFields_135 : decode cX8_findFields 135 = .ok (.ifCond .ne 6, 3) := by decide +kernel
theorem dX8_findFields_138 : decode cX8_findFields 138 = .ok (.iinc 2 1, 3) := by decide +kernel
theorem dX8_findFields_141 : decode cX8_findFields 141 = .ok (.iinc 3 1, 3) := by decide +kernel
theorem dX8_findFields_144 : decode cX8_findFields 144 = .ok (.goto (-76), 3) := by decide +kernel
theorem dX8_findFields_147 : decode cX8_findFields 147 = .ok (.iconst 0, 1) := by decide +kernel
theorem dX8_findFields_148 : decode cX8_findFields 148 = .ok (.istore_n 3, 1) := by decide +kernel
theorem dX8_findFields_149 : decode cX8_findFields 149 = .ok (.iload_n 3, 1) := by decide +kernel
theorem dX8_findFields_150 : decode cX8_findFields 150 = .ok (.bipush 7, 2) := by decide +kernel
theorem dX8_findFields_152 : decode cX8_findFields 152 = .ok (.if_icmp .ge 103, 3) := by decide +kernel
theorem dX8_findFields_155 : decode cX8_findFields 155 = .ok (.aload_n 0, 1) := by decide +kernel
theorem dX8_findFields_156 : decode cX8_findFields 156 = .ok (.getfield 85, 3) := by decide +kernel
theorem dX8_findFields_159 : decode cX8_findFields 159 = .ok (.bipush 7, 2) := by decide +kernel
theorem dX8_findFields_161 : decode cX8_findFields 161 = .ok (.iload_n 1, 1) := by decide +kernel
theorem dX8_findFields_162 : decode cX8_findFields 162 = .ok (.imul, 1) := by decide +kernel
theorem dX8_findFields_163 : decode cX8_findFields 163 = .ok (.iload_n 3, 1) := by decide +kernel
theorem dX8_findFields_164 : decode cX8_findFields 164 = .ok (.iadd, 1) := by decide +kernel
theorem dX8_findFields_165 : decode cX8_findFields 165 = .ok (.iaload, 1) := by decide +kernel
theorem dX8_findFields_166 : decode cX8_findFields 166 = .ok (.ifCond .ge 6, 3) := by decide +kernel
theorem dX8_findFields_169 : decode cX8_findFields 169 = .ok (.goto 80, 3) := by decide +kernel
theorem dX8_findFields_172 : decode cX8_findFields 172 = .ok (.aload_n 0, 1) := by decide +kernel
theorem dX8_findFields_173 : decode cX8_findFields 173 = .ok (.getfield 88, 3) := by decide +kernel
theorem dX8_findFields_176 : decode cX8_findFields 176 = .ok (.iload_n 3, 1) := by decide +kernel
theorem dX8_findFields_177 : decode cX8_findFields 177 = .ok (.dup2, 1) := by decide +kernel
theorem dX8_findFields_178 : decode cX8_findFields 178 = .ok (.iaload, 1) := by decide +kernel
theorem dX8_findFields_179 : decode cX8_findFields 179 = .ok (.aload_n 0, 1) := by decide +kernel
theorem dX8_findFields_180 : decode cX8_findFields 180 = .ok (.iload_n 1, 1) := by decide +kernel
theorem dX8_findFields_181 : decode cX8_findFields 181 = .ok (.iload_n 3, 1) := by decide +kernel
theorem dX8_findFields_182 : decode cX8_findFields 182 = .ok (.invokevirtual 220, 3) := by decide +kernel
theorem dX8_findFields_185 : decode cX8_findFields 185 = .ok (.ifCond .eq 7, 3) := by decide +kernel
theorem dX8_findFields_188 : decode cX8_findFields 188 = .ok (.iconst 1, 1) := by decide +kernel
theorem dX8_findFields_189 : decode cX8_findFields 189 = .ok (.goto 4, 3) := by decide +kernel
theorem dX8_findFields_192 : decode cX8_findFields 192 = .ok (.iconst 0, 1) := by decide +kernel
theorem dX8_findFields_193 : decode cX8_findFields 193 = .ok (.iadd, 1) := by decide +kernel
theorem dX8_findFields_194 : decode cX8_findFields 194 = .ok (.iastore, 1) := by decide +kernel
theorem dX8_findFields_195 : decode cX8_findFields 195 = .ok (.iconst 0, 1) := by decide +kernel
theorem dX8_findFields_196 : decode cX8_findFields 196 = .ok (.istore 4, 2) := by decide +kernel
theorem dX8_findFields_198 : decode cX8_findFields 198 = .ok (.iload 4, 2) := by decide +kernel
theorem dX8_findFields_200 : decode cX8_findFields 200 = .ok (.bipush 7, 2) := by decide +kernel
theorem dX8_findFields_202 : decode cX8_findFields 202 = .ok (.if_icmp .ge 47, 3) := by decide +kernel
theorem dX8_findFields_205 : decode cX8_findFields 205 = .ok (.aload_n 0, 1) := by decide +kernel
theorem dX8_findFields_206 : decode cX8_findFields 206 = .ok (.getfield 91, 3) := by decide +kernel
theorem dX8_findFields_209 : decode cX8_findFields 209 = .ok (.iload_n 3, 1) := by decide +kernel
theorem dX8_findFields_210 : decode cX8_findFields 210 = .ok (.dup2, 1) := by decide +kernel
theorem dX8_findFields_211 : decode cX8_findFields 211 = .ok (.iaload, 1) := by decide +kernel
theorem dX8_findFields_212 : decode cX8_findFields 212 = .ok (.iload 4, 2) := by decide +kernel
theorem dX8_findFields_214 : decode cX8_findFields 214 = .ok (.iload_n 3, 1) := by decide +kernel
theorem dX8_findFields_215 : decode cX8_findFields 215 = .ok (.if_icmp .eq 25, 3) := by decide +kernel
theorem dX8_findFields_218 : decode cX8_findFields 218 = .ok (.aload_n 0, 1) := by decide +kernel
theorem dX8_findFields_219 : decode cX8_findFields 219 = .ok (.getfield 85, 3) := by decide +kernel
theorem dX8_findFields_222 : decode cX8_findFields 222 = .ok (.bipush 7, 2) := by decide +kernel
theorem dX8_findFields_224 : decode cX8_findFields 224 = .ok (.iload_n 1, 1) := by decide +kernel
theorem dX8_findFields_225 : decode cX8_findFields 225 = .ok (.imul, 1) := by decide +kernel
theorem dX8_findFields_226 : decode cX8_findFields 226 = .ok (.iload 4, 2) := by decide +kernel
theorem dX8_findFields_228 : decode cX8_findFields 228 = .ok (.iadd, 1) := by decide +kernel
theorem dX8_findFields_229 : decode cX8_findFields 229 = .ok (.iaload, 1) := by decide +kernel
theorem dX8_findFields_230 : decode cX8_findFields 230 = .ok (.ifCond .lt 10, 3) := by decide +kernel
theorem dX8_findFields_233 : decode cX8_findFields 233 = .ok (.iconst 1, 1) := by decide +kernel
theorem dX8_findFields_234 : decode cX8_findFields 234 = .ok (.iload 4, 2) := by decide +kernel
theorem dX8_findFields_236 : decode cX8_findFields 236 = .ok (.ishl, 1) := by decide +kernel
theorem dX8_findFields_237 : decode cX8_findFields 237 = .ok (.goto 4, 3) := by decide +kernel
theorem dX8_findFields_240 : decode cX8_findFields 240 = .ok (.iconst 0, 1) := by decide +kernel
theorem dX8_findFields_241 : decode cX8_findFields 241 = .ok (.ior, 1) := by decide +kernel
theorem dX8_findFields_242 : decode cX8_findFields 242 = .ok (.iastore, 1) := by decide +kernel
theorem dX8_findFields_243 : decode cX8_findFields 243 = .ok (.iinc 4 1, 3) := by decide +kernel
theorem dX8_findFields_246 : decode cX8_findFields 246 = .ok (.goto (-48), 3) := by decide +kernel
theorem dX8_findFields_249 : decode cX8_findFields 249 = .ok (.iinc 3 1, 3) := by decide +kernel
theorem dX8_findFields_252 : decode cX8_findFields 252 = .ok (.goto (-103), 3) := by decide +kernel
theorem dX8_findFields_255 : decode cX8_findFields 255 = .ok (.iinc 1 1, 3) := by decide +kernel
theorem dX8_findFields_258 : decode cX8_findFields 258 = .ok (.goto (-228), 3) := by decide +kernel
theorem dX8_findFields_261 : decode cX8_findFields 261 = .ok (.aload_n 0, 1) := by decide +kernel
theorem dX8_findFields_262 : decode cX8_findFields 262 = .ok (.invokevirtual 223, 3) := by decide +kernel
theorem dX8_findFields_265 : decode cX8_findFields 265 = .ok (.return_, 1) := by decide +kernel
set_option maxRecDepth 20000 in
theorem ggX8_isNew_X8_areSame : GoodIn wsX8_isNew wsX8_areSame := goodIn_r _ [6, 7, 8, 9, 10, 11, 12, 13, 14, 15, 16, 17, 18, 19, 20, 21, 22, 23, 24, 25, 26, 27, 28, 29, 30, 31, 32, 33, 34, 35, 36, 37, 38, 39, 40, 41, 42, 43, 44, 45, 46, 47, 48, 49, 50, 51, 52, 53, 54] (by decide +kernel) (by decide +kernel)
set_option maxRecDepth 20000 in
theorem gX8_isNew_X8_areSame : GoodIn wsX8_isNew (wsV RX8 202 RX8 yX8_areSame wsX8_areSame) := goodIn_app (goodIn_of _ (by decide +kernel)) ggX8_isNew_X8_areSame
theorem dX8_isNew_0 : decode cX8_isNew 0 = .ok (.aload_n 0, 1) := by decide +kernel
theorem dX8_isNew_1 : decode cX8_isNew 1 = .ok (.getfield 85, 3) := by decide +kernel
theorem dX8_isNew_4 : decode cX8_isNew 4 = .ok (.bipush 7, 2) := by decide +kernel
theorem dX8_isNew_6 : decode cX8_isNew 6 = .ok (.iload_n 1, 1) := by decide +kernel
theorem dX8_isNew_7 : decode cX8_isNew 7 = .ok (.imul, 1) := by decide +kernel
theorem dX8_isNew_8 : decode cX8_isNew 8 = .ok (.iload_n 2, 1) := by decide +kernel
theorem dX8_isNew_9 : decode cX8_isNew 9 = .ok (.iadd, 1) := by decide +kernel
theorem dX8_isNew_10 : decode cX8_isNew 10 = .ok (.iaload, 1) := by decide +kernel
theorem dX8_isNew_11 : decode cX8_isNew 11 = .ok (.istore_n 3, 1) := by decide +kernel
theorem dX8_isNew_12 : decode cX8_isNew 12 = .ok (.iconst 1, 1) := by decide +kernel
theorem dX8_isNew_13 : decode cX8_isNew 13 = .ok (.istore 4, 2) := by decide +kernel
theorem dX8_isNew_15 : decode cX8_isNew 15 = .ok (.iconst 0, 1) := by decide +kernel
theorem dX8_isNew_16 : decode cX8_isNew 16 = .ok (.istore 5, 2) := by decide +kernel
theorem dX8_isNew_18 : decode cX8_isNew 18 = .ok (.iload 5, 2) := by decide +kernel
theorem dX8_isNew_20 : decode cX8_isNew 20 = .ok (.iload_n 1, 1) := by decide +kernel
theorem dX8_isNew_21 : decode cX8_isNew 21 = .ok (.if_icmp .ge 50, 3) := by decide +kernel
theorem dX8_isNew_24 : decode cX8_isNew 24 = .ok (.aload_n 0, 1) := by decide +kernel
theorem dX8_isNew_25 : decode cX8_isNew 25 = .ok (.getfield 85, 3) := by decide +kernel
theorem dX8_isNew_28 : decode cX8_isNew 28 = .ok (.bipush 7, 2) := by decide +kernel
theorem dX8_isNew_30 : decode cX8_isNew 30 = .ok (.iload 5, 2) := by decide +kernel
theorem dX8_isNew_32 : decode cX8_isNew 32 = .ok (.imul, 1) := by decide +kernel
theorem dX8_isNew_33 : decode cX8_isNew 33 = .ok (.iload_n 2, 1) := by decide +kernel
theorem dX8_isNew_34 : decode cX8_isNew 34 = .ok (.iadd, 1) := by decide +kernel
theorem dX8_isNew_35 : decode cX8_isNew 35 = .ok (.iaload, 1) := by decide +kernel
theorem dX8_isNew_36 : decode cX8_isNew 36 = .ok (.istore 6, 2) := by decide +kernel
theorem dX8_isNew_38 : decode cX8_isNew 38 = .ok (.iload 4, 2) := by decide +kernel
theorem dX8_isNew_40 : decode cX8_isNew 40 = .ok (.ifCond .eq 22, 3) := by decide +kernel
theorem dX8_isNew_43 : decode cX8_isNew 43 = .ok (.iload 6, 2) := by decide +kernel
theorem dX8_isNew_45 : decode cX8_isNew 45 = .ok (.ifCond .lt 13, 3) := by decide +kernel
theorem dX8_isNew_48 : decode cX8_isNew 48 = .ok (.aload_n 0, 1) := by decide +kernel
theorem dX8_isNew_49 : decode cX8_isNew 49 = .ok (.iload_n 3, 1) := by decide +kernel
theorem dX8_isNew_50 : decode cX8_isNew 50 = .ok (.iload 6, 2) := by decide +kernel
theorem dX8_isNew_52 : decode cX8_isNew 52 = .ok (.invokevirtual 202, 3) := by decide +kernel
theorem dX8_isNew_55 : decode cX8_isNew 55 = .ok (.ifCond .ne 7, 3) := by decide +kernel
theorem dX8_isNew_58 : decode cX8_isNew 58 = .ok (.iconst 1, 1) := by decide +kernel
theorem dX8_isNew_59 : decode cX8_isNew 59 = .ok (.goto 4, 3) := by decide +kernel
theorem dX8_isNew_62 : decode cX8_isNew 62 = .ok (.iconst 0, 1) := by decide +kernel
theorem dX8_isNew_63 : decode cX8_isNew 63 = .ok (.istore 4, 2) := by decide +kernel
theorem dX8_isNew_65 : decode cX8_isNew 65 = .ok (.iinc 5 1, 3) := by decide +kernel
theorem dX8_isNew_68 : decode cX8_isNew 68 = .ok (.goto (-50), 3) := by decide +kernel
theorem dX8_isNew_71 : decode cX8_isNew 71 = .ok (.iload 4, 2) := by decide +kernel
theorem dX8_isNew_73 : decode cX8_isNew 73 = .ok (.ireturn, 1) := by decide +kernel
set_option maxRecDepth 20000 in
theorem ggX8_findGroups_X8_isMet : GoodIn wsX8_findGroups wsX8_isMet := goodIn_r _ [9, 2, 10, 11, 12, 13, 14, 15, 16, 17, 18, 19, 20, 21, 22, 23, 24, 25, 26, 27, 28, 29, 30, 31, 32, 33, 34, 35, 36, 37, 38, 39, 40, 41, 42, 43, 44, 45, 46, 47, 48, 49, 50, 51, 52, 53, 54] (by decide +kernel) (by decide +kernel)
set_option maxRecDepth 20000 in
theorem gX8_findGroups_X8_isMet : GoodIn wsX8_findGroups (wsV RX8 229 RX8 yX8_isMet wsX8_isMet) := goodIn_app (goodIn_of _ (by decide +kernel)) ggX8_findGroups_X8_isMet
theorem dX8_findGroups_0 : decode cX8_findGroups 0 = .ok (.aload_n 0, 1) := by decide +kernel
theorem dX8_findGroups_1 : decode cX8_findGroups 1 = .ok (.iconst 0, 1) := by decide +kernel
theorem dX8_findGroups_2 : decode cX8_findGroups 2 = .ok (.putfield 226, 3) := by decide +kernel
theorem dX8_findGroups_5 : decode cX8_findGroups 5 = .ok (.iconst 0, 1) := by decide +kernel
theorem dX8_findGroups_6 : decode cX8_findGroups 6 = .ok (.istore_n 1, 1) := by decide +kernel
theorem dX8_findGroups_7 : decode cX8_findGroups 7 = .ok (.iload_n 1, 1) := by decide +kernel
theorem dX8_findGroups_8 : decode cX8_findGroups 8 = .ok (.bipush 7, 2) := by decide +kernel
theorem dX8_findGroups_10 : decode cX8_findGroups 10 = .ok (.if_icmp .ge 100, 3) := by decide +kernel
theorem dX8_findGroups_13 : decode cX8_findGroups 13 = .ok (.aload_n 0, 1) := by decide +kernel
theorem dX8_findGroups_14 : decode cX8_findGroups 14 = .ok (.getfield 94, 3) := by decide +kernel
theorem dX8_findGroups_17 : decode cX8_findGroups 17 = .ok (.iload_n 1, 1) := by decide +kernel
theorem dX8_findGroups_18 : decode cX8_findGroups 18 = .ok (.iconst (-1), 1) := by decide +kernel
theorem dX8_findGroups_19 : decode cX8_findGroups 19 = .ok (.iastore, 1) := by decide +kernel
theorem dX8_findGroups_20 : decode cX8_findGroups 20 = .ok (.aload_n 0, 1) := by decide +kernel
theorem dX8_findGroups_21 : decode cX8_findGroups 21 = .ok (.getfield 88, 3) := by decide +kernel
theorem dX8_findGroups_24 : decode cX8_findGroups 24 = .ok (.iload_n 1, 1) := by decide +kernel
theorem dX8_findGroups_25 : decode cX8_findGroups 25 = .ok (.iaload, 1) := by decide +kernel
theorem dX8_findGroups_26 : decode cX8_findGroups 26 = .ok (.ifCond .ne 6, 3) := by decide +kernel
theorem dX8_findGroups_29 : decode cX8_findGroups 29 = .ok (.goto 75, 3) := by decide +kernel
theorem dX8_findGroups_32 : decode cX8_findGroups 32 = .ok (.iconst 0, 1) := by decide +kernel
theorem dX8_findGroups_33 : decode cX8_findGroups 33 = .ok (.istore_n 2, 1) := by decide +kernel
theorem dX8_findGroups_34 : decode cX8_findGroups 34 = .ok (.iload_n 2, 1) := by decide +kernel
theorem dX8_findGroups_35 : decode cX8_findGroups 35 = .ok (.aload_n 0, 1) := by decide +kernel
theorem dX8_findGroups_36 : decode cX8_findGroups 36 = .ok (.getfield 226, 3) := by decide +kernel
theorem dX8_findGroups_39 : decode cX8_findGroups 39 = .ok (.if_icmp .ge 18, 3) := by decide +kernel
theorem dX8_findGroups_42 : decode cX8_findGroups 42 = .ok (.aload_n 0, 1) := by decide +kernel
theorem dX8_findGroups_43 : decode cX8_findGroups 43 = .ok (.iload_n 1, 1) := by decide +kernel
theorem dX8_findGroups_44 : decode cX8_findGroups 44 = .ok (.iload_n 2, 1) := by decide +kernel
theorem dX8_findGroups_45 : decode cX8_findGroups 45 = .ok (.invokevirtual 229, 3) := by decide +kernel
theorem dX8_findGroups_48 : decode cX8_findGroups 48 = .ok (.ifCond .eq 9, 3) := by decide +kernel
theorem dX8_findGroups_51 : decode cX8_findGroups 51 = .ok (.iinc 2 1, 3) := by decide +kernel
theorem dX8_findGroups_54 : decode cX8_findGroups 54 = .ok (.goto (-20), 3) := by decide +kernel
theorem dX8_findGroups_57 : decode cX8_findGroups 57 = .ok (.iload_n 2, 1) := by decide +kernel
theorem dX8_findGroups_58 : decode cX8_findGroups 58 = .ok (.aload_n 0, 1) := by decide +kernel
theorem dX8_findGroups_59 : decode cX8_findGroups 59 = .ok (.getfield 226, 3) := by decide +kernel
theorem dX8_findGroups_62 : decode cX8_findGroups 62 = .ok (.if_icmp .ne 20, 3) := by decide +kernel
theorem dX8_findGroups_65 : decode cX8_findGroups 65 = .ok (.aload_n 0, 1) := by decide +kernel
theorem dX8_findGroups_66 : decode cX8_findGroups 66 = .ok (.getfield 97, 3) := by decide +kernel
theorem dX8_findGroups_69 : decode cX8_findGroups 69 = .ok (.iload_n 2, 1) := by decide +kernel
theorem dX8_findGroups_70 : decode cX8_findGroups 70 = .ok (.iconst 0, 1) := by decide +kernel
theorem dX8_findGroups_71 : decode cX8_findGroups 71 = .ok (.iastore, 1) := by decide +kernel
theorem dX8_findGroups_72 : decode cX8_findGroups 72 = .ok (.aload_n 0, 1) := by decide +kernel
theorem dX8_findGroups_73 : decode cX8_findGroups 73 = .ok (.dup, 1) := by decide +kernel
theorem dX8_findGroups_74 : decode cX8_findGroups 74 = .ok (.getfield 226, 3) := by decide +kernel
theorem dX8_findGroups_77 : decode cX8_findGroups 77 = .ok (.iconst 1, 1) := by decide +kernel
theorem dX8_findGroups_78 : decode cX8_findGroups 78 = .ok (.iadd, 1) := by decide +kernel
theorem dX8_findGroups_79 : decode cX8_findGroups 79 = .ok (.putfield 226, 3) := by decide +kernel
theorem dX8_findGroups_82 : decode cX8_findGroups 82 = .ok (.aload_n 0, 1) := by decide +kernel
theorem dX8_findGroups_83 : decode cX8_findGroups 83 = .ok (.getfield 94, 3) := by decide +kernel
theorem dX8_findGroups_86 : decode cX8_findGroups 86 = .ok (.iload_n 1, 1) := by decide +kernel
theorem dX8_findGroups_87 : decode cX8_findGroups 87 = .ok (.iload_n 2, 1) := by decide +kernel
theorem dX8_findGroups_88 : decode cX8_findGroups 88 = .ok (.iastore, 1) := by decide +kernel
theorem dX8_findGroups_89 : decode cX8_findGroups 89 = .ok (.aload_n 0, 1) := by decide +kernel
theorem dX8_findGroups_90 : decode cX8_findGroups 90 = .ok (.getfield 97, 3) := by decide +kernel
theorem dX8_findGroups_93 : decode cX8_findGroups 93 = .ok (.iload_n 2, 1) := by decide +kernel
theorem dX8_findGroups_94 : decode cX8_findGroups 94 = .ok (.dup2, 1) := by decide +kernel
theorem dX8_findGroups_95 : decode cX8_findGroups 95 = .ok (.iaload, 1) := by decide +kernel
theorem dX8_findGroups_96 : decode cX8_findGroups 96 = .ok (.aload_n 0, 1) := by decide +kernel
theorem dX8_findGroups_97 : decode cX8_findGroups 97 = .ok (.getfield 88, 3) := by decide +kernel
theorem dX8_findGroups_100 : decode cX8_findGroups 100 = .ok (.iload_n 1, 1) := by decide +kernel
theorem dX8_findGroups_101 : decode cX8_findGroups 101 = .ok (.iaload, 1) := by decide +kernel
theorem dX8_findGroups_102 : decode cX8_findGroups 102 = .ok (.iadd, 1) := by decide +kernel
theorem dX8_findGroups_103 : decode cX8_findGroups 103 = .ok (.iastore, 1) := by decide +kernel
theorem dX8_findGroups_104 : decode cX8_findGroups 104 = .ok (.iinc 1 1, 3) := by decide +kernel
theorem dX8_findGroups_107 : decode cX8_findGroups 107 = .ok (.goto (-100), 3) := by decide +kernel
theorem dX8_findGroups_110 : decode cX8_findGroups 110 = .ok (.return_, 1) := by decide +kernel
theorem dX8_isMet_0 : decode cX8_isMet 0 = .ok (.iconst 0, 1) := by decide +kernel
theorem dX8_isMet_1 : decode cX8_isMet 1 = .ok (.istore_n 3, 1) := by decide +kernel
theorem dX8_isMet_2 : decode cX8_isMet 2 = .ok (.iconst 0, 1) := by decide +kernel
theorem dX8_isMet_3 : decode cX8_isMet 3 = .ok (.istore 4, 2) := by decide +kernel
theorem dX8_isMet_5 : decode cX8_isMet 5 = .ok (.iload 4, 2) := by decide +kernel
theorem dX8_isMet_7 : decode cX8_isMet 7 = .ok (.iload_n 1, 1) := by decide +kernel
theorem dX8_isMet_8 : decode cX8_isMet 8 = .ok (.if_icmp .ge 45, 3) := by decide +kernel
theorem dX8_isMet_11 : decode cX8_isMet 11 = .ok (.iload_n 3, 1) := by decide +kernel
theorem dX8_isMet_12 : decode cX8_isMet 12 = .ok (.ifCond .ne 29, 3) := by decide +kernel
theorem dX8_isMet_15 : decode cX8_isMet 15 = .ok (.aload_n 0, 1) := by decide +kernel
theorem dX8_isMet_16 : decode cX8_isMet 16 = .ok (.getfield 94, 3) := by decide +kernel
theorem dX8_isMet_19 : decode cX8_isMet 19 = .ok (.iload 4, 2) := by decide +kernel
theorem dX8_isMet_21 : decode cX8_isMet 21 = .ok (.iaload, 1) := by decide +kernel
theorem dX8_isMet_22 : decode cX8_isMet 22 = .ok (.iload_n 2, 1) := by decide +kernel
theorem dX8_isMet_23 : decode cX8_isMet 23 = .ok (.if_icmp .ne 22, 3) := by decide +kernel
theorem dX8_isMet_26 : decode cX8_isMet 26 = .ok (.aload_n 0, 1) := by decide +kernel
theorem dX8_isMet_27 : decode cX8_isMet 27 = .ok (.getfield 91, 3) := by decide +kernel
theorem dX8_isMet_30 : decode cX8_isMet 30 = .ok (.iload_n 1, 1) := by decide +kernel
theorem dX8_isMet_31 : decode cX8_isMet 31 = .ok (.iaload, 1) := by decide +kernel
theorem dX8_isMet_32 : decode cX8_isMet 32 = .ok (.iload 4, 2) := by decide +kernel
theorem dX8_isMet_34 : decode cX8_isMet 34 = .ok (.ishr, 1) := by decide +kernel
theorem dX8_isMet_35 : decode cX8_isMet 35 = .ok (.iconst 1, 1) := by decide +kernel
theorem dX8_isMet_36 : decode cX8_isMet 36 = .ok (.iand, 1) := by decide +kernel
theorem dX8_isMet_37 : decode cX8_isMet 37 = .ok (.iconst 1, 1) := by decide +kernel
theorem dX8_isMet_38 : decode cX8_isMet 38 = .ok (.if_icmp .ne 7, 3) := by decide +kernel
theorem dX8_isMet_41 : decode cX8_isMet 41 = .ok (.iconst 1, 1) := by decide +kernel
theorem dX8_isMet_42 : decode cX8_isMet 42 = .ok (.goto 4, 3) := by decide +kernel
theorem dX8_isMet_45 : decode cX8_isMet 45 = .ok (.iconst 0, 1) := by decide +kernel
theorem dX8_isMet_46 : decode cX8_isMet 46 = .ok (.istore_n 3, 1) := by decide +kernel
theorem dX8_isMet_47 : decode cX8_isMet 47 = .ok (.iinc 4 1, 3) := by decide +kernel
theorem dX8_isMet_50 : decode cX8_isMet 50 = .ok (.goto (-45), 3) := by decide +kernel
theorem dX8_isMet_53 : decode cX8_isMet 53 = .ok (.iload_n 3, 1) := by decide +kernel
theorem dX8_isMet_54 : decode cX8_isMet 54 = .ok (.ireturn, 1) := by decide +kernel
theorem dX8_bits_0 : decode cX8_bits 0 = .ok (.iconst 0, 1) := by decide +kernel
theorem dX8_bits_1 : decode cX8_bits 1 = .ok (.istore_n 1, 1) := by decide +kernel
theorem dX8_bits_2 : decode cX8_bits 2 = .ok (.iconst 1, 1) := by decide +kernel
theorem dX8_bits_3 : decode cX8_bits 3 = .ok (.iload_n 1, 1) := by decide +kernel
theorem dX8_bits_4 : decode cX8_bits 4 = .ok (.ishl, 1) := by decide +kernel
theorem dX8_bits_5 : decode cX8_bits 5 = .ok (.iload_n 0, 1) := by decide +kernel
theorem dX8_bits_6 : decode cX8_bits 6 = .ok (.if_icmp .gt 9, 3) := by decide +kernel
theorem dX8_bits_9 : decode cX8_bits 9 = .ok (.iinc 1 1, 3) := by decide +kernel
theorem dX8_bits_12 : decode cX8_bits 12 = .ok (.goto (-10), 3) := by decide +kernel
theorem dX8_bits_15 : decode cX8_bits 15 = .ok (.iload_n 1, 1) := by decide +kernel
theorem dX8_bits_16 : decode cX8_bits 16 = .ok (.ireturn, 1) := by decide +kernel
set_option maxRecDepth 20000 in
theorem ggX8_group_X8_isIn : GoodIn wsX8_group wsX8_isIn := goodIn_r _ [7] (by decide +kernel) (by decide +kernel)
set_option maxRecDepth 20000 in
theorem gX8_group_X8_isIn : GoodIn wsX8_group (va_wsS RX8 128 yX8_isIn wsX8_isIn) := goodIn_app (goodIn_of _ (by decide +kernel)) ggX8_group_X8_isIn
set_option maxRecDepth 20000 in
theorem ggX8_group_X8_no : GoodIn wsX8_group wsX8_no := goodIn_r _ [11, 12, 13, 14, 15, 16, 17, 18, 19, 20, 21, 22, 23, 24, 25, 26, 27, 28, 29, 30, 31, 32, 33, 34, 35, 36, 37, 38, 39, 40, 41, 42, 43, 44, 45, 46, 47, 48, 49, 50, 51, 52, 53, 54, 55, 56] (by decide +kernel) (by decide +kernel)
set_option maxRecDepth 20000 in
theorem gX8_group_X8_no : GoodIn wsX8_group (wsV RX8 122 RX8 yX8_no wsX8_no) := goodIn_app (goodIn_of _ (by decide +kernel)) ggX8_group_X8_no
theorem dX8_group_0 : decode cX8_group 0 = .ok (.iload_n 1, 1) := by decide +kernel
theorem dX8_group_1 : decode cX8_group 1 = .ok (.i2l, 1) := by decide +kernel
theorem dX8_group_2 : decode cX8_group 2 = .ok (.lconst 0, 1) := by decide +kernel
theorem dX8_group_3 : decode cX8_group 3 = .ok (.ldc2_w 232, 3) := by decide +kernel
theorem dX8_group_6 : decode cX8_group 6 = .ok (.invokestatic 128, 3) := by decide +kernel
theorem dX8_group_9 : decode cX8_group 9 = .ok (.ifCond .ne 10, 3) := by decide +kernel
theorem dX8_group_12 : decode cX8_group 12 = .ok (.aload_n 0, 1) := by decide +kernel
theorem dX8_group_13 : decode cX8_group 13 = .ok (.bipush (-3), 2) := by decide +kernel
theorem dX8_group_15 : decode cX8_group 15 = .ok (.invokevirtual 122, 3) := by decide +kernel
theorem dX8_group_18 : decode cX8_group 18 = .ok (.ireturn, 1) := by decide +kernel
theorem dX8_group_19 : decode cX8_group 19 = .ok (.aload_n 0, 1) := by decide +kernel
theorem dX8_group_20 : decode cX8_group 20 = .ok (.getfield 164, 3) := by decide +kernel
theorem dX8_group_23 : decode cX8_group 23 = .ok (.ifCond .eq 12, 3) := by decide +kernel
theorem dX8_group_26 : decode cX8_group 26 = .ok (.aload_n 0, 1) := by decide +kernel
theorem dX8_group_27 : decode cX8_group 27 = .ok (.getfield 94, 3) := by decide +kernel
theorem dX8_group_30 : decode cX8_group 30 = .ok (.iload_n 1, 1) := by decide +kernel
theorem dX8_group_31 : decode cX8_group 31 = .ok (.iaload, 1) := by decide +kernel
theorem dX8_group_32 : decode cX8_group 32 = .ok (.goto 9, 3) := by decide +kernel
theorem dX8_group_35 : decode cX8_group 35 = .ok (.aload_n 0, 1) := by decide +kernel
theorem dX8_group_36 : decode cX8_group 36 = .ok (.bipush (-2), 2) := by decide +kernel
theorem dX8_group_38 : decode cX8_group 38 = .ok (.invokevirtual 122, 3) := by decide +kernel
theorem dX8_group_41 : decode cX8_group 41 = .ok (.ireturn, 1) := by decide +kernel
set_option maxRecDepth 20000 in
theorem ggX8_narrow_X8_no : GoodIn wsX8_narrow wsX8_no := goodIn_r _ [11, 12, 19, 20, 21, 22, 23, 24, 25, 26, 27, 28, 29, 30, 31, 32, 33, 34, 35, 36, 37, 38, 39, 40, 41, 42, 43, 44, 45, 46, 47, 48, 49, 50, 51, 52, 53, 54, 55, 56, 57, 58, 59, 60, 61, 62] (by decide +kernel) (by decide +kernel)
set_option maxRecDepth 20000 in
theorem gX8_narrow_X8_no : GoodIn wsX8_narrow (wsV RX8 122 RX8 yX8_no wsX8_no) := goodIn_app (goodIn_of _ (by decide +kernel)) ggX8_narrow_X8_no
set_option maxRecDepth 20000 in
theorem ggX8_narrow_X8_isIn : GoodIn wsX8_narrow wsX8_isIn := goodIn_r _ [15] (by decide +kernel) (by decide +kernel)
set_option maxRecDepth 20000 in
theorem gX8_narrow_X8_isIn : GoodIn wsX8_narrow (va_wsS RX8 128 yX8_isIn wsX8_isIn) := goodIn_app (goodIn_of _ (by decide +kernel)) ggX8_narrow_X8_isIn
set_option maxRecDepth 20000 in
theorem ggX8_narrow_X8_bits : GoodIn wsX8_narrow wsX8_bits := goodIn_r _ [18] (by decide +kernel) (by decide +kernel)
set_option maxRecDepth 20000 in
theorem gX8_narrow_X8_bits : GoodIn wsX8_narrow (va_wsS RX8 234 yX8_bits wsX8_bits) := goodIn_app (goodIn_of _ (by decide +kernel)) ggX8_narrow_X8_bits
theorem dX8_narrow_0 : decode cX8_narrow 0 = .ok (.aload_n 0, 1) := by decide +kernel
theorem dX8_narrow_1 : decode cX8_narrow 1 = .ok (.getfield 164, 3) := by decide +kernel
theorem dX8_narrow_4 : decode cX8_narrow 4 = .ok (.ifCond .ne 10, 3) := by decide +kernel
theorem dX8_narrow_7 : decode cX8_narrow 7 = .ok (.aload_n 0, 1) := by decide +kernel
theorem dX8_narrow_8 : decode cX8_narrow 8 = .ok (.bipush (-2), 2) := by decide +kernel
theorem dX8_narrow_10 : decode cX8_narrow 10 = .ok (.invokevirtual 122, 3) := by decide +kernel
theorem dX8_narrow_13 : decode cX8_narrow 13 = .ok (.ireturn, 1) := by decide +kernel
theorem dX8_narrow_14 : decode cX8_narrow 14 = .ok (.iload_n 1, 1) := by decide +kernel
theorem dX8_narrow_15 : decode cX8_narrow 15 = .ok (.i2l, 1) := by decide +kernel
theorem dX8_narrow_16 : decode cX8_narrow 16 = .ok (.lconst 0, 1) := by decide +kernel
theorem dX8_narrow_17 : decode cX8_narrow 17 = .ok (.ldc2_w 178, 3) := by decide +kernel
theorem dX8_narrow_20 : decode cX8_narrow 20 = .ok (.invokestatic 128, 3) := by decide +kernel
theorem dX8_narrow_23 : decode cX8_narrow 23 = .ok (.ifCond .ne 10, 3) := by decide +kernel
theorem dX8_narrow_26 : decode cX8_narrow 26 = .ok (.aload_n 0, 1) := by decide +kernel
theorem dX8_narrow_27 : decode cX8_narrow 27 = .ok (.bipush (-6), 2) := by decide +kernel
theorem dX8_narrow_29 : decode cX8_narrow 29 = .ok (.invokevirtual 122, 3) := by decide +kernel
theorem dX8_narrow_32 : decode cX8_narrow 32 = .ok (.ireturn, 1) := by decide +kernel
theorem dX8_narrow_33 : decode cX8_narrow 33 = .ok (.iload_n 1, 1) := by decide +kernel
theorem dX8_narrow_34 : decode cX8_narrow 34 = .ok (.iconst 2, 1) := by decide +kernel
theorem dX8_narrow_35 : decode cX8_narrow 35 = .ok (.if_icmp .ne 8, 3) := by decide +kernel
theorem dX8_narrow_38 : decode cX8_narrow 38 = .ok (.aload_n 0, 1) := by decide +kernel
theorem dX8_narrow_39 : decode cX8_narrow 39 = .ok (.getfield 226, 3) := by decide +kernel
theorem dX8_narrow_42 : decode cX8_narrow 42 = .ok (.ireturn, 1) := by decide +kernel
theorem dX8_narrow_43 : decode cX8_narrow 43 = .ok (.iconst 0, 1) := by decide +kernel
theorem dX8_narrow_44 : decode cX8_narrow 44 = .ok (.istore_n 2, 1) := by decide +kernel
theorem dX8_narrow_45 : decode cX8_narrow 45 = .ok (.iload_n 1, 1) := by decide +kernel
theorem dX8_narrow_46 : decode cX8_narrow 46 = .ok (.iconst 3, 1) := by decide +kernel
theorem dX8_narrow_47 : decode cX8_narrow 47 = .ok (.if_icmp .ne 28, 3) := by decide +kernel
theorem dX8_narrow_50 : decode cX8_narrow 50 = .ok (.iconst 0, 1) := by decide +kernel
theorem dX8_narrow_51 : decode cX8_narrow 51 = .ok (.istore_n 3, 1) := by decide +kernel
theorem dX8_narrow_52 : decode cX8_narrow 52 = .ok (.iload_n 3, 1) := by decide +kernel
theorem dX8_narrow_53 : decode cX8_narrow 53 = .ok (.bipush 7, 2) := by decide +kernel
theorem dX8_narrow_55 : decode cX8_narrow 55 = .ok (.if_icmp .ge 18, 3) := by decide +kernel
theorem dX8_narrow_58 : decode cX8_narrow 58 = .ok (.iload_n 2, 1) := by decide +kernel
theorem dX8_narrow_59 : decode cX8_narrow 59 = .ok (.aload_n 0, 1) := by decide +kernel
theorem dX8_narrow_60 : decode cX8_narrow 60 = .ok (.getfield 88, 3) := by decide +kernel
theorem dX8_narrow_63 : decode cX8_narrow 63 = .ok (.iload_n 3, 1) := by decide +kernel
theorem dX8_narrow_64 : decode cX8_narrow 64 = .ok (.iaload, 1) := by decide +kernel
theorem dX8_narrow_65 : decode cX8_narrow 65 = .ok (.iadd, 1) := by decide +kernel
theorem dX8_narrow_66 : decode cX8_narrow 66 = .ok (.istore_n 2, 1) := by decide +kernel
theorem dX8_narrow_67 : decode cX8_narrow 67 = .ok (.iinc 3 1, 3) := by decide +kernel
theorem dX8_narrow_70 : decode cX8_narrow 70 = .ok (.goto (-18), 3) := by decide +kernel
theorem dX8_narrow_73 : decode cX8_narrow 73 = .ok (.iload_n 2, 1) := by decide +kernel
theorem dX8_narrow_74 : decode cX8_narrow 74 = .ok (.ireturn, 1) := by decide +kernel
theorem dX8_narrow_75 : decode cX8_narrow 75 = .ok (.iconst 0, 1) := by decide +kernel
theorem dX8_narrow_76 : decode cX8_narrow 76 = .ok (.istore_n 3, 1) := by decide +kernel
theorem dX8_narrow_77 : decode cX8_narrow 77 = .ok (.iload_n 3, 1) := by decide +kernel
theorem dX8_narrow_78 : decode cX8_narrow 78 = .ok (.aload_n 0, 1) := by decide +kernel
theorem dX8_narrow_79 : decode cX8_narrow 79 = .ok (.getfield 226, 3) := by decide +kernel
theorem dX8_narrow_82 : decode cX8_narrow 82 = .ok (.if_icmp .ge 21, 3) := by decide +kernel
theorem dX8_narrow_85 : decode cX8_narrow 85 = .ok (.iload_n 2, 1) := by decide +kernel
theorem dX8_narrow_86 : decode cX8_narrow 86 = .ok (.aload_n 0, 1) := by decide +kernel
theorem dX8_narrow_87 : decode cX8_narrow 87 = .ok (.getfield 97, 3) := by decide +kernel
theorem dX8_narrow_90 : decode cX8_narrow 90 = .ok (.iload_n 3, 1) := by decide +kernel
theorem dX8_narrow_91 : decode cX8_narrow 91 = .ok (.iaload, 1) := by decide +kernel
theorem dX8_narrow_92 : decode cX8_narrow 92 = .ok (.invokestatic 234, 3) := by decide +kernel
theorem dX8_narrow_95 : decode cX8_narrow 95 = .ok (.iadd, 1) := by decide +kernel
theorem dX8_narrow_96 : decode cX8_narrow 96 = .ok (.istore_n 2, 1) := by decide +kernel
theorem dX8_narrow_97 : decode cX8_narrow 97 = .ok (.iinc 3 1, 3) := by decide +kernel
theorem dX8_narrow_100 : decode cX8_narrow 100 = .ok (.goto (-23), 3) := by decide +kernel
theorem dX8_narrow_103 : decode cX8_narrow 103 = .ok (.iload_n 2, 1) := by decide +kernel
theorem dX8_narrow_104 : decode cX8_narrow 104 = .ok (.aload_n 0, 1) := by decide +kernel
theorem dX8_narrow_105 : decode cX8_narrow 105 = .ok (.getfield 205, 3) := by decide +kernel
theorem dX8_narrow_108 : decode cX8_narrow 108 = .ok (.invokestatic 234, 3) := by decide +kernel
theorem dX8_narrow_111 : decode cX8_narrow 111 = .ok (.iadd, 1) := by decide +kernel
theorem dX8_narrow_112 : decode cX8_narrow 112 = .ok (.istore_n 2, 1) := by decide +kernel
theorem dX8_narrow_113 : decode cX8_narrow 113 = .ok (.iload_n 1, 1) := by decide +kernel
theorem dX8_narrow_114 : decode cX8_narrow 114 = .ok (.ifCond .ne 7, 3) := by decide +kernel
theorem dX8_narrow_117 : decode cX8_narrow 117 = .ok (.iload_n 2, 1) := by decide +kernel
theorem dX8_narrow_118 : decode cX8_narrow 118 = .ok (.goto 9, 3) := by decide +kernel
theorem dX8_narrow_121 : decode cX8_narrow 121 = .ok (.iload_n 2, 1) := by decide +kernel
theorem dX8_narrow_122 : decode cX8_narrow 122 = .ok (.aload_n 0, 1) := by decide +kernel
theorem dX8_narrow_123 : decode cX8_narrow 123 = .ok (.getfield 205, 3) := by decide +kernel
theorem dX8_narrow_126 : decode cX8_narrow 126 = .ok (.imul, 1) := by decide +kernel
theorem dX8_narrow_127 : decode cX8_narrow 127 = .ok (.ireturn, 1) := by decide +kernel
theorem dX8_copies_0 : decode cX8_copies 0 = .ok (.iconst 0, 1) := by decide +kernel
theorem dX8_copies_1 : decode cX8_copies 1 = .ok (.istore_n 2, 1) := by decide +kernel
theorem dX8_copies_2 : decode cX8_copies 2 = .ok (.iload_n 2, 1) := by decide +kernel
theorem dX8_copies_3 : decode cX8_copies 3 = .ok (.bipush 74, 2) := by decide +kernel
theorem dX8_copies_5 : decode cX8_copies 5 = .ok (.if_icmp .ge 15, 3) := by decide +kernel
theorem dX8_copies_8 : decode cX8_copies 8 = .ok (.aload_n 1, 1) := by decide +kernel
theorem dX8_copies_9 : decode cX8_copies 9 = .ok (.iload_n 2, 1) := by decide +kernel
theorem dX8_copies_10 : decode cX8_copies 10 = .ok (.aload_n 0, 1) := by decide +kernel
theorem dX8_copies_11 : decode cX8_copies 11 = .ok (.iload_n 2, 1) := by decide +kernel
theorem dX8_copies_12 : decode cX8_copies 12 = .ok (.laload, 1) := by decide +kernel
theorem dX8_copies_13 : decode cX8_copies 13 = .ok (.lastore, 1) := by decide +kernel
theorem dX8_copies_14 : decode cX8_copies 14 = .ok (.iinc 2 1, 3) := by decide +kernel
theorem dX8_copies_17 : decode cX8_copies 17 = .ok (.goto (-15), 3) := by decide +kernel
theorem dX8_copies_20 : decode cX8_copies 20 = .ok (.return_, 1) := by decide +kernel
theorem dX8_holds_0 : decode cX8_holds 0 = .ok (.aload_n 0, 1) := by decide +kernel
theorem dX8_holds_1 : decode cX8_holds 1 = .ok (.getfield 29, 3) := by decide +kernel
theorem dX8_holds_4 : decode cX8_holds 4 = .ok (.iload_n 1, 1) := by decide +kernel
theorem dX8_holds_5 : decode cX8_holds 5 = .ok (.iaload, 1) := by decide +kernel
theorem dX8_holds_6 : decode cX8_holds 6 = .ok (.bipush 9, 2) := by decide +kernel
theorem dX8_holds_8 : decode cX8_holds 8 = .ok (.if_icmp .lt 34, 3) := by decide +kernel
theorem dX8_holds_11 : decode cX8_holds 11 = .ok (.aload_n 0, 1) := by decide +kernel
theorem dX8_holds_12 : decode cX8_holds 12 = .ok (.getfield 16, 3) := by decide +kernel
theorem dX8_holds_15 : decode cX8_holds 15 = .ok (.bipush 8, 2) := by decide +kernel
theorem dX8_holds_17 : decode cX8_holds 17 = .ok (.aload_n 0, 1) := by decide +kernel
theorem dX8_holds_18 : decode cX8_holds 18 = .ok (.getfield 35, 3) := by decide +kernel
theorem dX8_holds_21 : decode cX8_holds 21 = .ok (.iload_n 1, 1) := by decide +kernel
theorem dX8_holds_22 : decode cX8_holds 22 = .ok (.iaload, 1) := by decide +kernel
theorem dX8_holds_23 : decode cX8_holds 23 = .ok (.iadd, 1) := by decide +kernel
theorem dX8_holds_24 : decode cX8_holds 24 = .ok (.laload, 1) := by decide +kernel
theorem dX8_holds_25 : decode cX8_holds 25 = .ok (.aload_n 0, 1) := by decide +kernel
theorem dX8_holds_26 : decode cX8_holds 26 = .ok (.getfield 38, 3) := by decide +kernel
theorem dX8_holds_29 : decode cX8_holds 29 = .ok (.iload_n 1, 1) := by decide +kernel
theorem dX8_holds_30 : decode cX8_holds 30 = .ok (.iaload, 1) := by decide +kernel
theorem dX8_holds_31 : decode cX8_holds 31 = .ok (.i2l, 1) := by decide +kernel
theorem dX8_holds_32 : decode cX8_holds 32 = .ok (.lcmp, 1) := by decide +kernel
theorem dX8_holds_33 : decode cX8_holds 33 = .ok (.ifCond .ne 7, 3) := by decide +kernel
theorem dX8_holds_36 : decode cX8_holds 36 = .ok (.iconst 1, 1) := by decide +kernel
theorem dX8_holds_37 : decode cX8_holds 37 = .ok (.goto 4, 3) := by decide +kernel
theorem dX8_holds_40 : decode cX8_holds 40 = .ok (.iconst 0, 1) := by decide +kernel
theorem dX8_holds_41 : decode cX8_holds 41 = .ok (.ireturn, 1) := by decide +kernel
theorem dX8_holds_42 : decode cX8_holds 42 = .ok (.aload_n 0, 1) := by decide +kernel
theorem dX8_holds_43 : decode cX8_holds 43 = .ok (.getfield 29, 3) := by decide +kernel
theorem dX8_holds_46 : decode cX8_holds 46 = .ok (.iload_n 1, 1) := by decide +kernel
theorem dX8_holds_47 : decode cX8_holds 47 = .ok (.iaload, 1) := by decide +kernel
theorem dX8_holds_48 : decode cX8_holds 48 = .ok (.bipush 7, 2) := by decide +kernel
theorem dX8_holds_50 : decode cX8_holds 50 = .ok (.if_icmp .eq 14, 3) := by decide +kernel
theorem dX8_holds_53 : decode cX8_holds 53 = .ok (.aload_n 0, 1) := by decide +kernel
theorem dX8_holds_54 : decode cX8_holds 54 = .ok (.getfield 29, 3) := by decide +kernel
theorem dX8_holds_57 : decode cX8_holds 57 = .ok (.iload_n 1, 1) := by decide +kernel
theorem dX8_holds_58 : decode cX8_holds 58 = .ok (.iaload, 1) := by decide +kernel
theorem dX8_holds_59 : decode cX8_holds 59 = .ok (.bipush 8, 2) := by decide +kernel
theorem dX8_holds_61 : decode cX8_holds 61 = .ok (.if_icmp .ne 25, 3) := by decide +kernel
theorem dX8_holds_64 : decode cX8_holds 64 = .ok (.aload_n 0, 1) := by decide +kernel
theorem dX8_holds_65 : decode cX8_holds 65 = .ok (.getfield 16, 3) := by decide +kernel
theorem dX8_holds_68 : decode cX8_holds 68 = .ok (.aload_n 0, 1) := by decide +kernel
theorem dX8_holds_69 : decode cX8_holds 69 = .ok (.getfield 35, 3) := by decide +kernel
theorem dX8_holds_72 : decode cX8_holds 72 = .ok (.iload_n 1, 1) := by decide +kernel
theorem dX8_holds_73 : decode cX8_holds 73 = .ok (.iaload, 1) := by decide +kernel
theorem dX8_holds_74 : decode cX8_holds 74 = .ok (.laload, 1) := by decide +kernel
theorem dX8_holds_75 : decode cX8_holds 75 = .ok (.ldc2_w 237, 3) := by decide +kernel
theorem dX8_holds_78 : decode cX8_holds 78 = .ok (.lcmp, 1) := by decide +kernel
theorem dX8_holds_79 : decode cX8_holds 79 = .ok (.ifCond .le 7, 3) := by decide +kernel
theorem dX8_holds_82 : decode cX8_holds 82 = .ok (.iconst 1, 1) := by decide +kernel
theorem dX8_holds_83 : decode cX8_holds 83 = .ok (.goto 4, 3) := by decide +kernel
theorem dX8_holds_86 : decode cX8_holds 86 = .ok (.iconst 0, 1) := by decide +kernel
theorem dX8_holds_87 : decode cX8_holds 87 = .ok (.ireturn, 1) := by decide +kernel
set_option maxRecDepth 20000 in
theorem ggX8_puts_X8_cut : GoodIn wsX8_puts wsX8_cut := goodIn_r _ [7, 8, 9, 10, 11, 12, 13, 14, 15, 16, 17, 18, 19, 20, 21, 22, 23, 24, 25, 26, 27, 28, 29, 30, 31, 32, 33, 34, 35, 36, 37, 38, 39, 40, 41, 42, 43, 44, 45, 46, 47, 48, 49, 50, 51, 52] (by decide +kernel) (by decide +kernel)
set_option maxRecDepth 20000 in
theorem gX8_puts_X8_cut : GoodIn wsX8_puts (wsV RX8 132 RX8 yX8_cut wsX8_cut) := goodIn_app (goodIn_of _ (by decide +kernel)) ggX8_puts_X8_cut
theorem dX8_puts_0 : decode cX8_puts 0 = .ok (.aload_n 0, 1) := by decide +kernel
theorem dX8_puts_1 : decode cX8_puts 1 = .ok (.getfield 7, 3) := by decide +kernel
theorem dX8_puts_4 : decode cX8_puts 4 = .ok (.aload_n 0, 1) := by decide +kernel
theorem dX8_puts_5 : decode cX8_puts 5 = .ok (.getfield 32, 3) := by decide +kernel
theorem dX8_puts_8 : decode cX8_puts 8 = .ok (.iload_n 1, 1) := by decide +kernel
theorem dX8_puts_9 : decode cX8_puts 9 = .ok (.iaload, 1) := by decide +kernel
theorem dX8_puts_10 : decode cX8_puts 10 = .ok (.aload_n 0, 1) := by decide +kernel
theorem dX8_puts_11 : decode cX8_puts 11 = .ok (.aload_n 0, 1) := by decide +kernel
theorem dX8_puts_12 : decode cX8_puts 12 = .ok (.getfield 32, 3) := by decide +kernel
theorem dX8_puts_15 : decode cX8_puts 15 = .ok (.iload_n 1, 1) := by decide +kernel
theorem dX8_puts_16 : decode cX8_puts 16 = .ok (.iaload, 1) := by decide +kernel
theorem dX8_puts_17 : decode cX8_puts 17 = .ok (.lload_n 2, 1) := by decide +kernel
theorem dX8_puts_18 : decode cX8_puts 18 = .ok (.invokevirtual 132, 3) := by decide +kernel
theorem dX8_puts_21 : decode cX8_puts 21 = .ok (.lastore, 1) := by decide +kernel
theorem dX8_puts_22 : decode cX8_puts 22 = .ok (.return_, 1) := by decide +kernel
set_option maxRecDepth 20000 in
theorem ggX8_worker_X8_puts : GoodIn wsX8_worker wsX8_puts := goodIn_r _ [12, 7, 6, 13, 14, 15, 11, 16, 5, 17, 18, 19, 20, 21, 22, 23, 24, 25, 26, 27, 28, 29, 30, 31, 32, 33, 34, 35, 36, 37, 38, 39, 40, 41, 42, 43, 44, 45, 46, 47, 48, 49, 50, 51, 52, 53, 54, 55, 56, 57, 58, 59, 60] (by decide +kernel) (by decide +kernel)
set_option maxRecDepth 20000 in
theorem gX8_worker_X8_puts : GoodIn wsX8_worker (wsV RX8 239 RX8 yX8_puts wsX8_puts) := goodIn_app (goodIn_of _ (by decide +kernel)) ggX8_worker_X8_puts
theorem dX8_worker_0 : decode cX8_worker 0 = .ok (.aload_n 0, 1) := by decide +kernel
theorem dX8_worker_1 : decode cX8_worker 1 = .ok (.getfield 16, 3) := by decide +kernel
theorem dX8_worker_4 : decode cX8_worker 4 = .ok (.aload_n 0, 1) := by decide +kernel
theorem dX8_worker_5 : decode cX8_worker 5 = .ok (.getfield 35, 3) := by decide +kernel
theorem dX8_worker_8 : decode cX8_worker 8 = .ok (.iload_n 1, 1) := by decide +kernel
theorem dX8_worker_9 : decode cX8_worker 9 = .ok (.iaload, 1) := by decide +kernel
theorem dX8_worker_10 : decode cX8_worker 10 = .ok (.laload, 1) := by decide +kernel
theorem dX8_worker_11 : decode cX8_worker 11 = .ok (.lstore_n 2, 1) := by decide +kernel
theorem dX8_worker_12 : decode cX8_worker 12 = .ok (.aload_n 0, 1) := by decide +kernel
theorem dX8_worker_13 : decode cX8_worker 13 = .ok (.getfield 16, 3) := by decide +kernel
theorem dX8_worker_16 : decode cX8_worker 16 = .ok (.aload_n 0, 1) := by decide +kernel
theorem dX8_worker_17 : decode cX8_worker 17 = .ok (.getfield 38, 3) := by decide +kernel
theorem dX8_worker_20 : decode cX8_worker 20 = .ok (.iload_n 1, 1) := by decide +kernel
theorem dX8_worker_21 : decode cX8_worker 21 = .ok (.iaload, 1) := by decide +kernel
theorem dX8_worker_22 : decode cX8_worker 22 = .ok (.laload, 1) := by decide +kernel
theorem dX8_worker_23 : decode cX8_worker 23 = .ok (.lstore 4, 2) := by decide +kernel
theorem dX8_worker_25 : decode cX8_worker 25 = .ok (.aload_n 0, 1) := by decide +kernel
theorem dX8_worker_26 : decode cX8_worker 26 = .ok (.getfield 29, 3) := by decide +kernel
theorem dX8_worker_29 : decode cX8_worker 29 = .ok (.iload_n 1, 1) := by decide +kernel
theorem dX8_worker_30 : decode cX8_worker 30 = .ok (.iaload, 1) := by decide +kernel
theorem dX8_worker_31 : decode cX8_worker 31 = .ok (.iconst 2, 1) := by decide +kernel
theorem dX8_worker_32 : decode cX8_worker 32 = .ok (.if_icmp .ne 10, 3) := by decide +kernel
theorem dX8_worker_35 : decode cX8_worker 35 = .ok (.lload_n 2, 1) := by decide +kernel
theorem dX8_worker_36 : decode cX8_worker 36 = .ok (.lload 4, 2) := by decide +kernel
theorem dX8_worker_38 : decode cX8_worker 38 = .ok (.ladd, 1) := by decide +kernel
theorem dX8_worker_39 : decode cX8_worker 39 = .ok (.goto 41, 3) := by decide +kernel
theorem dX8_worker_42 : decode cX8_worker 42 = .ok (.aload_n 0, 1) := by decide +kernel
theorem dX8_worker_43 : decode cX8_worker 43 = .ok (.getfield 29, 3) := by decide +kernel
theorem dX8_worker_46 : decode cX8_worker 46 = .ok (.iload_n 1, 1) := by decide +kernel
theorem dX8_worker_47 : decode cX8_worker 47 = .ok (.iaload, 1) := by decide +kernel
theorem dX8_worker_48 : decode cX8_worker 48 = .ok (.iconst 3, 1) := by decide +kernel
theorem dX8_worker_49 : decode cX8_worker 49 = .ok (.if_icmp .ne 10, 3) := by decide +kernel
theorem dX8_worker_52 : decode cX8_worker 52 = .ok (.lload_n 2, 1) := by decide +kernel
theorem dX8_worker_53 : decode cX8_worker 53 = .ok (.lload 4, 2) := by decide +kernel
theorem dX8_worker_55 : decode cX8_worker 55 = .ok (.lsub, 1) := by decide +kernel
theorem dX8_worker_56 : decode cX8_worker 56 = .ok (.goto 24, 3) := by decide +kernel
theorem dX8_worker_59 : decode cX8_worker 59 = .ok (.aload_n 0, 1) := by decide +kernel
theorem dX8_worker_60 : decode cX8_worker 60 = .ok (.getfield 29, 3) := by decide +kernel
theorem dX8_worker_63 : decode cX8_worker 63 = .ok (.iload_n 1, 1) := by decide +kernel
theorem dX8_worker_64 : decode cX8_worker 64 = .ok (.iaload, 1) := by decide +kernel
theorem dX8_worker_65 : decode cX8_worker 65 = .ok (.iconst 4, 1) := by decide +kernel
theorem dX8_worker_66 : decode cX8_worker 66 = .ok (.if_icmp .ne 10, 3) := by decide +kernel
theorem dX8_worker_69 : decode cX8_worker 69 = .ok (.lload_n 2, 1) := by decide +kernel
theorem dX8_worker_70 : decode cX8_worker 70 = .ok (.lload 4, 2) := by decide +kernel
theorem dX8_worker_72 : decode cX8_worker 72 = .ok (.land, 1) := by decide +kernel
theorem dX8_worker_73 : decode cX8_worker 73 = .ok (.goto 7, 3) := by decide +kernel
theorem dX8_worker_76 : decode cX8_worker 76 = .ok (.lload_n 2, 1) := by decide +kernel
theorem dX8_worker_77 : decode cX8_worker 77 = .ok (.lload 4, 2) := by decide +kernel
theorem dX8_worker_79 : decode cX8_worker 79 = .ok (.lxor, 1) := by decide +kernel
theorem dX8_worker_80 : decode cX8_worker 80 = .ok (.lstore 6, 2) := by decide +kernel
theorem dX8_worker_82 : decode cX8_worker 82 = .ok (.aload_n 0, 1) := by decide +kernel
theorem dX8_worker_83 : decode cX8_worker 83 = .ok (.getfield 29, 3) := by decide +kernel
theorem dX8_worker_86 : decode cX8_worker 86 = .ok (.iload_n 1, 1) := by decide +kernel
theorem dX8_worker_87 : decode cX8_worker 87 = .ok (.iaload, 1) := by decide +kernel
theorem dX8_worker_88 : decode cX8_worker 88 = .ok (.iconst 2, 1) := by decide +kernel
theorem dX8_worker_89 : decode cX8_worker 89 = .ok (.if_icmp .ne 30, 3) := by decide +kernel
theorem dX8_worker_92 : decode cX8_worker 92 = .ok (.lload 6, 2) := by decide +kernel
theorem dX8_worker_94 : decode cX8_worker 94 = .ok (.lconst 1, 1) := by decide +kernel
theorem dX8_worker_95 : decode cX8_worker 95 = .ok (.aload_n 0, 1) := by decide +kernel
theorem dX8_worker_96 : decode cX8_worker 96 = .ok (.getfield 25, 3) := by decide +kernel
theorem dX8_worker_99 : decode cX8_worker 99 = .ok (.aload_n 0, 1) := by decide +kernel
theorem dX8_worker_100 : decode cX8_worker 100 = .ok (.getfield 32, 3) := by decide +kernel
theorem dX8_worker_103 : decode cX8_worker 103 = .ok (.iload_n 1, 1) := by decide +kernel
theorem dX8_worker_104 : decode cX8_worker 104 = .ok (.iaload, 1) := by decide +kernel
theorem dX8_worker_105 : decode cX8_worker 105 = .ok (.iaload, 1) := by decide +kernel
theorem dX8_worker_106 : decode cX8_worker 106 = .ok (.lshl, 1) := by decide +kernel
theorem dX8_worker_107 : decode cX8_worker 107 = .ok (.lcmp, 1) := by decide +kernel
theorem dX8_worker_108 : decode cX8_worker 108 = .ok (.ifCond .lt 7, 3) := by decide +kernel
theorem dX8_worker_111 : decode cX8_worker 111 = .ok (.iconst 1, 1) := by decide +kernel
theorem dX8_worker_112 : decode cX8_worker 112 = .ok (.goto 29, 3) := by decide +kernel
theorem dX8_worker_115 : decode cX8_worker 115 = .ok (.iconst 0, 1) := by decide +kernel
theorem dX8_worker_116 : decode cX8_worker 116 = .ok (.goto 25, 3) := by decide +kernel
theorem dX8_worker_119 : decode cX8_worker 119 = .ok (.aload_n 0, 1) := by decide +kernel
theorem dX8_worker_120 : decode cX8_worker 120 = .ok (.getfield 29, 3) := by decide +kernel
theorem dX8_worker_123 : decode cX8_worker 123 = .ok (.iload_n 1, 1) := by decide +kernel
theorem dX8_worker_124 : decode cX8_worker 124 = .ok (.iaload, 1) := by decide +kernel
theorem dX8_worker_125 : decode cX8_worker 125 = .ok (.iconst 3, 1) := by decide +kernel
theorem dX8_worker_126 : decode cX8_worker 126 = .ok (.if_icmp .ne 14, 3) := by decide +kernel
theorem dX8_worker_129 : decode cX8_worker 129 = .ok (.lload 4, 2) := by decide +kernel
theorem dX8_worker_131 : decode cX8_worker 131 = .ok (.lload_n 2, 1) := by decide +kernel
theorem dX8_worker_132 : decode cX8_worker 132 = .ok (.lcmp, 1) := by decide +kernel
theorem dX8_worker_133 : decode cX8_worker 133 = .ok (.ifCond .le 7, 3) := by decide +kernel
theorem dX8_worker_136 : decode cX8_worker 136 = .ok (.iconst 1, 1) := by decide +kernel
theorem dX8_worker_137 : decode cX8_worker 137 = .ok (.goto 4, 3) := by decide +kernel
theorem dX8_worker_140 : decode cX8_worker 140 = .ok (.iconst 0, 1) := by decide +kernel
theorem dX8_worker_141 : decode cX8_worker 141 = .ok (.istore 8, 2) := by decide +kernel
theorem dX8_worker_143 : decode cX8_worker 143 = .ok (.aload_n 0, 1) := by decide +kernel
theorem dX8_worker_144 : decode cX8_worker 144 = .ok (.iload_n 1, 1) := by decide +kernel
theorem dX8_worker_145 : decode cX8_worker 145 = .ok (.lload 6, 2) := by decide +kernel
theorem dX8_worker_147 : decode cX8_worker 147 = .ok (.invokevirtual 239, 3) := by decide +kernel
theorem dX8_worker_150 : decode cX8_worker 150 = .ok (.aload_n 0, 1) := by decide +kernel
theorem dX8_worker_151 : decode cX8_worker 151 = .ok (.getfield 7, 3) := by decide +kernel
theorem dX8_worker_154 : decode cX8_worker 154 = .ok (.bipush 8, 2) := by decide +kernel
theorem dX8_worker_156 : decode cX8_worker 156 = .ok (.aload_n 0, 1) := by decide +kernel
theorem dX8_worker_157 : decode cX8_worker 157 = .ok (.getfield 7, 3) := by decide +kernel
theorem dX8_worker_160 : decode cX8_worker 160 = .ok (.aload_n 0, 1) := by decide +kernel
theorem dX8_worker_161 : decode cX8_worker 161 = .ok (.getfield 32, 3) := by decide +kernel
theorem dX8_worker_164 : decode cX8_worker 164 = .ok (.iload_n 1, 1) := by decide +kernel
theorem dX8_worker_165 : decode cX8_worker 165 = .ok (.iaload, 1) := by decide +kernel
theorem dX8_worker_166 : decode cX8_worker 166 = .ok (.laload, 1) := by decide +kernel
theorem dX8_worker_167 : decode cX8_worker 167 = .ok (.lconst 0, 1) := by decide +kernel
theorem dX8_worker_168 : decode cX8_worker 168 = .ok (.lcmp, 1) := by decide +kernel
theorem dX8_worker_169 : decode cX8_worker 169 = .ok (.ifCond .ne 7, 3) := by decide +kernel
theorem dX8_worker_172 : decode cX8_worker 172 = .ok (.lconst 1, 1) := by decide +kernel
theorem dX8_worker_173 : decode cX8_worker 173 = .ok (.goto 4, 3) := by decide +kernel
theorem dX8_worker_176 : decode cX8_worker 176 = .ok (.lconst 0, 1) := by decide +kernel
theorem dX8_worker_177 : decode cX8_worker 177 = .ok (.lastore, 1) := by decide +kernel
theorem dX8_worker_178 : decode cX8_worker 178 = .ok (.aload_n 0, 1) := by decide +kernel
theorem dX8_worker_179 : decode cX8_worker 179 = .ok (.getfield 7, 3) := by decide +kernel
theorem dX8_worker_182 : decode cX8_worker 182 = .ok (.bipush 9, 2) := by decide +kernel
theorem dX8_worker_184 : decode cX8_worker 184 = .ok (.iload 8, 2) := by decide +kernel
theorem dX8_worker_186 : decode cX8_worker 186 = .ok (.ifCond .eq 7, 3) := by decide +kernel
theorem dX8_worker_189 : decode cX8_worker 189 = .ok (.lconst 1, 1) := by decide +kernel
theorem dX8_worker_190 : decode cX8_worker 190 = .ok (.goto 4, 3) := by decide +kernel
theorem dX8_worker_193 : decode cX8_worker 193 = .ok (.lconst 0, 1) := by decide +kernel
theorem dX8_worker_194 : decode cX8_worker 194 = .ok (.lastore, 1) := by decide +kernel
theorem dX8_worker_195 : decode cX8_worker 195 = .ok (.return_, 1) := by decide +kernel
set_option maxRecDepth 20000 in
theorem ggX8_does_X8_puts : GoodIn wsX8_does wsX8_puts := goodIn_r _ [10, 5, 11, 12, 13, 14, 9, 15, 16, 21, 22, 23, 24, 25, 26, 27, 28, 29, 30, 31, 32, 33, 34, 35, 36, 37, 38, 39, 40, 41, 42, 43, 44, 45, 46, 47, 48, 49, 50, 51, 52, 53, 54, 55, 56, 57, 58, 59, 60, 61, 62, 63, 64] (by decide +kernel) (by decide +kernel)
set_option maxRecDepth 20000 in
theorem gX8_does_X8_puts : GoodIn wsX8_does (wsV RX8 239 RX8 yX8_puts wsX8_puts) := goodIn_app (goodIn_of _ (by decide +kernel)) ggX8_does_X8_puts
set_option maxRecDepth 20000 in
theorem ggX8_does_X8_worker : GoodIn wsX8_does wsX8_worker := goodIn_r _ [20, 3, 2, 4, 1, 16, 11, 5, 6, 7, 8, 9, 10, 12, 13, 14, 15, 21, 22, 23, 24, 25, 26, 27, 28, 29, 30, 31, 32, 33, 34, 35, 36, 37, 38, 39, 40, 41, 42, 43, 44, 45, 46, 47, 48, 49, 50, 51, 52, 53, 54, 55, 56, 57, 58, 59, 60, 61, 62, 63, 64] (by decide +kernel) (by decide +kernel)
set_option maxRecDepth 20000 in
theorem gX8_does_X8_worker : GoodIn wsX8_does (wsV RX8 243 RX8 yX8_worker wsX8_worker) := goodIn_app (goodIn_of _ (by decide +kernel)) ggX8_does_X8_worker
theorem dX8_does_0 : decode cX8_does 0 = .ok (.aload_n 0, 1) := by decide +kernel
theorem dX8_does_1 : decode cX8_does 1 = .ok (.getfield 29, 3) := by decide +kernel
theorem dX8_does_4 : decode cX8_does 4 = .ok (.iload_n 1, 1) := by decide +kernel
theorem dX8_does_5 : decode cX8_does 5 = .ok (.iaload, 1) := by decide +kernel
theorem dX8_does_6 : decode cX8_does 6 = .ok (.tableswitch 211 0 8 #[50, 65, 84, 84, 84, 84, 92, 149, 177], 50) := by decide +kernel
theorem dX8_does_56 : decode cX8_does 56 = .ok (.aload_n 0, 1) := by decide +kernel
theorem dX8_does_57 : decode cX8_does 57 = .ok (.iload_n 1, 1) := by decide +kernel
theorem dX8_does_58 : decode cX8_does 58 = .ok (.aload_n 0, 1) := by decide +kernel
theorem dX8_does_59 : decode cX8_does 59 = .ok (.getfield 35, 3) := by decide +kernel
theorem dX8_does_62 : decode cX8_does 62 = .ok (.iload_n 1, 1) := by decide +kernel
theorem dX8_does_63 : decode cX8_does 63 = .ok (.iaload, 1) := by decide +kernel
theorem dX8_does_64 : decode cX8_does 64 = .ok (.i2l, 1) := by decide +kernel
theorem dX8_does_65 : decode cX8_does 65 = .ok (.invokevirtual 239, 3) := by decide +kernel
theorem dX8_does_68 : decode cX8_does 68 = .ok (.goto 149, 3) := by decide +kernel
theorem dX8_does_71 : decode cX8_does 71 = .ok (.aload_n 0, 1) := by decide +kernel
theorem dX8_does_72 : decode cX8_does 72 = .ok (.iload_n 1, 1) := by decide +kernel
theorem dX8_does_73 : decode cX8_does 73 = .ok (.aload_n 0, 1) := by decide +kernel
theorem dX8_does_74 : decode cX8_does 74 = .ok (.getfield 16, 3) := by decide +kernel
theorem dX8_does_77 : decode cX8_does 77 = .ok (.aload_n 0, 1) := by decide +kernel
theorem dX8_does_78 : decode cX8_does 78 = .ok (.getfield 35, 3) := by decide +kernel
theorem dX8_does_81 : decode cX8_does 81 = .ok (.iload_n 1, 1) := by decide +kernel
theorem dX8_does_82 : decode cX8_does 82 = .ok (.iaload, 1) := by decide +kernel
theorem dX8_does_83 : decode cX8_does 83 = .ok (.laload, 1) := by decide +kernel
theorem dX8_does_84 : decode cX8_does 84 = .ok (.invokevirtual 239, 3) := by decide +kernel
theorem dX8_does_87 : decode cX8_does 87 = .ok (.goto 130, 3) := by decide +kernel
theorem dX8_does_90 : decode cX8_does 90 = .ok (.aload_n 0, 1) := by decide +kernel
theorem dX8_does_91 : decode cX8_does 91 = .ok (.iload_n 1, 1) := by decide +kernel
theorem dX8_does_92 : decode cX8_does 92 = .ok (.invokevirtual 243, 3) := by decide +kernel
theorem dX8_does_95 : decode cX8_does 95 = .ok (.goto 122, 3) := by decide +kernel
theorem dX8_does_98 : decode cX8_does 98 = .ok (.aload_n 0, 1) := by decide +kernel
theorem dX8_does_99 : decode cX8_does 99 = .ok (.iload_n 1, 1) := by decide +kernel
theorem dX8_does_100 : decode cX8_does 100 = .ok (.aload_n 0, 1) := by decide +kernel
theorem dX8_does_101 : decode cX8_does 101 = .ok (.getfield 38, 3) := by decide +kernel
theorem dX8_does_104 : decode cX8_does 104 = .ok (.iload_n 1, 1) := by decide +kernel
theorem dX8_does_105 : decode cX8_does 105 = .ok (.iaload, 1) := by decide +kernel
theorem dX8_does_106 : decode cX8_does 106 = .ok (.ifCond .lt 24, 3) := by decide +kernel
theorem dX8_does_109 : decode cX8_does 109 = .ok (.aload_n 0, 1) := by decide +kernel
theorem dX8_does_110 : decode cX8_does 110 = .ok (.getfield 16, 3) := by decide +kernel
theorem dX8_does_113 : decode cX8_does 113 = .ok (.aload_n 0, 1) := by decide +kernel
theorem dX8_does_114 : decode cX8_does 114 = .ok (.getfield 35, 3) := by decide +kernel
theorem dX8_does_117 : decode cX8_does 117 = .ok (.iload_n 1, 1) := by decide +kernel
theorem dX8_does_118 : decode cX8_does 118 = .ok (.iaload, 1) := by decide +kernel
theorem dX8_does_119 : decode cX8_does 119 = .ok (.laload, 1) := by decide +kernel
theorem dX8_does_120 : decode cX8_does 120 = .ok (.aload_n 0, 1) := by decide +kernel
theorem dX8_does_121 : decode cX8_does 121 = .ok (.getfield 38, 3) := by decide +kernel
theorem dX8_does_124 : decode cX8_does 124 = .ok (.iload_n 1, 1) := by decide +kernel
theorem dX8_does_125 : decode cX8_does 125 = .ok (.iaload, 1) := by decide +kernel
theorem dX8_does_126 : decode cX8_does 126 = .ok (.lshl, 1) := by decide +kernel
theorem dX8_does_127 : decode cX8_does 127 = .ok (.goto 22, 3) := by decide +kernel
theorem dX8_does_130 : decode cX8_does 130 = .ok (.aload_n 0, 1) := by decide +kernel
theorem dX8_does_131 : decode cX8_does 131 = .ok (.getfield 16, 3) := by decide +kernel
theorem dX8_does_134 : decode cX8_does 134 = .ok (.aload_n 0, 1) := by decide +kernel
theorem dX8_does_135 : decode cX8_does 135 = .ok (.getfield 35, 3) := by decide +kernel
theorem dX8_does_138 : decode cX8_does 138 = .ok (.iload_n 1, 1) := by decide +kernel
theorem dX8_does_139 : decode cX8_does 139 = .ok (.iaload, 1) := by decide +kernel
theorem dX8_does_140 : decode cX8_does 140 = .ok (.laload, 1) := by decide +kernel
theorem dX8_does_141 : decode cX8_does 141 = .ok (.aload_n 0, 1) := by decide +kernel
theorem dX8_does_142 : decode cX8_does 142 = .ok (.getfield 38, 3) := by decide +kernel
theorem dX8_does_145 : decode cX8_does 145 = .ok (.iload_n 1, 1) := by decide +kernel
theorem dX8_does_146 : decode cX8_does 146 = .ok (.iaload, 1) := by decide +kernel
theorem dX8_does_147 : decode cX8_does 147 = .ok (.ineg, 1) := by decide +kernel
theorem dX8_does_148 : decode cX8_does 148 = .ok (.lshr, 1) := by decide +kernel
theorem dX8_does_149 : decode cX8_does 149 = .ok (.invokevirtual 239, 3) := by decide +kernel
theorem dX8_does_152 : decode cX8_does 152 = .ok (.goto 65, 3) := by decide +kernel
theorem dX8_does_155 : decode cX8_does 155 = .ok (.aload_n 0, 1) := by decide +kernel
theorem dX8_does_156 : decode cX8_does 156 = .ok (.iload_n 1, 1) := by decide +kernel
theorem dX8_does_157 : decode cX8_does 157 = .ok (.aload_n 0, 1) := by decide +kernel
theorem dX8_does_158 : decode cX8_does 158 = .ok (.getfield 16, 3) := by decide +kernel
theorem dX8_does_161 : decode cX8_does 161 = .ok (.bipush 10, 2) := by decide +kernel
theorem dX8_does_163 : decode cX8_does 163 = .ok (.aload_n 0, 1) := by decide +kernel
theorem dX8_does_164 : decode cX8_does 164 = .ok (.getfield 16, 3) := by decide +kernel
theorem dX8_does_167 : decode cX8_does 167 = .ok (.aload_n 0, 1) := by decide +kernel
theorem dX8_does_168 : decode cX8_does 168 = .ok (.getfield 35, 3) := by decide +kernel
theorem dX8_does_171 : decode cX8_does 171 = .ok (.iload_n 1, 1) := by decide +kernel
theorem dX8_does_172 : decode cX8_does 172 = .ok (.iaload, 1) := by decide +kernel
theorem dX8_does_173 : decode cX8_does 173 = .ok (.laload, 1) := by decide +kernel
theorem dX8_does_174 : decode cX8_does 174 = .ok (.l2i, 1) := by decide +kernel
theorem dX8_does_175 : decode cX8_does 175 = .ok (.iadd, 1) := by decide +kernel
theorem dX8_does_176 : decode cX8_does 176 = .ok (.laload, 1) := by decide +kernel
theorem dX8_does_177 : decode cX8_does 177 = .ok (.invokevirtual 239, 3) := by decide +kernel
theorem dX8_does_180 : decode cX8_does 180 = .ok (.goto 37, 3) := by decide +kernel
theorem dX8_does_183 : decode cX8_does 183 = .ok (.aload_n 0, 1) := by decide +kernel
theorem dX8_does_184 : decode cX8_does 184 = .ok (.getfield 7, 3) := by decide +kernel
theorem dX8_does_187 : decode cX8_does 187 = .ok (.bipush 10, 2) := by decide +kernel
theorem dX8_does_189 : decode cX8_does 189 = .ok (.aload_n 0, 1) := by decide +kernel
theorem dX8_does_190 : decode cX8_does 190 = .ok (.getfield 16, 3) := by decide +kernel
theorem dX8_does_193 : decode cX8_does 193 = .ok (.aload_n 0, 1) := by decide +kernel
theorem dX8_does_194 : decode cX8_does 194 = .ok (.getfield 35, 3) := by decide +kernel
theorem dX8_does_197 : decode cX8_does 197 = .ok (.iload_n 1, 1) := by decide +kernel
theorem dX8_does_198 : decode cX8_does 198 = .ok (.iaload, 1) := by decide +kernel
theorem dX8_does_199 : decode cX8_does 199 = .ok (.laload, 1) := by decide +kernel
theorem dX8_does_200 : decode cX8_does 200 = .ok (.l2i, 1) := by decide +kernel
theorem dX8_does_201 : decode cX8_does 201 = .ok (.iadd, 1) := by decide +kernel
theorem dX8_does_202 : decode cX8_does 202 = .ok (.aload_n 0, 1) := by decide +kernel
theorem dX8_does_203 : decode cX8_does 203 = .ok (.getfield 16, 3) := by decide +kernel
theorem dX8_does_206 : decode cX8_does 206 = .ok (.aload_n 0, 1) := by decide +kernel
theorem dX8_does_207 : decode cX8_does 207 = .ok (.getfield 38, 3) := by decide +kernel
theorem dX8_does_210 : decode cX8_does 210 = .ok (.iload_n 1, 1) := by decide +kernel
theorem dX8_does_211 : decode cX8_does 211 = .ok (.iaload, 1) := by decide +kernel
theorem dX8_does_212 : decode cX8_does 212 = .ok (.laload, 1) := by decide +kernel
theorem dX8_does_213 : decode cX8_does 213 = .ok (.lastore, 1) := by decide +kernel
theorem dX8_does_214 : decode cX8_does 214 = .ok (.goto 3, 3) := by decide +kernel
theorem dX8_does_217 : decode cX8_does 217 = .ok (.return_, 1) := by decide +kernel
set_option maxRecDepth 20000 in
theorem ggX8_plainly_X8_copies : GoodIn wsX8_plainly wsX8_copies := goodIn_r _ [12] (by decide +kernel) (by decide +kernel)
set_option maxRecDepth 20000 in
theorem gX8_plainly_X8_copies : GoodIn wsX8_plainly (va_wsS RX8 246 yX8_copies wsX8_copies) := goodIn_app (goodIn_of _ (by decide +kernel)) ggX8_plainly_X8_copies
set_option maxRecDepth 20000 in
theorem ggX8_plainly_X8_holds : GoodIn wsX8_plainly wsX8_holds := goodIn_r _ [16, 8, 7, 17, 18, 19, 38, 39, 40, 41, 42, 43, 44, 45, 46, 47, 48, 49, 50, 51, 52, 53, 54, 55, 56, 57, 58, 59, 60, 61, 62, 63, 64, 65, 66, 67, 68, 69, 70, 71, 72, 73, 74, 75, 76, 77, 78, 79, 80, 81] (by decide +kernel) (by decide +kernel)
set_option maxRecDepth 20000 in
theorem gX8_plainly_X8_holds : GoodIn wsX8_plainly (wsV RX8 256 RX8 yX8_holds wsX8_holds) := goodIn_app (goodIn_of _ (by decide +kernel)) ggX8_plainly_X8_holds
set_option maxRecDepth 20000 in
theorem ggX8_plainly_X8_does : GoodIn wsX8_plainly wsX8_does := goodIn_r _ [23, 8, 17, 7, 18, 1, 24, 25, 26, 11, 27, 28, 29, 30, 31, 32, 33, 34, 35, 36, 37, 38, 39, 40, 41, 42, 43, 44, 45, 46, 47, 48, 49, 50, 51, 52, 53, 54, 55, 56, 57, 58, 59, 60, 61, 62, 63, 64, 65, 66, 67, 68, 69, 70, 71, 72, 73, 74, 75, 76, 77, 78, 79, 80, 81] (by decide +kernel) (by decide +kernel)
set_option maxRecDepth 20000 in
theorem gX8_plainly_X8_does : GoodIn wsX8_plainly (wsV RX8 259 RX8 yX8_does wsX8_does) := goodIn_app (goodIn_of _ (by decide +kernel)) ggX8_plainly_X8_does
theorem dX8_plainly_0 : decode cX8_plainly 0 = .ok (.aload_n 0, 1) := by decide +kernel
theorem dX8_plainly_1 : decode cX8_plainly 1 = .ok (.getfield 7, 3) := by decide +kernel
theorem dX8_plainly_4 : decode cX8_plainly 4 = .ok (.aload_n 0, 1) := by decide +kernel
theorem dX8_plainly_5 : decode cX8_plainly 5 = .ok (.getfield 19, 3) := by decide +kernel
theorem dX8_plainly_8 : decode cX8_plainly 8 = .ok (.invokestatic 246, 3) := by decide +kernel
theorem dX8_plainly_11 : decode cX8_plainly 11 = .ok (.aload_n 0, 1) := by decide +kernel
theorem dX8_plainly_12 : decode cX8_plainly 12 = .ok (.iconst 0, 1) := by decide +kernel
theorem dX8_plainly_13 : decode cX8_plainly 13 = .ok (.putfield 250, 3) := by decide +kernel
theorem dX8_plainly_16 : decode cX8_plainly 16 = .ok (.aload_n 0, 1) := by decide +kernel
theorem dX8_plainly_17 : decode cX8_plainly 17 = .ok (.iconst 0, 1) := by decide +kernel
theorem dX8_plainly_18 : decode cX8_plainly 18 = .ok (.putfield 253, 3) := by decide +kernel
theorem dX8_plainly_21 : decode cX8_plainly 21 = .ok (.aload_n 0, 1) := by decide +kernel
theorem dX8_plainly_22 : decode cX8_plainly 22 = .ok (.iconst (-1), 1) := by decide +kernel
theorem dX8_plainly_23 : decode cX8_plainly 23 = .ok (.putfield 100, 3) := by decide +kernel
theorem dX8_plainly_26 : decode cX8_plainly 26 = .ok (.iconst 0, 1) := by decide +kernel
theorem dX8_plainly_27 : decode cX8_plainly 27 = .ok (.istore_n 2, 1) := by decide +kernel
theorem dX8_plainly_28 : decode cX8_plainly 28 = .ok (.iload_n 2, 1) := by decide +kernel
theorem dX8_plainly_29 : decode cX8_plainly 29 = .ok (.aload_n 0, 1) := by decide +kernel
theorem dX8_plainly_30 : decode cX8_plainly 30 = .ok (.getfield 41, 3) := by decide +kernel
theorem dX8_plainly_33 : decode cX8_plainly 33 = .ok (.iload_n 1, 1) := by decide +kernel
theorem dX8_plainly_34 : decode cX8_plainly 34 = .ok (.iaload, 1) := by decide +kernel
theorem dX8_plainly_35 : decode cX8_plainly 35 = .ok (.if_icmp .ge 89, 3) := by decide +kernel
theorem dX8_plainly_38 : decode cX8_plainly 38 = .ok (.bipush 10, 2) := by decide +kernel
theorem dX8_plainly_40 : decode cX8_plainly 40 = .ok (.iload_n 1, 1) := by decide +kernel
theorem dX8_plainly_41 : decode cX8_plainly 41 = .ok (.imul, 1) := by decide +kernel
theorem dX8_plainly_42 : decode cX8_plainly 42 = .ok (.iload_n 2, 1) := by decide +kernel
theorem dX8_plainly_43 : decode cX8_plainly 43 = .ok (.iadd, 1) := by decide +kernel
theorem dX8_plainly_44 : decode cX8_plainly 44 = .ok (.istore_n 3, 1) := by decide +kernel
theorem dX8_plainly_45 : decode cX8_plainly 45 = .ok (.aload_n 0, 1) := by decide +kernel
theorem dX8_plainly_46 : decode cX8_plainly 46 = .ok (.getfield 7, 3) := by decide +kernel
theorem dX8_plainly_49 : decode cX8_plainly 49 = .ok (.aload_n 0, 1) := by decide +kernel
theorem dX8_plainly_50 : decode cX8_plainly 50 = .ok (.getfield 16, 3) := by decide +kernel
theorem dX8_plainly_53 : decode cX8_plainly 53 = .ok (.invokestatic 246, 3) := by decide +kernel
theorem dX8_plainly_56 : decode cX8_plainly 56 = .ok (.aload_n 0, 1) := by decide +kernel
theorem dX8_plainly_57 : decode cX8_plainly 57 = .ok (.dup, 1) := by decide +kernel
theorem dX8_plainly_58 : decode cX8_plainly 58 = .ok (.getfield 250, 3) := by decide +kernel
theorem dX8_plainly_61 : decode cX8_plainly 61 = .ok (.iconst 1, 1) := by decide +kernel
theorem dX8_plainly_62 : decode cX8_plainly 62 = .ok (.iadd, 1) := by decide +kernel
theorem dX8_plainly_63 : decode cX8_plainly 63 = .ok (.putfield 250, 3) := by decide +kernel
theorem dX8_plainly_66 : decode cX8_plainly 66 = .ok (.aload_n 0, 1) := by decide +kernel
theorem dX8_plainly_67 : decode cX8_plainly 67 = .ok (.iload_n 3, 1) := by decide +kernel
theorem dX8_plainly_68 : decode cX8_plainly 68 = .ok (.invokevirtual 256, 3) := by decide +kernel
theorem dX8_plainly_71 : decode cX8_plainly 71 = .ok (.ifCond .eq 16, 3) := by decide +kernel
theorem dX8_plainly_74 : decode cX8_plainly 74 = .ok (.aload_n 0, 1) := by decide +kernel
theorem dX8_plainly_75 : decode cX8_plainly 75 = .ok (.getfield 29, 3) := by decide +kernel
theorem dX8_plainly_78 : decode cX8_plainly 78 = .ok (.iload_n 3, 1) := by decide +kernel
theorem dX8_plainly_79 : decode cX8_plainly 79 = .ok (.iaload, 1) := by decide +kernel
theorem dX8_plainly_80 : decode cX8_plainly 80 = .ok (.bipush 9, 2) := by decide +kernel
theorem dX8_plainly_82 : decode cX8_plainly 82 = .ok (.if_icmp .ne 5, 3) := by decide +kernel
theorem dX8_plainly_85 : decode cX8_plainly 85 = .ok (.iconst 1, 1) := by decide +kernel
theorem dX8_plainly_86 : decode cX8_plainly 86 = .ok (.ireturn, 1) := by decide +kernel
theorem dX8_plainly_87 : decode cX8_plainly 87 = .ok (.aload_n 0, 1) := by decide +kernel
theorem dX8_plainly_88 : decode cX8_plainly 88 = .ok (.iload_n 3, 1) := by decide +kernel
theorem dX8_plainly_89 : decode cX8_plainly 89 = .ok (.invokevirtual 256, 3) := by decide +kernel
theorem dX8_plainly_92 : decode cX8_plainly 92 = .ok (.ifCond .eq 21, 3) := by decide +kernel
theorem dX8_plainly_95 : decode cX8_plainly 95 = .ok (.aload_n 0, 1) := by decide +kernel
theorem dX8_plainly_96 : decode cX8_plainly 96 = .ok (.iload_n 2, 1) := by decide +kernel
theorem dX8_plainly_97 : decode cX8_plainly 97 = .ok (.putfield 100, 3) := by decide +kernel
theorem dX8_plainly_100 : decode cX8_plainly 100 = .ok (.aload_n 0, 1) := by decide +kernel
theorem dX8_plainly_101 : decode cX8_plainly 101 = .ok (.getfield 19, 3) := by decide +kernel
theorem dX8_plainly_104 : decode cX8_plainly 104 = .ok (.aload_n 0, 1) := by decide +kernel
theorem dX8_plainly_105 : decode cX8_plainly 105 = .ok (.getfield 7, 3) := by decide +kernel
theorem dX8_plainly_108 : decode cX8_plainly 108 = .ok (.invokestatic 246, 3) := by decide +kernel
theorem dX8_plainly_111 : decode cX8_plainly 111 = .ok (.iconst 2, 1) := by decide +kernel
theorem dX8_plainly_112 : decode cX8_plainly 112 = .ok (.ireturn, 1) := by decide +kernel
theorem dX8_plainly_113 : decode cX8_plainly 113 = .ok (.aload_n 0, 1) := by decide +kernel
theorem dX8_plainly_114 : decode cX8_plainly 114 = .ok (.iload_n 3, 1) := by decide +kernel
theorem dX8_plainly_115 : decode cX8_plainly 115 = .ok (.invokevirtual 259, 3) := by decide +kernel
theorem dX8_plainly_118 : decode cX8_plainly 118 = .ok (.iinc 2 1, 3) := by decide +kernel
theorem dX8_plainly_121 : decode cX8_plainly 121 = .ok (.goto (-93), 3) := by decide +kernel
theorem dX8_plainly_124 : decode cX8_plainly 124 = .ok (.iconst 0, 1) := by decide +kernel
theorem dX8_plainly_125 : decode cX8_plainly 125 = .ok (.ireturn, 1) := by decide +kernel
set_option maxRecDepth 20000 in
theorem ggX8_byWords_X8_packs : GoodIn wsX8_byWords wsX8_packs := goodIn_r _ [15, 16, 8, 17, 18, 19, 9, 6, 20, 21, 22, 14, 23, 10, 24, 25, 26, 27, 28, 29, 30, 31, 32, 33, 34, 35, 36, 37, 38, 39, 40, 41, 42, 43, 44, 45, 46, 47, 48, 74, 75, 76, 77, 78, 79, 80, 81, 82, 83, 84, 85, 86, 87, 88, 89, 90, 91, 92, 93, 94, 95, 96, 97, 98, 99, 100, 101, 102, 103, 104, 105, 106, 107, 108, 109, 110, 111, 112, 113, 114, 115, 116, 117] (by decide +kernel) (by decide +kernel)
set_option maxRecDepth 20000 in
theorem gX8_byWords_X8_packs : GoodIn wsX8_byWords (wsV RX8 194 RX8 yX8_packs wsX8_packs) := goodIn_app (goodIn_of _ (by decide +kernel)) ggX8_byWords_X8_packs
set_option maxRecDepth 20000 in
theorem ggX8_byWords_X8_copies : GoodIn wsX8_byWords wsX8_copies := goodIn_r _ [51] (by decide +kernel) (by decide +kernel)
set_option maxRecDepth 20000 in
theorem gX8_byWords_X8_copies : GoodIn wsX8_byWords (va_wsS RX8 246 yX8_copies wsX8_copies) := goodIn_app (goodIn_of _ (by decide +kernel)) ggX8_byWords_X8_copies
set_option maxRecDepth 20000 in
theorem ggX8_byWords_X8_holds : GoodIn wsX8_byWords wsX8_holds := goodIn_r _ [55, 10, 7, 36, 37, 56, 74, 75, 76, 77, 78, 79, 80, 81, 82, 83, 84, 85, 86, 87, 88, 89, 90, 91, 92, 93, 94, 95, 96, 97, 98, 99, 100, 101, 102, 103, 104, 105, 106, 107, 108, 109, 110, 111, 112, 113, 114, 115, 116, 117] (by decide +kernel) (by decide +kernel)
set_option maxRecDepth 20000 in
theorem gX8_byWords_X8_holds : GoodIn wsX8_byWords (wsV RX8 256 RX8 yX8_holds wsX8_holds) := goodIn_app (goodIn_of _ (by decide +kernel)) ggX8_byWords_X8_holds
set_option maxRecDepth 20000 in
theorem ggX8_byWords_X8_does : GoodIn wsX8_byWords wsX8_does := goodIn_r _ [60, 10, 36, 7, 37, 1, 61, 62, 63, 14, 64, 28, 65, 66, 67, 68, 69, 70, 71, 72, 73, 74, 75, 76, 77, 78, 79, 80, 81, 82, 83, 84, 85, 86, 87, 88, 89, 90, 91, 92, 93, 94, 95, 96, 97, 98, 99, 100, 101, 102, 103, 104, 105, 106, 107, 108, 109, 110, 111, 112, 113, 114, 115, 116, 117] (by decide +kernel) (by decide +kernel)
set_option maxRecDepth 20000 in
theorem gX8_byWords_X8_does : GoodIn wsX8_byWords (wsV RX8 259 RX8 yX8_does wsX8_does) := goodIn_app (goodIn_of _ (by decide +kernel)) ggX8_byWords_X8_does
theorem dX8_byWords_0 : decode cX8_byWords 0 = .ok (.aload_n 0, 1) := by decide +kernel
theorem dX8_byWords_1 : decode cX8_byWords 1 = .ok (.iload_n 1, 1) := by decide +kernel
theorem dX8_byWords_2 : decode cX8_byWords 2 = .ok (.invokevirtual 194, 3) := by decide +kernel
theorem dX8_byWords_5 : decode cX8_byWords 5 = .ok (.aload_n 0, 1) := by decide +kernel
theorem dX8_byWords_6 : decode cX8_byWords 6 = .ok (.getfield 7, 3) := by decide +kernel
theorem dX8_byWords_9 : decode cX8_byWords 9 = .ok (.aload_n 0, 1) := by decide +kernel
theorem dX8_byWords_10 : decode cX8_byWords 10 = .ok (.getfield 19, 3) := by decide +kernel
theorem dX8_byWords_13 : decode cX8_byWords 13 = .ok (.invokestatic 246, 3) := by decide +kernel
theorem dX8_byWords_16 : decode cX8_byWords 16 = .ok (.aload_n 0, 1) := by decide +kernel
theorem dX8_byWords_17 : decode cX8_byWords 17 = .ok (.iconst 0, 1) := by decide +kernel
theorem dX8_byWords_18 : decode cX8_byWords 18 = .ok (.putfield 250, 3) := by decide +kernel
theorem dX8_byWords_21 : decode cX8_byWords 21 = .ok (.aload_n 0, 1) := by decide +kernel
theorem dX8_byWords_22 : decode cX8_byWords 22 = .ok (.iconst 0, 1) := by decide +kernel
theorem dX8_byWords_23 : decode cX8_byWords 23 = .ok (.putfield 253, 3) := by decide +kernel
theorem dX8_byWords_26 : decode cX8_byWords 26 = .ok (.aload_n 0, 1) := by decide +kernel
theorem dX8_byWords_27 : decode cX8_byWords 27 = .ok (.iconst (-1), 1) := by decide +kernel
theorem dX8_byWords_28 : decode cX8_byWords 28 = .ok (.putfield 100, 3) := by decide +kernel
theorem dX8_byWords_31 : decode cX8_byWords 31 = .ok (.iconst 0, 1) := by decide +kernel
theorem dX8_byWords_32 : decode cX8_byWords 32 = .ok (.istore_n 2, 1) := by decide +kernel
theorem dX8_byWords_33 : decode cX8_byWords 33 = .ok (.iload_n 2, 1) := by decide +kernel
theorem dX8_byWords_34 : decode cX8_byWords 34 = .ok (.aload_n 0, 1) := by decide +kernel
theorem dX8_byWords_35 : decode cX8_byWords 35 = .ok (.getfield 57, 3) := by decide +kernel
theorem dX8_byWords_38 : decode cX8_byWords 38 = .ok (.iload_n 1, 1) := by decide +kernel
theorem dX8_byWords_39 : decode cX8_byWords 39 = .ok (.iaload, 1) := by decide +kernel
theorem dX8_byWords_40 : decode cX8_byWords 40 = .ok (.if_icmp .ge 159, 3) := by decide +kernel
theorem dX8_byWords_43 : decode cX8_byWords 43 = .ok (.iconst 0, 1) := by decide +kernel
theorem dX8_byWords_44 : decode cX8_byWords 44 = .ok (.istore_n 3, 1) := by decide +kernel
theorem dX8_byWords_45 : decode cX8_byWords 45 = .ok (.aload_n 0, 1) := by decide +kernel
theorem dX8_byWords_46 : decode cX8_byWords 46 = .ok (.getfield 7, 3) := by decide +kernel
theorem dX8_byWords_49 : decode cX8_byWords 49 = .ok (.aload_n 0, 1) := by decide +kernel
theorem dX8_byWords_50 : decode cX8_byWords 50 = .ok (.getfield 16, 3) := by decide +kernel
theorem dX8_byWords_53 : decode cX8_byWords 53 = .ok (.invokestatic 246, 3) := by decide +kernel
theorem dX8_byWords_56 : decode cX8_byWords 56 = .ok (.aload_n 0, 1) := by decide +kernel
theorem dX8_byWords_57 : decode cX8_byWords 57 = .ok (.dup, 1) := by decide +kernel
theorem dX8_byWords_58 : decode cX8_byWords 58 = .ok (.getfield 253, 3) := by decide +kernel
theorem dX8_byWords_61 : decode cX8_byWords 61 = .ok (.iconst 1, 1) := by decide +kernel
theorem dX8_byWords_62 : decode cX8_byWords 62 = .ok (.iadd, 1) := by decide +kernel
theorem dX8_byWords_63 : decode cX8_byWords 63 = .ok (.putfield 253, 3) := by decide +kernel
theorem dX8_byWords_66 : decode cX8_byWords 66 = .ok (.iconst 0, 1) := by decide +kernel
theorem dX8_byWords_67 : decode cX8_byWords 67 = .ok (.istore 4, 2) := by decide +kernel
theorem dX8_byWords_69 : decode cX8_byWords 69 = .ok (.iload 4, 2) := by decide +kernel
theorem dX8_byWords_71 : decode cX8_byWords 71 = .ok (.aload_n 0, 1) := by decide +kernel
theorem dX8_byWords_72 : decode cX8_byWords 72 = .ok (.getfield 41, 3) := by decide +kernel
theorem dX8_byWords_75 : decode cX8_byWords 75 = .ok (.iload_n 1, 1) := by decide +kernel
theorem dX8_byWords_76 : decode cX8_byWords 76 = .ok (.iaload, 1) := by decide +kernel
theorem dX8_byWords_77 : decode cX8_byWords 77 = .ok (.if_icmp .ge 90, 3) := by decide +kernel
theorem dX8_byWords_80 : decode cX8_byWords 80 = .ok (.bipush 10, 2) := by decide +kernel
theorem dX8_byWords_82 : decode cX8_byWords 82 = .ok (.iload_n 1, 1) := by decide +kernel
theorem dX8_byWords_83 : decode cX8_byWords 83 = .ok (.imul, 1) := by decide +kernel
theorem dX8_byWords_84 : decode cX8_byWords 84 = .ok (.iload 4, 2) := by decide +kernel
theorem dX8_byWords_86 : decode cX8_byWords 86 = .ok (.iadd, 1) := by decide +kernel
theorem dX8_byWords_87 : decode cX8_byWords 87 = .ok (.istore 5, 2) := by decide +kernel
theorem dX8_byWords_89 : decode cX8_byWords 89 = .ok (.aload_n 0, 1) := by decide +kernel
theorem dX8_byWords_90 : decode cX8_byWords 90 = .ok (.getfield 54, 3) := by decide +kernel
theorem dX8_byWords_93 : decode cX8_byWords 93 = .ok (.iload 5, 2) := by decide +kernel
theorem dX8_byWords_95 : decode cX8_byWords 95 = .ok (.iaload, 1) := by decide +kernel
theorem dX8_byWords_96 : decode cX8_byWords 96 = .ok (.iload_n 2, 1) := by decide +kernel
theorem dX8_byWords_97 : decode cX8_byWords 97 = .ok (.if_icmp .eq 6, 3) := by decide +kernel
theorem dX8_byWords_100 : decode cX8_byWords 100 = .ok (.goto 61, 3) := by decide +kernel
theorem dX8_byWords_103 : decode cX8_byWords 103 = .ok (.aload_n 0, 1) := by decide +kernel
theorem dX8_byWords_104 : decode cX8_byWords 104 = .ok (.dup, 1) := by decide +kernel
theorem dX8_byWords_105 : decode cX8_byWords 105 = .ok (.getfield 250, 3) := by decide +kernel
theorem dX8_byWords_108 : decode cX8_byWords 108 = .ok (.iconst 1, 1) := by decide +kernel
theorem dX8_byWords_109 : decode cX8_byWords 109 = .ok (.iadd, 1) := by decide +kernel
theorem dX8_byWords_110 : decode cX8_byWords 110 = .ok (.putfield 250, 3) := by decide +kernel
theorem dX8_byWords_113 : decode cX8_byWords 113 = .ok (.aload_n 0, 1) := by decide +kernel
theorem dX8_byWords_114 : decode cX8_byWords 114 = .ok (.iload 5, 2) := by decide +kernel
theorem dX8_byWords_116 : decode cX8_byWords 116 = .ok (.invokevirtual 256, 3) := by decide +kernel
theorem dX8_byWords_119 : decode cX8_byWords 119 = .ok (.ifCond .ne 12, 3) := by decide +kernel
theorem dX8_byWords_122 : decode cX8_byWords 122 = .ok (.aload_n 0, 1) := by decide +kernel
theorem dX8_byWords_123 : decode cX8_byWords 123 = .ok (.iload 5, 2) := by decide +kernel
theorem dX8_byWords_125 : decode cX8_byWords 125 = .ok (.invokevirtual 259, 3) := by decide +kernel
theorem dX8_byWords_128 : decode cX8_byWords 128 = .ok (.goto 33, 3) := by decide +kernel
theorem dX8_byWords_131 : decode cX8_byWords 131 = .ok (.aload_n 0, 1) := by decide +kernel
theorem dX8_byWords_132 : decode cX8_byWords 132 = .ok (.getfield 29, 3) := by decide +kernel
theorem dX8_byWords_135 : decode cX8_byWords 135 = .ok (.iload 5, 2) := by decide +kernel
theorem dX8_byWords_137 : decode cX8_byWords 137 = .ok (.iaload, 1) := by decide +kernel
theorem dX8_byWords_138 : decode cX8_byWords 138 = .ok (.bipush 9, 2) := by decide +kernel
theorem dX8_byWords_140 : decode cX8_byWords 140 = .ok (.if_icmp .ne 8, 3) := by decide +kernel
theorem dX8_byWords_143 : decode cX8_byWords 143 = .ok (.iconst 1, 1) := by decide +kernel
theorem dX8_byWords_144 : decode cX8_byWords 144 = .ok (.istore_n 3, 1) := by decide +kernel
theorem dX8_byWords_145 : decode cX8_byWords 145 = .ok (.goto 16, 3) := by decide +kernel
theorem dX8_byWords_148 : decode cX8_byWords 148 = .ok (.aload_n 0, 1) := by decide +kernel
theorem dX8_byWords_149 : decode cX8_byWords 149 = .ok (.getfield 100, 3) := by decide +kernel
theorem dX8_byWords_152 : decode cX8_byWords 152 = .ok (.ifCond .ge 9, 3) := by decide +kernel
theorem dX8_byWords_155 : decode cX8_byWords 155 = .ok (.aload_n 0, 1) := by decide +kernel
theorem dX8_byWords_156 : decode cX8_byWords 156 = .ok (.iload 4, 2) := by decide +kernel
theorem dX8_byWords_158 : decode cX8_byWords 158 = .ok (.putfield 100, 3) := by decide +kernel
theorem dX8_byWords_161 : decode cX8_byWords 161 = .ok (.iinc 4 1, 3) := by decide +kernel
theorem dX8_byWords_164 : decode cX8_byWords 164 = .ok (.goto (-95), 3) := by decide +kernel
theorem dX8_byWords_167 : decode cX8_byWords 167 = .ok (.aload_n 0, 1) := by decide +kernel
theorem dX8_byWords_168 : decode cX8_byWords 168 = .ok (.getfield 100, 3) := by decide +kernel
theorem dX8_byWords_171 : decode cX8_byWords 171 = .ok (.ifCond .lt 16, 3) := by decide +kernel
theorem dX8_byWords_174 : decode cX8_byWords 174 = .ok (.aload_n 0, 1) := by decide +kernel
theorem dX8_byWords_175 : decode cX8_byWords 175 = .ok (.getfield 19, 3) := by decide +kernel
theorem dX8_byWords_178 : decode cX8_byWords 178 = .ok (.aload_n 0, 1) := by decide +kernel
theorem dX8_byWords_179 : decode cX8_byWords 179 = .ok (.getfield 7, 3) := by decide +kernel
theorem dX8_byWords_182 : decode cX8_byWords 182 = .ok (.invokestatic 246, 3) := by decide +kernel
theorem dX8_byWords_185 : decode cX8_byWords 185 = .ok (.iconst 2, 1) := by decide +kernel
theorem dX8_byWords_186 : decode cX8_byWords 186 = .ok (.ireturn, 1) := by decide +kernel
theorem dX8_byWords_187 : decode cX8_byWords 187 = .ok (.iload_n 3, 1) := by decide +kernel
theorem dX8_byWords_188 : decode cX8_byWords 188 = .ok (.ifCond .eq 5, 3) := by decide +kernel
theorem dX8_byWords_191 : decode cX8_byWords 191 = .ok (.iconst 1, 1) := by decide +kernel
theorem dX8_byWords_192 : decode cX8_byWords 192 = .ok (.ireturn, 1) := by decide +kernel
theorem dX8_byWords_193 : decode cX8_byWords 193 = .ok (.iinc 2 1, 3) := by decide +kernel
theorem dX8_byWords_196 : decode cX8_byWords 196 = .ok (.goto (-163), 3) := by decide +kernel
theorem dX8_byWords_199 : decode cX8_byWords 199 = .ok (.iconst 0, 1) := by decide +kernel
theorem dX8_byWords_200 : decode cX8_byWords 200 = .ok (.ireturn, 1) := by decide +kernel
set_option maxRecDepth 20000 in
theorem ggX8_run_X8_isInstruction : GoodIn wsX8_run wsX8_isInstruction := goodIn_r _ [4] (by decide +kernel) (by decide +kernel)
set_option maxRecDepth 20000 in
theorem gX8_run_X8_isInstruction : GoodIn wsX8_run (va_wsS RX8 157 yX8_isInstruction wsX8_isInstruction) := goodIn_app (goodIn_of _ (by decide +kernel)) ggX8_run_X8_isInstruction
set_option maxRecDepth 20000 in
theorem ggX8_run_X8_no : GoodIn wsX8_run wsX8_no := goodIn_r _ [8, 9, 90, 91, 92, 93, 94, 95, 96, 97, 98, 99, 100, 101, 102, 103, 104, 105, 106, 107, 108, 109, 110, 111, 112, 113, 114, 115, 116, 117, 118, 119, 120, 121, 122, 123, 124, 125, 126, 127, 128, 129, 130, 131, 132, 133] (by decide +kernel) (by decide +kernel)
set_option maxRecDepth 20000 in
theorem gX8_run_X8_no : GoodIn wsX8_run (wsV RX8 122 RX8 yX8_no wsX8_no) := goodIn_app (goodIn_of _ (by decide +kernel)) ggX8_run_X8_no
set_option maxRecDepth 20000 in
theorem ggX8_run_X8_byWords : GoodIn wsX8_run wsX8_byWords := goodIn_r _ [13, 14, 15, 16, 17, 18, 19, 20, 21, 22, 23, 24, 25, 26, 3, 27, 28, 29, 30, 31, 32, 33, 34, 35, 36, 37, 38, 39, 40, 41, 42, 43, 44, 45, 46, 47, 48, 49, 50, 51, 52, 53, 54, 55, 56, 57, 58, 59, 60, 61, 62, 63, 64, 65, 66, 67, 68, 69, 70, 71, 72, 73, 74, 75, 76, 77, 78, 79, 80, 81, 82, 83, 84, 85, 90, 91, 92, 93, 94, 95, 96, 97, 98, 99, 100, 101, 102, 103, 104, 105, 106, 107, 108, 109, 110, 111, 112, 113, 114, 115, 116, 117, 118, 119, 120, 121, 122, 123, 124, 125, 126, 127, 128, 129, 130, 131, 132, 133] (by decide +kernel) (by decide +kernel)
set_option maxRecDepth 20000 in
theorem gX8_run_X8_byWords : GoodIn wsX8_run (wsV RX8 262 RX8 yX8_byWords wsX8_byWords) := goodIn_app (goodIn_of _ (by decide +kernel)) ggX8_run_X8_byWords
set_option maxRecDepth 20000 in
theorem ggX8_run_X8_plainly : GoodIn wsX8_run wsX8_plainly := goodIn_r _ [89, 14, 15, 16, 17, 18, 21, 20, 23, 61, 62, 3, 63, 64, 65, 66, 67, 48, 49, 68, 69, 70, 71, 72, 73, 74, 75, 76, 40, 77, 78, 79, 80, 81, 82, 83, 84, 85, 90, 91, 92, 93, 94, 95, 96, 97, 98, 99, 100, 101, 102, 103, 104, 105, 106, 107, 108, 109, 110, 111, 112, 113, 114, 115, 116, 117, 118, 119, 120, 121, 122, 123, 124, 125, 126, 127, 128, 129, 130, 131, 132, 133] (by decide +kernel) (by decide +kernel)
set_option maxRecDepth 20000 in
theorem gX8_run_X8_plainly : GoodIn wsX8_run (wsV RX8 265 RX8 yX8_plainly wsX8_plainly) := goodIn_app (goodIn_of _ (by decide +kernel)) ggX8_run_X8_plainly
theorem dX8_run_0 : decode cX8_run 0 = .ok (.iload_n 1, 1) := by decide +kernel
theorem dX8_run_1 : decode cX8_run 1 = .ok (.invokestatic 157, 3) := by decide +kernel
theorem dX8_run_4 : decode cX8_run 4 = .ok (.ifCond .ne 10, 3) := by decide +kernel
theorem dX8_run_7 : decode cX8_run 7 = .ok (.aload_n 0, 1) := by decide +kernel
theorem dX8_run_8 : decode cX8_run 8 = .ok (.bipush (-3), 2) := by decide +kernel
theorem dX8_run_10 : decode cX8_run 10 = .ok (.invokevirtual 122, 3) := by decide +kernel
theorem dX8_run_13 : decode cX8_run 13 = .ok (.ireturn, 1) := by decide +kernel
theorem dX8_run_14 : decode cX8_run 14 = .ok (.iload_n 2, 1) := by decide +kernel
theorem dX8_run_15 : decode cX8_run 15 = .ok (.ifCond .eq 11, 3) := by decide +kernel
theorem dX8_run_18 : decode cX8_run 18 = .ok (.aload_n 0, 1) := by decide +kernel
theorem dX8_run_19 : decode cX8_run 19 = .ok (.iload_n 1, 1) := by decide +kernel
theorem dX8_run_20 : decode cX8_run 20 = .ok (.invokevirtual 262, 3) := by decide +kernel
theorem dX8_run_23 : decode cX8_run 23 = .ok (.goto 8, 3) := by decide +kernel
theorem dX8_run_26 : decode cX8_run 26 = .ok (.aload_n 0, 1) := by decide +kernel
theorem dX8_run_27 : decode cX8_run 27 = .ok (.iload_n 1, 1) := by decide +kernel
theorem dX8_run_28 : decode cX8_run 28 = .ok (.invokevirtual 265, 3) := by decide +kernel
theorem dX8_run_31 : decode cX8_run 31 = .ok (.ireturn, 1) := by decide +kernel
set_option maxRecDepth 20000 in
theorem ggX8_told_X8_isIn : GoodIn wsX8_told wsX8_isIn := goodIn_r _ [8] (by decide +kernel) (by decide +kernel)
set_option maxRecDepth 20000 in
theorem gX8_told_X8_isIn : GoodIn wsX8_told (va_wsS RX8 128 yX8_isIn wsX8_isIn) := goodIn_app (goodIn_of _ (by decide +kernel)) ggX8_told_X8_isIn
set_option maxRecDepth 20000 in
theorem ggX8_told_X8_no : GoodIn wsX8_told wsX8_no := goodIn_r _ [12, 13, 14, 15, 16, 17, 18, 19, 20, 21, 22, 23, 24, 25, 26, 27, 28, 29, 30, 31, 32, 33, 34, 35, 36, 37, 38, 39, 40, 41, 42, 43, 44, 45, 46, 47, 48, 49, 50, 51, 52, 53, 54, 55, 56, 57] (by decide +kernel) (by decide +kernel)
set_option maxRecDepth 20000 in
theorem gX8_told_X8_no : GoodIn wsX8_told (wsV RX8 122 RX8 yX8_no wsX8_no) := goodIn_app (goodIn_of _ (by decide +kernel)) ggX8_told_X8_no
theorem dX8_told_0 : decode cX8_told 0 = .ok (.iload_n 1, 1) := by decide +kernel
theorem dX8_told_1 : decode cX8_told 1 = .ok (.i2l, 1) := by decide +kernel
theorem dX8_told_2 : decode cX8_told 2 = .ok (.lconst 0, 1) := by decide +kernel
theorem dX8_told_3 : decode cX8_told 3 = .ok (.ldc2_w 141, 3) := by decide +kernel
theorem dX8_told_6 : decode cX8_told 6 = .ok (.invokestatic 128, 3) := by decide +kernel
theorem dX8_told_9 : decode cX8_told 9 = .ok (.ifCond .ne 10, 3) := by decide +kernel
theorem dX8_told_12 : decode cX8_told 12 = .ok (.aload_n 0, 1) := by decide +kernel
theorem dX8_told_13 : decode cX8_told 13 = .ok (.bipush (-6), 2) := by decide +kernel
theorem dX8_told_15 : decode cX8_told 15 = .ok (.invokevirtual 122, 3) := by decide +kernel
theorem dX8_told_18 : decode cX8_told 18 = .ok (.ireturn, 1) := by decide +kernel
theorem dX8_told_19 : decode cX8_told 19 = .ok (.iload_n 1, 1) := by decide +kernel
theorem dX8_told_20 : decode cX8_told 20 = .ok (.ifCond .ne 10, 3) := by decide +kernel
theorem dX8_told_23 : decode cX8_told 23 = .ok (.aload_n 0, 1) := by decide +kernel
theorem dX8_told_24 : decode cX8_told 24 = .ok (.getfield 250, 3) := by decide +kernel
theorem dX8_told_27 : decode cX8_told 27 = .ok (.goto 19, 3) := by decide +kernel
theorem dX8_told_30 : decode cX8_told 30 = .ok (.iload_n 1, 1) := by decide +kernel
theorem dX8_told_31 : decode cX8_told 31 = .ok (.iconst 1, 1) := by decide +kernel
theorem dX8_told_32 : decode cX8_told 32 = .ok (.if_icmp .ne 10, 3) := by decide +kernel
theorem dX8_told_35 : decode cX8_told 35 = .ok (.aload_n 0, 1) := by decide +kernel
theorem dX8_told_36 : decode cX8_told 36 = .ok (.getfield 253, 3) := by decide +kernel
theorem dX8_told_39 : decode cX8_told 39 = .ok (.goto 7, 3) := by decide +kernel
theorem dX8_told_42 : decode cX8_told 42 = .ok (.aload_n 0, 1) := by decide +kernel
theorem dX8_told_43 : decode cX8_told 43 = .ok (.getfield 100, 3) := by decide +kernel
theorem dX8_told_46 : decode cX8_told 46 = .ok (.ireturn, 1) := by decide +kernel
set_option maxRecDepth 20000 in
theorem ggX8_beside_X8_isInstruction : GoodIn wsX8_beside wsX8_isInstruction := goodIn_r _ [10] (by decide +kernel) (by decide +kernel)
set_option maxRecDepth 20000 in
theorem gX8_beside_X8_isInstruction : GoodIn wsX8_beside (va_wsS RX8 157 yX8_isInstruction wsX8_isInstruction) := goodIn_app (goodIn_of _ (by decide +kernel)) ggX8_beside_X8_isInstruction
set_option maxRecDepth 20000 in
theorem ggX8_beside_X8_no : GoodIn wsX8_beside wsX8_no := goodIn_r _ [14, 15, 92, 93, 94, 95, 96, 97, 98, 99, 100, 101, 102, 103, 104, 105, 106, 107, 108, 109, 110, 111, 112, 113, 114, 115, 116, 117, 118, 119, 120, 121, 122, 123, 124, 125, 126, 127, 128, 129, 130, 131, 132, 133, 134, 135] (by decide +kernel) (by decide +kernel)
set_option maxRecDepth 20000 in
theorem gX8_beside_X8_no : GoodIn wsX8_beside (wsV RX8 122 RX8 yX8_no wsX8_no) := goodIn_app (goodIn_of _ (by decide +kernel)) ggX8_beside_X8_no
set_option maxRecDepth 20000 in
theorem ggX8_beside_X8_copies : GoodIn wsX8_beside wsX8_copies := goodIn_r _ [18] (by decide +kernel) (by decide +kernel)
set_option maxRecDepth 20000 in
theorem gX8_beside_X8_copies : GoodIn wsX8_beside (va_wsS RX8 246 yX8_copies wsX8_copies) := goodIn_app (goodIn_of _ (by decide +kernel)) ggX8_beside_X8_copies
set_option maxRecDepth 20000 in
theorem ggX8_beside_X8_plainly : GoodIn wsX8_beside wsX8_plainly := goodIn_r _ [22, 4, 23, 1, 2, 3, 24, 25, 26, 16, 17, 9, 18, 27, 28, 29, 30, 31, 32, 33, 34, 35, 36, 37, 38, 39, 40, 41, 42, 43, 44, 45, 46, 47, 48, 49, 50, 51, 92, 93, 94, 95, 96, 97, 98, 99, 100, 101, 102, 103, 104, 105, 106, 107, 108, 109, 110, 111, 112, 113, 114, 115, 116, 117, 118, 119, 120, 121, 122, 123, 124, 125, 126, 127, 128, 129, 130, 131, 132, 133, 134, 135] (by decide +kernel) (by decide +kernel)
set_option maxRecDepth 20000 in
theorem gX8_beside_X8_plainly : GoodIn wsX8_beside (wsV RX8 265 RX8 yX8_plainly wsX8_plainly) := goodIn_app (goodIn_of _ (by decide +kernel)) ggX8_beside_X8_plainly
set_option maxRecDepth 20000 in
theorem ggX8_beside_X8_byWords : GoodIn wsX8_beside wsX8_byWords := goodIn_r _ [55, 4, 23, 1, 2, 3, 56, 25, 24, 57, 26, 58, 59, 60, 9, 61, 62, 63, 64, 65, 66, 67, 68, 69, 70, 71, 72, 73, 42, 74, 75, 76, 77, 78, 79, 80, 31, 32, 81, 82, 83, 84, 85, 86, 87, 88, 89, 90, 91, 16, 17, 18, 27, 28, 29, 30, 33, 34, 35, 36, 37, 38, 39, 40, 41, 43, 44, 45, 46, 47, 48, 49, 50, 51, 92, 93, 94, 95, 96, 97, 98, 99, 100, 101, 102, 103, 104, 105, 106, 107, 108, 109, 110, 111, 112, 113, 114, 115, 116, 117, 118, 119, 120, 121, 122, 123, 124, 125, 126, 127, 128, 129, 130, 131, 132, 133, 134, 135] (by decide +kernel) (by decide +kernel)
set_option maxRecDepth 20000 in
theorem gX8_beside_X8_byWords : GoodIn wsX8_beside (wsV RX8 262 RX8 yX8_byWords wsX8_byWords) := goodIn_app (goodIn_of _ (by decide +kernel)) ggX8_beside_X8_byWords
theorem dX8_beside_0 : decode cX8_beside 0 = .ok (.iload_n 1, 1) := by decide +kernel
theorem dX8_beside_1 : decode cX8_beside 1 = .ok (.invokestatic 157, 3) := by decide +kernel
theorem dX8_beside_4 : decode cX8_beside 4 = .ok (.ifCond .ne 10, 3) := by decide +kernel
theorem dX8_beside_7 : decode cX8_beside 7 = .ok (.aload_n 0, 1) := by decide +kernel
theorem dX8_beside_8 : decode cX8_beside 8 = .ok (.bipush (-3), 2) := by decide +kernel
theorem dX8_beside_10 : decode cX8_beside 10 = .ok (.invokevirtual 122, 3) := by decide +kernel
theorem dX8_beside_13 : decode cX8_beside 13 = .ok (.ireturn, 1) := by decide +kernel
theorem dX8_beside_14 : decode cX8_beside 14 = .ok (.aload_n 0, 1) := by decide +kernel
theorem dX8_beside_15 : decode cX8_beside 15 = .ok (.getfield 250, 3) := by decide +kernel
theorem dX8_beside_18 : decode cX8_beside 18 = .ok (.istore_n 2, 1) := by decide +kernel
theorem dX8_beside_19 : decode cX8_beside 19 = .ok (.aload_n 0, 1) := by decide +kernel
theorem dX8_beside_20 : decode cX8_beside 20 = .ok (.getfield 253, 3) := by decide +kernel
theorem dX8_beside_23 : decode cX8_beside 23 = .ok (.istore_n 3, 1) := by decide +kernel
theorem dX8_beside_24 : decode cX8_beside 24 = .ok (.aload_n 0, 1) := by decide +kernel
theorem dX8_beside_25 : decode cX8_beside 25 = .ok (.getfield 100, 3) := by decide +kernel
theorem dX8_beside_28 : decode cX8_beside 28 = .ok (.istore 4, 2) := by decide +kernel
theorem dX8_beside_30 : decode cX8_beside 30 = .ok (.aload_n 0, 1) := by decide +kernel
theorem dX8_beside_31 : decode cX8_beside 31 = .ok (.getfield 7, 3) := by decide +kernel
theorem dX8_beside_34 : decode cX8_beside 34 = .ok (.aload_n 0, 1) := by decide +kernel
theorem dX8_beside_35 : decode cX8_beside 35 = .ok (.getfield 103, 3) := by decide +kernel
theorem dX8_beside_38 : decode cX8_beside 38 = .ok (.invokestatic 246, 3) := by decide +kernel
theorem dX8_beside_41 : decode cX8_beside 41 = .ok (.aload_n 0, 1) := by decide +kernel
theorem dX8_beside_42 : decode cX8_beside 42 = .ok (.iload_n 1, 1) := by decide +kernel
theorem dX8_beside_43 : decode cX8_beside 43 = .ok (.invokevirtual 265, 3) := by decide +kernel
theorem dX8_beside_46 : decode cX8_beside 46 = .ok (.istore 5, 2) := by decide +kernel
theorem dX8_beside_48 : decode cX8_beside 48 = .ok (.aload_n 0, 1) := by decide +kernel
theorem dX8_beside_49 : decode cX8_beside 49 = .ok (.getfield 7, 3) := by decide +kernel
theorem dX8_beside_52 : decode cX8_beside 52 = .ok (.aload_n 0, 1) := by decide +kernel
theorem dX8_beside_53 : decode cX8_beside 53 = .ok (.getfield 22, 3) := by decide +kernel
theorem dX8_beside_56 : decode cX8_beside 56 = .ok (.invokestatic 246, 3) := by decide +kernel
theorem dX8_beside_59 : decode cX8_beside 59 = .ok (.aload_n 0, 1) := by decide +kernel
theorem dX8_beside_60 : decode cX8_beside 60 = .ok (.getfield 103, 3) := by decide +kernel
theorem dX8_beside_63 : decode cX8_beside 63 = .ok (.aload_n 0, 1) := by decide +kernel
theorem dX8_beside_64 : decode cX8_beside 64 = .ok (.getfield 7, 3) := by decide +kernel
theorem dX8_beside_67 : decode cX8_beside 67 = .ok (.invokestatic 246, 3) := by decide +kernel
theorem dX8_beside_70 : decode cX8_beside 70 = .ok (.aload_n 0, 1) := by decide +kernel
theorem dX8_beside_71 : decode cX8_beside 71 = .ok (.iload_n 1, 1) := by decide +kernel
theorem dX8_beside_72 : decode cX8_beside 72 = .ok (.invokevirtual 262, 3) := by decide +kernel
theorem dX8_beside_75 : decode cX8_beside 75 = .ok (.iload 5, 2) := by decide +kernel
theorem dX8_beside_77 : decode cX8_beside 77 = .ok (.if_icmp .ne 7, 3) := by decide +kernel
theorem dX8_beside_80 : decode cX8_beside 80 = .ok (.iconst 1, 1) := by decide +kernel
theorem dX8_beside_81 : decode cX8_beside 81 = .ok (.goto 4, 3) := by decide +kernel
theorem dX8_beside_84 : decode cX8_beside 84 = .ok (.iconst 0, 1) := by decide +kernel
theorem dX8_beside_85 : decode cX8_beside 85 = .ok (.istore 6, 2) := by decide +kernel
theorem dX8_beside_87 : decode cX8_beside 87 = .ok (.iconst 0, 1) := by decide +kernel
theorem dX8_beside_88 : decode cX8_beside 88 = .ok (.istore 7, 2) := by decide +kernel
theorem dX8_beside_90 : decode cX8_beside 90 = .ok (.iload 7, 2) := by decide +kernel
theorem dX8_beside_92 : decode cX8_beside 92 = .ok (.bipush 74, 2) := by decide +kernel
theorem dX8_beside_94 : decode cX8_beside 94 = .ok (.if_icmp .ge 39, 3) := by decide +kernel
theorem dX8_beside_97 : decode cX8_beside 97 = .ok (.iload 6, 2) := by decide +kernel
theorem dX8_beside_99 : decode cX8_beside 99 = .ok (.ifCond .eq 25, 3) := by decide +kernel
theorem dX8_beside_102 : decode cX8_beside 102 = .ok (.aload_n 0, 1) := by decide +kernel
theorem dX8_beside_103 : decode cX8_beside 103 = .ok (.getfield 7, 3) := by decide +kernel
theorem dX8_beside_106 : decode cX8_beside 106 = .ok (.iload 7, 2) := by decide +kernel
theorem dX8_beside_108 : decode cX8_beside 108 = .ok (.laload, 1) := by decide +kernel
theorem dX8_beside_109 : decode cX8_beside 109 = .ok (.aload_n 0, 1) := by decide +kernel
theorem dX8_beside_110 : decode cX8_beside 110 = .ok (.getfield 22, 3) := by decide +kernel
theorem dX8_beside_113 : decode cX8_beside 113 = .ok (.iload 7, 2) := by decide +kernel
theorem dX8_beside_115 : decode cX8_beside 115 = .ok (.laload, 1) := by decide +kernel
theorem dX8_beside_116 : decode cX8_beside 116 = .ok (.lcmp, 1) := by decide +kernel
theorem dX8_beside_117 : decode cX8_beside 117 = .ok (.ifCond .ne 7, 3) := by decide +kernel
theorem dX8_beside_120 : decode cX8_beside 120 = .ok (.iconst 1, 1) := by decide +kernel
theorem dX8_beside_121 : decode cX8_beside 121 = .ok (.goto 4, 3) := by decide +kernel
theorem dX8_beside_124 : decode cX8_beside 124 = .ok (.iconst 0, 1) := by decide +kernel
theorem dX8_beside_125 : decode cX8_beside 125 = .ok (.istore 6, 2) := by decide +kernel
theorem dX8_beside_127 : decode cX8_beside 127 = .ok (.iinc 7 1, 3) := by decide +kernel
theorem dX8_beside_130 : decode cX8_beside 130 = .ok (.goto (-40), 3) := by decide +kernel
theorem dX8_beside_133 : decode cX8_beside 133 = .ok (.aload_n 0, 1) := by decide +kernel
theorem dX8_beside_134 : decode cX8_beside 134 = .ok (.getfield 103, 3) := by decide +kernel
theorem dX8_beside_137 : decode cX8_beside 137 = .ok (.aload_n 0, 1) := by decide +kernel
theorem dX8_beside_138 : decode cX8_beside 138 = .ok (.getfield 7, 3) := by decide +kernel
theorem dX8_beside_141 : decode cX8_beside 141 = .ok (.invokestatic 246, 3) := by decide +kernel
theorem dX8_beside_144 : decode cX8_beside 144 = .ok (.aload_n 0, 1) := by decide +kernel
theorem dX8_beside_145 : decode cX8_beside 145 = .ok (.iload_n 2, 1) := by decide +kernel
theorem dX8_beside_146 : decode cX8_beside 146 = .ok (.putfield 250, 3) := by decide +kernel
theorem dX8_beside_149 : decode cX8_beside 149 = .ok (.aload_n 0, 1) := by decide +kernel
theorem dX8_beside_150 : decode cX8_beside 150 = .ok (.iload_n 3, 1) := by decide +kernel
theorem dX8_beside_151 : decode cX8_beside 151 = .ok (.putfield 253, 3) := by decide +kernel
theorem dX8_beside_154 : decode cX8_beside 154 = .ok (.aload_n 0, 1) := by decide +kernel
theorem dX8_beside_155 : decode cX8_beside 155 = .ok (.iload 4, 2) := by decide +kernel
theorem dX8_beside_157 : decode cX8_beside 157 = .ok (.putfield 100, 3) := by decide +kernel
theorem dX8_beside_160 : decode cX8_beside 160 = .ok (.iload 6, 2) := by decide +kernel
theorem dX8_beside_162 : decode cX8_beside 162 = .ok (.ifCond .eq 7, 3) := by decide +kernel
theorem dX8_beside_165 : decode cX8_beside 165 = .ok (.iconst 0, 1) := by decide +kernel
theorem dX8_beside_166 : decode cX8_beside 166 = .ok (.goto 4, 3) := by decide +kernel
theorem dX8_beside_169 : decode cX8_beside 169 = .ok (.iconst 1, 1) := by decide +kernel
theorem dX8_beside_170 : decode cX8_beside 170 = .ok (.ireturn, 1) := by decide +kernel
set_option maxRecDepth 20000 in
theorem ggX8_code_X8_isIn : GoodIn wsX8_code wsX8_isIn := goodIn_r _ [6] (by decide +kernel) (by decide +kernel)
set_option maxRecDepth 20000 in
theorem gX8_code_X8_isIn : GoodIn wsX8_code (va_wsS RX8 128 yX8_isIn wsX8_isIn) := goodIn_app (goodIn_of _ (by decide +kernel)) ggX8_code_X8_isIn
set_option maxRecDepth 20000 in
theorem ggX8_code_X8_isInstruction : GoodIn wsX8_code wsX8_isInstruction := goodIn_r _ [9] (by decide +kernel) (by decide +kernel)
set_option maxRecDepth 20000 in
theorem gX8_code_X8_isInstruction : GoodIn wsX8_code (va_wsS RX8 157 yX8_isInstruction wsX8_isInstruction) := goodIn_app (goodIn_of _ (by decide +kernel)) ggX8_code_X8_isInstruction
set_option maxRecDepth 20000 in
theorem ggX8_code_X8_no : GoodIn wsX8_code wsX8_no := goodIn_r _ [13, 14, 15, 16, 17, 18, 19, 20, 21, 22, 23, 24, 25, 26, 27, 28, 29, 30, 31, 32, 33, 34, 35, 36, 37, 38, 39, 40, 41, 42, 43, 44, 45, 46, 47, 48, 49, 50, 51, 52, 53, 54, 55, 56, 57, 58] (by decide +kernel) (by decide +kernel)
set_option maxRecDepth 20000 in
theorem gX8_code_X8_no : GoodIn wsX8_code (wsV RX8 122 RX8 yX8_no wsX8_no) := goodIn_app (goodIn_of _ (by decide +kernel)) ggX8_code_X8_no
theorem dX8_code_0 : decode cX8_code 0 = .ok (.iload_n 1, 1) := by decide +kernel
theorem dX8_code_1 : decode cX8_code 1 = .ok (.i2l, 1) := by decide +kernel
theorem dX8_code_2 : decode cX8_code 2 = .ok (.lconst 0, 1) := by decide +kernel
theorem dX8_code_3 : decode cX8_code 3 = .ok (.ldc2_w 268, 3) := by decide +kernel
theorem dX8_code_6 : decode cX8_code 6 = .ok (.invokestatic 128, 3) := by decide +kernel
theorem dX8_code_9 : decode cX8_code 9 = .ok (.ifCond .eq 15, 3) := by decide +kernel
theorem dX8_code_12 : decode cX8_code 12 = .ok (.iload_n 2, 1) := by decide +kernel
theorem dX8_code_13 : decode cX8_code 13 = .ok (.iconst (-1), 1) := by decide +kernel
theorem dX8_code_14 : decode cX8_code 14 = .ok (.if_icmp .eq 17, 3) := by decide +kernel
theorem dX8_code_17 : decode cX8_code 17 = .ok (.iload_n 2, 1) := by decide +kernel
theorem dX8_code_18 : decode cX8_code 18 = .ok (.invokestatic 157, 3) := by decide +kernel
theorem dX8_code_21 : decode cX8_code 21 = .ok (.ifCond .ne 10, 3) := by decide +kernel
theorem dX8_code_24 : decode cX8_code 24 = .ok (.aload_n 0, 1) := by decide +kernel
theorem dX8_code_25 : decode cX8_code 25 = .ok (.bipush (-3), 2) := by decide +kernel
theorem dX8_code_27 : decode cX8_code 27 = .ok (.invokevirtual 122, 3) := by decide +kernel
theorem dX8_code_30 : decode cX8_code 30 = .ok (.ireturn, 1) := by decide +kernel
theorem dX8_code_31 : decode cX8_code 31 = .ok (.aload_n 0, 1) := by decide +kernel
theorem dX8_code_32 : decode cX8_code 32 = .ok (.getfield 106, 3) := by decide +kernel
theorem dX8_code_35 : decode cX8_code 35 = .ok (.iload_n 1, 1) := by decide +kernel
theorem dX8_code_36 : decode cX8_code 36 = .ok (.iaload, 1) := by decide +kernel
theorem dX8_code_37 : decode cX8_code 37 = .ok (.istore_n 3, 1) := by decide +kernel
theorem dX8_code_38 : decode cX8_code 38 = .ok (.aload_n 0, 1) := by decide +kernel
theorem dX8_code_39 : decode cX8_code 39 = .ok (.getfield 106, 3) := by decide +kernel
theorem dX8_code_42 : decode cX8_code 42 = .ok (.iload_n 1, 1) := by decide +kernel
theorem dX8_code_43 : decode cX8_code 43 = .ok (.iload_n 2, 1) := by decide +kernel
theorem dX8_code_44 : decode cX8_code 44 = .ok (.iastore, 1) := by decide +kernel
theorem dX8_code_45 : decode cX8_code 45 = .ok (.iload_n 3, 1) := by decide +kernel
theorem dX8_code_46 : decode cX8_code 46 = .ok (.ireturn, 1) := by decide +kernel
set_option maxRecDepth 20000 in
theorem ggX8_step_X8_no : GoodIn wsX8_step wsX8_no := goodIn_r _ [13, 14, 92, 93, 94, 95, 96, 97, 98, 99, 100, 101, 102, 103, 104, 105, 106, 107, 108, 109, 110, 111, 112, 113, 114, 115, 116, 117, 118, 119, 120, 121, 122, 123, 124, 125, 126, 127, 128, 129, 130, 131, 132, 133, 134, 135] (by decide +kernel) (by decide +kernel)
set_option maxRecDepth 20000 in
theorem gX8_step_X8_no : GoodIn wsX8_step (wsV RX8 122 RX8 yX8_no wsX8_no) := goodIn_app (goodIn_of _ (by decide +kernel)) ggX8_step_X8_no
set_option maxRecDepth 20000 in
theorem ggX8_step_X8_isIn : GoodIn wsX8_step wsX8_isIn := goodIn_r _ [17] (by decide +kernel) (by decide +kernel)
set_option maxRecDepth 20000 in
theorem gX8_step_X8_isIn : GoodIn wsX8_step (va_wsS RX8 128 yX8_isIn wsX8_isIn) := goodIn_app (goodIn_of _ (by decide +kernel)) ggX8_step_X8_isIn
set_option maxRecDepth 20000 in
theorem ggX8_step_X8_cut : GoodIn wsX8_step wsX8_cut := goodIn_r _ [21, 22, 92, 93, 94, 95, 96, 97, 98, 99, 100, 101, 102, 103, 104, 105, 106, 107, 108, 109, 110, 111, 112, 113, 114, 115, 116, 117, 118, 119, 120, 121, 122, 123, 124, 125, 126, 127, 128, 129, 130, 131, 132, 133, 134, 135] (by decide +kernel) (by decide +kernel)
set_option maxRecDepth 20000 in
theorem gX8_step_X8_cut : GoodIn wsX8_step (wsV RX8 132 RX8 yX8_cut wsX8_cut) := goodIn_app (goodIn_of _ (by decide +kernel)) ggX8_step_X8_cut
set_option maxRecDepth 20000 in
theorem ggX8_step_X8_byWords : GoodIn wsX8_step wsX8_byWords := goodIn_r _ [26, 3, 27, 28, 29, 30, 31, 32, 33, 34, 35, 36, 37, 38, 12, 39, 40, 41, 42, 43, 44, 45, 46, 47, 48, 49, 50, 51, 52, 53, 54, 55, 56, 57, 58, 59, 60, 61, 62, 63, 64, 65, 66, 67, 68, 69, 70, 71, 72, 73, 74, 75, 76, 77, 78, 79, 4, 80, 81, 82, 83, 84, 85, 86, 87, 18, 19, 20, 21, 22, 88, 89, 90, 91, 92, 93, 94, 95, 96, 97, 98, 99, 100, 101, 102, 103, 104, 105, 106, 107, 108, 109, 110, 111, 112, 113, 114, 115, 116, 117, 118, 119, 120, 121, 122, 123, 124, 125, 126, 127, 128, 129, 130, 131, 132, 133, 134, 135] (by decide +kernel) (by decide +kernel)
set_option maxRecDepth 20000 in
theorem gX8_step_X8_byWords : GoodIn wsX8_step (wsV RX8 262 RX8 yX8_byWords wsX8_byWords) := goodIn_app (goodIn_of _ (by decide +kernel)) ggX8_step_X8_byWords
theorem dX8_step_0 : decode cX8_step 0 = .ok (.iload_n 1, 1) := by decide +kernel
theorem dX8_step_1 : decode cX8_step 1 = .ok (.ifCond .ge 10, 3) := by decide +kernel
theorem dX8_step_4 : decode cX8_step 4 = .ok (.aload_n 0, 1) := by decide +kernel
theorem dX8_step_5 : decode cX8_step 5 = .ok (.bipush (-4), 2) := by decide +kernel
theorem dX8_step_7 : decode cX8_step 7 = .ok (.invokevirtual 122, 3) := by decide +kernel
theorem dX8_step_10 : decode cX8_step 10 = .ok (.ireturn, 1) := by decide +kernel
theorem dX8_step_11 : decode cX8_step 11 = .ok (.iload_n 1, 1) := by decide +kernel
theorem dX8_step_12 : decode cX8_step 12 = .ok (.i2l, 1) := by decide +kernel
theorem dX8_step_13 : decode cX8_step 13 = .ok (.lconst 1, 1) := by decide +kernel
theorem dX8_step_14 : decode cX8_step 14 = .ok (.ldc2_w 270, 3) := by decide +kernel
theorem dX8_step_17 : decode cX8_step 17 = .ok (.invokestatic 128, 3) := by decide +kernel
theorem dX8_step_20 : decode cX8_step 20 = .ok (.ifCond .ne 10, 3) := by decide +kernel
theorem dX8_step_23 : decode cX8_step 23 = .ok (.aload_n 0, 1) := by decide +kernel
theorem dX8_step_24 : decode cX8_step 24 = .ok (.bipush (-6), 2) := by decide +kernel
theorem dX8_step_26 : decode cX8_step 26 = .ok (.invokevirtual 122, 3) := by decide +kernel
theorem dX8_step_29 : decode cX8_step 29 = .ok (.ireturn, 1) := by decide +kernel
theorem dX8_step_30 : decode cX8_step 30 = .ok (.aload_n 0, 1) := by decide +kernel
theorem dX8_step_31 : decode cX8_step 31 = .ok (.iconst 0, 1) := by decide +kernel
theorem dX8_step_32 : decode cX8_step 32 = .ok (.putfield 272, 3) := by decide +kernel
theorem dX8_step_35 : decode cX8_step 35 = .ok (.iconst 0, 1) := by decide +kernel
theorem dX8_step_36 : decode cX8_step 36 = .ok (.istore_n 2, 1) := by decide +kernel
theorem dX8_step_37 : decode cX8_step 37 = .ok (.iload_n 2, 1) := by decide +kernel
theorem dX8_step_38 : decode cX8_step 38 = .ok (.iload_n 1, 1) := by decide +kernel
theorem dX8_step_39 : decode cX8_step 39 = .ok (.if_icmp .ge 129, 3) := by decide +kernel
theorem dX8_step_42 : decode cX8_step 42 = .ok (.aload_n 0, 1) := by decide +kernel
theorem dX8_step_43 : decode cX8_step 43 = .ok (.getfield 272, 3) := by decide +kernel
theorem dX8_step_46 : decode cX8_step 46 = .ok (.ifCond .ne 122, 3) := by decide +kernel
theorem dX8_step_49 : decode cX8_step 49 = .ok (.aload_n 0, 1) := by decide +kernel
theorem dX8_step_50 : decode cX8_step 50 = .ok (.getfield 7, 3) := by decide +kernel
theorem dX8_step_53 : decode cX8_step 53 = .ok (.bipush 7, 2) := by decide +kernel
theorem dX8_step_55 : decode cX8_step 55 = .ok (.laload, 1) := by decide +kernel
theorem dX8_step_56 : decode cX8_step 56 = .ok (.lstore_n 3, 1) := by decide +kernel
theorem dX8_step_57 : decode cX8_step 57 = .ok (.lload_n 3, 1) := by decide +kernel
theorem dX8_step_58 : decode cX8_step 58 = .ok (.ldc2_w 237, 3) := by decide +kernel
theorem dX8_step_61 : decode cX8_step 61 = .ok (.lcmp, 1) := by decide +kernel
theorem dX8_step_62 : decode cX8_step 62 = .ok (.ifCond .le 7, 3) := by decide +kernel
theorem dX8_step_65 : decode cX8_step 65 = .ok (.iconst (-1), 1) := by decide +kernel
theorem dX8_step_66 : decode cX8_step 66 = .ok (.goto 23, 3) := by decide +kernel
theorem dX8_step_69 : decode cX8_step 69 = .ok (.aload_n 0, 1) := by decide +kernel
theorem dX8_step_70 : decode cX8_step 70 = .ok (.getfield 106, 3) := by decide +kernel
theorem dX8_step_73 : decode cX8_step 73 = .ok (.aload_n 0, 1) := by decide +kernel
theorem dX8_step_74 : decode cX8_step 74 = .ok (.getfield 7, 3) := by decide +kernel
theorem dX8_step_77 : decode cX8_step 77 = .ok (.bipush 10, 2) := by decide +kernel
theorem dX8_step_79 : decode cX8_step 79 = .ok (.lload_n 3, 1) := by decide +kernel
theorem dX8_step_80 : decode cX8_step 80 = .ok (.l2i, 1) := by decide +kernel
theorem dX8_step_81 : decode cX8_step 81 = .ok (.iadd, 1) := by decide +kernel
theorem dX8_step_82 : decode cX8_step 82 = .ok (.laload, 1) := by decide +kernel
theorem dX8_step_83 : decode cX8_step 83 = .ok (.ldc2_w 275, 3) := by decide +kernel
theorem dX8_step_86 : decode cX8_step 86 = .ok (.lrem, 1) := by decide +kernel
theorem dX8_step_87 : decode cX8_step 87 = .ok (.l2i, 1) := by decide +kernel
theorem dX8_step_88 : decode cX8_step 88 = .ok (.iaload, 1) := by decide +kernel
theorem dX8_step_89 : decode cX8_step 89 = .ok (.istore 5, 2) := by decide +kernel
theorem dX8_step_91 : decode cX8_step 91 = .ok (.iload 5, 2) := by decide +kernel
theorem dX8_step_93 : decode cX8_step 93 = .ok (.ifCond .ge 23, 3) := by decide +kernel
theorem dX8_step_96 : decode cX8_step 96 = .ok (.aload_n 0, 1) := by decide +kernel
theorem dX8_step_97 : decode cX8_step 97 = .ok (.lload_n 3, 1) := by decide +kernel
theorem dX8_step_98 : decode cX8_step 98 = .ok (.ldc2_w 237, 3) := by decide +kernel
theorem dX8_step_101 : decode cX8_step 101 = .ok (.lcmp, 1) := by decide +kernel
theorem dX8_step_102 : decode cX8_step 102 = .ok (.ifCond .le 7, 3) := by decide +kernel
theorem dX8_step_105 : decode cX8_step 105 = .ok (.iconst 1, 1) := by decide +kernel
theorem dX8_step_106 : decode cX8_step 106 = .ok (.goto 4, 3) := by decide +kernel
theorem dX8_step_109 : decode cX8_step 109 = .ok (.iconst 2, 1) := by decide +kernel
theorem dX8_step_110 : decode cX8_step 110 = .ok (.putfield 272, 3) := by decide +kernel
theorem dX8_step_113 : decode cX8_step 113 = .ok (.goto 52, 3) := by decide +kernel
theorem dX8_step_116 : decode cX8_step 116 = .ok (.aload_n 0, 1) := by decide +kernel
theorem dX8_step_117 : decode cX8_step 117 = .ok (.getfield 7, 3) := by decide +kernel
theorem dX8_step_120 : decode cX8_step 120 = .ok (.bipush 7, 2) := by decide +kernel
theorem dX8_step_122 : decode cX8_step 122 = .ok (.aload_n 0, 1) := by decide +kernel
theorem dX8_step_123 : decode cX8_step 123 = .ok (.bipush 7, 2) := by decide +kernel
theorem dX8_step_125 : decode cX8_step 125 = .ok (.lload_n 3, 1) := by decide +kernel
theorem dX8_step_126 : decode cX8_step 126 = .ok (.lconst 1, 1) := by decide +kernel
theorem dX8_step_127 : decode cX8_step 127 = .ok (.ladd, 1) := by decide +kernel
theorem dX8_step_128 : decode cX8_step 128 = .ok (.invokevirtual 132, 3) := by decide +kernel
theorem dX8_step_131 : decode cX8_step 131 = .ok (.lastore, 1) := by decide +kernel
theorem dX8_step_132 : decode cX8_step 132 = .ok (.aload_n 0, 1) := by decide +kernel
theorem dX8_step_133 : decode cX8_step 133 = .ok (.iload 5, 2) := by decide +kernel
theorem dX8_step_135 : decode cX8_step 135 = .ok (.invokevirtual 262, 3) := by decide +kernel
theorem dX8_step_138 : decode cX8_step 138 = .ok (.iconst 2, 1) := by decide +kernel
theorem dX8_step_139 : decode cX8_step 139 = .ok (.if_icmp .ne 13, 3) := by decide +kernel
theorem dX8_step_142 : decode cX8_step 142 = .ok (.aload_n 0, 1) := by decide +kernel
theorem dX8_step_143 : decode cX8_step 143 = .ok (.dup, 1) := by decide +kernel
theorem dX8_step_144 : decode cX8_step 144 = .ok (.getfield 277, 3) := by decide +kernel
theorem dX8_step_147 : decode cX8_step 147 = .ok (.iconst 1, 1) := by decide +kernel
theorem dX8_step_148 : decode cX8_step 148 = .ok (.iadd, 1) := by decide +kernel
theorem dX8_step_149 : decode cX8_step 149 = .ok (.putfield 277, 3) := by decide +kernel
theorem dX8_step_152 : decode cX8_step 152 = .ok (.iinc 2 1, 3) := by decide +kernel
theorem dX8_step_155 : decode cX8_step 155 = .ok (.aload_n 0, 1) := by decide +kernel
theorem dX8_step_156 : decode cX8_step 156 = .ok (.dup, 1) := by decide +kernel
theorem dX8_step_157 : decode cX8_step 157 = .ok (.getfield 280, 3) := by decide +kernel
theorem dX8_step_160 : decode cX8_step 160 = .ok (.iconst 1, 1) := by decide +kernel
theorem dX8_step_161 : decode cX8_step 161 = .ok (.iadd, 1) := by decide +kernel
theorem dX8_step_162 : decode cX8_step 162 = .ok (.putfield 280, 3) := by decide +kernel
theorem dX8_step_165 : decode cX8_step 165 = .ok (.goto (-128), 3) := by decide +kernel
theorem dX8_step_168 : decode cX8_step 168 = .ok (.iload_n 2, 1) := by decide +kernel
theorem dX8_step_169 : decode cX8_step 169 = .ok (.ireturn, 1) := by decide +kernel
set_option maxRecDepth 20000 in
theorem ggX8_count_X8_no : GoodIn wsX8_count wsX8_no := goodIn_r _ [8, 9, 10, 11, 12, 13, 14, 15, 16, 17, 18, 19, 20, 21, 22, 23, 24, 25, 26, 27, 28, 29, 30, 31, 32, 33, 34, 35, 36, 37, 38, 39, 40, 41, 42, 43, 44, 45, 46, 47, 48, 49, 50, 51, 52, 53] (by decide +kernel) (by decide +kernel)
set_option maxRecDepth 20000 in
theorem gX8_count_X8_no : GoodIn wsX8_count (wsV RX8 122 RX8 yX8_no wsX8_no) := goodIn_app (goodIn_of _ (by decide +kernel)) ggX8_count_X8_no
theorem dX8_count_0 : decode cX8_count 0 = .ok (.iload_n 1, 1) := by decide +kernel
theorem dX8_count_1 : decode cX8_count 1 = .ok (.tableswitch 42 0 2 #[27, 32, 37], 27) := by decide +kernel
theorem dX8_count_28 : decode cX8_count 28 = .ok (.aload_n 0, 1) := by decide +kernel
theorem dX8_count_29 : decode cX8_count 29 = .ok (.getfield 280, 3) := by decide +kernel
theorem dX8_count_32 : decode cX8_count 32 = .ok (.ireturn, 1) := by decide +kernel
theorem dX8_count_33 : decode cX8_count 33 = .ok (.aload_n 0, 1) := by decide +kernel
theorem dX8_count_34 : decode cX8_count 34 = .ok (.getfield 277, 3) := by decide +kernel
theorem dX8_count_37 : decode cX8_count 37 = .ok (.ireturn, 1) := by decide +kernel
theorem dX8_count_38 : decode cX8_count 38 = .ok (.aload_n 0, 1) := by decide +kernel
theorem dX8_count_39 : decode cX8_count 39 = .ok (.getfield 272, 3) := by decide +kernel
theorem dX8_count_42 : decode cX8_count 42 = .ok (.ireturn, 1) := by decide +kernel
theorem dX8_count_43 : decode cX8_count 43 = .ok (.aload_n 0, 1) := by decide +kernel
theorem dX8_count_44 : decode cX8_count 44 = .ok (.bipush (-6), 2) := by decide +kernel
theorem dX8_count_46 : decode cX8_count 46 = .ok (.invokevirtual 122, 3) := by decide +kernel
theorem dX8_count_49 : decode cX8_count 49 = .ok (.ireturn, 1) := by decide +kernel
set_option maxRecDepth 20000 in
theorem ggX8_image_X8_copies : GoodIn wsX8_image wsX8_copies := goodIn_r _ [7] (by decide +kernel) (by decide +kernel)
set_option maxRecDepth 20000 in
theorem gX8_image_X8_copies : GoodIn wsX8_image (va_wsS RX8 246 yX8_copies wsX8_copies) := goodIn_app (goodIn_of _ (by decide +kernel)) ggX8_image_X8_copies
theorem dX8_image_0 : decode cX8_image 0 = .ok (.aload_n 0, 1) := by decide +kernel
theorem dX8_image_1 : decode cX8_image 1 = .ok (.getfield 7, 3) := by decide +kernel
theorem dX8_image_4 : decode cX8_image 4 = .ok (.aload_n 0, 1) := by decide +kernel
theorem dX8_image_5 : decode cX8_image 5 = .ok (.getfield 13, 3) := by decide +kernel
theorem dX8_image_8 : decode cX8_image 8 = .ok (.invokestatic 246, 3) := by decide +kernel
theorem dX8_image_11 : decode cX8_image 11 = .ok (.aload_n 0, 1) := by decide +kernel
theorem dX8_image_12 : decode cX8_image 12 = .ok (.iconst 1, 1) := by decide +kernel
theorem dX8_image_13 : decode cX8_image 13 = .ok (.putfield 283, 3) := by decide +kernel
theorem dX8_image_16 : decode cX8_image 16 = .ok (.iconst 0, 1) := by decide +kernel
theorem dX8_image_17 : decode cX8_image 17 = .ok (.istore_n 1, 1) := by decide +kernel
theorem dX8_image_18 : decode cX8_image 18 = .ok (.iconst 0, 1) := by decide +kernel
theorem dX8_image_19 : decode cX8_image 19 = .ok (.istore_n 2, 1) := by decide +kernel
theorem dX8_image_20 : decode cX8_image 20 = .ok (.iload_n 2, 1) := by decide +kernel
theorem dX8_image_21 : decode cX8_image 21 = .ok (.bipush 74, 2) := by decide +kernel
theorem dX8_image_23 : decode cX8_image 23 = .ok (.if_icmp .ge 28, 3) := by decide +kernel
theorem dX8_image_26 : decode cX8_image 26 = .ok (.iload_n 1, 1) := by decide +kernel
theorem dX8_image_27 : decode cX8_image 27 = .ok (.aload_n 0, 1) := by decide +kernel
theorem dX8_image_28 : decode cX8_image 28 = .ok (.getfield 7, 3) := by decide +kernel
theorem dX8_image_31 : decode cX8_image 31 = .ok (.iload_n 2, 1) := by decide +kernel
theorem dX8_image_32 : decode cX8_image 32 = .ok (.laload, 1) := by decide +kernel
theorem dX8_image_33 : decode cX8_image 33 = .ok (.lconst 0, 1) := by decide +kernel
theorem dX8_image_34 : decode cX8_image 34 = .ok (.lcmp, 1) := by decide +kernel
theorem dX8_image_35 : decode cX8_image 35 = .ok (.ifCond .eq 7, 3) := by decide +kernel
theorem dX8_image_38 : decode cX8_image 38 = .ok (.iconst 1, 1) := by decide +kernel
theorem dX8_image_39 : decode cX8_image 39 = .ok (.goto 4, 3) := by decide +kernel
theorem dX8_image_42 : decode cX8_image 42 = .ok (.iconst 0, 1) := by decide +kernel
theorem dX8_image_43 : decode cX8_image 43 = .ok (.iadd, 1) := by decide +kernel
theorem dX8_image_44 : decode cX8_image 44 = .ok (.istore_n 1, 1) := by decide +kernel
theorem dX8_image_45 : decode cX8_image 45 = .ok (.iinc 2 1, 3) := by decide +kernel
theorem dX8_image_48 : decode cX8_image 48 = .ok (.goto (-28), 3) := by decide +kernel
theorem dX8_image_51 : decode cX8_image 51 = .ok (.iload_n 1, 1) := by decide +kernel
theorem dX8_image_52 : decode cX8_image 52 = .ok (.ireturn, 1) := by decide +kernel
set_option maxRecDepth 20000 in
theorem ggX8_restore_X8_no : GoodIn wsX8_restore wsX8_no := goodIn_r _ [8, 9, 15, 16, 17, 18, 19, 20, 21, 22, 23, 24, 25, 26, 27, 28, 29, 30, 31, 32, 33, 34, 35, 36, 37, 38, 39, 40, 41, 42, 43, 44, 45, 46, 47, 48, 49, 50, 51, 52, 53, 54, 55, 56, 57, 58] (by decide +kernel) (by decide +kernel)
set_option maxRecDepth 20000 in
theorem gX8_restore_X8_no : GoodIn wsX8_restore (wsV RX8 122 RX8 yX8_no wsX8_no) := goodIn_app (goodIn_of _ (by decide +kernel)) ggX8_restore_X8_no
set_option maxRecDepth 20000 in
theorem ggX8_restore_X8_cut : GoodIn wsX8_restore wsX8_cut := goodIn_r _ [13, 14, 15, 16, 17, 18, 19, 20, 21, 22, 23, 24, 25, 26, 27, 28, 29, 30, 31, 32, 33, 34, 35, 36, 37, 38, 39, 40, 41, 42, 43, 44, 45, 46, 47, 48, 49, 50, 51, 52, 53, 54, 55, 56, 57, 58] (by decide +kernel) (by decide +kernel)
set_option maxRecDepth 20000 in
theorem gX8_restore_X8_cut : GoodIn wsX8_restore (wsV RX8 132 RX8 yX8_cut wsX8_cut) := goodIn_app (goodIn_of _ (by decide +kernel)) ggX8_restore_X8_cut
theorem dX8_restore_0 : decode cX8_restore 0 = .ok (.aload_n 0, 1) := by decide +kernel
theorem dX8_restore_1 : decode cX8_restore 1 = .ok (.getfield 283, 3) := by decide +kernel
theorem dX8_restore_4 : decode cX8_restore 4 = .ok (.ifCond .ne 10, 3) := by decide +kernel
theorem dX8_restore_7 : decode cX8_restore 7 = .ok (.aload_n 0, 1) := by decide +kernel
theorem dX8_restore_8 : decode cX8_restore 8 = .ok (.bipush (-2), 2) := by decide +kernel
theorem dX8_restore_10 : decode cX8_restore 10 = .ok (.invokevirtual 122, 3) := by decide +kernel
theorem dX8_restore_13 : decode cX8_restore 13 = .ok (.ireturn, 1) := by decide +kernel
theorem dX8_restore_14 : decode cX8_restore 14 = .ok (.iconst 0, 1) := by decide +kernel
theorem dX8_restore_15 : decode cX8_restore 15 = .ok (.istore_n 1, 1) := by decide +kernel
theorem dX8_restore_16 : decode cX8_restore 16 = .ok (.iconst 0, 1) := by decide +kernel
theorem dX8_restore_17 : decode cX8_restore 17 = .ok (.istore_n 2, 1) := by decide +kernel
theorem dX8_restore_18 : decode cX8_restore 18 = .ok (.iload_n 2, 1) := by decide +kernel
theorem dX8_restore_19 : decode cX8_restore 19 = .ok (.bipush 74, 2) := by decide +kernel
theorem dX8_restore_21 : decode cX8_restore 21 = .ok (.if_icmp .ge 62, 3) := by decide +kernel
theorem dX8_restore_24 : decode cX8_restore 24 = .ok (.iload_n 2, 1) := by decide +kernel
theorem dX8_restore_25 : decode cX8_restore 25 = .ok (.bipush 8, 2) := by decide +kernel
theorem dX8_restore_27 : decode cX8_restore 27 = .ok (.if_icmp .ge 17, 3) := by decide +kernel
theorem dX8_restore_30 : decode cX8_restore 30 = .ok (.aload_n 0, 1) := by decide +kernel
theorem dX8_restore_31 : decode cX8_restore 31 = .ok (.iload_n 2, 1) := by decide +kernel
theorem dX8_restore_32 : decode cX8_restore 32 = .ok (.aload_n 0, 1) := by decide +kernel
theorem dX8_restore_33 : decode cX8_restore 33 = .ok (.getfield 13, 3) := by decide +kernel
theorem dX8_restore_36 : decode cX8_restore 36 = .ok (.iload_n 2, 1) := by decide +kernel
theorem dX8_restore_37 : decode cX8_restore 37 = .ok (.laload, 1) := by decide +kernel
theorem dX8_restore_38 : decode cX8_restore 38 = .ok (.invokevirtual 132, 3) := by decide +kernel
theorem dX8_restore_41 : decode cX8_restore 41 = .ok (.goto 9, 3) := by decide +kernel
theorem dX8_restore_44 : decode cX8_restore 44 = .ok (.aload_n 0, 1) := by decide +kernel
theorem dX8_restore_45 : decode cX8_restore 45 = .ok (.getfield 13, 3) := by decide +kernel
theorem dX8_restore_48 : decode cX8_restore 48 = .ok (.iload_n 2, 1) := by decide +kernel
theorem dX8_restore_49 : decode cX8_restore 49 = .ok (.laload, 1) := by decide +kernel
theorem dX8_restore_50 : decode cX8_restore 50 = .ok (.lstore_n 3, 1) := by decide +kernel
theorem dX8_restore_51 : decode cX8_restore 51 = .ok (.iload_n 1, 1) := by decide +kernel
theorem dX8_restore_52 : decode cX8_restore 52 = .ok (.lload_n 3, 1) := by decide +kernel
theorem dX8_restore_53 : decode cX8_restore 53 = .ok (.aload_n 0, 1) := by decide +kernel
theorem dX8_restore_54 : decode cX8_restore 54 = .ok (.getfield 7, 3) := by decide +kernel
theorem dX8_restore_57 : decode cX8_restore 57 = .ok (.iload_n 2, 1) := by decide +kernel
theorem dX8_restore_58 : decode cX8_restore 58 = .ok (.laload, 1) := by decide +kernel
theorem dX8_restore_59 : decode cX8_restore 59 = .ok (.lcmp, 1) := by decide +kernel
theorem dX8_restore_60 : decode cX8_restore 60 = .ok (.ifCond .eq 7, 3) := by decide +kernel
theorem dX8_restore_63 : decode cX8_restore 63 = .ok (.iconst 1, 1) := by decide +kernel
theorem dX8_restore_64 : decode cX8_restore 64 = .ok (.goto 4, 3) := by decide +kernel
theorem dX8_restore_67 : decode cX8_restore 67 = .ok (.iconst 0, 1) := by decide +kernel
theorem dX8_restore_68 : decode cX8_restore 68 = .ok (.iadd, 1) := by decide +kernel
theorem dX8_restore_69 : decode cX8_restore 69 = .ok (.istore_n 1, 1) := by decide +kernel
theorem dX8_restore_70 : decode cX8_restore 70 = .ok (.aload_n 0, 1) := by decide +kernel
theorem dX8_restore_71 : decode cX8_restore 71 = .ok (.getfield 7, 3) := by decide +kernel
theorem dX8_restore_74 : decode cX8_restore 74 = .ok (.iload_n 2, 1) := by decide +kernel
theorem dX8_restore_75 : decode cX8_restore 75 = .ok (.lload_n 3, 1) := by decide +kernel
theorem dX8_restore_76 : decode cX8_restore 76 = .ok (.lastore, 1) := by decide +kernel
theorem dX8_restore_77 : decode cX8_restore 77 = .ok (.iinc 2 1, 3) := by decide +kernel
theorem dX8_restore_80 : decode cX8_restore 80 = .ok (.goto (-62), 3) := by decide +kernel
theorem dX8_restore_83 : decode cX8_restore 83 = .ok (.iload_n 1, 1) := by decide +kernel
theorem dX8_restore_84 : decode cX8_restore 84 = .ok (.ireturn, 1) := by decide +kernel
set_option maxRecDepth 20000 in
theorem ggX8_lay_X8_no : GoodIn wsX8_lay wsX8_no := goodIn_r _ [11, 12, 13, 14, 15, 16, 17, 18, 19, 20, 21, 22, 23, 24, 25, 26, 27, 28, 29, 30, 31, 32, 33, 34, 35, 36, 37, 38, 39, 40, 41, 42, 43, 44, 45, 46, 47, 48, 49, 50, 51, 52, 53, 54, 55, 56] (by decide +kernel) (by decide +kernel)
set_option maxRecDepth 20000 in
theorem gX8_lay_X8_no : GoodIn wsX8_lay (wsV RX8 122 RX8 yX8_no wsX8_no) := goodIn_app (goodIn_of _ (by decide +kernel)) ggX8_lay_X8_no
theorem dX8_lay_0 : decode cX8_lay 0 = .ok (.iload_n 2, 1) := by decide +kernel
theorem dX8_lay_1 : decode cX8_lay 1 = .ok (.ifCond .ge 10, 3) := by decide +kernel
theorem dX8_lay_4 : decode cX8_lay 4 = .ok (.aload_n 0, 1) := by decide +kernel
theorem dX8_lay_5 : decode cX8_lay 5 = .ok (.bipush (-4), 2) := by decide +kernel
theorem dX8_lay_7 : decode cX8_lay 7 = .ok (.invokevirtual 122, 3) := by decide +kernel
theorem dX8_lay_10 : decode cX8_lay 10 = .ok (.ireturn, 1) := by decide +kernel
theorem dX8_lay_11 : decode cX8_lay 11 = .ok (.iload_n 1, 1) := by decide +kernel
theorem dX8_lay_12 : decode cX8_lay 12 = .ok (.ifCond .lt 15, 3) := by decide +kernel
theorem dX8_lay_15 : decode cX8_lay 15 = .ok (.iload_n 1, 1) := by decide +kernel
theorem dX8_lay_16 : decode cX8_lay 16 = .ok (.i2l, 1) := by decide +kernel
theorem dX8_lay_17 : decode cX8_lay 17 = .ok (.iload_n 2, 1) := by decide +kernel
theorem dX8_lay_18 : decode cX8_lay 18 = .ok (.i2l, 1) := by decide +kernel
theorem dX8_lay_19 : decode cX8_lay 19 = .ok (.ladd, 1) := by decide +kernel
theorem dX8_lay_20 : decode cX8_lay 20 = .ok (.ldc2_w 286, 3) := by decide +kernel
theorem dX8_lay_23 : decode cX8_lay 23 = .ok (.lcmp, 1) := by decide +kernel
theorem dX8_lay_24 : decode cX8_lay 24 = .ok (.ifCond .le 10, 3) := by decide +kernel
theorem dX8_lay_27 : decode cX8_lay 27 = .ok (.aload_n 0, 1) := by decide +kernel
theorem dX8_lay_28 : decode cX8_lay 28 = .ok (.bipush (-3), 2) := by decide +kernel
theorem dX8_lay_30 : decode cX8_lay 30 = .ok (.invokevirtual 122, 3) := by decide +kernel
theorem dX8_lay_33 : decode cX8_lay 33 = .ok (.ireturn, 1) := by decide +kernel
theorem dX8_lay_34 : decode cX8_lay 34 = .ok (.aload_n 0, 1) := by decide +kernel
theorem dX8_lay_35 : decode cX8_lay 35 = .ok (.iload_n 2, 1) := by decide +kernel
theorem dX8_lay_36 : decode cX8_lay 36 = .ok (.putfield 115, 3) := by decide +kernel
theorem dX8_lay_39 : decode cX8_lay 39 = .ok (.iconst 0, 1) := by decide +kernel
theorem dX8_lay_40 : decode cX8_lay 40 = .ok (.istore_n 3, 1) := by decide +kernel
theorem dX8_lay_41 : decode cX8_lay 41 = .ok (.iload_n 3, 1) := by decide +kernel
theorem dX8_lay_42 : decode cX8_lay 42 = .ok (.iload_n 2, 1) := by decide +kernel
theorem dX8_lay_43 : decode cX8_lay 43 = .ok (.if_icmp .ge 52, 3) := by decide +kernel
theorem dX8_lay_46 : decode cX8_lay 46 = .ok (.aload_n 0, 1) := by decide +kernel
theorem dX8_lay_47 : decode cX8_lay 47 = .ok (.getfield 7, 3) := by decide +kernel
theorem dX8_lay_50 : decode cX8_lay 50 = .ok (.bipush 10, 2) := by decide +kernel
theorem dX8_lay_52 : decode cX8_lay 52 = .ok (.iload_n 1, 1) := by decide +kernel
theorem dX8_lay_53 : decode cX8_lay 53 = .ok (.iadd, 1) := by decide +kernel
theorem dX8_lay_54 : decode cX8_lay 54 = .ok (.iload_n 3, 1) := by decide +kernel
theorem dX8_lay_55 : decode cX8_lay 55 = .ok (.iadd, 1) := by decide +kernel
theorem dX8_lay_56 : decode cX8_lay 56 = .ok (.laload, 1) := by decide +kernel
theorem dX8_lay_57 : decode cX8_lay 57 = .ok (.ldc2_w 288, 3) := by decide +kernel
theorem dX8_lay_60 : decode cX8_lay 60 = .ok (.land, 1) := by decide +kernel
theorem dX8_lay_61 : decode cX8_lay 61 = .ok (.l2i, 1) := by decide +kernel
theorem dX8_lay_62 : decode cX8_lay 62 = .ok (.istore 4, 2) := by decide +kernel
theorem dX8_lay_64 : decode cX8_lay 64 = .ok (.aload_n 0, 1) := by decide +kernel
theorem dX8_lay_65 : decode cX8_lay 65 = .ok (.getfield 109, 3) := by decide +kernel
theorem dX8_lay_68 : decode cX8_lay 68 = .ok (.iload_n 3, 1) := by decide +kernel
theorem dX8_lay_69 : decode cX8_lay 69 = .ok (.iload 4, 2) := by decide +kernel
theorem dX8_lay_71 : decode cX8_lay 71 = .ok (.sipush 32767, 3) := by decide +kernel
theorem dX8_lay_74 : decode cX8_lay 74 = .ok (.if_icmp .le 12, 3) := by decide +kernel
theorem dX8_lay_77 : decode cX8_lay 77 = .ok (.iload 4, 2) := by decide +kernel
theorem dX8_lay_79 : decode cX8_lay 79 = .ok (.ldc_w 290, 3) := by decide +kernel
theorem dX8_lay_82 : decode cX8_lay 82 = .ok (.isub, 1) := by decide +kernel
theorem dX8_lay_83 : decode cX8_lay 83 = .ok (.goto 5, 3) := by decide +kernel
theorem dX8_lay_86 : decode cX8_lay 86 = .ok (.iload 4, 2) := by decide +kernel
theorem dX8_lay_88 : decode cX8_lay 88 = .ok (.iastore, 1) := by decide +kernel
theorem dX8_lay_89 : decode cX8_lay 89 = .ok (.iinc 3 1, 3) := by decide +kernel
theorem dX8_lay_92 : decode cX8_lay 92 = .ok (.goto (-51), 3) := by decide +kernel
theorem dX8_lay_95 : decode cX8_lay 95 = .ok (.iload_n 2, 1) := by decide +kernel
theorem dX8_lay_96 : decode cX8_lay 96 = .ok (.ireturn, 1) := by decide +kernel
theorem dX8_tear_0 : decode cX8_tear 0 = .ok (.aload_n 0, 1) := by decide +kernel
theorem dX8_tear_1 : decode cX8_tear 1 = .ok (.getfield 115, 3) := by decide +kernel
theorem dX8_tear_4 : decode cX8_tear 4 = .ok (.ifCond .lt 7, 3) := by decide +kernel
theorem dX8_tear_7 : decode cX8_tear 7 = .ok (.iconst 1, 1) := by decide +kernel
theorem dX8_tear_8 : decode cX8_tear 8 = .ok (.goto 4, 3) := by decide +kernel
theorem dX8_tear_11 : decode cX8_tear 11 = .ok (.iconst 0, 1) := by decide +kernel
theorem dX8_tear_12 : decode cX8_tear 12 = .ok (.istore_n 1, 1) := by decide +kernel
theorem dX8_tear_13 : decode cX8_tear 13 = .ok (.aload_n 0, 1) := by decide +kernel
theorem dX8_tear_14 : decode cX8_tear 14 = .ok (.iconst (-1), 1) := by decide +kernel
theorem dX8_tear_15 : decode cX8_tear 15 = .ok (.putfield 115, 3) := by decide +kernel
theorem dX8_tear_18 : decode cX8_tear 18 = .ok (.iload_n 1, 1) := by decide +kernel
theorem dX8_tear_19 : decode cX8_tear 19 = .ok (.ireturn, 1) := by decide +kernel
set_option maxRecDepth 20000 in
theorem ggX8_row_X8_no : GoodIn wsX8_row wsX8_no := goodIn_r _ [7, 8, 12, 13, 14, 15, 16, 17, 18, 19, 20, 21, 22, 23, 24, 25, 26, 27, 28, 29, 30, 31, 32, 33, 34, 35, 36, 37, 38, 39, 40, 41, 42, 43, 44, 45, 46, 47, 48, 49, 50, 51, 52, 53, 54, 55] (by decide +kernel) (by decide +kernel)
set_option maxRecDepth 20000 in
theorem gX8_row_X8_no : GoodIn wsX8_row (wsV RX8 122 RX8 yX8_no wsX8_no) := goodIn_app (goodIn_of _ (by decide +kernel)) ggX8_row_X8_no
set_option maxRecDepth 20000 in
theorem ggX8_row_X8_isIn : GoodIn wsX8_row wsX8_isIn := goodIn_r _ [11] (by decide +kernel) (by decide +kernel)
set_option maxRecDepth 20000 in
theorem gX8_row_X8_isIn : GoodIn wsX8_row (va_wsS RX8 128 yX8_isIn wsX8_isIn) := goodIn_app (goodIn_of _ (by decide +kernel)) ggX8_row_X8_isIn
theorem dX8_row_0 : decode cX8_row 0 = .ok (.aload_n 0, 1) := by decide +kernel
theorem dX8_row_1 : decode cX8_row 1 = .ok (.getfield 115, 3) := by decide +kernel
theorem dX8_row_4 : decode cX8_row 4 = .ok (.ifCond .ge 10, 3) := by decide +kernel
theorem dX8_row_7 : decode cX8_row 7 = .ok (.aload_n 0, 1) := by decide +kernel
theorem dX8_row_8 : decode cX8_row 8 = .ok (.bipush (-2), 2) := by decide +kernel
theorem dX8_row_10 : decode cX8_row 10 = .ok (.invokevirtual 122, 3) := by decide +kernel
theorem dX8_row_13 : decode cX8_row 13 = .ok (.ireturn, 1) := by decide +kernel
theorem dX8_row_14 : decode cX8_row 14 = .ok (.iload_n 1, 1) := by decide +kernel
theorem dX8_row_15 : decode cX8_row 15 = .ok (.i2l, 1) := by decide +kernel
theorem dX8_row_16 : decode cX8_row 16 = .ok (.lconst 0, 1) := by decide +kernel
theorem dX8_row_17 : decode cX8_row 17 = .ok (.aload_n 0, 1) := by decide +kernel
theorem dX8_row_18 : decode cX8_row 18 = .ok (.getfield 115, 3) := by decide +kernel
theorem dX8_row_21 : decode cX8_row 21 = .ok (.iconst 1, 1) := by decide +kernel
theorem dX8_row_22 : decode cX8_row 22 = .ok (.isub, 1) := by decide +kernel
theorem dX8_row_23 : decode cX8_row 23 = .ok (.i2l, 1) := by decide +kernel
theorem dX8_row_24 : decode cX8_row 24 = .ok (.invokestatic 128, 3) := by decide +kernel
theorem dX8_row_27 : decode cX8_row 27 = .ok (.ifCond .eq 12, 3) := by decide +kernel
theorem dX8_row_30 : decode cX8_row 30 = .ok (.aload_n 0, 1) := by decide +kernel
theorem dX8_row_31 : decode cX8_row 31 = .ok (.getfield 109, 3) := by decide +kernel
theorem dX8_row_34 : decode cX8_row 34 = .ok (.iload_n 1, 1) := by decide +kernel
theorem dX8_row_35 : decode cX8_row 35 = .ok (.iaload, 1) := by decide +kernel
theorem dX8_row_36 : decode cX8_row 36 = .ok (.goto 9, 3) := by decide +kernel
theorem dX8_row_39 : decode cX8_row 39 = .ok (.aload_n 0, 1) := by decide +kernel
theorem dX8_row_40 : decode cX8_row 40 = .ok (.bipush (-3), 2) := by decide +kernel
theorem dX8_row_42 : decode cX8_row 42 = .ok (.invokevirtual 122, 3) := by decide +kernel
theorem dX8_row_45 : decode cX8_row 45 = .ok (.ireturn, 1) := by decide +kernel
set_option maxRecDepth 20000 in
theorem ggX8_copy_X8_no : GoodIn wsX8_copy wsX8_no := goodIn_r _ [8, 9, 10, 11, 12, 13, 14, 15, 16, 17, 18, 19, 20, 21, 22, 23, 24, 25, 26, 27, 28, 29, 30, 31, 32, 33, 34, 35, 36, 37, 38, 39, 40, 41, 42, 43, 44, 45, 46, 47, 48, 49, 50, 51, 52, 53] (by decide +kernel) (by decide +kernel)
set_option maxRecDepth 20000 in
theorem gX8_copy_X8_no : GoodIn wsX8_copy (wsV RX8 122 RX8 yX8_no wsX8_no) := goodIn_app (goodIn_of _ (by decide +kernel)) ggX8_copy_X8_no
theorem dX8_copy_0 : decode cX8_copy 0 = .ok (.aload_n 0, 1) := by decide +kernel
theorem dX8_copy_1 : decode cX8_copy 1 = .ok (.getfield 115, 3) := by decide +kernel
theorem dX8_copy_4 : decode cX8_copy 4 = .ok (.ifCond .ge 10, 3) := by decide +kernel
theorem dX8_copy_7 : decode cX8_copy 7 = .ok (.aload_n 0, 1) := by decide +kernel
theorem dX8_copy_8 : decode cX8_copy 8 = .ok (.bipush (-2), 2) := by decide +kernel
theorem dX8_copy_10 : decode cX8_copy 10 = .ok (.invokevirtual 122, 3) := by decide +kernel
theorem dX8_copy_13 : decode cX8_copy 13 = .ok (.ireturn, 1) := by decide +kernel
theorem dX8_copy_14 : decode cX8_copy 14 = .ok (.iload_n 3, 1) := by decide +kernel
theorem dX8_copy_15 : decode cX8_copy 15 = .ok (.ifCond .ge 10, 3) := by decide +kernel
theorem dX8_copy_18 : decode cX8_copy 18 = .ok (.aload_n 0, 1) := by decide +kernel
theorem dX8_copy_19 : decode cX8_copy 19 = .ok (.bipush (-4), 2) := by decide +kernel
theorem dX8_copy_21 : decode cX8_copy 21 = .ok (.invokevirtual 122, 3) := by decide +kernel
theorem dX8_copy_24 : decode cX8_copy 24 = .ok (.ireturn, 1) := by decide +kernel
theorem dX8_copy_25 : decode cX8_copy 25 = .ok (.iload_n 1, 1) := by decide +kernel
theorem dX8_copy_26 : decode cX8_copy 26 = .ok (.ifCond .lt 35, 3) := by decide +kernel
theorem dX8_copy_29 : decode cX8_copy 29 = .ok (.iload_n 2, 1) := by decide +kernel
theorem dX8_copy_30 : decode cX8_copy 30 = .ok (.ifCond .lt 31, 3) := by decide +kernel
theorem dX8_copy_33 : decode cX8_copy 33 = .ok (.iload_n 1, 1) := by decide +kernel
theorem dX8_copy_34 : decode cX8_copy 34 = .ok (.i2l, 1) := by decide +kernel
theorem dX8_copy_35 : decode cX8_copy 35 = .ok (.iload_n 3, 1) := by decide +kernel
theorem dX8_copy_36 : decode cX8_copy 36 = .ok (.i2l, 1) := by decide +kernel
theorem dX8_copy_37 : decode cX8_copy 37 = .ok (.ladd, 1) := by decide +kernel
theorem dX8_copy_38 : decode cX8_copy 38 = .ok (.aload_n 0, 1) := by decide +kernel
theorem dX8_copy_39 : decode cX8_copy 39 = .ok (.getfield 115, 3) := by decide +kernel
theorem dX8_copy_42 : decode cX8_copy 42 = .ok (.i2l, 1) := by decide +kernel
theorem dX8_copy_43 : decode cX8_copy 43 = .ok (.lcmp, 1) := by decide +kernel
theorem dX8_copy_44 : decode cX8_copy 44 = .ok (.ifCond .gt 17, 3) := by decide +kernel
theorem dX8_copy_47 : decode cX8_copy 47 = .ok (.iload_n 2, 1) := by decide +kernel
theorem dX8_copy_48 : decode cX8_copy 48 = .ok (.i2l, 1) := by decide +kernel
theorem dX8_copy_49 : decode cX8_copy 49 = .ok (.iload_n 3, 1) := by decide +kernel
theorem dX8_copy_50 : decode cX8_copy 50 = .ok (.i2l, 1) := by decide +kernel
theorem dX8_copy_51 : decode cX8_copy 51 = .ok (.ladd, 1) := by decide +kernel
theorem dX8_copy_52 : decode cX8_copy 52 = .ok (.aload_n 0, 1) := by decide +kernel
theorem dX8_copy_53 : decode cX8_copy 53 = .ok (.getfield 115, 3) := by decide +kernel
theorem dX8_copy_56 : decode cX8_copy 56 = .ok (.i2l, 1) := by decide +kernel
theorem dX8_copy_57 : decode cX8_copy 57 = .ok (.lcmp, 1) := by decide +kernel
theorem dX8_copy_58 : decode cX8_copy 58 = .ok (.ifCond .le 10, 3) := by decide +kernel
theorem dX8_copy_61 : decode cX8_copy 61 = .ok (.aload_n 0, 1) := by decide +kernel
theorem dX8_copy_62 : decode cX8_copy 62 = .ok (.bipush (-5), 2) := by decide +kernel
theorem dX8_copy_64 : decode cX8_copy 64 = .ok (.invokevirtual 122, 3) := by decide +kernel
theorem dX8_copy_67 : decode cX8_copy 67 = .ok (.ireturn, 1) := by decide +kernel
theorem dX8_copy_68 : decode cX8_copy 68 = .ok (.iconst 0, 1) := by decide +kernel
theorem dX8_copy_69 : decode cX8_copy 69 = .ok (.istore 4, 2) := by decide +kernel
theorem dX8_copy_71 : decode cX8_copy 71 = .ok (.iload 4, 2) := by decide +kernel
theorem dX8_copy_73 : decode cX8_copy 73 = .ok (.iload_n 3, 1) := by decide +kernel
theorem dX8_copy_74 : decode cX8_copy 74 = .ok (.if_icmp .ge 25, 3) := by decide +kernel
theorem dX8_copy_77 : decode cX8_copy 77 = .ok (.aload_n 0, 1) := by decide +kernel
theorem dX8_copy_78 : decode cX8_copy 78 = .ok (.getfield 112, 3) := by decide +kernel
theorem dX8_copy_81 : decode cX8_copy 81 = .ok (.iload 4, 2) := by decide +kernel
theorem dX8_copy_83 : decode cX8_copy 83 = .ok (.aload_n 0, 1) := by decide +kernel
theorem dX8_copy_84 : decode cX8_copy 84 = .ok (.getfield 109, 3) := by decide +kernel
theorem dX8_copy_87 : decode cX8_copy 87 = .ok (.iload_n 1, 1) := by decide +kernel
theorem dX8_copy_88 : decode cX8_copy 88 = .ok (.iload 4, 2) := by decide +kernel
theorem dX8_copy_90 : decode cX8_copy 90 = .ok (.iadd, 1) := by decide +kernel
theorem dX8_copy_91 : decode cX8_copy 91 = .ok (.iaload, 1) := by decide +kernel
theorem dX8_copy_92 : decode cX8_copy 92 = .ok (.iastore, 1) := by decide +kernel
theorem dX8_copy_93 : decode cX8_copy 93 = .ok (.iinc 4 1, 3) := by decide +kernel
theorem dX8_copy_96 : decode cX8_copy 96 = .ok (.goto (-25), 3) := by decide +kernel
theorem dX8_copy_99 : decode cX8_copy 99 = .ok (.iconst 0, 1) := by decide +kernel
theorem dX8_copy_100 : decode cX8_copy 100 = .ok (.istore 4, 2) := by decide +kernel
theorem dX8_copy_102 : decode cX8_copy 102 = .ok (.iload 4, 2) := by decide +kernel
theorem dX8_copy_104 : decode cX8_copy 104 = .ok (.iload_n 3, 1) := by decide +kernel
theorem dX8_copy_105 : decode cX8_copy 105 = .ok (.if_icmp .ge 25, 3) := by decide +kernel
theorem dX8_copy_108 : decode cX8_copy 108 = .ok (.aload_n 0, 1) := by decide +kernel
theorem dX8_copy_109 : decode cX8_copy 109 = .ok (.getfield 109, 3) := by decide +kernel
theorem dX8_copy_112 : decode cX8_copy 112 = .ok (.iload_n 2, 1) := by decide +kernel
theorem dX8_copy_113 : decode cX8_copy 113 = .ok (.iload 4, 2) := by decide +kernel
theorem dX8_copy_115 : decode cX8_copy 115 = .ok (.iadd, 1) := by decide +kernel
theorem dX8_copy_116 : decode cX8_copy 116 = .ok (.aload_n 0, 1) := by decide +kernel
theorem dX8_copy_117 : decode cX8_copy 117 = .ok (.getfield 112, 3) := by decide +kernel
theorem dX8_copy_120 : decode cX8_copy 120 = .ok (.iload 4, 2) := by decide +kernel
theorem dX8_copy_122 : decode cX8_copy 122 = .ok (.iaload, 1) := by decide +kernel
theorem dX8_copy_123 : decode cX8_copy 123 = .ok (.iastore, 1) := by decide +kernel
theorem dX8_copy_124 : decode cX8_copy 124 = .ok (.iinc 4 1, 3) := by decide +kernel
theorem dX8_copy_127 : decode cX8_copy 127 = .ok (.goto (-25), 3) := by decide +kernel
theorem dX8_copy_130 : decode cX8_copy 130 = .ok (.iload_n 3, 1) := by decide +kernel
theorem dX8_copy_131 : decode cX8_copy 131 = .ok (.ireturn, 1) := by decide +kernel
set_option maxRecDepth 20000 in
theorem ggX8_status_X8_isIn : GoodIn wsX8_status wsX8_isIn := goodIn_r _ [7] (by decide +kernel) (by decide +kernel)
set_option maxRecDepth 20000 in
theorem gX8_status_X8_isIn : GoodIn wsX8_status (va_wsS RX8 128 yX8_isIn wsX8_isIn) := goodIn_app (goodIn_of _ (by decide +kernel)) ggX8_status_X8_isIn
set_option maxRecDepth 20000 in
theorem ggX8_status_X8_no : GoodIn wsX8_status wsX8_no := goodIn_r _ [11, 3, 12, 13, 14, 15, 16, 17, 18, 19, 20, 21, 22, 23, 24, 25, 26, 27, 28, 29, 30, 31, 32, 33, 34, 35, 36, 37, 38, 39, 40, 41, 42, 43, 44, 45, 46, 47, 48, 49, 50, 51, 52, 53, 54, 55] (by decide +kernel) (by decide +kernel)
set_option maxRecDepth 20000 in
theorem gX8_status_X8_no : GoodIn wsX8_status (wsV RX8 122 RX8 yX8_no wsX8_no) := goodIn_app (goodIn_of _ (by decide +kernel)) ggX8_status_X8_no
theorem dX8_status_0 : decode cX8_status 0 = .ok (.iload_n 1, 1) := by decide +kernel
theorem dX8_status_1 : decode cX8_status 1 = .ok (.i2l, 1) := by decide +kernel
theorem dX8_status_2 : decode cX8_status 2 = .ok (.ldc2_w 291, 3) := by decide +kernel
theorem dX8_status_5 : decode cX8_status 5 = .ok (.ldc2_w 293, 3) := by decide +kernel
theorem dX8_status_8 : decode cX8_status 8 = .ok (.invokestatic 128, 3) := by decide +kernel
theorem dX8_status_11 : decode cX8_status 11 = .ok (.ifCond .eq 13, 3) := by decide +kernel
theorem dX8_status_14 : decode cX8_status 14 = .ok (.aload_n 0, 1) := by decide +kernel
theorem dX8_status_15 : decode cX8_status 15 = .ok (.getfield 48, 3) := by decide +kernel
theorem dX8_status_18 : decode cX8_status 18 = .ok (.iload_n 1, 1) := by decide +kernel
theorem dX8_status_19 : decode cX8_status 19 = .ok (.ineg, 1) := by decide +kernel
theorem dX8_status_20 : decode cX8_status 20 = .ok (.iaload, 1) := by decide +kernel
theorem dX8_status_21 : decode cX8_status 21 = .ok (.goto 9, 3) := by decide +kernel
theorem dX8_status_24 : decode cX8_status 24 = .ok (.aload_n 0, 1) := by decide +kernel
theorem dX8_status_25 : decode cX8_status 25 = .ok (.bipush (-6), 2) := by decide +kernel
theorem dX8_status_27 : decode cX8_status 27 = .ok (.invokevirtual 122, 3) := by decide +kernel
theorem dX8_status_30 : decode cX8_status 30 = .ok (.ireturn, 1) := by decide +kernel
