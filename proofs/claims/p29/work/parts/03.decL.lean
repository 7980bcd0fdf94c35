theorem dL_below_0 : decode cL_below 0 = .ok (.iload_n 0, 1) := by decide +kernel
theorem dL_below_1 : decode cL_below 1 = .ok (.ldc 7, 2) := by decide +kernel
theorem dL_below_3 : decode cL_below 3 = .ok (.iand, 1) := by decide +kernel
theorem dL_below_4 : decode cL_below 4 = .ok (.iload_n 1, 1) := by decide +kernel
theorem dL_below_5 : decode cL_below 5 = .ok (.irem, 1) := by decide +kernel
theorem dL_below_6 : decode cL_below 6 = .ok (.ireturn, 1) := by decide +kernel
theorem dL_cell_0 : decode cL_cell 0 = .ok (.iload_n 1, 1) := by decide +kernel
theorem dL_cell_1 : decode cL_cell 1 = .ok (.aload_n 0, 1) := by decide +kernel
theorem dL_cell_2 : decode cL_cell 2 = .ok (.arraylength, 1) := by decide +kernel
theorem dL_cell_3 : decode cL_cell 3 = .ok (.if_icmp .ge 9, 3) := by decide +kernel
theorem dL_cell_6 : decode cL_cell 6 = .ok (.aload_n 0, 1) := by decide +kernel
theorem dL_cell_7 : decode cL_cell 7 = .ok (.iload_n 1, 1) := by decide +kernel
theorem dL_cell_8 : decode cL_cell 8 = .ok (.iaload, 1) := by decide +kernel
theorem dL_cell_9 : decode cL_cell 9 = .ok (.goto 9, 3) := by decide +kernel
theorem dL_cell_12 : decode cL_cell 12 = .ok (.ldc 8, 2) := by decide +kernel
theorem dL_cell_14 : decode cL_cell 14 = .ok (.iload_n 1, 1) := by decide +kernel
theorem dL_cell_15 : decode cL_cell 15 = .ok (.iconst 3, 1) := by decide +kernel
theorem dL_cell_16 : decode cL_cell 16 = .ok (.iadd, 1) := by decide +kernel
theorem dL_cell_17 : decode cL_cell 17 = .ok (.imul, 1) := by decide +kernel
theorem dL_cell_18 : decode cL_cell 18 = .ok (.ireturn, 1) := by decide +kernel
theorem dL_build_0 : decode cL_build 0 = .ok (.aload_n 1, 1) := by decide +kernel
theorem dL_build_1 : decode cL_build 1 = .ok (.iload_n 2, 1) := by decide +kernel
theorem dL_build_2 : decode cL_build 2 = .ok (.invokestatic 9, 3) := by decide +kernel
theorem dL_build_5 : decode cL_build 5 = .ok (.bipush 6, 2) := by decide +kernel
theorem dL_build_7 : decode cL_build 7 = .ok (.invokestatic 15, 3) := by decide +kernel
theorem dL_build_10 : decode cL_build 10 = .ok (.istore 5, 2) := by decide +kernel
theorem dL_build_12 : decode cL_build 12 = .ok (.aload_n 1, 1) := by decide +kernel
theorem dL_build_13 : decode cL_build 13 = .ok (.iload_n 2, 1) := by decide +kernel
theorem dL_build_14 : decode cL_build 14 = .ok (.invokestatic 9, 3) := by decide +kernel
theorem dL_build_17 : decode cL_build 17 = .ok (.iconst 3, 1) := by decide +kernel
theorem dL_build_18 : decode cL_build 18 = .ok (.ishr, 1) := by decide +kernel
theorem dL_build_19 : decode cL_build 19 = .ok (.bipush 8, 2) := by decide +kernel
theorem dL_build_21 : decode cL_build 21 = .ok (.invokestatic 15, 3) := by decide +kernel
theorem dL_build_24 : decode cL_build 24 = .ok (.istore 6, 2) := by decide +kernel
theorem dL_build_26 : decode cL_build 26 = .ok (.iconst 0, 1) := by decide +kernel
theorem dL_build_27 : decode cL_build 27 = .ok (.istore 7, 2) := by decide +kernel
theorem dL_build_29 : decode cL_build 29 = .ok (.iload 7, 2) := by decide +kernel
theorem dL_build_31 : decode cL_build 31 = .ok (.iload 6, 2) := by decide +kernel
theorem dL_build_33 : decode cL_build 33 = .ok (.if_icmp .ge 335, 3) := by decide +kernel
theorem dL_build_36 : decode cL_build 36 = .ok (.aload_n 1, 1) := by decide +kernel
theorem dL_build_37 : decode cL_build 37 = .ok (.iload_n 2, 1) := by decide +kernel
theorem dL_build_38 : decode cL_build 38 = .ok (.iconst 1, 1) := by decide +kernel
theorem dL_build_39 : decode cL_build 39 = .ok (.iadd, 1) := by decide +kernel
theorem dL_build_40 : decode cL_build 40 = .ok (.iload 7, 2) := by decide +kernel
theorem dL_build_42 : decode cL_build 42 = .ok (.iadd, 1) := by decide +kernel
theorem dL_build_43 : decode cL_build 43 = .ok (.invokestatic 9, 3) := by decide +kernel
theorem dL_build_46 : decode cL_build 46 = .ok (.istore 8, 2) := by decide +kernel
theorem dL_build_48 : decode cL_build 48 = .ok (.iload 8, 2) := by decide +kernel
theorem dL_build_50 : decode cL_build 50 = .ok (.iload 5, 2) := by decide +kernel
theorem dL_build_52 : decode cL_build 52 = .ok (.ifCond .ne 8, 3) := by decide +kernel
theorem dL_build_55 : decode cL_build 55 = .ok (.bipush 7, 2) := by decide +kernel
theorem dL_build_57 : decode cL_build 57 = .ok (.goto 5, 3) := by decide +kernel
theorem dL_build_60 : decode cL_build 60 = .ok (.bipush 6, 2) := by decide +kernel
theorem dL_build_62 : decode cL_build 62 = .ok (.invokestatic 15, 3) := by decide +kernel
theorem dL_build_65 : decode cL_build 65 = .ok (.istore 9, 2) := by decide +kernel
theorem dL_build_67 : decode cL_build 67 = .ok (.bipush 12, 2) := by decide +kernel
theorem dL_build_69 : decode cL_build 69 = .ok (.newarray .int, 2) := by decide +kernel
theorem dL_build_71 : decode cL_build 71 = .ok (.astore 10, 2) := by decide +kernel
theorem dL_build_73 : decode cL_build 73 = .ok (.iconst 0, 1) := by decide +kernel
theorem dL_build_74 : decode cL_build 74 = .ok (.istore 11, 2) := by decide +kernel
theorem dL_build_76 : decode cL_build 76 = .ok (.iconst 0, 1) := by decide +kernel
theorem dL_build_77 : decode cL_build 77 = .ok (.istore 12, 2) := by decide +kernel
theorem dL_build_79 : decode cL_build 79 = .ok (.iload 12, 2) := by decide +kernel
theorem dL_build_81 : decode cL_build 81 = .ok (.iload 9, 2) := by decide +kernel
theorem dL_build_83 : decode cL_build 83 = .ok (.if_icmp .ge 155, 3) := by decide +kernel
theorem dL_build_86 : decode cL_build 86 = .ok (.iload 8, 2) := by decide +kernel
theorem dL_build_88 : decode cL_build 88 = .ok (.iconst 3, 1) := by decide +kernel
theorem dL_build_89 : decode cL_build 89 = .ok (.iconst 3, 1) := by decide +kernel
theorem dL_build_90 : decode cL_build 90 = .ok (.iload 12, 2) := by decide +kernel
theorem dL_build_92 : decode cL_build 92 = .ok (.imul, 1) := by decide +kernel
theorem dL_build_93 : decode cL_build 93 = .ok (.iadd, 1) := by decide +kernel
theorem dL_build_94 : decode cL_build 94 = .ok (.ishr, 1) := by decide +kernel
theorem dL_build_95 : decode cL_build 95 = .ok (.istore 13, 2) := by decide +kernel
theorem dL_build_97 : decode cL_build 97 = .ok (.iload 5, 2) := by decide +kernel
theorem dL_build_99 : decode cL_build 99 = .ok (.ifCond .ne 13, 3) := by decide +kernel
theorem dL_build_102 : decode cL_build 102 = .ok (.iload 13, 2) := by decide +kernel
theorem dL_build_104 : decode cL_build 104 = .ok (.bipush 8, 2) := by decide +kernel
theorem dL_build_106 : decode cL_build 106 = .ok (.invokestatic 15, 3) := by decide +kernel
theorem dL_build_109 : decode cL_build 109 = .ok (.goto 111, 3) := by decide +kernel
theorem dL_build_112 : decode cL_build 112 = .ok (.iload 5, 2) := by decide +kernel
theorem dL_build_114 : decode cL_build 114 = .ok (.iconst 1, 1) := by decide +kernel
theorem dL_build_115 : decode cL_build 115 = .ok (.if_icmp .ne 15, 3) := by decide +kernel
theorem dL_build_118 : decode cL_build 118 = .ok (.iload 12, 2) := by decide +kernel
theorem dL_build_120 : decode cL_build 120 = .ok (.iload 13, 2) := by decide +kernel
theorem dL_build_122 : decode cL_build 122 = .ok (.iconst 2, 1) := by decide +kernel
theorem dL_build_123 : decode cL_build 123 = .ok (.invokestatic 15, 3) := by decide +kernel
theorem dL_build_126 : decode cL_build 126 = .ok (.iadd, 1) := by decide +kernel
theorem dL_build_127 : decode cL_build 127 = .ok (.goto 93, 3) := by decide +kernel
theorem dL_build_130 : decode cL_build 130 = .ok (.iload 5, 2) := by decide +kernel
theorem dL_build_132 : decode cL_build 132 = .ok (.iconst 2, 1) := by decide +kernel
theorem dL_build_133 : decode cL_build 133 = .ok (.if_icmp .ne 34, 3) := by decide +kernel
theorem dL_build_136 : decode cL_build 136 = .ok (.iload 12, 2) := by decide +kernel
theorem dL_build_138 : decode cL_build 138 = .ok (.iconst 2, 1) := by decide +kernel
theorem dL_build_139 : decode cL_build 139 = .ok (.if_icmp .ge 17, 3) := by decide +kernel
theorem dL_build_142 : decode cL_build 142 = .ok (.iload 12, 2) := by decide +kernel
theorem dL_build_144 : decode cL_build 144 = .ok (.iload 8, 2) := by decide +kernel
theorem dL_build_146 : decode cL_build 146 = .ok (.iconst 3, 1) := by decide +kernel
theorem dL_build_147 : decode cL_build 147 = .ok (.ishr, 1) := by decide +kernel
theorem dL_build_148 : decode cL_build 148 = .ok (.iconst 2, 1) := by decide +kernel
theorem dL_build_149 : decode cL_build 149 = .ok (.invokestatic 15, 3) := by decide +kernel
theorem dL_build_152 : decode cL_build 152 = .ok (.ixor, 1) := by decide +kernel
theorem dL_build_153 : decode cL_build 153 = .ok (.goto 67, 3) := by decide +kernel
theorem dL_build_156 : decode cL_build 156 = .ok (.iconst 2, 1) := by decide +kernel
theorem dL_build_157 : decode cL_build 157 = .ok (.iload 13, 2) := by decide +kernel
theorem dL_build_159 : decode cL_build 159 = .ok (.iconst 3, 1) := by decide +kernel
theorem dL_build_160 : decode cL_build 160 = .ok (.invokestatic 15, 3) := by decide +kernel
theorem dL_build_163 : decode cL_build 163 = .ok (.iadd, 1) := by decide +kernel
theorem dL_build_164 : decode cL_build 164 = .ok (.goto 56, 3) := by decide +kernel
theorem dL_build_167 : decode cL_build 167 = .ok (.iload 5, 2) := by decide +kernel
theorem dL_build_169 : decode cL_build 169 = .ok (.iconst 3, 1) := by decide +kernel
theorem dL_build_170 : decode cL_build 170 = .ok (.if_icmp .ne 19, 3) := by decide +kernel
theorem dL_build_173 : decode cL_build 173 = .ok (.iload 12, 2) := by decide +kernel
theorem dL_build_175 : decode cL_build 175 = .ok (.iconst 2, 1) := by decide +kernel
theorem dL_build_176 : decode cL_build 176 = .ok (.irem, 1) := by decide +kernel
theorem dL_build_177 : decode cL_build 177 = .ok (.iconst 1, 1) := by decide +kernel
theorem dL_build_178 : decode cL_build 178 = .ok (.iload 13, 2) := by decide +kernel
theorem dL_build_180 : decode cL_build 180 = .ok (.iconst 2, 1) := by decide +kernel
theorem dL_build_181 : decode cL_build 181 = .ok (.invokestatic 15, 3) := by decide +kernel
theorem dL_build_184 : decode cL_build 184 = .ok (.iadd, 1) := by decide +kernel
theorem dL_build_185 : decode cL_build 185 = .ok (.imul, 1) := by decide +kernel
theorem dL_build_186 : decode cL_build 186 = .ok (.goto 34, 3) := by decide +kernel
theorem dL_build_189 : decode cL_build 189 = .ok (.iload 5, 2) := by decide +kernel
theorem dL_build_191 : decode cL_build 191 = .ok (.iconst 4, 1) := by decide +kernel
theorem dL_build_192 : decode cL_build 192 = .ok (.if_icmp .ne 22, 3) := by decide +kernel
theorem dL_build_195 : decode cL_build 195 = .ok (.iload 8, 2) := by decide +kernel
theorem dL_build_197 : decode cL_build 197 = .ok (.iconst 3, 1) := by decide +kernel
theorem dL_build_198 : decode cL_build 198 = .ok (.ishr, 1) := by decide +kernel
theorem dL_build_199 : decode cL_build 199 = .ok (.iconst 2, 1) := by decide +kernel
theorem dL_build_200 : decode cL_build 200 = .ok (.invokestatic 15, 3) := by decide +kernel
theorem dL_build_203 : decode cL_build 203 = .ok (.iconst 4, 1) := by decide +kernel
theorem dL_build_204 : decode cL_build 204 = .ok (.imul, 1) := by decide +kernel
theorem dL_build_205 : decode cL_build 205 = .ok (.iload 12, 2) := by decide +kernel
theorem dL_build_207 : decode cL_build 207 = .ok (.iadd, 1) := by decide +kernel
theorem dL_build_208 : decode cL_build 208 = .ok (.bipush 8, 2) := by decide +kernel
theorem dL_build_210 : decode cL_build 210 = .ok (.irem, 1) := by decide +kernel
theorem dL_build_211 : decode cL_build 211 = .ok (.goto 9, 3) := by decide +kernel
theorem dL_build_214 : decode cL_build 214 = .ok (.iload 13, 2) := by decide +kernel
theorem dL_build_216 : decode cL_build 216 = .ok (.iconst 3, 1) := by decide +kernel
theorem dL_build_217 : decode cL_build 217 = .ok (.invokestatic 15, 3) := by decide +kernel
theorem dL_build_220 : decode cL_build 220 = .ok (.istore 14, 2) := by decide +kernel
theorem dL_build_222 : decode cL_build 222 = .ok (.aload 10, 2) := by decide +kernel
theorem dL_build_224 : decode cL_build 224 = .ok (.iload 11, 2) := by decide +kernel
theorem dL_build_226 : decode cL_build 226 = .ok (.iload 14, 2) := by decide +kernel
theorem dL_build_228 : decode cL_build 228 = .ok (.iastore, 1) := by decide +kernel
theorem dL_build_229 : decode cL_build 229 = .ok (.iinc 11 1, 3) := by decide +kernel
theorem dL_build_232 : decode cL_build 232 = .ok (.iinc 12 1, 3) := by decide +kernel
theorem dL_build_235 : decode cL_build 235 = .ok (.goto (-156), 3) := by decide +kernel
theorem dL_build_238 : decode cL_build 238 = .ok (.iload 5, 2) := by decide +kernel
theorem dL_build_240 : decode cL_build 240 = .ok (.iconst 3, 1) := by decide +kernel
theorem dL_build_241 : decode cL_build 241 = .ok (.if_icmp .ne 18, 3) := by decide +kernel
theorem dL_build_244 : decode cL_build 244 = .ok (.iload 11, 2) := by decide +kernel
theorem dL_build_246 : decode cL_build 246 = .ok (.iconst 2, 1) := by decide +kernel
theorem dL_build_247 : decode cL_build 247 = .ok (.irem, 1) := by decide +kernel
theorem dL_build_248 : decode cL_build 248 = .ok (.ifCond .ne 11, 3) := by decide +kernel
theorem dL_build_251 : decode cL_build 251 = .ok (.iload 11, 2) := by decide +kernel
theorem dL_build_253 : decode cL_build 253 = .ok (.ifCond .le 6, 3) := by decide +kernel
theorem dL_build_256 : decode cL_build 256 = .ok (.iinc 11 (-1), 3) := by decide +kernel
theorem dL_build_259 : decode cL_build 259 = .ok (.aload_n 3, 1) := by decide +kernel
theorem dL_build_260 : decode cL_build 260 = .ok (.iload 7, 2) := by decide +kernel
theorem dL_build_262 : decode cL_build 262 = .ok (.iload 11, 2) := by decide +kernel
theorem dL_build_264 : decode cL_build 264 = .ok (.newarray .int, 2) := by decide +kernel
theorem dL_build_266 : decode cL_build 266 = .ok (.aastore, 1) := by decide +kernel
theorem dL_build_267 : decode cL_build 267 = .ok (.iconst 0, 1) := by decide +kernel
theorem dL_build_268 : decode cL_build 268 = .ok (.istore 12, 2) := by decide +kernel
theorem dL_build_270 : decode cL_build 270 = .ok (.iload 12, 2) := by decide +kernel
theorem dL_build_272 : decode cL_build 272 = .ok (.iload 11, 2) := by decide +kernel
theorem dL_build_274 : decode cL_build 274 = .ok (.if_icmp .ge 39, 3) := by decide +kernel
theorem dL_build_277 : decode cL_build 277 = .ok (.aload_n 3, 1) := by decide +kernel
theorem dL_build_278 : decode cL_build 278 = .ok (.iload 7, 2) := by decide +kernel
theorem dL_build_280 : decode cL_build 280 = .ok (.aaload, 1) := by decide +kernel
theorem dL_build_281 : decode cL_build 281 = .ok (.iload 12, 2) := by decide +kernel
theorem dL_build_283 : decode cL_build 283 = .ok (.aload 10, 2) := by decide +kernel
theorem dL_build_285 : decode cL_build 285 = .ok (.iload 12, 2) := by decide +kernel
theorem dL_build_287 : decode cL_build 287 = .ok (.iaload, 1) := by decide +kernel
theorem dL_build_288 : decode cL_build 288 = .ok (.iastore, 1) := by decide +kernel
theorem dL_build_289 : decode cL_build 289 = .ok (.aload_n 0, 1) := by decide +kernel
theorem dL_build_290 : decode cL_build 290 = .ok (.aload 10, 2) := by decide +kernel
theorem dL_build_292 : decode cL_build 292 = .ok (.iload 12, 2) := by decide +kernel
theorem dL_build_294 : decode cL_build 294 = .ok (.iaload, 1) := by decide +kernel
theorem dL_build_295 : decode cL_build 295 = .ok (.invokevirtual 19, 3) := by decide +kernel
theorem dL_build_298 : decode cL_build 298 = .ok (.iload 12, 2) := by decide +kernel
theorem dL_build_300 : decode cL_build 300 = .ok (.iconst 1, 1) := by decide +kernel
theorem dL_build_301 : decode cL_build 301 = .ok (.iadd, 1) := by decide +kernel
theorem dL_build_302 : decode cL_build 302 = .ok (.if_icmp .eq 5, 3) := by decide +kernel
theorem dL_build_305 : decode cL_build 305 = .ok (.iconst (-1), 1) := by decide +kernel
theorem dL_build_306 : decode cL_build 306 = .ok (.ireturn, 1) := by decide +kernel
theorem dL_build_307 : decode cL_build 307 = .ok (.iinc 12 1, 3) := by decide +kernel
theorem dL_build_310 : decode cL_build 310 = .ok (.goto (-40), 3) := by decide +kernel
theorem dL_build_313 : decode cL_build 313 = .ok (.aload 4, 2) := by decide +kernel
theorem dL_build_315 : decode cL_build 315 = .ok (.iload 7, 2) := by decide +kernel
theorem dL_build_317 : decode cL_build 317 = .ok (.iload 8, 2) := by decide +kernel
theorem dL_build_319 : decode cL_build 319 = .ok (.bipush 21, 2) := by decide +kernel
theorem dL_build_321 : decode cL_build 321 = .ok (.ishr, 1) := by decide +kernel
theorem dL_build_322 : decode cL_build 322 = .ok (.bipush 6, 2) := by decide +kernel
theorem dL_build_324 : decode cL_build 324 = .ok (.invokestatic 15, 3) := by decide +kernel
theorem dL_build_327 : decode cL_build 327 = .ok (.ifCond .ne 7, 3) := by decide +kernel
theorem dL_build_330 : decode cL_build 330 = .ok (.iconst 0, 1) := by decide +kernel
theorem dL_build_331 : decode cL_build 331 = .ok (.goto 14, 3) := by decide +kernel
theorem dL_build_334 : decode cL_build 334 = .ok (.iconst 1, 1) := by decide +kernel
theorem dL_build_335 : decode cL_build 335 = .ok (.iload 8, 2) := by decide +kernel
theorem dL_build_337 : decode cL_build 337 = .ok (.bipush 24, 2) := by decide +kernel
theorem dL_build_339 : decode cL_build 339 = .ok (.ishr, 1) := by decide +kernel
theorem dL_build_340 : decode cL_build 340 = .ok (.iconst 5, 1) := by decide +kernel
theorem dL_build_341 : decode cL_build 341 = .ok (.invokestatic 15, 3) := by decide +kernel
theorem dL_build_344 : decode cL_build 344 = .ok (.iadd, 1) := by decide +kernel
theorem dL_build_345 : decode cL_build 345 = .ok (.iastore, 1) := by decide +kernel
theorem dL_build_346 : decode cL_build 346 = .ok (.aload_n 0, 1) := by decide +kernel
theorem dL_build_347 : decode cL_build 347 = .ok (.aload 4, 2) := by decide +kernel
theorem dL_build_349 : decode cL_build 349 = .ok (.iload 7, 2) := by decide +kernel
theorem dL_build_351 : decode cL_build 351 = .ok (.iaload, 1) := by decide +kernel
theorem dL_build_352 : decode cL_build 352 = .ok (.invokevirtual 25, 3) := by decide +kernel
theorem dL_build_355 : decode cL_build 355 = .ok (.iload 7, 2) := by decide +kernel
theorem dL_build_357 : decode cL_build 357 = .ok (.if_icmp .eq 5, 3) := by decide +kernel
theorem dL_build_360 : decode cL_build 360 = .ok (.iconst (-1), 1) := by decide +kernel
theorem dL_build_361 : decode cL_build 361 = .ok (.ireturn, 1) := by decide +kernel
theorem dL_build_362 : decode cL_build 362 = .ok (.iinc 7 1, 3) := by decide +kernel
theorem dL_build_365 : decode cL_build 365 = .ok (.goto (-336), 3) := by decide +kernel
theorem dL_build_368 : decode cL_build 368 = .ok (.aload_n 0, 1) := by decide +kernel
theorem dL_build_369 : decode cL_build 369 = .ok (.invokevirtual 28, 3) := by decide +kernel
theorem dL_build_372 : decode cL_build 372 = .ok (.iload 6, 2) := by decide +kernel
theorem dL_build_374 : decode cL_build 374 = .ok (.if_icmp .ne 8, 3) := by decide +kernel
theorem dL_build_377 : decode cL_build 377 = .ok (.iload 6, 2) := by decide +kernel
theorem dL_build_379 : decode cL_build 379 = .ok (.goto 4, 3) := by decide +kernel
theorem dL_build_382 : decode cL_build 382 = .ok (.iconst (-1), 1) := by decide +kernel
theorem dL_build_383 : decode cL_build 383 = .ok (.ireturn, 1) := by decide +kernel
theorem dL_law_0 : decode cL_law 0 = .ok (.new 20, 3) := by decide +kernel
theorem dL_law_3 : decode cL_law 3 = .ok (.dup, 1) := by decide +kernel
theorem dL_law_4 : decode cL_law 4 = .ok (.invokespecial 32, 3) := by decide +kernel
theorem dL_law_7 : decode cL_law 7 = .ok (.astore_n 1, 1) := by decide +kernel
theorem dL_law_8 : decode cL_law 8 = .ok (.bipush 8, 2) := by decide +kernel
theorem dL_law_10 : decode cL_law 10 = .ok (.anewarray 33, 3) := by decide +kernel
theorem dL_law_13 : decode cL_law 13 = .ok (.astore_n 2, 1) := by decide +kernel
theorem dL_law_14 : decode cL_law 14 = .ok (.bipush 8, 2) := by decide +kernel
theorem dL_law_16 : decode cL_law 16 = .ok (.newarray .int, 2) := by decide +kernel
theorem dL_law_18 : decode cL_law 18 = .ok (.astore_n 3, 1) := by decide +kernel
theorem dL_law_19 : decode cL_law 19 = .ok (.aload_n 1, 1) := by decide +kernel
theorem dL_law_20 : decode cL_law 20 = .ok (.aload_n 0, 1) := by decide +kernel
theorem dL_law_21 : decode cL_law 21 = .ok (.iconst 0, 1) := by decide +kernel
theorem dL_law_22 : decode cL_law 22 = .ok (.aload_n 2, 1) := by decide +kernel
theorem dL_law_23 : decode cL_law 23 = .ok (.aload_n 3, 1) := by decide +kernel
theorem dL_law_24 : decode cL_law 24 = .ok (.invokestatic 35, 3) := by decide +kernel
theorem dL_law_27 : decode cL_law 27 = .ok (.istore 4, 2) := by decide +kernel
theorem dL_law_29 : decode cL_law 29 = .ok (.iload 4, 2) := by decide +kernel
theorem dL_law_31 : decode cL_law 31 = .ok (.ifCond .ge 5, 3) := by decide +kernel
theorem dL_law_34 : decode cL_law 34 = .ok (.iconst 0, 1) := by decide +kernel
theorem dL_law_35 : decode cL_law 35 = .ok (.ireturn, 1) := by decide +kernel
theorem dL_law_36 : decode cL_law 36 = .ok (.aload_n 1, 1) := by decide +kernel
theorem dL_law_37 : decode cL_law 37 = .ok (.invokevirtual 39, 3) := by decide +kernel
theorem dL_law_40 : decode cL_law 40 = .ok (.pop, 1) := by decide +kernel
theorem dL_law_41 : decode cL_law 41 = .ok (.iconst 0, 1) := by decide +kernel
theorem dL_law_42 : decode cL_law 42 = .ok (.istore 5, 2) := by decide +kernel
theorem dL_law_44 : decode cL_law 44 = .ok (.aload_n 1, 1) := by decide +kernel
theorem dL_law_45 : decode cL_law 45 = .ok (.iconst 0, 1) := by decide +kernel
theorem dL_law_46 : decode cL_law 46 = .ok (.invokevirtual 42, 3) := by decide +kernel
theorem dL_law_49 : decode cL_law 49 = .ok (.istore 6, 2) := by decide +kernel
theorem dL_law_51 : decode cL_law 51 = .ok (.iconst 0, 1) := by decide +kernel
theorem dL_law_52 : decode cL_law 52 = .ok (.istore 7, 2) := by decide +kernel
theorem dL_law_54 : decode cL_law 54 = .ok (.iload 7, 2) := by decide +kernel
theorem dL_law_56 : decode cL_law 56 = .ok (.iload 4, 2) := by decide +kernel
theorem dL_law_58 : decode cL_law 58 = .ok (.if_icmp .ge 61, 3) := by decide +kernel
theorem dL_law_61 : decode cL_law 61 = .ok (.aload_n 1, 1) := by decide +kernel
theorem dL_law_62 : decode cL_law 62 = .ok (.iload 7, 2) := by decide +kernel
theorem dL_law_64 : decode cL_law 64 = .ok (.invokevirtual 45, 3) := by decide +kernel
theorem dL_law_67 : decode cL_law 67 = .ok (.istore 8, 2) := by decide +kernel
theorem dL_law_69 : decode cL_law 69 = .ok (.aload_n 3, 1) := by decide +kernel
theorem dL_law_70 : decode cL_law 70 = .ok (.iload 7, 2) := by decide +kernel
theorem dL_law_72 : decode cL_law 72 = .ok (.iaload, 1) := by decide +kernel
theorem dL_law_73 : decode cL_law 73 = .ok (.ifCond .le 8, 3) := by decide +kernel
theorem dL_law_76 : decode cL_law 76 = .ok (.iload 8, 2) := by decide +kernel
theorem dL_law_78 : decode cL_law 78 = .ok (.ifCond .eq 18, 3) := by decide +kernel
theorem dL_law_81 : decode cL_law 81 = .ok (.iload 8, 2) := by decide +kernel
theorem dL_law_83 : decode cL_law 83 = .ok (.ifCond .eq 15, 3) := by decide +kernel
theorem dL_law_86 : decode cL_law 86 = .ok (.aload_n 2, 1) := by decide +kernel
theorem dL_law_87 : decode cL_law 87 = .ok (.iload 7, 2) := by decide +kernel
theorem dL_law_89 : decode cL_law 89 = .ok (.aaload, 1) := by decide +kernel
theorem dL_law_90 : decode cL_law 90 = .ok (.arraylength, 1) := by decide +kernel
theorem dL_law_91 : decode cL_law 91 = .ok (.iload 6, 2) := by decide +kernel
theorem dL_law_93 : decode cL_law 93 = .ok (.if_icmp .ge 5, 3) := by decide +kernel
theorem dL_law_96 : decode cL_law 96 = .ok (.iconst 0, 1) := by decide +kernel
theorem dL_law_97 : decode cL_law 97 = .ok (.ireturn, 1) := by decide +kernel
theorem dL_law_98 : decode cL_law 98 = .ok (.iload 5, 2) := by decide +kernel
theorem dL_law_100 : decode cL_law 100 = .ok (.iload 8, 2) := by decide +kernel
theorem dL_law_102 : decode cL_law 102 = .ok (.ifCond .eq 7, 3) := by decide +kernel
theorem dL_law_105 : decode cL_law 105 = .ok (.iconst 1, 1) := by decide +kernel
theorem dL_law_106 : decode cL_law 106 = .ok (.goto 4, 3) := by decide +kernel
theorem dL_law_109 : decode cL_law 109 = .ok (.iconst 0, 1) := by decide +kernel
theorem dL_law_110 : decode cL_law 110 = .ok (.iadd, 1) := by decide +kernel
theorem dL_law_111 : decode cL_law 111 = .ok (.istore 5, 2) := by decide +kernel
theorem dL_law_113 : decode cL_law 113 = .ok (.iinc 7 1, 3) := by decide +kernel
theorem dL_law_116 : decode cL_law 116 = .ok (.goto (-62), 3) := by decide +kernel
theorem dL_law_119 : decode cL_law 119 = .ok (.iload 4, 2) := by decide +kernel
theorem dL_law_121 : decode cL_law 121 = .ok (.ifCond .le 18, 3) := by decide +kernel
theorem dL_law_124 : decode cL_law 124 = .ok (.aload_n 1, 1) := by decide +kernel
theorem dL_law_125 : decode cL_law 125 = .ok (.invokevirtual 49, 3) := by decide +kernel
theorem dL_law_128 : decode cL_law 128 = .ok (.iload 5, 2) := by decide +kernel
theorem dL_law_130 : decode cL_law 130 = .ok (.i2d, 1) := by decide +kernel
theorem dL_law_131 : decode cL_law 131 = .ok (.iload 4, 2) := by decide +kernel
theorem dL_law_133 : decode cL_law 133 = .ok (.i2d, 1) := by decide +kernel
theorem dL_law_134 : decode cL_law 134 = .ok (.ddiv, 1) := by decide +kernel
theorem dL_law_135 : decode cL_law 135 = .ok (.dcmp .l, 1) := by decide +kernel
theorem dL_law_136 : decode cL_law 136 = .ok (.ifCond .ne 15, 3) := by decide +kernel
theorem dL_law_139 : decode cL_law 139 = .ok (.aload_n 1, 1) := by decide +kernel
theorem dL_law_140 : decode cL_law 140 = .ok (.iconst 0, 1) := by decide +kernel
theorem dL_law_141 : decode cL_law 141 = .ok (.invokevirtual 53, 3) := by decide +kernel
theorem dL_law_144 : decode cL_law 144 = .ok (.aload_n 1, 1) := by decide +kernel
theorem dL_law_145 : decode cL_law 145 = .ok (.invokevirtual 56, 3) := by decide +kernel
theorem dL_law_148 : decode cL_law 148 = .ok (.if_icmp .eq 5, 3) := by decide +kernel
theorem dL_law_151 : decode cL_law 151 = .ok (.iconst 0, 1) := by decide +kernel
theorem dL_law_152 : decode cL_law 152 = .ok (.ireturn, 1) := by decide +kernel
theorem dL_law_153 : decode cL_law 153 = .ok (.iconst 0, 1) := by decide +kernel
theorem dL_law_154 : decode cL_law 154 = .ok (.istore 7, 2) := by decide +kernel
theorem dL_law_156 : decode cL_law 156 = .ok (.iload 7, 2) := by decide +kernel
theorem dL_law_158 : decode cL_law 158 = .ok (.iconst 4, 1) := by decide +kernel
theorem dL_law_159 : decode cL_law 159 = .ok (.if_icmp .ge 43, 3) := by decide +kernel
theorem dL_law_162 : decode cL_law 162 = .ok (.iload 7, 2) := by decide +kernel
theorem dL_law_164 : decode cL_law 164 = .ok (.iload 6, 2) := by decide +kernel
theorem dL_law_166 : decode cL_law 166 = .ok (.if_icmp .ge 12, 3) := by decide +kernel
theorem dL_law_169 : decode cL_law 169 = .ok (.aload_n 1, 1) := by decide +kernel
theorem dL_law_170 : decode cL_law 170 = .ok (.iload 7, 2) := by decide +kernel
theorem dL_law_172 : decode cL_law 172 = .ok (.invokevirtual 59, 3) := by decide +kernel
theorem dL_law_175 : decode cL_law 175 = .ok (.ifCond .ne 19, 3) := by decide +kernel
theorem dL_law_178 : decode cL_law 178 = .ok (.iload 7, 2) := by decide +kernel
theorem dL_law_180 : decode cL_law 180 = .ok (.iload 6, 2) := by decide +kernel
theorem dL_law_182 : decode cL_law 182 = .ok (.if_icmp .ne 14, 3) := by decide +kernel
theorem dL_law_185 : decode cL_law 185 = .ok (.aload_n 1, 1) := by decide +kernel
theorem dL_law_186 : decode cL_law 186 = .ok (.iload 7, 2) := by decide +kernel
theorem dL_law_188 : decode cL_law 188 = .ok (.invokevirtual 59, 3) := by decide +kernel
theorem dL_law_191 : decode cL_law 191 = .ok (.ifCond .ne 5, 3) := by decide +kernel
theorem dL_law_194 : decode cL_law 194 = .ok (.iconst 0, 1) := by decide +kernel
theorem dL_law_195 : decode cL_law 195 = .ok (.ireturn, 1) := by decide +kernel
theorem dL_law_196 : decode cL_law 196 = .ok (.iinc 7 1, 3) := by decide +kernel
theorem dL_law_199 : decode cL_law 199 = .ok (.goto (-43), 3) := by decide +kernel
theorem dL_law_202 : decode cL_law 202 = .ok (.bipush 8, 2) := by decide +kernel
theorem dL_law_204 : decode cL_law 204 = .ok (.newarray .int, 2) := by decide +kernel
theorem dL_law_206 : decode cL_law 206 = .ok (.astore 7, 2) := by decide +kernel
theorem dL_law_208 : decode cL_law 208 = .ok (.iconst 0, 1) := by decide +kernel
theorem dL_law_209 : decode cL_law 209 = .ok (.istore 8, 2) := by decide +kernel
theorem dL_law_211 : decode cL_law 211 = .ok (.iconst 0, 1) := by decide +kernel
theorem dL_law_212 : decode cL_law 212 = .ok (.istore 9, 2) := by decide +kernel
theorem dL_law_214 : decode cL_law 214 = .ok (.iload 9, 2) := by decide +kernel
theorem dL_law_216 : decode cL_law 216 = .ok (.aload_n 1, 1) := by decide +kernel
theorem dL_law_217 : decode cL_law 217 = .ok (.invokevirtual 39, 3) := by decide +kernel
theorem dL_law_220 : decode cL_law 220 = .ok (.if_icmp .ge 57, 3) := by decide +kernel
theorem dL_law_223 : decode cL_law 223 = .ok (.aload_n 1, 1) := by decide +kernel
theorem dL_law_224 : decode cL_law 224 = .ok (.iload 9, 2) := by decide +kernel
theorem dL_law_226 : decode cL_law 226 = .ok (.invokevirtual 62, 3) := by decide +kernel
theorem dL_law_229 : decode cL_law 229 = .ok (.bipush 6, 2) := by decide +kernel
theorem dL_law_231 : decode cL_law 231 = .ok (.if_icmp .ne 14, 3) := by decide +kernel
theorem dL_law_234 : decode cL_law 234 = .ok (.iload 8, 2) := by decide +kernel
theorem dL_law_236 : decode cL_law 236 = .ok (.aload_n 1, 1) := by decide +kernel
theorem dL_law_237 : decode cL_law 237 = .ok (.iload 9, 2) := by decide +kernel
theorem dL_law_239 : decode cL_law 239 = .ok (.invokevirtual 53, 3) := by decide +kernel
theorem dL_law_242 : decode cL_law 242 = .ok (.ior, 1) := by decide +kernel
theorem dL_law_243 : decode cL_law 243 = .ok (.istore 8, 2) := by decide +kernel
theorem dL_law_245 : decode cL_law 245 = .ok (.aload_n 1, 1) := by decide +kernel
theorem dL_law_246 : decode cL_law 246 = .ok (.iload 9, 2) := by decide +kernel
theorem dL_law_248 : decode cL_law 248 = .ok (.invokevirtual 62, 3) := by decide +kernel
theorem dL_law_251 : decode cL_law 251 = .ok (.iconst 1, 1) := by decide +kernel
theorem dL_law_252 : decode cL_law 252 = .ok (.if_icmp .ne 19, 3) := by decide +kernel
theorem dL_law_255 : decode cL_law 255 = .ok (.aload 7, 2) := by decide +kernel
theorem dL_law_257 : decode cL_law 257 = .ok (.aload_n 1, 1) := by decide +kernel
theorem dL_law_258 : decode cL_law 258 = .ok (.iload 9, 2) := by decide +kernel
theorem dL_law_260 : decode cL_law 260 = .ok (.invokevirtual 53, 3) := by decide +kernel
theorem dL_law_263 : decode cL_law 263 = .ok (.invokestatic 65, 3) := by decide +kernel
theorem dL_law_266 : decode cL_law 266 = .ok (.dup2, 1) := by decide +kernel
theorem dL_law_267 : decode cL_law 267 = .ok (.iaload, 1) := by decide +kernel
theorem dL_law_268 : decode cL_law 268 = .ok (.iconst 1, 1) := by decide +kernel
theorem dL_law_269 : decode cL_law 269 = .ok (.iadd, 1) := by decide +kernel
theorem dL_law_270 : decode cL_law 270 = .ok (.iastore, 1) := by decide +kernel
theorem dL_law_271 : decode cL_law 271 = .ok (.iinc 9 1, 3) := by decide +kernel
theorem dL_law_274 : decode cL_law 274 = .ok (.goto (-60), 3) := by decide +kernel
theorem dL_law_277 : decode cL_law 277 = .ok (.iconst 0, 1) := by decide +kernel
theorem dL_law_278 : decode cL_law 278 = .ok (.istore 9, 2) := by decide +kernel
theorem dL_law_280 : decode cL_law 280 = .ok (.iload 9, 2) := by decide +kernel
theorem dL_law_282 : decode cL_law 282 = .ok (.bipush 8, 2) := by decide +kernel
theorem dL_law_284 : decode cL_law 284 = .ok (.if_icmp .ge 33, 3) := by decide +kernel
theorem dL_law_287 : decode cL_law 287 = .ok (.aload 7, 2) := by decide +kernel
theorem dL_law_289 : decode cL_law 289 = .ok (.iload 9, 2) := by decide +kernel
theorem dL_law_291 : decode cL_law 291 = .ok (.iaload, 1) := by decide +kernel
theorem dL_law_292 : decode cL_law 292 = .ok (.aload_n 1, 1) := by decide +kernel
theorem dL_law_293 : decode cL_law 293 = .ok (.invokevirtual 56, 3) := by decide +kernel
theorem dL_law_296 : decode cL_law 296 = .ok (.iload 8, 2) := by decide +kernel
theorem dL_law_298 : decode cL_law 298 = .ok (.iconst (-1), 1) := by decide +kernel
theorem dL_law_299 : decode cL_law 299 = .ok (.ixor, 1) := by decide +kernel
theorem dL_law_300 : decode cL_law 300 = .ok (.iand, 1) := by decide +kernel
theorem dL_law_301 : decode cL_law 301 = .ok (.iload 9, 2) := by decide +kernel
theorem dL_law_303 : decode cL_law 303 = .ok (.ishr, 1) := by decide +kernel
theorem dL_law_304 : decode cL_law 304 = .ok (.iconst 1, 1) := by decide +kernel
theorem dL_law_305 : decode cL_law 305 = .ok (.iand, 1) := by decide +kernel
theorem dL_law_306 : decode cL_law 306 = .ok (.if_icmp .eq 5, 3) := by decide +kernel
theorem dL_law_309 : decode cL_law 309 = .ok (.iconst 0, 1) := by decide +kernel
theorem dL_law_310 : decode cL_law 310 = .ok (.ireturn, 1) := by decide +kernel
theorem dL_law_311 : decode cL_law 311 = .ok (.iinc 9 1, 3) := by decide +kernel
theorem dL_law_314 : decode cL_law 314 = .ok (.goto (-34), 3) := by decide +kernel
theorem dL_law_317 : decode cL_law 317 = .ok (.iconst 1, 1) := by decide +kernel
theorem dL_law_318 : decode cL_law 318 = .ok (.ireturn, 1) := by decide +kernel
