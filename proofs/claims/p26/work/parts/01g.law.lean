theorem dL_isLease_0 : decode cL_isLease 0 = .ok (.iconst 0, 1) := by decide +kernel
theorem dL_isLease_1 : decode cL_isLease 1 = .ok (.istore 5, 2) := by decide +kernel
theorem dL_isLease_3 : decode cL_isLease 3 = .ok (.bipush 30, 2) := by decide +kernel
theorem dL_isLease_5 : decode cL_isLease 5 = .ok (.iload 4, 2) := by decide +kernel
theorem dL_isLease_7 : decode cL_isLease 7 = .ok (.imul, 1) := by decide +kernel
theorem dL_isLease_8 : decode cL_isLease 8 = .ok (.istore 6, 2) := by decide +kernel
theorem dL_isLease_10 : decode cL_isLease 10 = .ok (.iconst 1, 1) := by decide +kernel
theorem dL_isLease_11 : decode cL_isLease 11 = .ok (.istore 7, 2) := by decide +kernel
theorem dL_isLease_13 : decode cL_isLease 13 = .ok (.iload 6, 2) := by decide +kernel
theorem dL_isLease_15 : decode cL_isLease 15 = .ok (.istore 8, 2) := by decide +kernel
theorem dL_isLease_17 : decode cL_isLease 17 = .ok (.iload 8, 2) := by decide +kernel
theorem dL_isLease_19 : decode cL_isLease 19 = .ok (.iload 6, 2) := by decide +kernel
theorem dL_isLease_21 : decode cL_isLease 21 = .ok (.bipush 30, 2) := by decide +kernel
theorem dL_isLease_23 : decode cL_isLease 23 = .ok (.iadd, 1) := by decide +kernel
theorem dL_isLease_24 : decode cL_isLease 24 = .ok (.if_icmp .ge 194, 3) := by decide +kernel
theorem dL_isLease_27 : decode cL_isLease 27 = .ok (.iload 7, 2) := by decide +kernel
theorem dL_isLease_29 : decode cL_isLease 29 = .ok (.ifCond .eq 189, 3) := by decide +kernel
theorem dL_isLease_32 : decode cL_isLease 32 = .ok (.aload_n 0, 1) := by decide +kernel
theorem dL_isLease_33 : decode cL_isLease 33 = .ok (.iload_n 3, 1) := by decide +kernel
theorem dL_isLease_34 : decode cL_isLease 34 = .ok (.iload 8, 2) := by decide +kernel
theorem dL_isLease_36 : decode cL_isLease 36 = .ok (.invokevirtual 37, 3) := by decide +kernel
theorem dL_isLease_39 : decode cL_isLease 39 = .ok (.istore 9, 2) := by decide +kernel
theorem dL_isLease_41 : decode cL_isLease 41 = .ok (.iload 8, 2) := by decide +kernel
theorem dL_isLease_43 : decode cL_isLease 43 = .ok (.aload_n 1, 1) := by decide +kernel
theorem dL_isLease_44 : decode cL_isLease 44 = .ok (.bipush 12, 2) := by decide +kernel
theorem dL_isLease_46 : decode cL_isLease 46 = .ok (.iload_n 3, 1) := by decide +kernel
theorem dL_isLease_47 : decode cL_isLease 47 = .ok (.iadd, 1) := by decide +kernel
theorem dL_isLease_48 : decode cL_isLease 48 = .ok (.iaload, 1) := by decide +kernel
theorem dL_isLease_49 : decode cL_isLease 49 = .ok (.if_icmp .lt 18, 3) := by decide +kernel
theorem dL_isLease_52 : decode cL_isLease 52 = .ok (.iload 8, 2) := by decide +kernel
theorem dL_isLease_54 : decode cL_isLease 54 = .ok (.aload_n 1, 1) := by decide +kernel
theorem dL_isLease_55 : decode cL_isLease 55 = .ok (.bipush 24, 2) := by decide +kernel
theorem dL_isLease_57 : decode cL_isLease 57 = .ok (.iload_n 3, 1) := by decide +kernel
theorem dL_isLease_58 : decode cL_isLease 58 = .ok (.iadd, 1) := by decide +kernel
theorem dL_isLease_59 : decode cL_isLease 59 = .ok (.iaload, 1) := by decide +kernel
theorem dL_isLease_60 : decode cL_isLease 60 = .ok (.if_icmp .ge 7, 3) := by decide +kernel
theorem dL_isLease_63 : decode cL_isLease 63 = .ok (.iconst 1, 1) := by decide +kernel
theorem dL_isLease_64 : decode cL_isLease 64 = .ok (.goto 4, 3) := by decide +kernel
theorem dL_isLease_67 : decode cL_isLease 67 = .ok (.iconst 0, 1) := by decide +kernel
theorem dL_isLease_68 : decode cL_isLease 68 = .ok (.istore 10, 2) := by decide +kernel
theorem dL_isLease_70 : decode cL_isLease 70 = .ok (.iload 10, 2) := by decide +kernel
theorem dL_isLease_72 : decode cL_isLease 72 = .ok (.ifCond .eq 22, 3) := by decide +kernel
theorem dL_isLease_75 : decode cL_isLease 75 = .ok (.iload 8, 2) := by decide +kernel
theorem dL_isLease_77 : decode cL_isLease 77 = .ok (.aload_n 1, 1) := by decide +kernel
theorem dL_isLease_78 : decode cL_isLease 78 = .ok (.bipush 12, 2) := by decide +kernel
theorem dL_isLease_80 : decode cL_isLease 80 = .ok (.iload_n 3, 1) := by decide +kernel
theorem dL_isLease_81 : decode cL_isLease 81 = .ok (.iadd, 1) := by decide +kernel
theorem dL_isLease_82 : decode cL_isLease 82 = .ok (.iaload, 1) := by decide +kernel
theorem dL_isLease_83 : decode cL_isLease 83 = .ok (.aload_n 2, 1) := by decide +kernel
theorem dL_isLease_84 : decode cL_isLease 84 = .ok (.iload_n 3, 1) := by decide +kernel
theorem dL_isLease_85 : decode cL_isLease 85 = .ok (.iaload, 1) := by decide +kernel
theorem dL_isLease_86 : decode cL_isLease 86 = .ok (.iadd, 1) := by decide +kernel
theorem dL_isLease_87 : decode cL_isLease 87 = .ok (.if_icmp .lt 7, 3) := by decide +kernel
theorem dL_isLease_90 : decode cL_isLease 90 = .ok (.iconst 1, 1) := by decide +kernel
theorem dL_isLease_91 : decode cL_isLease 91 = .ok (.goto 4, 3) := by decide +kernel
theorem dL_isLease_94 : decode cL_isLease 94 = .ok (.iconst 0, 1) := by decide +kernel
theorem dL_isLease_95 : decode cL_isLease 95 = .ok (.istore 11, 2) := by decide +kernel
theorem dL_isLease_97 : decode cL_isLease 97 = .ok (.iload 5, 2) := by decide +kernel
theorem dL_isLease_99 : decode cL_isLease 99 = .ok (.iload 9, 2) := by decide +kernel
theorem dL_isLease_101 : decode cL_isLease 101 = .ok (.iadd, 1) := by decide +kernel
theorem dL_isLease_102 : decode cL_isLease 102 = .ok (.istore 5, 2) := by decide +kernel
theorem dL_isLease_104 : decode cL_isLease 104 = .ok (.iload 11, 2) := by decide +kernel
theorem dL_isLease_106 : decode cL_isLease 106 = .ok (.ifCond .eq 12, 3) := by decide +kernel
theorem dL_isLease_109 : decode cL_isLease 109 = .ok (.iload 9, 2) := by decide +kernel
theorem dL_isLease_111 : decode cL_isLease 111 = .ok (.iconst 1, 1) := by decide +kernel
theorem dL_isLease_112 : decode cL_isLease 112 = .ok (.if_icmp .lt 97, 3) := by decide +kernel
theorem dL_isLease_115 : decode cL_isLease 115 = .ok (.goto 8, 3) := by decide +kernel
theorem dL_isLease_118 : decode cL_isLease 118 = .ok (.iload 9, 2) := by decide +kernel
theorem dL_isLease_120 : decode cL_isLease 120 = .ok (.ifCond .ne 89, 3) := by decide +kernel
theorem dL_isLease_123 : decode cL_isLease 123 = .ok (.aload_n 2, 1) := by decide +kernel
theorem dL_isLease_124 : decode cL_isLease 124 = .ok (.bipush 12, 2) := by decide +kernel
theorem dL_isLease_126 : decode cL_isLease 126 = .ok (.iload_n 3, 1) := by decide +kernel
theorem dL_isLease_127 : decode cL_isLease 127 = .ok (.iadd, 1) := by decide +kernel
theorem dL_isLease_128 : decode cL_isLease 128 = .ok (.iaload, 1) := by decide +kernel
theorem dL_isLease_129 : decode cL_isLease 129 = .ok (.ifCond .gt 19, 3) := by decide +kernel
theorem dL_isLease_132 : decode cL_isLease 132 = .ok (.iload 11, 2) := by decide +kernel
theorem dL_isLease_134 : decode cL_isLease 134 = .ok (.ifCond .eq 14, 3) := by decide +kernel
theorem dL_isLease_137 : decode cL_isLease 137 = .ok (.iload 9, 2) := by decide +kernel
theorem dL_isLease_139 : decode cL_isLease 139 = .ok (.aload_n 1, 1) := by decide +kernel
theorem dL_isLease_140 : decode cL_isLease 140 = .ok (.bipush 36, 2) := by decide +kernel
theorem dL_isLease_142 : decode cL_isLease 142 = .ok (.iload_n 3, 1) := by decide +kernel
theorem dL_isLease_143 : decode cL_isLease 143 = .ok (.iadd, 1) := by decide +kernel
theorem dL_isLease_144 : decode cL_isLease 144 = .ok (.iaload, 1) := by decide +kernel
theorem dL_isLease_145 : decode cL_isLease 145 = .ok (.if_icmp .lt 64, 3) := by decide +kernel
theorem dL_isLease_148 : decode cL_isLease 148 = .ok (.aload_n 2, 1) := by decide +kernel
theorem dL_isLease_149 : decode cL_isLease 149 = .ok (.bipush 24, 2) := by decide +kernel
theorem dL_isLease_151 : decode cL_isLease 151 = .ok (.iload_n 3, 1) := by decide +kernel
theorem dL_isLease_152 : decode cL_isLease 152 = .ok (.iadd, 1) := by decide +kernel
theorem dL_isLease_153 : decode cL_isLease 153 = .ok (.iaload, 1) := by decide +kernel
theorem dL_isLease_154 : decode cL_isLease 154 = .ok (.ifCond .gt 28, 3) := by decide +kernel
theorem dL_isLease_157 : decode cL_isLease 157 = .ok (.aload_n 2, 1) := by decide +kernel
theorem dL_isLease_158 : decode cL_isLease 158 = .ok (.bipush 12, 2) := by decide +kernel
theorem dL_isLease_160 : decode cL_isLease 160 = .ok (.iload_n 3, 1) := by decide +kernel
theorem dL_isLease_161 : decode cL_isLease 161 = .ok (.iadd, 1) := by decide +kernel
theorem dL_isLease_162 : decode cL_isLease 162 = .ok (.iaload, 1) := by decide +kernel
theorem dL_isLease_163 : decode cL_isLease 163 = .ok (.ifCond .gt 19, 3) := by decide +kernel
theorem dL_isLease_166 : decode cL_isLease 166 = .ok (.iload 11, 2) := by decide +kernel
theorem dL_isLease_168 : decode cL_isLease 168 = .ok (.ifCond .eq 14, 3) := by decide +kernel
theorem dL_isLease_171 : decode cL_isLease 171 = .ok (.iload 9, 2) := by decide +kernel
theorem dL_isLease_173 : decode cL_isLease 173 = .ok (.aload_n 1, 1) := by decide +kernel
theorem dL_isLease_174 : decode cL_isLease 174 = .ok (.bipush 36, 2) := by decide +kernel
theorem dL_isLease_176 : decode cL_isLease 176 = .ok (.iload_n 3, 1) := by decide +kernel
theorem dL_isLease_177 : decode cL_isLease 177 = .ok (.iadd, 1) := by decide +kernel
theorem dL_isLease_178 : decode cL_isLease 178 = .ok (.iaload, 1) := by decide +kernel
theorem dL_isLease_179 : decode cL_isLease 179 = .ok (.if_icmp .ne 30, 3) := by decide +kernel
theorem dL_isLease_182 : decode cL_isLease 182 = .ok (.aload_n 0, 1) := by decide +kernel
theorem dL_isLease_183 : decode cL_isLease 183 = .ok (.aload_n 1, 1) := by decide +kernel
theorem dL_isLease_184 : decode cL_isLease 184 = .ok (.iload_n 3, 1) := by decide +kernel
theorem dL_isLease_185 : decode cL_isLease 185 = .ok (.iaload, 1) := by decide +kernel
theorem dL_isLease_186 : decode cL_isLease 186 = .ok (.iload 8, 2) := by decide +kernel
theorem dL_isLease_188 : decode cL_isLease 188 = .ok (.invokevirtual 59, 3) := by decide +kernel
theorem dL_isLease_191 : decode cL_isLease 191 = .ok (.iload_n 3, 1) := by decide +kernel
theorem dL_isLease_192 : decode cL_isLease 192 = .ok (.if_icmp .ne 7, 3) := by decide +kernel
theorem dL_isLease_195 : decode cL_isLease 195 = .ok (.iconst 1, 1) := by decide +kernel
theorem dL_isLease_196 : decode cL_isLease 196 = .ok (.goto 4, 3) := by decide +kernel
theorem dL_isLease_199 : decode cL_isLease 199 = .ok (.iconst 0, 1) := by decide +kernel
theorem dL_isLease_200 : decode cL_isLease 200 = .ok (.iload 10, 2) := by decide +kernel
theorem dL_isLease_202 : decode cL_isLease 202 = .ok (.if_icmp .ne 7, 3) := by decide +kernel
theorem dL_isLease_205 : decode cL_isLease 205 = .ok (.iconst 1, 1) := by decide +kernel
theorem dL_isLease_206 : decode cL_isLease 206 = .ok (.goto 4, 3) := by decide +kernel
theorem dL_isLease_209 : decode cL_isLease 209 = .ok (.iconst 0, 1) := by decide +kernel
theorem dL_isLease_210 : decode cL_isLease 210 = .ok (.istore 7, 2) := by decide +kernel
theorem dL_isLease_212 : decode cL_isLease 212 = .ok (.iinc 8 1, 3) := by decide +kernel
theorem dL_isLease_215 : decode cL_isLease 215 = .ok (.goto (-198), 3) := by decide +kernel
theorem dL_isLease_218 : decode cL_isLease 218 = .ok (.aload_n 0, 1) := by decide +kernel
theorem dL_isLease_219 : decode cL_isLease 219 = .ok (.iload_n 3, 1) := by decide +kernel
theorem dL_isLease_220 : decode cL_isLease 220 = .ok (.iload 6, 2) := by decide +kernel
theorem dL_isLease_222 : decode cL_isLease 222 = .ok (.invokevirtual 72, 3) := by decide +kernel
theorem dL_isLease_225 : decode cL_isLease 225 = .ok (.istore 8, 2) := by decide +kernel
theorem dL_isLease_227 : decode cL_isLease 227 = .ok (.iload 8, 2) := by decide +kernel
theorem dL_isLease_229 : decode cL_isLease 229 = .ok (.iconst (-1), 1) := by decide +kernel
theorem dL_isLease_230 : decode cL_isLease 230 = .ok (.if_icmp .eq 14, 3) := by decide +kernel
theorem dL_isLease_233 : decode cL_isLease 233 = .ok (.iload 8, 2) := by decide +kernel
theorem dL_isLease_235 : decode cL_isLease 235 = .ok (.iload 6, 2) := by decide +kernel
theorem dL_isLease_237 : decode cL_isLease 237 = .ok (.sipush 200, 3) := by decide +kernel
theorem dL_isLease_240 : decode cL_isLease 240 = .ok (.iadd, 1) := by decide +kernel
theorem dL_isLease_241 : decode cL_isLease 241 = .ok (.if_icmp .le 12, 3) := by decide +kernel
theorem dL_isLease_244 : decode cL_isLease 244 = .ok (.iload 6, 2) := by decide +kernel
theorem dL_isLease_246 : decode cL_isLease 246 = .ok (.sipush 200, 3) := by decide +kernel
theorem dL_isLease_249 : decode cL_isLease 249 = .ok (.iadd, 1) := by decide +kernel
theorem dL_isLease_250 : decode cL_isLease 250 = .ok (.goto 5, 3) := by decide +kernel
theorem dL_isLease_253 : decode cL_isLease 253 = .ok (.iload 8, 2) := by decide +kernel
theorem dL_isLease_255 : decode cL_isLease 255 = .ok (.istore 9, 2) := by decide +kernel
theorem dL_isLease_257 : decode cL_isLease 257 = .ok (.iload 6, 2) := by decide +kernel
theorem dL_isLease_259 : decode cL_isLease 259 = .ok (.iconst 1, 1) := by decide +kernel
theorem dL_isLease_260 : decode cL_isLease 260 = .ok (.iadd, 1) := by decide +kernel
theorem dL_isLease_261 : decode cL_isLease 261 = .ok (.istore 10, 2) := by decide +kernel
theorem dL_isLease_263 : decode cL_isLease 263 = .ok (.iload 10, 2) := by decide +kernel
theorem dL_isLease_265 : decode cL_isLease 265 = .ok (.iload 9, 2) := by decide +kernel
theorem dL_isLease_267 : decode cL_isLease 267 = .ok (.if_icmp .ge 46, 3) := by decide +kernel
theorem dL_isLease_270 : decode cL_isLease 270 = .ok (.iload 10, 2) := by decide +kernel
theorem dL_isLease_272 : decode cL_isLease 272 = .ok (.sipush 7200, 3) := by decide +kernel
theorem dL_isLease_275 : decode cL_isLease 275 = .ok (.if_icmp .ge 38, 3) := by decide +kernel
theorem dL_isLease_278 : decode cL_isLease 278 = .ok (.iload 7, 2) := by decide +kernel
theorem dL_isLease_280 : decode cL_isLease 280 = .ok (.ifCond .eq 33, 3) := by decide +kernel
theorem dL_isLease_283 : decode cL_isLease 283 = .ok (.aload_n 0, 1) := by decide +kernel
theorem dL_isLease_284 : decode cL_isLease 284 = .ok (.iload_n 3, 1) := by decide +kernel
theorem dL_isLease_285 : decode cL_isLease 285 = .ok (.iload 10, 2) := by decide +kernel
theorem dL_isLease_287 : decode cL_isLease 287 = .ok (.invokevirtual 37, 3) := by decide +kernel
theorem dL_isLease_290 : decode cL_isLease 290 = .ok (.aload_n 0, 1) := by decide +kernel
theorem dL_isLease_291 : decode cL_isLease 291 = .ok (.iload_n 3, 1) := by decide +kernel
theorem dL_isLease_292 : decode cL_isLease 292 = .ok (.iload 6, 2) := by decide +kernel
theorem dL_isLease_294 : decode cL_isLease 294 = .ok (.invokevirtual 37, 3) := by decide +kernel
theorem dL_isLease_297 : decode cL_isLease 297 = .ok (.if_icmp .ne 7, 3) := by decide +kernel
theorem dL_isLease_300 : decode cL_isLease 300 = .ok (.iconst 1, 1) := by decide +kernel
theorem dL_isLease_301 : decode cL_isLease 301 = .ok (.goto 4, 3) := by decide +kernel
theorem dL_isLease_304 : decode cL_isLease 304 = .ok (.iconst 0, 1) := by decide +kernel
theorem dL_isLease_305 : decode cL_isLease 305 = .ok (.istore 7, 2) := by decide +kernel
theorem dL_isLease_307 : decode cL_isLease 307 = .ok (.iinc 10 1, 3) := by decide +kernel
theorem dL_isLease_310 : decode cL_isLease 310 = .ok (.goto (-47), 3) := by decide +kernel
theorem dL_isLease_313 : decode cL_isLease 313 = .ok (.iload 7, 2) := by decide +kernel
theorem dL_isLease_315 : decode cL_isLease 315 = .ok (.ifCond .eq 50, 3) := by decide +kernel
theorem dL_isLease_318 : decode cL_isLease 318 = .ok (.iload 8, 2) := by decide +kernel
theorem dL_isLease_320 : decode cL_isLease 320 = .ok (.iconst (-1), 1) := by decide +kernel
theorem dL_isLease_321 : decode cL_isLease 321 = .ok (.if_icmp .eq 40, 3) := by decide +kernel
theorem dL_isLease_324 : decode cL_isLease 324 = .ok (.iload 8, 2) := by decide +kernel
theorem dL_isLease_326 : decode cL_isLease 326 = .ok (.iload 6, 2) := by decide +kernel
theorem dL_isLease_328 : decode cL_isLease 328 = .ok (.if_icmp .le 37, 3) := by decide +kernel
theorem dL_isLease_331 : decode cL_isLease 331 = .ok (.aload_n 0, 1) := by decide +kernel
theorem dL_isLease_332 : decode cL_isLease 332 = .ok (.iload_n 3, 1) := by decide +kernel
theorem dL_isLease_333 : decode cL_isLease 333 = .ok (.iload 8, 2) := by decide +kernel
theorem dL_isLease_335 : decode cL_isLease 335 = .ok (.invokevirtual 37, 3) := by decide +kernel
theorem dL_isLease_338 : decode cL_isLease 338 = .ok (.aload_n 0, 1) := by decide +kernel
theorem dL_isLease_339 : decode cL_isLease 339 = .ok (.iload_n 3, 1) := by decide +kernel
theorem dL_isLease_340 : decode cL_isLease 340 = .ok (.iload 8, 2) := by decide +kernel
theorem dL_isLease_342 : decode cL_isLease 342 = .ok (.iconst 1, 1) := by decide +kernel
theorem dL_isLease_343 : decode cL_isLease 343 = .ok (.isub, 1) := by decide +kernel
theorem dL_isLease_344 : decode cL_isLease 344 = .ok (.invokevirtual 37, 3) := by decide +kernel
theorem dL_isLease_347 : decode cL_isLease 347 = .ok (.if_icmp .eq 18, 3) := by decide +kernel
theorem dL_isLease_350 : decode cL_isLease 350 = .ok (.iload 8, 2) := by decide +kernel
theorem dL_isLease_352 : decode cL_isLease 352 = .ok (.aload_n 1, 1) := by decide +kernel
theorem dL_isLease_353 : decode cL_isLease 353 = .ok (.bipush 24, 2) := by decide +kernel
theorem dL_isLease_355 : decode cL_isLease 355 = .ok (.iload_n 3, 1) := by decide +kernel
theorem dL_isLease_356 : decode cL_isLease 356 = .ok (.iadd, 1) := by decide +kernel
theorem dL_isLease_357 : decode cL_isLease 357 = .ok (.iaload, 1) := by decide +kernel
theorem dL_isLease_358 : decode cL_isLease 358 = .ok (.if_icmp .gt 7, 3) := by decide +kernel
theorem dL_isLease_361 : decode cL_isLease 361 = .ok (.iconst 1, 1) := by decide +kernel
theorem dL_isLease_362 : decode cL_isLease 362 = .ok (.goto 4, 3) := by decide +kernel
theorem dL_isLease_365 : decode cL_isLease 365 = .ok (.iconst 0, 1) := by decide +kernel
theorem dL_isLease_366 : decode cL_isLease 366 = .ok (.istore 7, 2) := by decide +kernel
theorem dL_isLease_368 : decode cL_isLease 368 = .ok (.iload 7, 2) := by decide +kernel
theorem dL_isLease_370 : decode cL_isLease 370 = .ok (.ifCond .eq 95, 3) := by decide +kernel
theorem dL_isLease_373 : decode cL_isLease 373 = .ok (.aload_n 0, 1) := by decide +kernel
theorem dL_isLease_374 : decode cL_isLease 374 = .ok (.iload_n 3, 1) := by decide +kernel
theorem dL_isLease_375 : decode cL_isLease 375 = .ok (.iload 4, 2) := by decide +kernel
theorem dL_isLease_377 : decode cL_isLease 377 = .ok (.invokevirtual 75, 3) := by decide +kernel
theorem dL_isLease_380 : decode cL_isLease 380 = .ok (.iload 5, 2) := by decide +kernel
theorem dL_isLease_382 : decode cL_isLease 382 = .ok (.bipush 30, 2) := by decide +kernel
theorem dL_isLease_384 : decode cL_isLease 384 = .ok (.idiv, 1) := by decide +kernel
theorem dL_isLease_385 : decode cL_isLease 385 = .ok (.if_icmp .ne 80, 3) := by decide +kernel
theorem dL_isLease_388 : decode cL_isLease 388 = .ok (.aload_n 0, 1) := by decide +kernel
theorem dL_isLease_389 : decode cL_isLease 389 = .ok (.iload_n 3, 1) := by decide +kernel
theorem dL_isLease_390 : decode cL_isLease 390 = .ok (.iload 4, 2) := by decide +kernel
theorem dL_isLease_392 : decode cL_isLease 392 = .ok (.invokevirtual 78, 3) := by decide +kernel
theorem dL_isLease_395 : decode cL_isLease 395 = .ok (.iload 5, 2) := by decide +kernel
theorem dL_isLease_397 : decode cL_isLease 397 = .ok (.bipush 30, 2) := by decide +kernel
theorem dL_isLease_399 : decode cL_isLease 399 = .ok (.idiv, 1) := by decide +kernel
theorem dL_isLease_400 : decode cL_isLease 400 = .ok (.if_icmp .ne 65, 3) := by decide +kernel
theorem dL_isLease_403 : decode cL_isLease 403 = .ok (.aload_n 0, 1) := by decide +kernel
theorem dL_isLease_404 : decode cL_isLease 404 = .ok (.iload_n 3, 1) := by decide +kernel
theorem dL_isLease_405 : decode cL_isLease 405 = .ok (.iload 4, 2) := by decide +kernel
theorem dL_isLease_407 : decode cL_isLease 407 = .ok (.iload 4, 2) := by decide +kernel
theorem dL_isLease_409 : decode cL_isLease 409 = .ok (.invokevirtual 81, 3) := by decide +kernel
theorem dL_isLease_412 : decode cL_isLease 412 = .ok (.iload 5, 2) := by decide +kernel
theorem dL_isLease_414 : decode cL_isLease 414 = .ok (.bipush 30, 2) := by decide +kernel
theorem dL_isLease_416 : decode cL_isLease 416 = .ok (.idiv, 1) := by decide +kernel
theorem dL_isLease_417 : decode cL_isLease 417 = .ok (.i2l, 1) := by decide +kernel
theorem dL_isLease_418 : decode cL_isLease 418 = .ok (.lcmp, 1) := by decide +kernel
theorem dL_isLease_419 : decode cL_isLease 419 = .ok (.ifCond .ne 46, 3) := by decide +kernel
theorem dL_isLease_422 : decode cL_isLease 422 = .ok (.aload_n 0, 1) := by decide +kernel
theorem dL_isLease_423 : decode cL_isLease 423 = .ok (.iload_n 3, 1) := by decide +kernel
theorem dL_isLease_424 : decode cL_isLease 424 = .ok (.iconst 0, 1) := by decide +kernel
theorem dL_isLease_425 : decode cL_isLease 425 = .ok (.sipush 239, 3) := by decide +kernel
theorem dL_isLease_428 : decode cL_isLease 428 = .ok (.invokevirtual 81, 3) := by decide +kernel
theorem dL_isLease_431 : decode cL_isLease 431 = .ok (.aload_n 0, 1) := by decide +kernel
theorem dL_isLease_432 : decode cL_isLease 432 = .ok (.iload_n 3, 1) := by decide +kernel
theorem dL_isLease_433 : decode cL_isLease 433 = .ok (.iconst 0, 1) := by decide +kernel
theorem dL_isLease_434 : decode cL_isLease 434 = .ok (.iload 4, 2) := by decide +kernel
theorem dL_isLease_436 : decode cL_isLease 436 = .ok (.invokevirtual 81, 3) := by decide +kernel
theorem dL_isLease_439 : decode cL_isLease 439 = .ok (.aload_n 0, 1) := by decide +kernel
theorem dL_isLease_440 : decode cL_isLease 440 = .ok (.iload_n 3, 1) := by decide +kernel
theorem dL_isLease_441 : decode cL_isLease 441 = .ok (.iload 4, 2) := by decide +kernel
theorem dL_isLease_443 : decode cL_isLease 443 = .ok (.sipush 239, 3) := by decide +kernel
theorem dL_isLease_446 : decode cL_isLease 446 = .ok (.invokevirtual 81, 3) := by decide +kernel
theorem dL_isLease_449 : decode cL_isLease 449 = .ok (.ladd, 1) := by decide +kernel
theorem dL_isLease_450 : decode cL_isLease 450 = .ok (.iload 5, 2) := by decide +kernel
theorem dL_isLease_452 : decode cL_isLease 452 = .ok (.bipush 30, 2) := by decide +kernel
theorem dL_isLease_454 : decode cL_isLease 454 = .ok (.idiv, 1) := by decide +kernel
theorem dL_isLease_455 : decode cL_isLease 455 = .ok (.i2l, 1) := by decide +kernel
theorem dL_isLease_456 : decode cL_isLease 456 = .ok (.lsub, 1) := by decide +kernel
theorem dL_isLease_457 : decode cL_isLease 457 = .ok (.lcmp, 1) := by decide +kernel
theorem dL_isLease_458 : decode cL_isLease 458 = .ok (.ifCond .ne 7, 3) := by decide +kernel
theorem dL_isLease_461 : decode cL_isLease 461 = .ok (.iconst 1, 1) := by decide +kernel
theorem dL_isLease_462 : decode cL_isLease 462 = .ok (.goto 4, 3) := by decide +kernel
theorem dL_isLease_465 : decode cL_isLease 465 = .ok (.iconst 0, 1) := by decide +kernel
theorem dL_isLease_466 : decode cL_isLease 466 = .ok (.ireturn, 1) := by decide +kernel
set_option maxRecDepth 20000 in
theorem ggL_isYear_X1_share : GoodIn wsL_isYear wsX1_share := goodIn_ca (goodIn_r _ [7, 8, 9, 10, 6, 11, 12, 13, 14, 15, 16, 17, 86, 87, 88, 89, 90] (by decide +kernel) (by decide +kernel)) (goodIn_sub (fun _ h => List.mem_cons_of_mem _ (List.mem_append_left _ (List.mem_append_right _ h))) (by decide +kernel))
set_option maxRecDepth 20000 in
theorem gL_isYear_X1_share : GoodIn wsL_isYear (wsV RL 85 RX1 yX1_share wsX1_share) := goodIn_app (goodIn_of _ (by decide +kernel)) ggL_isYear_X1_share
set_option maxRecDepth 20000 in
theorem ggL_isYear_X1_voids : GoodIn wsL_isYear wsX1_voids := goodIn_ca (goodIn_r _ [21, 8, 9, 10, 6, 11, 12, 13, 22, 23, 24, 25, 26, 27, 28, 29, 30, 31, 32, 33, 34, 35, 36, 37, 38, 39, 40, 86, 87, 88, 89, 90, 91, 92, 93, 94, 95, 96, 97, 98, 99, 100, 101, 102] (by decide +kernel) (by decide +kernel)) (goodIn_sub (fun _ h => List.mem_cons_of_mem _ (List.mem_append_left _ (List.mem_append_right _ h))) (by decide +kernel))
set_option maxRecDepth 20000 in
theorem gL_isYear_X1_voids : GoodIn wsL_isYear (wsV RL 89 RX1 yX1_voids wsX1_voids) := goodIn_app (goodIn_of _ (by decide +kernel)) ggL_isYear_X1_voids
set_option maxRecDepth 20000 in
theorem ggL_isYear_X1_part : GoodIn wsL_isYear wsX1_part := goodIn_ca (goodIn_r _ [44, 45, 46, 47, 48, 6, 49, 12, 13, 26, 9, 10, 11, 50, 51, 52, 53, 8, 54, 55, 34, 35, 36, 14, 15, 16, 17, 56, 57, 58, 30, 59, 60, 28, 29, 31, 32, 33, 37, 38, 39, 40, 61, 62, 63, 86, 87, 88, 89, 90, 91, 92, 93, 94, 95, 96, 97, 98, 99, 100, 101, 102] (by decide +kernel) (by decide +kernel)) (goodIn_sub (fun _ h => List.mem_cons_of_mem _ (List.mem_append_left _ (List.mem_append_right _ h))) (by decide +kernel))
set_option maxRecDepth 20000 in
theorem gL_isYear_X1_part : GoodIn wsL_isYear (wsV RL 92 RX1 yX1_part wsX1_part) := goodIn_app (goodIn_of _ (by decide +kernel)) ggL_isYear_X1_part
set_option maxRecDepth 20000 in
theorem ggL_isYear_X1_balance : GoodIn wsL_isYear wsX1_balance := goodIn_ca (goodIn_r _ [67, 45, 46, 47, 48, 6, 49, 12, 13, 26, 9, 10, 11, 56, 57, 58, 30, 59, 60, 28, 29, 31, 32, 33, 34, 35, 36, 37, 38, 39, 40, 50, 51, 52, 53, 8, 54, 55, 14, 15, 16, 17, 61, 62, 63, 86, 87, 88, 89, 90, 91, 92, 93, 94, 95, 96, 97, 98, 99, 100, 101, 102] (by decide +kernel) (by decide +kernel)) (goodIn_sub (fun _ h => List.mem_cons_of_mem _ (List.mem_append_left _ (List.mem_append_right _ h))) (by decide +kernel))
set_option maxRecDepth 20000 in
theorem gL_isYear_X1_balance : GoodIn wsL_isYear (wsV RL 95 RX1 yX1_balance wsX1_balance) := goodIn_app (goodIn_of _ (by decide +kernel)) ggL_isYear_X1_balance
set_option maxRecDepth 20000 in
theorem ggL_isYear_X1_owners : GoodIn wsL_isYear wsX1_owners := goodIn_ca (goodIn_r _ [71, 45, 26, 9, 10, 6, 11, 12, 13, 50, 51, 52, 53, 8, 54, 55, 34, 35, 36, 14, 15, 16, 17, 56, 57, 58, 30, 59, 60, 28, 29, 31, 32, 33, 37, 38, 39, 40, 61, 62, 63, 86, 87, 88, 89, 90, 91, 92, 93, 94, 95, 96, 97, 98, 99, 100, 101, 102] (by decide +kernel) (by decide +kernel)) (goodIn_sub (fun _ h => List.mem_cons_of_mem _ (List.mem_append_left _ (List.mem_append_right _ h))) (by decide +kernel))
set_option maxRecDepth 20000 in
theorem gL_isYear_X1_owners : GoodIn wsL_isYear (wsV RL 98 RX1 yX1_owners wsX1_owners) := goodIn_app (goodIn_of _ (by decide +kernel)) ggL_isYear_X1_owners
set_option maxRecDepth 20000 in
theorem ggL_isYear_L_isCost : GoodIn wsL_isYear wsL_isCost := goodIn_ca (goodIn_ca (goodIn_r _ [75, 68, 69, 70, 6, 71, 45, 26, 9, 10, 11, 12, 13, 50, 51, 52, 53, 8, 54, 55, 34, 35, 36, 14, 15, 16, 17, 56, 57, 58, 30, 59, 60, 28, 29, 31, 32, 33, 37, 38, 39, 40, 61, 62, 63, 76, 77, 78, 79, 80, 81, 82, 83, 84, 85, 86, 87, 88, 89, 90, 91, 92, 93, 94, 95, 96, 97, 98, 99, 100, 101, 102] rfl (by decide +kernel)) (goodIn_sub (fun _ h => List.mem_cons_of_mem _ (List.mem_append_left _ (List.mem_append_right _ h))) (by decide +kernel))) (goodIn_sub (fun _ h => List.mem_cons_of_mem _ (List.mem_append_right _ h)) (by decide +kernel))
set_option maxRecDepth 20000 in
theorem gL_isYear_L_isCost : GoodIn wsL_isYear (va_wsS RL 101 yL_isCost wsL_isCost) := goodIn_app (goodIn_of _ (by decide +kernel)) ggL_isYear_L_isCost
theorem dL_isYear_0 : decode cL_isYear 0 = .ok (.iconst 0, 1) := by decide +kernel
theorem dL_isYear_1 : decode cL_isYear 1 = .ok (.istore 4, 2) := by decide +kernel
theorem dL_isYear_3 : decode cL_isYear 3 = .ok (.iconst 0, 1) := by decide +kernel
theorem dL_isYear_4 : decode cL_isYear 4 = .ok (.istore 5, 2) := by decide +kernel
theorem dL_isYear_6 : decode cL_isYear 6 = .ok (.iconst 0, 1) := by decide +kernel
theorem dL_isYear_7 : decode cL_isYear 7 = .ok (.istore 6, 2) := by decide +kernel
theorem dL_isYear_9 : decode cL_isYear 9 = .ok (.dconst 0, 1) := by decide +kernel
theorem dL_isYear_10 : decode cL_isYear 10 = .ok (.dstore 7, 2) := by decide +kernel
theorem dL_isYear_12 : decode cL_isYear 12 = .ok (.iconst 1, 1) := by decide +kernel
theorem dL_isYear_13 : decode cL_isYear 13 = .ok (.istore 9, 2) := by decide +kernel
theorem dL_isYear_15 : decode cL_isYear 15 = .ok (.iconst 0, 1) := by decide +kernel
theorem dL_isYear_16 : decode cL_isYear 16 = .ok (.istore 10, 2) := by decide +kernel
theorem dL_isYear_18 : decode cL_isYear 18 = .ok (.iload 10, 2) := by decide +kernel
theorem dL_isYear_20 : decode cL_isYear 20 = .ok (.bipush 6, 2) := by decide +kernel
theorem dL_isYear_22 : decode cL_isYear 22 = .ok (.if_icmp .ge 115, 3) := by decide +kernel
theorem dL_isYear_25 : decode cL_isYear 25 = .ok (.iload 6, 2) := by decide +kernel
theorem dL_isYear_27 : decode cL_isYear 27 = .ok (.aload_n 2, 1) := by decide +kernel
theorem dL_isYear_28 : decode cL_isYear 28 = .ok (.iconst 1, 1) := by decide +kernel
theorem dL_isYear_29 : decode cL_isYear 29 = .ok (.iload 10, 2) := by decide +kernel
theorem dL_isYear_31 : decode cL_isYear 31 = .ok (.iadd, 1) := by decide +kernel
theorem dL_isYear_32 : decode cL_isYear 32 = .ok (.iaload, 1) := by decide +kernel
theorem dL_isYear_33 : decode cL_isYear 33 = .ok (.iadd, 1) := by decide +kernel
theorem dL_isYear_34 : decode cL_isYear 34 = .ok (.istore 6, 2) := by decide +kernel
theorem dL_isYear_36 : decode cL_isYear 36 = .ok (.dload 7, 2) := by decide +kernel
theorem dL_isYear_38 : decode cL_isYear 38 = .ok (.aload_n 0, 1) := by decide +kernel
theorem dL_isYear_39 : decode cL_isYear 39 = .ok (.iload 10, 2) := by decide +kernel
theorem dL_isYear_41 : decode cL_isYear 41 = .ok (.invokevirtual 85, 3) := by decide +kernel
theorem dL_isYear_44 : decode cL_isYear 44 = .ok (.dadd, 1) := by decide +kernel
theorem dL_isYear_45 : decode cL_isYear 45 = .ok (.dstore 7, 2) := by decide +kernel
theorem dL_isYear_47 : decode cL_isYear 47 = .ok (.iload 5, 2) := by decide +kernel
theorem dL_isYear_49 : decode cL_isYear 49 = .ok (.sipush 360, 3) := by decide +kernel
theorem dL_isYear_52 : decode cL_isYear 52 = .ok (.aload_n 0, 1) := by decide +kernel
theorem dL_isYear_53 : decode cL_isYear 53 = .ok (.iload 10, 2) := by decide +kernel
theorem dL_isYear_55 : decode cL_isYear 55 = .ok (.iload_n 3, 1) := by decide +kernel
theorem dL_isYear_56 : decode cL_isYear 56 = .ok (.invokevirtual 89, 3) := by decide +kernel
theorem dL_isYear_59 : decode cL_isYear 59 = .ok (.isub, 1) := by decide +kernel
theorem dL_isYear_60 : decode cL_isYear 60 = .ok (.iadd, 1) := by decide +kernel
theorem dL_isYear_61 : decode cL_isYear 61 = .ok (.istore 5, 2) := by decide +kernel
theorem dL_isYear_63 : decode cL_isYear 63 = .ok (.iload 9, 2) := by decide +kernel
theorem dL_isYear_65 : decode cL_isYear 65 = .ok (.ifCond .eq 63, 3) := by decide +kernel
theorem dL_isYear_68 : decode cL_isYear 68 = .ok (.aload_n 0, 1) := by decide +kernel
theorem dL_isYear_69 : decode cL_isYear 69 = .ok (.iload 10, 2) := by decide +kernel
theorem dL_isYear_71 : decode cL_isYear 71 = .ok (.iload_n 3, 1) := by decide +kernel
theorem dL_isYear_72 : decode cL_isYear 72 = .ok (.invokevirtual 89, 3) := by decide +kernel
theorem dL_isYear_75 : decode cL_isYear 75 = .ok (.ifCond .lt 53, 3) := by decide +kernel
theorem dL_isYear_78 : decode cL_isYear 78 = .ok (.aload_n 0, 1) := by decide +kernel
theorem dL_isYear_79 : decode cL_isYear 79 = .ok (.iload 10, 2) := by decide +kernel
theorem dL_isYear_81 : decode cL_isYear 81 = .ok (.iload_n 3, 1) := by decide +kernel
theorem dL_isYear_82 : decode cL_isYear 82 = .ok (.invokevirtual 89, 3) := by decide +kernel
theorem dL_isYear_85 : decode cL_isYear 85 = .ok (.sipush 360, 3) := by decide +kernel
theorem dL_isYear_88 : decode cL_isYear 88 = .ok (.if_icmp .gt 40, 3) := by decide +kernel
theorem dL_isYear_91 : decode cL_isYear 91 = .ok (.aload_n 2, 1) := by decide +kernel
theorem dL_isYear_92 : decode cL_isYear 92 = .ok (.iconst 1, 1) := by decide +kernel
theorem dL_isYear_93 : decode cL_isYear 93 = .ok (.iload 10, 2) := by decide +kernel
theorem dL_isYear_95 : decode cL_isYear 95 = .ok (.iadd, 1) := by decide +kernel
theorem dL_isYear_96 : decode cL_isYear 96 = .ok (.iaload, 1) := by decide +kernel
theorem dL_isYear_97 : decode cL_isYear 97 = .ok (.ifCond .ne 7, 3) := by decide +kernel
theorem dL_isYear_100 : decode cL_isYear 100 = .ok (.iconst 1, 1) := by decide +kernel
theorem dL_isYear_101 : decode cL_isYear 101 = .ok (.goto 4, 3) := by decide +kernel
theorem dL_isYear_104 : decode cL_isYear 104 = .ok (.iconst 0, 1) := by decide +kernel
theorem dL_isYear_105 : decode cL_isYear 105 = .ok (.aload_n 0, 1) := by decide +kernel
theorem dL_isYear_106 : decode cL_isYear 106 = .ok (.iload 10, 2) := by decide +kernel
theorem dL_isYear_108 : decode cL_isYear 108 = .ok (.invokevirtual 85, 3) := by decide +kernel
theorem dL_isYear_111 : decode cL_isYear 111 = .ok (.dconst 0, 1) := by decide +kernel
theorem dL_isYear_112 : decode cL_isYear 112 = .ok (.dcmp .l, 1) := by decide +kernel
theorem dL_isYear_113 : decode cL_isYear 113 = .ok (.ifCond .ne 7, 3) := by decide +kernel
theorem dL_isYear_116 : decode cL_isYear 116 = .ok (.iconst 1, 1) := by decide +kernel
theorem dL_isYear_117 : decode cL_isYear 117 = .ok (.goto 4, 3) := by decide +kernel
theorem dL_isYear_120 : decode cL_isYear 120 = .ok (.iconst 0, 1) := by decide +kernel
theorem dL_isYear_121 : decode cL_isYear 121 = .ok (.if_icmp .ne 7, 3) := by decide +kernel
theorem dL_isYear_124 : decode cL_isYear 124 = .ok (.iconst 1, 1) := by decide +kernel
theorem dL_isYear_125 : decode cL_isYear 125 = .ok (.goto 4, 3) := by decide +kernel
theorem dL_isYear_128 : decode cL_isYear 128 = .ok (.iconst 0, 1) := by decide +kernel
theorem dL_isYear_129 : decode cL_isYear 129 = .ok (.istore 9, 2) := by decide +kernel
theorem dL_isYear_131 : decode cL_isYear 131 = .ok (.iinc 10 1, 3) := by decide +kernel
theorem dL_isYear_134 : decode cL_isYear 134 = .ok (.goto (-116), 3) := by decide +kernel
theorem dL_isYear_137 : decode cL_isYear 137 = .ok (.iconst 0, 1) := by decide +kernel
theorem dL_isYear_138 : decode cL_isYear 138 = .ok (.istore 10, 2) := by decide +kernel
theorem dL_isYear_140 : decode cL_isYear 140 = .ok (.iload 10, 2) := by decide +kernel
theorem dL_isYear_142 : decode cL_isYear 142 = .ok (.aload_n 2, 1) := by decide +kernel
theorem dL_isYear_143 : decode cL_isYear 143 = .ok (.iconst 0, 1) := by decide +kernel
theorem dL_isYear_144 : decode cL_isYear 144 = .ok (.iaload, 1) := by decide +kernel
theorem dL_isYear_145 : decode cL_isYear 145 = .ok (.if_icmp .ge 232, 3) := by decide +kernel
theorem dL_isYear_148 : decode cL_isYear 148 = .ok (.iload 9, 2) := by decide +kernel
theorem dL_isYear_150 : decode cL_isYear 150 = .ok (.ifCond .eq 227, 3) := by decide +kernel
theorem dL_isYear_153 : decode cL_isYear 153 = .ok (.aload_n 1, 1) := by decide +kernel
theorem dL_isYear_154 : decode cL_isYear 154 = .ok (.bipush 12, 2) := by decide +kernel
theorem dL_isYear_156 : decode cL_isYear 156 = .ok (.iload 10, 2) := by decide +kernel
theorem dL_isYear_158 : decode cL_isYear 158 = .ok (.iadd, 1) := by decide +kernel
theorem dL_isYear_159 : decode cL_isYear 159 = .ok (.iaload, 1) := by decide +kernel
theorem dL_isYear_160 : decode cL_isYear 160 = .ok (.sipush 360, 3) := by decide +kernel
theorem dL_isYear_163 : decode cL_isYear 163 = .ok (.iload_n 3, 1) := by decide +kernel
theorem dL_isYear_164 : decode cL_isYear 164 = .ok (.imul, 1) := by decide +kernel
theorem dL_isYear_165 : decode cL_isYear 165 = .ok (.if_icmp .le 13, 3) := by decide +kernel
theorem dL_isYear_168 : decode cL_isYear 168 = .ok (.aload_n 1, 1) := by decide +kernel
theorem dL_isYear_169 : decode cL_isYear 169 = .ok (.bipush 12, 2) := by decide +kernel
theorem dL_isYear_171 : decode cL_isYear 171 = .ok (.iload 10, 2) := by decide +kernel
theorem dL_isYear_173 : decode cL_isYear 173 = .ok (.iadd, 1) := by decide +kernel
theorem dL_isYear_174 : decode cL_isYear 174 = .ok (.iaload, 1) := by decide +kernel
theorem dL_isYear_175 : decode cL_isYear 175 = .ok (.goto 8, 3) := by decide +kernel
theorem dL_isYear_178 : decode cL_isYear 178 = .ok (.sipush 360, 3) := by decide +kernel
theorem dL_isYear_181 : decode cL_isYear 181 = .ok (.iload_n 3, 1) := by decide +kernel
theorem dL_isYear_182 : decode cL_isYear 182 = .ok (.imul, 1) := by decide +kernel
theorem dL_isYear_183 : decode cL_isYear 183 = .ok (.istore 11, 2) := by decide +kernel
theorem dL_isYear_185 : decode cL_isYear 185 = .ok (.aload_n 1, 1) := by decide +kernel
theorem dL_isYear_186 : decode cL_isYear 186 = .ok (.bipush 24, 2) := by decide +kernel
theorem dL_isYear_188 : decode cL_isYear 188 = .ok (.iload 10, 2) := by decide +kernel
theorem dL_isYear_190 : decode cL_isYear 190 = .ok (.iadd, 1) := by decide +kernel
theorem dL_isYear_191 : decode cL_isYear 191 = .ok (.iaload, 1) := by decide +kernel
theorem dL_isYear_192 : decode cL_isYear 192 = .ok (.sipush 360, 3) := by decide +kernel
theorem dL_isYear_195 : decode cL_isYear 195 = .ok (.iload_n 3, 1) := by decide +kernel
theorem dL_isYear_196 : decode cL_isYear 196 = .ok (.imul, 1) := by decide +kernel
theorem dL_isYear_197 : decode cL_isYear 197 = .ok (.sipush 360, 3) := by decide +kernel
theorem dL_isYear_200 : decode cL_isYear 200 = .ok (.iadd, 1) := by decide +kernel
theorem dL_isYear_201 : decode cL_isYear 201 = .ok (.if_icmp .ge 13, 3) := by decide +kernel
theorem dL_isYear_204 : decode cL_isYear 204 = .ok (.aload_n 1, 1) := by decide +kernel
theorem dL_isYear_205 : decode cL_isYear 205 = .ok (.bipush 24, 2) := by decide +kernel
theorem dL_isYear_207 : decode cL_isYear 207 = .ok (.iload 10, 2) := by decide +kernel
theorem dL_isYear_209 : decode cL_isYear 209 = .ok (.iadd, 1) := by decide +kernel
theorem dL_isYear_210 : decode cL_isYear 210 = .ok (.iaload, 1) := by decide +kernel
theorem dL_isYear_211 : decode cL_isYear 211 = .ok (.goto 12, 3) := by decide +kernel
theorem dL_isYear_214 : decode cL_isYear 214 = .ok (.sipush 360, 3) := by decide +kernel
theorem dL_isYear_217 : decode cL_isYear 217 = .ok (.iload_n 3, 1) := by decide +kernel
theorem dL_isYear_218 : decode cL_isYear 218 = .ok (.imul, 1) := by decide +kernel
theorem dL_isYear_219 : decode cL_isYear 219 = .ok (.sipush 360, 3) := by decide +kernel
theorem dL_isYear_222 : decode cL_isYear 222 = .ok (.iadd, 1) := by decide +kernel
theorem dL_isYear_223 : decode cL_isYear 223 = .ok (.istore 12, 2) := by decide +kernel
theorem dL_isYear_225 : decode cL_isYear 225 = .ok (.iload 12, 2) := by decide +kernel
theorem dL_isYear_227 : decode cL_isYear 227 = .ok (.iload 11, 2) := by decide +kernel
theorem dL_isYear_229 : decode cL_isYear 229 = .ok (.if_icmp .le 11, 3) := by decide +kernel
theorem dL_isYear_232 : decode cL_isYear 232 = .ok (.iload 12, 2) := by decide +kernel
theorem dL_isYear_234 : decode cL_isYear 234 = .ok (.iload 11, 2) := by decide +kernel
theorem dL_isYear_236 : decode cL_isYear 236 = .ok (.isub, 1) := by decide +kernel
theorem dL_isYear_237 : decode cL_isYear 237 = .ok (.goto 4, 3) := by decide +kernel
theorem dL_isYear_240 : decode cL_isYear 240 = .ok (.iconst 0, 1) := by decide +kernel
theorem dL_isYear_241 : decode cL_isYear 241 = .ok (.istore 13, 2) := by decide +kernel
theorem dL_isYear_243 : decode cL_isYear 243 = .ok (.iload 4, 2) := by decide +kernel
theorem dL_isYear_245 : decode cL_isYear 245 = .ok (.aload_n 0, 1) := by decide +kernel
theorem dL_isYear_246 : decode cL_isYear 246 = .ok (.iload 10, 2) := by decide +kernel
theorem dL_isYear_248 : decode cL_isYear 248 = .ok (.iload_n 3, 1) := by decide +kernel
theorem dL_isYear_249 : decode cL_isYear 249 = .ok (.invokevirtual 92, 3) := by decide +kernel
theorem dL_isYear_252 : decode cL_isYear 252 = .ok (.iadd, 1) := by decide +kernel
theorem dL_isYear_253 : decode cL_isYear 253 = .ok (.istore 4, 2) := by decide +kernel
theorem dL_isYear_255 : decode cL_isYear 255 = .ok (.iload 5, 2) := by decide +kernel
theorem dL_isYear_257 : decode cL_isYear 257 = .ok (.iload 13, 2) := by decide +kernel
theorem dL_isYear_259 : decode cL_isYear 259 = .ok (.isub, 1) := by decide +kernel
theorem dL_isYear_260 : decode cL_isYear 260 = .ok (.istore 5, 2) := by decide +kernel
theorem dL_isYear_262 : decode cL_isYear 262 = .ok (.aload_n 0, 1) := by decide +kernel
theorem dL_isYear_263 : decode cL_isYear 263 = .ok (.iload 10, 2) := by decide +kernel
theorem dL_isYear_265 : decode cL_isYear 265 = .ok (.iload_n 3, 1) := by decide +kernel
theorem dL_isYear_266 : decode cL_isYear 266 = .ok (.invokevirtual 92, 3) := by decide +kernel
theorem dL_isYear_269 : decode cL_isYear 269 = .ok (.ifCond .lt 99, 3) := by decide +kernel
theorem dL_isYear_272 : decode cL_isYear 272 = .ok (.iload 13, 2) := by decide +kernel
theorem dL_isYear_274 : decode cL_isYear 274 = .ok (.ifCond .gt 23, 3) := by decide +kernel
theorem dL_isYear_277 : decode cL_isYear 277 = .ok (.aload_n 0, 1) := by decide +kernel
theorem dL_isYear_278 : decode cL_isYear 278 = .ok (.iload 10, 2) := by decide +kernel
theorem dL_isYear_280 : decode cL_isYear 280 = .ok (.iload_n 3, 1) := by decide +kernel
theorem dL_isYear_281 : decode cL_isYear 281 = .ok (.invokevirtual 92, 3) := by decide +kernel
theorem dL_isYear_284 : decode cL_isYear 284 = .ok (.ifCond .ne 84, 3) := by decide +kernel
theorem dL_isYear_287 : decode cL_isYear 287 = .ok (.aload_n 0, 1) := by decide +kernel
theorem dL_isYear_288 : decode cL_isYear 288 = .ok (.iload 10, 2) := by decide +kernel
theorem dL_isYear_290 : decode cL_isYear 290 = .ok (.iload_n 3, 1) := by decide +kernel
theorem dL_isYear_291 : decode cL_isYear 291 = .ok (.invokevirtual 95, 3) := by decide +kernel
theorem dL_isYear_294 : decode cL_isYear 294 = .ok (.ifCond .ne 74, 3) := by decide +kernel
theorem dL_isYear_297 : decode cL_isYear 297 = .ok (.aload_n 1, 1) := by decide +kernel
theorem dL_isYear_298 : decode cL_isYear 298 = .ok (.bipush 48, 2) := by decide +kernel
theorem dL_isYear_300 : decode cL_isYear 300 = .ok (.iload 10, 2) := by decide +kernel
theorem dL_isYear_302 : decode cL_isYear 302 = .ok (.iadd, 1) := by decide +kernel
theorem dL_isYear_303 : decode cL_isYear 303 = .ok (.iaload, 1) := by decide +kernel
theorem dL_isYear_304 : decode cL_isYear 304 = .ok (.iconst (-1), 1) := by decide +kernel
theorem dL_isYear_305 : decode cL_isYear 305 = .ok (.if_icmp .eq 27, 3) := by decide +kernel
theorem dL_isYear_308 : decode cL_isYear 308 = .ok (.aload_n 0, 1) := by decide +kernel
theorem dL_isYear_309 : decode cL_isYear 309 = .ok (.iload 10, 2) := by decide +kernel
theorem dL_isYear_311 : decode cL_isYear 311 = .ok (.iload_n 3, 1) := by decide +kernel
theorem dL_isYear_312 : decode cL_isYear 312 = .ok (.invokevirtual 92, 3) := by decide +kernel
theorem dL_isYear_315 : decode cL_isYear 315 = .ok (.aload_n 1, 1) := by decide +kernel
theorem dL_isYear_316 : decode cL_isYear 316 = .ok (.bipush 48, 2) := by decide +kernel
theorem dL_isYear_318 : decode cL_isYear 318 = .ok (.iload 10, 2) := by decide +kernel
theorem dL_isYear_320 : decode cL_isYear 320 = .ok (.iadd, 1) := by decide +kernel
theorem dL_isYear_321 : decode cL_isYear 321 = .ok (.iaload, 1) := by decide +kernel
theorem dL_isYear_322 : decode cL_isYear 322 = .ok (.iload 13, 2) := by decide +kernel
theorem dL_isYear_324 : decode cL_isYear 324 = .ok (.imul, 1) := by decide +kernel
theorem dL_isYear_325 : decode cL_isYear 325 = .ok (.sipush 360, 3) := by decide +kernel
theorem dL_isYear_328 : decode cL_isYear 328 = .ok (.idiv, 1) := by decide +kernel
theorem dL_isYear_329 : decode cL_isYear 329 = .ok (.if_icmp .gt 39, 3) := by decide +kernel
theorem dL_isYear_332 : decode cL_isYear 332 = .ok (.iload 6, 2) := by decide +kernel
theorem dL_isYear_334 : decode cL_isYear 334 = .ok (.ifCond .gt 13, 3) := by decide +kernel
theorem dL_isYear_337 : decode cL_isYear 337 = .ok (.aload_n 0, 1) := by decide +kernel
theorem dL_isYear_338 : decode cL_isYear 338 = .ok (.iload 10, 2) := by decide +kernel
theorem dL_isYear_340 : decode cL_isYear 340 = .ok (.iload_n 3, 1) := by decide +kernel
theorem dL_isYear_341 : decode cL_isYear 341 = .ok (.invokevirtual 92, 3) := by decide +kernel
theorem dL_isYear_344 : decode cL_isYear 344 = .ok (.ifCond .ne 24, 3) := by decide +kernel
theorem dL_isYear_347 : decode cL_isYear 347 = .ok (.aload_n 0, 1) := by decide +kernel
theorem dL_isYear_348 : decode cL_isYear 348 = .ok (.iload 10, 2) := by decide +kernel
theorem dL_isYear_350 : decode cL_isYear 350 = .ok (.iload_n 3, 1) := by decide +kernel
theorem dL_isYear_351 : decode cL_isYear 351 = .ok (.invokevirtual 95, 3) := by decide +kernel
theorem dL_isYear_354 : decode cL_isYear 354 = .ok (.aload_n 0, 1) := by decide +kernel
theorem dL_isYear_355 : decode cL_isYear 355 = .ok (.iload 10, 2) := by decide +kernel
theorem dL_isYear_357 : decode cL_isYear 357 = .ok (.iload_n 3, 1) := by decide +kernel
theorem dL_isYear_358 : decode cL_isYear 358 = .ok (.invokevirtual 92, 3) := by decide +kernel
theorem dL_isYear_361 : decode cL_isYear 361 = .ok (.if_icmp .gt 7, 3) := by decide +kernel
theorem dL_isYear_364 : decode cL_isYear 364 = .ok (.iconst 1, 1) := by decide +kernel
theorem dL_isYear_365 : decode cL_isYear 365 = .ok (.goto 4, 3) := by decide +kernel
theorem dL_isYear_368 : decode cL_isYear 368 = .ok (.iconst 0, 1) := by decide +kernel
theorem dL_isYear_369 : decode cL_isYear 369 = .ok (.istore 9, 2) := by decide +kernel
theorem dL_isYear_371 : decode cL_isYear 371 = .ok (.iinc 10 1, 3) := by decide +kernel
theorem dL_isYear_374 : decode cL_isYear 374 = .ok (.goto (-234), 3) := by decide +kernel
theorem dL_isYear_377 : decode cL_isYear 377 = .ok (.iload 9, 2) := by decide +kernel
theorem dL_isYear_379 : decode cL_isYear 379 = .ok (.ifCond .eq 63, 3) := by decide +kernel
theorem dL_isYear_382 : decode cL_isYear 382 = .ok (.iload 5, 2) := by decide +kernel
theorem dL_isYear_384 : decode cL_isYear 384 = .ok (.ifCond .ne 58, 3) := by decide +kernel
theorem dL_isYear_387 : decode cL_isYear 387 = .ok (.aload_n 0, 1) := by decide +kernel
theorem dL_isYear_388 : decode cL_isYear 388 = .ok (.iload_n 3, 1) := by decide +kernel
theorem dL_isYear_389 : decode cL_isYear 389 = .ok (.invokevirtual 98, 3) := by decide +kernel
theorem dL_isYear_392 : decode cL_isYear 392 = .ok (.ifCond .lt 50, 3) := by decide +kernel
theorem dL_isYear_395 : decode cL_isYear 395 = .ok (.aload_n 0, 1) := by decide +kernel
theorem dL_isYear_396 : decode cL_isYear 396 = .ok (.iload_n 3, 1) := by decide +kernel
theorem dL_isYear_397 : decode cL_isYear 397 = .ok (.iload 4, 2) := by decide +kernel
theorem dL_isYear_399 : decode cL_isYear 399 = .ok (.invokestatic 101, 3) := by decide +kernel
theorem dL_isYear_402 : decode cL_isYear 402 = .ok (.ifCond .eq 40, 3) := by decide +kernel
theorem dL_isYear_405 : decode cL_isYear 405 = .ok (.iload 6, 2) := by decide +kernel
theorem dL_isYear_407 : decode cL_isYear 407 = .ok (.ifCond .ne 13, 3) := by decide +kernel
theorem dL_isYear_410 : decode cL_isYear 410 = .ok (.dload 7, 2) := by decide +kernel
theorem dL_isYear_412 : decode cL_isYear 412 = .ok (.dconst 0, 1) := by decide +kernel
theorem dL_isYear_413 : decode cL_isYear 413 = .ok (.dcmp .l, 1) := by decide +kernel
theorem dL_isYear_414 : decode cL_isYear 414 = .ok (.ifCond .ne 28, 3) := by decide +kernel
theorem dL_isYear_417 : decode cL_isYear 417 = .ok (.goto 21, 3) := by decide +kernel
theorem dL_isYear_420 : decode cL_isYear 420 = .ok (.dload 7, 2) := by decide +kernel
theorem dL_isYear_422 : decode cL_isYear 422 = .ok (.ldc2_w 105, 3) := by decide +kernel
theorem dL_isYear_425 : decode cL_isYear 425 = .ok (.dcmp .l, 1) := by decide +kernel
theorem dL_isYear_426 : decode cL_isYear 426 = .ok (.ifCond .le 16, 3) := by decide +kernel
theorem dL_isYear_429 : decode cL_isYear 429 = .ok (.dload 7, 2) := by decide +kernel
theorem dL_isYear_431 : decode cL_isYear 431 = .ok (.ldc2_w 107, 3) := by decide +kernel
theorem dL_isYear_434 : decode cL_isYear 434 = .ok (.dcmp .g, 1) := by decide +kernel
theorem dL_isYear_435 : decode cL_isYear 435 = .ok (.ifCond .ge 7, 3) := by decide +kernel
theorem dL_isYear_438 : decode cL_isYear 438 = .ok (.iconst 1, 1) := by decide +kernel
theorem dL_isYear_439 : decode cL_isYear 439 = .ok (.goto 4, 3) := by decide +kernel
theorem dL_isYear_442 : decode cL_isYear 442 = .ok (.iconst 0, 1) := by decide +kernel
theorem dL_isYear_443 : decode cL_isYear 443 = .ok (.ireturn, 1) := by decide +kernel
set_option maxRecDepth 20000 in
theorem ggL_isCost_X1_owners : GoodIn wsL_isCost wsX1_owners := goodIn_ca (goodIn_r _ [5, 6, 7, 8, 9, 4, 10, 11, 12, 13, 14, 15, 16, 17, 18, 19, 20, 21, 22, 23, 24, 25, 26, 27, 28, 29, 30, 31, 32, 33, 34, 35, 36, 37, 38, 39, 40, 41, 42, 43, 44, 55, 56, 57, 58, 59, 60, 61, 62, 63, 64, 65, 66, 67, 68, 69, 70, 71] (by decide +kernel) (by decide +kernel)) (goodIn_sub (fun _ h => List.mem_cons_of_mem _ (List.mem_append_left _ (List.mem_append_right _ h))) (by decide +kernel))
set_option maxRecDepth 20000 in
theorem gL_isCost_X1_owners : GoodIn wsL_isCost (wsV RL 98 RX1 yX1_owners wsX1_owners) := goodIn_app (goodIn_of _ (by decide +kernel)) ggL_isCost_X1_owners
set_option maxRecDepth 20000 in
theorem ggL_isCost_X1_setCost : GoodIn wsL_isCost wsX1_setCost := goodIn_ca (goodIn_ca (goodIn_r _ [48, 6, 49, 8, 9, 4, 10, 11, 12, 50, 51, 52, 53, 54, 55, 56, 57, 58, 59] (by decide +kernel) (by decide +kernel)) (goodIn_sub (fun _ h => List.mem_cons_of_mem _ (List.mem_append_left _ (List.mem_append_right _ h))) (by decide +kernel))) (goodIn_sub (fun _ h => List.mem_cons_of_mem _ (List.mem_append_right _ h)) (by decide +kernel))
set_option maxRecDepth 20000 in
theorem gL_isCost_X1_setCost : GoodIn wsL_isCost (wsV RL 20 RX1 yX1_setCost wsX1_setCost) := goodIn_app (goodIn_of _ (by decide +kernel)) ggL_isCost_X1_setCost
theorem dL_isCost_0 : decode cL_isCost 0 = .ok (.aload_n 0, 1) := by decide +kernel
theorem dL_isCost_1 : decode cL_isCost 1 = .ok (.iload_n 1, 1) := by decide +kernel
theorem dL_isCost_2 : decode cL_isCost 2 = .ok (.invokevirtual 98, 3) := by decide +kernel
theorem dL_isCost_5 : decode cL_isCost 5 = .ok (.istore_n 3, 1) := by decide +kernel
theorem dL_isCost_6 : decode cL_isCost 6 = .ok (.aload_n 0, 1) := by decide +kernel
theorem dL_isCost_7 : decode cL_isCost 7 = .ok (.iload_n 1, 1) := by decide +kernel
theorem dL_isCost_8 : decode cL_isCost 8 = .ok (.iconst 0, 1) := by decide +kernel
theorem dL_isCost_9 : decode cL_isCost 9 = .ok (.invokevirtual 20, 3) := by decide +kernel
theorem dL_isCost_12 : decode cL_isCost 12 = .ok (.istore 4, 2) := by decide +kernel
theorem dL_isCost_14 : decode cL_isCost 14 = .ok (.iload_n 2, 1) := by decide +kernel
theorem dL_isCost_15 : decode cL_isCost 15 = .ok (.iload_n 3, 1) := by decide +kernel
theorem dL_isCost_16 : decode cL_isCost 16 = .ok (.iadd, 1) := by decide +kernel
theorem dL_isCost_17 : decode cL_isCost 17 = .ok (.iload 4, 2) := by decide +kernel
theorem dL_isCost_19 : decode cL_isCost 19 = .ok (.if_icmp .ne 15, 3) := by decide +kernel
theorem dL_isCost_22 : decode cL_isCost 22 = .ok (.aload_n 0, 1) := by decide +kernel
theorem dL_isCost_23 : decode cL_isCost 23 = .ok (.iload_n 1, 1) := by decide +kernel
theorem dL_isCost_24 : decode cL_isCost 24 = .ok (.invokevirtual 98, 3) := by decide +kernel
theorem dL_isCost_27 : decode cL_isCost 27 = .ok (.ifCond .ne 7, 3) := by decide +kernel
theorem dL_isCost_30 : decode cL_isCost 30 = .ok (.iconst 1, 1) := by decide +kernel
theorem dL_isCost_31 : decode cL_isCost 31 = .ok (.goto 4, 3) := by decide +kernel
theorem dL_isCost_34 : decode cL_isCost 34 = .ok (.iconst 0, 1) := by decide +kernel
theorem dL_isCost_35 : decode cL_isCost 35 = .ok (.istore 5, 2) := by decide +kernel
theorem dL_isCost_37 : decode cL_isCost 37 = .ok (.aload_n 0, 1) := by decide +kernel
theorem dL_isCost_38 : decode cL_isCost 38 = .ok (.iload_n 1, 1) := by decide +kernel
theorem dL_isCost_39 : decode cL_isCost 39 = .ok (.iload 4, 2) := by decide +kernel
theorem dL_isCost_41 : decode cL_isCost 41 = .ok (.invokevirtual 20, 3) := by decide +kernel
theorem dL_isCost_44 : decode cL_isCost 44 = .ok (.ifCond .ne 21, 3) := by decide +kernel
theorem dL_isCost_47 : decode cL_isCost 47 = .ok (.iload 5, 2) := by decide +kernel
theorem dL_isCost_49 : decode cL_isCost 49 = .ok (.ifCond .eq 16, 3) := by decide +kernel
theorem dL_isCost_52 : decode cL_isCost 52 = .ok (.aload_n 0, 1) := by decide +kernel
theorem dL_isCost_53 : decode cL_isCost 53 = .ok (.iload_n 1, 1) := by decide +kernel
theorem dL_isCost_54 : decode cL_isCost 54 = .ok (.invokevirtual 98, 3) := by decide +kernel
theorem dL_isCost_57 : decode cL_isCost 57 = .ok (.iload_n 3, 1) := by decide +kernel
theorem dL_isCost_58 : decode cL_isCost 58 = .ok (.if_icmp .ne 7, 3) := by decide +kernel
theorem dL_isCost_61 : decode cL_isCost 61 = .ok (.iconst 1, 1) := by decide +kernel
theorem dL_isCost_62 : decode cL_isCost 62 = .ok (.goto 4, 3) := by decide +kernel
theorem dL_isCost_65 : decode cL_isCost 65 = .ok (.iconst 0, 1) := by decide +kernel
theorem dL_isCost_66 : decode cL_isCost 66 = .ok (.ireturn, 1) := by decide +kernel
set_option maxRecDepth 20000 in
theorem ggL_law_X1_init : GoodIn wsL_law wsX1_init := goodIn_r _ [6, 7, 8, 9, 3, 10, 11, 12, 13, 14, 15, 247, 248, 249, 250, 251] (by decide +kernel) (by decide +kernel)
set_option maxRecDepth 20000 in
theorem gL_law_X1_init : GoodIn wsL_law (wsX1_init) := ggL_law_X1_init
set_option maxRecDepth 20000 in
theorem ggL_law_X1_leases : GoodIn wsL_law wsX1_leases := goodIn_r _ [19, 15, 247, 248, 249, 250, 251] (by decide +kernel) (by decide +kernel)
set_option maxRecDepth 20000 in
theorem gL_law_X1_leases : GoodIn wsL_law (wsV RL 30 RX1 yX1_leases wsX1_leases) := goodIn_app (goodIn_of _ (by decide +kernel)) ggL_law_X1_leases
set_option maxRecDepth 20000 in
theorem ggL_law_X1_owners : GoodIn wsL_law wsX1_owners := goodIn_ca (goodIn_r _ [23, 12, 14, 24, 25, 2, 26, 27, 28, 29, 30, 31, 32, 10, 33, 34, 35, 36, 37, 38, 39, 40, 41, 42, 43, 44, 45, 46, 47, 48, 49, 50, 51, 52, 53, 54, 55, 56, 57, 58, 59, 247, 248, 249, 250, 251, 252, 253, 254, 255, 256, 257, 258, 259, 260, 261, 262, 263] (by decide +kernel) (by decide +kernel)) (goodIn_sub (fun _ h => List.mem_append_left _ (List.mem_append_left _ (List.mem_append_right _ h))) (by decide +kernel))
set_option maxRecDepth 20000 in
theorem gL_law_X1_owners : GoodIn wsL_law (wsV RL 98 RX1 yX1_owners wsX1_owners) := goodIn_app (goodIn_of _ (by decide +kernel)) ggL_law_X1_owners
set_option maxRecDepth 20000 in
theorem ggL_law_X1_share : GoodIn wsL_law wsX1_share := goodIn_ca (goodIn_r _ [63, 10, 24, 25, 2, 26, 27, 28, 38, 39, 40, 41, 247, 248, 249, 250, 251] (by decide +kernel) (by decide +kernel)) (goodIn_sub (fun _ h => List.mem_append_left _ (List.mem_append_left _ (List.mem_append_right _ h))) (by decide +kernel))
set_option maxRecDepth 20000 in
theorem gL_law_X1_share : GoodIn wsL_law (wsV RL 85 RX1 yX1_share wsX1_share) := goodIn_app (goodIn_of _ (by decide +kernel)) ggL_law_X1_share
set_option maxRecDepth 20000 in
theorem ggL_law_X1_voids : GoodIn wsL_law wsX1_voids := goodIn_ca (goodIn_r _ [67, 10, 24, 25, 2, 26, 27, 28, 68, 69, 70, 71, 14, 72, 48, 49, 45, 50, 51, 52, 35, 36, 37, 53, 54, 55, 56, 247, 248, 249, 250, 251, 252, 253, 254, 255, 256, 257, 258, 259, 260, 261, 262, 263] (by decide +kernel) (by decide +kernel)) (goodIn_sub (fun _ h => List.mem_append_left _ (List.mem_append_left _ (List.mem_append_right _ h))) (by decide +kernel))
set_option maxRecDepth 20000 in
theorem gL_law_X1_voids : GoodIn wsL_law (wsV RL 89 RX1 yX1_voids wsX1_voids) := goodIn_app (goodIn_of _ (by decide +kernel)) ggL_law_X1_voids
set_option maxRecDepth 20000 in
theorem ggL_law_L_draw : GoodIn wsL_law wsL_draw := goodIn_r _ [76, 77, 78, 79] (by decide +kernel) (by decide +kernel)
set_option maxRecDepth 20000 in
theorem gL_law_L_draw : GoodIn wsL_law (va_wsS RL 110 yL_draw wsL_draw) := goodIn_app (goodIn_of _ (by decide +kernel)) ggL_law_L_draw
set_option maxRecDepth 20000 in
theorem ggL_law_L_step : GoodIn wsL_law wsL_step := goodIn_ca (goodIn_ca (goodIn_ca (goodIn_r _ [82, 83, 84, 85, 86, 87, 2, 88, 10, 24, 25, 26, 27, 28, 89, 90, 91, 92, 93, 94, 95, 96, 97, 11, 98, 99, 100, 101, 12, 102, 103, 104, 75, 105, 16, 17, 18, 19, 15, 106, 107, 108, 109, 110, 111, 112, 14, 13, 113, 45, 68, 69, 70, 71, 72, 48, 49, 50, 51, 52, 35, 36, 37, 53, 54, 55, 56, 114, 115, 116, 117, 8, 9, 118, 119, 120, 121, 122, 3, 123, 124, 125, 126, 127, 128, 129, 130, 131, 132, 133, 134, 135, 136, 137, 138, 139, 140, 141, 142, 143, 144, 145, 146, 147, 148, 149, 150, 151, 152, 153, 154, 155, 156, 57, 58, 59, 157, 158, 159, 160, 161, 162, 163, 164, 165, 166, 167, 168, 169, 170, 171, 172, 173, 174, 175, 176, 177, 178, 179, 180, 181, 182, 183, 184, 185, 186, 187, 188, 189, 190, 191, 192, 193, 194, 195, 196, 197, 198, 199, 247, 248, 249, 250, 251, 252, 253, 254, 255, 256, 257, 258, 259, 260, 261, 262, 263] rfl (by decide +kernel)) (goodIn_sub (fun _ h => List.mem_append_left _ (List.mem_append_left _ (List.mem_append_right _ h))) (by decide +kernel))) (goodIn_sub (fun _ h => List.mem_append_left _ (List.mem_append_right _ h)) (by decide +kernel))) (goodIn_sub (fun _ h => List.mem_append_right _ h) (by decide +kernel))
set_option maxRecDepth 20000 in
theorem gL_law_L_step : GoodIn wsL_law (va_wsS RL 113 yL_step wsL_step) := goodIn_app (goodIn_of _ (by decide +kernel)) ggL_law_L_step
set_option maxRecDepth 20000 in
theorem ggL_law_L_isLease : GoodIn wsL_law wsL_isLease := goodIn_ca (goodIn_ca (goodIn_r _ [202, 136, 137, 138, 2, 139, 140, 141, 142, 143, 27, 28, 14, 24, 25, 26, 144, 145, 146, 147, 11, 148, 55, 36, 56, 132, 133, 134, 45, 135, 53, 51, 149, 150, 151, 152, 118, 153, 154, 155, 156, 127, 125, 123, 124, 57, 58, 59, 157, 158, 159, 160, 161, 162, 163, 164, 119, 128, 129, 130, 131, 10, 203, 204, 205, 206, 207, 208, 209, 210, 211, 212, 213, 214, 215, 216, 217, 218, 219, 220, 221, 222, 34, 35, 37, 223, 224, 225, 226, 227, 228, 229, 230, 89, 90, 91, 92, 93, 247, 248, 249, 250, 251, 252, 253, 254, 255, 256, 257, 258, 259, 260, 261, 262, 263] rfl (by decide +kernel)) (goodIn_sub (fun _ h => List.mem_append_left _ (List.mem_append_left _ (List.mem_append_right _ h))) (by decide +kernel))) (goodIn_sub (fun _ h => List.mem_append_left _ (List.mem_append_right _ h)) (by decide +kernel))
set_option maxRecDepth 20000 in
theorem gL_law_L_isLease : GoodIn wsL_law (va_wsS RL 116 yL_isLease wsL_isLease) := goodIn_app (goodIn_of _ (by decide +kernel)) ggL_law_L_isLease
set_option maxRecDepth 20000 in
theorem ggL_law_L_isYear : GoodIn wsL_law wsL_isYear := goodIn_ca (goodIn_ca (goodIn_r _ [233, 234, 235, 60, 61, 62, 2, 63, 10, 24, 25, 26, 27, 28, 38, 39, 40, 41, 64, 65, 66, 67, 68, 69, 70, 71, 14, 72, 48, 49, 45, 50, 51, 52, 35, 36, 37, 53, 54, 55, 56, 236, 237, 238, 239, 12, 140, 141, 142, 143, 29, 30, 31, 32, 33, 34, 42, 43, 44, 46, 47, 57, 58, 59, 240, 241, 242, 243, 20, 21, 22, 23, 244, 245, 75, 246, 98, 99, 100, 101, 102, 89, 90, 91, 92, 93, 247, 248, 249, 250, 251, 252, 253, 254, 255, 256, 257, 258, 259, 260, 261, 262, 263] rfl (by decide +kernel)) (goodIn_sub (fun _ h => List.mem_append_left _ (List.mem_append_left _ (List.mem_append_right _ h))) (by decide +kernel))) (goodIn_sub (fun _ h => List.mem_append_left _ (List.mem_append_right _ h)) (by decide +kernel))
set_option maxRecDepth 20000 in
theorem gL_law_L_isYear : GoodIn wsL_law (va_wsS RL 120 yL_isYear wsL_isYear) := goodIn_app (goodIn_of _ (by decide +kernel)) ggL_law_L_isYear
theorem dL_law_0 : decode cL_law 0 = .ok (.new 11, 3) := by decide +kernel
theorem dL_law_3 : decode cL_law 3 = .ok (.dup, 1) := by decide +kernel
theorem dL_law_4 : decode cL_law 4 = .ok (.invokespecial 109, 3) := by decide +kernel
theorem dL_law_7 : decode cL_law 7 = .ok (.astore_n 1, 1) := by decide +kernel
theorem dL_law_8 : decode cL_law 8 = .ok (.bipush 60, 2) := by decide +kernel
theorem dL_law_10 : decode cL_law 10 = .ok (.newarray .int, 2) := by decide +kernel
theorem dL_law_12 : decode cL_law 12 = .ok (.astore_n 2, 1) := by decide +kernel
theorem dL_law_13 : decode cL_law 13 = .ok (.bipush 7, 2) := by decide +kernel
theorem dL_law_15 : decode cL_law 15 = .ok (.newarray .int, 2) := by decide +kernel
theorem dL_law_17 : decode cL_law 17 = .ok (.astore_n 3, 1) := by decide +kernel
theorem dL_law_18 : decode cL_law 18 = .ok (.bipush 12, 2) := by decide +kernel
theorem dL_law_20 : decode cL_law 20 = .ok (.newarray .int, 2) := by decide +kernel
theorem dL_law_22 : decode cL_law 22 = .ok (.astore 4, 2) := by decide +kernel
theorem dL_law_24 : decode cL_law 24 = .ok (.bipush 36, 2) := by decide +kernel
theorem dL_law_26 : decode cL_law 26 = .ok (.newarray .int, 2) := by decide +kernel
theorem dL_law_28 : decode cL_law 28 = .ok (.astore 5, 2) := by decide +kernel
theorem dL_law_30 : decode cL_law 30 = .ok (.aload_n 1, 1) := by decide +kernel
theorem dL_law_31 : decode cL_law 31 = .ok (.invokevirtual 30, 3) := by decide +kernel
theorem dL_law_34 : decode cL_law 34 = .ok (.ifCond .ne 38, 3) := by decide +kernel
theorem dL_law_37 : decode cL_law 37 = .ok (.aload_n 1, 1) := by decide +kernel
theorem dL_law_38 : decode cL_law 38 = .ok (.bipush 19, 2) := by decide +kernel
theorem dL_law_40 : decode cL_law 40 = .ok (.invokevirtual 98, 3) := by decide +kernel
theorem dL_law_43 : decode cL_law 43 = .ok (.ifCond .ne 29, 3) := by decide +kernel
theorem dL_law_46 : decode cL_law 46 = .ok (.aload_n 1, 1) := by decide +kernel
theorem dL_law_47 : decode cL_law 47 = .ok (.iconst 0, 1) := by decide +kernel
theorem dL_law_48 : decode cL_law 48 = .ok (.invokevirtual 85, 3) := by decide +kernel
theorem dL_law_51 : decode cL_law 51 = .ok (.dconst 0, 1) := by decide +kernel
theorem dL_law_52 : decode cL_law 52 = .ok (.dcmp .l, 1) := by decide +kernel
theorem dL_law_53 : decode cL_law 53 = .ok (.ifCond .ne 19, 3) := by decide +kernel
theorem dL_law_56 : decode cL_law 56 = .ok (.aload_n 1, 1) := by decide +kernel
theorem dL_law_57 : decode cL_law 57 = .ok (.iconst 5, 1) := by decide +kernel
theorem dL_law_58 : decode cL_law 58 = .ok (.iconst 0, 1) := by decide +kernel
theorem dL_law_59 : decode cL_law 59 = .ok (.invokevirtual 89, 3) := by decide +kernel
theorem dL_law_62 : decode cL_law 62 = .ok (.sipush 360, 3) := by decide +kernel
theorem dL_law_65 : decode cL_law 65 = .ok (.if_icmp .ne 7, 3) := by decide +kernel
theorem dL_law_68 : decode cL_law 68 = .ok (.iconst 1, 1) := by decide +kernel
theorem dL_law_69 : decode cL_law 69 = .ok (.goto 4, 3) := by decide +kernel
theorem dL_law_72 : decode cL_law 72 = .ok (.iconst 0, 1) := by decide +kernel
theorem dL_law_73 : decode cL_law 73 = .ok (.istore 6, 2) := by decide +kernel
theorem dL_law_75 : decode cL_law 75 = .ok (.aload_n 0, 1) := by decide +kernel
theorem dL_law_76 : decode cL_law 76 = .ok (.arraylength, 1) := by decide +kernel
theorem dL_law_77 : decode cL_law 77 = .ok (.iconst 3, 1) := by decide +kernel
theorem dL_law_78 : decode cL_law 78 = .ok (.idiv, 1) := by decide +kernel
theorem dL_law_79 : decode cL_law 79 = .ok (.bipush 60, 2) := by decide +kernel
theorem dL_law_81 : decode cL_law 81 = .ok (.if_icmp .le 8, 3) := by decide +kernel
theorem dL_law_84 : decode cL_law 84 = .ok (.bipush 60, 2) := by decide +kernel
theorem dL_law_86 : decode cL_law 86 = .ok (.goto 7, 3) := by decide +kernel
theorem dL_law_89 : decode cL_law 89 = .ok (.aload_n 0, 1) := by decide +kernel
theorem dL_law_90 : decode cL_law 90 = .ok (.arraylength, 1) := by decide +kernel
theorem dL_law_91 : decode cL_law 91 = .ok (.iconst 3, 1) := by decide +kernel
theorem dL_law_92 : decode cL_law 92 = .ok (.idiv, 1) := by decide +kernel
theorem dL_law_93 : decode cL_law 93 = .ok (.istore 7, 2) := by decide +kernel
theorem dL_law_95 : decode cL_law 95 = .ok (.iconst 0, 1) := by decide +kernel
theorem dL_law_96 : decode cL_law 96 = .ok (.istore 8, 2) := by decide +kernel
theorem dL_law_98 : decode cL_law 98 = .ok (.iload 8, 2) := by decide +kernel
theorem dL_law_100 : decode cL_law 100 = .ok (.iload 7, 2) := by decide +kernel
theorem dL_law_102 : decode cL_law 102 = .ok (.if_icmp .ge 193, 3) := by decide +kernel
theorem dL_law_105 : decode cL_law 105 = .ok (.iload 6, 2) := by decide +kernel
theorem dL_law_107 : decode cL_law 107 = .ok (.ifCond .eq 188, 3) := by decide +kernel
theorem dL_law_110 : decode cL_law 110 = .ok (.aload_n 0, 1) := by decide +kernel
theorem dL_law_111 : decode cL_law 111 = .ok (.iconst 3, 1) := by decide +kernel
theorem dL_law_112 : decode cL_law 112 = .ok (.iload 8, 2) := by decide +kernel
theorem dL_law_114 : decode cL_law 114 = .ok (.imul, 1) := by decide +kernel
theorem dL_law_115 : decode cL_law 115 = .ok (.iconst 1, 1) := by decide +kernel
theorem dL_law_116 : decode cL_law 116 = .ok (.iadd, 1) := by decide +kernel
theorem dL_law_117 : decode cL_law 117 = .ok (.invokestatic 110, 3) := by decide +kernel
theorem dL_law_120 : decode cL_law 120 = .ok (.istore 9, 2) := by decide +kernel
theorem dL_law_122 : decode cL_law 122 = .ok (.aload_n 0, 1) := by decide +kernel
theorem dL_law_123 : decode cL_law 123 = .ok (.iconst 3, 1) := by decide +kernel
theorem dL_law_124 : decode cL_law 124 = .ok (.iload 8, 2) := by decide +kernel
theorem dL_law_126 : decode cL_law 126 = .ok (.imul, 1) := by decide +kernel
theorem dL_law_127 : decode cL_law 127 = .ok (.iconst 2, 1) := by decide +kernel
theorem dL_law_128 : decode cL_law 128 = .ok (.iadd, 1) := by decide +kernel
theorem dL_law_129 : decode cL_law 129 = .ok (.invokestatic 110, 3) := by decide +kernel
theorem dL_law_132 : decode cL_law 132 = .ok (.istore 10, 2) := by decide +kernel
theorem dL_law_134 : decode cL_law 134 = .ok (.aload_n 1, 1) := by decide +kernel
theorem dL_law_135 : decode cL_law 135 = .ok (.aload_n 2, 1) := by decide +kernel
theorem dL_law_136 : decode cL_law 136 = .ok (.aload_n 3, 1) := by decide +kernel
theorem dL_law_137 : decode cL_law 137 = .ok (.aload 4, 2) := by decide +kernel
theorem dL_law_139 : decode cL_law 139 = .ok (.aload 5, 2) := by decide +kernel
theorem dL_law_141 : decode cL_law 141 = .ok (.aload_n 0, 1) := by decide +kernel
theorem dL_law_142 : decode cL_law 142 = .ok (.iconst 3, 1) := by decide +kernel
theorem dL_law_143 : decode cL_law 143 = .ok (.iload 8, 2) := by decide +kernel
theorem dL_law_145 : decode cL_law 145 = .ok (.imul, 1) := by decide +kernel
theorem dL_law_146 : decode cL_law 146 = .ok (.invokestatic 110, 3) := by decide +kernel
theorem dL_law_149 : decode cL_law 149 = .ok (.iload 9, 2) := by decide +kernel
theorem dL_law_151 : decode cL_law 151 = .ok (.iload 10, 2) := by decide +kernel
theorem dL_law_153 : decode cL_law 153 = .ok (.invokestatic 113, 3) := by decide +kernel
theorem dL_law_156 : decode cL_law 156 = .ok (.istore 6, 2) := by decide +kernel
theorem dL_law_158 : decode cL_law 158 = .ok (.iload 6, 2) := by decide +kernel
theorem dL_law_160 : decode cL_law 160 = .ok (.ifCond .eq 129, 3) := by decide +kernel
theorem dL_law_163 : decode cL_law 163 = .ok (.iload 8, 2) := by decide +kernel
theorem dL_law_165 : decode cL_law 165 = .ok (.iconst 4, 1) := by decide +kernel
theorem dL_law_166 : decode cL_law 166 = .ok (.irem, 1) := by decide +kernel
theorem dL_law_167 : decode cL_law 167 = .ok (.iconst 3, 1) := by decide +kernel
theorem dL_law_168 : decode cL_law 168 = .ok (.if_icmp .ne 121, 3) := by decide +kernel
theorem dL_law_171 : decode cL_law 171 = .ok (.aload_n 3, 1) := by decide +kernel
theorem dL_law_172 : decode cL_law 172 = .ok (.iconst 0, 1) := by decide +kernel
theorem dL_law_173 : decode cL_law 173 = .ok (.iaload, 1) := by decide +kernel
theorem dL_law_174 : decode cL_law 174 = .ok (.ifCond .le 115, 3) := by decide +kernel
theorem dL_law_177 : decode cL_law 177 = .ok (.iload 10, 2) := by decide +kernel
theorem dL_law_179 : decode cL_law 179 = .ok (.aload_n 3, 1) := by decide +kernel
theorem dL_law_180 : decode cL_law 180 = .ok (.iconst 0, 1) := by decide +kernel
theorem dL_law_181 : decode cL_law 181 = .ok (.iaload, 1) := by decide +kernel
theorem dL_law_182 : decode cL_law 182 = .ok (.irem, 1) := by decide +kernel
theorem dL_law_183 : decode cL_law 183 = .ok (.istore 11, 2) := by decide +kernel
theorem dL_law_185 : decode cL_law 185 = .ok (.iload 9, 2) := by decide +kernel
theorem dL_law_187 : decode cL_law 187 = .ok (.iconst 3, 1) := by decide +kernel
theorem dL_law_188 : decode cL_law 188 = .ok (.irem, 1) := by decide +kernel
theorem dL_law_189 : decode cL_law 189 = .ok (.ifCond .ne 12, 3) := by decide +kernel
theorem dL_law_192 : decode cL_law 192 = .ok (.iload 9, 2) := by decide +kernel
theorem dL_law_194 : decode cL_law 194 = .ok (.sipush 240, 3) := by decide +kernel
theorem dL_law_197 : decode cL_law 197 = .ok (.irem, 1) := by decide +kernel
theorem dL_law_198 : decode cL_law 198 = .ok (.goto 19, 3) := by decide +kernel
theorem dL_law_201 : decode cL_law 201 = .ok (.aload_n 2, 1) := by decide +kernel
theorem dL_law_202 : decode cL_law 202 = .ok (.bipush 12, 2) := by decide +kernel
theorem dL_law_204 : decode cL_law 204 = .ok (.iload 11, 2) := by decide +kernel
theorem dL_law_206 : decode cL_law 206 = .ok (.iadd, 1) := by decide +kernel
theorem dL_law_207 : decode cL_law 207 = .ok (.iaload, 1) := by decide +kernel
theorem dL_law_208 : decode cL_law 208 = .ok (.bipush 30, 2) := by decide +kernel
theorem dL_law_210 : decode cL_law 210 = .ok (.idiv, 1) := by decide +kernel
theorem dL_law_211 : decode cL_law 211 = .ok (.iload 9, 2) := by decide +kernel
theorem dL_law_213 : decode cL_law 213 = .ok (.bipush 9, 2) := by decide +kernel
theorem dL_law_215 : decode cL_law 215 = .ok (.irem, 1) := by decide +kernel
theorem dL_law_216 : decode cL_law 216 = .ok (.iadd, 1) := by decide +kernel
theorem dL_law_217 : decode cL_law 217 = .ok (.istore 12, 2) := by decide +kernel
theorem dL_law_219 : decode cL_law 219 = .ok (.aload_n 1, 1) := by decide +kernel
theorem dL_law_220 : decode cL_law 220 = .ok (.aload_n 2, 1) := by decide +kernel
theorem dL_law_221 : decode cL_law 221 = .ok (.aload 5, 2) := by decide +kernel
theorem dL_law_223 : decode cL_law 223 = .ok (.iload 11, 2) := by decide +kernel
theorem dL_law_225 : decode cL_law 225 = .ok (.iload 12, 2) := by decide +kernel
theorem dL_law_227 : decode cL_law 227 = .ok (.sipush 239, 3) := by decide +kernel
theorem dL_law_230 : decode cL_law 230 = .ok (.if_icmp .le 9, 3) := by decide +kernel
theorem dL_law_233 : decode cL_law 233 = .ok (.sipush 239, 3) := by decide +kernel
theorem dL_law_236 : decode cL_law 236 = .ok (.goto 5, 3) := by decide +kernel
theorem dL_law_239 : decode cL_law 239 = .ok (.iload 12, 2) := by decide +kernel
theorem dL_law_241 : decode cL_law 241 = .ok (.invokestatic 116, 3) := by decide +kernel
theorem dL_law_244 : decode cL_law 244 = .ok (.ifCond .eq 42, 3) := by decide +kernel
theorem dL_law_247 : decode cL_law 247 = .ok (.aload_n 1, 1) := by decide +kernel
theorem dL_law_248 : decode cL_law 248 = .ok (.aload_n 2, 1) := by decide +kernel
theorem dL_law_249 : decode cL_law 249 = .ok (.aload_n 3, 1) := by decide +kernel
theorem dL_law_250 : decode cL_law 250 = .ok (.iload 9, 2) := by decide +kernel
theorem dL_law_252 : decode cL_law 252 = .ok (.iconst 3, 1) := by decide +kernel
theorem dL_law_253 : decode cL_law 253 = .ok (.irem, 1) := by decide +kernel
theorem dL_law_254 : decode cL_law 254 = .ok (.ifCond .ne 11, 3) := by decide +kernel
theorem dL_law_257 : decode cL_law 257 = .ok (.iload 9, 2) := by decide +kernel
theorem dL_law_259 : decode cL_law 259 = .ok (.bipush 20, 2) := by decide +kernel
theorem dL_law_261 : decode cL_law 261 = .ok (.irem, 1) := by decide +kernel
theorem dL_law_262 : decode cL_law 262 = .ok (.goto 14, 3) := by decide +kernel
theorem dL_law_265 : decode cL_law 265 = .ok (.aload_n 2, 1) := by decide +kernel
theorem dL_law_266 : decode cL_law 266 = .ok (.bipush 12, 2) := by decide +kernel
theorem dL_law_268 : decode cL_law 268 = .ok (.iload 11, 2) := by decide +kernel
theorem dL_law_270 : decode cL_law 270 = .ok (.iadd, 1) := by decide +kernel
theorem dL_law_271 : decode cL_law 271 = .ok (.iaload, 1) := by decide +kernel
theorem dL_law_272 : decode cL_law 272 = .ok (.sipush 360, 3) := by decide +kernel
theorem dL_law_275 : decode cL_law 275 = .ok (.idiv, 1) := by decide +kernel
theorem dL_law_276 : decode cL_law 276 = .ok (.invokestatic 120, 3) := by decide +kernel
theorem dL_law_279 : decode cL_law 279 = .ok (.ifCond .eq 7, 3) := by decide +kernel
theorem dL_law_282 : decode cL_law 282 = .ok (.iconst 1, 1) := by decide +kernel
theorem dL_law_283 : decode cL_law 283 = .ok (.goto 4, 3) := by decide +kernel
theorem dL_law_286 : decode cL_law 286 = .ok (.iconst 0, 1) := by decide +kernel
theorem dL_law_287 : decode cL_law 287 = .ok (.istore 6, 2) := by decide +kernel
theorem dL_law_289 : decode cL_law 289 = .ok (.iinc 8 1, 3) := by decide +kernel
theorem dL_law_292 : decode cL_law 292 = .ok (.goto (-194), 3) := by decide +kernel
theorem dL_law_295 : decode cL_law 295 = .ok (.iload 6, 2) := by decide +kernel
theorem dL_law_297 : decode cL_law 297 = .ok (.ireturn, 1) := by decide +kernel
abbrev vwCl : List vw_C := [(RX0, TX0, 12), (RX1, TX1, 5)]
/-! ===== END printed: names ===== -/

