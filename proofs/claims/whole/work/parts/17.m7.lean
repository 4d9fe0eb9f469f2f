theorem dX11_least_0 : decode cX11_least 0 = .ok (.aload_n 0, 1) := by decide +kernel
theorem dX11_least_1 : decode cX11_least 1 = .ok (.iload_n 1, 1) := by decide +kernel
theorem dX11_least_2 : decode cX11_least 2 = .ok (.invokevirtual 184, 3) := by decide +kernel
theorem dX11_least_5 : decode cX11_least 5 = .ok (.ifCond .eq 27, 3) := by decide +kernel
theorem dX11_least_8 : decode cX11_least 8 = .ok (.iload_n 2, 1) := by decide +kernel
theorem dX11_least_9 : decode cX11_least 9 = .ok (.i2l, 1) := by decide +kernel
theorem dX11_least_10 : decode cX11_least 10 = .ok (.lconst 0, 1) := by decide +kernel
theorem dX11_least_11 : decode cX11_least 11 = .ok (.ldc2_w 214, 3) := by decide +kernel
theorem dX11_least_14 : decode cX11_least 14 = .ok (.invokestatic 51, 3) := by decide +kernel
theorem dX11_least_17 : decode cX11_least 17 = .ok (.ifCond .eq 15, 3) := by decide +kernel
theorem dX11_least_20 : decode cX11_least 20 = .ok (.iload_n 3, 1) := by decide +kernel
theorem dX11_least_21 : decode cX11_least 21 = .ok (.i2l, 1) := by decide +kernel
theorem dX11_least_22 : decode cX11_least 22 = .ok (.lconst 0, 1) := by decide +kernel
theorem dX11_least_23 : decode cX11_least 23 = .ok (.ldc2_w 214, 3) := by decide +kernel
theorem dX11_least_26 : decode cX11_least 26 = .ok (.invokestatic 51, 3) := by decide +kernel
theorem dX11_least_29 : decode cX11_least 29 = .ok (.ifCond .ne 11, 3) := by decide +kernel
theorem dX11_least_32 : decode cX11_least 32 = .ok (.aload_n 0, 1) := by decide +kernel
theorem dX11_least_33 : decode cX11_least 33 = .ok (.iconst 0, 1) := by decide +kernel
theorem dX11_least_34 : decode cX11_least 34 = .ok (.bipush (-10), 2) := by decide +kernel
theorem dX11_least_36 : decode cX11_least 36 = .ok (.invokevirtual 47, 3) := by decide +kernel
theorem dX11_least_39 : decode cX11_least 39 = .ok (.ireturn, 1) := by decide +kernel
theorem dX11_least_40 : decode cX11_least 40 = .ok (.aload_n 0, 1) := by decide +kernel
theorem dX11_least_41 : decode cX11_least 41 = .ok (.invokevirtual 187, 3) := by decide +kernel
theorem dX11_least_44 : decode cX11_least 44 = .ok (.aload_n 0, 1) := by decide +kernel
theorem dX11_least_45 : decode cX11_least 45 = .ok (.ldc 216, 2) := by decide +kernel
theorem dX11_least_47 : decode cX11_least 47 = .ok (.putfield 205, 3) := by decide +kernel
theorem dX11_least_50 : decode cX11_least 50 = .ok (.aload_n 0, 1) := by decide +kernel
theorem dX11_least_51 : decode cX11_least 51 = .ok (.iload_n 1, 1) := by decide +kernel
theorem dX11_least_52 : decode cX11_least 52 = .ok (.iconst (-1), 1) := by decide +kernel
theorem dX11_least_53 : decode cX11_least 53 = .ok (.iconst (-1), 1) := by decide +kernel
theorem dX11_least_54 : decode cX11_least 54 = .ok (.invokevirtual 217, 3) := by decide +kernel
theorem dX11_least_57 : decode cX11_least 57 = .ok (.bipush 100, 2) := by decide +kernel
theorem dX11_least_59 : decode cX11_least 59 = .ok (.istore 4, 2) := by decide +kernel
theorem dX11_least_61 : decode cX11_least 61 = .ok (.iconst 0, 1) := by decide +kernel
theorem dX11_least_62 : decode cX11_least 62 = .ok (.istore 5, 2) := by decide +kernel
theorem dX11_least_64 : decode cX11_least 64 = .ok (.iload 5, 2) := by decide +kernel
theorem dX11_least_66 : decode cX11_least 66 = .ok (.iload 4, 2) := by decide +kernel
theorem dX11_least_68 : decode cX11_least 68 = .ok (.if_icmp .ge 99, 3) := by decide +kernel
theorem dX11_least_71 : decode cX11_least 71 = .ok (.iload_n 2, 1) := by decide +kernel
theorem dX11_least_72 : decode cX11_least 72 = .ok (.ifCond .le 95, 3) := by decide +kernel
theorem dX11_least_75 : decode cX11_least 75 = .ok (.iload 5, 2) := by decide +kernel
theorem dX11_least_77 : decode cX11_least 77 = .ok (.bipush 10, 2) := by decide +kernel
theorem dX11_least_79 : decode cX11_least 79 = .ok (.idiv, 1) := by decide +kernel
theorem dX11_least_80 : decode cX11_least 80 = .ok (.istore 6, 2) := by decide +kernel
theorem dX11_least_82 : decode cX11_least 82 = .ok (.iload 6, 2) := by decide +kernel
theorem dX11_least_84 : decode cX11_least 84 = .ok (.aload_n 0, 1) := by decide +kernel
theorem dX11_least_85 : decode cX11_least 85 = .ok (.getfield 7, 3) := by decide +kernel
theorem dX11_least_88 : decode cX11_least 88 = .ok (.iconst 1, 1) := by decide +kernel
theorem dX11_least_89 : decode cX11_least 89 = .ok (.iaload, 1) := by decide +kernel
theorem dX11_least_90 : decode cX11_least 90 = .ok (.if_icmp .ge 71, 3) := by decide +kernel
theorem dX11_least_93 : decode cX11_least 93 = .ok (.iload 5, 2) := by decide +kernel
theorem dX11_least_95 : decode cX11_least 95 = .ok (.bipush 10, 2) := by decide +kernel
theorem dX11_least_97 : decode cX11_least 97 = .ok (.irem, 1) := by decide +kernel
theorem dX11_least_98 : decode cX11_least 98 = .ok (.aload_n 0, 1) := by decide +kernel
theorem dX11_least_99 : decode cX11_least 99 = .ok (.getfield 7, 3) := by decide +kernel
theorem dX11_least_102 : decode cX11_least 102 = .ok (.iconst 0, 1) := by decide +kernel
theorem dX11_least_103 : decode cX11_least 103 = .ok (.iaload, 1) := by decide +kernel
theorem dX11_least_104 : decode cX11_least 104 = .ok (.if_icmp .ge 57, 3) := by decide +kernel
theorem dX11_least_107 : decode cX11_least 107 = .ok (.iload 5, 2) := by decide +kernel
theorem dX11_least_109 : decode cX11_least 109 = .ok (.bipush 10, 2) := by decide +kernel
theorem dX11_least_111 : decode cX11_least 111 = .ok (.irem, 1) := by decide +kernel
theorem dX11_least_112 : decode cX11_least 112 = .ok (.aload_n 0, 1) := by decide +kernel
theorem dX11_least_113 : decode cX11_least 113 = .ok (.getfield 7, 3) := by decide +kernel
theorem dX11_least_116 : decode cX11_least 116 = .ok (.bipush 16, 2) := by decide +kernel
theorem dX11_least_118 : decode cX11_least 118 = .ok (.iload 6, 2) := by decide +kernel
theorem dX11_least_120 : decode cX11_least 120 = .ok (.iadd, 1) := by decide +kernel
theorem dX11_least_121 : decode cX11_least 121 = .ok (.iaload, 1) := by decide +kernel
theorem dX11_least_122 : decode cX11_least 122 = .ok (.if_icmp .eq 39, 3) := by decide +kernel
theorem dX11_least_125 : decode cX11_least 125 = .ok (.aload_n 0, 1) := by decide +kernel
theorem dX11_least_126 : decode cX11_least 126 = .ok (.bipush 16, 2) := by decide +kernel
theorem dX11_least_128 : decode cX11_least 128 = .ok (.iload 6, 2) := by decide +kernel
theorem dX11_least_130 : decode cX11_least 130 = .ok (.iadd, 1) := by decide +kernel
theorem dX11_least_131 : decode cX11_least 131 = .ok (.iload 5, 2) := by decide +kernel
theorem dX11_least_133 : decode cX11_least 133 = .ok (.bipush 10, 2) := by decide +kernel
theorem dX11_least_135 : decode cX11_least 135 = .ok (.irem, 1) := by decide +kernel
theorem dX11_least_136 : decode cX11_least 136 = .ok (.invokevirtual 73, 3) := by decide +kernel
theorem dX11_least_139 : decode cX11_least 139 = .ok (.istore 7, 2) := by decide +kernel
theorem dX11_least_141 : decode cX11_least 141 = .ok (.aload_n 0, 1) := by decide +kernel
theorem dX11_least_142 : decode cX11_least 142 = .ok (.iload_n 1, 1) := by decide +kernel
theorem dX11_least_143 : decode cX11_least 143 = .ok (.iload 5, 2) := by decide +kernel
theorem dX11_least_145 : decode cX11_least 145 = .ok (.iconst (-1), 1) := by decide +kernel
theorem dX11_least_146 : decode cX11_least 146 = .ok (.invokevirtual 217, 3) := by decide +kernel
theorem dX11_least_149 : decode cX11_least 149 = .ok (.aload_n 0, 1) := by decide +kernel
theorem dX11_least_150 : decode cX11_least 150 = .ok (.getfield 7, 3) := by decide +kernel
theorem dX11_least_153 : decode cX11_least 153 = .ok (.bipush 16, 2) := by decide +kernel
theorem dX11_least_155 : decode cX11_least 155 = .ok (.iload 6, 2) := by decide +kernel
theorem dX11_least_157 : decode cX11_least 157 = .ok (.iadd, 1) := by decide +kernel
theorem dX11_least_158 : decode cX11_least 158 = .ok (.iload 7, 2) := by decide +kernel
theorem dX11_least_160 : decode cX11_least 160 = .ok (.iastore, 1) := by decide +kernel
theorem dX11_least_161 : decode cX11_least 161 = .ok (.iinc 5 1, 3) := by decide +kernel
theorem dX11_least_164 : decode cX11_least 164 = .ok (.goto (-100), 3) := by decide +kernel
theorem dX11_least_167 : decode cX11_least 167 = .ok (.iconst 0, 1) := by decide +kernel
theorem dX11_least_168 : decode cX11_least 168 = .ok (.istore 5, 2) := by decide +kernel
theorem dX11_least_170 : decode cX11_least 170 = .ok (.iload 5, 2) := by decide +kernel
theorem dX11_least_172 : decode cX11_least 172 = .ok (.iload 4, 2) := by decide +kernel
theorem dX11_least_174 : decode cX11_least 174 = .ok (.if_icmp .ge 202, 3) := by decide +kernel
theorem dX11_least_177 : decode cX11_least 177 = .ok (.iload_n 2, 1) := by decide +kernel
theorem dX11_least_178 : decode cX11_least 178 = .ok (.iconst 1, 1) := by decide +kernel
theorem dX11_least_179 : decode cX11_least 179 = .ok (.if_icmp .le 197, 3) := by decide +kernel
theorem dX11_least_182 : decode cX11_least 182 = .ok (.iload 5, 2) := by decide +kernel
theorem dX11_least_184 : decode cX11_least 184 = .ok (.bipush 10, 2) := by decide +kernel
theorem dX11_least_186 : decode cX11_least 186 = .ok (.idiv, 1) := by decide +kernel
theorem dX11_least_187 : decode cX11_least 187 = .ok (.istore 6, 2) := by decide +kernel
theorem dX11_least_189 : decode cX11_least 189 = .ok (.iload 6, 2) := by decide +kernel
theorem dX11_least_191 : decode cX11_least 191 = .ok (.aload_n 0, 1) := by decide +kernel
theorem dX11_least_192 : decode cX11_least 192 = .ok (.getfield 7, 3) := by decide +kernel
theorem dX11_least_195 : decode cX11_least 195 = .ok (.iconst 1, 1) := by decide +kernel
theorem dX11_least_196 : decode cX11_least 196 = .ok (.iaload, 1) := by decide +kernel
theorem dX11_least_197 : decode cX11_least 197 = .ok (.if_icmp .ge 173, 3) := by decide +kernel
theorem dX11_least_200 : decode cX11_least 200 = .ok (.iload 5, 2) := by decide +kernel
theorem dX11_least_202 : decode cX11_least 202 = .ok (.bipush 10, 2) := by decide +kernel
theorem dX11_least_204 : decode cX11_least 204 = .ok (.irem, 1) := by decide +kernel
theorem dX11_least_205 : decode cX11_least 205 = .ok (.aload_n 0, 1) := by decide +kernel
theorem dX11_least_206 : decode cX11_least 206 = .ok (.getfield 7, 3) := by decide +kernel
theorem dX11_least_209 : decode cX11_least 209 = .ok (.iconst 0, 1) := by decide +kernel
theorem dX11_least_210 : decode cX11_least 210 = .ok (.iaload, 1) := by decide +kernel
theorem dX11_least_211 : decode cX11_least 211 = .ok (.if_icmp .ge 159, 3) := by decide +kernel
theorem dX11_least_214 : decode cX11_least 214 = .ok (.iload 5, 2) := by decide +kernel
theorem dX11_least_216 : decode cX11_least 216 = .ok (.bipush 10, 2) := by decide +kernel
theorem dX11_least_218 : decode cX11_least 218 = .ok (.irem, 1) := by decide +kernel
theorem dX11_least_219 : decode cX11_least 219 = .ok (.aload_n 0, 1) := by decide +kernel
theorem dX11_least_220 : decode cX11_least 220 = .ok (.getfield 7, 3) := by decide +kernel
theorem dX11_least_223 : decode cX11_least 223 = .ok (.bipush 16, 2) := by decide +kernel
theorem dX11_least_225 : decode cX11_least 225 = .ok (.iload 6, 2) := by decide +kernel
theorem dX11_least_227 : decode cX11_least 227 = .ok (.iadd, 1) := by decide +kernel
theorem dX11_least_228 : decode cX11_least 228 = .ok (.iaload, 1) := by decide +kernel
theorem dX11_least_229 : decode cX11_least 229 = .ok (.if_icmp .eq 141, 3) := by decide +kernel
theorem dX11_least_232 : decode cX11_least 232 = .ok (.aload_n 0, 1) := by decide +kernel
theorem dX11_least_233 : decode cX11_least 233 = .ok (.bipush 16, 2) := by decide +kernel
theorem dX11_least_235 : decode cX11_least 235 = .ok (.iload 6, 2) := by decide +kernel
theorem dX11_least_237 : decode cX11_least 237 = .ok (.iadd, 1) := by decide +kernel
theorem dX11_least_238 : decode cX11_least 238 = .ok (.iload 5, 2) := by decide +kernel
theorem dX11_least_240 : decode cX11_least 240 = .ok (.bipush 10, 2) := by decide +kernel
theorem dX11_least_242 : decode cX11_least 242 = .ok (.irem, 1) := by decide +kernel
theorem dX11_least_243 : decode cX11_least 243 = .ok (.invokevirtual 73, 3) := by decide +kernel
theorem dX11_least_246 : decode cX11_least 246 = .ok (.istore 7, 2) := by decide +kernel
theorem dX11_least_248 : decode cX11_least 248 = .ok (.bipush 10, 2) := by decide +kernel
theorem dX11_least_250 : decode cX11_least 250 = .ok (.iload 6, 2) := by decide +kernel
theorem dX11_least_252 : decode cX11_least 252 = .ok (.imul, 1) := by decide +kernel
theorem dX11_least_253 : decode cX11_least 253 = .ok (.bipush 10, 2) := by decide +kernel
theorem dX11_least_255 : decode cX11_least 255 = .ok (.iadd, 1) := by decide +kernel
theorem dX11_least_256 : decode cX11_least 256 = .ok (.istore 8, 2) := by decide +kernel
theorem dX11_least_258 : decode cX11_least 258 = .ok (.iload 8, 2) := by decide +kernel
theorem dX11_least_260 : decode cX11_least 260 = .ok (.iload 4, 2) := by decide +kernel
theorem dX11_least_262 : decode cX11_least 262 = .ok (.if_icmp .ge 96, 3) := by decide +kernel
theorem dX11_least_265 : decode cX11_least 265 = .ok (.iload 8, 2) := by decide +kernel
theorem dX11_least_267 : decode cX11_least 267 = .ok (.bipush 10, 2) := by decide +kernel
theorem dX11_least_269 : decode cX11_least 269 = .ok (.idiv, 1) := by decide +kernel
theorem dX11_least_270 : decode cX11_least 270 = .ok (.istore 9, 2) := by decide +kernel
theorem dX11_least_272 : decode cX11_least 272 = .ok (.iload 9, 2) := by decide +kernel
theorem dX11_least_274 : decode cX11_least 274 = .ok (.aload_n 0, 1) := by decide +kernel
theorem dX11_least_275 : decode cX11_least 275 = .ok (.getfield 7, 3) := by decide +kernel
theorem dX11_least_278 : decode cX11_least 278 = .ok (.iconst 1, 1) := by decide +kernel
theorem dX11_least_279 : decode cX11_least 279 = .ok (.iaload, 1) := by decide +kernel
theorem dX11_least_280 : decode cX11_least 280 = .ok (.if_icmp .ge 72, 3) := by decide +kernel
theorem dX11_least_283 : decode cX11_least 283 = .ok (.iload 8, 2) := by decide +kernel
theorem dX11_least_285 : decode cX11_least 285 = .ok (.bipush 10, 2) := by decide +kernel
theorem dX11_least_287 : decode cX11_least 287 = .ok (.irem, 1) := by decide +kernel
theorem dX11_least_288 : decode cX11_least 288 = .ok (.aload_n 0, 1) := by decide +kernel
theorem dX11_least_289 : decode cX11_least 289 = .ok (.getfield 7, 3) := by decide +kernel
theorem dX11_least_292 : decode cX11_least 292 = .ok (.iconst 0, 1) := by decide +kernel
theorem dX11_least_293 : decode cX11_least 293 = .ok (.iaload, 1) := by decide +kernel
theorem dX11_least_294 : decode cX11_least 294 = .ok (.if_icmp .ge 58, 3) := by decide +kernel
theorem dX11_least_297 : decode cX11_least 297 = .ok (.iload 8, 2) := by decide +kernel
theorem dX11_least_299 : decode cX11_least 299 = .ok (.bipush 10, 2) := by decide +kernel
theorem dX11_least_301 : decode cX11_least 301 = .ok (.irem, 1) := by decide +kernel
theorem dX11_least_302 : decode cX11_least 302 = .ok (.aload_n 0, 1) := by decide +kernel
theorem dX11_least_303 : decode cX11_least 303 = .ok (.getfield 7, 3) := by decide +kernel
theorem dX11_least_306 : decode cX11_least 306 = .ok (.bipush 16, 2) := by decide +kernel
theorem dX11_least_308 : decode cX11_least 308 = .ok (.iload 9, 2) := by decide +kernel
theorem dX11_least_310 : decode cX11_least 310 = .ok (.iadd, 1) := by decide +kernel
theorem dX11_least_311 : decode cX11_least 311 = .ok (.iaload, 1) := by decide +kernel
theorem dX11_least_312 : decode cX11_least 312 = .ok (.if_icmp .eq 40, 3) := by decide +kernel
theorem dX11_least_315 : decode cX11_least 315 = .ok (.aload_n 0, 1) := by decide +kernel
theorem dX11_least_316 : decode cX11_least 316 = .ok (.bipush 16, 2) := by decide +kernel
theorem dX11_least_318 : decode cX11_least 318 = .ok (.iload 9, 2) := by decide +kernel
theorem dX11_least_320 : decode cX11_least 320 = .ok (.iadd, 1) := by decide +kernel
theorem dX11_least_321 : decode cX11_least 321 = .ok (.iload 8, 2) := by decide +kernel
theorem dX11_least_323 : decode cX11_least 323 = .ok (.bipush 10, 2) := by decide +kernel
theorem dX11_least_325 : decode cX11_least 325 = .ok (.irem, 1) := by decide +kernel
theorem dX11_least_326 : decode cX11_least 326 = .ok (.invokevirtual 73, 3) := by decide +kernel
theorem dX11_least_329 : decode cX11_least 329 = .ok (.istore 10, 2) := by decide +kernel
theorem dX11_least_331 : decode cX11_least 331 = .ok (.aload_n 0, 1) := by decide +kernel
theorem dX11_least_332 : decode cX11_least 332 = .ok (.iload_n 1, 1) := by decide +kernel
theorem dX11_least_333 : decode cX11_least 333 = .ok (.iload 5, 2) := by decide +kernel
theorem dX11_least_335 : decode cX11_least 335 = .ok (.iload 8, 2) := by decide +kernel
theorem dX11_least_337 : decode cX11_least 337 = .ok (.invokevirtual 217, 3) := by decide +kernel
theorem dX11_least_340 : decode cX11_least 340 = .ok (.aload_n 0, 1) := by decide +kernel
theorem dX11_least_341 : decode cX11_least 341 = .ok (.getfield 7, 3) := by decide +kernel
theorem dX11_least_344 : decode cX11_least 344 = .ok (.bipush 16, 2) := by decide +kernel
theorem dX11_least_346 : decode cX11_least 346 = .ok (.iload 9, 2) := by decide +kernel
theorem dX11_least_348 : decode cX11_least 348 = .ok (.iadd, 1) := by decide +kernel
theorem dX11_least_349 : decode cX11_least 349 = .ok (.iload 10, 2) := by decide +kernel
theorem dX11_least_351 : decode cX11_least 351 = .ok (.iastore, 1) := by decide +kernel
theorem dX11_least_352 : decode cX11_least 352 = .ok (.iinc 8 1, 3) := by decide +kernel
theorem dX11_least_355 : decode cX11_least 355 = .ok (.goto (-97), 3) := by decide +kernel
theorem dX11_least_358 : decode cX11_least 358 = .ok (.aload_n 0, 1) := by decide +kernel
theorem dX11_least_359 : decode cX11_least 359 = .ok (.getfield 7, 3) := by decide +kernel
theorem dX11_least_362 : decode cX11_least 362 = .ok (.bipush 16, 2) := by decide +kernel
theorem dX11_least_364 : decode cX11_least 364 = .ok (.iload 6, 2) := by decide +kernel
theorem dX11_least_366 : decode cX11_least 366 = .ok (.iadd, 1) := by decide +kernel
theorem dX11_least_367 : decode cX11_least 367 = .ok (.iload 7, 2) := by decide +kernel
theorem dX11_least_369 : decode cX11_least 369 = .ok (.iastore, 1) := by decide +kernel
theorem dX11_least_370 : decode cX11_least 370 = .ok (.iinc 5 1, 3) := by decide +kernel
theorem dX11_least_373 : decode cX11_least 373 = .ok (.goto (-203), 3) := by decide +kernel
theorem dX11_least_376 : decode cX11_least 376 = .ok (.iload_n 3, 1) := by decide +kernel
theorem dX11_least_377 : decode cX11_least 377 = .ok (.ifCond .ne 10, 3) := by decide +kernel
theorem dX11_least_380 : decode cX11_least 380 = .ok (.aload_n 0, 1) := by decide +kernel
theorem dX11_least_381 : decode cX11_least 381 = .ok (.getfield 205, 3) := by decide +kernel
theorem dX11_least_384 : decode cX11_least 384 = .ok (.goto 19, 3) := by decide +kernel
theorem dX11_least_387 : decode cX11_least 387 = .ok (.iload_n 3, 1) := by decide +kernel
theorem dX11_least_388 : decode cX11_least 388 = .ok (.iconst 1, 1) := by decide +kernel
theorem dX11_least_389 : decode cX11_least 389 = .ok (.if_icmp .ne 10, 3) := by decide +kernel
theorem dX11_least_392 : decode cX11_least 392 = .ok (.aload_n 0, 1) := by decide +kernel
theorem dX11_least_393 : decode cX11_least 393 = .ok (.getfield 208, 3) := by decide +kernel
theorem dX11_least_396 : decode cX11_least 396 = .ok (.goto 7, 3) := by decide +kernel
theorem dX11_least_399 : decode cX11_least 399 = .ok (.aload_n 0, 1) := by decide +kernel
theorem dX11_least_400 : decode cX11_least 400 = .ok (.getfield 211, 3) := by decide +kernel
theorem dX11_least_403 : decode cX11_least 403 = .ok (.ireturn, 1) := by decide +kernel
noncomputable def f_X11_least (x1 : Int32) (x2 : Int32) (x3 : Int32) (μ : Mem) : Option (Int32 × Mem) :=
  bd (f_X11_isSet x1 μ) fun r1 =>
  jn (
    bd2 (f_X11_refuses 0 (-10) μ) fun r3 ν4 =>
    some (r3, ν4)
    ) fun j2 =>
  if r1 = 0 then
    j2
  else
    bd (f_X11_in ((x2 : Int32).toInt64) 0 2) fun r5 =>
    if r5 = 0 then
      j2
    else
      bd (f_X11_in ((x3 : Int32).toInt64) 0 2) fun r6 =>
      if r6 = 0 then
        j2
      else
        bd (f_X11_asNow  μ) fun ν7 =>
        lt (setI ν7 112 17 1000000) fun ν8 =>
        bd (f_X11_tries x1 (-1) (-1) ν8) fun ν9 =>
        bd (lp (ε := Mem) (cu2 fun (x5_10 : Int32) (ν11 : Mem) =>
          if x5_10 < 100 then
            if 0 < x2 then
              jn (fun (ν14 : Mem) =>
                some (.inl ((x5_10 + 1), ν14))
                ) fun j15 =>
              if (x5_10 / 10) < (ν11.1 113 1) then
                if (x5_10 - x5_10 / 10 * 10) < (ν11.1 113 0) then
                  chk (16 + (x5_10 / 10)) 184 (
                    if (x5_10 - x5_10 / 10 * 10) = (ν11.1 113 (ix (16 + (x5_10 / 10)))) then
                      j15 ν11
                    else
                      bd2 (f_X11_puts (16 + (x5_10 / 10)) (x5_10 - x5_10 / 10 * 10) ν11) fun r16 ν17 =>
                      bd (f_X11_tries x1 x5_10 (-1) ν17) fun ν18 =>
                      chk (16 + (x5_10 / 10)) 184 (lt (setI ν18 113 (ix (16 + (x5_10 / 10))) r16) fun ν19 =>
                        j15 ν19
                        )
                    )
                else
                  j15 ν11
              else
                j15 ν11
            else
              some (.inr ν11)
          else
            some (.inr ν11)
          ) (0, ν9)) (fun (ν12 : Mem) =>
          bd (lp (ε := Mem) (cu2 fun (x5_20 : Int32) (ν21 : Mem) =>
            if x5_20 < 100 then
              if 1 < x2 then
                jn (fun (ν24 : Mem) =>
                  some (.inl ((x5_20 + 1), ν24))
                  ) fun j25 =>
                if (x5_20 / 10) < (ν21.1 113 1) then
                  if (x5_20 - x5_20 / 10 * 10) < (ν21.1 113 0) then
                    chk (16 + (x5_20 / 10)) 184 (
                      if (x5_20 - x5_20 / 10 * 10) = (ν21.1 113 (ix (16 + (x5_20 / 10)))) then
                        j25 ν21
                      else
                        bd2 (f_X11_puts (16 + (x5_20 / 10)) (x5_20 - x5_20 / 10 * 10) ν21) fun r26 ν27 =>
                        bd (lp (ε := Mem) (cu2 fun (x8_28 : Int32) (ν29 : Mem) =>
                          if x8_28 < 100 then
                            jn (fun (ν32 : Mem) =>
                              some (.inl ((x8_28 + 1), ν32))
                              ) fun j33 =>
                            if (x8_28 / 10) < (ν29.1 113 1) then
                              if (x8_28 - x8_28 / 10 * 10) < (ν29.1 113 0) then
                                chk (16 + (x8_28 / 10)) 184 (
                                  if (x8_28 - x8_28 / 10 * 10) = (ν29.1 113 (ix (16 + (x8_28 / 10)))) then
                                    j33 ν29
                                  else
                                    bd2 (f_X11_puts (16 + (x8_28 / 10)) (x8_28 - x8_28 / 10 * 10) ν29) fun r34 ν35 =>
                                    bd (f_X11_tries x1 x5_20 x8_28 ν35) fun ν36 =>
                                    chk (16 + (x8_28 / 10)) 184 (lt (setI ν36 113 (ix (16 + (x8_28 / 10))) r34) fun ν37 =>
                                      j33 ν37
                                      )
                                  )
                              else
                                j33 ν29
                            else
                              j33 ν29
                          else
                            some (.inr ν29)
                          ) (((10 * (x5_20 / 10)) + 10), ν27)) (fun (ν30 : Mem) =>
                          chk (16 + (x5_20 / 10)) 184 (lt (setI ν30 113 (ix (16 + (x5_20 / 10))) r26) fun ν38 =>
                            j25 ν38
                            )
                          )
                      )
                  else
                    j25 ν21
                else
                  j25 ν21
              else
                some (.inr ν21)
            else
              some (.inr ν21)
            ) (0, ν12)) (fun (ν22 : Mem) =>
            jn (fun (y39 : Int32) =>
              some (y39, ν22)
              ) fun j40 =>
            if x3 = 0 then
              j40 (ν22.1 112 17)
            else
              if x3 = 1 then
                j40 (ν22.1 112 18)
              else
                j40 (ν22.1 112 19)
            )
          )
set_option maxHeartbeats 4000000 in
set_option maxRecDepth 100000 in
theorem c_X11_least {g : GT} {x1 : Int32} {x2 : Int32} {x3 : Int32} {μ : Mem} {μ0 : Mem} {r0 : Int32} (hf : f_X11_least x1 x2 x3 μ = some (r0, μ0)) : CI g yX11_least cX11_least 11 (some .int) 6 [rf g 112, .int x1, .int x2, .int x3] μ r0 μ0 := by
  refine mk_i (by decide) (Nat.le_of_ble_eq_true rfl) ?_
  intro G hX hR
  have hX : CX g G cX11_least RX11 11 6 := hX
  suffices S : ∀ K : (Int32 × Mem) → Prop, (∀ a, K a → a = (r0, μ0)) → Sim G (f_X11_least x1 x2 x3 μ) K 0 [(0, rf g 112), (1, .int x1), (2, .int x2), (3, .int x3)] [] μ from S (fun a => a = (r0, μ0)) (fun a h => h) _ hf rfl
  intro K hK
  unfold f_X11_least
  refine s_aload_n hX dX11_least_0 rfl 0 rfl ?_
  refine s_iload_n hX dX11_least_1 rfl 1 rfl ?_
  refine s_callVir hX [.int x1] (k := 112) (ci := 10) rfl hc10 vkX11_isSet (fun r hF => c_X11_isSet  hF) mkX11_isSet cvX11_184 rfl rfl ⟨by omega, by decide, Nat.le_of_ble_eq_true rfl⟩ dX11_least_2 (fun r1 => ?_)
  refine s_jn (C := fun j => Sim G (j) K 32 [(0, rf g 112)] [] μ) ?_ (fun j2 hj2 => ?_)
  · skip
    show Sim G _ _ 32 [(0, rf g 112)] [] μ
    refine s_aload_n hX dX11_least_32 rfl 0 rfl ?_
    refine s_iconst (v := 0) hX dX11_least_33 (by decide) ?_
    refine s_bipush (v := (-10)) hX dX11_least_34 (by decide) ?_
    refine s_callViw hX [.int 0, .int (-10)] (k := 112) (ci := 10) rfl hc10 vkX11_refuses (fun r ν hF => c_X11_refuses  hF) mkX11_refuses cvX11_47 rfl rfl ⟨by omega, by decide, Nat.le_of_ble_eq_true rfl⟩ dX11_least_36 (fun r3 ν4 => ?_)
    exact s_ireti hK hR dX11_least_39
  refine s_if_eq hX 32 dX11_least_5 (by decide) ?_ ?_
  · exact s_to hX [0] rfl (hj2)
  · refine s_iload_n hX dX11_least_8 rfl 2 rfl ?_
    refine s_i2l hX dX11_least_9 ?_
    refine s_lconst (v := 0) hX dX11_least_10 (by decide) ?_
    refine s_ldc2 hX dX11_least_11 klX11_214 ?_
    refine s_callSir hX [.long (x2 : Int32).toInt64, .long 0, .long 2] skX11_in (fun r hF => c_X11_in  hF) mkX11_in cvX11_51 rfl rfl ⟨by omega, by decide, Nat.le_of_ble_eq_true rfl⟩ dX11_least_14 (fun r5 => ?_)
    refine s_if_eq hX 32 dX11_least_17 (by decide) ?_ ?_
    · exact s_to hX [0] rfl (hj2)
    · refine s_iload_n hX dX11_least_20 rfl 3 rfl ?_
      refine s_i2l hX dX11_least_21 ?_
      refine s_lconst (v := 0) hX dX11_least_22 (by decide) ?_
      refine s_ldc2 hX dX11_least_23 klX11_214 ?_
      refine s_callSir hX [.long (x3 : Int32).toInt64, .long 0, .long 2] skX11_in (fun r hF => c_X11_in  hF) mkX11_in cvX11_51 rfl rfl ⟨by omega, by decide, Nat.le_of_ble_eq_true rfl⟩ dX11_least_26 (fun r6 => ?_)
      refine s_if_ne hX 40 dX11_least_29 (by decide) ?_ ?_
      · refine s_aload_n hX dX11_least_40 rfl 0 rfl ?_
        refine s_callVvw hX [] (k := 112) (ci := 10) rfl hc10 vkX11_asNow (fun ν hF => c_X11_asNow  hF) mkX11_asNow cvX11_187 rfl rfl ⟨by omega, by decide, Nat.le_of_ble_eq_true rfl⟩ dX11_least_41 (fun ν7 => ?_)
        refine s_aload_n hX dX11_least_44 rfl 0 rfl ?_
        refine s_ldc hX dX11_least_45 kcX11_216 ?_
        refine s_putI hX flX11_205 rfl ⟨rfl, rfl⟩ dX11_least_47 (fun ν8 => ?_)
        refine s_aload_n hX dX11_least_50 rfl 0 rfl ?_
        refine s_iload_n hX dX11_least_51 rfl 1 rfl ?_
        refine s_iconst (v := (-1)) hX dX11_least_52 (by decide) ?_
        refine s_iconst (v := (-1)) hX dX11_least_53 (by decide) ?_
        refine s_callVvw hX [.int x1, .int (-1), .int (-1)] (k := 112) (ci := 10) rfl hc10 vkX11_tries (fun ν hF => c_X11_tries  hF) mkX11_tries cvX11_217 rfl rfl ⟨by omega, by decide, Nat.le_of_ble_eq_true rfl⟩ dX11_least_54 (fun ν9 => ?_)
        refine s_bipush (v := 100) hX dX11_least_57 (by decide) ?_
        refine s_istore (lv' := [(4, .int 100), (0, rf g 112), (1, .int x1), (2, .int x2), (3, .int x3)]) hX dX11_least_59 (by decide) rfl ?_
        refine s_iconst (v := 0) hX dX11_least_61 (by decide) ?_
        refine s_istore (lv' := [(5, .int 0), (4, .int 100), (0, rf g 112), (1, .int x1), (2, .int x2), (3, .int x3)]) hX dX11_least_62 (by decide) rfl ?_
        refine s_loop hX 64 167 (fun s : Int32 × Mem => [(0, rf g 112), (1, .int x1), (2, .int x2), (3, .int x3), (4, .int 100), (5, .int s.1)]) (fun s : Int32 × Mem => s.2) (fun s : Mem => [(0, rf g 112), (1, .int x1), (2, .int x2), (3, .int x3), (4, .int 100)]) (fun s : Mem => s) [2, 3, 4, 5, 1, 0] rfl rfl rfl ?_ ?_
        · intro Kq13 hIq13 hJq13 sq
          obtain ⟨x5_10, ν11⟩ := sq
          refine s_cu2 ?_
          show Sim G _ _ 64 [(0, rf g 112), (1, .int x1), (2, .int x2), (3, .int x3), (4, .int 100), (5, .int x5_10)] [] ν11
          refine s_iload hX dX11_least_64 5 rfl ?_
          refine s_iload hX dX11_least_66 4 rfl ?_
          refine s_icmp_ge hX 167 dX11_least_68 (by decide) ?_ ?_
          · exact s_end hX (hJq13 ν11) [0, 1, 2, 3, 4] rfl
          · refine s_iload_n hX dX11_least_71 rfl 2 rfl ?_
            refine s_if_le hX 167 dX11_least_72 (by decide) ?_ ?_
            · exact s_end hX (hJq13 ν11) [0, 1, 2, 3, 4] rfl
            · refine s_iload hX dX11_least_75 5 rfl ?_
              refine s_bipush (v := 10) hX dX11_least_77 (by decide) ?_
              refine s_idiv hX dX11_least_79 (by decide) ?_
              refine s_istore (lv' := [(6, .int (x5_10 / 10)), (0, rf g 112), (1, .int x1), (2, .int x2), (3, .int x3), (4, .int 100), (5, .int x5_10)]) hX dX11_least_80 (by decide) rfl ?_
              refine s_iload hX dX11_least_82 0 rfl ?_
              refine s_aload_n hX dX11_least_84 rfl 1 rfl ?_
              refine s_getR hX (d := 1) 113 flX11_7 rfl rfl dX11_least_85 ?_
              refine s_iconst (v := 1) hX dX11_least_88 (by decide) ?_
              refine s_ialdK hX rfl rfl (by decide) rfl dX11_least_89 ?_
              refine s_jn (C := fun j => ∀ (ν14 : Mem), Sim G (j ν14) Kq13 161 [(0, rf g 112), (1, .int x1), (2, .int x2), (3, .int x3), (4, .int 100), (5, .int x5_10)] [] ν14) ?_ (fun j15 hj15 => ?_)
              · intro ν14
                show Sim G _ _ 161 [(0, rf g 112), (1, .int x1), (2, .int x2), (3, .int x3), (4, .int 100), (5, .int x5_10)] [] ν14
                refine s_iinc (v := (x5_10 + 1)) (lv' := [(5, .int (x5_10 + 1)), (0, rf g 112), (1, .int x1), (2, .int x2), (3, .int x3), (4, .int 100)]) hX dX11_least_161 5 rfl rfl (by decide) rfl ?_
                refine s_goto hX 64 dX11_least_164 (by decide) ?_
                exact s_end hX (hIq13 ((x5_10 + 1), ν14)) [1, 2, 3, 4, 5, 0] rfl
              refine s_icmp_ge hX 161 dX11_least_90 (by decide) ?_ ?_
              · exact s_to hX [1, 2, 3, 4, 5, 6] rfl (hj15 ν11)
              · refine s_iload hX dX11_least_93 6 rfl ?_
                refine s_bipush (v := 10) hX dX11_least_95 (by decide) ?_
                refine s_irem hX dX11_least_97 (by decide) ?_
                refine s_aload_n hX dX11_least_98 rfl 1 rfl ?_
                refine s_getR hX (d := 1) 113 flX11_7 rfl rfl dX11_least_99 ?_
                refine s_iconst (v := 0) hX dX11_least_102 (by decide) ?_
                refine s_ialdK hX rfl rfl (by decide) rfl dX11_least_103 ?_
                refine s_icmp_ge hX 161 dX11_least_104 (by decide) ?_ ?_
                · exact s_to hX [1, 2, 3, 4, 5, 6] rfl (hj15 ν11)
                · refine s_iload hX dX11_least_107 6 rfl ?_
                  refine s_bipush (v := 10) hX dX11_least_109 (by decide) ?_
                  refine s_irem hX dX11_least_111 (by decide) ?_
                  refine s_aload_n hX dX11_least_112 rfl 1 rfl ?_
                  refine s_getR hX (d := 1) 113 flX11_7 rfl rfl dX11_least_113 ?_
                  refine s_bipush (v := 16) hX dX11_least_116 (by decide) ?_
                  refine s_iload hX dX11_least_118 0 rfl ?_
                  refine s_iadd hX dX11_least_120 ?_
                  refine s_iald hX rfl rfl dX11_least_121 ?_
                  refine s_icmp_eq hX 161 dX11_least_122 (by decide) ?_ ?_
                  · exact s_to hX [1, 2, 3, 4, 5, 6] rfl (hj15 ν11)
                  · refine s_aload_n hX dX11_least_125 rfl 1 rfl ?_
                    refine s_bipush (v := 16) hX dX11_least_126 (by decide) ?_
                    refine s_iload hX dX11_least_128 0 rfl ?_
                    refine s_iadd hX dX11_least_130 ?_
                    refine s_iload hX dX11_least_131 6 rfl ?_
                    refine s_bipush (v := 10) hX dX11_least_133 (by decide) ?_
                    refine s_irem hX dX11_least_135 (by decide) ?_
                    refine s_callViw hX [.int (16 + (x5_10 / 10)), .int (x5_10 - x5_10 / 10 * 10)] (k := 112) (ci := 10) rfl hc10 vkX11_puts (fun r ν hF => c_X11_puts  hF) mkX11_puts cvX11_73 rfl rfl ⟨by omega, by decide, Nat.le_of_ble_eq_true rfl⟩ dX11_least_136 (fun r16 ν17 => ?_)
                    refine s_istore (lv' := [(7, .int r16), (6, .int (x5_10 / 10)), (0, rf g 112), (1, .int x1), (2, .int x2), (3, .int x3), (4, .int 100), (5, .int x5_10)]) hX dX11_least_139 (by decide) rfl ?_
                    refine s_aload_n hX dX11_least_141 rfl 2 rfl ?_
                    refine s_iload_n hX dX11_least_142 rfl 3 rfl ?_
                    refine s_iload hX dX11_least_143 7 rfl ?_
                    refine s_iconst (v := (-1)) hX dX11_least_145 (by decide) ?_
                    refine s_callVvw hX [.int x1, .int x5_10, .int (-1)] (k := 112) (ci := 10) rfl hc10 vkX11_tries (fun ν hF => c_X11_tries  hF) mkX11_tries cvX11_217 rfl rfl ⟨by omega, by decide, Nat.le_of_ble_eq_true rfl⟩ dX11_least_146 (fun ν18 => ?_)
                    refine s_aload_n hX dX11_least_149 rfl 2 rfl ?_
                    refine s_getR hX (d := 1) 113 flX11_7 rfl rfl dX11_least_150 ?_
                    refine s_bipush (v := 16) hX dX11_least_153 (by decide) ?_
                    refine s_iload hX dX11_least_155 1 rfl ?_
                    refine s_iadd hX dX11_least_157 ?_
                    refine s_iload hX dX11_least_158 0 rfl ?_
                    refine s_iast hX rfl rfl dX11_least_160 (fun ν19 => ?_)
                    exact s_to hX [2, 3, 4, 5, 6, 7] rfl (hj15 ν19)
        · intro sq
          obtain ⟨ν12, rfl⟩ : ∃ z, z = sq := ⟨_, rfl⟩
          show Sim G _ _ 167 [(0, rf g 112), (1, .int x1), (2, .int x2), (3, .int x3), (4, .int 100)] [] ν12
          refine s_iconst (v := 0) hX dX11_least_167 (by decide) ?_
          refine s_istore (lv' := [(5, .int 0), (0, rf g 112), (1, .int x1), (2, .int x2), (3, .int x3), (4, .int 100)]) hX dX11_least_168 (by decide) rfl ?_
          refine s_loop hX 170 376 (fun s : Int32 × Mem => [(0, rf g 112), (1, .int x1), (2, .int x2), (3, .int x3), (4, .int 100), (5, .int s.1)]) (fun s : Int32 × Mem => s.2) (fun s : Mem => [(0, rf g 112), (3, .int x3)]) (fun s : Mem => s) [1, 2, 3, 4, 5, 0] rfl rfl rfl ?_ ?_
          · intro Kq23 hIq23 hJq23 sq
            obtain ⟨x5_20, ν21⟩ := sq
            refine s_cu2 ?_
            show Sim G _ _ 170 [(0, rf g 112), (1, .int x1), (2, .int x2), (3, .int x3), (4, .int 100), (5, .int x5_20)] [] ν21
            refine s_iload hX dX11_least_170 5 rfl ?_
            refine s_iload hX dX11_least_172 4 rfl ?_
            refine s_icmp_ge hX 376 dX11_least_174 (by decide) ?_ ?_
            · exact s_end hX (hJq23 ν21) [0, 3] rfl
            · refine s_iload_n hX dX11_least_177 rfl 2 rfl ?_
              refine s_iconst (v := 1) hX dX11_least_178 (by decide) ?_
              refine s_icmp_le hX 376 dX11_least_179 (by decide) ?_ ?_
              · exact s_end hX (hJq23 ν21) [0, 3] rfl
              · refine s_iload hX dX11_least_182 5 rfl ?_
                refine s_bipush (v := 10) hX dX11_least_184 (by decide) ?_
                refine s_idiv hX dX11_least_186 (by decide) ?_
                refine s_istore (lv' := [(6, .int (x5_20 / 10)), (0, rf g 112), (1, .int x1), (2, .int x2), (3, .int x3), (4, .int 100), (5, .int x5_20)]) hX dX11_least_187 (by decide) rfl ?_
                refine s_iload hX dX11_least_189 0 rfl ?_
                refine s_aload_n hX dX11_least_191 rfl 1 rfl ?_
                refine s_getR hX (d := 1) 113 flX11_7 rfl rfl dX11_least_192 ?_
                refine s_iconst (v := 1) hX dX11_least_195 (by decide) ?_
                refine s_ialdK hX rfl rfl (by decide) rfl dX11_least_196 ?_
                refine s_jn (C := fun j => ∀ (ν24 : Mem), Sim G (j ν24) Kq23 370 [(0, rf g 112), (1, .int x1), (2, .int x2), (3, .int x3), (4, .int 100), (5, .int x5_20)] [] ν24) ?_ (fun j25 hj25 => ?_)
                · intro ν24
                  show Sim G _ _ 370 [(0, rf g 112), (1, .int x1), (2, .int x2), (3, .int x3), (4, .int 100), (5, .int x5_20)] [] ν24
                  refine s_iinc (v := (x5_20 + 1)) (lv' := [(5, .int (x5_20 + 1)), (0, rf g 112), (1, .int x1), (2, .int x2), (3, .int x3), (4, .int 100)]) hX dX11_least_370 5 rfl rfl (by decide) rfl ?_
                  refine s_goto hX 170 dX11_least_373 (by decide) ?_
                  exact s_end hX (hIq23 ((x5_20 + 1), ν24)) [1, 2, 3, 4, 5, 0] rfl
                refine s_icmp_ge hX 370 dX11_least_197 (by decide) ?_ ?_
                · exact s_to hX [1, 2, 3, 4, 5, 6] rfl (hj25 ν21)
                · refine s_iload hX dX11_least_200 6 rfl ?_
                  refine s_bipush (v := 10) hX dX11_least_202 (by decide) ?_
                  refine s_irem hX dX11_least_204 (by decide) ?_
                  refine s_aload_n hX dX11_least_205 rfl 1 rfl ?_
                  refine s_getR hX (d := 1) 113 flX11_7 rfl rfl dX11_least_206 ?_
                  refine s_iconst (v := 0) hX dX11_least_209 (by decide) ?_
                  refine s_ialdK hX rfl rfl (by decide) rfl dX11_least_210 ?_
                  refine s_icmp_ge hX 370 dX11_least_211 (by decide) ?_ ?_
                  · exact s_to hX [1, 2, 3, 4, 5, 6] rfl (hj25 ν21)
                  · refine s_iload hX dX11_least_214 6 rfl ?_
                    refine s_bipush (v := 10) hX dX11_least_216 (by decide) ?_
                    refine s_irem hX dX11_least_218 (by decide) ?_
                    refine s_aload_n hX dX11_least_219 rfl 1 rfl ?_
                    refine s_getR hX (d := 1) 113 flX11_7 rfl rfl dX11_least_220 ?_
                    refine s_bipush (v := 16) hX dX11_least_223 (by decide) ?_
                    refine s_iload hX dX11_least_225 0 rfl ?_
                    refine s_iadd hX dX11_least_227 ?_
                    refine s_iald hX rfl rfl dX11_least_228 ?_
                    refine s_icmp_eq hX 370 dX11_least_229 (by decide) ?_ ?_
                    · exact s_to hX [1, 2, 3, 4, 5, 6] rfl (hj25 ν21)
                    · refine s_aload_n hX dX11_least_232 rfl 1 rfl ?_
                      refine s_bipush (v := 16) hX dX11_least_233 (by decide) ?_
                      refine s_iload hX dX11_least_235 0 rfl ?_
                      refine s_iadd hX dX11_least_237 ?_
                      refine s_iload hX dX11_least_238 6 rfl ?_
                      refine s_bipush (v := 10) hX dX11_least_240 (by decide) ?_
                      refine s_irem hX dX11_least_242 (by decide) ?_
                      refine s_callViw hX [.int (16 + (x5_20 / 10)), .int (x5_20 - x5_20 / 10 * 10)] (k := 112) (ci := 10) rfl hc10 vkX11_puts (fun r ν hF => c_X11_puts  hF) mkX11_puts cvX11_73 rfl rfl ⟨by omega, by decide, Nat.le_of_ble_eq_true rfl⟩ dX11_least_243 (fun r26 ν27 => ?_)
                      refine s_istore (lv' := [(7, .int r26), (6, .int (x5_20 / 10)), (0, rf g 112), (1, .int x1), (2, .int x2), (3, .int x3), (4, .int 100), (5, .int x5_20)]) hX dX11_least_246 (by decide) rfl ?_
                      refine s_bipush (v := 10) hX dX11_least_248 (by decide) ?_
                      refine s_iload hX dX11_least_250 1 rfl ?_
                      refine s_imul hX dX11_least_252 ?_
                      refine s_bipush (v := 10) hX dX11_least_253 (by decide) ?_
                      refine s_iadd hX dX11_least_255 ?_
                      refine s_istore (lv' := [(8, .int ((10 * (x5_20 / 10)) + 10)), (7, .int r26), (6, .int (x5_20 / 10)), (0, rf g 112), (1, .int x1), (2, .int x2), (3, .int x3), (4, .int 100), (5, .int x5_20)]) hX dX11_least_256 (by decide) rfl ?_
                      refine s_loop hX 258 358 (fun s : Int32 × Mem => [(0, rf g 112), (1, .int x1), (2, .int x2), (3, .int x3), (4, .int 100), (5, .int x5_20), (6, .int (x5_20 / 10)), (7, .int r26), (8, .int s.1)]) (fun s : Int32 × Mem => s.2) (fun s : Mem => [(0, rf g 112), (1, .int x1), (2, .int x2), (3, .int x3), (4, .int 100), (5, .int x5_20), (6, .int (x5_20 / 10)), (7, .int r26)]) (fun s : Mem => s) [3, 4, 5, 6, 7, 8, 2, 1, 0] rfl rfl rfl ?_ ?_
                      · intro Kq31 hIq31 hJq31 sq
                        obtain ⟨x8_28, ν29⟩ := sq
                        refine s_cu2 ?_
                        show Sim G _ _ 258 [(0, rf g 112), (1, .int x1), (2, .int x2), (3, .int x3), (4, .int 100), (5, .int x5_20), (6, .int (x5_20 / 10)), (7, .int r26), (8, .int x8_28)] [] ν29
                        refine s_iload hX dX11_least_258 8 rfl ?_
                        refine s_iload hX dX11_least_260 4 rfl ?_
                        refine s_icmp_ge hX 358 dX11_least_262 (by decide) ?_ ?_
                        · exact s_end hX (hJq31 ν29) [0, 1, 2, 3, 4, 5, 6, 7] rfl
                        · refine s_iload hX dX11_least_265 8 rfl ?_
                          refine s_bipush (v := 10) hX dX11_least_267 (by decide) ?_
                          refine s_idiv hX dX11_least_269 (by decide) ?_
                          refine s_istore (lv' := [(9, .int (x8_28 / 10)), (0, rf g 112), (1, .int x1), (2, .int x2), (3, .int x3), (4, .int 100), (5, .int x5_20), (6, .int (x5_20 / 10)), (7, .int r26), (8, .int x8_28)]) hX dX11_least_270 (by decide) rfl ?_
                          refine s_iload hX dX11_least_272 0 rfl ?_
                          refine s_aload_n hX dX11_least_274 rfl 1 rfl ?_
                          refine s_getR hX (d := 1) 113 flX11_7 rfl rfl dX11_least_275 ?_
                          refine s_iconst (v := 1) hX dX11_least_278 (by decide) ?_
                          refine s_ialdK hX rfl rfl (by decide) rfl dX11_least_279 ?_
                          refine s_jn (C := fun j => ∀ (ν32 : Mem), Sim G (j ν32) Kq31 352 [(0, rf g 112), (1, .int x1), (2, .int x2), (3, .int x3), (4, .int 100), (5, .int x5_20), (6, .int (x5_20 / 10)), (7, .int r26), (8, .int x8_28)] [] ν32) ?_ (fun j33 hj33 => ?_)
                          · intro ν32
                            show Sim G _ _ 352 [(0, rf g 112), (1, .int x1), (2, .int x2), (3, .int x3), (4, .int 100), (5, .int x5_20), (6, .int (x5_20 / 10)), (7, .int r26), (8, .int x8_28)] [] ν32
                            refine s_iinc (v := (x8_28 + 1)) (lv' := [(8, .int (x8_28 + 1)), (0, rf g 112), (1, .int x1), (2, .int x2), (3, .int x3), (4, .int 100), (5, .int x5_20), (6, .int (x5_20 / 10)), (7, .int r26)]) hX dX11_least_352 8 rfl rfl (by decide) rfl ?_
                            refine s_goto hX 258 dX11_least_355 (by decide) ?_
                            exact s_end hX (hIq31 ((x8_28 + 1), ν32)) [1, 2, 3, 4, 5, 6, 7, 8, 0] rfl
                          refine s_icmp_ge hX 352 dX11_least_280 (by decide) ?_ ?_
                          · exact s_to hX [1, 2, 3, 4, 5, 6, 7, 8, 9] rfl (hj33 ν29)
                          · refine s_iload hX dX11_least_283 9 rfl ?_
                            refine s_bipush (v := 10) hX dX11_least_285 (by decide) ?_
                            refine s_irem hX dX11_least_287 (by decide) ?_
                            refine s_aload_n hX dX11_least_288 rfl 1 rfl ?_
                            refine s_getR hX (d := 1) 113 flX11_7 rfl rfl dX11_least_289 ?_
                            refine s_iconst (v := 0) hX dX11_least_292 (by decide) ?_
                            refine s_ialdK hX rfl rfl (by decide) rfl dX11_least_293 ?_
                            refine s_icmp_ge hX 352 dX11_least_294 (by decide) ?_ ?_
                            · exact s_to hX [1, 2, 3, 4, 5, 6, 7, 8, 9] rfl (hj33 ν29)
                            · refine s_iload hX dX11_least_297 9 rfl ?_
                              refine s_bipush (v := 10) hX dX11_least_299 (by decide) ?_
                              refine s_irem hX dX11_least_301 (by decide) ?_
                              refine s_aload_n hX dX11_least_302 rfl 1 rfl ?_
                              refine s_getR hX (d := 1) 113 flX11_7 rfl rfl dX11_least_303 ?_
                              refine s_bipush (v := 16) hX dX11_least_306 (by decide) ?_
                              refine s_iload hX dX11_least_308 0 rfl ?_
                              refine s_iadd hX dX11_least_310 ?_
                              refine s_iald hX rfl rfl dX11_least_311 ?_
                              refine s_icmp_eq hX 352 dX11_least_312 (by decide) ?_ ?_
                              · exact s_to hX [1, 2, 3, 4, 5, 6, 7, 8, 9] rfl (hj33 ν29)
                              · refine s_aload_n hX dX11_least_315 rfl 1 rfl ?_
                                refine s_bipush (v := 16) hX dX11_least_316 (by decide) ?_
                                refine s_iload hX dX11_least_318 0 rfl ?_
                                refine s_iadd hX dX11_least_320 ?_
                                refine s_iload hX dX11_least_321 9 rfl ?_
                                refine s_bipush (v := 10) hX dX11_least_323 (by decide) ?_
                                refine s_irem hX dX11_least_325 (by decide) ?_
                                refine s_callViw hX [.int (16 + (x8_28 / 10)), .int (x8_28 - x8_28 / 10 * 10)] (k := 112) (ci := 10) rfl hc10 vkX11_puts (fun r ν hF => c_X11_puts  hF) mkX11_puts cvX11_73 rfl rfl ⟨by omega, by decide, Nat.le_of_ble_eq_true rfl⟩ dX11_least_326 (fun r34 ν35 => ?_)
                                refine s_istore (lv' := [(10, .int r34), (9, .int (x8_28 / 10)), (0, rf g 112), (1, .int x1), (2, .int x2), (3, .int x3), (4, .int 100), (5, .int x5_20), (6, .int (x5_20 / 10)), (7, .int r26), (8, .int x8_28)]) hX dX11_least_329 (by decide) rfl ?_
                                refine s_aload_n hX dX11_least_331 rfl 2 rfl ?_
                                refine s_iload_n hX dX11_least_332 rfl 3 rfl ?_
                                refine s_iload hX dX11_least_333 7 rfl ?_
                                refine s_iload hX dX11_least_335 10 rfl ?_
                                refine s_callVvw hX [.int x1, .int x5_20, .int x8_28] (k := 112) (ci := 10) rfl hc10 vkX11_tries (fun ν hF => c_X11_tries  hF) mkX11_tries cvX11_217 rfl rfl ⟨by omega, by decide, Nat.le_of_ble_eq_true rfl⟩ dX11_least_337 (fun ν36 => ?_)
                                refine s_aload_n hX dX11_least_340 rfl 2 rfl ?_
                                refine s_getR hX (d := 1) 113 flX11_7 rfl rfl dX11_least_341 ?_
                                refine s_bipush (v := 16) hX dX11_least_344 (by decide) ?_
                                refine s_iload hX dX11_least_346 1 rfl ?_
                                refine s_iadd hX dX11_least_348 ?_
                                refine s_iload hX dX11_least_349 0 rfl ?_
                                refine s_iast hX rfl rfl dX11_least_351 (fun ν37 => ?_)
                                exact s_to hX [2, 3, 4, 5, 6, 7, 8, 9, 10] rfl (hj33 ν37)
                      · intro sq
                        obtain ⟨ν30, rfl⟩ : ∃ z, z = sq := ⟨_, rfl⟩
                        show Sim G _ _ 358 [(0, rf g 112), (1, .int x1), (2, .int x2), (3, .int x3), (4, .int 100), (5, .int x5_20), (6, .int (x5_20 / 10)), (7, .int r26)] [] ν30
                        refine s_aload_n hX dX11_least_358 rfl 0 rfl ?_
                        refine s_getR hX (d := 1) 113 flX11_7 rfl rfl dX11_least_359 ?_
                        refine s_bipush (v := 16) hX dX11_least_362 (by decide) ?_
                        refine s_iload hX dX11_least_364 6 rfl ?_
                        refine s_iadd hX dX11_least_366 ?_
                        refine s_iload hX dX11_least_367 7 rfl ?_
                        refine s_iast hX rfl rfl dX11_least_369 (fun ν38 => ?_)
                        exact s_to hX [0, 1, 2, 3, 4, 5] rfl (hj25 ν38)
          · intro sq
            obtain ⟨ν22, rfl⟩ : ∃ z, z = sq := ⟨_, rfl⟩
            show Sim G _ _ 376 [(0, rf g 112), (3, .int x3)] [] ν22
            refine s_iload_n hX dX11_least_376 rfl 1 rfl ?_
            refine s_jn (C := fun j => ∀ (y39 : Int32), Sim G (j y39) K 403 [] [.int y39] ν22) ?_ (fun j40 hj40 => ?_)
            · intro y39
              show Sim G _ _ 403 [] [.int y39] ν22
              exact s_ireti hK hR dX11_least_403
            refine s_if_ne hX 387 dX11_least_377 (by decide) ?_ ?_
            · refine s_iload_n hX dX11_least_387 rfl 1 rfl ?_
              refine s_iconst (v := 1) hX dX11_least_388 (by decide) ?_
              refine s_icmp_ne hX 399 dX11_least_389 (by decide) ?_ ?_
              · refine s_aload_n hX dX11_least_399 rfl 0 rfl ?_
                refine s_getI hX flX11_211 rfl dX11_least_400 ?_
                exact s_to hX [] rfl (hj40 (ν22.1 112 19))
              · refine s_aload_n hX dX11_least_392 rfl 0 rfl ?_
                refine s_getI hX flX11_208 rfl dX11_least_393 ?_
                refine s_goto hX 403 dX11_least_396 (by decide) ?_
                exact s_to hX [] rfl (hj40 (ν22.1 112 18))
            · refine s_aload_n hX dX11_least_380 rfl 0 rfl ?_
              refine s_getI hX flX11_205 rfl dX11_least_381 ?_
              refine s_goto hX 403 dX11_least_384 (by decide) ?_
              exact s_to hX [] rfl (hj40 (ν22.1 112 17))
      · exact s_to hX [0] rfl (hj2)
theorem dX11_read_0 : decode cX11_read 0 = .ok (.aload_n 0, 1) := by decide +kernel
theorem dX11_read_1 : decode cX11_read 1 = .ok (.invokevirtual 161, 3) := by decide +kernel
theorem dX11_read_4 : decode cX11_read 4 = .ok (.ifCond .ne 11, 3) := by decide +kernel
theorem dX11_read_7 : decode cX11_read 7 = .ok (.bipush (-10), 2) := by decide +kernel
theorem dX11_read_9 : decode cX11_read 9 = .ok (.aload_n 0, 1) := by decide +kernel
theorem dX11_read_10 : decode cX11_read 10 = .ok (.getfield 114, 3) := by decide +kernel
theorem dX11_read_13 : decode cX11_read 13 = .ok (.isub, 1) := by decide +kernel
theorem dX11_read_14 : decode cX11_read 14 = .ok (.ireturn, 1) := by decide +kernel
theorem dX11_read_15 : decode cX11_read 15 = .ok (.iconst 0, 1) := by decide +kernel
theorem dX11_read_16 : decode cX11_read 16 = .ok (.istore_n 1, 1) := by decide +kernel
theorem dX11_read_17 : decode cX11_read 17 = .ok (.iload_n 1, 1) := by decide +kernel
theorem dX11_read_18 : decode cX11_read 18 = .ok (.sipush 184, 3) := by decide +kernel
theorem dX11_read_21 : decode cX11_read 21 = .ok (.if_icmp .ge 21, 3) := by decide +kernel
theorem dX11_read_24 : decode cX11_read 24 = .ok (.aload_n 0, 1) := by decide +kernel
theorem dX11_read_25 : decode cX11_read 25 = .ok (.getfield 20, 3) := by decide +kernel
theorem dX11_read_28 : decode cX11_read 28 = .ok (.iload_n 1, 1) := by decide +kernel
theorem dX11_read_29 : decode cX11_read 29 = .ok (.aload_n 0, 1) := by decide +kernel
theorem dX11_read_30 : decode cX11_read 30 = .ok (.getfield 7, 3) := by decide +kernel
theorem dX11_read_33 : decode cX11_read 33 = .ok (.iload_n 1, 1) := by decide +kernel
theorem dX11_read_34 : decode cX11_read 34 = .ok (.iaload, 1) := by decide +kernel
theorem dX11_read_35 : decode cX11_read 35 = .ok (.iastore, 1) := by decide +kernel
theorem dX11_read_36 : decode cX11_read 36 = .ok (.iinc 1 1, 3) := by decide +kernel
theorem dX11_read_39 : decode cX11_read 39 = .ok (.goto (-22), 3) := by decide +kernel
theorem dX11_read_42 : decode cX11_read 42 = .ok (.aload_n 0, 1) := by decide +kernel
theorem dX11_read_43 : decode cX11_read 43 = .ok (.iconst 1, 1) := by decide +kernel
theorem dX11_read_44 : decode cX11_read 44 = .ok (.putfield 43, 3) := by decide +kernel
theorem dX11_read_47 : decode cX11_read 47 = .ok (.iconst 0, 1) := by decide +kernel
theorem dX11_read_48 : decode cX11_read 48 = .ok (.istore_n 1, 1) := by decide +kernel
theorem dX11_read_49 : decode cX11_read 49 = .ok (.iload_n 1, 1) := by decide +kernel
theorem dX11_read_50 : decode cX11_read 50 = .ok (.aload_n 0, 1) := by decide +kernel
theorem dX11_read_51 : decode cX11_read 51 = .ok (.getfield 131, 3) := by decide +kernel
theorem dX11_read_54 : decode cX11_read 54 = .ok (.if_icmp .ge 17, 3) := by decide +kernel
theorem dX11_read_57 : decode cX11_read 57 = .ok (.aload_n 0, 1) := by decide +kernel
theorem dX11_read_58 : decode cX11_read 58 = .ok (.iload_n 1, 1) := by decide +kernel
theorem dX11_read_59 : decode cX11_read 59 = .ok (.invokevirtual 165, 3) := by decide +kernel
theorem dX11_read_62 : decode cX11_read 62 = .ok (.ifCond .eq 9, 3) := by decide +kernel
theorem dX11_read_65 : decode cX11_read 65 = .ok (.iinc 1 1, 3) := by decide +kernel
theorem dX11_read_68 : decode cX11_read 68 = .ok (.goto (-19), 3) := by decide +kernel
theorem dX11_read_71 : decode cX11_read 71 = .ok (.aload_n 0, 1) := by decide +kernel
theorem dX11_read_72 : decode cX11_read 72 = .ok (.iconst 0, 1) := by decide +kernel
theorem dX11_read_73 : decode cX11_read 73 = .ok (.putfield 43, 3) := by decide +kernel
theorem dX11_read_76 : decode cX11_read 76 = .ok (.iload_n 1, 1) := by decide +kernel
theorem dX11_read_77 : decode cX11_read 77 = .ok (.aload_n 0, 1) := by decide +kernel
theorem dX11_read_78 : decode cX11_read 78 = .ok (.getfield 131, 3) := by decide +kernel
theorem dX11_read_81 : decode cX11_read 81 = .ok (.if_icmp .ne 8, 3) := by decide +kernel
theorem dX11_read_84 : decode cX11_read 84 = .ok (.aload_n 0, 1) := by decide +kernel
theorem dX11_read_85 : decode cX11_read 85 = .ok (.getfield 131, 3) := by decide +kernel
theorem dX11_read_88 : decode cX11_read 88 = .ok (.ireturn, 1) := by decide +kernel
theorem dX11_read_89 : decode cX11_read 89 = .ok (.iconst 0, 1) := by decide +kernel
theorem dX11_read_90 : decode cX11_read 90 = .ok (.istore_n 2, 1) := by decide +kernel
theorem dX11_read_91 : decode cX11_read 91 = .ok (.iload_n 2, 1) := by decide +kernel
theorem dX11_read_92 : decode cX11_read 92 = .ok (.sipush 184, 3) := by decide +kernel
theorem dX11_read_95 : decode cX11_read 95 = .ok (.if_icmp .ge 21, 3) := by decide +kernel
theorem dX11_read_98 : decode cX11_read 98 = .ok (.aload_n 0, 1) := by decide +kernel
theorem dX11_read_99 : decode cX11_read 99 = .ok (.getfield 7, 3) := by decide +kernel
theorem dX11_read_102 : decode cX11_read 102 = .ok (.iload_n 2, 1) := by decide +kernel
theorem dX11_read_103 : decode cX11_read 103 = .ok (.aload_n 0, 1) := by decide +kernel
theorem dX11_read_104 : decode cX11_read 104 = .ok (.getfield 20, 3) := by decide +kernel
theorem dX11_read_107 : decode cX11_read 107 = .ok (.iload_n 2, 1) := by decide +kernel
theorem dX11_read_108 : decode cX11_read 108 = .ok (.iaload, 1) := by decide +kernel
theorem dX11_read_109 : decode cX11_read 109 = .ok (.iastore, 1) := by decide +kernel
theorem dX11_read_110 : decode cX11_read 110 = .ok (.iinc 2 1, 3) := by decide +kernel
theorem dX11_read_113 : decode cX11_read 113 = .ok (.goto (-22), 3) := by decide +kernel
theorem dX11_read_116 : decode cX11_read 116 = .ok (.sipush (-1000), 3) := by decide +kernel
theorem dX11_read_119 : decode cX11_read 119 = .ok (.iload_n 1, 1) := by decide +kernel
theorem dX11_read_120 : decode cX11_read 120 = .ok (.isub, 1) := by decide +kernel
theorem dX11_read_121 : decode cX11_read 121 = .ok (.ireturn, 1) := by decide +kernel
noncomputable def f_X11_read  (μ : Mem) : Option (Int32 × Mem) :=
  bd2 (f_X11_reads  μ) fun r1 ν2 =>
  if r1 = 0 then
    some (((-10) - (ν2.1 112 11)), ν2)
  else
    bd (lp (ε := Mem) (cu2 fun (x1_3 : Int32) (ν4 : Mem) =>
      if x1_3 < 184 then
        chk x1_3 184 (
          chk x1_3 184 (lt (setI ν4 116 (ix x1_3) (ν4.1 113 (ix x1_3))) fun ν7 =>
            some (.inl ((x1_3 + 1), ν7))
            )
          )
      else
        some (.inr ν4)
      ) (0, ν2)) (fun (ν5 : Mem) =>
      lt (setI ν5 112 5 1) fun ν8 =>
      bd (lp (ε := Int32 × Mem) (cu2 fun (x1_9 : Int32) (ν10 : Mem) =>
        if x1_9 < (ν10.1 112 15) then
          bd2 (f_X11_tellsItem x1_9 ν10) fun r14 ν15 =>
          if r14 = 0 then
            some (.inr (x1_9, ν15))
          else
            some (.inl ((x1_9 + 1), ν15))
        else
          some (.inr (x1_9, ν10))
        ) (0, ν8)) (cu2 fun (x1_11 : Int32) (ν12 : Mem) =>
        lt (setI ν12 112 5 0) fun ν16 =>
        if x1_11 = (ν16.1 112 15) then
          some ((ν16.1 112 15), ν16)
        else
          bd (lp (ε := Mem) (cu2 fun (x2_17 : Int32) (ν18 : Mem) =>
            if x2_17 < 184 then
              chk x2_17 184 (
                chk x2_17 184 (lt (setI ν18 113 (ix x2_17) (ν18.1 116 (ix x2_17))) fun ν21 =>
                  some (.inl ((x2_17 + 1), ν21))
                  )
                )
            else
              some (.inr ν18)
            ) (0, ν16)) (fun (ν19 : Mem) =>
            some (((-1000) - x1_11), ν19)
            )
        )
      )
set_option maxHeartbeats 4000000 in
set_option maxRecDepth 100000 in
theorem c_X11_read {g : GT}  {μ : Mem} {μ0 : Mem} {r0 : Int32} (hf : f_X11_read  μ = some (r0, μ0)) : CI g yX11_read cX11_read 3 (some .int) 6 [rf g 112] μ r0 μ0 := by
  refine mk_i (by decide) (Nat.le_of_ble_eq_true rfl) ?_
  intro G hX hR
  have hX : CX g G cX11_read RX11 3 6 := hX
  suffices S : ∀ K : (Int32 × Mem) → Prop, (∀ a, K a → a = (r0, μ0)) → Sim G (f_X11_read  μ) K 0 [(0, rf g 112)] [] μ from S (fun a => a = (r0, μ0)) (fun a h => h) _ hf rfl
  intro K hK
  unfold f_X11_read
  refine s_aload_n hX dX11_read_0 rfl 0 rfl ?_
  refine s_callViw hX [] (k := 112) (ci := 10) rfl hc10 vkX11_reads (fun r ν hF => c_X11_reads  hF) mkX11_reads cvX11_161 rfl rfl ⟨by omega, by decide, Nat.le_of_ble_eq_true rfl⟩ dX11_read_1 (fun r1 ν2 => ?_)
  refine s_if_ne hX 15 dX11_read_4 (by decide) ?_ ?_
  · refine s_iconst (v := 0) hX dX11_read_15 (by decide) ?_
    refine s_istore_n (lv' := [(1, .int 0), (0, rf g 112)]) hX dX11_read_16 rfl (by decide) rfl ?_
    refine s_loop hX 17 42 (fun s : Int32 × Mem => [(0, rf g 112), (1, .int s.1)]) (fun s : Int32 × Mem => s.2) (fun s : Mem => [(0, rf g 112)]) (fun s : Mem => s) [1, 0] rfl rfl rfl ?_ ?_
    · intro Kq6 hIq6 hJq6 sq
      obtain ⟨x1_3, ν4⟩ := sq
      refine s_cu2 ?_
      show Sim G _ _ 17 [(0, rf g 112), (1, .int x1_3)] [] ν4
      refine s_iload_n hX dX11_read_17 rfl 1 rfl ?_
      refine s_sipush (v := 184) hX dX11_read_18 (by decide) ?_
      refine s_icmp_ge hX 42 dX11_read_21 (by decide) ?_ ?_
      · exact s_end hX (hJq6 ν4) [0] rfl
      · refine s_aload_n hX dX11_read_24 rfl 0 rfl ?_
        refine s_getR hX (d := 4) 116 flX11_20 rfl rfl dX11_read_25 ?_
        refine s_iload_n hX dX11_read_28 rfl 1 rfl ?_
        refine s_aload_n hX dX11_read_29 rfl 0 rfl ?_
        refine s_getR hX (d := 1) 113 flX11_7 rfl rfl dX11_read_30 ?_
        refine s_iload_n hX dX11_read_33 rfl 1 rfl ?_
        refine s_iald hX rfl rfl dX11_read_34 ?_
        refine s_iast hX rfl rfl dX11_read_35 (fun ν7 => ?_)
        refine s_iinc (v := (x1_3 + 1)) (lv' := [(1, .int (x1_3 + 1)), (0, rf g 112)]) hX dX11_read_36 1 rfl rfl (by decide) rfl ?_
        refine s_goto hX 17 dX11_read_39 (by decide) ?_
        exact s_end hX (hIq6 ((x1_3 + 1), ν7)) [1, 0] rfl
    · intro sq
      obtain ⟨ν5, rfl⟩ : ∃ z, z = sq := ⟨_, rfl⟩
      show Sim G _ _ 42 [(0, rf g 112)] [] ν5
      refine s_aload_n hX dX11_read_42 rfl 0 rfl ?_
      refine s_iconst (v := 1) hX dX11_read_43 (by decide) ?_
      refine s_putI hX flX11_43 rfl ⟨rfl, rfl⟩ dX11_read_44 (fun ν8 => ?_)
      refine s_iconst (v := 0) hX dX11_read_47 (by decide) ?_
      refine s_istore_n (lv' := [(1, .int 0), (0, rf g 112)]) hX dX11_read_48 rfl (by decide) rfl ?_
      refine s_loop hX 49 71 (fun s : Int32 × Mem => [(0, rf g 112), (1, .int s.1)]) (fun s : Int32 × Mem => s.2) (fun s : Int32 × Mem => [(0, rf g 112), (1, .int s.1)]) (fun s : Int32 × Mem => s.2) [1, 0] rfl rfl rfl ?_ ?_
      · intro Kq13 hIq13 hJq13 sq
        obtain ⟨x1_9, ν10⟩ := sq
        refine s_cu2 ?_
        show Sim G _ _ 49 [(0, rf g 112), (1, .int x1_9)] [] ν10
        refine s_iload_n hX dX11_read_49 rfl 1 rfl ?_
        refine s_aload_n hX dX11_read_50 rfl 0 rfl ?_
        refine s_getI hX flX11_131 rfl dX11_read_51 ?_
        refine s_icmp_ge hX 71 dX11_read_54 (by decide) ?_ ?_
        · exact s_end hX (hJq13 (x1_9, ν10)) [0, 1] rfl
        · refine s_aload_n hX dX11_read_57 rfl 0 rfl ?_
          refine s_iload_n hX dX11_read_58 rfl 1 rfl ?_
          refine s_callViw hX [.int x1_9] (k := 112) (ci := 10) rfl hc10 vkX11_tellsItem (fun r ν hF => c_X11_tellsItem  hF) mkX11_tellsItem cvX11_165 rfl rfl ⟨by omega, by decide, Nat.le_of_ble_eq_true rfl⟩ dX11_read_59 (fun r14 ν15 => ?_)
          refine s_if_eq hX 71 dX11_read_62 (by decide) ?_ ?_
          · exact s_end hX (hJq13 (x1_9, ν15)) [0, 1] rfl
          · refine s_iinc (v := (x1_9 + 1)) (lv' := [(1, .int (x1_9 + 1)), (0, rf g 112)]) hX dX11_read_65 1 rfl rfl (by decide) rfl ?_
            refine s_goto hX 49 dX11_read_68 (by decide) ?_
            exact s_end hX (hIq13 ((x1_9 + 1), ν15)) [1, 0] rfl
      · intro sq
        obtain ⟨x1_11, ν12⟩ := sq
        refine s_cu2 ?_
        show Sim G _ _ 71 [(0, rf g 112), (1, .int x1_11)] [] ν12
        refine s_aload_n hX dX11_read_71 rfl 0 rfl ?_
        refine s_iconst (v := 0) hX dX11_read_72 (by decide) ?_
        refine s_putI hX flX11_43 rfl ⟨rfl, rfl⟩ dX11_read_73 (fun ν16 => ?_)
        refine s_iload_n hX dX11_read_76 rfl 1 rfl ?_
        refine s_aload_n hX dX11_read_77 rfl 0 rfl ?_
        refine s_getI hX flX11_131 rfl dX11_read_78 ?_
        refine s_icmp_ne hX 89 dX11_read_81 (by decide) ?_ ?_
        · refine s_iconst (v := 0) hX dX11_read_89 (by decide) ?_
          refine s_istore_n (lv' := [(2, .int 0), (0, rf g 112), (1, .int x1_11)]) hX dX11_read_90 rfl (by decide) rfl ?_
          refine s_loop hX 91 116 (fun s : Int32 × Mem => [(0, rf g 112), (1, .int x1_11), (2, .int s.1)]) (fun s : Int32 × Mem => s.2) (fun s : Mem => [(1, .int x1_11)]) (fun s : Mem => s) [1, 2, 0] rfl rfl rfl ?_ ?_
          · intro Kq20 hIq20 hJq20 sq
            obtain ⟨x2_17, ν18⟩ := sq
            refine s_cu2 ?_
            show Sim G _ _ 91 [(0, rf g 112), (1, .int x1_11), (2, .int x2_17)] [] ν18
            refine s_iload_n hX dX11_read_91 rfl 2 rfl ?_
            refine s_sipush (v := 184) hX dX11_read_92 (by decide) ?_
            refine s_icmp_ge hX 116 dX11_read_95 (by decide) ?_ ?_
            · exact s_end hX (hJq20 ν18) [1] rfl
            · refine s_aload_n hX dX11_read_98 rfl 0 rfl ?_
              refine s_getR hX (d := 1) 113 flX11_7 rfl rfl dX11_read_99 ?_
              refine s_iload_n hX dX11_read_102 rfl 2 rfl ?_
              refine s_aload_n hX dX11_read_103 rfl 0 rfl ?_
              refine s_getR hX (d := 4) 116 flX11_20 rfl rfl dX11_read_104 ?_
              refine s_iload_n hX dX11_read_107 rfl 2 rfl ?_
              refine s_iald hX rfl rfl dX11_read_108 ?_
              refine s_iast hX rfl rfl dX11_read_109 (fun ν21 => ?_)
              refine s_iinc (v := (x2_17 + 1)) (lv' := [(2, .int (x2_17 + 1)), (0, rf g 112), (1, .int x1_11)]) hX dX11_read_110 2 rfl rfl (by decide) rfl ?_
              refine s_goto hX 91 dX11_read_113 (by decide) ?_
              exact s_end hX (hIq20 ((x2_17 + 1), ν21)) [1, 2, 0] rfl
          · intro sq
            obtain ⟨ν19, rfl⟩ : ∃ z, z = sq := ⟨_, rfl⟩
            show Sim G _ _ 116 [(1, .int x1_11)] [] ν19
            refine s_sipush (v := (-1000)) hX dX11_read_116 (by decide) ?_
            refine s_iload_n hX dX11_read_119 rfl 0 rfl ?_
            refine s_isub hX dX11_read_120 ?_
            exact s_ireti hK hR dX11_read_121
        · refine s_aload_n hX dX11_read_84 rfl 0 rfl ?_
          refine s_getI hX flX11_131 rfl dX11_read_85 ?_
          exact s_ireti hK hR dX11_read_88
  · refine s_bipush (v := (-10)) hX dX11_read_7 (by decide) ?_
    refine s_aload_n hX dX11_read_9 rfl 0 rfl ?_
    refine s_getI hX flX11_114 rfl dX11_read_10 ?_
    refine s_isub hX dX11_read_13 ?_
    exact s_ireti hK hR dX11_read_14
theorem dX1_rowsFrom_0 : decode cX1_rowsFrom 0 = .ok (.aload_n 0, 1) := by decide +kernel
theorem dX1_rowsFrom_1 : decode cX1_rowsFrom 1 = .ok (.getfield 25, 3) := by decide +kernel
theorem dX1_rowsFrom_4 : decode cX1_rowsFrom 4 = .ok (.iload_n 1, 1) := by decide +kernel
theorem dX1_rowsFrom_5 : decode cX1_rowsFrom 5 = .ok (.iconst 0, 1) := by decide +kernel
theorem dX1_rowsFrom_6 : decode cX1_rowsFrom 6 = .ok (.iastore, 1) := by decide +kernel
theorem dX1_rowsFrom_7 : decode cX1_rowsFrom 7 = .ok (.iload_n 1, 1) := by decide +kernel
theorem dX1_rowsFrom_8 : decode cX1_rowsFrom 8 = .ok (.iload_n 2, 1) := by decide +kernel
theorem dX1_rowsFrom_9 : decode cX1_rowsFrom 9 = .ok (.if_icmp .ge 8, 3) := by decide +kernel
theorem dX1_rowsFrom_12 : decode cX1_rowsFrom 12 = .ok (.iload_n 1, 1) := by decide +kernel
theorem dX1_rowsFrom_13 : decode cX1_rowsFrom 13 = .ok (.iconst 3, 1) := by decide +kernel
theorem dX1_rowsFrom_14 : decode cX1_rowsFrom 14 = .ok (.if_icmp .lt 5, 3) := by decide +kernel
theorem dX1_rowsFrom_17 : decode cX1_rowsFrom 17 = .ok (.iconst 1, 1) := by decide +kernel
theorem dX1_rowsFrom_18 : decode cX1_rowsFrom 18 = .ok (.ireturn, 1) := by decide +kernel
theorem dX1_rowsFrom_19 : decode cX1_rowsFrom 19 = .ok (.aload_n 0, 1) := by decide +kernel
theorem dX1_rowsFrom_20 : decode cX1_rowsFrom 20 = .ok (.iload_n 1, 1) := by decide +kernel
theorem dX1_rowsFrom_21 : decode cX1_rowsFrom 21 = .ok (.invokevirtual 47, 3) := by decide +kernel
theorem dX1_rowsFrom_24 : decode cX1_rowsFrom 24 = .ok (.iconst 0, 1) := by decide +kernel
theorem dX1_rowsFrom_25 : decode cX1_rowsFrom 25 = .ok (.istore 4, 2) := by decide +kernel
theorem dX1_rowsFrom_27 : decode cX1_rowsFrom 27 = .ok (.iconst 0, 1) := by decide +kernel
theorem dX1_rowsFrom_28 : decode cX1_rowsFrom 28 = .ok (.istore 5, 2) := by decide +kernel
theorem dX1_rowsFrom_30 : decode cX1_rowsFrom 30 = .ok (.iload 5, 2) := by decide +kernel
theorem dX1_rowsFrom_32 : decode cX1_rowsFrom 32 = .ok (.bipush 6, 2) := by decide +kernel
theorem dX1_rowsFrom_34 : decode cX1_rowsFrom 34 = .ok (.if_icmp .ge 161, 3) := by decide +kernel
theorem dX1_rowsFrom_37 : decode cX1_rowsFrom 37 = .ok (.aload_n 0, 1) := by decide +kernel
theorem dX1_rowsFrom_38 : decode cX1_rowsFrom 38 = .ok (.getfield 19, 3) := by decide +kernel
theorem dX1_rowsFrom_41 : decode cX1_rowsFrom 41 = .ok (.iload_n 1, 1) := by decide +kernel
theorem dX1_rowsFrom_42 : decode cX1_rowsFrom 42 = .ok (.aaload, 1) := by decide +kernel
theorem dX1_rowsFrom_43 : decode cX1_rowsFrom 43 = .ok (.iload 5, 2) := by decide +kernel
theorem dX1_rowsFrom_45 : decode cX1_rowsFrom 45 = .ok (.iaload, 1) := by decide +kernel
theorem dX1_rowsFrom_46 : decode cX1_rowsFrom 46 = .ok (.ifCond .le 143, 3) := by decide +kernel
theorem dX1_rowsFrom_49 : decode cX1_rowsFrom 49 = .ok (.aload_n 0, 1) := by decide +kernel
theorem dX1_rowsFrom_50 : decode cX1_rowsFrom 50 = .ok (.getfield 11, 3) := by decide +kernel
theorem dX1_rowsFrom_53 : decode cX1_rowsFrom 53 = .ok (.iload_n 1, 1) := by decide +kernel
theorem dX1_rowsFrom_54 : decode cX1_rowsFrom 54 = .ok (.iconst 1, 1) := by decide +kernel
theorem dX1_rowsFrom_55 : decode cX1_rowsFrom 55 = .ok (.iadd, 1) := by decide +kernel
theorem dX1_rowsFrom_56 : decode cX1_rowsFrom 56 = .ok (.aaload, 1) := by decide +kernel
theorem dX1_rowsFrom_57 : decode cX1_rowsFrom 57 = .ok (.aload_n 0, 1) := by decide +kernel
theorem dX1_rowsFrom_58 : decode cX1_rowsFrom 58 = .ok (.getfield 11, 3) := by decide +kernel
theorem dX1_rowsFrom_61 : decode cX1_rowsFrom 61 = .ok (.iload_n 1, 1) := by decide +kernel
theorem dX1_rowsFrom_62 : decode cX1_rowsFrom 62 = .ok (.aaload, 1) := by decide +kernel
theorem dX1_rowsFrom_63 : decode cX1_rowsFrom 63 = .ok (.invokevirtual 36, 3) := by decide +kernel
theorem dX1_rowsFrom_66 : decode cX1_rowsFrom 66 = .ok (.aload_n 0, 1) := by decide +kernel
theorem dX1_rowsFrom_67 : decode cX1_rowsFrom 67 = .ok (.getfield 11, 3) := by decide +kernel
theorem dX1_rowsFrom_70 : decode cX1_rowsFrom 70 = .ok (.iload_n 1, 1) := by decide +kernel
theorem dX1_rowsFrom_71 : decode cX1_rowsFrom 71 = .ok (.iconst 1, 1) := by decide +kernel
theorem dX1_rowsFrom_72 : decode cX1_rowsFrom 72 = .ok (.iadd, 1) := by decide +kernel
theorem dX1_rowsFrom_73 : decode cX1_rowsFrom 73 = .ok (.aaload, 1) := by decide +kernel
theorem dX1_rowsFrom_74 : decode cX1_rowsFrom 74 = .ok (.aload_n 0, 1) := by decide +kernel
theorem dX1_rowsFrom_75 : decode cX1_rowsFrom 75 = .ok (.getfield 22, 3) := by decide +kernel
theorem dX1_rowsFrom_78 : decode cX1_rowsFrom 78 = .ok (.iload_n 1, 1) := by decide +kernel
theorem dX1_rowsFrom_79 : decode cX1_rowsFrom 79 = .ok (.aaload, 1) := by decide +kernel
theorem dX1_rowsFrom_80 : decode cX1_rowsFrom 80 = .ok (.iload 5, 2) := by decide +kernel
theorem dX1_rowsFrom_82 : decode cX1_rowsFrom 82 = .ok (.iaload, 1) := by decide +kernel
theorem dX1_rowsFrom_83 : decode cX1_rowsFrom 83 = .ok (.iconst 0, 1) := by decide +kernel
theorem dX1_rowsFrom_84 : decode cX1_rowsFrom 84 = .ok (.invokevirtual 51, 3) := by decide +kernel
theorem dX1_rowsFrom_87 : decode cX1_rowsFrom 87 = .ok (.istore 6, 2) := by decide +kernel
theorem dX1_rowsFrom_89 : decode cX1_rowsFrom 89 = .ok (.iload 6, 2) := by decide +kernel
theorem dX1_rowsFrom_91 : decode cX1_rowsFrom 91 = .ok (.aload_n 3, 1) := by decide +kernel
theorem dX1_rowsFrom_92 : decode cX1_rowsFrom 92 = .ok (.iload_n 1, 1) := by decide +kernel
theorem dX1_rowsFrom_93 : decode cX1_rowsFrom 93 = .ok (.iaload, 1) := by decide +kernel
theorem dX1_rowsFrom_94 : decode cX1_rowsFrom 94 = .ok (.if_icmp .ne 15, 3) := by decide +kernel
theorem dX1_rowsFrom_97 : decode cX1_rowsFrom 97 = .ok (.aload_n 0, 1) := by decide +kernel
theorem dX1_rowsFrom_98 : decode cX1_rowsFrom 98 = .ok (.iload_n 1, 1) := by decide +kernel
theorem dX1_rowsFrom_99 : decode cX1_rowsFrom 99 = .ok (.iconst 1, 1) := by decide +kernel
theorem dX1_rowsFrom_100 : decode cX1_rowsFrom 100 = .ok (.iadd, 1) := by decide +kernel
theorem dX1_rowsFrom_101 : decode cX1_rowsFrom 101 = .ok (.iload_n 2, 1) := by decide +kernel
theorem dX1_rowsFrom_102 : decode cX1_rowsFrom 102 = .ok (.aload_n 3, 1) := by decide +kernel
theorem dX1_rowsFrom_103 : decode cX1_rowsFrom 103 = .ok (.invokevirtual 43, 3) := by decide +kernel
theorem dX1_rowsFrom_106 : decode cX1_rowsFrom 106 = .ok (.goto 4, 3) := by decide +kernel
theorem dX1_rowsFrom_109 : decode cX1_rowsFrom 109 = .ok (.iconst 0, 1) := by decide +kernel
theorem dX1_rowsFrom_110 : decode cX1_rowsFrom 110 = .ok (.istore 7, 2) := by decide +kernel
theorem dX1_rowsFrom_112 : decode cX1_rowsFrom 112 = .ok (.iload 7, 2) := by decide +kernel
theorem dX1_rowsFrom_114 : decode cX1_rowsFrom 114 = .ok (.ifCond .le 75, 3) := by decide +kernel
theorem dX1_rowsFrom_117 : decode cX1_rowsFrom 117 = .ok (.aload_n 0, 1) := by decide +kernel
theorem dX1_rowsFrom_118 : decode cX1_rowsFrom 118 = .ok (.getfield 22, 3) := by decide +kernel
theorem dX1_rowsFrom_121 : decode cX1_rowsFrom 121 = .ok (.iload_n 1, 1) := by decide +kernel
theorem dX1_rowsFrom_122 : decode cX1_rowsFrom 122 = .ok (.aaload, 1) := by decide +kernel
theorem dX1_rowsFrom_123 : decode cX1_rowsFrom 123 = .ok (.iload 5, 2) := by decide +kernel
theorem dX1_rowsFrom_125 : decode cX1_rowsFrom 125 = .ok (.iaload, 1) := by decide +kernel
theorem dX1_rowsFrom_126 : decode cX1_rowsFrom 126 = .ok (.iconst 5, 1) := by decide +kernel
theorem dX1_rowsFrom_127 : decode cX1_rowsFrom 127 = .ok (.iload_n 2, 1) := by decide +kernel
theorem dX1_rowsFrom_128 : decode cX1_rowsFrom 128 = .ok (.iconst 1, 1) := by decide +kernel
theorem dX1_rowsFrom_129 : decode cX1_rowsFrom 129 = .ok (.isub, 1) := by decide +kernel
theorem dX1_rowsFrom_130 : decode cX1_rowsFrom 130 = .ok (.iload_n 1, 1) := by decide +kernel
theorem dX1_rowsFrom_131 : decode cX1_rowsFrom 131 = .ok (.isub, 1) := by decide +kernel
theorem dX1_rowsFrom_132 : decode cX1_rowsFrom 132 = .ok (.imul, 1) := by decide +kernel
theorem dX1_rowsFrom_133 : decode cX1_rowsFrom 133 = .ok (.ishl, 1) := by decide +kernel
theorem dX1_rowsFrom_134 : decode cX1_rowsFrom 134 = .ok (.aload_n 0, 1) := by decide +kernel
theorem dX1_rowsFrom_135 : decode cX1_rowsFrom 135 = .ok (.getfield 25, 3) := by decide +kernel
theorem dX1_rowsFrom_138 : decode cX1_rowsFrom 138 = .ok (.iload_n 1, 1) := by decide +kernel
theorem dX1_rowsFrom_139 : decode cX1_rowsFrom 139 = .ok (.iconst 1, 1) := by decide +kernel
theorem dX1_rowsFrom_140 : decode cX1_rowsFrom 140 = .ok (.iadd, 1) := by decide +kernel
theorem dX1_rowsFrom_141 : decode cX1_rowsFrom 141 = .ok (.iaload, 1) := by decide +kernel
theorem dX1_rowsFrom_142 : decode cX1_rowsFrom 142 = .ok (.iadd, 1) := by decide +kernel
theorem dX1_rowsFrom_143 : decode cX1_rowsFrom 143 = .ok (.istore 8, 2) := by decide +kernel
theorem dX1_rowsFrom_145 : decode cX1_rowsFrom 145 = .ok (.aload_n 0, 1) := by decide +kernel
theorem dX1_rowsFrom_146 : decode cX1_rowsFrom 146 = .ok (.getfield 25, 3) := by decide +kernel
theorem dX1_rowsFrom_149 : decode cX1_rowsFrom 149 = .ok (.iload_n 1, 1) := by decide +kernel
theorem dX1_rowsFrom_150 : decode cX1_rowsFrom 150 = .ok (.iload 4, 2) := by decide +kernel
theorem dX1_rowsFrom_152 : decode cX1_rowsFrom 152 = .ok (.ifCond .ne 8, 3) := by decide +kernel
theorem dX1_rowsFrom_155 : decode cX1_rowsFrom 155 = .ok (.iload 8, 2) := by decide +kernel
theorem dX1_rowsFrom_157 : decode cX1_rowsFrom 157 = .ok (.goto 14, 3) := by decide +kernel
theorem dX1_rowsFrom_160 : decode cX1_rowsFrom 160 = .ok (.aload_n 0, 1) := by decide +kernel
theorem dX1_rowsFrom_161 : decode cX1_rowsFrom 161 = .ok (.getfield 25, 3) := by decide +kernel
theorem dX1_rowsFrom_164 : decode cX1_rowsFrom 164 = .ok (.iload_n 1, 1) := by decide +kernel
theorem dX1_rowsFrom_165 : decode cX1_rowsFrom 165 = .ok (.iaload, 1) := by decide +kernel
theorem dX1_rowsFrom_166 : decode cX1_rowsFrom 166 = .ok (.iload 8, 2) := by decide +kernel
theorem dX1_rowsFrom_168 : decode cX1_rowsFrom 168 = .ok (.invokestatic 55, 3) := by decide +kernel
theorem dX1_rowsFrom_171 : decode cX1_rowsFrom 171 = .ok (.iastore, 1) := by decide +kernel
theorem dX1_rowsFrom_172 : decode cX1_rowsFrom 172 = .ok (.iload 4, 2) := by decide +kernel
theorem dX1_rowsFrom_174 : decode cX1_rowsFrom 174 = .ok (.aload_n 0, 1) := by decide +kernel
theorem dX1_rowsFrom_175 : decode cX1_rowsFrom 175 = .ok (.getfield 19, 3) := by decide +kernel
theorem dX1_rowsFrom_178 : decode cX1_rowsFrom 178 = .ok (.iload_n 1, 1) := by decide +kernel
theorem dX1_rowsFrom_179 : decode cX1_rowsFrom 179 = .ok (.aaload, 1) := by decide +kernel
theorem dX1_rowsFrom_180 : decode cX1_rowsFrom 180 = .ok (.iload 5, 2) := by decide +kernel
theorem dX1_rowsFrom_182 : decode cX1_rowsFrom 182 = .ok (.iaload, 1) := by decide +kernel
theorem dX1_rowsFrom_183 : decode cX1_rowsFrom 183 = .ok (.iload 7, 2) := by decide +kernel
theorem dX1_rowsFrom_185 : decode cX1_rowsFrom 185 = .ok (.imul, 1) := by decide +kernel
theorem dX1_rowsFrom_186 : decode cX1_rowsFrom 186 = .ok (.iadd, 1) := by decide +kernel
theorem dX1_rowsFrom_187 : decode cX1_rowsFrom 187 = .ok (.istore 4, 2) := by decide +kernel
theorem dX1_rowsFrom_189 : decode cX1_rowsFrom 189 = .ok (.iinc 5 1, 3) := by decide +kernel
theorem dX1_rowsFrom_192 : decode cX1_rowsFrom 192 = .ok (.goto (-162), 3) := by decide +kernel
theorem dX1_rowsFrom_195 : decode cX1_rowsFrom 195 = .ok (.iload 4, 2) := by decide +kernel
theorem dX1_rowsFrom_197 : decode cX1_rowsFrom 197 = .ok (.ireturn, 1) := by decide +kernel
noncomputable def f_X1_rowsFrom : Nat → Int32 → Int32 → Nat → Mem → Option (Int32 × Mem)
  | 0, _, _, _, _ => none
  | fu + 1, x1, x2, k3, μ =>
    chk x1 4 (lt (setI μ 111 (ix x1) 0) fun ν1 =>
      jn (
        some (1, ν1)
        ) fun j2 =>
      if x1 < x2 then
        if x1 < 3 then
          bd (f_X1_sortClouds x1 ν1) fun ν3 =>
          bd (lp (ε := Int32 × Mem) (cu3 fun (x4_4 : Int32) (x5_5 : Int32) (ν6 : Mem) =>
            if x5_5 < 6 then
              chk x1 3 (lt (103 + 1 + 1 * ix x1) fun q10 =>
                chk x5_5 6 (
                  jn (fun (x4_11 : Int32) (ν12 : Mem) =>
                    some (.inl (x4_11, (x5_5 + 1), ν12))
                    ) fun j13 =>
                  if 0 < (ν6.1 q10 (ix x5_5)) then
                    chk (x1 + 1) 4 (lt (82 + 1 + 5 * ix (x1 + 1)) fun q14 =>
                      chk x1 4 (lt (82 + 1 + 5 * ix x1) fun q15 =>
                        bd (f_X3_become q14 q15 ν6) fun ν16 =>
                        chk (x1 + 1) 4 (lt (82 + 1 + 5 * ix (x1 + 1)) fun q17 =>
                          chk x1 3 (lt (107 + 1 + 1 * ix x1) fun q18 =>
                            chk x5_5 6 (
                              bd2 (f_X3_fullMoon q17 (ν16.1 q18 (ix x5_5)) 0 ν16) fun r19 ν20 =>
                              chk x1 3 (
                                jn (fun (y21 : Int32) (ν22 : Mem) =>
                                  if 0 < y21 then
                                    chk x1 3 (lt (107 + 1 + 1 * ix x1) fun q24 =>
                                      chk x5_5 6 (
                                        chk (x1 + 1) 4 (
                                          lt (((ν22.1 q24 (ix x5_5)) <<< ((5 * ((x2 - 1) - x1)) &&& 31)) + (ν22.1 111 (ix (x1 + 1)))) fun x8_25 =>
                                          jn (fun (y26 : Int32) =>
                                            chk x1 4 (lt (setI ν22 111 (ix x1) y26) fun ν28 =>
                                              chk x1 3 (lt (103 + 1 + 1 * ix x1) fun q29 =>
                                                chk x5_5 6 (
                                                  lt (x4_4 + ((ν28.1 q29 (ix x5_5)) * y21)) fun x4_30 =>
                                                  j13 x4_30 ν28
                                                  )
                                                )
                                              )
                                            ) fun j27 =>
                                          if x4_4 = 0 then
                                            j27 x8_25
                                          else
                                            chk x1 4 (
                                              j27 (if x8_25 < (ν22.1 111 (ix x1)) then x8_25 else (ν22.1 111 (ix x1)))
                                              )
                                          )
                                        )
                                      )
                                  else
                                    j13 x4_4 ν22
                                  ) fun j23 =>
                                if r19 = (ν20.1 k3 (ix x1)) then
                                  bd2 (f_X1_rowsFrom fu (x1 + 1) x2 k3 ν20) fun r31 ν32 =>
                                  j23 r31 ν32
                                else
                                  j23 0 ν20
                                )
                              )
                            )
                          )
                        )
                      )
                  else
                    j13 x4_4 ν6
                  )
                )
            else
              some (.inr (x4_4, ν6))
            ) (0, 0, ν3)) (cu2 fun (x4_7 : Int32) (ν8 : Mem) =>
            some (x4_7, ν8)
            )
        else
          j2
      else
        j2
      )
set_option maxHeartbeats 4000000 in
set_option maxRecDepth 100000 in
theorem c_X1_rowsFrom {g : GT} : ∀ {fu : Nat} {x1 : Int32} {x2 : Int32} {k3 : Nat} {μ : Mem} {μ0 : Mem} {r0 : Int32} (hk3 : tyOf k3 = 11) (hk3n : lenOf k3 = 3) (hf : f_X1_rowsFrom fu x1 x2 k3 μ = some (r0, μ0)), CI g yX1_rowsFrom cX1_rowsFrom 9 (some .int) (6 + fu) [rf g 81, .int x1, .int x2, rf g k3] μ r0 μ0 := by
  intro fu
  induction fu with
  | zero => intro x1 x2 k3 μ μ0 r0 hk3 hk3n hf; cases hf
  | succ fu ih =>
    intro x1 x2 k3 μ μ0 r0 hk3 hk3n hf
    refine mk_i (by decide) (Nat.le_of_ble_eq_true rfl) ?_
    intro G hX hR
    have hX : CX g G cX1_rowsFrom RX1 9 (6 + (fu + 1)) := hX
    suffices S : ∀ K : (Int32 × Mem) → Prop, (∀ a, K a → a = (r0, μ0)) → Sim G (f_X1_rowsFrom (fu + 1) x1 x2 k3 μ) K 0 [(0, rf g 81), (1, .int x1), (2, .int x2), (3, rf g k3)] [] μ from S (fun a => a = (r0, μ0)) (fun a h => h) _ hf rfl
    intro K hK
    rw [f_X1_rowsFrom]
    refine s_aload_n hX dX1_rowsFrom_0 rfl 0 rfl ?_
    refine s_getR hX (d := 30) 111 flX1_25 rfl rfl dX1_rowsFrom_1 ?_
    refine s_iload_n hX dX1_rowsFrom_4 rfl 1 rfl ?_
    refine s_iconst (v := 0) hX dX1_rowsFrom_5 (by decide) ?_
    refine s_iast hX rfl rfl dX1_rowsFrom_6 (fun ν1 => ?_)
    refine s_iload_n hX dX1_rowsFrom_7 rfl 1 rfl ?_
    refine s_iload_n hX dX1_rowsFrom_8 rfl 2 rfl ?_
    refine s_jn (C := fun j => Sim G (j) K 17 [] [] ν1) ?_ (fun j2 hj2 => ?_)
    · skip
      show Sim G _ _ 17 [] [] ν1
      refine s_iconst (v := 1) hX dX1_rowsFrom_17 (by decide) ?_
      exact s_ireti hK hR dX1_rowsFrom_18
    refine s_icmp_ge hX 17 dX1_rowsFrom_9 (by decide) ?_ ?_
    · exact s_to hX [] rfl (hj2)
    · refine s_iload_n hX dX1_rowsFrom_12 rfl 1 rfl ?_
      refine s_iconst (v := 3) hX dX1_rowsFrom_13 (by decide) ?_
      refine s_icmp_lt hX 19 dX1_rowsFrom_14 (by decide) ?_ ?_
      · refine s_aload_n hX dX1_rowsFrom_19 rfl 0 rfl ?_
        refine s_iload_n hX dX1_rowsFrom_20 rfl 1 rfl ?_
        refine s_callVvw hX [.int x1] (k := 81) (ci := 1) rfl hc1 vkX1_sortClouds (fun ν hF => c_X1_sortClouds  hF) mkX1_sortClouds cvX1_47 rfl rfl ⟨by omega, by decide, Nat.le_of_ble_eq_true rfl⟩ dX1_rowsFrom_21 (fun ν3 => ?_)
        refine s_iconst (v := 0) hX dX1_rowsFrom_24 (by decide) ?_
        refine s_istore (lv' := [(4, .int 0), (0, rf g 81), (1, .int x1), (2, .int x2), (3, rf g k3)]) hX dX1_rowsFrom_25 (by decide) rfl ?_
        refine s_iconst (v := 0) hX dX1_rowsFrom_27 (by decide) ?_
        refine s_istore (lv' := [(5, .int 0), (4, .int 0), (0, rf g 81), (1, .int x1), (2, .int x2), (3, rf g k3)]) hX dX1_rowsFrom_28 (by decide) rfl ?_
        refine s_loop hX 30 195 (fun s : Int32 × Int32 × Mem => [(0, rf g 81), (1, .int x1), (2, .int x2), (3, rf g k3), (4, .int s.1), (5, .int s.2.1)]) (fun s : Int32 × Int32 × Mem => s.2.2) (fun s : Int32 × Mem => [(4, .int s.1)]) (fun s : Int32 × Mem => s.2) [2, 3, 4, 5, 1, 0] rfl rfl rfl ?_ ?_
        · intro Kq9 hIq9 hJq9 sq
          obtain ⟨x4_4, x5_5, ν6⟩ := sq
          refine s_cu3 ?_
          show Sim G _ _ 30 [(0, rf g 81), (1, .int x1), (2, .int x2), (3, rf g k3), (4, .int x4_4), (5, .int x5_5)] [] ν6
          refine s_iload hX dX1_rowsFrom_30 5 rfl ?_
          refine s_bipush (v := 6) hX dX1_rowsFrom_32 (by decide) ?_
          refine s_icmp_ge hX 195 dX1_rowsFrom_34 (by decide) ?_ ?_
          · exact s_end hX (hJq9 (x4_4, ν6)) [4] rfl
          · refine s_aload_n hX dX1_rowsFrom_37 rfl 0 rfl ?_
            refine s_getR hX (d := 22) 103 flX1_19 rfl rfl dX1_rowsFrom_38 ?_
            refine s_iload_n hX dX1_rowsFrom_41 rfl 1 rfl ?_
            refine s_aald17 (t := 11) (u := 6) hX rfl rfl (by decide) dX1_rowsFrom_42 (fun q10 hq10 hq10n => ?_)
            refine s_iload hX dX1_rowsFrom_43 5 rfl ?_
            refine s_iald hX hq10 hq10n dX1_rowsFrom_45 ?_
            refine s_jn (C := fun j => ∀ (x4_11 : Int32) (ν12 : Mem), Sim G (j x4_11 ν12) Kq9 189 [(0, rf g 81), (1, .int x1), (2, .int x2), (3, rf g k3), (4, .int x4_11), (5, .int x5_5)] [] ν12) ?_ (fun j13 hj13 => ?_)
            · intro x4_11 ν12
              show Sim G _ _ 189 [(0, rf g 81), (1, .int x1), (2, .int x2), (3, rf g k3), (4, .int x4_11), (5, .int x5_5)] [] ν12
              refine s_iinc (v := (x5_5 + 1)) (lv' := [(5, .int (x5_5 + 1)), (0, rf g 81), (1, .int x1), (2, .int x2), (3, rf g k3), (4, .int x4_11)]) hX dX1_rowsFrom_189 5 rfl rfl (by decide) rfl ?_
              refine s_goto hX 30 dX1_rowsFrom_192 (by decide) ?_
              exact s_end hX (hIq9 (x4_11, (x5_5 + 1), ν12)) [1, 2, 3, 4, 5, 0] rfl
            refine s_if_le hX 189 dX1_rowsFrom_46 (by decide) ?_ ?_
            · exact s_to hX [0, 1, 2, 3, 4, 5] rfl (hj13 x4_4 ν6)
            · refine s_aload_n hX dX1_rowsFrom_49 rfl 0 rfl ?_
              refine s_getR hX (d := 1) 82 flX1_11 rfl rfl dX1_rowsFrom_50 ?_
              refine s_iload_n hX dX1_rowsFrom_53 rfl 1 rfl ?_
              refine s_iconst (v := 1) hX dX1_rowsFrom_54 (by decide) ?_
              refine s_iadd hX dX1_rowsFrom_55 ?_
              refine s_aald16 (t := 3) (u := 0) hX rfl rfl (by decide) dX1_rowsFrom_56 (fun q14 hq14 hq14n => ?_)
              refine s_aload_n hX dX1_rowsFrom_57 rfl 0 rfl ?_
              refine s_getR hX (d := 1) 82 flX1_11 rfl rfl dX1_rowsFrom_58 ?_
              refine s_iload_n hX dX1_rowsFrom_61 rfl 1 rfl ?_
              refine s_aald16 (t := 3) (u := 0) hX rfl rfl (by decide) dX1_rowsFrom_62 (fun q15 hq15 hq15n => ?_)
              refine s_callVvw hX [rf g q15] (k := q14) (ci := 3) hq14 hc3 vkX3_become (fun ν hF => c_X3_become hq14 hq15 hF) mkX3_become cvX1_36 rfl rfl ⟨by omega, by decide, Nat.le_of_ble_eq_true rfl⟩ dX1_rowsFrom_63 (fun ν16 => ?_)
              refine s_aload_n hX dX1_rowsFrom_66 rfl 0 rfl ?_
              refine s_getR hX (d := 1) 82 flX1_11 rfl rfl dX1_rowsFrom_67 ?_
              refine s_iload_n hX dX1_rowsFrom_70 rfl 1 rfl ?_
              refine s_iconst (v := 1) hX dX1_rowsFrom_71 (by decide) ?_
              refine s_iadd hX dX1_rowsFrom_72 ?_
              refine s_aald16 (t := 3) (u := 0) hX rfl rfl (by decide) dX1_rowsFrom_73 (fun q17 hq17 hq17n => ?_)
              refine s_aload_n hX dX1_rowsFrom_74 rfl 0 rfl ?_
              refine s_getR hX (d := 26) 107 flX1_22 rfl rfl dX1_rowsFrom_75 ?_
              refine s_iload_n hX dX1_rowsFrom_78 rfl 1 rfl ?_
              refine s_aald17 (t := 11) (u := 6) hX rfl rfl (by decide) dX1_rowsFrom_79 (fun q18 hq18 hq18n => ?_)
              refine s_iload hX dX1_rowsFrom_80 5 rfl ?_
              refine s_iald hX hq18 hq18n dX1_rowsFrom_82 ?_
              refine s_iconst (v := 0) hX dX1_rowsFrom_83 (by decide) ?_
              refine s_callViw hX [.int (ν16.1 q18 (ix x5_5)), .int 0] (k := q17) (ci := 3) hq17 hc3 vkX3_fullMoon (fun r ν hF => c_X3_fullMoon hq17 hF) mkX3_fullMoon cvX1_51 rfl rfl ⟨by omega, by decide, Nat.le_of_ble_eq_true rfl⟩ dX1_rowsFrom_84 (fun r19 ν20 => ?_)
              refine s_istore (lv' := [(6, .int r19), (0, rf g 81), (1, .int x1), (2, .int x2), (3, rf g k3), (4, .int x4_4), (5, .int x5_5)]) hX dX1_rowsFrom_87 (by decide) rfl ?_
              refine s_iload hX dX1_rowsFrom_89 0 rfl ?_
              refine s_aload_n hX dX1_rowsFrom_91 rfl 4 rfl ?_
              refine s_iload_n hX dX1_rowsFrom_92 rfl 2 rfl ?_
              refine s_iald hX hk3 hk3n dX1_rowsFrom_93 ?_
              refine s_jn (C := fun j => ∀ (y21 : Int32) (ν22 : Mem), Sim G (j y21 ν22) Kq9 110 [(0, rf g 81), (1, .int x1), (2, .int x2), (3, rf g k3), (4, .int x4_4), (5, .int x5_5)] [.int y21] ν22) ?_ (fun j23 hj23 => ?_)
              · intro y21 ν22
                show Sim G _ _ 110 [(0, rf g 81), (1, .int x1), (2, .int x2), (3, rf g k3), (4, .int x4_4), (5, .int x5_5)] [.int y21] ν22
                refine s_istore (lv' := [(7, .int y21), (0, rf g 81), (1, .int x1), (2, .int x2), (3, rf g k3), (4, .int x4_4), (5, .int x5_5)]) hX dX1_rowsFrom_110 (by decide) rfl ?_
                refine s_iload hX dX1_rowsFrom_112 0 rfl ?_
                refine s_if_le hX 189 dX1_rowsFrom_114 (by decide) ?_ ?_
                · exact s_to hX [1, 2, 3, 4, 5, 6] rfl (hj13 x4_4 ν22)
                · refine s_aload_n hX dX1_rowsFrom_117 rfl 1 rfl ?_
                  refine s_getR hX (d := 26) 107 flX1_22 rfl rfl dX1_rowsFrom_118 ?_
                  refine s_iload_n hX dX1_rowsFrom_121 rfl 2 rfl ?_
                  refine s_aald17 (t := 11) (u := 6) hX rfl rfl (by decide) dX1_rowsFrom_122 (fun q24 hq24 hq24n => ?_)
                  refine s_iload hX dX1_rowsFrom_123 6 rfl ?_
                  refine s_iald hX hq24 hq24n dX1_rowsFrom_125 ?_
                  refine s_iconst (v := 5) hX dX1_rowsFrom_126 (by decide) ?_
                  refine s_iload_n hX dX1_rowsFrom_127 rfl 3 rfl ?_
                  refine s_iconst (v := 1) hX dX1_rowsFrom_128 (by decide) ?_
                  refine s_isub hX dX1_rowsFrom_129 ?_
                  refine s_iload_n hX dX1_rowsFrom_130 rfl 2 rfl ?_
                  refine s_isub hX dX1_rowsFrom_131 ?_
                  refine s_imul hX dX1_rowsFrom_132 ?_
                  refine s_ishl hX dX1_rowsFrom_133 ?_
                  refine s_aload_n hX dX1_rowsFrom_134 rfl 1 rfl ?_
                  refine s_getR hX (d := 30) 111 flX1_25 rfl rfl dX1_rowsFrom_135 ?_
                  refine s_iload_n hX dX1_rowsFrom_138 rfl 2 rfl ?_
                  refine s_iconst (v := 1) hX dX1_rowsFrom_139 (by decide) ?_
                  refine s_iadd hX dX1_rowsFrom_140 ?_
                  refine s_iald hX rfl rfl dX1_rowsFrom_141 ?_
                  refine s_iadd hX dX1_rowsFrom_142 ?_
                  refine s_lti (fun x8_25 => ?_)
                  refine s_istore (lv' := [(8, .int x8_25), (7, .int y21), (0, rf g 81), (1, .int x1), (2, .int x2), (3, rf g k3), (4, .int x4_4), (5, .int x5_5)]) hX dX1_rowsFrom_143 (by decide) rfl ?_
                  refine s_aload_n hX dX1_rowsFrom_145 rfl 2 rfl ?_
                  refine s_getR hX (d := 30) 111 flX1_25 rfl rfl dX1_rowsFrom_146 ?_
                  refine s_iload_n hX dX1_rowsFrom_149 rfl 3 rfl ?_
                  refine s_iload hX dX1_rowsFrom_150 6 rfl ?_
                  refine s_jn (C := fun j => ∀ (y26 : Int32), Sim G (j y26) Kq9 171 [(0, rf g 81), (1, .int x1), (2, .int x2), (3, rf g k3), (4, .int x4_4), (5, .int x5_5), (7, .int y21)] [.int y26, .int x1, rf g 111] ν22) ?_ (fun j27 hj27 => ?_)
                  · intro y26
                    show Sim G _ _ 171 [(0, rf g 81), (1, .int x1), (2, .int x2), (3, rf g k3), (4, .int x4_4), (5, .int x5_5), (7, .int y21)] [.int y26, .int x1, rf g 111] ν22
                    refine s_iast hX rfl rfl dX1_rowsFrom_171 (fun ν28 => ?_)
                    refine s_iload hX dX1_rowsFrom_172 4 rfl ?_
                    refine s_aload_n hX dX1_rowsFrom_174 rfl 0 rfl ?_
                    refine s_getR hX (d := 22) 103 flX1_19 rfl rfl dX1_rowsFrom_175 ?_
                    refine s_iload_n hX dX1_rowsFrom_178 rfl 1 rfl ?_
                    refine s_aald17 (t := 11) (u := 6) hX rfl rfl (by decide) dX1_rowsFrom_179 (fun q29 hq29 hq29n => ?_)
                    refine s_iload hX dX1_rowsFrom_180 5 rfl ?_
                    refine s_iald hX hq29 hq29n dX1_rowsFrom_182 ?_
                    refine s_iload hX dX1_rowsFrom_183 6 rfl ?_
                    refine s_imul hX dX1_rowsFrom_185 ?_
                    refine s_iadd hX dX1_rowsFrom_186 ?_
                    refine s_lti (fun x4_30 => ?_)
                    refine s_istore (lv' := [(4, .int x4_30), (0, rf g 81), (1, .int x1), (2, .int x2), (3, rf g k3), (5, .int x5_5), (7, .int y21)]) hX dX1_rowsFrom_187 (by decide) rfl ?_
                    exact s_to hX [1, 2, 3, 4, 0, 5] rfl (hj13 x4_30 ν28)
                  refine s_if_ne hX 160 dX1_rowsFrom_152 (by decide) ?_ ?_
                  · refine s_aload_n hX dX1_rowsFrom_160 rfl 2 rfl ?_
                    refine s_getR hX (d := 30) 111 flX1_25 rfl rfl dX1_rowsFrom_161 ?_
                    refine s_iload_n hX dX1_rowsFrom_164 rfl 3 rfl ?_
                    refine s_iald hX rfl rfl dX1_rowsFrom_165 ?_
                    refine s_iload hX dX1_rowsFrom_166 0 rfl ?_
                    refine s_min hX cvX1_55 (by omega) (Nat.le_of_ble_eq_true rfl) dX1_rowsFrom_168 ?_
                    exact s_to hX [2, 3, 4, 5, 6, 7, 1] rfl (hj27 (if x8_25 < (ν22.1 111 (ix x1)) then x8_25 else (ν22.1 111 (ix x1))))
                  · refine s_iload hX dX1_rowsFrom_155 0 rfl ?_
                    refine s_goto hX 171 dX1_rowsFrom_157 (by decide) ?_
                    exact s_to hX [2, 3, 4, 5, 6, 7, 1] rfl (hj27 x8_25)
              refine s_icmp_ne hX 109 dX1_rowsFrom_94 (by decide) ?_ ?_
              · refine s_iconst (v := 0) hX dX1_rowsFrom_109 (by decide) ?_
                exact s_to hX [1, 2, 3, 4, 5, 6] rfl (hj23 0 ν20)
              · refine s_aload_n hX dX1_rowsFrom_97 rfl 1 rfl ?_
                refine s_iload_n hX dX1_rowsFrom_98 rfl 2 rfl ?_
                refine s_iconst (v := 1) hX dX1_rowsFrom_99 (by decide) ?_
                refine s_iadd hX dX1_rowsFrom_100 ?_
                refine s_iload_n hX dX1_rowsFrom_101 rfl 3 rfl ?_
                refine s_aload_n hX dX1_rowsFrom_102 rfl 4 rfl ?_
                refine s_callViw hX [.int (x1 + 1), .int x2, rf g k3] (k := 81) (ci := 1) rfl hc1 vkX1_rowsFrom (fun r ν hF => ih hk3 hk3n hF) mkX1_rowsFrom cvX1_43 rfl rfl ⟨by omega, by decide, Nat.le_of_ble_eq_true rfl⟩ dX1_rowsFrom_103 (fun r31 ν32 => ?_)
                refine s_goto hX 110 dX1_rowsFrom_106 (by decide) ?_
                exact s_to hX [1, 2, 3, 4, 5, 6] rfl (hj23 r31 ν32)
        · intro sq
          obtain ⟨x4_7, ν8⟩ := sq
          refine s_cu2 ?_
          show Sim G _ _ 195 [(4, .int x4_7)] [] ν8
          refine s_iload hX dX1_rowsFrom_195 0 rfl ?_
          exact s_ireti hK hR dX1_rowsFrom_197
      · exact s_to hX [] rfl (hj2)
theorem dX5_tryTwoMoves_0 : decode cX5_tryTwoMoves 0 = .ok (.iconst 0, 1) := by decide +kernel
theorem dX5_tryTwoMoves_1 : decode cX5_tryTwoMoves 1 = .ok (.istore_n 1, 1) := by decide +kernel
theorem dX5_tryTwoMoves_2 : decode cX5_tryTwoMoves 2 = .ok (.iload_n 1, 1) := by decide +kernel
theorem dX5_tryTwoMoves_3 : decode cX5_tryTwoMoves 3 = .ok (.aload_n 0, 1) := by decide +kernel
theorem dX5_tryTwoMoves_4 : decode cX5_tryTwoMoves 4 = .ok (.getfield 12, 3) := by decide +kernel
theorem dX5_tryTwoMoves_7 : decode cX5_tryTwoMoves 7 = .ok (.getfield 63, 3) := by decide +kernel
theorem dX5_tryTwoMoves_10 : decode cX5_tryTwoMoves 10 = .ok (.if_icmp .ge 70, 3) := by decide +kernel
theorem dX5_tryTwoMoves_13 : decode cX5_tryTwoMoves 13 = .ok (.aload_n 0, 1) := by decide +kernel
theorem dX5_tryTwoMoves_14 : decode cX5_tryTwoMoves 14 = .ok (.getfield 12, 3) := by decide +kernel
theorem dX5_tryTwoMoves_17 : decode cX5_tryTwoMoves 17 = .ok (.getfield 66, 3) := by decide +kernel
theorem dX5_tryTwoMoves_20 : decode cX5_tryTwoMoves 20 = .ok (.iload_n 1, 1) := by decide +kernel
theorem dX5_tryTwoMoves_21 : decode cX5_tryTwoMoves 21 = .ok (.iaload, 1) := by decide +kernel
theorem dX5_tryTwoMoves_22 : decode cX5_tryTwoMoves 22 = .ok (.istore_n 2, 1) := by decide +kernel
theorem dX5_tryTwoMoves_23 : decode cX5_tryTwoMoves 23 = .ok (.iconst 0, 1) := by decide +kernel
theorem dX5_tryTwoMoves_24 : decode cX5_tryTwoMoves 24 = .ok (.istore_n 3, 1) := by decide +kernel
theorem dX5_tryTwoMoves_25 : decode cX5_tryTwoMoves 25 = .ok (.iload_n 3, 1) := by decide +kernel
theorem dX5_tryTwoMoves_26 : decode cX5_tryTwoMoves 26 = .ok (.aload_n 0, 1) := by decide +kernel
theorem dX5_tryTwoMoves_27 : decode cX5_tryTwoMoves 27 = .ok (.getfield 12, 3) := by decide +kernel
theorem dX5_tryTwoMoves_30 : decode cX5_tryTwoMoves 30 = .ok (.getfield 42, 3) := by decide +kernel
theorem dX5_tryTwoMoves_33 : decode cX5_tryTwoMoves 33 = .ok (.if_icmp .ge 41, 3) := by decide +kernel
theorem dX5_tryTwoMoves_36 : decode cX5_tryTwoMoves 36 = .ok (.iload_n 3, 1) := by decide +kernel
theorem dX5_tryTwoMoves_37 : decode cX5_tryTwoMoves 37 = .ok (.iload_n 2, 1) := by decide +kernel
theorem dX5_tryTwoMoves_38 : decode cX5_tryTwoMoves 38 = .ok (.if_icmp .eq 30, 3) := by decide +kernel
theorem dX5_tryTwoMoves_41 : decode cX5_tryTwoMoves 41 = .ok (.aload_n 0, 1) := by decide +kernel
theorem dX5_tryTwoMoves_42 : decode cX5_tryTwoMoves 42 = .ok (.iload_n 1, 1) := by decide +kernel
theorem dX5_tryTwoMoves_43 : decode cX5_tryTwoMoves 43 = .ok (.iload_n 2, 1) := by decide +kernel
theorem dX5_tryTwoMoves_44 : decode cX5_tryTwoMoves 44 = .ok (.iload_n 3, 1) := by decide +kernel
theorem dX5_tryTwoMoves_45 : decode cX5_tryTwoMoves 45 = .ok (.invokevirtual 69, 3) := by decide +kernel
theorem dX5_tryTwoMoves_48 : decode cX5_tryTwoMoves 48 = .ok (.aload_n 0, 1) := by decide +kernel
theorem dX5_tryTwoMoves_49 : decode cX5_tryTwoMoves 49 = .ok (.iload_n 1, 1) := by decide +kernel
theorem dX5_tryTwoMoves_50 : decode cX5_tryTwoMoves 50 = .ok (.iconst 1, 1) := by decide +kernel
theorem dX5_tryTwoMoves_51 : decode cX5_tryTwoMoves 51 = .ok (.iadd, 1) := by decide +kernel
theorem dX5_tryTwoMoves_52 : decode cX5_tryTwoMoves 52 = .ok (.bipush 10, 2) := by decide +kernel
theorem dX5_tryTwoMoves_54 : decode cX5_tryTwoMoves 54 = .ok (.iload_n 1, 1) := by decide +kernel
theorem dX5_tryTwoMoves_55 : decode cX5_tryTwoMoves 55 = .ok (.imul, 1) := by decide +kernel
theorem dX5_tryTwoMoves_56 : decode cX5_tryTwoMoves 56 = .ok (.iload_n 3, 1) := by decide +kernel
theorem dX5_tryTwoMoves_57 : decode cX5_tryTwoMoves 57 = .ok (.iadd, 1) := by decide +kernel
theorem dX5_tryTwoMoves_58 : decode cX5_tryTwoMoves 58 = .ok (.invokevirtual 56, 3) := by decide +kernel
theorem dX5_tryTwoMoves_61 : decode cX5_tryTwoMoves 61 = .ok (.aload_n 0, 1) := by decide +kernel
theorem dX5_tryTwoMoves_62 : decode cX5_tryTwoMoves 62 = .ok (.iload_n 1, 1) := by decide +kernel
theorem dX5_tryTwoMoves_63 : decode cX5_tryTwoMoves 63 = .ok (.iload_n 3, 1) := by decide +kernel
theorem dX5_tryTwoMoves_64 : decode cX5_tryTwoMoves 64 = .ok (.iload_n 2, 1) := by decide +kernel
theorem dX5_tryTwoMoves_65 : decode cX5_tryTwoMoves 65 = .ok (.invokevirtual 69, 3) := by decide +kernel
theorem dX5_tryTwoMoves_68 : decode cX5_tryTwoMoves 68 = .ok (.iinc 3 1, 3) := by decide +kernel
theorem dX5_tryTwoMoves_71 : decode cX5_tryTwoMoves 71 = .ok (.goto (-46), 3) := by decide +kernel
theorem dX5_tryTwoMoves_74 : decode cX5_tryTwoMoves 74 = .ok (.iinc 1 1, 3) := by decide +kernel
theorem dX5_tryTwoMoves_77 : decode cX5_tryTwoMoves 77 = .ok (.goto (-75), 3) := by decide +kernel
theorem dX5_tryTwoMoves_80 : decode cX5_tryTwoMoves 80 = .ok (.return_, 1) := by decide +kernel
noncomputable def f_X5_tryTwoMoves  (μ : Mem) : Option Mem :=
  bd (lp (ε := Mem) (cu2 fun (x1_1 : Int32) (ν2 : Mem) =>
    if x1_1 < (ν2.1 73 1) then
      chk x1_1 10 (
        bd (lp (ε := Mem) (cu2 fun (x3_5 : Int32) (ν6 : Mem) =>
          if x3_5 < (ν6.1 73 0) then
            jn (fun (ν9 : Mem) =>
              some (.inl ((x3_5 + 1), ν9))
              ) fun j10 =>
            if x3_5 = (ν2.1 75 (ix x1_1)) then
              j10 ν6
            else
              bd (f_X5_shift x1_1 (ν2.1 75 (ix x1_1)) x3_5 ν6) fun ν11 =>
              bd (f_X5_tryLastMove (x1_1 + 1) ((10 * x1_1) + x3_5) ν11) fun ν12 =>
              bd (f_X5_shift x1_1 x3_5 (ν2.1 75 (ix x1_1)) ν12) fun ν13 =>
              j10 ν13
          else
            some (.inr ν6)
          ) (0, ν2)) (fun (ν7 : Mem) =>
          some (.inl ((x1_1 + 1), ν7))
          )
        )
    else
      some (.inr ν2)
    ) (0, μ)) (fun (ν3 : Mem) =>
    some ν3
    )
set_option maxHeartbeats 4000000 in
set_option maxRecDepth 100000 in
theorem c_X5_tryTwoMoves {g : GT}  {μ : Mem} {μ0 : Mem} (hf : f_X5_tryTwoMoves  μ = some μ0) : CV g yX5_tryTwoMoves cX5_tryTwoMoves 4 (none) 6 [rf g 72] μ μ0 := by
  refine mk_v (by decide) (Nat.le_of_ble_eq_true rfl) ?_
  intro G hX hR
  have hX : CX g G cX5_tryTwoMoves RX5 4 6 := hX
  suffices S : ∀ K : Mem → Prop, (∀ a, K a → a = μ0) → Sim G (f_X5_tryTwoMoves  μ) K 0 [(0, rf g 72)] [] μ from S (fun a => a = μ0) (fun a h => h) _ hf rfl
  intro K hK
  unfold f_X5_tryTwoMoves
  refine s_iconst (v := 0) hX dX5_tryTwoMoves_0 (by decide) ?_
  refine s_istore_n (lv' := [(1, .int 0), (0, rf g 72)]) hX dX5_tryTwoMoves_1 rfl (by decide) rfl ?_
  refine s_loop hX 2 80 (fun s : Int32 × Mem => [(0, rf g 72), (1, .int s.1)]) (fun s : Int32 × Mem => s.2) (fun s : Mem => []) (fun s : Mem => s) [1, 0] rfl rfl rfl ?_ ?_
  · intro Kq4 hIq4 hJq4 sq
    obtain ⟨x1_1, ν2⟩ := sq
    refine s_cu2 ?_
    show Sim G _ _ 2 [(0, rf g 72), (1, .int x1_1)] [] ν2
    refine s_iload_n hX dX5_tryTwoMoves_2 rfl 1 rfl ?_
    refine s_aload_n hX dX5_tryTwoMoves_3 rfl 0 rfl ?_
    refine s_getR hX (d := 1) 73 flX5_12 rfl rfl dX5_tryTwoMoves_4 ?_
    refine s_getI hX flX5_63 rfl dX5_tryTwoMoves_7 ?_
    refine s_icmp_ge hX 80 dX5_tryTwoMoves_10 (by decide) ?_ ?_
    · exact s_end hX (hJq4 ν2) [] rfl
    · refine s_aload_n hX dX5_tryTwoMoves_13 rfl 0 rfl ?_
      refine s_getR hX (d := 1) 73 flX5_12 rfl rfl dX5_tryTwoMoves_14 ?_
      refine s_getR hX (d := 2) 75 flX5_66 rfl rfl dX5_tryTwoMoves_17 ?_
      refine s_iload_n hX dX5_tryTwoMoves_20 rfl 1 rfl ?_
      refine s_iald hX rfl rfl dX5_tryTwoMoves_21 ?_
      refine s_istore_n (lv' := [(2, .int (ν2.1 75 (ix x1_1))), (0, rf g 72), (1, .int x1_1)]) hX dX5_tryTwoMoves_22 rfl (by decide) rfl ?_
      refine s_iconst (v := 0) hX dX5_tryTwoMoves_23 (by decide) ?_
      refine s_istore_n (lv' := [(3, .int 0), (2, .int (ν2.1 75 (ix x1_1))), (0, rf g 72), (1, .int x1_1)]) hX dX5_tryTwoMoves_24 rfl (by decide) rfl ?_
      refine s_loop hX 25 74 (fun s : Int32 × Mem => [(0, rf g 72), (1, .int x1_1), (2, .int (ν2.1 75 (ix x1_1))), (3, .int s.1)]) (fun s : Int32 × Mem => s.2) (fun s : Mem => [(0, rf g 72), (1, .int x1_1)]) (fun s : Mem => s) [2, 3, 1, 0] rfl rfl rfl ?_ ?_
      · intro Kq8 hIq8 hJq8 sq
        obtain ⟨x3_5, ν6⟩ := sq
        refine s_cu2 ?_
        show Sim G _ _ 25 [(0, rf g 72), (1, .int x1_1), (2, .int (ν2.1 75 (ix x1_1))), (3, .int x3_5)] [] ν6
        refine s_iload_n hX dX5_tryTwoMoves_25 rfl 3 rfl ?_
        refine s_aload_n hX dX5_tryTwoMoves_26 rfl 0 rfl ?_
        refine s_getR hX (d := 1) 73 flX5_12 rfl rfl dX5_tryTwoMoves_27 ?_
        refine s_getI hX flX5_42 rfl dX5_tryTwoMoves_30 ?_
        refine s_icmp_ge hX 74 dX5_tryTwoMoves_33 (by decide) ?_ ?_
        · exact s_end hX (hJq8 ν6) [0, 1] rfl
        · refine s_iload_n hX dX5_tryTwoMoves_36 rfl 3 rfl ?_
          refine s_iload_n hX dX5_tryTwoMoves_37 rfl 2 rfl ?_
          refine s_jn (C := fun j => ∀ (ν9 : Mem), Sim G (j ν9) Kq8 68 [(0, rf g 72), (1, .int x1_1), (2, .int (ν2.1 75 (ix x1_1))), (3, .int x3_5)] [] ν9) ?_ (fun j10 hj10 => ?_)
          · intro ν9
            show Sim G _ _ 68 [(0, rf g 72), (1, .int x1_1), (2, .int (ν2.1 75 (ix x1_1))), (3, .int x3_5)] [] ν9
            refine s_iinc (v := (x3_5 + 1)) (lv' := [(3, .int (x3_5 + 1)), (0, rf g 72), (1, .int x1_1), (2, .int (ν2.1 75 (ix x1_1)))]) hX dX5_tryTwoMoves_68 3 rfl rfl (by decide) rfl ?_
            refine s_goto hX 25 dX5_tryTwoMoves_71 (by decide) ?_
            exact s_end hX (hIq8 ((x3_5 + 1), ν9)) [1, 2, 3, 0] rfl
          refine s_icmp_eq hX 68 dX5_tryTwoMoves_38 (by decide) ?_ ?_
          · exact s_to hX [0, 1, 2, 3] rfl (hj10 ν6)
          · refine s_aload_n hX dX5_tryTwoMoves_41 rfl 0 rfl ?_
            refine s_iload_n hX dX5_tryTwoMoves_42 rfl 1 rfl ?_
            refine s_iload_n hX dX5_tryTwoMoves_43 rfl 2 rfl ?_
            refine s_iload_n hX dX5_tryTwoMoves_44 rfl 3 rfl ?_
            refine s_callVvw hX [.int x1_1, .int (ν2.1 75 (ix x1_1)), .int x3_5] (k := 72) (ci := 4) rfl hc4 vkX5_shift (fun ν hF => c_X5_shift  hF) mkX5_shift cvX5_69 rfl rfl ⟨by omega, by decide, Nat.le_of_ble_eq_true rfl⟩ dX5_tryTwoMoves_45 (fun ν11 => ?_)
            refine s_aload_n hX dX5_tryTwoMoves_48 rfl 0 rfl ?_
            refine s_iload_n hX dX5_tryTwoMoves_49 rfl 1 rfl ?_
            refine s_iconst (v := 1) hX dX5_tryTwoMoves_50 (by decide) ?_
            refine s_iadd hX dX5_tryTwoMoves_51 ?_
            refine s_bipush (v := 10) hX dX5_tryTwoMoves_52 (by decide) ?_
            refine s_iload_n hX dX5_tryTwoMoves_54 rfl 1 rfl ?_
            refine s_imul hX dX5_tryTwoMoves_55 ?_
            refine s_iload_n hX dX5_tryTwoMoves_56 rfl 3 rfl ?_
            refine s_iadd hX dX5_tryTwoMoves_57 ?_
            refine s_callVvw hX [.int (x1_1 + 1), .int ((10 * x1_1) + x3_5)] (k := 72) (ci := 4) rfl hc4 vkX5_tryLastMove (fun ν hF => c_X5_tryLastMove  hF) mkX5_tryLastMove cvX5_56 rfl rfl ⟨by omega, by decide, Nat.le_of_ble_eq_true rfl⟩ dX5_tryTwoMoves_58 (fun ν12 => ?_)
            refine s_aload_n hX dX5_tryTwoMoves_61 rfl 0 rfl ?_
            refine s_iload_n hX dX5_tryTwoMoves_62 rfl 1 rfl ?_
            refine s_iload_n hX dX5_tryTwoMoves_63 rfl 3 rfl ?_
            refine s_iload_n hX dX5_tryTwoMoves_64 rfl 2 rfl ?_
            refine s_callVvw hX [.int x1_1, .int x3_5, .int (ν2.1 75 (ix x1_1))] (k := 72) (ci := 4) rfl hc4 vkX5_shift (fun ν hF => c_X5_shift  hF) mkX5_shift cvX5_69 rfl rfl ⟨by omega, by decide, Nat.le_of_ble_eq_true rfl⟩ dX5_tryTwoMoves_65 (fun ν13 => ?_)
            exact s_to hX [0, 1, 2, 3] rfl (hj10 ν13)
      · intro sq
        obtain ⟨ν7, rfl⟩ : ∃ z, z = sq := ⟨_, rfl⟩
        show Sim G _ _ 74 [(0, rf g 72), (1, .int x1_1)] [] ν7
        refine s_iinc (v := (x1_1 + 1)) (lv' := [(1, .int (x1_1 + 1)), (0, rf g 72)]) hX dX5_tryTwoMoves_74 1 rfl rfl (by decide) rfl ?_
        refine s_goto hX 2 dX5_tryTwoMoves_77 (by decide) ?_
        exact s_end hX (hIq4 ((x1_1 + 1), ν7)) [1, 0] rfl
  · intro sq
    obtain ⟨ν3, rfl⟩ : ∃ z, z = sq := ⟨_, rfl⟩
    show Sim G _ _ 80 [] [] ν3
    exact s_vreti hK hR dX5_tryTwoMoves_80
theorem dX8_stepOverWord_0 : decode cX8_stepOverWord 0 = .ok (.aload_n 0, 1) := by decide +kernel
theorem dX8_stepOverWord_1 : decode cX8_stepOverWord 1 = .ok (.getfield 32, 3) := by decide +kernel
theorem dX8_stepOverWord_4 : decode cX8_stepOverWord 4 = .ok (.aload_n 0, 1) := by decide +kernel
theorem dX8_stepOverWord_5 : decode cX8_stepOverWord 5 = .ok (.getfield 15, 3) := by decide +kernel
theorem dX8_stepOverWord_8 : decode cX8_stepOverWord 8 = .ok (.if_icmp .ge 27, 3) := by decide +kernel
theorem dX8_stepOverWord_11 : decode cX8_stepOverWord 11 = .ok (.aload_n 0, 1) := by decide +kernel
theorem dX8_stepOverWord_12 : decode cX8_stepOverWord 12 = .ok (.aload_n 0, 1) := by decide +kernel
theorem dX8_stepOverWord_13 : decode cX8_stepOverWord 13 = .ok (.getfield 32, 3) := by decide +kernel
theorem dX8_stepOverWord_16 : decode cX8_stepOverWord 16 = .ok (.invokevirtual 51, 3) := by decide +kernel
theorem dX8_stepOverWord_19 : decode cX8_stepOverWord 19 = .ok (.ifCond .eq 16, 3) := by decide +kernel
theorem dX8_stepOverWord_22 : decode cX8_stepOverWord 22 = .ok (.aload_n 0, 1) := by decide +kernel
theorem dX8_stepOverWord_23 : decode cX8_stepOverWord 23 = .ok (.dup, 1) := by decide +kernel
theorem dX8_stepOverWord_24 : decode cX8_stepOverWord 24 = .ok (.getfield 32, 3) := by decide +kernel
theorem dX8_stepOverWord_27 : decode cX8_stepOverWord 27 = .ok (.iconst 1, 1) := by decide +kernel
theorem dX8_stepOverWord_28 : decode cX8_stepOverWord 28 = .ok (.iadd, 1) := by decide +kernel
theorem dX8_stepOverWord_29 : decode cX8_stepOverWord 29 = .ok (.putfield 32, 3) := by decide +kernel
theorem dX8_stepOverWord_32 : decode cX8_stepOverWord 32 = .ok (.goto (-32), 3) := by decide +kernel
theorem dX8_stepOverWord_35 : decode cX8_stepOverWord 35 = .ok (.aload_n 0, 1) := by decide +kernel
theorem dX8_stepOverWord_36 : decode cX8_stepOverWord 36 = .ok (.iconst 4, 1) := by decide +kernel
theorem dX8_stepOverWord_37 : decode cX8_stepOverWord 37 = .ok (.putfield 35, 3) := by decide +kernel
theorem dX8_stepOverWord_40 : decode cX8_stepOverWord 40 = .ok (.iconst 0, 1) := by decide +kernel
theorem dX8_stepOverWord_41 : decode cX8_stepOverWord 41 = .ok (.istore_n 1, 1) := by decide +kernel
theorem dX8_stepOverWord_42 : decode cX8_stepOverWord 42 = .ok (.iload_n 1, 1) := by decide +kernel
theorem dX8_stepOverWord_43 : decode cX8_stepOverWord 43 = .ok (.bipush 6, 2) := by decide +kernel
theorem dX8_stepOverWord_45 : decode cX8_stepOverWord 45 = .ok (.if_icmp .ge 30, 3) := by decide +kernel
theorem dX8_stepOverWord_48 : decode cX8_stepOverWord 48 = .ok (.aload_n 0, 1) := by decide +kernel
theorem dX8_stepOverWord_49 : decode cX8_stepOverWord 49 = .ok (.iload_n 1, 1) := by decide +kernel
theorem dX8_stepOverWord_50 : decode cX8_stepOverWord 50 = .ok (.invokestatic 63, 3) := by decide +kernel
theorem dX8_stepOverWord_53 : decode cX8_stepOverWord 53 = .ok (.invokevirtual 67, 3) := by decide +kernel
theorem dX8_stepOverWord_56 : decode cX8_stepOverWord 56 = .ok (.ifCond .eq 13, 3) := by decide +kernel
theorem dX8_stepOverWord_59 : decode cX8_stepOverWord 59 = .ok (.aload_n 0, 1) := by decide +kernel
theorem dX8_stepOverWord_60 : decode cX8_stepOverWord 60 = .ok (.iconst 1, 1) := by decide +kernel
theorem dX8_stepOverWord_61 : decode cX8_stepOverWord 61 = .ok (.putfield 35, 3) := by decide +kernel
theorem dX8_stepOverWord_64 : decode cX8_stepOverWord 64 = .ok (.aload_n 0, 1) := by decide +kernel
theorem dX8_stepOverWord_65 : decode cX8_stepOverWord 65 = .ok (.iload_n 1, 1) := by decide +kernel
theorem dX8_stepOverWord_66 : decode cX8_stepOverWord 66 = .ok (.putfield 38, 3) := by decide +kernel
theorem dX8_stepOverWord_69 : decode cX8_stepOverWord 69 = .ok (.iinc 1 1, 3) := by decide +kernel
theorem dX8_stepOverWord_72 : decode cX8_stepOverWord 72 = .ok (.goto (-30), 3) := by decide +kernel
theorem dX8_stepOverWord_75 : decode cX8_stepOverWord 75 = .ok (.return_, 1) := by decide +kernel
noncomputable def f_X8_stepOverWord  (μ : Mem) : Option Mem :=
  bd (lp (ε := Mem) (fun (ν1 : Mem) =>
    if (ν1.1 45 6) < (ν1.1 45 1) then
      bd (f_X8_isLetter (ν1.1 45 6) ν1) fun r4 =>
      if r4 = 0 then
        some (.inr ν1)
      else
        lt (setI ν1 45 6 ((ν1.1 45 6) + 1)) fun ν5 =>
        some (.inl ν5)
    else
      some (.inr ν1)
    ) μ) (fun (ν2 : Mem) =>
    lt (setI ν2 45 7 4) fun ν6 =>
    bd (lp (ε := Mem) (cu2 fun (x1_7 : Int32) (ν8 : Mem) =>
      if x1_7 < 6 then
        bd (f_X8_nameOf x1_7) fun r11 =>
        bd (f_X8_tokenIs r11 ν8) fun r12 =>
        jn (fun (ν13 : Mem) =>
          some (.inl ((x1_7 + 1), ν13))
          ) fun j14 =>
        if r12 = 0 then
          j14 ν8
        else
          lt (setI ν8 45 7 1) fun ν15 =>
          lt (setI ν15 45 8 x1_7) fun ν16 =>
          j14 ν16
      else
        some (.inr ν8)
      ) (0, ν6)) (fun (ν9 : Mem) =>
      some ν9
      )
    )
set_option maxHeartbeats 4000000 in
set_option maxRecDepth 100000 in
theorem c_X8_stepOverWord {g : GT}  {μ : Mem} {μ0 : Mem} (hf : f_X8_stepOverWord  μ = some μ0) : CV g yX8_stepOverWord cX8_stepOverWord 2 (none) 6 [rf g 45] μ μ0 := by
  refine mk_v (by decide) (Nat.le_of_ble_eq_true rfl) ?_
  intro G hX hR
  have hX : CX g G cX8_stepOverWord RX8 2 6 := hX
  suffices S : ∀ K : Mem → Prop, (∀ a, K a → a = μ0) → Sim G (f_X8_stepOverWord  μ) K 0 [(0, rf g 45)] [] μ from S (fun a => a = μ0) (fun a h => h) _ hf rfl
  intro K hK
  unfold f_X8_stepOverWord
  refine s_loop hX 0 35 (fun s : Mem => [(0, rf g 45)]) (fun s : Mem => s) (fun s : Mem => [(0, rf g 45)]) (fun s : Mem => s) [0] rfl rfl rfl ?_ ?_
  · intro Kq3 hIq3 hJq3 sq
    obtain ⟨ν1, rfl⟩ : ∃ z, z = sq := ⟨_, rfl⟩
    show Sim G _ _ 0 [(0, rf g 45)] [] ν1
    refine s_aload_n hX dX8_stepOverWord_0 rfl 0 rfl ?_
    refine s_getI hX flX8_32 rfl dX8_stepOverWord_1 ?_
    refine s_aload_n hX dX8_stepOverWord_4 rfl 0 rfl ?_
    refine s_getI hX flX8_15 rfl dX8_stepOverWord_5 ?_
    refine s_icmp_ge hX 35 dX8_stepOverWord_8 (by decide) ?_ ?_
    · exact s_end hX (hJq3 ν1) [0] rfl
    · refine s_aload_n hX dX8_stepOverWord_11 rfl 0 rfl ?_
      refine s_aload_n hX dX8_stepOverWord_12 rfl 0 rfl ?_
      refine s_getI hX flX8_32 rfl dX8_stepOverWord_13 ?_
      refine s_callVir hX [.int (ν1.1 45 6)] (k := 45) (ci := 7) rfl hc7 vkX8_isLetter (fun r hF => c_X8_isLetter  hF) mkX8_isLetter cvX8_51 rfl rfl ⟨by omega, by decide, Nat.le_of_ble_eq_true rfl⟩ dX8_stepOverWord_16 (fun r4 => ?_)
      refine s_if_eq hX 35 dX8_stepOverWord_19 (by decide) ?_ ?_
      · exact s_end hX (hJq3 ν1) [0] rfl
      · refine s_aload_n hX dX8_stepOverWord_22 rfl 0 rfl ?_
        refine s_dup hX dX8_stepOverWord_23 rfl ?_
        refine s_getI hX flX8_32 rfl dX8_stepOverWord_24 ?_
        refine s_iconst (v := 1) hX dX8_stepOverWord_27 (by decide) ?_
        refine s_iadd hX dX8_stepOverWord_28 ?_
        refine s_putI hX flX8_32 rfl ⟨rfl, rfl⟩ dX8_stepOverWord_29 (fun ν5 => ?_)
        refine s_goto hX 0 dX8_stepOverWord_32 (by decide) ?_
        exact s_end hX (hIq3 ν5) [0] rfl
  · intro sq
    obtain ⟨ν2, rfl⟩ : ∃ z, z = sq := ⟨_, rfl⟩
    show Sim G _ _ 35 [(0, rf g 45)] [] ν2
    refine s_aload_n hX dX8_stepOverWord_35 rfl 0 rfl ?_
    refine s_iconst (v := 4) hX dX8_stepOverWord_36 (by decide) ?_
    refine s_putI hX flX8_35 rfl ⟨rfl, rfl⟩ dX8_stepOverWord_37 (fun ν6 => ?_)
    refine s_iconst (v := 0) hX dX8_stepOverWord_40 (by decide) ?_
    refine s_istore_n (lv' := [(1, .int 0), (0, rf g 45)]) hX dX8_stepOverWord_41 rfl (by decide) rfl ?_
    refine s_loop hX 42 75 (fun s : Int32 × Mem => [(0, rf g 45), (1, .int s.1)]) (fun s : Int32 × Mem => s.2) (fun s : Mem => []) (fun s : Mem => s) [1, 0] rfl rfl rfl ?_ ?_
    · intro Kq10 hIq10 hJq10 sq
      obtain ⟨x1_7, ν8⟩ := sq
      refine s_cu2 ?_
      show Sim G _ _ 42 [(0, rf g 45), (1, .int x1_7)] [] ν8
      refine s_iload_n hX dX8_stepOverWord_42 rfl 1 rfl ?_
      refine s_bipush (v := 6) hX dX8_stepOverWord_43 (by decide) ?_
      refine s_icmp_ge hX 75 dX8_stepOverWord_45 (by decide) ?_ ?_
      · exact s_end hX (hJq10 ν8) [] rfl
      · refine s_aload_n hX dX8_stepOverWord_48 rfl 0 rfl ?_
        refine s_iload_n hX dX8_stepOverWord_49 rfl 1 rfl ?_
        refine s_callSSr hX [.int x1_7] skX8_nameOf (fun r hF => c_X8_nameOf  hF) mkX8_nameOf cvX8_63 rfl rfl ⟨by omega, by decide, Nat.le_of_ble_eq_true rfl⟩ dX8_stepOverWord_50 (fun r11 hr11 => ?_)
        refine s_callVir hX [rfS g r11] (k := 45) (ci := 7) rfl hc7 vkX8_tokenIs (fun r hF => c_X8_tokenIs hr11 hF) mkX8_tokenIs cvX8_67 rfl rfl ⟨by omega, by decide, Nat.le_of_ble_eq_true rfl⟩ dX8_stepOverWord_53 (fun r12 => ?_)
        refine s_jn (C := fun j => ∀ (ν13 : Mem), Sim G (j ν13) Kq10 69 [(0, rf g 45), (1, .int x1_7)] [] ν13) ?_ (fun j14 hj14 => ?_)
        · intro ν13
          show Sim G _ _ 69 [(0, rf g 45), (1, .int x1_7)] [] ν13
          refine s_iinc (v := (x1_7 + 1)) (lv' := [(1, .int (x1_7 + 1)), (0, rf g 45)]) hX dX8_stepOverWord_69 1 rfl rfl (by decide) rfl ?_
          refine s_goto hX 42 dX8_stepOverWord_72 (by decide) ?_
          exact s_end hX (hIq10 ((x1_7 + 1), ν13)) [1, 0] rfl
        refine s_if_eq hX 69 dX8_stepOverWord_56 (by decide) ?_ ?_
        · exact s_to hX [0, 1] rfl (hj14 ν8)
        · refine s_aload_n hX dX8_stepOverWord_59 rfl 0 rfl ?_
          refine s_iconst (v := 1) hX dX8_stepOverWord_60 (by decide) ?_
          refine s_putI hX flX8_35 rfl ⟨rfl, rfl⟩ dX8_stepOverWord_61 (fun ν15 => ?_)
          refine s_aload_n hX dX8_stepOverWord_64 rfl 0 rfl ?_
          refine s_iload_n hX dX8_stepOverWord_65 rfl 1 rfl ?_
          refine s_putI hX flX8_38 rfl ⟨rfl, rfl⟩ dX8_stepOverWord_66 (fun ν16 => ?_)
          exact s_to hX [0, 1] rfl (hj14 ν16)
    · intro sq
      obtain ⟨ν9, rfl⟩ : ∃ z, z = sq := ⟨_, rfl⟩
      show Sim G _ _ 75 [] [] ν9
      exact s_vreti hK hR dX8_stepOverWord_75
theorem dX9_bestPainting_0 : decode cX9_bestPainting 0 = .ok (.aload_n 0, 1) := by decide +kernel
theorem dX9_bestPainting_1 : decode cX9_bestPainting 1 = .ok (.aload_n 1, 1) := by decide +kernel
theorem dX9_bestPainting_2 : decode cX9_bestPainting 2 = .ok (.iconst (-1), 1) := by decide +kernel
theorem dX9_bestPainting_3 : decode cX9_bestPainting 3 = .ok (.iconst 0, 1) := by decide +kernel
theorem dX9_bestPainting_4 : decode cX9_bestPainting 4 = .ok (.invokevirtual 63, 3) := by decide +kernel
theorem dX9_bestPainting_7 : decode cX9_bestPainting 7 = .ok (.aload_n 0, 1) := by decide +kernel
theorem dX9_bestPainting_8 : decode cX9_bestPainting 8 = .ok (.iload_n 2, 1) := by decide +kernel
theorem dX9_bestPainting_9 : decode cX9_bestPainting 9 = .ok (.invokevirtual 59, 3) := by decide +kernel
theorem dX9_bestPainting_12 : decode cX9_bestPainting 12 = .ok (.lstore 4, 2) := by decide +kernel
theorem dX9_bestPainting_14 : decode cX9_bestPainting 14 = .ok (.iconst (-1), 1) := by decide +kernel
theorem dX9_bestPainting_15 : decode cX9_bestPainting 15 = .ok (.istore 6, 2) := by decide +kernel
theorem dX9_bestPainting_17 : decode cX9_bestPainting 17 = .ok (.iconst 0, 1) := by decide +kernel
theorem dX9_bestPainting_18 : decode cX9_bestPainting 18 = .ok (.istore 7, 2) := by decide +kernel
theorem dX9_bestPainting_20 : decode cX9_bestPainting 20 = .ok (.iload 7, 2) := by decide +kernel
theorem dX9_bestPainting_22 : decode cX9_bestPainting 22 = .ok (.aload_n 1, 1) := by decide +kernel
theorem dX9_bestPainting_23 : decode cX9_bestPainting 23 = .ok (.getfield 30, 3) := by decide +kernel
theorem dX9_bestPainting_26 : decode cX9_bestPainting 26 = .ok (.getfield 36, 3) := by decide +kernel
theorem dX9_bestPainting_29 : decode cX9_bestPainting 29 = .ok (.if_icmp .ge 44, 3) := by decide +kernel
theorem dX9_bestPainting_32 : decode cX9_bestPainting 32 = .ok (.aload_n 0, 1) := by decide +kernel
theorem dX9_bestPainting_33 : decode cX9_bestPainting 33 = .ok (.aload_n 1, 1) := by decide +kernel
theorem dX9_bestPainting_34 : decode cX9_bestPainting 34 = .ok (.iload 7, 2) := by decide +kernel
theorem dX9_bestPainting_36 : decode cX9_bestPainting 36 = .ok (.iconst 2, 1) := by decide +kernel
theorem dX9_bestPainting_37 : decode cX9_bestPainting 37 = .ok (.iload_n 3, 1) := by decide +kernel
theorem dX9_bestPainting_38 : decode cX9_bestPainting 38 = .ok (.iconst 0, 1) := by decide +kernel
theorem dX9_bestPainting_39 : decode cX9_bestPainting 39 = .ok (.invokestatic 69, 3) := by decide +kernel
theorem dX9_bestPainting_42 : decode cX9_bestPainting 42 = .ok (.invokevirtual 63, 3) := by decide +kernel
theorem dX9_bestPainting_45 : decode cX9_bestPainting 45 = .ok (.aload_n 0, 1) := by decide +kernel
theorem dX9_bestPainting_46 : decode cX9_bestPainting 46 = .ok (.iload_n 2, 1) := by decide +kernel
theorem dX9_bestPainting_47 : decode cX9_bestPainting 47 = .ok (.invokevirtual 59, 3) := by decide +kernel
theorem dX9_bestPainting_50 : decode cX9_bestPainting 50 = .ok (.lload 4, 2) := by decide +kernel
theorem dX9_bestPainting_52 : decode cX9_bestPainting 52 = .ok (.lcmp, 1) := by decide +kernel
theorem dX9_bestPainting_53 : decode cX9_bestPainting 53 = .ok (.ifCond .ge 14, 3) := by decide +kernel
theorem dX9_bestPainting_56 : decode cX9_bestPainting 56 = .ok (.aload_n 0, 1) := by decide +kernel
theorem dX9_bestPainting_57 : decode cX9_bestPainting 57 = .ok (.iload_n 2, 1) := by decide +kernel
theorem dX9_bestPainting_58 : decode cX9_bestPainting 58 = .ok (.invokevirtual 59, 3) := by decide +kernel
theorem dX9_bestPainting_61 : decode cX9_bestPainting 61 = .ok (.lstore 4, 2) := by decide +kernel
theorem dX9_bestPainting_63 : decode cX9_bestPainting 63 = .ok (.iload 7, 2) := by decide +kernel
theorem dX9_bestPainting_65 : decode cX9_bestPainting 65 = .ok (.istore 6, 2) := by decide +kernel
theorem dX9_bestPainting_67 : decode cX9_bestPainting 67 = .ok (.iinc 7 1, 3) := by decide +kernel
theorem dX9_bestPainting_70 : decode cX9_bestPainting 70 = .ok (.goto (-50), 3) := by decide +kernel
theorem dX9_bestPainting_73 : decode cX9_bestPainting 73 = .ok (.iload 6, 2) := by decide +kernel
theorem dX9_bestPainting_75 : decode cX9_bestPainting 75 = .ok (.ireturn, 1) := by decide +kernel
noncomputable def f_X9_bestPainting (k1 : Nat) (x2 : Int32) (x3 : Int32) (μ : Mem) : Option (Int32 × Mem) :=
  bd (f_X9_foresee k1 (-1) 0 μ) fun ν1 =>
  bd (f_X9_lossOf x2 ν1) fun r2 =>
  bd (lp (ε := Int32 × Mem) (cu4 fun (x4_3 : Int64) (x6_4 : Int32) (x7_5 : Int32) (ν6 : Mem) =>
    if x7_5 < (ν6.1 (k1 + 1) 0) then
      bd (f_X4_seen 2 x3 0) fun r10 =>
      bd (f_X9_foresee k1 x7_5 r10 ν6) fun ν11 =>
      bd (f_X9_lossOf x2 ν11) fun r12 =>
      jn (fun (x4_13 : Int64) (x6_14 : Int32) =>
        some (.inl (x4_13, x6_14, (x7_5 + 1), ν11))
        ) fun j15 =>
      if r12 < x4_3 then
        bd (f_X9_lossOf x2 ν11) fun r16 =>
        j15 r16 x7_5
      else
        j15 x4_3 x6_4
    else
      some (.inr (x6_4, ν6))
    ) (r2, (-1), 0, ν1)) (cu2 fun (x6_7 : Int32) (ν8 : Mem) =>
    some (x6_7, ν8)
    )
set_option maxHeartbeats 4000000 in
set_option maxRecDepth 100000 in
theorem c_X9_bestPainting {g : GT} {k1 : Nat} {x2 : Int32} {x3 : Int32} {μ : Mem} {μ0 : Mem} {r0 : Int32} (hk1 : tyOf k1 = 0) (hf : f_X9_bestPainting k1 x2 x3 μ = some (r0, μ0)) : CI g yX9_bestPainting cX9_bestPainting 8 (some .int) 6 [rf g 68, rf g k1, .int x2, .int x3] μ r0 μ0 := by
  refine mk_i (by decide) (Nat.le_of_ble_eq_true rfl) ?_
  intro G hX hR
  have hX : CX g G cX9_bestPainting RX9 8 6 := hX
  suffices S : ∀ K : (Int32 × Mem) → Prop, (∀ a, K a → a = (r0, μ0)) → Sim G (f_X9_bestPainting k1 x2 x3 μ) K 0 [(0, rf g 68), (1, rf g k1), (2, .int x2), (3, .int x3)] [] μ from S (fun a => a = (r0, μ0)) (fun a h => h) _ hf rfl
  intro K hK
  unfold f_X9_bestPainting
  refine s_aload_n hX dX9_bestPainting_0 rfl 0 rfl ?_
  refine s_aload_n hX dX9_bestPainting_1 rfl 1 rfl ?_
  refine s_iconst (v := (-1)) hX dX9_bestPainting_2 (by decide) ?_
  refine s_iconst (v := 0) hX dX9_bestPainting_3 (by decide) ?_
  refine s_callVvw hX [rf g k1, .int (-1), .int 0] (k := 68) (ci := 8) rfl hc8 vkX9_foresee (fun ν hF => c_X9_foresee hk1 hF) mkX9_foresee cvX9_63 rfl rfl ⟨by omega, by decide, Nat.le_of_ble_eq_true rfl⟩ dX9_bestPainting_4 (fun ν1 => ?_)
  refine s_aload_n hX dX9_bestPainting_7 rfl 0 rfl ?_
  refine s_iload_n hX dX9_bestPainting_8 rfl 2 rfl ?_
  refine s_callVlr hX [.int x2] (k := 68) (ci := 8) rfl hc8 vkX9_lossOf (fun r hF => c_X9_lossOf  hF) mkX9_lossOf cvX9_59 rfl rfl ⟨by omega, by decide, Nat.le_of_ble_eq_true rfl⟩ dX9_bestPainting_9 (fun r2 => ?_)
  refine s_lstore (lv' := [(4, .long r2), (0, rf g 68), (1, rf g k1), (2, .int x2), (3, .int x3)]) hX dX9_bestPainting_12 (by decide) rfl ?_
  refine s_iconst (v := (-1)) hX dX9_bestPainting_14 (by decide) ?_
  refine s_istore (lv' := [(6, .int (-1)), (4, .long r2), (0, rf g 68), (1, rf g k1), (2, .int x2), (3, .int x3)]) hX dX9_bestPainting_15 (by decide) rfl ?_
  refine s_iconst (v := 0) hX dX9_bestPainting_17 (by decide) ?_
  refine s_istore (lv' := [(7, .int 0), (6, .int (-1)), (4, .long r2), (0, rf g 68), (1, rf g k1), (2, .int x2), (3, .int x3)]) hX dX9_bestPainting_18 (by decide) rfl ?_
  refine s_loop hX 20 73 (fun s : Int64 × Int32 × Int32 × Mem => [(0, rf g 68), (1, rf g k1), (2, .int x2), (3, .int x3), (4, .long s.1), (6, .int s.2.1), (7, .int s.2.2.1)]) (fun s : Int64 × Int32 × Int32 × Mem => s.2.2.2) (fun s : Int32 × Mem => [(6, .int s.1)]) (fun s : Int32 × Mem => s.2) [3, 4, 5, 6, 2, 1, 0] rfl rfl rfl ?_ ?_
  · intro Kq9 hIq9 hJq9 sq
    obtain ⟨x4_3, x6_4, x7_5, ν6⟩ := sq
    refine s_cu4 ?_
    show Sim G _ _ 20 [(0, rf g 68), (1, rf g k1), (2, .int x2), (3, .int x3), (4, .long x4_3), (6, .int x6_4), (7, .int x7_5)] [] ν6
    refine s_iload hX dX9_bestPainting_20 6 rfl ?_
    refine s_aload_n hX dX9_bestPainting_22 rfl 1 rfl ?_
    refine s_getR hX (d := 1) (k1 + 1) flX9_30 hk1 rfl dX9_bestPainting_23 ?_
    refine s_getI hX flX9_36 (ty_0_1 hk1).1 dX9_bestPainting_26 ?_
    refine s_icmp_ge hX 73 dX9_bestPainting_29 (by decide) ?_ ?_
    · exact s_end hX (hJq9 (x6_4, ν6)) [5] rfl
    · refine s_aload_n hX dX9_bestPainting_32 rfl 0 rfl ?_
      refine s_aload_n hX dX9_bestPainting_33 rfl 1 rfl ?_
      refine s_iload hX dX9_bestPainting_34 6 rfl ?_
      refine s_iconst (v := 2) hX dX9_bestPainting_36 (by decide) ?_
      refine s_iload_n hX dX9_bestPainting_37 rfl 3 rfl ?_
      refine s_iconst (v := 0) hX dX9_bestPainting_38 (by decide) ?_
      refine s_callSir hX [.int 2, .int x3, .int 0] skX4_seen (fun r hF => c_X4_seen  hF) mkX4_seen cvX9_69 rfl rfl ⟨by omega, by decide, Nat.le_of_ble_eq_true rfl⟩ dX9_bestPainting_39 (fun r10 => ?_)
      refine s_callVvw hX [rf g k1, .int x7_5, .int r10] (k := 68) (ci := 8) rfl hc8 vkX9_foresee (fun ν hF => c_X9_foresee hk1 hF) mkX9_foresee cvX9_63 rfl rfl ⟨by omega, by decide, Nat.le_of_ble_eq_true rfl⟩ dX9_bestPainting_42 (fun ν11 => ?_)
      refine s_aload_n hX dX9_bestPainting_45 rfl 0 rfl ?_
      refine s_iload_n hX dX9_bestPainting_46 rfl 2 rfl ?_
      refine s_callVlr hX [.int x2] (k := 68) (ci := 8) rfl hc8 vkX9_lossOf (fun r hF => c_X9_lossOf  hF) mkX9_lossOf cvX9_59 rfl rfl ⟨by omega, by decide, Nat.le_of_ble_eq_true rfl⟩ dX9_bestPainting_47 (fun r12 => ?_)
      refine s_lload hX dX9_bestPainting_50 4 rfl ?_
      refine s_jn (C := fun j => ∀ (x4_13 : Int64) (x6_14 : Int32), Sim G (j x4_13 x6_14) Kq9 67 [(0, rf g 68), (1, rf g k1), (2, .int x2), (3, .int x3), (4, .long x4_13), (6, .int x6_14), (7, .int x7_5)] [] ν11) ?_ (fun j15 hj15 => ?_)
      · intro x4_13 x6_14
        show Sim G _ _ 67 [(0, rf g 68), (1, rf g k1), (2, .int x2), (3, .int x3), (4, .long x4_13), (6, .int x6_14), (7, .int x7_5)] [] ν11
        refine s_iinc (v := (x7_5 + 1)) (lv' := [(7, .int (x7_5 + 1)), (0, rf g 68), (1, rf g k1), (2, .int x2), (3, .int x3), (4, .long x4_13), (6, .int x6_14)]) hX dX9_bestPainting_67 6 rfl rfl (by decide) rfl ?_
        refine s_goto hX 20 dX9_bestPainting_70 (by decide) ?_
        exact s_end hX (hIq9 (x4_13, x6_14, (x7_5 + 1), ν11)) [1, 2, 3, 4, 5, 6, 0] rfl
      refine s_lcmp_ge hX 67 dX9_bestPainting_52 dX9_bestPainting_53 (by decide) ?_ ?_
      · exact s_to hX [0, 1, 2, 3, 4, 5, 6] rfl (hj15 x4_3 x6_4)
      · refine s_aload_n hX dX9_bestPainting_56 rfl 0 rfl ?_
        refine s_iload_n hX dX9_bestPainting_57 rfl 2 rfl ?_
        refine s_callVlr hX [.int x2] (k := 68) (ci := 8) rfl hc8 vkX9_lossOf (fun r hF => c_X9_lossOf  hF) mkX9_lossOf cvX9_59 rfl rfl ⟨by omega, by decide, Nat.le_of_ble_eq_true rfl⟩ dX9_bestPainting_58 (fun r16 => ?_)
        refine s_lstore (lv' := [(4, .long r16), (0, rf g 68), (1, rf g k1), (2, .int x2), (3, .int x3), (6, .int x6_4), (7, .int x7_5)]) hX dX9_bestPainting_61 (by decide) rfl ?_
        refine s_iload hX dX9_bestPainting_63 6 rfl ?_
        refine s_istore (lv' := [(6, .int x7_5), (4, .long r16), (0, rf g 68), (1, rf g k1), (2, .int x2), (3, .int x3), (7, .int x7_5)]) hX dX9_bestPainting_65 (by decide) rfl ?_
        exact s_to hX [2, 3, 4, 5, 1, 0, 6] rfl (hj15 r16 x7_5)
  · intro sq
    obtain ⟨x6_7, ν8⟩ := sq
    refine s_cu2 ?_
    show Sim G _ _ 73 [(6, .int x6_7)] [] ν8
    refine s_iload hX dX9_bestPainting_73 0 rfl ?_
    exact s_ireti hK hR dX9_bestPainting_75
theorem dX10_moon_0 : decode cX10_moon 0 = .ok (.aload_n 0, 1) := by decide +kernel
theorem dX10_moon_1 : decode cX10_moon 1 = .ok (.aload_n 0, 1) := by decide +kernel
theorem dX10_moon_2 : decode cX10_moon 2 = .ok (.getfield 10, 3) := by decide +kernel
theorem dX10_moon_5 : decode cX10_moon 5 = .ok (.iload_n 1, 1) := by decide +kernel
theorem dX10_moon_6 : decode cX10_moon 6 = .ok (.iload_n 2, 1) := by decide +kernel
theorem dX10_moon_7 : decode cX10_moon 7 = .ok (.invokevirtual 140, 3) := by decide +kernel
theorem dX10_moon_10 : decode cX10_moon 10 = .ok (.invokevirtual 90, 3) := by decide +kernel
theorem dX10_moon_13 : decode cX10_moon 13 = .ok (.ireturn, 1) := by decide +kernel
noncomputable def f_X10_moon (x1 : Int32) (x2 : Int32) (μ : Mem) : Option (Int32 × Mem) :=
  bd2 (f_X0_passMoon 1 x1 x2 μ) fun r1 ν2 =>
  bd2 (f_X10_tally r1 ν2) fun r3 ν4 =>
  some (r3, ν4)
set_option maxHeartbeats 4000000 in
set_option maxRecDepth 100000 in
theorem c_X10_moon {g : GT} {x1 : Int32} {x2 : Int32} {μ : Mem} {μ0 : Mem} {r0 : Int32} (hf : f_X10_moon x1 x2 μ = some (r0, μ0)) : CI g yX10_moon cX10_moon 3 (some .int) 7 [rf g 0, .int x1, .int x2] μ r0 μ0 := by
  refine mk_i (by decide) (Nat.le_of_ble_eq_true rfl) ?_
  intro G hX hR
  have hX : CX g G cX10_moon RX10 3 7 := hX
  suffices S : ∀ K : (Int32 × Mem) → Prop, (∀ a, K a → a = (r0, μ0)) → Sim G (f_X10_moon x1 x2 μ) K 0 [(0, rf g 0), (1, .int x1), (2, .int x2)] [] μ from S (fun a => a = (r0, μ0)) (fun a h => h) _ hf rfl
  intro K hK
  unfold f_X10_moon
  refine s_aload_n hX dX10_moon_0 rfl 0 rfl ?_
  refine s_aload_n hX dX10_moon_1 rfl 0 rfl ?_
  refine s_getR hX (d := 1) 1 flX10_10 rfl rfl dX10_moon_2 ?_
  refine s_iload_n hX dX10_moon_5 rfl 1 rfl ?_
  refine s_iload_n hX dX10_moon_6 rfl 2 rfl ?_
  refine s_callViw hX [.int x1, .int x2] (k := 1) (ci := 0) rfl hc0 vkX0_passMoon (fun r ν hF => c_X0_passMoon rfl hF) mkX0_passMoon cvX10_140 rfl rfl ⟨by omega, by decide, Nat.le_of_ble_eq_true rfl⟩ dX10_moon_7 (fun r1 ν2 => ?_)
  refine s_callViw hX [.int r1] (k := 0) (ci := 9) rfl hc9 vkX10_tally (fun r ν hF => c_X10_tally  hF) mkX10_tally cvX10_90 rfl rfl ⟨by omega, by decide, Nat.le_of_ble_eq_true rfl⟩ dX10_moon_10 (fun r3 ν4 => ?_)
  exact s_ireti hK hR dX10_moon_13
theorem dX10_painting_0 : decode cX10_painting 0 = .ok (.aload_n 0, 1) := by decide +kernel
theorem dX10_painting_1 : decode cX10_painting 1 = .ok (.getfield 10, 3) := by decide +kernel
theorem dX10_painting_4 : decode cX10_painting 4 = .ok (.getfield 146, 3) := by decide +kernel
theorem dX10_painting_7 : decode cX10_painting 7 = .ok (.iload_n 1, 1) := by decide +kernel
theorem dX10_painting_8 : decode cX10_painting 8 = .ok (.invokevirtual 169, 3) := by decide +kernel
theorem dX10_painting_11 : decode cX10_painting 11 = .ok (.ifCond .eq 13, 3) := by decide +kernel
theorem dX10_painting_14 : decode cX10_painting 14 = .ok (.iload_n 2, 1) := by decide +kernel
theorem dX10_painting_15 : decode cX10_painting 15 = .ok (.ifCond .lt 9, 3) := by decide +kernel
theorem dX10_painting_18 : decode cX10_painting 18 = .ok (.iload_n 2, 1) := by decide +kernel
theorem dX10_painting_19 : decode cX10_painting 19 = .ok (.bipush 99, 2) := by decide +kernel
theorem dX10_painting_21 : decode cX10_painting 21 = .ok (.if_icmp .le 10, 3) := by decide +kernel
theorem dX10_painting_24 : decode cX10_painting 24 = .ok (.aload_n 0, 1) := by decide +kernel
theorem dX10_painting_25 : decode cX10_painting 25 = .ok (.bipush (-2), 2) := by decide +kernel
theorem dX10_painting_27 : decode cX10_painting 27 = .ok (.invokevirtual 90, 3) := by decide +kernel
theorem dX10_painting_30 : decode cX10_painting 30 = .ok (.ireturn, 1) := by decide +kernel
theorem dX10_painting_31 : decode cX10_painting 31 = .ok (.aload_n 0, 1) := by decide +kernel
theorem dX10_painting_32 : decode cX10_painting 32 = .ok (.getfield 44, 3) := by decide +kernel
theorem dX10_painting_35 : decode cX10_painting 35 = .ok (.aload_n 0, 1) := by decide +kernel
theorem dX10_painting_36 : decode cX10_painting 36 = .ok (.getfield 10, 3) := by decide +kernel
theorem dX10_painting_39 : decode cX10_painting 39 = .ok (.iload_n 1, 1) := by decide +kernel
theorem dX10_painting_40 : decode cX10_painting 40 = .ok (.iload_n 2, 1) := by decide +kernel
theorem dX10_painting_41 : decode cX10_painting 41 = .ok (.invokevirtual 226, 3) := by decide +kernel
theorem dX10_painting_44 : decode cX10_painting 44 = .ok (.ireturn, 1) := by decide +kernel
noncomputable def f_X10_painting (x1 : Int32) (x2 : Int32) (μ : Mem) : Option (Int32 × Mem) :=
  bd (f_X3_hasVillage 2 x1 μ) fun r1 =>
  jn (
    bd2 (f_X10_tally (-2) μ) fun r3 ν4 =>
    some (r3, ν4)
    ) fun j2 =>
  if r1 = 0 then
    j2
  else
    if x2 < 0 then
      j2
    else
      if 99 < x2 then
        j2
      else
        bd2 (f_X9_bestPainting 1 x1 x2 μ) fun r5 ν6 =>
        some (r5, ν6)
set_option maxHeartbeats 4000000 in
set_option maxRecDepth 100000 in
theorem c_X10_painting {g : GT} {x1 : Int32} {x2 : Int32} {μ : Mem} {μ0 : Mem} {r0 : Int32} (hf : f_X10_painting x1 x2 μ = some (r0, μ0)) : CI g yX10_painting cX10_painting 3 (some .int) 7 [rf g 0, .int x1, .int x2] μ r0 μ0 := by
  refine mk_i (by decide) (Nat.le_of_ble_eq_true rfl) ?_
  intro G hX hR
  have hX : CX g G cX10_painting RX10 3 7 := hX
  suffices S : ∀ K : (Int32 × Mem) → Prop, (∀ a, K a → a = (r0, μ0)) → Sim G (f_X10_painting x1 x2 μ) K 0 [(0, rf g 0), (1, .int x1), (2, .int x2)] [] μ from S (fun a => a = (r0, μ0)) (fun a h => h) _ hf rfl
  intro K hK
  unfold f_X10_painting
  refine s_aload_n hX dX10_painting_0 rfl 0 rfl ?_
  refine s_getR hX (d := 1) 1 flX10_10 rfl rfl dX10_painting_1 ?_
  refine s_getR hX (d := 1) 2 flX10_146 rfl rfl dX10_painting_4 ?_
  refine s_iload_n hX dX10_painting_7 rfl 1 rfl ?_
  refine s_callVir hX [.int x1] (k := 2) (ci := 3) rfl hc3 vkX3_hasVillage (fun r hF => c_X3_hasVillage rfl hF) mkX3_hasVillage cvX10_169 rfl rfl ⟨by omega, by decide, Nat.le_of_ble_eq_true rfl⟩ dX10_painting_8 (fun r1 => ?_)
  refine s_jn (C := fun j => Sim G (j) K 24 [(0, rf g 0)] [] μ) ?_ (fun j2 hj2 => ?_)
  · skip
    show Sim G _ _ 24 [(0, rf g 0)] [] μ
    refine s_aload_n hX dX10_painting_24 rfl 0 rfl ?_
    refine s_bipush (v := (-2)) hX dX10_painting_25 (by decide) ?_
    refine s_callViw hX [.int (-2)] (k := 0) (ci := 9) rfl hc9 vkX10_tally (fun r ν hF => c_X10_tally  hF) mkX10_tally cvX10_90 rfl rfl ⟨by omega, by decide, Nat.le_of_ble_eq_true rfl⟩ dX10_painting_27 (fun r3 ν4 => ?_)
    exact s_ireti hK hR dX10_painting_30
  refine s_if_eq hX 24 dX10_painting_11 (by decide) ?_ ?_
  · exact s_to hX [0] rfl (hj2)
  · refine s_iload_n hX dX10_painting_14 rfl 2 rfl ?_
    refine s_if_lt hX 24 dX10_painting_15 (by decide) ?_ ?_
    · exact s_to hX [0] rfl (hj2)
    · refine s_iload_n hX dX10_painting_18 rfl 2 rfl ?_
      refine s_bipush (v := 99) hX dX10_painting_19 (by decide) ?_
      refine s_icmp_le hX 31 dX10_painting_21 (by decide) ?_ ?_
      · refine s_aload_n hX dX10_painting_31 rfl 0 rfl ?_
        refine s_getR hX (d := 68) 68 flX10_44 rfl rfl dX10_painting_32 ?_
        refine s_aload_n hX dX10_painting_35 rfl 0 rfl ?_
        refine s_getR hX (d := 1) 1 flX10_10 rfl rfl dX10_painting_36 ?_
        refine s_iload_n hX dX10_painting_39 rfl 1 rfl ?_
        refine s_iload_n hX dX10_painting_40 rfl 2 rfl ?_
        refine s_callViw hX [rf g 1, .int x1, .int x2] (k := 68) (ci := 8) rfl hc8 vkX9_bestPainting (fun r ν hF => c_X9_bestPainting rfl hF) mkX9_bestPainting cvX10_226 rfl rfl ⟨by omega, by decide, Nat.le_of_ble_eq_true rfl⟩ dX10_painting_41 (fun r5 ν6 => ?_)
        exact s_ireti hK hR dX10_painting_44
      · exact s_to hX [0] rfl (hj2)
theorem dX5_search_0 : decode cX5_search 0 = .ok (.aload_n 0, 1) := by decide +kernel
theorem dX5_search_1 : decode cX5_search 1 = .ok (.getfield 12, 3) := by decide +kernel
theorem dX5_search_4 : decode cX5_search 4 = .ok (.aload_n 1, 1) := by decide +kernel
theorem dX5_search_5 : decode cX5_search 5 = .ok (.invokevirtual 38, 3) := by decide +kernel
theorem dX5_search_8 : decode cX5_search 8 = .ok (.aload_n 0, 1) := by decide +kernel
theorem dX5_search_9 : decode cX5_search 9 = .ok (.iload_n 2, 1) := by decide +kernel
theorem dX5_search_10 : decode cX5_search 10 = .ok (.putfield 18, 3) := by decide +kernel
theorem dX5_search_13 : decode cX5_search 13 = .ok (.iconst 0, 1) := by decide +kernel
theorem dX5_search_14 : decode cX5_search 14 = .ok (.istore 4, 2) := by decide +kernel
theorem dX5_search_16 : decode cX5_search 16 = .ok (.iload 4, 2) := by decide +kernel
theorem dX5_search_18 : decode cX5_search 18 = .ok (.aload_n 0, 1) := by decide +kernel
theorem dX5_search_19 : decode cX5_search 19 = .ok (.getfield 12, 3) := by decide +kernel
theorem dX5_search_22 : decode cX5_search 22 = .ok (.getfield 42, 3) := by decide +kernel
theorem dX5_search_25 : decode cX5_search 25 = .ok (.if_icmp .ge 41, 3) := by decide +kernel
theorem dX5_search_28 : decode cX5_search 28 = .ok (.aload_n 0, 1) := by decide +kernel
theorem dX5_search_29 : decode cX5_search 29 = .ok (.getfield 22, 3) := by decide +kernel
theorem dX5_search_32 : decode cX5_search 32 = .ok (.iload 4, 2) := by decide +kernel
theorem dX5_search_34 : decode cX5_search 34 = .ok (.aload_n 0, 1) := by decide +kernel
theorem dX5_search_35 : decode cX5_search 35 = .ok (.getfield 12, 3) := by decide +kernel
theorem dX5_search_38 : decode cX5_search 38 = .ok (.iload 4, 2) := by decide +kernel
theorem dX5_search_40 : decode cX5_search 40 = .ok (.invokevirtual 45, 3) := by decide +kernel
theorem dX5_search_43 : decode cX5_search 43 = .ok (.iastore, 1) := by decide +kernel
theorem dX5_search_44 : decode cX5_search 44 = .ok (.aload_n 0, 1) := by decide +kernel
theorem dX5_search_45 : decode cX5_search 45 = .ok (.getfield 26, 3) := by decide +kernel
theorem dX5_search_48 : decode cX5_search 48 = .ok (.iload 4, 2) := by decide +kernel
theorem dX5_search_50 : decode cX5_search 50 = .ok (.aload_n 0, 1) := by decide +kernel
theorem dX5_search_51 : decode cX5_search 51 = .ok (.getfield 12, 3) := by decide +kernel
theorem dX5_search_54 : decode cX5_search 54 = .ok (.iload 4, 2) := by decide +kernel
theorem dX5_search_56 : decode cX5_search 56 = .ok (.invokevirtual 49, 3) := by decide +kernel
theorem dX5_search_59 : decode cX5_search 59 = .ok (.iastore, 1) := by decide +kernel
theorem dX5_search_60 : decode cX5_search 60 = .ok (.iinc 4 1, 3) := by decide +kernel
theorem dX5_search_63 : decode cX5_search 63 = .ok (.goto (-47), 3) := by decide +kernel
theorem dX5_search_66 : decode cX5_search 66 = .ok (.aload_n 0, 1) := by decide +kernel
theorem dX5_search_67 : decode cX5_search 67 = .ok (.aload_n 0, 1) := by decide +kernel
theorem dX5_search_68 : decode cX5_search 68 = .ok (.invokevirtual 52, 3) := by decide +kernel
theorem dX5_search_71 : decode cX5_search 71 = .ok (.putfield 29, 3) := by decide +kernel
theorem dX5_search_74 : decode cX5_search 74 = .ok (.aload_n 0, 1) := by decide +kernel
theorem dX5_search_75 : decode cX5_search 75 = .ok (.iconst (-1), 1) := by decide +kernel
theorem dX5_search_76 : decode cX5_search 76 = .ok (.putfield 32, 3) := by decide +kernel
theorem dX5_search_79 : decode cX5_search 79 = .ok (.aload_n 0, 1) := by decide +kernel
theorem dX5_search_80 : decode cX5_search 80 = .ok (.iconst (-1), 1) := by decide +kernel
theorem dX5_search_81 : decode cX5_search 81 = .ok (.putfield 35, 3) := by decide +kernel
theorem dX5_search_84 : decode cX5_search 84 = .ok (.iload_n 3, 1) := by decide +kernel
theorem dX5_search_85 : decode cX5_search 85 = .ok (.iconst 1, 1) := by decide +kernel
theorem dX5_search_86 : decode cX5_search 86 = .ok (.if_icmp .lt 9, 3) := by decide +kernel
theorem dX5_search_89 : decode cX5_search 89 = .ok (.aload_n 0, 1) := by decide +kernel
theorem dX5_search_90 : decode cX5_search 90 = .ok (.iconst 0, 1) := by decide +kernel
theorem dX5_search_91 : decode cX5_search 91 = .ok (.iconst (-1), 1) := by decide +kernel
theorem dX5_search_92 : decode cX5_search 92 = .ok (.invokevirtual 56, 3) := by decide +kernel
theorem dX5_search_95 : decode cX5_search 95 = .ok (.iload_n 3, 1) := by decide +kernel
theorem dX5_search_96 : decode cX5_search 96 = .ok (.iconst 2, 1) := by decide +kernel
theorem dX5_search_97 : decode cX5_search 97 = .ok (.if_icmp .lt 7, 3) := by decide +kernel
theorem dX5_search_100 : decode cX5_search 100 = .ok (.aload_n 0, 1) := by decide +kernel
theorem dX5_search_101 : decode cX5_search 101 = .ok (.invokevirtual 60, 3) := by decide +kernel
theorem dX5_search_104 : decode cX5_search 104 = .ok (.return_, 1) := by decide +kernel
noncomputable def f_X5_search (k1 : Nat) (x2 : Int32) (x3 : Int32) (μ : Mem) : Option Mem :=
  bd (f_X3_become 73 k1 μ) fun ν1 =>
  lt (setI ν1 72 1 x2) fun ν2 =>
  bd (lp (ε := Mem) (cu2 fun (x4_3 : Int32) (ν4 : Mem) =>
    if x4_3 < (ν4.1 73 0) then
      bd (f_X3_sightOf 73 x4_3 ν4) fun r7 =>
      chk x4_3 5 (lt (setI ν4 78 (ix x4_3) r7) fun ν8 =>
        bd (f_X3_tollOf 73 x4_3 ν8) fun r9 =>
        chk x4_3 5 (lt (setI ν8 79 (ix x4_3) r9) fun ν10 =>
          some (.inl ((x4_3 + 1), ν10))
          )
        )
    else
      some (.inr ν4)
    ) (0, ν2)) (fun (ν5 : Mem) =>
    bd (f_X5_takenNow  ν5) fun r11 =>
    lt (setI ν5 72 4 r11) fun ν12 =>
    lt (setI ν12 72 5 (-1)) fun ν13 =>
    lt (setI ν13 72 6 (-1)) fun ν14 =>
    jn (fun (ν15 : Mem) =>
      jn (fun (ν17 : Mem) =>
        some ν17
        ) fun j18 =>
      if x3 < 2 then
        j18 ν15
      else
        bd (f_X5_tryTwoMoves  ν15) fun ν19 =>
        j18 ν19
      ) fun j16 =>
    if x3 < 1 then
      j16 ν14
    else
      bd (f_X5_tryLastMove 0 (-1) ν14) fun ν20 =>
      j16 ν20
    )
set_option maxHeartbeats 4000000 in
set_option maxRecDepth 100000 in
theorem c_X5_search {g : GT} {k1 : Nat} {x2 : Int32} {x3 : Int32} {μ : Mem} {μ0 : Mem} (hk1 : tyOf k1 = 3) (hf : f_X5_search k1 x2 x3 μ = some μ0) : CV g yX5_search cX5_search 5 (none) 7 [rf g 72, rf g k1, .int x2, .int x3] μ μ0 := by
  refine mk_v (by decide) (Nat.le_of_ble_eq_true rfl) ?_
  intro G hX hR
  have hX : CX g G cX5_search RX5 5 7 := hX
  suffices S : ∀ K : Mem → Prop, (∀ a, K a → a = μ0) → Sim G (f_X5_search k1 x2 x3 μ) K 0 [(0, rf g 72), (1, rf g k1), (2, .int x2), (3, .int x3)] [] μ from S (fun a => a = μ0) (fun a h => h) _ hf rfl
  intro K hK
  unfold f_X5_search
  refine s_aload_n hX dX5_search_0 rfl 0 rfl ?_
  refine s_getR hX (d := 1) 73 flX5_12 rfl rfl dX5_search_1 ?_
  refine s_aload_n hX dX5_search_4 rfl 1 rfl ?_
  refine s_callVvw hX [rf g k1] (k := 73) (ci := 3) rfl hc3 vkX3_become (fun ν hF => c_X3_become rfl hk1 hF) mkX3_become cvX5_38 rfl rfl ⟨by omega, by decide, Nat.le_of_ble_eq_true rfl⟩ dX5_search_5 (fun ν1 => ?_)
  refine s_aload_n hX dX5_search_8 rfl 0 rfl ?_
  refine s_iload_n hX dX5_search_9 rfl 2 rfl ?_
  refine s_putI hX flX5_18 rfl ⟨rfl, rfl⟩ dX5_search_10 (fun ν2 => ?_)
  refine s_iconst (v := 0) hX dX5_search_13 (by decide) ?_
  refine s_istore (lv' := [(4, .int 0), (0, rf g 72), (1, rf g k1), (2, .int x2), (3, .int x3)]) hX dX5_search_14 (by decide) rfl ?_
  refine s_loop hX 16 66 (fun s : Int32 × Mem => [(0, rf g 72), (3, .int x3), (4, .int s.1)]) (fun s : Int32 × Mem => s.2) (fun s : Mem => [(0, rf g 72), (3, .int x3)]) (fun s : Mem => s) [1, 4, 0] rfl rfl rfl ?_ ?_
  · intro Kq6 hIq6 hJq6 sq
    obtain ⟨x4_3, ν4⟩ := sq
    refine s_cu2 ?_
    show Sim G _ _ 16 [(0, rf g 72), (3, .int x3), (4, .int x4_3)] [] ν4
    refine s_iload hX dX5_search_16 2 rfl ?_
    refine s_aload_n hX dX5_search_18 rfl 0 rfl ?_
    refine s_getR hX (d := 1) 73 flX5_12 rfl rfl dX5_search_19 ?_
    refine s_getI hX flX5_42 rfl dX5_search_22 ?_
    refine s_icmp_ge hX 66 dX5_search_25 (by decide) ?_ ?_
    · exact s_end hX (hJq6 ν4) [0, 1] rfl
    · refine s_aload_n hX dX5_search_28 rfl 0 rfl ?_
      refine s_getR hX (d := 6) 78 flX5_22 rfl rfl dX5_search_29 ?_
      refine s_iload hX dX5_search_32 2 rfl ?_
      refine s_aload_n hX dX5_search_34 rfl 0 rfl ?_
      refine s_getR hX (d := 1) 73 flX5_12 rfl rfl dX5_search_35 ?_
      refine s_iload hX dX5_search_38 2 rfl ?_
      refine s_callVir hX [.int x4_3] (k := 73) (ci := 3) rfl hc3 vkX3_sightOf (fun r hF => c_X3_sightOf rfl hF) mkX3_sightOf cvX5_45 rfl rfl ⟨by omega, by decide, Nat.le_of_ble_eq_true rfl⟩ dX5_search_40 (fun r7 => ?_)
      refine s_iast hX rfl rfl dX5_search_43 (fun ν8 => ?_)
      refine s_aload_n hX dX5_search_44 rfl 0 rfl ?_
      refine s_getR hX (d := 7) 79 flX5_26 rfl rfl dX5_search_45 ?_
      refine s_iload hX dX5_search_48 2 rfl ?_
      refine s_aload_n hX dX5_search_50 rfl 0 rfl ?_
      refine s_getR hX (d := 1) 73 flX5_12 rfl rfl dX5_search_51 ?_
      refine s_iload hX dX5_search_54 2 rfl ?_
      refine s_callVir hX [.int x4_3] (k := 73) (ci := 3) rfl hc3 vkX3_tollOf (fun r hF => c_X3_tollOf rfl hF) mkX3_tollOf cvX5_49 rfl rfl ⟨by omega, by decide, Nat.le_of_ble_eq_true rfl⟩ dX5_search_56 (fun r9 => ?_)
      refine s_iast hX rfl rfl dX5_search_59 (fun ν10 => ?_)
      refine s_iinc (v := (x4_3 + 1)) (lv' := [(4, .int (x4_3 + 1)), (0, rf g 72), (3, .int x3)]) hX dX5_search_60 2 rfl rfl (by decide) rfl ?_
      refine s_goto hX 16 dX5_search_63 (by decide) ?_
      exact s_end hX (hIq6 ((x4_3 + 1), ν10)) [1, 2, 0] rfl
  · intro sq
    obtain ⟨ν5, rfl⟩ : ∃ z, z = sq := ⟨_, rfl⟩
    show Sim G _ _ 66 [(0, rf g 72), (3, .int x3)] [] ν5
    refine s_aload_n hX dX5_search_66 rfl 0 rfl ?_
    refine s_aload_n hX dX5_search_67 rfl 0 rfl ?_
    refine s_callVir hX [] (k := 72) (ci := 4) rfl hc4 vkX5_takenNow (fun r hF => c_X5_takenNow  hF) mkX5_takenNow cvX5_52 rfl rfl ⟨by omega, by decide, Nat.le_of_ble_eq_true rfl⟩ dX5_search_68 (fun r11 => ?_)
    refine s_putI hX flX5_29 rfl ⟨rfl, rfl⟩ dX5_search_71 (fun ν12 => ?_)
    refine s_aload_n hX dX5_search_74 rfl 0 rfl ?_
    refine s_iconst (v := (-1)) hX dX5_search_75 (by decide) ?_
    refine s_putI hX flX5_32 rfl ⟨rfl, rfl⟩ dX5_search_76 (fun ν13 => ?_)
    refine s_aload_n hX dX5_search_79 rfl 0 rfl ?_
    refine s_iconst (v := (-1)) hX dX5_search_80 (by decide) ?_
    refine s_putI hX flX5_35 rfl ⟨rfl, rfl⟩ dX5_search_81 (fun ν14 => ?_)
    refine s_iload_n hX dX5_search_84 rfl 1 rfl ?_
    refine s_iconst (v := 1) hX dX5_search_85 (by decide) ?_
    refine s_jn (C := fun j => ∀ (ν15 : Mem), Sim G (j ν15) K 95 [(0, rf g 72), (3, .int x3)] [] ν15) ?_ (fun j16 hj16 => ?_)
    · intro ν15
      show Sim G _ _ 95 [(0, rf g 72), (3, .int x3)] [] ν15
      refine s_iload_n hX dX5_search_95 rfl 1 rfl ?_
      refine s_iconst (v := 2) hX dX5_search_96 (by decide) ?_
      refine s_jn (C := fun j => ∀ (ν17 : Mem), Sim G (j ν17) K 104 [] [] ν17) ?_ (fun j18 hj18 => ?_)
      · intro ν17
        show Sim G _ _ 104 [] [] ν17
        exact s_vreti hK hR dX5_search_104
      refine s_icmp_lt hX 104 dX5_search_97 (by decide) ?_ ?_
      · exact s_to hX [] rfl (hj18 ν15)
      · refine s_aload_n hX dX5_search_100 rfl 0 rfl ?_
        refine s_callVvw hX [] (k := 72) (ci := 4) rfl hc4 vkX5_tryTwoMoves (fun ν hF => c_X5_tryTwoMoves  hF) mkX5_tryTwoMoves cvX5_60 rfl rfl ⟨by omega, by decide, Nat.le_of_ble_eq_true rfl⟩ dX5_search_101 (fun ν19 => ?_)
        exact s_to hX [] rfl (hj18 ν19)
    refine s_icmp_lt hX 95 dX5_search_86 (by decide) ?_ ?_
    · exact s_to hX [0, 1] rfl (hj16 ν14)
    · refine s_aload_n hX dX5_search_89 rfl 0 rfl ?_
      refine s_iconst (v := 0) hX dX5_search_90 (by decide) ?_
      refine s_iconst (v := (-1)) hX dX5_search_91 (by decide) ?_
      refine s_callVvw hX [.int 0, .int (-1)] (k := 72) (ci := 4) rfl hc4 vkX5_tryLastMove (fun ν hF => c_X5_tryLastMove  hF) mkX5_tryLastMove cvX5_56 rfl rfl ⟨by omega, by decide, Nat.le_of_ble_eq_true rfl⟩ dX5_search_92 (fun ν20 => ?_)
      exact s_to hX [0, 1] rfl (hj16 ν20)
theorem dX8_step_0 : decode cX8_step 0 = .ok (.aload_n 0, 1) := by decide +kernel
theorem dX8_step_1 : decode cX8_step 1 = .ok (.aload_n 0, 1) := by decide +kernel
theorem dX8_step_2 : decode cX8_step 2 = .ok (.getfield 32, 3) := by decide +kernel
theorem dX8_step_5 : decode cX8_step 5 = .ok (.putfield 29, 3) := by decide +kernel
theorem dX8_step_8 : decode cX8_step 8 = .ok (.aload_n 0, 1) := by decide +kernel
theorem dX8_step_9 : decode cX8_step 9 = .ok (.getfield 29, 3) := by decide +kernel
theorem dX8_step_12 : decode cX8_step 12 = .ok (.aload_n 0, 1) := by decide +kernel
theorem dX8_step_13 : decode cX8_step 13 = .ok (.getfield 15, 3) := by decide +kernel
theorem dX8_step_16 : decode cX8_step 16 = .ok (.if_icmp .ge 30, 3) := by decide +kernel
theorem dX8_step_19 : decode cX8_step 19 = .ok (.aload_n 0, 1) := by decide +kernel
theorem dX8_step_20 : decode cX8_step 20 = .ok (.getfield 9, 3) := by decide +kernel
theorem dX8_step_23 : decode cX8_step 23 = .ok (.aload_n 0, 1) := by decide +kernel
theorem dX8_step_24 : decode cX8_step 24 = .ok (.getfield 29, 3) := by decide +kernel
theorem dX8_step_27 : decode cX8_step 27 = .ok (.caload, 1) := by decide +kernel
theorem dX8_step_28 : decode cX8_step 28 = .ok (.bipush 32, 2) := by decide +kernel
theorem dX8_step_30 : decode cX8_step 30 = .ok (.if_icmp .ne 16, 3) := by decide +kernel
theorem dX8_step_33 : decode cX8_step 33 = .ok (.aload_n 0, 1) := by decide +kernel
theorem dX8_step_34 : decode cX8_step 34 = .ok (.dup, 1) := by decide +kernel
theorem dX8_step_35 : decode cX8_step 35 = .ok (.getfield 29, 3) := by decide +kernel
theorem dX8_step_38 : decode cX8_step 38 = .ok (.iconst 1, 1) := by decide +kernel
theorem dX8_step_39 : decode cX8_step 39 = .ok (.iadd, 1) := by decide +kernel
theorem dX8_step_40 : decode cX8_step 40 = .ok (.putfield 29, 3) := by decide +kernel
theorem dX8_step_43 : decode cX8_step 43 = .ok (.goto (-35), 3) := by decide +kernel
theorem dX8_step_46 : decode cX8_step 46 = .ok (.aload_n 0, 1) := by decide +kernel
theorem dX8_step_47 : decode cX8_step 47 = .ok (.aload_n 0, 1) := by decide +kernel
theorem dX8_step_48 : decode cX8_step 48 = .ok (.getfield 29, 3) := by decide +kernel
theorem dX8_step_51 : decode cX8_step 51 = .ok (.iconst 1, 1) := by decide +kernel
theorem dX8_step_52 : decode cX8_step 52 = .ok (.iadd, 1) := by decide +kernel
theorem dX8_step_53 : decode cX8_step 53 = .ok (.putfield 32, 3) := by decide +kernel
theorem dX8_step_56 : decode cX8_step 56 = .ok (.aload_n 0, 1) := by decide +kernel
theorem dX8_step_57 : decode cX8_step 57 = .ok (.getfield 29, 3) := by decide +kernel
theorem dX8_step_60 : decode cX8_step 60 = .ok (.aload_n 0, 1) := by decide +kernel
theorem dX8_step_61 : decode cX8_step 61 = .ok (.getfield 15, 3) := by decide +kernel
theorem dX8_step_64 : decode cX8_step 64 = .ok (.if_icmp .lt 19, 3) := by decide +kernel
theorem dX8_step_67 : decode cX8_step 67 = .ok (.aload_n 0, 1) := by decide +kernel
theorem dX8_step_68 : decode cX8_step 68 = .ok (.aload_n 0, 1) := by decide +kernel
theorem dX8_step_69 : decode cX8_step 69 = .ok (.getfield 15, 3) := by decide +kernel
theorem dX8_step_72 : decode cX8_step 72 = .ok (.putfield 32, 3) := by decide +kernel
theorem dX8_step_75 : decode cX8_step 75 = .ok (.aload_n 0, 1) := by decide +kernel
theorem dX8_step_76 : decode cX8_step 76 = .ok (.iconst 0, 1) := by decide +kernel
theorem dX8_step_77 : decode cX8_step 77 = .ok (.putfield 35, 3) := by decide +kernel
theorem dX8_step_80 : decode cX8_step 80 = .ok (.goto 62, 3) := by decide +kernel
theorem dX8_step_83 : decode cX8_step 83 = .ok (.aload_n 0, 1) := by decide +kernel
theorem dX8_step_84 : decode cX8_step 84 = .ok (.aload_n 0, 1) := by decide +kernel
theorem dX8_step_85 : decode cX8_step 85 = .ok (.getfield 29, 3) := by decide +kernel
theorem dX8_step_88 : decode cX8_step 88 = .ok (.invokevirtual 51, 3) := by decide +kernel
theorem dX8_step_91 : decode cX8_step 91 = .ok (.ifCond .eq 10, 3) := by decide +kernel
theorem dX8_step_94 : decode cX8_step 94 = .ok (.aload_n 0, 1) := by decide +kernel
theorem dX8_step_95 : decode cX8_step 95 = .ok (.invokevirtual 54, 3) := by decide +kernel
theorem dX8_step_98 : decode cX8_step 98 = .ok (.goto 44, 3) := by decide +kernel
theorem dX8_step_101 : decode cX8_step 101 = .ok (.aload_n 0, 1) := by decide +kernel
theorem dX8_step_102 : decode cX8_step 102 = .ok (.aload_n 0, 1) := by decide +kernel
theorem dX8_step_103 : decode cX8_step 103 = .ok (.getfield 29, 3) := by decide +kernel
theorem dX8_step_106 : decode cX8_step 106 = .ok (.invokevirtual 57, 3) := by decide +kernel
theorem dX8_step_109 : decode cX8_step 109 = .ok (.ifCond .eq 10, 3) := by decide +kernel
theorem dX8_step_112 : decode cX8_step 112 = .ok (.aload_n 0, 1) := by decide +kernel
theorem dX8_step_113 : decode cX8_step 113 = .ok (.invokevirtual 60, 3) := by decide +kernel
theorem dX8_step_116 : decode cX8_step 116 = .ok (.goto 26, 3) := by decide +kernel
theorem dX8_step_119 : decode cX8_step 119 = .ok (.aload_n 0, 1) := by decide +kernel
theorem dX8_step_120 : decode cX8_step 120 = .ok (.aload_n 0, 1) := by decide +kernel
theorem dX8_step_121 : decode cX8_step 121 = .ok (.getfield 9, 3) := by decide +kernel
theorem dX8_step_124 : decode cX8_step 124 = .ok (.aload_n 0, 1) := by decide +kernel
theorem dX8_step_125 : decode cX8_step 125 = .ok (.getfield 29, 3) := by decide +kernel
theorem dX8_step_128 : decode cX8_step 128 = .ok (.caload, 1) := by decide +kernel
theorem dX8_step_129 : decode cX8_step 129 = .ok (.bipush 59, 2) := by decide +kernel
theorem dX8_step_131 : decode cX8_step 131 = .ok (.if_icmp .ne 7, 3) := by decide +kernel
theorem dX8_step_134 : decode cX8_step 134 = .ok (.iconst 3, 1) := by decide +kernel
theorem dX8_step_135 : decode cX8_step 135 = .ok (.goto 4, 3) := by decide +kernel
theorem dX8_step_138 : decode cX8_step 138 = .ok (.iconst 4, 1) := by decide +kernel
theorem dX8_step_139 : decode cX8_step 139 = .ok (.putfield 35, 3) := by decide +kernel
theorem dX8_step_142 : decode cX8_step 142 = .ok (.return_, 1) := by decide +kernel
noncomputable def f_X8_step  (μ : Mem) : Option Mem :=
  lt (setI μ 45 5 (μ.1 45 6)) fun ν1 =>
  bd (lp (ε := Mem) (fun (ν2 : Mem) =>
    if (ν2.1 45 5) < (ν2.1 45 1) then
      chk (ν2.1 45 5) 150 (
        if (ν2.1 46 (ix (ν2.1 45 5))) = 32 then
          lt (setI ν2 45 5 ((ν2.1 45 5) + 1)) fun ν5 =>
          some (.inl ν5)
        else
          some (.inr ν2)
        )
    else
      some (.inr ν2)
    ) ν1) (fun (ν3 : Mem) =>
    lt (setI ν3 45 6 ((ν3.1 45 5) + 1)) fun ν6 =>
    jn (fun (ν7 : Mem) =>
      some ν7
      ) fun j8 =>
    if (ν6.1 45 5) < (ν6.1 45 1) then
      bd (f_X8_isLetter (ν6.1 45 5) ν6) fun r9 =>
      if r9 = 0 then
        bd (f_X8_isFigure (ν6.1 45 5) ν6) fun r10 =>
        if r10 = 0 then
          chk (ν6.1 45 5) 150 (
            jn (fun (y11 : Int32) =>
              lt (setI ν6 45 7 y11) fun ν13 =>
              j8 ν13
              ) fun j12 =>
            if (ν6.1 46 (ix (ν6.1 45 5))) = 59 then
              j12 3
            else
              j12 4
            )
        else
          bd (f_X8_stepOverNumber  ν6) fun ν14 =>
          j8 ν14
      else
        bd (f_X8_stepOverWord  ν6) fun ν15 =>
        j8 ν15
    else
      lt (setI ν6 45 6 (ν6.1 45 1)) fun ν16 =>
      lt (setI ν16 45 7 0) fun ν17 =>
      j8 ν17
    )
set_option maxHeartbeats 4000000 in
set_option maxRecDepth 100000 in
theorem c_X8_step {g : GT}  {μ : Mem} {μ0 : Mem} (hf : f_X8_step  μ = some μ0) : CV g yX8_step cX8_step 1 (none) 7 [rf g 45] μ μ0 := by
  refine mk_v (by decide) (Nat.le_of_ble_eq_true rfl) ?_
  intro G hX hR
  have hX : CX g G cX8_step RX8 1 7 := hX
  suffices S : ∀ K : Mem → Prop, (∀ a, K a → a = μ0) → Sim G (f_X8_step  μ) K 0 [(0, rf g 45)] [] μ from S (fun a => a = μ0) (fun a h => h) _ hf rfl
  intro K hK
  unfold f_X8_step
  refine s_aload_n hX dX8_step_0 rfl 0 rfl ?_
  refine s_aload_n hX dX8_step_1 rfl 0 rfl ?_
  refine s_getI hX flX8_32 rfl dX8_step_2 ?_
  refine s_putI hX flX8_29 rfl ⟨rfl, rfl⟩ dX8_step_5 (fun ν1 => ?_)
  refine s_loop hX 8 46 (fun s : Mem => [(0, rf g 45)]) (fun s : Mem => s) (fun s : Mem => [(0, rf g 45)]) (fun s : Mem => s) [0] rfl rfl rfl ?_ ?_
  · intro Kq4 hIq4 hJq4 sq
    obtain ⟨ν2, rfl⟩ : ∃ z, z = sq := ⟨_, rfl⟩
    show Sim G _ _ 8 [(0, rf g 45)] [] ν2
    refine s_aload_n hX dX8_step_8 rfl 0 rfl ?_
    refine s_getI hX flX8_29 rfl dX8_step_9 ?_
    refine s_aload_n hX dX8_step_12 rfl 0 rfl ?_
    refine s_getI hX flX8_15 rfl dX8_step_13 ?_
    refine s_icmp_ge hX 46 dX8_step_16 (by decide) ?_ ?_
    · exact s_end hX (hJq4 ν2) [0] rfl
    · refine s_aload_n hX dX8_step_19 rfl 0 rfl ?_
      refine s_getR hX (d := 1) 46 flX8_9 rfl rfl dX8_step_20 ?_
      refine s_aload_n hX dX8_step_23 rfl 0 rfl ?_
      refine s_getI hX flX8_29 rfl dX8_step_24 ?_
      refine s_cald hX rfl rfl dX8_step_27 ?_
      refine s_bipush (v := 32) hX dX8_step_28 (by decide) ?_
      refine s_icmp_ne hX 46 dX8_step_30 (by decide) ?_ ?_
      · exact s_end hX (hJq4 ν2) [0] rfl
      · refine s_aload_n hX dX8_step_33 rfl 0 rfl ?_
        refine s_dup hX dX8_step_34 rfl ?_
        refine s_getI hX flX8_29 rfl dX8_step_35 ?_
        refine s_iconst (v := 1) hX dX8_step_38 (by decide) ?_
        refine s_iadd hX dX8_step_39 ?_
        refine s_putI hX flX8_29 rfl ⟨rfl, rfl⟩ dX8_step_40 (fun ν5 => ?_)
        refine s_goto hX 8 dX8_step_43 (by decide) ?_
        exact s_end hX (hIq4 ν5) [0] rfl
  · intro sq
    obtain ⟨ν3, rfl⟩ : ∃ z, z = sq := ⟨_, rfl⟩
    show Sim G _ _ 46 [(0, rf g 45)] [] ν3
    refine s_aload_n hX dX8_step_46 rfl 0 rfl ?_
    refine s_aload_n hX dX8_step_47 rfl 0 rfl ?_
    refine s_getI hX flX8_29 rfl dX8_step_48 ?_
    refine s_iconst (v := 1) hX dX8_step_51 (by decide) ?_
    refine s_iadd hX dX8_step_52 ?_
    refine s_putI hX flX8_32 rfl ⟨rfl, rfl⟩ dX8_step_53 (fun ν6 => ?_)
    refine s_aload_n hX dX8_step_56 rfl 0 rfl ?_
    refine s_getI hX flX8_29 rfl dX8_step_57 ?_
    refine s_aload_n hX dX8_step_60 rfl 0 rfl ?_
    refine s_getI hX flX8_15 rfl dX8_step_61 ?_
    refine s_jn (C := fun j => ∀ (ν7 : Mem), Sim G (j ν7) K 142 [] [] ν7) ?_ (fun j8 hj8 => ?_)
    · intro ν7
      show Sim G _ _ 142 [] [] ν7
      exact s_vreti hK hR dX8_step_142
    refine s_icmp_lt hX 83 dX8_step_64 (by decide) ?_ ?_
    · refine s_aload_n hX dX8_step_83 rfl 0 rfl ?_
      refine s_aload_n hX dX8_step_84 rfl 0 rfl ?_
      refine s_getI hX flX8_29 rfl dX8_step_85 ?_
      refine s_callVir hX [.int (ν6.1 45 5)] (k := 45) (ci := 7) rfl hc7 vkX8_isLetter (fun r hF => c_X8_isLetter  hF) mkX8_isLetter cvX8_51 rfl rfl ⟨by omega, by decide, Nat.le_of_ble_eq_true rfl⟩ dX8_step_88 (fun r9 => ?_)
      refine s_if_eq hX 101 dX8_step_91 (by decide) ?_ ?_
      · refine s_aload_n hX dX8_step_101 rfl 0 rfl ?_
        refine s_aload_n hX dX8_step_102 rfl 0 rfl ?_
        refine s_getI hX flX8_29 rfl dX8_step_103 ?_
        refine s_callVir hX [.int (ν6.1 45 5)] (k := 45) (ci := 7) rfl hc7 vkX8_isFigure (fun r hF => c_X8_isFigure  hF) mkX8_isFigure cvX8_57 rfl rfl ⟨by omega, by decide, Nat.le_of_ble_eq_true rfl⟩ dX8_step_106 (fun r10 => ?_)
        refine s_if_eq hX 119 dX8_step_109 (by decide) ?_ ?_
        · refine s_aload_n hX dX8_step_119 rfl 0 rfl ?_
          refine s_aload_n hX dX8_step_120 rfl 0 rfl ?_
          refine s_getR hX (d := 1) 46 flX8_9 rfl rfl dX8_step_121 ?_
          refine s_aload_n hX dX8_step_124 rfl 0 rfl ?_
          refine s_getI hX flX8_29 rfl dX8_step_125 ?_
          refine s_cald hX rfl rfl dX8_step_128 ?_
          refine s_bipush (v := 59) hX dX8_step_129 (by decide) ?_
          refine s_jn (C := fun j => ∀ (y11 : Int32), Sim G (j y11) K 139 [] [.int y11, rf g 45] ν6) ?_ (fun j12 hj12 => ?_)
          · intro y11
            show Sim G _ _ 139 [] [.int y11, rf g 45] ν6
            refine s_putI hX flX8_35 rfl ⟨rfl, rfl⟩ dX8_step_139 (fun ν13 => ?_)
            exact s_to hX [] rfl (hj8 ν13)
          refine s_icmp_ne hX 138 dX8_step_131 (by decide) ?_ ?_
          · refine s_iconst (v := 4) hX dX8_step_138 (by decide) ?_
            exact s_to hX [] rfl (hj12 4)
          · refine s_iconst (v := 3) hX dX8_step_134 (by decide) ?_
            refine s_goto hX 139 dX8_step_135 (by decide) ?_
            exact s_to hX [] rfl (hj12 3)
        · refine s_aload_n hX dX8_step_112 rfl 0 rfl ?_
          refine s_callVvw hX [] (k := 45) (ci := 7) rfl hc7 vkX8_stepOverNumber (fun ν hF => c_X8_stepOverNumber  hF) mkX8_stepOverNumber cvX8_60 rfl rfl ⟨by omega, by decide, Nat.le_of_ble_eq_true rfl⟩ dX8_step_113 (fun ν14 => ?_)
          refine s_goto hX 142 dX8_step_116 (by decide) ?_
          exact s_to hX [] rfl (hj8 ν14)
      · refine s_aload_n hX dX8_step_94 rfl 0 rfl ?_
        refine s_callVvw hX [] (k := 45) (ci := 7) rfl hc7 vkX8_stepOverWord (fun ν hF => c_X8_stepOverWord  hF) mkX8_stepOverWord cvX8_54 rfl rfl ⟨by omega, by decide, Nat.le_of_ble_eq_true rfl⟩ dX8_step_95 (fun ν15 => ?_)
        refine s_goto hX 142 dX8_step_98 (by decide) ?_
        exact s_to hX [] rfl (hj8 ν15)
    · refine s_aload_n hX dX8_step_67 rfl 0 rfl ?_
      refine s_aload_n hX dX8_step_68 rfl 0 rfl ?_
      refine s_getI hX flX8_15 rfl dX8_step_69 ?_
      refine s_putI hX flX8_32 rfl ⟨rfl, rfl⟩ dX8_step_72 (fun ν16 => ?_)
      refine s_aload_n hX dX8_step_75 rfl 0 rfl ?_
      refine s_iconst (v := 0) hX dX8_step_76 (by decide) ?_
      refine s_putI hX flX8_35 rfl ⟨rfl, rfl⟩ dX8_step_77 (fun ν17 => ?_)
      refine s_goto hX 142 dX8_step_80 (by decide) ?_
      exact s_to hX [] rfl (hj8 ν17)
theorem dX10_least_0 : decode cX10_least 0 = .ok (.aload_n 0, 1) := by decide +kernel
theorem dX10_least_1 : decode cX10_least 1 = .ok (.getfield 10, 3) := by decide +kernel
theorem dX10_least_4 : decode cX10_least 4 = .ok (.getfield 146, 3) := by decide +kernel
theorem dX10_least_7 : decode cX10_least 7 = .ok (.iload_n 1, 1) := by decide +kernel
theorem dX10_least_8 : decode cX10_least 8 = .ok (.invokevirtual 178, 3) := by decide +kernel
theorem dX10_least_11 : decode cX10_least 11 = .ok (.ifCond .eq 21, 3) := by decide +kernel
theorem dX10_least_14 : decode cX10_least 14 = .ok (.iload_n 2, 1) := by decide +kernel
theorem dX10_least_15 : decode cX10_least 15 = .ok (.ifCond .lt 17, 3) := by decide +kernel
theorem dX10_least_18 : decode cX10_least 18 = .ok (.iload_n 2, 1) := by decide +kernel
theorem dX10_least_19 : decode cX10_least 19 = .ok (.iconst 2, 1) := by decide +kernel
theorem dX10_least_20 : decode cX10_least 20 = .ok (.if_icmp .gt 12, 3) := by decide +kernel
theorem dX10_least_23 : decode cX10_least 23 = .ok (.iload_n 3, 1) := by decide +kernel
theorem dX10_least_24 : decode cX10_least 24 = .ok (.ifCond .lt 8, 3) := by decide +kernel
theorem dX10_least_27 : decode cX10_least 27 = .ok (.iload_n 3, 1) := by decide +kernel
theorem dX10_least_28 : decode cX10_least 28 = .ok (.iconst 2, 1) := by decide +kernel
theorem dX10_least_29 : decode cX10_least 29 = .ok (.if_icmp .le 10, 3) := by decide +kernel
theorem dX10_least_32 : decode cX10_least 32 = .ok (.aload_n 0, 1) := by decide +kernel
theorem dX10_least_33 : decode cX10_least 33 = .ok (.bipush (-10), 2) := by decide +kernel
theorem dX10_least_35 : decode cX10_least 35 = .ok (.invokevirtual 181, 3) := by decide +kernel
theorem dX10_least_38 : decode cX10_least 38 = .ok (.ireturn, 1) := by decide +kernel
theorem dX10_least_39 : decode cX10_least 39 = .ok (.aload_n 0, 1) := by decide +kernel
theorem dX10_least_40 : decode cX10_least 40 = .ok (.getfield 51, 3) := by decide +kernel
theorem dX10_least_43 : decode cX10_least 43 = .ok (.aload_n 0, 1) := by decide +kernel
theorem dX10_least_44 : decode cX10_least 44 = .ok (.getfield 10, 3) := by decide +kernel
theorem dX10_least_47 : decode cX10_least 47 = .ok (.getfield 146, 3) := by decide +kernel
theorem dX10_least_50 : decode cX10_least 50 = .ok (.iload_n 1, 1) := by decide +kernel
theorem dX10_least_51 : decode cX10_least 51 = .ok (.iload_n 2, 1) := by decide +kernel
theorem dX10_least_52 : decode cX10_least 52 = .ok (.invokevirtual 190, 3) := by decide +kernel
theorem dX10_least_55 : decode cX10_least 55 = .ok (.iload_n 3, 1) := by decide +kernel
theorem dX10_least_56 : decode cX10_least 56 = .ok (.ifCond .ne 11, 3) := by decide +kernel
theorem dX10_least_59 : decode cX10_least 59 = .ok (.aload_n 0, 1) := by decide +kernel
theorem dX10_least_60 : decode cX10_least 60 = .ok (.getfield 51, 3) := by decide +kernel
theorem dX10_least_63 : decode cX10_least 63 = .ok (.getfield 194, 3) := by decide +kernel
theorem dX10_least_66 : decode cX10_least 66 = .ok (.ireturn, 1) := by decide +kernel
theorem dX10_least_67 : decode cX10_least 67 = .ok (.iload_n 3, 1) := by decide +kernel
theorem dX10_least_68 : decode cX10_least 68 = .ok (.iconst 1, 1) := by decide +kernel
theorem dX10_least_69 : decode cX10_least 69 = .ok (.if_icmp .ne 13, 3) := by decide +kernel
theorem dX10_least_72 : decode cX10_least 72 = .ok (.aload_n 0, 1) := by decide +kernel
theorem dX10_least_73 : decode cX10_least 73 = .ok (.getfield 51, 3) := by decide +kernel
theorem dX10_least_76 : decode cX10_least 76 = .ok (.getfield 197, 3) := by decide +kernel
theorem dX10_least_79 : decode cX10_least 79 = .ok (.goto 10, 3) := by decide +kernel
theorem dX10_least_82 : decode cX10_least 82 = .ok (.aload_n 0, 1) := by decide +kernel
theorem dX10_least_83 : decode cX10_least 83 = .ok (.getfield 51, 3) := by decide +kernel
theorem dX10_least_86 : decode cX10_least 86 = .ok (.getfield 200, 3) := by decide +kernel
theorem dX10_least_89 : decode cX10_least 89 = .ok (.ireturn, 1) := by decide +kernel
noncomputable def f_X10_least (x1 : Int32) (x2 : Int32) (x3 : Int32) (μ : Mem) : Option (Int32 × Mem) :=
  bd (f_X3_hasClouds 2 x1 μ) fun r1 =>
  jn (
    bd2 (f_X10_refuseAsBad (-10) μ) fun r3 ν4 =>
    some (r3, ν4)
    ) fun j2 =>
  if r1 = 0 then
    j2
  else
    if x2 < 0 then
      j2
    else
      if 2 < x2 then
        j2
      else
        if x3 < 0 then
          j2
        else
          if 2 < x3 then
            j2
          else
            bd (f_X5_search 2 x1 x2 μ) fun ν5 =>
            if x3 = 0 then
              some ((ν5.1 72 4), ν5)
            else
              jn (fun (y6 : Int32) =>
                some (y6, ν5)
                ) fun j7 =>
              if x3 = 1 then
                j7 (ν5.1 72 5)
              else
                j7 (ν5.1 72 6)
set_option maxHeartbeats 4000000 in
set_option maxRecDepth 100000 in
theorem c_X10_least {g : GT} {x1 : Int32} {x2 : Int32} {x3 : Int32} {μ : Mem} {μ0 : Mem} {r0 : Int32} (hf : f_X10_least x1 x2 x3 μ = some (r0, μ0)) : CI g yX10_least cX10_least 4 (some .int) 8 [rf g 0, .int x1, .int x2, .int x3] μ r0 μ0 := by
  refine mk_i (by decide) (Nat.le_of_ble_eq_true rfl) ?_
  intro G hX hR
  have hX : CX g G cX10_least RX10 4 8 := hX
  suffices S : ∀ K : (Int32 × Mem) → Prop, (∀ a, K a → a = (r0, μ0)) → Sim G (f_X10_least x1 x2 x3 μ) K 0 [(0, rf g 0), (1, .int x1), (2, .int x2), (3, .int x3)] [] μ from S (fun a => a = (r0, μ0)) (fun a h => h) _ hf rfl
  intro K hK
  unfold f_X10_least
  refine s_aload_n hX dX10_least_0 rfl 0 rfl ?_
  refine s_getR hX (d := 1) 1 flX10_10 rfl rfl dX10_least_1 ?_
  refine s_getR hX (d := 1) 2 flX10_146 rfl rfl dX10_least_4 ?_
  refine s_iload_n hX dX10_least_7 rfl 1 rfl ?_
  refine s_callVir hX [.int x1] (k := 2) (ci := 3) rfl hc3 vkX3_hasClouds (fun r hF => c_X3_hasClouds rfl hF) mkX3_hasClouds cvX10_178 rfl rfl ⟨by omega, by decide, Nat.le_of_ble_eq_true rfl⟩ dX10_least_8 (fun r1 => ?_)
  refine s_jn (C := fun j => Sim G (j) K 32 [(0, rf g 0)] [] μ) ?_ (fun j2 hj2 => ?_)
  · skip
    show Sim G _ _ 32 [(0, rf g 0)] [] μ
    refine s_aload_n hX dX10_least_32 rfl 0 rfl ?_
    refine s_bipush (v := (-10)) hX dX10_least_33 (by decide) ?_
    refine s_callViw hX [.int (-10)] (k := 0) (ci := 9) rfl hc9 vkX10_refuseAsBad (fun r ν hF => c_X10_refuseAsBad  hF) mkX10_refuseAsBad cvX10_181 rfl rfl ⟨by omega, by decide, Nat.le_of_ble_eq_true rfl⟩ dX10_least_35 (fun r3 ν4 => ?_)
    exact s_ireti hK hR dX10_least_38
  refine s_if_eq hX 32 dX10_least_11 (by decide) ?_ ?_
  · exact s_to hX [0] rfl (hj2)
  · refine s_iload_n hX dX10_least_14 rfl 2 rfl ?_
    refine s_if_lt hX 32 dX10_least_15 (by decide) ?_ ?_
    · exact s_to hX [0] rfl (hj2)
    · refine s_iload_n hX dX10_least_18 rfl 2 rfl ?_
      refine s_iconst (v := 2) hX dX10_least_19 (by decide) ?_
      refine s_icmp_gt hX 32 dX10_least_20 (by decide) ?_ ?_
      · exact s_to hX [0] rfl (hj2)
      · refine s_iload_n hX dX10_least_23 rfl 3 rfl ?_
        refine s_if_lt hX 32 dX10_least_24 (by decide) ?_ ?_
        · exact s_to hX [0] rfl (hj2)
        · refine s_iload_n hX dX10_least_27 rfl 3 rfl ?_
          refine s_iconst (v := 2) hX dX10_least_28 (by decide) ?_
          refine s_icmp_le hX 39 dX10_least_29 (by decide) ?_ ?_
          · refine s_aload_n hX dX10_least_39 rfl 0 rfl ?_
            refine s_getR hX (d := 72) 72 flX10_51 rfl rfl dX10_least_40 ?_
            refine s_aload_n hX dX10_least_43 rfl 0 rfl ?_
            refine s_getR hX (d := 1) 1 flX10_10 rfl rfl dX10_least_44 ?_
            refine s_getR hX (d := 1) 2 flX10_146 rfl rfl dX10_least_47 ?_
            refine s_iload_n hX dX10_least_50 rfl 1 rfl ?_
            refine s_iload_n hX dX10_least_51 rfl 2 rfl ?_
            refine s_callVvw hX [rf g 2, .int x1, .int x2] (k := 72) (ci := 4) rfl hc4 vkX5_search (fun ν hF => c_X5_search rfl hF) mkX5_search cvX10_190 rfl rfl ⟨by omega, by decide, Nat.le_of_ble_eq_true rfl⟩ dX10_least_52 (fun ν5 => ?_)
            refine s_iload_n hX dX10_least_55 rfl 3 rfl ?_
            refine s_if_ne hX 67 dX10_least_56 (by decide) ?_ ?_
            · refine s_iload_n hX dX10_least_67 rfl 3 rfl ?_
              refine s_iconst (v := 1) hX dX10_least_68 (by decide) ?_
              refine s_jn (C := fun j => ∀ (y6 : Int32), Sim G (j y6) K 89 [] [.int y6] ν5) ?_ (fun j7 hj7 => ?_)
              · intro y6
                show Sim G _ _ 89 [] [.int y6] ν5
                exact s_ireti hK hR dX10_least_89
              refine s_icmp_ne hX 82 dX10_least_69 (by decide) ?_ ?_
              · refine s_aload_n hX dX10_least_82 rfl 0 rfl ?_
                refine s_getR hX (d := 72) 72 flX10_51 rfl rfl dX10_least_83 ?_
                refine s_getI hX flX10_200 rfl dX10_least_86 ?_
                exact s_to hX [] rfl (hj7 (ν5.1 72 6))
              · refine s_aload_n hX dX10_least_72 rfl 0 rfl ?_
                refine s_getR hX (d := 72) 72 flX10_51 rfl rfl dX10_least_73 ?_
                refine s_getI hX flX10_197 rfl dX10_least_76 ?_
                refine s_goto hX 89 dX10_least_79 (by decide) ?_
                exact s_to hX [] rfl (hj7 (ν5.1 72 5))
            · refine s_aload_n hX dX10_least_59 rfl 0 rfl ?_
              refine s_getR hX (d := 72) 72 flX10_51 rfl rfl dX10_least_60 ?_
              refine s_getI hX flX10_194 rfl dX10_least_63 ?_
              exact s_ireti hK hR dX10_least_66
          · exact s_to hX [0] rfl (hj2)
theorem dX8_parseItem_0 : decode cX8_parseItem 0 = .ok (.aload_n 0, 1) := by decide +kernel
theorem dX8_parseItem_1 : decode cX8_parseItem 1 = .ok (.getfield 35, 3) := by decide +kernel
theorem dX8_parseItem_4 : decode cX8_parseItem 4 = .ok (.iconst 1, 1) := by decide +kernel
theorem dX8_parseItem_5 : decode cX8_parseItem 5 = .ok (.if_icmp .ne 27, 3) := by decide +kernel
theorem dX8_parseItem_8 : decode cX8_parseItem 8 = .ok (.aload_n 0, 1) := by decide +kernel
theorem dX8_parseItem_9 : decode cX8_parseItem 9 = .ok (.getfield 38, 3) := by decide +kernel
theorem dX8_parseItem_12 : decode cX8_parseItem 12 = .ok (.ifCond .ne 7, 3) := by decide +kernel
theorem dX8_parseItem_15 : decode cX8_parseItem 15 = .ok (.iconst 1, 1) := by decide +kernel
theorem dX8_parseItem_16 : decode cX8_parseItem 16 = .ok (.goto 4, 3) := by decide +kernel
theorem dX8_parseItem_19 : decode cX8_parseItem 19 = .ok (.iconst 0, 1) := by decide +kernel
theorem dX8_parseItem_20 : decode cX8_parseItem 20 = .ok (.iload_n 1, 1) := by decide +kernel
theorem dX8_parseItem_21 : decode cX8_parseItem 21 = .ok (.ifCond .ne 7, 3) := by decide +kernel
theorem dX8_parseItem_24 : decode cX8_parseItem 24 = .ok (.iconst 1, 1) := by decide +kernel
theorem dX8_parseItem_25 : decode cX8_parseItem 25 = .ok (.goto 4, 3) := by decide +kernel
theorem dX8_parseItem_28 : decode cX8_parseItem 28 = .ok (.iconst 0, 1) := by decide +kernel
theorem dX8_parseItem_29 : decode cX8_parseItem 29 = .ok (.if_icmp .eq 5, 3) := by decide +kernel
theorem dX8_parseItem_32 : decode cX8_parseItem 32 = .ok (.iconst 0, 1) := by decide +kernel
theorem dX8_parseItem_33 : decode cX8_parseItem 33 = .ok (.ireturn, 1) := by decide +kernel
theorem dX8_parseItem_34 : decode cX8_parseItem 34 = .ok (.aload_n 0, 1) := by decide +kernel
theorem dX8_parseItem_35 : decode cX8_parseItem 35 = .ok (.getfield 22, 3) := by decide +kernel
theorem dX8_parseItem_38 : decode cX8_parseItem 38 = .ok (.iload_n 1, 1) := by decide +kernel
theorem dX8_parseItem_39 : decode cX8_parseItem 39 = .ok (.aload_n 0, 1) := by decide +kernel
theorem dX8_parseItem_40 : decode cX8_parseItem 40 = .ok (.getfield 38, 3) := by decide +kernel
theorem dX8_parseItem_43 : decode cX8_parseItem 43 = .ok (.iastore, 1) := by decide +kernel
theorem dX8_parseItem_44 : decode cX8_parseItem 44 = .ok (.getstatic 48, 3) := by decide +kernel
theorem dX8_parseItem_47 : decode cX8_parseItem 47 = .ok (.aload_n 0, 1) := by decide +kernel
theorem dX8_parseItem_48 : decode cX8_parseItem 48 = .ok (.getfield 38, 3) := by decide +kernel
theorem dX8_parseItem_51 : decode cX8_parseItem 51 = .ok (.iaload, 1) := by decide +kernel
theorem dX8_parseItem_52 : decode cX8_parseItem 52 = .ok (.istore_n 2, 1) := by decide +kernel
theorem dX8_parseItem_53 : decode cX8_parseItem 53 = .ok (.aload_n 0, 1) := by decide +kernel
theorem dX8_parseItem_54 : decode cX8_parseItem 54 = .ok (.invokevirtual 41, 3) := by decide +kernel
theorem dX8_parseItem_57 : decode cX8_parseItem 57 = .ok (.iconst 0, 1) := by decide +kernel
theorem dX8_parseItem_58 : decode cX8_parseItem 58 = .ok (.istore_n 3, 1) := by decide +kernel
theorem dX8_parseItem_59 : decode cX8_parseItem 59 = .ok (.iload_n 3, 1) := by decide +kernel
theorem dX8_parseItem_60 : decode cX8_parseItem 60 = .ok (.iload_n 2, 1) := by decide +kernel
theorem dX8_parseItem_61 : decode cX8_parseItem 61 = .ok (.if_icmp .ge 37, 3) := by decide +kernel
theorem dX8_parseItem_64 : decode cX8_parseItem 64 = .ok (.aload_n 0, 1) := by decide +kernel
theorem dX8_parseItem_65 : decode cX8_parseItem 65 = .ok (.getfield 35, 3) := by decide +kernel
theorem dX8_parseItem_68 : decode cX8_parseItem 68 = .ok (.iconst 2, 1) := by decide +kernel
theorem dX8_parseItem_69 : decode cX8_parseItem 69 = .ok (.if_icmp .eq 5, 3) := by decide +kernel
theorem dX8_parseItem_72 : decode cX8_parseItem 72 = .ok (.iconst 0, 1) := by decide +kernel
theorem dX8_parseItem_73 : decode cX8_parseItem 73 = .ok (.ireturn, 1) := by decide +kernel
theorem dX8_parseItem_74 : decode cX8_parseItem 74 = .ok (.aload_n 0, 1) := by decide +kernel
theorem dX8_parseItem_75 : decode cX8_parseItem 75 = .ok (.getfield 26, 3) := by decide +kernel
theorem dX8_parseItem_78 : decode cX8_parseItem 78 = .ok (.iload_n 1, 1) := by decide +kernel
theorem dX8_parseItem_79 : decode cX8_parseItem 79 = .ok (.iconst 3, 1) := by decide +kernel
theorem dX8_parseItem_80 : decode cX8_parseItem 80 = .ok (.imul, 1) := by decide +kernel
theorem dX8_parseItem_81 : decode cX8_parseItem 81 = .ok (.iload_n 3, 1) := by decide +kernel
theorem dX8_parseItem_82 : decode cX8_parseItem 82 = .ok (.iadd, 1) := by decide +kernel
theorem dX8_parseItem_83 : decode cX8_parseItem 83 = .ok (.aload_n 0, 1) := by decide +kernel
theorem dX8_parseItem_84 : decode cX8_parseItem 84 = .ok (.getfield 38, 3) := by decide +kernel
theorem dX8_parseItem_87 : decode cX8_parseItem 87 = .ok (.iastore, 1) := by decide +kernel
theorem dX8_parseItem_88 : decode cX8_parseItem 88 = .ok (.aload_n 0, 1) := by decide +kernel
theorem dX8_parseItem_89 : decode cX8_parseItem 89 = .ok (.invokevirtual 41, 3) := by decide +kernel
theorem dX8_parseItem_92 : decode cX8_parseItem 92 = .ok (.iinc 3 1, 3) := by decide +kernel
theorem dX8_parseItem_95 : decode cX8_parseItem 95 = .ok (.goto (-36), 3) := by decide +kernel
theorem dX8_parseItem_98 : decode cX8_parseItem 98 = .ok (.aload_n 0, 1) := by decide +kernel
theorem dX8_parseItem_99 : decode cX8_parseItem 99 = .ok (.getfield 35, 3) := by decide +kernel
theorem dX8_parseItem_102 : decode cX8_parseItem 102 = .ok (.iconst 3, 1) := by decide +kernel
theorem dX8_parseItem_103 : decode cX8_parseItem 103 = .ok (.if_icmp .eq 5, 3) := by decide +kernel
theorem dX8_parseItem_106 : decode cX8_parseItem 106 = .ok (.iconst 0, 1) := by decide +kernel
theorem dX8_parseItem_107 : decode cX8_parseItem 107 = .ok (.ireturn, 1) := by decide +kernel
theorem dX8_parseItem_108 : decode cX8_parseItem 108 = .ok (.aload_n 0, 1) := by decide +kernel
theorem dX8_parseItem_109 : decode cX8_parseItem 109 = .ok (.invokevirtual 41, 3) := by decide +kernel
theorem dX8_parseItem_112 : decode cX8_parseItem 112 = .ok (.iconst 1, 1) := by decide +kernel
theorem dX8_parseItem_113 : decode cX8_parseItem 113 = .ok (.ireturn, 1) := by decide +kernel
noncomputable def f_X8_parseItem (x1 : Int32) (μ : Mem) : Option (Int32 × Mem) :=
  jn (
    some (0, μ)
    ) fun j1 =>
  if (μ.1 45 7) = 1 then
    jn (fun (y2 : Int32) =>
      jn (fun (y4 : Int32) =>
        if y2 = y4 then
          chk x1 30 (lt (setI μ 47 (ix x1) (μ.1 45 8)) fun ν6 =>
            chk (ν6.1 45 8) 6 (
              bd (f_X8_step  ν6) fun ν7 =>
              bdr (lp (ε := (Mem) ⊕ (Int32 × Mem)) (cu2 fun (x3_8 : Int32) (ν9 : Mem) =>
                if x3_8 < (NUMB (ix (ν6.1 45 8))) then
                  if (ν9.1 45 7) = 2 then
                    chk ((x1 * 3) + x3_8) 90 (lt (setI ν9 48 (ix ((x1 * 3) + x3_8)) (ν9.1 45 8)) fun ν12 =>
                      bd (f_X8_step  ν12) fun ν13 =>
                      some (.inl ((x3_8 + 1), ν13))
                      )
                  else
                    some (.inr (.inr (0, ν9)))
                else
                  some (.inr (.inl ν9))
                ) (0, ν7)) (fun (ν10 : Mem) =>
                if (ν10.1 45 7) = 3 then
                  bd (f_X8_step  ν10) fun ν14 =>
                  some (1, ν14)
                else
                  some (0, ν10)
                ) (fun r => some (r))
              )
            )
        else
          j1
        ) fun j5 =>
      if x1 = 0 then
        j5 1
      else
        j5 0
      ) fun j3 =>
    if (μ.1 45 8) = 0 then
      j3 1
    else
      j3 0
  else
    j1
set_option maxHeartbeats 4000000 in
set_option maxRecDepth 100000 in
theorem c_X8_parseItem {g : GT} {x1 : Int32} {μ : Mem} {μ0 : Mem} {r0 : Int32} (hf : f_X8_parseItem x1 μ = some (r0, μ0)) : CI g yX8_parseItem cX8_parseItem 4 (some .boolean) 8 [rf g 45, .int x1] μ r0 μ0 := by
  refine mk_z (by decide) (Nat.le_of_ble_eq_true rfl) ?_
  intro G hX hR
  have hX : CX g G cX8_parseItem RX8 4 8 := hX
  suffices S : ∀ K : (Int32 × Mem) → Prop, (∀ a, K a → a = (r0, μ0)) → Sim G (f_X8_parseItem x1 μ) K 0 [(0, rf g 45), (1, .int x1)] [] μ from S (fun a => a = (r0, μ0)) (fun a h => h) _ hf rfl
  intro K hK
  unfold f_X8_parseItem
  refine s_aload_n hX dX8_parseItem_0 rfl 0 rfl ?_
  refine s_getI hX flX8_35 rfl dX8_parseItem_1 ?_
  refine s_iconst (v := 1) hX dX8_parseItem_4 (by decide) ?_
  refine s_jn (C := fun j => Sim G (j) K 32 [] [] μ) ?_ (fun j1 hj1 => ?_)
  · skip
    show Sim G _ _ 32 [] [] μ
    refine s_iconst (v := 0) hX dX8_parseItem_32 (by decide) ?_
    exact s_zreti (by decide) hK hR dX8_parseItem_33
  refine s_icmp_ne hX 32 dX8_parseItem_5 (by decide) ?_ ?_
  · exact s_to hX [] rfl (hj1)
  · refine s_aload_n hX dX8_parseItem_8 rfl 0 rfl ?_
    refine s_getI hX flX8_38 rfl dX8_parseItem_9 ?_
    refine s_jn (C := fun j => ∀ (y2 : Int32), Sim G (j y2) K 20 [(0, rf g 45), (1, .int x1)] [.int y2] μ) ?_ (fun j3 hj3 => ?_)
    · intro y2
      show Sim G _ _ 20 [(0, rf g 45), (1, .int x1)] [.int y2] μ
      refine s_iload_n hX dX8_parseItem_20 rfl 1 rfl ?_
      refine s_jn (C := fun j => ∀ (y4 : Int32), Sim G (j y4) K 29 [(0, rf g 45), (1, .int x1)] [.int y4, .int y2] μ) ?_ (fun j5 hj5 => ?_)
      · intro y4
        show Sim G _ _ 29 [(0, rf g 45), (1, .int x1)] [.int y4, .int y2] μ
        refine s_icmp_eq hX 34 dX8_parseItem_29 (by decide) ?_ ?_
        · refine s_aload_n hX dX8_parseItem_34 rfl 0 rfl ?_
          refine s_getR hX (d := 2) 47 flX8_22 rfl rfl dX8_parseItem_35 ?_
          refine s_iload_n hX dX8_parseItem_38 rfl 1 rfl ?_
          refine s_aload_n hX dX8_parseItem_39 rfl 0 rfl ?_
          refine s_getI hX flX8_38 rfl dX8_parseItem_40 ?_
          refine s_iast hX rfl rfl dX8_parseItem_43 (fun ν6 => ?_)
          refine s_gets1 hX ksX8_48 dX8_parseItem_44 ?_
          refine s_aload_n hX dX8_parseItem_47 rfl 0 rfl ?_
          refine s_getI hX flX8_38 rfl dX8_parseItem_48 ?_
          refine s_tald1 hX dX8_parseItem_51 ?_
          refine s_istore_n (lv' := [(2, .int (NUMB (ix (ν6.1 45 8)))), (0, rf g 45), (1, .int x1)]) hX dX8_parseItem_52 rfl (by decide) rfl ?_
          refine s_aload_n hX dX8_parseItem_53 rfl 1 rfl ?_
          refine s_callVvw hX [] (k := 45) (ci := 7) rfl hc7 vkX8_step (fun ν hF => c_X8_step  hF) mkX8_step cvX8_41 rfl rfl ⟨by omega, by decide, Nat.le_of_ble_eq_true rfl⟩ dX8_parseItem_54 (fun ν7 => ?_)
          refine s_iconst (v := 0) hX dX8_parseItem_57 (by decide) ?_
          refine s_istore_n (lv' := [(3, .int 0), (2, .int (NUMB (ix (ν6.1 45 8)))), (0, rf g 45), (1, .int x1)]) hX dX8_parseItem_58 rfl (by decide) rfl ?_
          refine s_loopR hX 59 98 (fun s : Int32 × Mem => [(0, rf g 45), (1, .int x1), (2, .int (NUMB (ix (ν6.1 45 8)))), (3, .int s.1)]) (fun s : Int32 × Mem => s.2) (fun s : Mem => [(0, rf g 45)]) (fun s : Mem => s) [2, 3, 1, 0] rfl rfl rfl (fun r => r = (r0, μ0)) (fun r a h k => by cases h; exact hK _ k) ?_ ?_
          · intro Kq11 hIq11 hJq11 hKq11 sq
            obtain ⟨x3_8, ν9⟩ := sq
            refine s_cu2 ?_
            show Sim G _ _ 59 [(0, rf g 45), (1, .int x1), (2, .int (NUMB (ix (ν6.1 45 8)))), (3, .int x3_8)] [] ν9
            refine s_iload_n hX dX8_parseItem_59 rfl 3 rfl ?_
            refine s_iload_n hX dX8_parseItem_60 rfl 2 rfl ?_
            refine s_icmp_ge hX 98 dX8_parseItem_61 (by decide) ?_ ?_
            · exact s_end hX (hJq11 ν9) [0] rfl
            · refine s_aload_n hX dX8_parseItem_64 rfl 0 rfl ?_
              refine s_getI hX flX8_35 rfl dX8_parseItem_65 ?_
              refine s_iconst (v := 2) hX dX8_parseItem_68 (by decide) ?_
              refine s_icmp_eq hX 74 dX8_parseItem_69 (by decide) ?_ ?_
              · refine s_aload_n hX dX8_parseItem_74 rfl 0 rfl ?_
                refine s_getR hX (d := 3) 48 flX8_26 rfl rfl dX8_parseItem_75 ?_
                refine s_iload_n hX dX8_parseItem_78 rfl 1 rfl ?_
                refine s_iconst (v := 3) hX dX8_parseItem_79 (by decide) ?_
                refine s_imul hX dX8_parseItem_80 ?_
                refine s_iload_n hX dX8_parseItem_81 rfl 3 rfl ?_
                refine s_iadd hX dX8_parseItem_82 ?_
                refine s_aload_n hX dX8_parseItem_83 rfl 0 rfl ?_
                refine s_getI hX flX8_38 rfl dX8_parseItem_84 ?_
                refine s_iast hX rfl rfl dX8_parseItem_87 (fun ν12 => ?_)
                refine s_aload_n hX dX8_parseItem_88 rfl 0 rfl ?_
                refine s_callVvw hX [] (k := 45) (ci := 7) rfl hc7 vkX8_step (fun ν hF => c_X8_step  hF) mkX8_step cvX8_41 rfl rfl ⟨by omega, by decide, Nat.le_of_ble_eq_true rfl⟩ dX8_parseItem_89 (fun ν13 => ?_)
                refine s_iinc (v := (x3_8 + 1)) (lv' := [(3, .int (x3_8 + 1)), (0, rf g 45), (1, .int x1), (2, .int (NUMB (ix (ν6.1 45 8))))]) hX dX8_parseItem_92 3 rfl rfl (by decide) rfl ?_
                refine s_goto hX 59 dX8_parseItem_95 (by decide) ?_
                exact s_end hX (hIq11 ((x3_8 + 1), ν13)) [1, 2, 3, 0] rfl
              · refine s_iconst (v := 0) hX dX8_parseItem_72 (by decide) ?_
                exact s_zreti (by decide) hKq11 hR dX8_parseItem_73
          · intro sq
            obtain ⟨ν10, rfl⟩ : ∃ z, z = sq := ⟨_, rfl⟩
            show Sim G _ _ 98 [(0, rf g 45)] [] ν10
            refine s_aload_n hX dX8_parseItem_98 rfl 0 rfl ?_
            refine s_getI hX flX8_35 rfl dX8_parseItem_99 ?_
            refine s_iconst (v := 3) hX dX8_parseItem_102 (by decide) ?_
            refine s_icmp_eq hX 108 dX8_parseItem_103 (by decide) ?_ ?_
            · refine s_aload_n hX dX8_parseItem_108 rfl 0 rfl ?_
              refine s_callVvw hX [] (k := 45) (ci := 7) rfl hc7 vkX8_step (fun ν hF => c_X8_step  hF) mkX8_step cvX8_41 rfl rfl ⟨by omega, by decide, Nat.le_of_ble_eq_true rfl⟩ dX8_parseItem_109 (fun ν14 => ?_)
              refine s_iconst (v := 1) hX dX8_parseItem_112 (by decide) ?_
              exact s_zreti (by decide) hK hR dX8_parseItem_113
            · refine s_iconst (v := 0) hX dX8_parseItem_106 (by decide) ?_
              exact s_zreti (by decide) hK hR dX8_parseItem_107
        · exact s_to hX [] rfl (hj1)
      refine s_if_ne hX 28 dX8_parseItem_21 (by decide) ?_ ?_
      · refine s_iconst (v := 0) hX dX8_parseItem_28 (by decide) ?_
        exact s_to hX [0, 1] rfl (hj5 0)
      · refine s_iconst (v := 1) hX dX8_parseItem_24 (by decide) ?_
        refine s_goto hX 29 dX8_parseItem_25 (by decide) ?_
        exact s_to hX [0, 1] rfl (hj5 1)
    refine s_if_ne hX 19 dX8_parseItem_12 (by decide) ?_ ?_
    · refine s_iconst (v := 0) hX dX8_parseItem_19 (by decide) ?_
      exact s_to hX [0, 1] rfl (hj3 0)
    · refine s_iconst (v := 1) hX dX8_parseItem_15 (by decide) ?_
      refine s_goto hX 20 dX8_parseItem_16 (by decide) ?_
      exact s_to hX [0, 1] rfl (hj3 1)
theorem dX8_parse_0 : decode cX8_parse 0 = .ok (.aload_n 0, 1) := by decide +kernel
theorem dX8_parse_1 : decode cX8_parse 1 = .ok (.iconst 0, 1) := by decide +kernel
theorem dX8_parse_2 : decode cX8_parse 2 = .ok (.putfield 19, 3) := by decide +kernel
theorem dX8_parse_5 : decode cX8_parse 5 = .ok (.aload_n 0, 1) := by decide +kernel
theorem dX8_parse_6 : decode cX8_parse 6 = .ok (.iconst 0, 1) := by decide +kernel
theorem dX8_parse_7 : decode cX8_parse 7 = .ok (.putfield 32, 3) := by decide +kernel
theorem dX8_parse_10 : decode cX8_parse 10 = .ok (.aload_n 0, 1) := by decide +kernel
theorem dX8_parse_11 : decode cX8_parse 11 = .ok (.invokevirtual 41, 3) := by decide +kernel
theorem dX8_parse_14 : decode cX8_parse 14 = .ok (.iconst 0, 1) := by decide +kernel
theorem dX8_parse_15 : decode cX8_parse 15 = .ok (.istore_n 1, 1) := by decide +kernel
theorem dX8_parse_16 : decode cX8_parse 16 = .ok (.iload_n 1, 1) := by decide +kernel
theorem dX8_parse_17 : decode cX8_parse 17 = .ok (.bipush 30, 2) := by decide +kernel
theorem dX8_parse_19 : decode cX8_parse 19 = .ok (.if_icmp .ge 45, 3) := by decide +kernel
theorem dX8_parse_22 : decode cX8_parse 22 = .ok (.iload_n 1, 1) := by decide +kernel
theorem dX8_parse_23 : decode cX8_parse 23 = .ok (.ifCond .le 12, 3) := by decide +kernel
theorem dX8_parse_26 : decode cX8_parse 26 = .ok (.aload_n 0, 1) := by decide +kernel
theorem dX8_parse_27 : decode cX8_parse 27 = .ok (.getfield 35, 3) := by decide +kernel
theorem dX8_parse_30 : decode cX8_parse 30 = .ok (.ifCond .ne 5, 3) := by decide +kernel
theorem dX8_parse_33 : decode cX8_parse 33 = .ok (.iconst (-1), 1) := by decide +kernel
theorem dX8_parse_34 : decode cX8_parse 34 = .ok (.ireturn, 1) := by decide +kernel
theorem dX8_parse_35 : decode cX8_parse 35 = .ok (.aload_n 0, 1) := by decide +kernel
theorem dX8_parse_36 : decode cX8_parse 36 = .ok (.iload_n 1, 1) := by decide +kernel
theorem dX8_parse_37 : decode cX8_parse 37 = .ok (.invokevirtual 44, 3) := by decide +kernel
theorem dX8_parse_40 : decode cX8_parse 40 = .ok (.ifCond .ne 8, 3) := by decide +kernel
theorem dX8_parse_43 : decode cX8_parse 43 = .ok (.aload_n 0, 1) := by decide +kernel
theorem dX8_parse_44 : decode cX8_parse 44 = .ok (.getfield 29, 3) := by decide +kernel
theorem dX8_parse_47 : decode cX8_parse 47 = .ok (.ireturn, 1) := by decide +kernel
theorem dX8_parse_48 : decode cX8_parse 48 = .ok (.aload_n 0, 1) := by decide +kernel
theorem dX8_parse_49 : decode cX8_parse 49 = .ok (.dup, 1) := by decide +kernel
theorem dX8_parse_50 : decode cX8_parse 50 = .ok (.getfield 19, 3) := by decide +kernel
theorem dX8_parse_53 : decode cX8_parse 53 = .ok (.iconst 1, 1) := by decide +kernel
theorem dX8_parse_54 : decode cX8_parse 54 = .ok (.iadd, 1) := by decide +kernel
theorem dX8_parse_55 : decode cX8_parse 55 = .ok (.putfield 19, 3) := by decide +kernel
theorem dX8_parse_58 : decode cX8_parse 58 = .ok (.iinc 1 1, 3) := by decide +kernel
theorem dX8_parse_61 : decode cX8_parse 61 = .ok (.goto (-45), 3) := by decide +kernel
theorem dX8_parse_64 : decode cX8_parse 64 = .ok (.aload_n 0, 1) := by decide +kernel
theorem dX8_parse_65 : decode cX8_parse 65 = .ok (.getfield 29, 3) := by decide +kernel
theorem dX8_parse_68 : decode cX8_parse 68 = .ok (.ireturn, 1) := by decide +kernel
noncomputable def f_X8_parse  (μ : Mem) : Option (Int32 × Mem) :=
  lt (setI μ 45 2 0) fun ν1 =>
  lt (setI ν1 45 6 0) fun ν2 =>
  bd (f_X8_step  ν2) fun ν3 =>
  bdr (lp (ε := (Mem) ⊕ (Int32 × Mem)) (cu2 fun (x1_4 : Int32) (ν5 : Mem) =>
    if x1_4 < 30 then
      jn (
        bd2 (f_X8_parseItem x1_4 ν5) fun r9 ν10 =>
        if r9 = 0 then
          some (.inr (.inr ((ν10.1 45 5), ν10)))
        else
          lt (setI ν10 45 2 ((ν10.1 45 2) + 1)) fun ν11 =>
          some (.inl ((x1_4 + 1), ν11))
        ) fun j8 =>
      if 0 < x1_4 then
        if (ν5.1 45 7) = 0 then
          some (.inr (.inr ((-1), ν5)))
        else
          j8
      else
        j8
    else
      some (.inr (.inl ν5))
    ) (0, ν3)) (fun (ν6 : Mem) =>
    some ((ν6.1 45 5), ν6)
    ) (fun r => some (r))
set_option maxHeartbeats 4000000 in
set_option maxRecDepth 100000 in
theorem c_X8_parse {g : GT}  {μ : Mem} {μ0 : Mem} {r0 : Int32} (hf : f_X8_parse  μ = some (r0, μ0)) : CI g yX8_parse cX8_parse 2 (some .int) 9 [rf g 45] μ r0 μ0 := by
  refine mk_i (by decide) (Nat.le_of_ble_eq_true rfl) ?_
  intro G hX hR
  have hX : CX g G cX8_parse RX8 2 9 := hX
  suffices S : ∀ K : (Int32 × Mem) → Prop, (∀ a, K a → a = (r0, μ0)) → Sim G (f_X8_parse  μ) K 0 [(0, rf g 45)] [] μ from S (fun a => a = (r0, μ0)) (fun a h => h) _ hf rfl
  intro K hK
  unfold f_X8_parse
  refine s_aload_n hX dX8_parse_0 rfl 0 rfl ?_
  refine s_iconst (v := 0) hX dX8_parse_1 (by decide) ?_
  refine s_putI hX flX8_19 rfl ⟨rfl, rfl⟩ dX8_parse_2 (fun ν1 => ?_)
  refine s_aload_n hX dX8_parse_5 rfl 0 rfl ?_
  refine s_iconst (v := 0) hX dX8_parse_6 (by decide) ?_
  refine s_putI hX flX8_32 rfl ⟨rfl, rfl⟩ dX8_parse_7 (fun ν2 => ?_)
  refine s_aload_n hX dX8_parse_10 rfl 0 rfl ?_
  refine s_callVvw hX [] (k := 45) (ci := 7) rfl hc7 vkX8_step (fun ν hF => c_X8_step  hF) mkX8_step cvX8_41 rfl rfl ⟨by omega, by decide, Nat.le_of_ble_eq_true rfl⟩ dX8_parse_11 (fun ν3 => ?_)
  refine s_iconst (v := 0) hX dX8_parse_14 (by decide) ?_
  refine s_istore_n (lv' := [(1, .int 0), (0, rf g 45)]) hX dX8_parse_15 rfl (by decide) rfl ?_
  refine s_loopR hX 16 64 (fun s : Int32 × Mem => [(0, rf g 45), (1, .int s.1)]) (fun s : Int32 × Mem => s.2) (fun s : Mem => [(0, rf g 45)]) (fun s : Mem => s) [1, 0] rfl rfl rfl (fun r => r = (r0, μ0)) (fun r a h k => by cases h; exact hK _ k) ?_ ?_
  · intro Kq7 hIq7 hJq7 hKq7 sq
    obtain ⟨x1_4, ν5⟩ := sq
    refine s_cu2 ?_
    show Sim G _ _ 16 [(0, rf g 45), (1, .int x1_4)] [] ν5
    refine s_iload_n hX dX8_parse_16 rfl 1 rfl ?_
    refine s_bipush (v := 30) hX dX8_parse_17 (by decide) ?_
    refine s_icmp_ge hX 64 dX8_parse_19 (by decide) ?_ ?_
    · exact s_end hX (hJq7 ν5) [0] rfl
    · refine s_iload_n hX dX8_parse_22 rfl 1 rfl ?_
      refine s_jn (C := fun j => Sim G (j) Kq7 35 [(0, rf g 45), (1, .int x1_4)] [] ν5) ?_ (fun j8 hj8 => ?_)
      · skip
        show Sim G _ _ 35 [(0, rf g 45), (1, .int x1_4)] [] ν5
        refine s_aload_n hX dX8_parse_35 rfl 0 rfl ?_
        refine s_iload_n hX dX8_parse_36 rfl 1 rfl ?_
        refine s_callViw hX [.int x1_4] (k := 45) (ci := 7) rfl hc7 vkX8_parseItem (fun r ν hF => c_X8_parseItem  hF) mkX8_parseItem cvX8_44 rfl rfl ⟨by omega, by decide, Nat.le_of_ble_eq_true rfl⟩ dX8_parse_37 (fun r9 ν10 => ?_)
        refine s_if_ne hX 48 dX8_parse_40 (by decide) ?_ ?_
        · refine s_aload_n hX dX8_parse_48 rfl 0 rfl ?_
          refine s_dup hX dX8_parse_49 rfl ?_
          refine s_getI hX flX8_19 rfl dX8_parse_50 ?_
          refine s_iconst (v := 1) hX dX8_parse_53 (by decide) ?_
          refine s_iadd hX dX8_parse_54 ?_
          refine s_putI hX flX8_19 rfl ⟨rfl, rfl⟩ dX8_parse_55 (fun ν11 => ?_)
          refine s_iinc (v := (x1_4 + 1)) (lv' := [(1, .int (x1_4 + 1)), (0, rf g 45)]) hX dX8_parse_58 1 rfl rfl (by decide) rfl ?_
          refine s_goto hX 16 dX8_parse_61 (by decide) ?_
          exact s_end hX (hIq7 ((x1_4 + 1), ν11)) [1, 0] rfl
        · refine s_aload_n hX dX8_parse_43 rfl 0 rfl ?_
          refine s_getI hX flX8_29 rfl dX8_parse_44 ?_
          exact s_ireti hKq7 hR dX8_parse_47
      refine s_if_le hX 35 dX8_parse_23 (by decide) ?_ ?_
      · exact s_to hX [0, 1] rfl (hj8)
      · refine s_aload_n hX dX8_parse_26 rfl 0 rfl ?_
        refine s_getI hX flX8_35 rfl dX8_parse_27 ?_
        refine s_if_ne hX 35 dX8_parse_30 (by decide) ?_ ?_
        · exact s_to hX [0, 1] rfl (hj8)
        · refine s_iconst (v := (-1)) hX dX8_parse_33 (by decide) ?_
          exact s_ireti hKq7 hR dX8_parse_34
  · intro sq
    obtain ⟨ν6, rfl⟩ : ∃ z, z = sq := ⟨_, rfl⟩
    show Sim G _ _ 64 [(0, rf g 45)] [] ν6
    refine s_aload_n hX dX8_parse_64 rfl 0 rfl ?_
    refine s_getI hX flX8_29 rfl dX8_parse_65 ?_
    exact s_ireti hK hR dX8_parse_68
theorem dX10_read_0 : decode cX10_read 0 = .ok (.aload_n 0, 1) := by decide +kernel
theorem dX10_read_1 : decode cX10_read 1 = .ok (.getfield 27, 3) := by decide +kernel
theorem dX10_read_4 : decode cX10_read 4 = .ok (.invokevirtual 127, 3) := by decide +kernel
theorem dX10_read_7 : decode cX10_read 7 = .ok (.istore_n 1, 1) := by decide +kernel
theorem dX10_read_8 : decode cX10_read 8 = .ok (.iload_n 1, 1) := by decide +kernel
theorem dX10_read_9 : decode cX10_read 9 = .ok (.iconst (-1), 1) := by decide +kernel
theorem dX10_read_10 : decode cX10_read 10 = .ok (.if_icmp .eq 8, 3) := by decide +kernel
theorem dX10_read_13 : decode cX10_read 13 = .ok (.bipush (-10), 2) := by decide +kernel
theorem dX10_read_15 : decode cX10_read 15 = .ok (.iload_n 1, 1) := by decide +kernel
theorem dX10_read_16 : decode cX10_read 16 = .ok (.isub, 1) := by decide +kernel
theorem dX10_read_17 : decode cX10_read 17 = .ok (.ireturn, 1) := by decide +kernel
theorem dX10_read_18 : decode cX10_read 18 = .ok (.iconst 0, 1) := by decide +kernel
theorem dX10_read_19 : decode cX10_read 19 = .ok (.istore_n 2, 1) := by decide +kernel
theorem dX10_read_20 : decode cX10_read 20 = .ok (.iload_n 2, 1) := by decide +kernel
theorem dX10_read_21 : decode cX10_read 21 = .ok (.aload_n 0, 1) := by decide +kernel
theorem dX10_read_22 : decode cX10_read 22 = .ok (.getfield 27, 3) := by decide +kernel
theorem dX10_read_25 : decode cX10_read 25 = .ok (.getfield 130, 3) := by decide +kernel
theorem dX10_read_28 : decode cX10_read 28 = .ok (.if_icmp .ge 23, 3) := by decide +kernel
theorem dX10_read_31 : decode cX10_read 31 = .ok (.aload_n 0, 1) := by decide +kernel
theorem dX10_read_32 : decode cX10_read 32 = .ok (.iload_n 2, 1) := by decide +kernel
theorem dX10_read_33 : decode cX10_read 33 = .ok (.invokevirtual 133, 3) := by decide +kernel
theorem dX10_read_36 : decode cX10_read 36 = .ok (.ifCond .ge 9, 3) := by decide +kernel
theorem dX10_read_39 : decode cX10_read 39 = .ok (.sipush (-1000), 3) := by decide +kernel
theorem dX10_read_42 : decode cX10_read 42 = .ok (.iload_n 2, 1) := by decide +kernel
theorem dX10_read_43 : decode cX10_read 43 = .ok (.isub, 1) := by decide +kernel
theorem dX10_read_44 : decode cX10_read 44 = .ok (.ireturn, 1) := by decide +kernel
theorem dX10_read_45 : decode cX10_read 45 = .ok (.iinc 2 1, 3) := by decide +kernel
theorem dX10_read_48 : decode cX10_read 48 = .ok (.goto (-28), 3) := by decide +kernel
theorem dX10_read_51 : decode cX10_read 51 = .ok (.aload_n 0, 1) := by decide +kernel
theorem dX10_read_52 : decode cX10_read 52 = .ok (.getfield 10, 3) := by decide +kernel
theorem dX10_read_55 : decode cX10_read 55 = .ok (.aload_n 0, 1) := by decide +kernel
theorem dX10_read_56 : decode cX10_read 56 = .ok (.getfield 31, 3) := by decide +kernel
theorem dX10_read_59 : decode cX10_read 59 = .ok (.invokevirtual 136, 3) := by decide +kernel
theorem dX10_read_62 : decode cX10_read 62 = .ok (.aload_n 0, 1) := by decide +kernel
theorem dX10_read_63 : decode cX10_read 63 = .ok (.getfield 27, 3) := by decide +kernel
theorem dX10_read_66 : decode cX10_read 66 = .ok (.getfield 130, 3) := by decide +kernel
theorem dX10_read_69 : decode cX10_read 69 = .ok (.ireturn, 1) := by decide +kernel
noncomputable def f_X10_read  (μ : Mem) : Option (Int32 × Mem) :=
  bd2 (f_X8_parse  μ) fun r1 ν2 =>
  if r1 = (-1) then
    bdr (lp (ε := (Mem) ⊕ (Int32 × Mem)) (cu2 fun (x2_3 : Int32) (ν4 : Mem) =>
      if x2_3 < (ν4.1 45 2) then
        bd2 (f_X10_tellItem x2_3 ν4) fun r7 ν8 =>
        if r7 < 0 then
          some (.inr (.inr (((-1000) - x2_3), ν8)))
        else
          some (.inl ((x2_3 + 1), ν8))
      else
        some (.inr (.inl ν4))
      ) (0, ν2)) (fun (ν5 : Mem) =>
      bd (f_X0_become 1 49 ν5) fun ν9 =>
      some ((ν9.1 45 2), ν9)
      ) (fun r => some (r))
  else
    some (((-10) - r1), ν2)
set_option maxHeartbeats 4000000 in
set_option maxRecDepth 100000 in
theorem c_X10_read {g : GT}  {μ : Mem} {μ0 : Mem} {r0 : Int32} (hf : f_X10_read  μ = some (r0, μ0)) : CI g yX10_read cX10_read 3 (some .int) 10 [rf g 0] μ r0 μ0 := by
  refine mk_i (by decide) (Nat.le_of_ble_eq_true rfl) ?_
  intro G hX hR
  have hX : CX g G cX10_read RX10 3 10 := hX
  suffices S : ∀ K : (Int32 × Mem) → Prop, (∀ a, K a → a = (r0, μ0)) → Sim G (f_X10_read  μ) K 0 [(0, rf g 0)] [] μ from S (fun a => a = (r0, μ0)) (fun a h => h) _ hf rfl
  intro K hK
  unfold f_X10_read
  refine s_aload_n hX dX10_read_0 rfl 0 rfl ?_
  refine s_getR hX (d := 45) 45 flX10_27 rfl rfl dX10_read_1 ?_
  refine s_callViw hX [] (k := 45) (ci := 7) rfl hc7 vkX8_parse (fun r ν hF => c_X8_parse  hF) mkX8_parse cvX10_127 rfl rfl ⟨by omega, by decide, Nat.le_of_ble_eq_true rfl⟩ dX10_read_4 (fun r1 ν2 => ?_)
  refine s_istore_n (lv' := [(1, .int r1), (0, rf g 0)]) hX dX10_read_7 rfl (by decide) rfl ?_
  refine s_iload_n hX dX10_read_8 rfl 0 rfl ?_
  refine s_iconst (v := (-1)) hX dX10_read_9 (by decide) ?_
  refine s_icmp_eq hX 18 dX10_read_10 (by decide) ?_ ?_
  · refine s_iconst (v := 0) hX dX10_read_18 (by decide) ?_
    refine s_istore_n (lv' := [(2, .int 0), (1, .int r1), (0, rf g 0)]) hX dX10_read_19 rfl (by decide) rfl ?_
    refine s_loopR hX 20 51 (fun s : Int32 × Mem => [(0, rf g 0), (2, .int s.1)]) (fun s : Int32 × Mem => s.2) (fun s : Mem => [(0, rf g 0)]) (fun s : Mem => s) [2, 0] rfl rfl rfl (fun r => r = (r0, μ0)) (fun r a h k => by cases h; exact hK _ k) ?_ ?_
    · intro Kq6 hIq6 hJq6 hKq6 sq
      obtain ⟨x2_3, ν4⟩ := sq
      refine s_cu2 ?_
      show Sim G _ _ 20 [(0, rf g 0), (2, .int x2_3)] [] ν4
      refine s_iload_n hX dX10_read_20 rfl 1 rfl ?_
      refine s_aload_n hX dX10_read_21 rfl 0 rfl ?_
      refine s_getR hX (d := 45) 45 flX10_27 rfl rfl dX10_read_22 ?_
      refine s_getI hX flX10_130 rfl dX10_read_25 ?_
      refine s_icmp_ge hX 51 dX10_read_28 (by decide) ?_ ?_
      · exact s_end hX (hJq6 ν4) [0] rfl
      · refine s_aload_n hX dX10_read_31 rfl 0 rfl ?_
        refine s_iload_n hX dX10_read_32 rfl 1 rfl ?_
        refine s_callViw hX [.int x2_3] (k := 0) (ci := 9) rfl hc9 vkX10_tellItem (fun r ν hF => c_X10_tellItem  hF) mkX10_tellItem cvX10_133 rfl rfl ⟨by omega, by decide, Nat.le_of_ble_eq_true rfl⟩ dX10_read_33 (fun r7 ν8 => ?_)
        refine s_if_ge hX 45 dX10_read_36 (by decide) ?_ ?_
        · refine s_iinc (v := (x2_3 + 1)) (lv' := [(2, .int (x2_3 + 1)), (0, rf g 0)]) hX dX10_read_45 1 rfl rfl (by decide) rfl ?_
          refine s_goto hX 20 dX10_read_48 (by decide) ?_
          exact s_end hX (hIq6 ((x2_3 + 1), ν8)) [1, 0] rfl
        · refine s_sipush (v := (-1000)) hX dX10_read_39 (by decide) ?_
          refine s_iload_n hX dX10_read_42 rfl 1 rfl ?_
          refine s_isub hX dX10_read_43 ?_
          exact s_ireti hKq6 hR dX10_read_44
    · intro sq
      obtain ⟨ν5, rfl⟩ : ∃ z, z = sq := ⟨_, rfl⟩
      show Sim G _ _ 51 [(0, rf g 0)] [] ν5
      refine s_aload_n hX dX10_read_51 rfl 0 rfl ?_
      refine s_getR hX (d := 1) 1 flX10_10 rfl rfl dX10_read_52 ?_
      refine s_aload_n hX dX10_read_55 rfl 0 rfl ?_
      refine s_getR hX (d := 49) 49 flX10_31 rfl rfl dX10_read_56 ?_
      refine s_callVvw hX [rf g 49] (k := 1) (ci := 0) rfl hc0 vkX0_become (fun ν hF => c_X0_become rfl rfl hF) mkX0_become cvX10_136 rfl rfl ⟨by omega, by decide, Nat.le_of_ble_eq_true rfl⟩ dX10_read_59 (fun ν9 => ?_)
      refine s_aload_n hX dX10_read_62 rfl 0 rfl ?_
      refine s_getR hX (d := 45) 45 flX10_27 rfl rfl dX10_read_63 ?_
      refine s_getI hX flX10_130 rfl dX10_read_66 ?_
      exact s_ireti hK hR dX10_read_69
  · refine s_bipush (v := (-10)) hX dX10_read_13 (by decide) ?_
    refine s_iload_n hX dX10_read_15 rfl 0 rfl ?_
    refine s_isub hX dX10_read_16 ?_
    exact s_ireti hK hR dX10_read_17
theorem dX1_search_0 : decode cX1_search 0 = .ok (.aload_n 0, 1) := by decide +kernel
theorem dX1_search_1 : decode cX1_search 1 = .ok (.getfield 11, 3) := by decide +kernel
theorem dX1_search_4 : decode cX1_search 4 = .ok (.iconst 0, 1) := by decide +kernel
theorem dX1_search_5 : decode cX1_search 5 = .ok (.aaload, 1) := by decide +kernel
theorem dX1_search_6 : decode cX1_search 6 = .ok (.aload_n 1, 1) := by decide +kernel
theorem dX1_search_7 : decode cX1_search 7 = .ok (.getfield 30, 3) := by decide +kernel
theorem dX1_search_10 : decode cX1_search 10 = .ok (.invokevirtual 36, 3) := by decide +kernel
theorem dX1_search_13 : decode cX1_search 13 = .ok (.aload_n 0, 1) := by decide +kernel
theorem dX1_search_14 : decode cX1_search 14 = .ok (.iconst 0, 1) := by decide +kernel
theorem dX1_search_15 : decode cX1_search 15 = .ok (.iload_n 2, 1) := by decide +kernel
theorem dX1_search_16 : decode cX1_search 16 = .ok (.aload_n 1, 1) := by decide +kernel
theorem dX1_search_17 : decode cX1_search 17 = .ok (.getfield 40, 3) := by decide +kernel
theorem dX1_search_20 : decode cX1_search 20 = .ok (.invokevirtual 43, 3) := by decide +kernel
theorem dX1_search_23 : decode cX1_search 23 = .ok (.ireturn, 1) := by decide +kernel
noncomputable def f_X1_search (k1 : Nat) (x2 : Int32) (μ : Mem) : Option (Int32 × Mem) :=
  chk 0 4 (lt (82 + 1 + 5 * ix 0) fun q1 =>
    bd (f_X3_become q1 (k1 + 1) μ) fun ν2 =>
    bd2 (f_X1_rowsFrom 5 0 x2 (k1 + 13) ν2) fun r3 ν4 =>
    some (r3, ν4)
    )
set_option maxHeartbeats 4000000 in
set_option maxRecDepth 100000 in
theorem c_X1_search {g : GT} {k1 : Nat} {x2 : Int32} {μ : Mem} {μ0 : Mem} {r0 : Int32} (hk1 : tyOf k1 = 0) (hf : f_X1_search k1 x2 μ = some (r0, μ0)) : CI g yX1_search cX1_search 3 (some .int) 12 [rf g 81, rf g k1, .int x2] μ r0 μ0 := by
  refine mk_i (by decide) (Nat.le_of_ble_eq_true rfl) ?_
  intro G hX hR
  have hX : CX g G cX1_search RX1 3 12 := hX
  suffices S : ∀ K : (Int32 × Mem) → Prop, (∀ a, K a → a = (r0, μ0)) → Sim G (f_X1_search k1 x2 μ) K 0 [(0, rf g 81), (1, rf g k1), (2, .int x2)] [] μ from S (fun a => a = (r0, μ0)) (fun a h => h) _ hf rfl
  intro K hK
  unfold f_X1_search
  refine s_aload_n hX dX1_search_0 rfl 0 rfl ?_
  refine s_getR hX (d := 1) 82 flX1_11 rfl rfl dX1_search_1 ?_
  refine s_iconst (v := 0) hX dX1_search_4 (by decide) ?_
  refine s_aald16 (t := 3) (u := 0) hX rfl rfl (by decide) dX1_search_5 (fun q1 hq1 hq1n => ?_)
  refine s_aload_n hX dX1_search_6 rfl 1 rfl ?_
  refine s_getR hX (d := 1) (k1 + 1) flX1_30 hk1 rfl dX1_search_7 ?_
  refine s_callVvw hX [rf g (k1 + 1)] (k := q1) (ci := 3) hq1 hc3 vkX3_become (fun ν hF => c_X3_become hq1 (ty_0_1 hk1).1 hF) mkX3_become cvX1_36 rfl rfl ⟨by omega, by decide, Nat.le_of_ble_eq_true rfl⟩ dX1_search_10 (fun ν2 => ?_)
  refine s_aload_n hX dX1_search_13 rfl 0 rfl ?_
  refine s_iconst (v := 0) hX dX1_search_14 (by decide) ?_
  refine s_iload_n hX dX1_search_15 rfl 2 rfl ?_
  refine s_aload_n hX dX1_search_16 rfl 1 rfl ?_
  refine s_getR hX (d := 13) (k1 + 13) flX1_40 hk1 rfl dX1_search_17 ?_
  refine s_callViw hX [.int 0, .int x2, rf g (k1 + 13)] (k := 81) (ci := 1) rfl hc1 vkX1_rowsFrom (fun r ν hF => c_X1_rowsFrom (ty_0_13 hk1).1 (ty_0_13 hk1).2 hF) mkX1_rowsFrom cvX1_43 rfl rfl ⟨by omega, by decide, Nat.le_of_ble_eq_true rfl⟩ dX1_search_20 (fun r3 ν4 => ?_)
  exact s_ireti hK hR dX1_search_23
