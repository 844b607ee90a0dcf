theorem dX5_take_0 : decode cX5_take 0 = .ok (.lconst 0, 1) := by decide +kernel
theorem dX5_take_1 : decode cX5_take 1 = .ok (.lstore_n 1, 1) := by decide +kernel
theorem dX5_take_2 : decode cX5_take 2 = .ok (.iconst 0, 1) := by decide +kernel
theorem dX5_take_3 : decode cX5_take 3 = .ok (.istore_n 3, 1) := by decide +kernel
theorem dX5_take_4 : decode cX5_take 4 = .ok (.iload_n 3, 1) := by decide +kernel
theorem dX5_take_5 : decode cX5_take 5 = .ok (.aload_n 0, 1) := by decide +kernel
theorem dX5_take_6 : decode cX5_take 6 = .ok (.getfield 66, 3) := by decide +kernel
theorem dX5_take_9 : decode cX5_take 9 = .ok (.if_icmp .ge 138, 3) := by decide +kernel
theorem dX5_take_12 : decode cX5_take 12 = .ok (.lload_n 1, 1) := by decide +kernel
theorem dX5_take_13 : decode cX5_take 13 = .ok (.aload_n 0, 1) := by decide +kernel
theorem dX5_take_14 : decode cX5_take 14 = .ok (.getfield 16, 3) := by decide +kernel
theorem dX5_take_17 : decode cX5_take 17 = .ok (.iload_n 3, 1) := by decide +kernel
theorem dX5_take_18 : decode cX5_take 18 = .ok (.iaload, 1) := by decide +kernel
theorem dX5_take_19 : decode cX5_take 19 = .ok (.i2l, 1) := by decide +kernel
theorem dX5_take_20 : decode cX5_take 20 = .ok (.aload_n 0, 1) := by decide +kernel
theorem dX5_take_21 : decode cX5_take 21 = .ok (.getfield 57, 3) := by decide +kernel
theorem dX5_take_24 : decode cX5_take 24 = .ok (.iload_n 3, 1) := by decide +kernel
theorem dX5_take_25 : decode cX5_take 25 = .ok (.laload, 1) := by decide +kernel
theorem dX5_take_26 : decode cX5_take 26 = .ok (.lmul, 1) := by decide +kernel
theorem dX5_take_27 : decode cX5_take 27 = .ok (.ladd, 1) := by decide +kernel
theorem dX5_take_28 : decode cX5_take 28 = .ok (.lstore_n 1, 1) := by decide +kernel
theorem dX5_take_29 : decode cX5_take 29 = .ok (.iconst 0, 1) := by decide +kernel
theorem dX5_take_30 : decode cX5_take 30 = .ok (.istore 4, 2) := by decide +kernel
theorem dX5_take_32 : decode cX5_take 32 = .ok (.iload 4, 2) := by decide +kernel
theorem dX5_take_34 : decode cX5_take 34 = .ok (.iconst 2, 1) := by decide +kernel
theorem dX5_take_35 : decode cX5_take 35 = .ok (.if_icmp .ge 106, 3) := by decide +kernel
theorem dX5_take_38 : decode cX5_take 38 = .ok (.iconst 2, 1) := by decide +kernel
theorem dX5_take_39 : decode cX5_take 39 = .ok (.iload_n 3, 1) := by decide +kernel
theorem dX5_take_40 : decode cX5_take 40 = .ok (.imul, 1) := by decide +kernel
theorem dX5_take_41 : decode cX5_take 41 = .ok (.iload 4, 2) := by decide +kernel
theorem dX5_take_43 : decode cX5_take 43 = .ok (.iadd, 1) := by decide +kernel
theorem dX5_take_44 : decode cX5_take 44 = .ok (.istore 5, 2) := by decide +kernel
theorem dX5_take_46 : decode cX5_take 46 = .ok (.aload_n 0, 1) := by decide +kernel
theorem dX5_take_47 : decode cX5_take 47 = .ok (.getfield 100, 3) := by decide +kernel
theorem dX5_take_50 : decode cX5_take 50 = .ok (.ifCond .eq 33, 3) := by decide +kernel
theorem dX5_take_53 : decode cX5_take 53 = .ok (.aload_n 0, 1) := by decide +kernel
theorem dX5_take_54 : decode cX5_take 54 = .ok (.getfield 57, 3) := by decide +kernel
theorem dX5_take_57 : decode cX5_take 57 = .ok (.iload_n 3, 1) := by decide +kernel
theorem dX5_take_58 : decode cX5_take 58 = .ok (.laload, 1) := by decide +kernel
theorem dX5_take_59 : decode cX5_take 59 = .ok (.aload_n 0, 1) := by decide +kernel
theorem dX5_take_60 : decode cX5_take 60 = .ok (.getfield 74, 3) := by decide +kernel
theorem dX5_take_63 : decode cX5_take 63 = .ok (.aload_n 0, 1) := by decide +kernel
theorem dX5_take_64 : decode cX5_take 64 = .ok (.getfield 42, 3) := by decide +kernel
theorem dX5_take_67 : decode cX5_take 67 = .ok (.iload 5, 2) := by decide +kernel
theorem dX5_take_69 : decode cX5_take 69 = .ok (.laload, 1) := by decide +kernel
theorem dX5_take_70 : decode cX5_take 70 = .ok (.aload_n 0, 1) := by decide +kernel
theorem dX5_take_71 : decode cX5_take 71 = .ok (.getfield 45, 3) := by decide +kernel
theorem dX5_take_74 : decode cX5_take 74 = .ok (.iload 5, 2) := by decide +kernel
theorem dX5_take_76 : decode cX5_take 76 = .ok (.laload, 1) := by decide +kernel
theorem dX5_take_77 : decode cX5_take 77 = .ok (.invokestatic 104, 3) := by decide +kernel
theorem dX5_take_80 : decode cX5_take 80 = .ok (.goto 4, 3) := by decide +kernel
theorem dX5_take_83 : decode cX5_take 83 = .ok (.iconst 0, 1) := by decide +kernel
theorem dX5_take_84 : decode cX5_take 84 = .ok (.istore 6, 2) := by decide +kernel
theorem dX5_take_86 : decode cX5_take 86 = .ok (.aload_n 0, 1) := by decide +kernel
theorem dX5_take_87 : decode cX5_take 87 = .ok (.getfield 100, 3) := by decide +kernel
theorem dX5_take_90 : decode cX5_take 90 = .ok (.ifCond .eq 21, 3) := by decide +kernel
theorem dX5_take_93 : decode cX5_take 93 = .ok (.iload 4, 2) := by decide +kernel
theorem dX5_take_95 : decode cX5_take 95 = .ok (.ifCond .ne 11, 3) := by decide +kernel
theorem dX5_take_98 : decode cX5_take 98 = .ok (.iload 6, 2) := by decide +kernel
theorem dX5_take_100 : decode cX5_take 100 = .ok (.ifCond .ge 35, 3) := by decide +kernel
theorem dX5_take_103 : decode cX5_take 103 = .ok (.goto 8, 3) := by decide +kernel
theorem dX5_take_106 : decode cX5_take 106 = .ok (.iload 6, 2) := by decide +kernel
theorem dX5_take_108 : decode cX5_take 108 = .ok (.ifCond .le 27, 3) := by decide +kernel
theorem dX5_take_111 : decode cX5_take 111 = .ok (.aload_n 0, 1) := by decide +kernel
theorem dX5_take_112 : decode cX5_take 112 = .ok (.getfield 42, 3) := by decide +kernel
theorem dX5_take_115 : decode cX5_take 115 = .ok (.iload 5, 2) := by decide +kernel
theorem dX5_take_117 : decode cX5_take 117 = .ok (.aload_n 0, 1) := by decide +kernel
theorem dX5_take_118 : decode cX5_take 118 = .ok (.getfield 57, 3) := by decide +kernel
theorem dX5_take_121 : decode cX5_take 121 = .ok (.iload_n 3, 1) := by decide +kernel
theorem dX5_take_122 : decode cX5_take 122 = .ok (.laload, 1) := by decide +kernel
theorem dX5_take_123 : decode cX5_take 123 = .ok (.lastore, 1) := by decide +kernel
theorem dX5_take_124 : decode cX5_take 124 = .ok (.aload_n 0, 1) := by decide +kernel
theorem dX5_take_125 : decode cX5_take 125 = .ok (.getfield 45, 3) := by decide +kernel
theorem dX5_take_128 : decode cX5_take 128 = .ok (.iload 5, 2) := by decide +kernel
theorem dX5_take_130 : decode cX5_take 130 = .ok (.aload_n 0, 1) := by decide +kernel
theorem dX5_take_131 : decode cX5_take 131 = .ok (.getfield 74, 3) := by decide +kernel
theorem dX5_take_134 : decode cX5_take 134 = .ok (.lastore, 1) := by decide +kernel
theorem dX5_take_135 : decode cX5_take 135 = .ok (.iinc 4 1, 3) := by decide +kernel
theorem dX5_take_138 : decode cX5_take 138 = .ok (.goto (-106), 3) := by decide +kernel
theorem dX5_take_141 : decode cX5_take 141 = .ok (.iinc 3 1, 3) := by decide +kernel
theorem dX5_take_144 : decode cX5_take 144 = .ok (.goto (-140), 3) := by decide +kernel
theorem dX5_take_147 : decode cX5_take 147 = .ok (.aload_n 0, 1) := by decide +kernel
theorem dX5_take_148 : decode cX5_take 148 = .ok (.getfield 100, 3) := by decide +kernel
theorem dX5_take_151 : decode cX5_take 151 = .ok (.ifCond .eq 22, 3) := by decide +kernel
theorem dX5_take_154 : decode cX5_take 154 = .ok (.lload_n 1, 1) := by decide +kernel
theorem dX5_take_155 : decode cX5_take 155 = .ok (.aload_n 0, 1) := by decide +kernel
theorem dX5_take_156 : decode cX5_take 156 = .ok (.getfield 74, 3) := by decide +kernel
theorem dX5_take_159 : decode cX5_take 159 = .ok (.aload_n 0, 1) := by decide +kernel
theorem dX5_take_160 : decode cX5_take 160 = .ok (.getfield 108, 3) := by decide +kernel
theorem dX5_take_163 : decode cX5_take 163 = .ok (.aload_n 0, 1) := by decide +kernel
theorem dX5_take_164 : decode cX5_take 164 = .ok (.getfield 111, 3) := by decide +kernel
theorem dX5_take_167 : decode cX5_take 167 = .ok (.invokestatic 104, 3) := by decide +kernel
theorem dX5_take_170 : decode cX5_take 170 = .ok (.goto 4, 3) := by decide +kernel
theorem dX5_take_173 : decode cX5_take 173 = .ok (.iconst (-1), 1) := by decide +kernel
theorem dX5_take_174 : decode cX5_take 174 = .ok (.istore_n 3, 1) := by decide +kernel
theorem dX5_take_175 : decode cX5_take 175 = .ok (.aload_n 0, 1) := by decide +kernel
theorem dX5_take_176 : decode cX5_take 176 = .ok (.iconst 1, 1) := by decide +kernel
theorem dX5_take_177 : decode cX5_take 177 = .ok (.putfield 100, 3) := by decide +kernel
theorem dX5_take_180 : decode cX5_take 180 = .ok (.iload_n 3, 1) := by decide +kernel
theorem dX5_take_181 : decode cX5_take 181 = .ok (.ifCond .le 4, 3) := by decide +kernel
theorem dX5_take_184 : decode cX5_take 184 = .ok (.return_, 1) := by decide +kernel
theorem dX5_take_185 : decode cX5_take 185 = .ok (.iconst 0, 1) := by decide +kernel
theorem dX5_take_186 : decode cX5_take 186 = .ok (.istore 4, 2) := by decide +kernel
theorem dX5_take_188 : decode cX5_take 188 = .ok (.iload 4, 2) := by decide +kernel
theorem dX5_take_190 : decode cX5_take 190 = .ok (.aload_n 0, 1) := by decide +kernel
theorem dX5_take_191 : decode cX5_take 191 = .ok (.getfield 66, 3) := by decide +kernel
theorem dX5_take_194 : decode cX5_take 194 = .ok (.if_icmp .ge 118, 3) := by decide +kernel
theorem dX5_take_197 : decode cX5_take 197 = .ok (.iconst 0, 1) := by decide +kernel
theorem dX5_take_198 : decode cX5_take 198 = .ok (.istore 5, 2) := by decide +kernel
theorem dX5_take_200 : decode cX5_take 200 = .ok (.iload 5, 2) := by decide +kernel
theorem dX5_take_202 : decode cX5_take 202 = .ok (.iconst 2, 1) := by decide +kernel
theorem dX5_take_203 : decode cX5_take 203 = .ok (.if_icmp .ge 103, 3) := by decide +kernel
theorem dX5_take_206 : decode cX5_take 206 = .ok (.iconst 2, 1) := by decide +kernel
theorem dX5_take_207 : decode cX5_take 207 = .ok (.iload 4, 2) := by decide +kernel
theorem dX5_take_209 : decode cX5_take 209 = .ok (.imul, 1) := by decide +kernel
theorem dX5_take_210 : decode cX5_take 210 = .ok (.iload 5, 2) := by decide +kernel
theorem dX5_take_212 : decode cX5_take 212 = .ok (.iadd, 1) := by decide +kernel
theorem dX5_take_213 : decode cX5_take 213 = .ok (.istore 6, 2) := by decide +kernel
theorem dX5_take_215 : decode cX5_take 215 = .ok (.iload_n 3, 1) := by decide +kernel
theorem dX5_take_216 : decode cX5_take 216 = .ok (.ifCond .ge 7, 3) := by decide +kernel
theorem dX5_take_219 : decode cX5_take 219 = .ok (.iconst 0, 1) := by decide +kernel
theorem dX5_take_220 : decode cX5_take 220 = .ok (.goto 31, 3) := by decide +kernel
theorem dX5_take_223 : decode cX5_take 223 = .ok (.aload_n 0, 1) := by decide +kernel
theorem dX5_take_224 : decode cX5_take 224 = .ok (.getfield 57, 3) := by decide +kernel
theorem dX5_take_227 : decode cX5_take 227 = .ok (.iload 4, 2) := by decide +kernel
theorem dX5_take_229 : decode cX5_take 229 = .ok (.laload, 1) := by decide +kernel
theorem dX5_take_230 : decode cX5_take 230 = .ok (.aload_n 0, 1) := by decide +kernel
theorem dX5_take_231 : decode cX5_take 231 = .ok (.getfield 74, 3) := by decide +kernel
theorem dX5_take_234 : decode cX5_take 234 = .ok (.aload_n 0, 1) := by decide +kernel
theorem dX5_take_235 : decode cX5_take 235 = .ok (.getfield 36, 3) := by decide +kernel
theorem dX5_take_238 : decode cX5_take 238 = .ok (.iload 6, 2) := by decide +kernel
theorem dX5_take_240 : decode cX5_take 240 = .ok (.laload, 1) := by decide +kernel
theorem dX5_take_241 : decode cX5_take 241 = .ok (.aload_n 0, 1) := by decide +kernel
theorem dX5_take_242 : decode cX5_take 242 = .ok (.getfield 39, 3) := by decide +kernel
theorem dX5_take_245 : decode cX5_take 245 = .ok (.iload 6, 2) := by decide +kernel
theorem dX5_take_247 : decode cX5_take 247 = .ok (.laload, 1) := by decide +kernel
theorem dX5_take_248 : decode cX5_take 248 = .ok (.invokestatic 104, 3) := by decide +kernel
theorem dX5_take_251 : decode cX5_take 251 = .ok (.istore 7, 2) := by decide +kernel
theorem dX5_take_253 : decode cX5_take 253 = .ok (.iload_n 3, 1) := by decide +kernel
theorem dX5_take_254 : decode cX5_take 254 = .ok (.ifCond .lt 21, 3) := by decide +kernel
theorem dX5_take_257 : decode cX5_take 257 = .ok (.iload 5, 2) := by decide +kernel
theorem dX5_take_259 : decode cX5_take 259 = .ok (.ifCond .ne 11, 3) := by decide +kernel
theorem dX5_take_262 : decode cX5_take 262 = .ok (.iload 7, 2) := by decide +kernel
theorem dX5_take_264 : decode cX5_take 264 = .ok (.ifCond .ge 36, 3) := by decide +kernel
theorem dX5_take_267 : decode cX5_take 267 = .ok (.goto 8, 3) := by decide +kernel
theorem dX5_take_270 : decode cX5_take 270 = .ok (.iload 7, 2) := by decide +kernel
theorem dX5_take_272 : decode cX5_take 272 = .ok (.ifCond .le 28, 3) := by decide +kernel
theorem dX5_take_275 : decode cX5_take 275 = .ok (.aload_n 0, 1) := by decide +kernel
theorem dX5_take_276 : decode cX5_take 276 = .ok (.getfield 36, 3) := by decide +kernel
theorem dX5_take_279 : decode cX5_take 279 = .ok (.iload 6, 2) := by decide +kernel
theorem dX5_take_281 : decode cX5_take 281 = .ok (.aload_n 0, 1) := by decide +kernel
theorem dX5_take_282 : decode cX5_take 282 = .ok (.getfield 57, 3) := by decide +kernel
theorem dX5_take_285 : decode cX5_take 285 = .ok (.iload 4, 2) := by decide +kernel
theorem dX5_take_287 : decode cX5_take 287 = .ok (.laload, 1) := by decide +kernel
theorem dX5_take_288 : decode cX5_take 288 = .ok (.lastore, 1) := by decide +kernel
theorem dX5_take_289 : decode cX5_take 289 = .ok (.aload_n 0, 1) := by decide +kernel
theorem dX5_take_290 : decode cX5_take 290 = .ok (.getfield 39, 3) := by decide +kernel
theorem dX5_take_293 : decode cX5_take 293 = .ok (.iload 6, 2) := by decide +kernel
theorem dX5_take_295 : decode cX5_take 295 = .ok (.aload_n 0, 1) := by decide +kernel
theorem dX5_take_296 : decode cX5_take 296 = .ok (.getfield 74, 3) := by decide +kernel
theorem dX5_take_299 : decode cX5_take 299 = .ok (.lastore, 1) := by decide +kernel
theorem dX5_take_300 : decode cX5_take 300 = .ok (.iinc 5 1, 3) := by decide +kernel
theorem dX5_take_303 : decode cX5_take 303 = .ok (.goto (-103), 3) := by decide +kernel
theorem dX5_take_306 : decode cX5_take 306 = .ok (.iinc 4 1, 3) := by decide +kernel
theorem dX5_take_309 : decode cX5_take 309 = .ok (.goto (-121), 3) := by decide +kernel
theorem dX5_take_312 : decode cX5_take 312 = .ok (.iload_n 3, 1) := by decide +kernel
theorem dX5_take_313 : decode cX5_take 313 = .ok (.ifCond .ge 7, 3) := by decide +kernel
theorem dX5_take_316 : decode cX5_take 316 = .ok (.iconst (-1), 1) := by decide +kernel
theorem dX5_take_317 : decode cX5_take 317 = .ok (.goto 4, 3) := by decide +kernel
theorem dX5_take_320 : decode cX5_take 320 = .ok (.iconst 0, 1) := by decide +kernel
theorem dX5_take_321 : decode cX5_take 321 = .ok (.istore 4, 2) := by decide +kernel
theorem dX5_take_323 : decode cX5_take 323 = .ok (.iconst 0, 1) := by decide +kernel
theorem dX5_take_324 : decode cX5_take 324 = .ok (.istore 5, 2) := by decide +kernel
theorem dX5_take_326 : decode cX5_take 326 = .ok (.iload 5, 2) := by decide +kernel
theorem dX5_take_328 : decode cX5_take 328 = .ok (.aload_n 0, 1) := by decide +kernel
theorem dX5_take_329 : decode cX5_take 329 = .ok (.getfield 66, 3) := by decide +kernel
theorem dX5_take_332 : decode cX5_take 332 = .ok (.if_icmp .ge 41, 3) := by decide +kernel
theorem dX5_take_335 : decode cX5_take 335 = .ok (.iload 4, 2) := by decide +kernel
theorem dX5_take_337 : decode cX5_take 337 = .ok (.ifCond .ne 36, 3) := by decide +kernel
theorem dX5_take_340 : decode cX5_take 340 = .ok (.aload_n 0, 1) := by decide +kernel
theorem dX5_take_341 : decode cX5_take 341 = .ok (.getfield 57, 3) := by decide +kernel
theorem dX5_take_344 : decode cX5_take 344 = .ok (.iload 5, 2) := by decide +kernel
theorem dX5_take_346 : decode cX5_take 346 = .ok (.laload, 1) := by decide +kernel
theorem dX5_take_347 : decode cX5_take 347 = .ok (.aload_n 0, 1) := by decide +kernel
theorem dX5_take_348 : decode cX5_take 348 = .ok (.getfield 74, 3) := by decide +kernel
theorem dX5_take_351 : decode cX5_take 351 = .ok (.aload_n 0, 1) := by decide +kernel
theorem dX5_take_352 : decode cX5_take 352 = .ok (.getfield 32, 3) := by decide +kernel
theorem dX5_take_355 : decode cX5_take 355 = .ok (.iload 5, 2) := by decide +kernel
theorem dX5_take_357 : decode cX5_take 357 = .ok (.laload, 1) := by decide +kernel
theorem dX5_take_358 : decode cX5_take 358 = .ok (.aload_n 0, 1) := by decide +kernel
theorem dX5_take_359 : decode cX5_take 359 = .ok (.getfield 114, 3) := by decide +kernel
theorem dX5_take_362 : decode cX5_take 362 = .ok (.invokestatic 104, 3) := by decide +kernel
theorem dX5_take_365 : decode cX5_take 365 = .ok (.istore 4, 2) := by decide +kernel
theorem dX5_take_367 : decode cX5_take 367 = .ok (.iinc 5 1, 3) := by decide +kernel
theorem dX5_take_370 : decode cX5_take 370 = .ok (.goto (-44), 3) := by decide +kernel
theorem dX5_take_373 : decode cX5_take 373 = .ok (.iload 4, 2) := by decide +kernel
theorem dX5_take_375 : decode cX5_take 375 = .ok (.ifCond .ge 43, 3) := by decide +kernel
theorem dX5_take_378 : decode cX5_take 378 = .ok (.iconst 0, 1) := by decide +kernel
theorem dX5_take_379 : decode cX5_take 379 = .ok (.istore 5, 2) := by decide +kernel
theorem dX5_take_381 : decode cX5_take 381 = .ok (.iload 5, 2) := by decide +kernel
theorem dX5_take_383 : decode cX5_take 383 = .ok (.aload_n 0, 1) := by decide +kernel
theorem dX5_take_384 : decode cX5_take 384 = .ok (.getfield 66, 3) := by decide +kernel
theorem dX5_take_387 : decode cX5_take 387 = .ok (.if_icmp .ge 23, 3) := by decide +kernel
theorem dX5_take_390 : decode cX5_take 390 = .ok (.aload_n 0, 1) := by decide +kernel
theorem dX5_take_391 : decode cX5_take 391 = .ok (.getfield 32, 3) := by decide +kernel
theorem dX5_take_394 : decode cX5_take 394 = .ok (.iload 5, 2) := by decide +kernel
theorem dX5_take_396 : decode cX5_take 396 = .ok (.aload_n 0, 1) := by decide +kernel
theorem dX5_take_397 : decode cX5_take 397 = .ok (.getfield 57, 3) := by decide +kernel
theorem dX5_take_400 : decode cX5_take 400 = .ok (.iload 5, 2) := by decide +kernel
theorem dX5_take_402 : decode cX5_take 402 = .ok (.laload, 1) := by decide +kernel
theorem dX5_take_403 : decode cX5_take 403 = .ok (.lastore, 1) := by decide +kernel
theorem dX5_take_404 : decode cX5_take 404 = .ok (.iinc 5 1, 3) := by decide +kernel
theorem dX5_take_407 : decode cX5_take 407 = .ok (.goto (-26), 3) := by decide +kernel
theorem dX5_take_410 : decode cX5_take 410 = .ok (.aload_n 0, 1) := by decide +kernel
theorem dX5_take_411 : decode cX5_take 411 = .ok (.aload_n 0, 1) := by decide +kernel
theorem dX5_take_412 : decode cX5_take 412 = .ok (.getfield 74, 3) := by decide +kernel
theorem dX5_take_415 : decode cX5_take 415 = .ok (.putfield 114, 3) := by decide +kernel
theorem dX5_take_418 : decode cX5_take 418 = .ok (.aload_n 0, 1) := by decide +kernel
theorem dX5_take_419 : decode cX5_take 419 = .ok (.lload_n 1, 1) := by decide +kernel
theorem dX5_take_420 : decode cX5_take 420 = .ok (.putfield 108, 3) := by decide +kernel
theorem dX5_take_423 : decode cX5_take 423 = .ok (.aload_n 0, 1) := by decide +kernel
theorem dX5_take_424 : decode cX5_take 424 = .ok (.aload_n 0, 1) := by decide +kernel
theorem dX5_take_425 : decode cX5_take 425 = .ok (.getfield 74, 3) := by decide +kernel
theorem dX5_take_428 : decode cX5_take 428 = .ok (.putfield 111, 3) := by decide +kernel
theorem dX5_take_431 : decode cX5_take 431 = .ok (.return_, 1) := by decide +kernel
theorem dX5_all_0 : decode cX5_all 0 = .ok (.iconst 0, 1) := by decide +kernel
theorem dX5_all_1 : decode cX5_all 1 = .ok (.istore_n 1, 1) := by decide +kernel
theorem dX5_all_2 : decode cX5_all 2 = .ok (.iconst 0, 1) := by decide +kernel
theorem dX5_all_3 : decode cX5_all 3 = .ok (.istore_n 2, 1) := by decide +kernel
theorem dX5_all_4 : decode cX5_all 4 = .ok (.iload_n 2, 1) := by decide +kernel
theorem dX5_all_5 : decode cX5_all 5 = .ok (.aload_n 0, 1) := by decide +kernel
theorem dX5_all_6 : decode cX5_all 6 = .ok (.getfield 78, 3) := by decide +kernel
theorem dX5_all_9 : decode cX5_all 9 = .ok (.if_icmp .ge 28, 3) := by decide +kernel
theorem dX5_all_12 : decode cX5_all 12 = .ok (.iload_n 1, 1) := by decide +kernel
theorem dX5_all_13 : decode cX5_all 13 = .ok (.aload_n 0, 1) := by decide +kernel
theorem dX5_all_14 : decode cX5_all 14 = .ok (.getfield 28, 3) := by decide +kernel
theorem dX5_all_17 : decode cX5_all 17 = .ok (.iload_n 2, 1) := by decide +kernel
theorem dX5_all_18 : decode cX5_all 18 = .ok (.baload, 1) := by decide +kernel
theorem dX5_all_19 : decode cX5_all 19 = .ok (.ifCond .eq 9, 3) := by decide +kernel
theorem dX5_all_22 : decode cX5_all 22 = .ok (.iconst 1, 1) := by decide +kernel
theorem dX5_all_23 : decode cX5_all 23 = .ok (.iload_n 2, 1) := by decide +kernel
theorem dX5_all_24 : decode cX5_all 24 = .ok (.ishl, 1) := by decide +kernel
theorem dX5_all_25 : decode cX5_all 25 = .ok (.goto 4, 3) := by decide +kernel
theorem dX5_all_28 : decode cX5_all 28 = .ok (.iconst 0, 1) := by decide +kernel
theorem dX5_all_29 : decode cX5_all 29 = .ok (.ior, 1) := by decide +kernel
theorem dX5_all_30 : decode cX5_all 30 = .ok (.istore_n 1, 1) := by decide +kernel
theorem dX5_all_31 : decode cX5_all 31 = .ok (.iinc 2 1, 3) := by decide +kernel
theorem dX5_all_34 : decode cX5_all 34 = .ok (.goto (-30), 3) := by decide +kernel
theorem dX5_all_37 : decode cX5_all 37 = .ok (.iload_n 1, 1) := by decide +kernel
theorem dX5_all_38 : decode cX5_all 38 = .ok (.ireturn, 1) := by decide +kernel
set_option maxRecDepth 20000 in
theorem ggX5_know_X5_all : GoodIn wsX5_know wsX5_all := goodIn_r _ [9, 10, 11, 62, 63, 64, 65, 66, 67, 68, 69, 70, 71, 72, 73, 74, 75, 76, 77, 78, 79, 80, 81, 82, 83, 84, 85, 86, 87, 88, 89] rfl (by decide +kernel)
set_option maxRecDepth 20000 in
theorem gX5_know_X5_all : GoodIn wsX5_know (wsV RX5 120 RX5 yX5_all wsX5_all) := goodIn_app (goodIn_of _ (by decide +kernel)) ggX5_know_X5_all
set_option maxRecDepth 20000 in
theorem ggX5_know_X5_corners : GoodIn wsX5_know wsX5_corners := goodIn_r _ [15, 16, 17, 18, 19, 20, 21, 8, 22, 23, 24, 25, 10, 26, 27, 28, 29, 30, 31, 32, 33, 2, 34, 35, 36, 37, 38, 39, 40, 41, 42, 43, 44, 45, 46, 47, 48, 49, 50, 51, 52, 53, 54, 55, 56, 57, 58, 59, 60, 61, 62, 63, 64, 65, 66, 67, 68, 69, 70, 71, 72, 73, 74, 75, 76, 77, 78, 79, 80, 81, 82, 83, 84, 85, 86, 87, 88, 89] rfl (by decide +kernel)
set_option maxRecDepth 20000 in
theorem gX5_know_X5_corners : GoodIn wsX5_know (wsV RX5 124 RX5 yX5_corners wsX5_corners) := goodIn_app (goodIn_of _ (by decide +kernel)) ggX5_know_X5_corners
theorem dX5_know_0 : decode cX5_know 0 = .ok (.aload_n 0, 1) := by decide +kernel
theorem dX5_know_1 : decode cX5_know 1 = .ok (.getfield 117, 3) := by decide +kernel
theorem dX5_know_4 : decode cX5_know 4 = .ok (.ifCond .eq 4, 3) := by decide +kernel
theorem dX5_know_7 : decode cX5_know 7 = .ok (.return_, 1) := by decide +kernel
theorem dX5_know_8 : decode cX5_know 8 = .ok (.aload_n 0, 1) := by decide +kernel
theorem dX5_know_9 : decode cX5_know 9 = .ok (.iconst 1, 1) := by decide +kernel
theorem dX5_know_10 : decode cX5_know 10 = .ok (.putfield 117, 3) := by decide +kernel
theorem dX5_know_13 : decode cX5_know 13 = .ok (.aload_n 0, 1) := by decide +kernel
theorem dX5_know_14 : decode cX5_know 14 = .ok (.iconst 0, 1) := by decide +kernel
theorem dX5_know_15 : decode cX5_know 15 = .ok (.putfield 100, 3) := by decide +kernel
theorem dX5_know_18 : decode cX5_know 18 = .ok (.aload_n 0, 1) := by decide +kernel
theorem dX5_know_19 : decode cX5_know 19 = .ok (.aload_n 0, 1) := by decide +kernel
theorem dX5_know_20 : decode cX5_know 20 = .ok (.aload_n 0, 1) := by decide +kernel
theorem dX5_know_21 : decode cX5_know 21 = .ok (.invokevirtual 120, 3) := by decide +kernel
theorem dX5_know_24 : decode cX5_know 24 = .ok (.iconst 1, 1) := by decide +kernel
theorem dX5_know_25 : decode cX5_know 25 = .ok (.invokevirtual 124, 3) := by decide +kernel
theorem dX5_know_28 : decode cX5_know 28 = .ok (.putfield 128, 3) := by decide +kernel
theorem dX5_know_31 : decode cX5_know 31 = .ok (.aload_n 0, 1) := by decide +kernel
theorem dX5_know_32 : decode cX5_know 32 = .ok (.invokevirtual 120, 3) := by decide +kernel
theorem dX5_know_35 : decode cX5_know 35 = .ok (.istore_n 1, 1) := by decide +kernel
theorem dX5_know_36 : decode cX5_know 36 = .ok (.bipush 7, 2) := by decide +kernel
theorem dX5_know_38 : decode cX5_know 38 = .ok (.istore_n 2, 1) := by decide +kernel
theorem dX5_know_39 : decode cX5_know 39 = .ok (.iload_n 2, 1) := by decide +kernel
theorem dX5_know_40 : decode cX5_know 40 = .ok (.ifCond .lt 48, 3) := by decide +kernel
theorem dX5_know_43 : decode cX5_know 43 = .ok (.aload_n 0, 1) := by decide +kernel
theorem dX5_know_44 : decode cX5_know 44 = .ok (.getfield 128, 3) := by decide +kernel
theorem dX5_know_47 : decode cX5_know 47 = .ok (.ifCond .ne 41, 3) := by decide +kernel
theorem dX5_know_50 : decode cX5_know 50 = .ok (.iload_n 1, 1) := by decide +kernel
theorem dX5_know_51 : decode cX5_know 51 = .ok (.iload_n 2, 1) := by decide +kernel
theorem dX5_know_52 : decode cX5_know 52 = .ok (.ishr, 1) := by decide +kernel
theorem dX5_know_53 : decode cX5_know 53 = .ok (.iconst 1, 1) := by decide +kernel
theorem dX5_know_54 : decode cX5_know 54 = .ok (.iand, 1) := by decide +kernel
theorem dX5_know_55 : decode cX5_know 55 = .ok (.iconst 1, 1) := by decide +kernel
theorem dX5_know_56 : decode cX5_know 56 = .ok (.if_icmp .ne 26, 3) := by decide +kernel
theorem dX5_know_59 : decode cX5_know 59 = .ok (.aload_n 0, 1) := by decide +kernel
theorem dX5_know_60 : decode cX5_know 60 = .ok (.iload_n 1, 1) := by decide +kernel
theorem dX5_know_61 : decode cX5_know 61 = .ok (.iconst 1, 1) := by decide +kernel
theorem dX5_know_62 : decode cX5_know 62 = .ok (.iload_n 2, 1) := by decide +kernel
theorem dX5_know_63 : decode cX5_know 63 = .ok (.ishl, 1) := by decide +kernel
theorem dX5_know_64 : decode cX5_know 64 = .ok (.iconst (-1), 1) := by decide +kernel
theorem dX5_know_65 : decode cX5_know 65 = .ok (.ixor, 1) := by decide +kernel
theorem dX5_know_66 : decode cX5_know 66 = .ok (.iand, 1) := by decide +kernel
theorem dX5_know_67 : decode cX5_know 67 = .ok (.iconst 0, 1) := by decide +kernel
theorem dX5_know_68 : decode cX5_know 68 = .ok (.invokevirtual 124, 3) := by decide +kernel
theorem dX5_know_71 : decode cX5_know 71 = .ok (.ifCond .ne 11, 3) := by decide +kernel
theorem dX5_know_74 : decode cX5_know 74 = .ok (.iload_n 1, 1) := by decide +kernel
theorem dX5_know_75 : decode cX5_know 75 = .ok (.iconst 1, 1) := by decide +kernel
theorem dX5_know_76 : decode cX5_know 76 = .ok (.iload_n 2, 1) := by decide +kernel
theorem dX5_know_77 : decode cX5_know 77 = .ok (.ishl, 1) := by decide +kernel
theorem dX5_know_78 : decode cX5_know 78 = .ok (.iconst (-1), 1) := by decide +kernel
theorem dX5_know_79 : decode cX5_know 79 = .ok (.ixor, 1) := by decide +kernel
theorem dX5_know_80 : decode cX5_know 80 = .ok (.iand, 1) := by decide +kernel
theorem dX5_know_81 : decode cX5_know 81 = .ok (.istore_n 1, 1) := by decide +kernel
theorem dX5_know_82 : decode cX5_know 82 = .ok (.iinc 2 (-1), 3) := by decide +kernel
theorem dX5_know_85 : decode cX5_know 85 = .ok (.goto (-46), 3) := by decide +kernel
theorem dX5_know_88 : decode cX5_know 88 = .ok (.iconst 0, 1) := by decide +kernel
theorem dX5_know_89 : decode cX5_know 89 = .ok (.istore_n 2, 1) := by decide +kernel
theorem dX5_know_90 : decode cX5_know 90 = .ok (.iload_n 2, 1) := by decide +kernel
theorem dX5_know_91 : decode cX5_know 91 = .ok (.bipush 8, 2) := by decide +kernel
theorem dX5_know_93 : decode cX5_know 93 = .ok (.if_icmp .ge 36, 3) := by decide +kernel
theorem dX5_know_96 : decode cX5_know 96 = .ok (.aload_n 0, 1) := by decide +kernel
theorem dX5_know_97 : decode cX5_know 97 = .ok (.getfield 48, 3) := by decide +kernel
theorem dX5_know_100 : decode cX5_know 100 = .ok (.iload_n 2, 1) := by decide +kernel
theorem dX5_know_101 : decode cX5_know 101 = .ok (.aload_n 0, 1) := by decide +kernel
theorem dX5_know_102 : decode cX5_know 102 = .ok (.getfield 128, 3) := by decide +kernel
theorem dX5_know_105 : decode cX5_know 105 = .ok (.ifCond .ne 16, 3) := by decide +kernel
theorem dX5_know_108 : decode cX5_know 108 = .ok (.iload_n 1, 1) := by decide +kernel
theorem dX5_know_109 : decode cX5_know 109 = .ok (.iload_n 2, 1) := by decide +kernel
theorem dX5_know_110 : decode cX5_know 110 = .ok (.ishr, 1) := by decide +kernel
theorem dX5_know_111 : decode cX5_know 111 = .ok (.iconst 1, 1) := by decide +kernel
theorem dX5_know_112 : decode cX5_know 112 = .ok (.iand, 1) := by decide +kernel
theorem dX5_know_113 : decode cX5_know 113 = .ok (.iconst 1, 1) := by decide +kernel
