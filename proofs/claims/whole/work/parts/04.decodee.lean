theorem dK5_enter_32 : decode cK5_enter 32 = .ok (.getfield 75, 3) := by decide +kernel
theorem dK5_enter_35 : decode cK5_enter 35 = .ok (.iconst 1, 1) := by decide +kernel
theorem dK5_enter_36 : decode cK5_enter 36 = .ok (.iadd, 1) := by decide +kernel
theorem dK5_enter_37 : decode cK5_enter 37 = .ok (.putfield 75, 3) := by decide +kernel
theorem dK5_enter_40 : decode cK5_enter 40 = .ok (.return_, 1) := by decide +kernel
theorem dK5_suggest_0 : decode cK5_suggest 0 = .ok (.aload_n 0, 1) := by decide +kernel
theorem dK5_suggest_1 : decode cK5_suggest 1 = .ok (.iload_n 1, 1) := by decide +kernel
theorem dK5_suggest_2 : decode cK5_suggest 2 = .ok (.iload_n 2, 1) := by decide +kernel
theorem dK5_suggest_3 : decode cK5_suggest 3 = .ok (.invokevirtual 107, 3) := by decide +kernel
theorem dK5_suggest_6 : decode cK5_suggest 6 = .ok (.ifCond .ne 5, 3) := by decide +kernel
theorem dK5_suggest_9 : decode cK5_suggest 9 = .ok (.iconst (-1), 1) := by decide +kernel
theorem dK5_suggest_10 : decode cK5_suggest 10 = .ok (.ireturn, 1) := by decide +kernel
theorem dK5_suggest_11 : decode cK5_suggest 11 = .ok (.aload_n 0, 1) := by decide +kernel
theorem dK5_suggest_12 : decode cK5_suggest 12 = .ok (.iconst 0, 1) := by decide +kernel
theorem dK5_suggest_13 : decode cK5_suggest 13 = .ok (.invokevirtual 88, 3) := by decide +kernel
theorem dK5_suggest_16 : decode cK5_suggest 16 = .ok (.aload_n 0, 1) := by decide +kernel
theorem dK5_suggest_17 : decode cK5_suggest 17 = .ok (.iload_n 1, 1) := by decide +kernel
theorem dK5_suggest_18 : decode cK5_suggest 18 = .ok (.iload_n 2, 1) := by decide +kernel
theorem dK5_suggest_19 : decode cK5_suggest 19 = .ok (.invokevirtual 85, 3) := by decide +kernel
theorem dK5_suggest_22 : decode cK5_suggest 22 = .ok (.ifCond .ne 6, 3) := by decide +kernel
theorem dK5_suggest_25 : decode cK5_suggest 25 = .ok (.bipush (-2), 2) := by decide +kernel
theorem dK5_suggest_27 : decode cK5_suggest 27 = .ok (.ireturn, 1) := by decide +kernel
theorem dK5_suggest_28 : decode cK5_suggest 28 = .ok (.aload_n 0, 1) := by decide +kernel
theorem dK5_suggest_29 : decode cK5_suggest 29 = .ok (.getfield 75, 3) := by decide +kernel
theorem dK5_suggest_32 : decode cK5_suggest 32 = .ok (.istore_n 3, 1) := by decide +kernel
theorem dK5_suggest_33 : decode cK5_suggest 33 = .ok (.aload_n 0, 1) := by decide +kernel
theorem dK5_suggest_34 : decode cK5_suggest 34 = .ok (.getfield 23, 3) := by decide +kernel
theorem dK5_suggest_37 : decode cK5_suggest 37 = .ok (.iload_n 1, 1) := by decide +kernel
theorem dK5_suggest_38 : decode cK5_suggest 38 = .ok (.iaload, 1) := by decide +kernel
theorem dK5_suggest_39 : decode cK5_suggest 39 = .ok (.istore 4, 2) := by decide +kernel
theorem dK5_suggest_41 : decode cK5_suggest 41 = .ok (.aload_n 0, 1) := by decide +kernel
theorem dK5_suggest_42 : decode cK5_suggest 42 = .ok (.getfield 26, 3) := by decide +kernel
theorem dK5_suggest_45 : decode cK5_suggest 45 = .ok (.iload_n 1, 1) := by decide +kernel
theorem dK5_suggest_46 : decode cK5_suggest 46 = .ok (.iaload, 1) := by decide +kernel
theorem dK5_suggest_47 : decode cK5_suggest 47 = .ok (.istore 5, 2) := by decide +kernel
theorem dK5_suggest_49 : decode cK5_suggest 49 = .ok (.aload_n 0, 1) := by decide +kernel
theorem dK5_suggest_50 : decode cK5_suggest 50 = .ok (.getfield 13, 3) := by decide +kernel
theorem dK5_suggest_53 : decode cK5_suggest 53 = .ok (.iload_n 2, 1) := by decide +kernel
theorem dK5_suggest_54 : decode cK5_suggest 54 = .ok (.iconst 0, 1) := by decide +kernel
theorem dK5_suggest_55 : decode cK5_suggest 55 = .ok (.aload_n 0, 1) := by decide +kernel
theorem dK5_suggest_56 : decode cK5_suggest 56 = .ok (.getfield 20, 3) := by decide +kernel
theorem dK5_suggest_59 : decode cK5_suggest 59 = .ok (.iload_n 1, 1) := by decide +kernel
theorem dK5_suggest_60 : decode cK5_suggest 60 = .ok (.iaload, 1) := by decide +kernel
theorem dK5_suggest_61 : decode cK5_suggest 61 = .ok (.invokestatic 68, 3) := by decide +kernel
theorem dK5_suggest_64 : decode cK5_suggest 64 = .ok (.baload, 1) := by decide +kernel
theorem dK5_suggest_65 : decode cK5_suggest 65 = .ok (.ifCond .eq 19, 3) := by decide +kernel
theorem dK5_suggest_68 : decode cK5_suggest 68 = .ok (.aload_n 0, 1) := by decide +kernel
theorem dK5_suggest_69 : decode cK5_suggest 69 = .ok (.iconst 0, 1) := by decide +kernel
theorem dK5_suggest_70 : decode cK5_suggest 70 = .ok (.iload_n 2, 1) := by decide +kernel
theorem dK5_suggest_71 : decode cK5_suggest 71 = .ok (.iconst 0, 1) := by decide +kernel
theorem dK5_suggest_72 : decode cK5_suggest 72 = .ok (.aload_n 0, 1) := by decide +kernel
theorem dK5_suggest_73 : decode cK5_suggest 73 = .ok (.getfield 20, 3) := by decide +kernel
theorem dK5_suggest_76 : decode cK5_suggest 76 = .ok (.iload_n 1, 1) := by decide +kernel
theorem dK5_suggest_77 : decode cK5_suggest 77 = .ok (.iaload, 1) := by decide +kernel
theorem dK5_suggest_78 : decode cK5_suggest 78 = .ok (.invokestatic 68, 3) := by decide +kernel
theorem dK5_suggest_81 : decode cK5_suggest 81 = .ok (.invokevirtual 110, 3) := by decide +kernel
theorem dK5_suggest_84 : decode cK5_suggest 84 = .ok (.iconst 0, 1) := by decide +kernel
theorem dK5_suggest_85 : decode cK5_suggest 85 = .ok (.istore 6, 2) := by decide +kernel
theorem dK5_suggest_87 : decode cK5_suggest 87 = .ok (.iload 6, 2) := by decide +kernel
theorem dK5_suggest_89 : decode cK5_suggest 89 = .ok (.bipush 12, 2) := by decide +kernel
theorem dK5_suggest_91 : decode cK5_suggest 91 = .ok (.if_icmp .ge 296, 3) := by decide +kernel
theorem dK5_suggest_94 : decode cK5_suggest 94 = .ok (.aload_n 0, 1) := by decide +kernel
theorem dK5_suggest_95 : decode cK5_suggest 95 = .ok (.getfield 13, 3) := by decide +kernel
theorem dK5_suggest_98 : decode cK5_suggest 98 = .ok (.iload_n 2, 1) := by decide +kernel
theorem dK5_suggest_99 : decode cK5_suggest 99 = .ok (.iload 4, 2) := by decide +kernel
theorem dK5_suggest_101 : decode cK5_suggest 101 = .ok (.iload 6, 2) := by decide +kernel
theorem dK5_suggest_103 : decode cK5_suggest 103 = .ok (.invokestatic 68, 3) := by decide +kernel
theorem dK5_suggest_106 : decode cK5_suggest 106 = .ok (.baload, 1) := by decide +kernel
theorem dK5_suggest_107 : decode cK5_suggest 107 = .ok (.istore 7, 2) := by decide +kernel
theorem dK5_suggest_109 : decode cK5_suggest 109 = .ok (.aload_n 0, 1) := by decide +kernel
theorem dK5_suggest_110 : decode cK5_suggest 110 = .ok (.getfield 16, 3) := by decide +kernel
theorem dK5_suggest_113 : decode cK5_suggest 113 = .ok (.iload_n 1, 1) := by decide +kernel
theorem dK5_suggest_114 : decode cK5_suggest 114 = .ok (.iaload, 1) := by decide +kernel
theorem dK5_suggest_115 : decode cK5_suggest 115 = .ok (.iconst 3, 1) := by decide +kernel
theorem dK5_suggest_116 : decode cK5_suggest 116 = .ok (.if_icmp .le 23, 3) := by decide +kernel
theorem dK5_suggest_119 : decode cK5_suggest 119 = .ok (.aload_n 0, 1) := by decide +kernel
theorem dK5_suggest_120 : decode cK5_suggest 120 = .ok (.getfield 13, 3) := by decide +kernel
theorem dK5_suggest_123 : decode cK5_suggest 123 = .ok (.iload_n 2, 1) := by decide +kernel
theorem dK5_suggest_124 : decode cK5_suggest 124 = .ok (.iload 5, 2) := by decide +kernel
theorem dK5_suggest_126 : decode cK5_suggest 126 = .ok (.iload 6, 2) := by decide +kernel
theorem dK5_suggest_128 : decode cK5_suggest 128 = .ok (.invokestatic 68, 3) := by decide +kernel
theorem dK5_suggest_131 : decode cK5_suggest 131 = .ok (.baload, 1) := by decide +kernel
theorem dK5_suggest_132 : decode cK5_suggest 132 = .ok (.ifCond .eq 7, 3) := by decide +kernel
theorem dK5_suggest_135 : decode cK5_suggest 135 = .ok (.iconst 1, 1) := by decide +kernel
theorem dK5_suggest_136 : decode cK5_suggest 136 = .ok (.goto 4, 3) := by decide +kernel
theorem dK5_suggest_139 : decode cK5_suggest 139 = .ok (.iconst 0, 1) := by decide +kernel
theorem dK5_suggest_140 : decode cK5_suggest 140 = .ok (.istore 8, 2) := by decide +kernel
theorem dK5_suggest_142 : decode cK5_suggest 142 = .ok (.aload_n 0, 1) := by decide +kernel
theorem dK5_suggest_143 : decode cK5_suggest 143 = .ok (.getfield 16, 3) := by decide +kernel
theorem dK5_suggest_146 : decode cK5_suggest 146 = .ok (.iload_n 1, 1) := by decide +kernel
theorem dK5_suggest_147 : decode cK5_suggest 147 = .ok (.iaload, 1) := by decide +kernel
theorem dK5_suggest_148 : decode cK5_suggest 148 = .ok (.tableswitch 197 0 4 #[36, 57, 78, 123, 151], 36) := by decide +kernel
theorem dK5_suggest_184 : decode cK5_suggest 184 = .ok (.iload 7, 2) := by decide +kernel
theorem dK5_suggest_186 : decode cK5_suggest 186 = .ok (.ifCond .ne 195, 3) := by decide +kernel
theorem dK5_suggest_189 : decode cK5_suggest 189 = .ok (.aload_n 0, 1) := by decide +kernel
theorem dK5_suggest_190 : decode cK5_suggest 190 = .ok (.iconst 1, 1) := by decide +kernel
theorem dK5_suggest_191 : decode cK5_suggest 191 = .ok (.iload_n 2, 1) := by decide +kernel
theorem dK5_suggest_192 : decode cK5_suggest 192 = .ok (.iload 4, 2) := by decide +kernel
theorem dK5_suggest_194 : decode cK5_suggest 194 = .ok (.iload 6, 2) := by decide +kernel
theorem dK5_suggest_196 : decode cK5_suggest 196 = .ok (.invokestatic 68, 3) := by decide +kernel
theorem dK5_suggest_199 : decode cK5_suggest 199 = .ok (.invokevirtual 110, 3) := by decide +kernel
theorem dK5_suggest_202 : decode cK5_suggest 202 = .ok (.goto 179, 3) := by decide +kernel
theorem dK5_suggest_205 : decode cK5_suggest 205 = .ok (.iload 7, 2) := by decide +kernel
theorem dK5_suggest_207 : decode cK5_suggest 207 = .ok (.ifCond .eq 174, 3) := by decide +kernel
theorem dK5_suggest_210 : decode cK5_suggest 210 = .ok (.aload_n 0, 1) := by decide +kernel
theorem dK5_suggest_211 : decode cK5_suggest 211 = .ok (.iconst 0, 1) := by decide +kernel
theorem dK5_suggest_212 : decode cK5_suggest 212 = .ok (.iload_n 2, 1) := by decide +kernel
theorem dK5_suggest_213 : decode cK5_suggest 213 = .ok (.iload 4, 2) := by decide +kernel
theorem dK5_suggest_215 : decode cK5_suggest 215 = .ok (.iload 6, 2) := by decide +kernel
theorem dK5_suggest_217 : decode cK5_suggest 217 = .ok (.invokestatic 68, 3) := by decide +kernel
theorem dK5_suggest_220 : decode cK5_suggest 220 = .ok (.invokevirtual 110, 3) := by decide +kernel
theorem dK5_suggest_223 : decode cK5_suggest 223 = .ok (.goto 158, 3) := by decide +kernel
theorem dK5_suggest_226 : decode cK5_suggest 226 = .ok (.iload 7, 2) := by decide +kernel
theorem dK5_suggest_228 : decode cK5_suggest 228 = .ok (.ifCond .eq 153, 3) := by decide +kernel
theorem dK5_suggest_231 : decode cK5_suggest 231 = .ok (.aload_n 0, 1) := by decide +kernel
theorem dK5_suggest_232 : decode cK5_suggest 232 = .ok (.iload 6, 2) := by decide +kernel
theorem dK5_suggest_234 : decode cK5_suggest 234 = .ok (.iload 5, 2) := by decide +kernel
theorem dK5_suggest_236 : decode cK5_suggest 236 = .ok (.invokevirtual 78, 3) := by decide +kernel
theorem dK5_suggest_239 : decode cK5_suggest 239 = .ok (.ifCond .ne 142, 3) := by decide +kernel
theorem dK5_suggest_242 : decode cK5_suggest 242 = .ok (.aload_n 0, 1) := by decide +kernel
theorem dK5_suggest_243 : decode cK5_suggest 243 = .ok (.iconst 0, 1) := by decide +kernel
theorem dK5_suggest_244 : decode cK5_suggest 244 = .ok (.iload_n 2, 1) := by decide +kernel
theorem dK5_suggest_245 : decode cK5_suggest 245 = .ok (.iload 4, 2) := by decide +kernel
theorem dK5_suggest_247 : decode cK5_suggest 247 = .ok (.iload 6, 2) := by decide +kernel
theorem dK5_suggest_249 : decode cK5_suggest 249 = .ok (.invokestatic 68, 3) := by decide +kernel
theorem dK5_suggest_252 : decode cK5_suggest 252 = .ok (.invokevirtual 110, 3) := by decide +kernel
theorem dK5_suggest_255 : decode cK5_suggest 255 = .ok (.aload_n 0, 1) := by decide +kernel
theorem dK5_suggest_256 : decode cK5_suggest 256 = .ok (.iconst 1, 1) := by decide +kernel
theorem dK5_suggest_257 : decode cK5_suggest 257 = .ok (.iload 6, 2) := by decide +kernel
theorem dK5_suggest_259 : decode cK5_suggest 259 = .ok (.iconst 0, 1) := by decide +kernel
theorem dK5_suggest_260 : decode cK5_suggest 260 = .ok (.iload 5, 2) := by decide +kernel
theorem dK5_suggest_262 : decode cK5_suggest 262 = .ok (.invokestatic 68, 3) := by decide +kernel
theorem dK5_suggest_265 : decode cK5_suggest 265 = .ok (.invokevirtual 110, 3) := by decide +kernel
theorem dK5_suggest_268 : decode cK5_suggest 268 = .ok (.goto 113, 3) := by decide +kernel
theorem dK5_suggest_271 : decode cK5_suggest 271 = .ok (.iload 7, 2) := by decide +kernel
theorem dK5_suggest_273 : decode cK5_suggest 273 = .ok (.ifCond .eq 108, 3) := by decide +kernel
theorem dK5_suggest_276 : decode cK5_suggest 276 = .ok (.iload 6, 2) := by decide +kernel
theorem dK5_suggest_278 : decode cK5_suggest 278 = .ok (.iload 5, 2) := by decide +kernel
theorem dK5_suggest_280 : decode cK5_suggest 280 = .ok (.if_icmp .ne 101, 3) := by decide +kernel
theorem dK5_suggest_283 : decode cK5_suggest 283 = .ok (.aload_n 0, 1) := by decide +kernel
theorem dK5_suggest_284 : decode cK5_suggest 284 = .ok (.iconst 0, 1) := by decide +kernel
theorem dK5_suggest_285 : decode cK5_suggest 285 = .ok (.iload_n 2, 1) := by decide +kernel
theorem dK5_suggest_286 : decode cK5_suggest 286 = .ok (.iload 4, 2) := by decide +kernel
theorem dK5_suggest_288 : decode cK5_suggest 288 = .ok (.iload 6, 2) := by decide +kernel
theorem dK5_suggest_290 : decode cK5_suggest 290 = .ok (.invokestatic 68, 3) := by decide +kernel
theorem dK5_suggest_293 : decode cK5_suggest 293 = .ok (.invokevirtual 110, 3) := by decide +kernel
theorem dK5_suggest_296 : decode cK5_suggest 296 = .ok (.goto 85, 3) := by decide +kernel
theorem dK5_suggest_299 : decode cK5_suggest 299 = .ok (.iload 7, 2) := by decide +kernel
theorem dK5_suggest_301 : decode cK5_suggest 301 = .ok (.iload 8, 2) := by decide +kernel
theorem dK5_suggest_303 : decode cK5_suggest 303 = .ok (.if_icmp .eq 78, 3) := by decide +kernel
theorem dK5_suggest_306 : decode cK5_suggest 306 = .ok (.aload_n 0, 1) := by decide +kernel
theorem dK5_suggest_307 : decode cK5_suggest 307 = .ok (.iload 7, 2) := by decide +kernel
theorem dK5_suggest_309 : decode cK5_suggest 309 = .ok (.ifCond .ne 7, 3) := by decide +kernel
theorem dK5_suggest_312 : decode cK5_suggest 312 = .ok (.iconst 1, 1) := by decide +kernel
theorem dK5_suggest_313 : decode cK5_suggest 313 = .ok (.goto 4, 3) := by decide +kernel
theorem dK5_suggest_316 : decode cK5_suggest 316 = .ok (.iconst 0, 1) := by decide +kernel
theorem dK5_suggest_317 : decode cK5_suggest 317 = .ok (.iload_n 2, 1) := by decide +kernel
theorem dK5_suggest_318 : decode cK5_suggest 318 = .ok (.iload 4, 2) := by decide +kernel
theorem dK5_suggest_320 : decode cK5_suggest 320 = .ok (.iload 6, 2) := by decide +kernel
theorem dK5_suggest_322 : decode cK5_suggest 322 = .ok (.invokestatic 68, 3) := by decide +kernel
theorem dK5_suggest_325 : decode cK5_suggest 325 = .ok (.invokevirtual 110, 3) := by decide +kernel
theorem dK5_suggest_328 : decode cK5_suggest 328 = .ok (.aload_n 0, 1) := by decide +kernel
theorem dK5_suggest_329 : decode cK5_suggest 329 = .ok (.iload 7, 2) := by decide +kernel
theorem dK5_suggest_331 : decode cK5_suggest 331 = .ok (.iload_n 2, 1) := by decide +kernel
theorem dK5_suggest_332 : decode cK5_suggest 332 = .ok (.iload 5, 2) := by decide +kernel
theorem dK5_suggest_334 : decode cK5_suggest 334 = .ok (.iload 6, 2) := by decide +kernel
theorem dK5_suggest_336 : decode cK5_suggest 336 = .ok (.invokestatic 68, 3) := by decide +kernel
theorem dK5_suggest_339 : decode cK5_suggest 339 = .ok (.invokevirtual 110, 3) := by decide +kernel
theorem dK5_suggest_342 : decode cK5_suggest 342 = .ok (.goto 39, 3) := by decide +kernel
theorem dK5_suggest_345 : decode cK5_suggest 345 = .ok (.iload 7, 2) := by decide +kernel
theorem dK5_suggest_347 : decode cK5_suggest 347 = .ok (.ifCond .eq 34, 3) := by decide +kernel
theorem dK5_suggest_350 : decode cK5_suggest 350 = .ok (.iload 8, 2) := by decide +kernel
theorem dK5_suggest_352 : decode cK5_suggest 352 = .ok (.ifCond .eq 29, 3) := by decide +kernel
theorem dK5_suggest_355 : decode cK5_suggest 355 = .ok (.aload_n 0, 1) := by decide +kernel
theorem dK5_suggest_356 : decode cK5_suggest 356 = .ok (.iconst 0, 1) := by decide +kernel
theorem dK5_suggest_357 : decode cK5_suggest 357 = .ok (.iload_n 2, 1) := by decide +kernel
theorem dK5_suggest_358 : decode cK5_suggest 358 = .ok (.iload 4, 2) := by decide +kernel
theorem dK5_suggest_360 : decode cK5_suggest 360 = .ok (.iload 6, 2) := by decide +kernel
theorem dK5_suggest_362 : decode cK5_suggest 362 = .ok (.invokestatic 68, 3) := by decide +kernel
theorem dK5_suggest_365 : decode cK5_suggest 365 = .ok (.invokevirtual 110, 3) := by decide +kernel
theorem dK5_suggest_368 : decode cK5_suggest 368 = .ok (.aload_n 0, 1) := by decide +kernel
theorem dK5_suggest_369 : decode cK5_suggest 369 = .ok (.iconst 0, 1) := by decide +kernel
theorem dK5_suggest_370 : decode cK5_suggest 370 = .ok (.iload_n 2, 1) := by decide +kernel
theorem dK5_suggest_371 : decode cK5_suggest 371 = .ok (.iload 5, 2) := by decide +kernel
theorem dK5_suggest_373 : decode cK5_suggest 373 = .ok (.iload 6, 2) := by decide +kernel
theorem dK5_suggest_375 : decode cK5_suggest 375 = .ok (.invokestatic 68, 3) := by decide +kernel
theorem dK5_suggest_378 : decode cK5_suggest 378 = .ok (.invokevirtual 110, 3) := by decide +kernel
theorem dK5_suggest_381 : decode cK5_suggest 381 = .ok (.iinc 6 1, 3) := by decide +kernel
theorem dK5_suggest_384 : decode cK5_suggest 384 = .ok (.goto (-297), 3) := by decide +kernel
theorem dK5_suggest_387 : decode cK5_suggest 387 = .ok (.aload_n 0, 1) := by decide +kernel
theorem dK5_suggest_388 : decode cK5_suggest 388 = .ok (.getfield 75, 3) := by decide +kernel
theorem dK5_suggest_391 : decode cK5_suggest 391 = .ok (.iload_n 3, 1) := by decide +kernel
theorem dK5_suggest_392 : decode cK5_suggest 392 = .ok (.isub, 1) := by decide +kernel
theorem dK5_suggest_393 : decode cK5_suggest 393 = .ok (.ireturn, 1) := by decide +kernel
theorem dK5_isPair_0 : decode cK5_isPair 0 = .ok (.iload_n 1, 1) := by decide +kernel
theorem dK5_isPair_1 : decode cK5_isPair 1 = .ok (.iconst 0, 1) := by decide +kernel
theorem dK5_isPair_2 : decode cK5_isPair 2 = .ok (.aload_n 0, 1) := by decide +kernel
theorem dK5_isPair_3 : decode cK5_isPair 3 = .ok (.getfield 72, 3) := by decide +kernel
theorem dK5_isPair_6 : decode cK5_isPair 6 = .ok (.iconst 1, 1) := by decide +kernel
theorem dK5_isPair_7 : decode cK5_isPair 7 = .ok (.isub, 1) := by decide +kernel
theorem dK5_isPair_8 : decode cK5_isPair 8 = .ok (.invokestatic 61, 3) := by decide +kernel
theorem dK5_isPair_11 : decode cK5_isPair 11 = .ok (.ifCond .eq 17, 3) := by decide +kernel
theorem dK5_isPair_14 : decode cK5_isPair 14 = .ok (.iload_n 2, 1) := by decide +kernel
theorem dK5_isPair_15 : decode cK5_isPair 15 = .ok (.iconst 0, 1) := by decide +kernel
theorem dK5_isPair_16 : decode cK5_isPair 16 = .ok (.bipush 11, 2) := by decide +kernel
theorem dK5_isPair_18 : decode cK5_isPair 18 = .ok (.invokestatic 61, 3) := by decide +kernel
theorem dK5_isPair_21 : decode cK5_isPair 21 = .ok (.ifCond .eq 7, 3) := by decide +kernel
theorem dK5_isPair_24 : decode cK5_isPair 24 = .ok (.iconst 1, 1) := by decide +kernel
theorem dK5_isPair_25 : decode cK5_isPair 25 = .ok (.goto 4, 3) := by decide +kernel
theorem dK5_isPair_28 : decode cK5_isPair 28 = .ok (.iconst 0, 1) := by decide +kernel
theorem dK5_isPair_29 : decode cK5_isPair 29 = .ok (.ireturn, 1) := by decide +kernel
theorem dK5_offer_0 : decode cK5_offer 0 = .ok (.aload_n 0, 1) := by decide +kernel
theorem dK5_offer_1 : decode cK5_offer 1 = .ok (.getfield 75, 3) := by decide +kernel
theorem dK5_offer_4 : decode cK5_offer 4 = .ok (.bipush 12, 2) := by decide +kernel
theorem dK5_offer_6 : decode cK5_offer 6 = .ok (.if_icmp .ge 19, 3) := by decide +kernel
theorem dK5_offer_9 : decode cK5_offer 9 = .ok (.aload_n 0, 1) := by decide +kernel
theorem dK5_offer_10 : decode cK5_offer 10 = .ok (.iload_n 1, 1) := by decide +kernel
theorem dK5_offer_11 : decode cK5_offer 11 = .ok (.iload_n 2, 1) := by decide +kernel
theorem dK5_offer_12 : decode cK5_offer 12 = .ok (.invokevirtual 99, 3) := by decide +kernel
theorem dK5_offer_15 : decode cK5_offer 15 = .ok (.ifCond .ne 10, 3) := by decide +kernel
theorem dK5_offer_18 : decode cK5_offer 18 = .ok (.aload_n 0, 1) := by decide +kernel
theorem dK5_offer_19 : decode cK5_offer 19 = .ok (.iload_n 1, 1) := by decide +kernel
theorem dK5_offer_20 : decode cK5_offer 20 = .ok (.iload_n 2, 1) := by decide +kernel
theorem dK5_offer_21 : decode cK5_offer 21 = .ok (.iconst 1, 1) := by decide +kernel
theorem dK5_offer_22 : decode cK5_offer 22 = .ok (.invokevirtual 103, 3) := by decide +kernel
theorem dK5_offer_25 : decode cK5_offer 25 = .ok (.return_, 1) := by decide +kernel
theorem dK5_clear_0 : decode cK5_clear 0 = .ok (.aload_n 0, 1) := by decide +kernel
theorem dK5_clear_1 : decode cK5_clear 1 = .ok (.getfield 75, 3) := by decide +kernel
theorem dK5_clear_4 : decode cK5_clear 4 = .ok (.istore_n 1, 1) := by decide +kernel
theorem dK5_clear_5 : decode cK5_clear 5 = .ok (.aload_n 0, 1) := by decide +kernel
theorem dK5_clear_6 : decode cK5_clear 6 = .ok (.iconst 0, 1) := by decide +kernel
theorem dK5_clear_7 : decode cK5_clear 7 = .ok (.putfield 75, 3) := by decide +kernel
theorem dK5_clear_10 : decode cK5_clear 10 = .ok (.aload_n 0, 1) := by decide +kernel
theorem dK5_clear_11 : decode cK5_clear 11 = .ok (.iconst 0, 1) := by decide +kernel
theorem dK5_clear_12 : decode cK5_clear 12 = .ok (.putfield 114, 3) := by decide +kernel
theorem dK5_clear_15 : decode cK5_clear 15 = .ok (.aload_n 0, 1) := by decide +kernel
theorem dK5_clear_16 : decode cK5_clear 16 = .ok (.iconst 0, 1) := by decide +kernel
theorem dK5_clear_17 : decode cK5_clear 17 = .ok (.putfield 117, 3) := by decide +kernel
theorem dK5_clear_20 : decode cK5_clear 20 = .ok (.iload_n 1, 1) := by decide +kernel
theorem dK5_clear_21 : decode cK5_clear 21 = .ok (.ireturn, 1) := by decide +kernel
theorem dK5_tries_0 : decode cK5_tries 0 = .ok (.iload_n 1, 1) := by decide +kernel
theorem dK5_tries_1 : decode cK5_tries 1 = .ok (.iconst 1, 1) := by decide +kernel
theorem dK5_tries_2 : decode cK5_tries 2 = .ok (.sipush 5000, 3) := by decide +kernel
theorem dK5_tries_5 : decode cK5_tries 5 = .ok (.invokestatic 61, 3) := by decide +kernel
theorem dK5_tries_8 : decode cK5_tries 8 = .ok (.ifCond .ne 5, 3) := by decide +kernel
theorem dK5_tries_11 : decode cK5_tries 11 = .ok (.iconst (-1), 1) := by decide +kernel
theorem dK5_tries_12 : decode cK5_tries 12 = .ok (.ireturn, 1) := by decide +kernel
theorem dK5_tries_13 : decode cK5_tries 13 = .ok (.aload_n 0, 1) := by decide +kernel
theorem dK5_tries_14 : decode cK5_tries 14 = .ok (.iload_n 1, 1) := by decide +kernel
theorem dK5_tries_15 : decode cK5_tries 15 = .ok (.putfield 38, 3) := by decide +kernel
theorem dK5_tries_18 : decode cK5_tries 18 = .ok (.iload_n 1, 1) := by decide +kernel
theorem dK5_tries_19 : decode cK5_tries 19 = .ok (.ireturn, 1) := by decide +kernel
theorem dK5_find_0 : decode cK5_find 0 = .ok (.aload_n 0, 1) := by decide +kernel
theorem dK5_find_1 : decode cK5_find 1 = .ok (.iload_n 1, 1) := by decide +kernel
theorem dK5_find_2 : decode cK5_find 2 = .ok (.iload_n 2, 1) := by decide +kernel
theorem dK5_find_3 : decode cK5_find 3 = .ok (.invokevirtual 107, 3) := by decide +kernel
theorem dK5_find_6 : decode cK5_find 6 = .ok (.ifCond .eq 13, 3) := by decide +kernel
theorem dK5_find_9 : decode cK5_find 9 = .ok (.iload_n 3, 1) := by decide +kernel
theorem dK5_find_10 : decode cK5_find 10 = .ok (.iconst 1, 1) := by decide +kernel
theorem dK5_find_11 : decode cK5_find 11 = .ok (.bipush 12, 2) := by decide +kernel
theorem dK5_find_13 : decode cK5_find 13 = .ok (.invokestatic 61, 3) := by decide +kernel
theorem dK5_find_16 : decode cK5_find 16 = .ok (.ifCond .ne 5, 3) := by decide +kernel
theorem dK5_find_19 : decode cK5_find 19 = .ok (.iconst (-1), 1) := by decide +kernel
theorem dK5_find_20 : decode cK5_find 20 = .ok (.ireturn, 1) := by decide +kernel
theorem dK5_find_21 : decode cK5_find 21 = .ok (.aload_n 0, 1) := by decide +kernel
theorem dK5_find_22 : decode cK5_find 22 = .ok (.iconst 0, 1) := by decide +kernel
theorem dK5_find_23 : decode cK5_find 23 = .ok (.invokevirtual 88, 3) := by decide +kernel
theorem dK5_find_26 : decode cK5_find 26 = .ok (.aload_n 0, 1) := by decide +kernel
theorem dK5_find_27 : decode cK5_find 27 = .ok (.iload_n 1, 1) := by decide +kernel
theorem dK5_find_28 : decode cK5_find 28 = .ok (.iload_n 2, 1) := by decide +kernel
theorem dK5_find_29 : decode cK5_find 29 = .ok (.invokevirtual 85, 3) := by decide +kernel
theorem dK5_find_32 : decode cK5_find 32 = .ok (.ifCond .ne 6, 3) := by decide +kernel
theorem dK5_find_35 : decode cK5_find 35 = .ok (.bipush (-2), 2) := by decide +kernel
theorem dK5_find_37 : decode cK5_find 37 = .ok (.ireturn, 1) := by decide +kernel
theorem dK5_find_38 : decode cK5_find 38 = .ok (.aload_n 0, 1) := by decide +kernel
theorem dK5_find_39 : decode cK5_find 39 = .ok (.iconst 0, 1) := by decide +kernel
theorem dK5_find_40 : decode cK5_find 40 = .ok (.putfield 114, 3) := by decide +kernel
theorem dK5_find_43 : decode cK5_find 43 = .ok (.aload_n 0, 1) := by decide +kernel
theorem dK5_find_44 : decode cK5_find 44 = .ok (.iconst 0, 1) := by decide +kernel
theorem dK5_find_45 : decode cK5_find 45 = .ok (.putfield 120, 3) := by decide +kernel
theorem dK5_find_48 : decode cK5_find 48 = .ok (.aload_n 0, 1) := by decide +kernel
theorem dK5_find_49 : decode cK5_find 49 = .ok (.iconst 1, 1) := by decide +kernel
theorem dK5_find_50 : decode cK5_find 50 = .ok (.putfield 57, 3) := by decide +kernel
theorem dK5_find_53 : decode cK5_find 53 = .ok (.iconst 1, 1) := by decide +kernel
theorem dK5_find_54 : decode cK5_find 54 = .ok (.istore 4, 2) := by decide +kernel
theorem dK5_find_56 : decode cK5_find 56 = .ok (.iload 4, 2) := by decide +kernel
theorem dK5_find_58 : decode cK5_find 58 = .ok (.iload_n 3, 1) := by decide +kernel
theorem dK5_find_59 : decode cK5_find 59 = .ok (.if_icmp .gt 82, 3) := by decide +kernel
theorem dK5_find_62 : decode cK5_find 62 = .ok (.iload 4, 2) := by decide +kernel
theorem dK5_find_64 : decode cK5_find 64 = .ok (.aload_n 0, 1) := by decide +kernel
theorem dK5_find_65 : decode cK5_find 65 = .ok (.getfield 75, 3) := by decide +kernel
theorem dK5_find_68 : decode cK5_find 68 = .ok (.if_icmp .gt 73, 3) := by decide +kernel
theorem dK5_find_71 : decode cK5_find 71 = .ok (.aload_n 0, 1) := by decide +kernel
theorem dK5_find_72 : decode cK5_find 72 = .ok (.getfield 57, 3) := by decide +kernel
theorem dK5_find_75 : decode cK5_find 75 = .ok (.ifCond .eq 66, 3) := by decide +kernel
theorem dK5_find_78 : decode cK5_find 78 = .ok (.aload_n 0, 1) := by decide +kernel
theorem dK5_find_79 : decode cK5_find 79 = .ok (.iload 4, 2) := by decide +kernel
theorem dK5_find_81 : decode cK5_find 81 = .ok (.invokevirtual 123, 3) := by decide +kernel
theorem dK5_find_84 : decode cK5_find 84 = .ok (.iconst 1, 1) := by decide +kernel
theorem dK5_find_85 : decode cK5_find 85 = .ok (.istore 5, 2) := by decide +kernel
theorem dK5_find_87 : decode cK5_find 87 = .ok (.iload 5, 2) := by decide +kernel
theorem dK5_find_89 : decode cK5_find 89 = .ok (.ifCond .eq 46, 3) := by decide +kernel
theorem dK5_find_92 : decode cK5_find 92 = .ok (.aload_n 0, 1) := by decide +kernel
theorem dK5_find_93 : decode cK5_find 93 = .ok (.getfield 57, 3) := by decide +kernel
theorem dK5_find_96 : decode cK5_find 96 = .ok (.ifCond .eq 39, 3) := by decide +kernel
theorem dK5_find_99 : decode cK5_find 99 = .ok (.aload_n 0, 1) := by decide +kernel
theorem dK5_find_100 : decode cK5_find 100 = .ok (.iload 4, 2) := by decide +kernel
theorem dK5_find_102 : decode cK5_find 102 = .ok (.invokevirtual 126, 3) := by decide +kernel
theorem dK5_find_105 : decode cK5_find 105 = .ok (.istore 6, 2) := by decide +kernel
theorem dK5_find_107 : decode cK5_find 107 = .ok (.aload_n 0, 1) := by decide +kernel
theorem dK5_find_108 : decode cK5_find 108 = .ok (.iload 6, 2) := by decide +kernel
theorem dK5_find_110 : decode cK5_find 110 = .ok (.invokevirtual 130, 3) := by decide +kernel
theorem dK5_find_113 : decode cK5_find 113 = .ok (.ifCond .ne 11, 3) := by decide +kernel
theorem dK5_find_116 : decode cK5_find 116 = .ok (.aload_n 0, 1) := by decide +kernel
theorem dK5_find_117 : decode cK5_find 117 = .ok (.iload 6, 2) := by decide +kernel
theorem dK5_find_119 : decode cK5_find 119 = .ok (.iload_n 1, 1) := by decide +kernel
theorem dK5_find_120 : decode cK5_find 120 = .ok (.iload_n 2, 1) := by decide +kernel
theorem dK5_find_121 : decode cK5_find 121 = .ok (.invokevirtual 134, 3) := by decide +kernel
theorem dK5_find_124 : decode cK5_find 124 = .ok (.aload_n 0, 1) := by decide +kernel
theorem dK5_find_125 : decode cK5_find 125 = .ok (.iload 4, 2) := by decide +kernel
theorem dK5_find_127 : decode cK5_find 127 = .ok (.invokevirtual 138, 3) := by decide +kernel
theorem dK5_find_130 : decode cK5_find 130 = .ok (.istore 5, 2) := by decide +kernel
theorem dK5_find_132 : decode cK5_find 132 = .ok (.goto (-45), 3) := by decide +kernel
theorem dK5_find_135 : decode cK5_find 135 = .ok (.iinc 4 1, 3) := by decide +kernel
theorem dK5_find_138 : decode cK5_find 138 = .ok (.goto (-82), 3) := by decide +kernel
theorem dK5_find_141 : decode cK5_find 141 = .ok (.aload_n 0, 1) := by decide +kernel
theorem dK5_find_142 : decode cK5_find 142 = .ok (.invokevirtual 141, 3) := by decide +kernel
theorem dK5_find_145 : decode cK5_find 145 = .ok (.aload_n 0, 1) := by decide +kernel
theorem dK5_find_146 : decode cK5_find 146 = .ok (.getfield 114, 3) := by decide +kernel
theorem dK5_find_149 : decode cK5_find 149 = .ok (.ireturn, 1) := by decide +kernel
theorem dK5_first_0 : decode cK5_first 0 = .ok (.iconst 0, 1) := by decide +kernel
theorem dK5_first_1 : decode cK5_first 1 = .ok (.istore_n 2, 1) := by decide +kernel
theorem dK5_first_2 : decode cK5_first 2 = .ok (.iload_n 2, 1) := by decide +kernel
theorem dK5_first_3 : decode cK5_first 3 = .ok (.iload_n 1, 1) := by decide +kernel
theorem dK5_first_4 : decode cK5_first 4 = .ok (.if_icmp .ge 16, 3) := by decide +kernel
theorem dK5_first_7 : decode cK5_first 7 = .ok (.aload_n 0, 1) := by decide +kernel
theorem dK5_first_8 : decode cK5_first 8 = .ok (.getfield 45, 3) := by decide +kernel
theorem dK5_first_11 : decode cK5_first 11 = .ok (.iload_n 2, 1) := by decide +kernel
theorem dK5_first_12 : decode cK5_first 12 = .ok (.iload_n 2, 1) := by decide +kernel
theorem dK5_first_13 : decode cK5_first 13 = .ok (.iastore, 1) := by decide +kernel
theorem dK5_first_14 : decode cK5_first 14 = .ok (.iinc 2 1, 3) := by decide +kernel
theorem dK5_first_17 : decode cK5_first 17 = .ok (.goto (-15), 3) := by decide +kernel
theorem dK5_first_20 : decode cK5_first 20 = .ok (.return_, 1) := by decide +kernel
theorem dK5_setOf_0 : decode cK5_setOf 0 = .ok (.iconst 0, 1) := by decide +kernel
theorem dK5_setOf_1 : decode cK5_setOf 1 = .ok (.istore_n 2, 1) := by decide +kernel
theorem dK5_setOf_2 : decode cK5_setOf 2 = .ok (.iconst 0, 1) := by decide +kernel
theorem dK5_setOf_3 : decode cK5_setOf 3 = .ok (.istore_n 3, 1) := by decide +kernel
theorem dK5_setOf_4 : decode cK5_setOf 4 = .ok (.iload_n 3, 1) := by decide +kernel
theorem dK5_setOf_5 : decode cK5_setOf 5 = .ok (.iload_n 1, 1) := by decide +kernel
theorem dK5_setOf_6 : decode cK5_setOf 6 = .ok (.if_icmp .ge 20, 3) := by decide +kernel
theorem dK5_setOf_9 : decode cK5_setOf 9 = .ok (.iload_n 2, 1) := by decide +kernel
theorem dK5_setOf_10 : decode cK5_setOf 10 = .ok (.iconst 1, 1) := by decide +kernel
theorem dK5_setOf_11 : decode cK5_setOf 11 = .ok (.aload_n 0, 1) := by decide +kernel
theorem dK5_setOf_12 : decode cK5_setOf 12 = .ok (.getfield 45, 3) := by decide +kernel
theorem dK5_setOf_15 : decode cK5_setOf 15 = .ok (.iload_n 3, 1) := by decide +kernel
theorem dK5_setOf_16 : decode cK5_setOf 16 = .ok (.iaload, 1) := by decide +kernel
theorem dK5_setOf_17 : decode cK5_setOf 17 = .ok (.ishl, 1) := by decide +kernel
theorem dK5_setOf_18 : decode cK5_setOf 18 = .ok (.ior, 1) := by decide +kernel
theorem dK5_setOf_19 : decode cK5_setOf 19 = .ok (.istore_n 2, 1) := by decide +kernel
theorem dK5_setOf_20 : decode cK5_setOf 20 = .ok (.iinc 3 1, 3) := by decide +kernel
theorem dK5_setOf_23 : decode cK5_setOf 23 = .ok (.goto (-19), 3) := by decide +kernel
theorem dK5_setOf_26 : decode cK5_setOf 26 = .ok (.iload_n 2, 1) := by decide +kernel
theorem dK5_setOf_27 : decode cK5_setOf 27 = .ok (.ireturn, 1) := by decide +kernel
theorem dK5_hasOneWithin_0 : decode cK5_hasOneWithin 0 = .ok (.iconst 0, 1) := by decide +kernel
theorem dK5_hasOneWithin_1 : decode cK5_hasOneWithin 1 = .ok (.istore_n 2, 1) := by decide +kernel
theorem dK5_hasOneWithin_2 : decode cK5_hasOneWithin 2 = .ok (.iconst 0, 1) := by decide +kernel
theorem dK5_hasOneWithin_3 : decode cK5_hasOneWithin 3 = .ok (.istore_n 3, 1) := by decide +kernel
theorem dK5_hasOneWithin_4 : decode cK5_hasOneWithin 4 = .ok (.iload_n 3, 1) := by decide +kernel
theorem dK5_hasOneWithin_5 : decode cK5_hasOneWithin 5 = .ok (.aload_n 0, 1) := by decide +kernel
theorem dK5_hasOneWithin_6 : decode cK5_hasOneWithin 6 = .ok (.getfield 114, 3) := by decide +kernel
theorem dK5_hasOneWithin_9 : decode cK5_hasOneWithin 9 = .ok (.if_icmp .ge 36, 3) := by decide +kernel
theorem dK5_hasOneWithin_12 : decode cK5_hasOneWithin 12 = .ok (.iload_n 2, 1) := by decide +kernel
theorem dK5_hasOneWithin_13 : decode cK5_hasOneWithin 13 = .ok (.ifCond .ne 20, 3) := by decide +kernel
theorem dK5_hasOneWithin_16 : decode cK5_hasOneWithin 16 = .ok (.aload_n 0, 1) := by decide +kernel
theorem dK5_hasOneWithin_17 : decode cK5_hasOneWithin 17 = .ok (.getfield 42, 3) := by decide +kernel
theorem dK5_hasOneWithin_20 : decode cK5_hasOneWithin 20 = .ok (.iload_n 3, 1) := by decide +kernel
theorem dK5_hasOneWithin_21 : decode cK5_hasOneWithin 21 = .ok (.iaload, 1) := by decide +kernel
theorem dK5_hasOneWithin_22 : decode cK5_hasOneWithin 22 = .ok (.iload_n 1, 1) := by decide +kernel
theorem dK5_hasOneWithin_23 : decode cK5_hasOneWithin 23 = .ok (.iand, 1) := by decide +kernel
theorem dK5_hasOneWithin_24 : decode cK5_hasOneWithin 24 = .ok (.aload_n 0, 1) := by decide +kernel
theorem dK5_hasOneWithin_25 : decode cK5_hasOneWithin 25 = .ok (.getfield 42, 3) := by decide +kernel
theorem dK5_hasOneWithin_28 : decode cK5_hasOneWithin 28 = .ok (.iload_n 3, 1) := by decide +kernel
theorem dK5_hasOneWithin_29 : decode cK5_hasOneWithin 29 = .ok (.iaload, 1) := by decide +kernel
theorem dK5_hasOneWithin_30 : decode cK5_hasOneWithin 30 = .ok (.if_icmp .ne 7, 3) := by decide +kernel
theorem dK5_hasOneWithin_33 : decode cK5_hasOneWithin 33 = .ok (.iconst 1, 1) := by decide +kernel
theorem dK5_hasOneWithin_34 : decode cK5_hasOneWithin 34 = .ok (.goto 4, 3) := by decide +kernel
theorem dK5_hasOneWithin_37 : decode cK5_hasOneWithin 37 = .ok (.iconst 0, 1) := by decide +kernel
theorem dK5_hasOneWithin_38 : decode cK5_hasOneWithin 38 = .ok (.istore_n 2, 1) := by decide +kernel
theorem dK5_hasOneWithin_39 : decode cK5_hasOneWithin 39 = .ok (.iinc 3 1, 3) := by decide +kernel
theorem dK5_hasOneWithin_42 : decode cK5_hasOneWithin 42 = .ok (.goto (-38), 3) := by decide +kernel
theorem dK5_hasOneWithin_45 : decode cK5_hasOneWithin 45 = .ok (.iload_n 2, 1) := by decide +kernel
theorem dK5_hasOneWithin_46 : decode cK5_hasOneWithin 46 = .ok (.ireturn, 1) := by decide +kernel
theorem dK5_look_0 : decode cK5_look 0 = .ok (.aload_n 0, 1) := by decide +kernel
theorem dK5_look_1 : decode cK5_look 1 = .ok (.getfield 120, 3) := by decide +kernel
theorem dK5_look_4 : decode cK5_look 4 = .ok (.aload_n 0, 1) := by decide +kernel
theorem dK5_look_5 : decode cK5_look 5 = .ok (.getfield 38, 3) := by decide +kernel
theorem dK5_look_8 : decode cK5_look 8 = .ok (.if_icmp .ne 9, 3) := by decide +kernel
theorem dK5_look_11 : decode cK5_look 11 = .ok (.aload_n 0, 1) := by decide +kernel
theorem dK5_look_12 : decode cK5_look 12 = .ok (.iconst 0, 1) := by decide +kernel
theorem dK5_look_13 : decode cK5_look 13 = .ok (.putfield 57, 3) := by decide +kernel
theorem dK5_look_16 : decode cK5_look 16 = .ok (.return_, 1) := by decide +kernel
theorem dK5_look_17 : decode cK5_look 17 = .ok (.aload_n 0, 1) := by decide +kernel
theorem dK5_look_18 : decode cK5_look 18 = .ok (.dup, 1) := by decide +kernel
theorem dK5_look_19 : decode cK5_look 19 = .ok (.getfield 120, 3) := by decide +kernel
theorem dK5_look_22 : decode cK5_look 22 = .ok (.iconst 1, 1) := by decide +kernel
theorem dK5_look_23 : decode cK5_look 23 = .ok (.iadd, 1) := by decide +kernel
theorem dK5_look_24 : decode cK5_look 24 = .ok (.putfield 120, 3) := by decide +kernel
theorem dK5_look_27 : decode cK5_look 27 = .ok (.aload_n 0, 1) := by decide +kernel
theorem dK5_look_28 : decode cK5_look 28 = .ok (.iload_n 1, 1) := by decide +kernel
theorem dK5_look_29 : decode cK5_look 29 = .ok (.invokevirtual 88, 3) := by decide +kernel
theorem dK5_look_32 : decode cK5_look 32 = .ok (.aload_n 0, 1) := by decide +kernel
theorem dK5_look_33 : decode cK5_look 33 = .ok (.iload_n 2, 1) := by decide +kernel
theorem dK5_look_34 : decode cK5_look 34 = .ok (.iload_n 3, 1) := by decide +kernel
theorem dK5_look_35 : decode cK5_look 35 = .ok (.invokevirtual 85, 3) := by decide +kernel
theorem dK5_look_38 : decode cK5_look 38 = .ok (.ifCond .ne 41, 3) := by decide +kernel
theorem dK5_look_41 : decode cK5_look 41 = .ok (.aload_n 0, 1) := by decide +kernel
theorem dK5_look_42 : decode cK5_look 42 = .ok (.getfield 42, 3) := by decide +kernel
theorem dK5_look_45 : decode cK5_look 45 = .ok (.aload_n 0, 1) := by decide +kernel
theorem dK5_look_46 : decode cK5_look 46 = .ok (.getfield 114, 3) := by decide +kernel
theorem dK5_look_49 : decode cK5_look 49 = .ok (.iload_n 1, 1) := by decide +kernel
theorem dK5_look_50 : decode cK5_look 50 = .ok (.iastore, 1) := by decide +kernel
theorem dK5_look_51 : decode cK5_look 51 = .ok (.aload_n 0, 1) := by decide +kernel
theorem dK5_look_52 : decode cK5_look 52 = .ok (.dup, 1) := by decide +kernel
theorem dK5_look_53 : decode cK5_look 53 = .ok (.getfield 114, 3) := by decide +kernel
theorem dK5_look_56 : decode cK5_look 56 = .ok (.iconst 1, 1) := by decide +kernel
theorem dK5_look_57 : decode cK5_look 57 = .ok (.iadd, 1) := by decide +kernel
theorem dK5_look_58 : decode cK5_look 58 = .ok (.putfield 114, 3) := by decide +kernel
theorem dK5_look_61 : decode cK5_look 61 = .ok (.aload_n 0, 1) := by decide +kernel
theorem dK5_look_62 : decode cK5_look 62 = .ok (.aload_n 0, 1) := by decide +kernel
theorem dK5_look_63 : decode cK5_look 63 = .ok (.getfield 114, 3) := by decide +kernel
theorem dK5_look_66 : decode cK5_look 66 = .ok (.bipush 30, 2) := by decide +kernel
theorem dK5_look_68 : decode cK5_look 68 = .ok (.if_icmp .ge 7, 3) := by decide +kernel
theorem dK5_look_71 : decode cK5_look 71 = .ok (.iconst 1, 1) := by decide +kernel
theorem dK5_look_72 : decode cK5_look 72 = .ok (.goto 4, 3) := by decide +kernel
theorem dK5_look_75 : decode cK5_look 75 = .ok (.iconst 0, 1) := by decide +kernel
theorem dK5_look_76 : decode cK5_look 76 = .ok (.putfield 57, 3) := by decide +kernel
theorem dK5_look_79 : decode cK5_look 79 = .ok (.return_, 1) := by decide +kernel
theorem dK5_next_0 : decode cK5_next 0 = .ok (.iload_n 1, 1) := by decide +kernel
theorem dK5_next_1 : decode cK5_next 1 = .ok (.iconst 1, 1) := by decide +kernel
theorem dK5_next_2 : decode cK5_next 2 = .ok (.isub, 1) := by decide +kernel
theorem dK5_next_3 : decode cK5_next 3 = .ok (.istore_n 2, 1) := by decide +kernel
theorem dK5_next_4 : decode cK5_next 4 = .ok (.iload_n 2, 1) := by decide +kernel
theorem dK5_next_5 : decode cK5_next 5 = .ok (.ifCond .lt 26, 3) := by decide +kernel
theorem dK5_next_8 : decode cK5_next 8 = .ok (.aload_n 0, 1) := by decide +kernel
theorem dK5_next_9 : decode cK5_next 9 = .ok (.getfield 45, 3) := by decide +kernel
theorem dK5_next_12 : decode cK5_next 12 = .ok (.iload_n 2, 1) := by decide +kernel
theorem dK5_next_13 : decode cK5_next 13 = .ok (.iaload, 1) := by decide +kernel
theorem dK5_next_14 : decode cK5_next 14 = .ok (.aload_n 0, 1) := by decide +kernel
theorem dK5_next_15 : decode cK5_next 15 = .ok (.getfield 75, 3) := by decide +kernel
theorem dK5_next_18 : decode cK5_next 18 = .ok (.iload_n 1, 1) := by decide +kernel
theorem dK5_next_19 : decode cK5_next 19 = .ok (.isub, 1) := by decide +kernel
theorem dK5_next_20 : decode cK5_next 20 = .ok (.iload_n 2, 1) := by decide +kernel
theorem dK5_next_21 : decode cK5_next 21 = .ok (.iadd, 1) := by decide +kernel
theorem dK5_next_22 : decode cK5_next 22 = .ok (.if_icmp .ne 9, 3) := by decide +kernel
theorem dK5_next_25 : decode cK5_next 25 = .ok (.iinc 2 (-1), 3) := by decide +kernel
theorem dK5_next_28 : decode cK5_next 28 = .ok (.goto (-24), 3) := by decide +kernel
theorem dK5_next_31 : decode cK5_next 31 = .ok (.iload_n 2, 1) := by decide +kernel
theorem dK5_next_32 : decode cK5_next 32 = .ok (.ifCond .ge 5, 3) := by decide +kernel
theorem dK5_next_35 : decode cK5_next 35 = .ok (.iconst 0, 1) := by decide +kernel
theorem dK5_next_36 : decode cK5_next 36 = .ok (.ireturn, 1) := by decide +kernel
theorem dK5_next_37 : decode cK5_next 37 = .ok (.aload_n 0, 1) := by decide +kernel
theorem dK5_next_38 : decode cK5_next 38 = .ok (.getfield 45, 3) := by decide +kernel
theorem dK5_next_41 : decode cK5_next 41 = .ok (.iload_n 2, 1) := by decide +kernel
theorem dK5_next_42 : decode cK5_next 42 = .ok (.dup2, 1) := by decide +kernel
theorem dK5_next_43 : decode cK5_next 43 = .ok (.iaload, 1) := by decide +kernel
theorem dK5_next_44 : decode cK5_next 44 = .ok (.iconst 1, 1) := by decide +kernel
theorem dK5_next_45 : decode cK5_next 45 = .ok (.iadd, 1) := by decide +kernel
theorem dK5_next_46 : decode cK5_next 46 = .ok (.iastore, 1) := by decide +kernel
theorem dK5_next_47 : decode cK5_next 47 = .ok (.iload_n 2, 1) := by decide +kernel
theorem dK5_next_48 : decode cK5_next 48 = .ok (.iconst 1, 1) := by decide +kernel
theorem dK5_next_49 : decode cK5_next 49 = .ok (.iadd, 1) := by decide +kernel
theorem dK5_next_50 : decode cK5_next 50 = .ok (.istore_n 3, 1) := by decide +kernel
theorem dK5_next_51 : decode cK5_next 51 = .ok (.iload_n 3, 1) := by decide +kernel
theorem dK5_next_52 : decode cK5_next 52 = .ok (.iload_n 1, 1) := by decide +kernel
theorem dK5_next_53 : decode cK5_next 53 = .ok (.if_icmp .ge 25, 3) := by decide +kernel
theorem dK5_next_56 : decode cK5_next 56 = .ok (.aload_n 0, 1) := by decide +kernel
theorem dK5_next_57 : decode cK5_next 57 = .ok (.getfield 45, 3) := by decide +kernel
theorem dK5_next_60 : decode cK5_next 60 = .ok (.iload_n 3, 1) := by decide +kernel
theorem dK5_next_61 : decode cK5_next 61 = .ok (.aload_n 0, 1) := by decide +kernel
theorem dK5_next_62 : decode cK5_next 62 = .ok (.getfield 45, 3) := by decide +kernel
theorem dK5_next_65 : decode cK5_next 65 = .ok (.iload_n 3, 1) := by decide +kernel
theorem dK5_next_66 : decode cK5_next 66 = .ok (.iconst 1, 1) := by decide +kernel
theorem dK5_next_67 : decode cK5_next 67 = .ok (.isub, 1) := by decide +kernel
theorem dK5_next_68 : decode cK5_next 68 = .ok (.iaload, 1) := by decide +kernel
theorem dK5_next_69 : decode cK5_next 69 = .ok (.iconst 1, 1) := by decide +kernel
theorem dK5_next_70 : decode cK5_next 70 = .ok (.iadd, 1) := by decide +kernel
theorem dK5_next_71 : decode cK5_next 71 = .ok (.iastore, 1) := by decide +kernel
theorem dK5_next_72 : decode cK5_next 72 = .ok (.iinc 3 1, 3) := by decide +kernel
theorem dK5_next_75 : decode cK5_next 75 = .ok (.goto (-24), 3) := by decide +kernel
theorem dK5_next_78 : decode cK5_next 78 = .ok (.iconst 1, 1) := by decide +kernel
theorem dK5_next_79 : decode cK5_next 79 = .ok (.ireturn, 1) := by decide +kernel
theorem dK5_sort_0 : decode cK5_sort 0 = .ok (.iconst 1, 1) := by decide +kernel
theorem dK5_sort_1 : decode cK5_sort 1 = .ok (.istore_n 1, 1) := by decide +kernel
theorem dK5_sort_2 : decode cK5_sort 2 = .ok (.iload_n 1, 1) := by decide +kernel
theorem dK5_sort_3 : decode cK5_sort 3 = .ok (.aload_n 0, 1) := by decide +kernel
theorem dK5_sort_4 : decode cK5_sort 4 = .ok (.getfield 114, 3) := by decide +kernel
theorem dK5_sort_7 : decode cK5_sort 7 = .ok (.if_icmp .ge 101, 3) := by decide +kernel
theorem dK5_sort_10 : decode cK5_sort 10 = .ok (.aload_n 0, 1) := by decide +kernel
theorem dK5_sort_11 : decode cK5_sort 11 = .ok (.getfield 42, 3) := by decide +kernel
theorem dK5_sort_14 : decode cK5_sort 14 = .ok (.iload_n 1, 1) := by decide +kernel
theorem dK5_sort_15 : decode cK5_sort 15 = .ok (.iaload, 1) := by decide +kernel
theorem dK5_sort_16 : decode cK5_sort 16 = .ok (.istore_n 2, 1) := by decide +kernel
theorem dK5_sort_17 : decode cK5_sort 17 = .ok (.bipush 100, 2) := by decide +kernel
theorem dK5_sort_19 : decode cK5_sort 19 = .ok (.aload_n 0, 1) := by decide +kernel
theorem dK5_sort_20 : decode cK5_sort 20 = .ok (.iload_n 2, 1) := by decide +kernel
theorem dK5_sort_21 : decode cK5_sort 21 = .ok (.invokevirtual 144, 3) := by decide +kernel
theorem dK5_sort_24 : decode cK5_sort 24 = .ok (.imul, 1) := by decide +kernel
theorem dK5_sort_25 : decode cK5_sort 25 = .ok (.iload_n 2, 1) := by decide +kernel
theorem dK5_sort_26 : decode cK5_sort 26 = .ok (.invokestatic 147, 3) := by decide +kernel
theorem dK5_sort_29 : decode cK5_sort 29 = .ok (.iadd, 1) := by decide +kernel
theorem dK5_sort_30 : decode cK5_sort 30 = .ok (.istore_n 3, 1) := by decide +kernel
theorem dK5_sort_31 : decode cK5_sort 31 = .ok (.iload_n 1, 1) := by decide +kernel
theorem dK5_sort_32 : decode cK5_sort 32 = .ok (.istore 4, 2) := by decide +kernel
theorem dK5_sort_34 : decode cK5_sort 34 = .ok (.iload 4, 2) := by decide +kernel
theorem dK5_sort_36 : decode cK5_sort 36 = .ok (.ifCond .le 58, 3) := by decide +kernel
theorem dK5_sort_39 : decode cK5_sort 39 = .ok (.bipush 100, 2) := by decide +kernel
theorem dK5_sort_41 : decode cK5_sort 41 = .ok (.aload_n 0, 1) := by decide +kernel
theorem dK5_sort_42 : decode cK5_sort 42 = .ok (.aload_n 0, 1) := by decide +kernel
theorem dK5_sort_43 : decode cK5_sort 43 = .ok (.getfield 42, 3) := by decide +kernel
theorem dK5_sort_46 : decode cK5_sort 46 = .ok (.iload 4, 2) := by decide +kernel
theorem dK5_sort_48 : decode cK5_sort 48 = .ok (.iconst 1, 1) := by decide +kernel
theorem dK5_sort_49 : decode cK5_sort 49 = .ok (.isub, 1) := by decide +kernel
theorem dK5_sort_50 : decode cK5_sort 50 = .ok (.iaload, 1) := by decide +kernel
theorem dK5_sort_51 : decode cK5_sort 51 = .ok (.invokevirtual 144, 3) := by decide +kernel
theorem dK5_sort_54 : decode cK5_sort 54 = .ok (.imul, 1) := by decide +kernel
theorem dK5_sort_55 : decode cK5_sort 55 = .ok (.aload_n 0, 1) := by decide +kernel
theorem dK5_sort_56 : decode cK5_sort 56 = .ok (.getfield 42, 3) := by decide +kernel
theorem dK5_sort_59 : decode cK5_sort 59 = .ok (.iload 4, 2) := by decide +kernel
theorem dK5_sort_61 : decode cK5_sort 61 = .ok (.iconst 1, 1) := by decide +kernel
theorem dK5_sort_62 : decode cK5_sort 62 = .ok (.isub, 1) := by decide +kernel
theorem dK5_sort_63 : decode cK5_sort 63 = .ok (.iaload, 1) := by decide +kernel
theorem dK5_sort_64 : decode cK5_sort 64 = .ok (.invokestatic 147, 3) := by decide +kernel
theorem dK5_sort_67 : decode cK5_sort 67 = .ok (.iadd, 1) := by decide +kernel
theorem dK5_sort_68 : decode cK5_sort 68 = .ok (.iload_n 3, 1) := by decide +kernel
theorem dK5_sort_69 : decode cK5_sort 69 = .ok (.if_icmp .le 25, 3) := by decide +kernel
theorem dK5_sort_72 : decode cK5_sort 72 = .ok (.aload_n 0, 1) := by decide +kernel
theorem dK5_sort_73 : decode cK5_sort 73 = .ok (.getfield 42, 3) := by decide +kernel
theorem dK5_sort_76 : decode cK5_sort 76 = .ok (.iload 4, 2) := by decide +kernel
theorem dK5_sort_78 : decode cK5_sort 78 = .ok (.aload_n 0, 1) := by decide +kernel
theorem dK5_sort_79 : decode cK5_sort 79 = .ok (.getfield 42, 3) := by decide +kernel
theorem dK5_sort_82 : decode cK5_sort 82 = .ok (.iload 4, 2) := by decide +kernel
theorem dK5_sort_84 : decode cK5_sort 84 = .ok (.iconst 1, 1) := by decide +kernel
theorem dK5_sort_85 : decode cK5_sort 85 = .ok (.isub, 1) := by decide +kernel
theorem dK5_sort_86 : decode cK5_sort 86 = .ok (.iaload, 1) := by decide +kernel
theorem dK5_sort_87 : decode cK5_sort 87 = .ok (.iastore, 1) := by decide +kernel
theorem dK5_sort_88 : decode cK5_sort 88 = .ok (.iinc 4 (-1), 3) := by decide +kernel
theorem dK5_sort_91 : decode cK5_sort 91 = .ok (.goto (-57), 3) := by decide +kernel
theorem dK5_sort_94 : decode cK5_sort 94 = .ok (.aload_n 0, 1) := by decide +kernel
theorem dK5_sort_95 : decode cK5_sort 95 = .ok (.getfield 42, 3) := by decide +kernel
theorem dK5_sort_98 : decode cK5_sort 98 = .ok (.iload 4, 2) := by decide +kernel
theorem dK5_sort_100 : decode cK5_sort 100 = .ok (.iload_n 2, 1) := by decide +kernel
theorem dK5_sort_101 : decode cK5_sort 101 = .ok (.iastore, 1) := by decide +kernel
theorem dK5_sort_102 : decode cK5_sort 102 = .ok (.iinc 1 1, 3) := by decide +kernel
theorem dK5_sort_105 : decode cK5_sort 105 = .ok (.goto (-103), 3) := by decide +kernel
theorem dK5_sort_108 : decode cK5_sort 108 = .ok (.return_, 1) := by decide +kernel
theorem dK5_weightOf_0 : decode cK5_weightOf 0 = .ok (.iconst 0, 1) := by decide +kernel
theorem dK5_weightOf_1 : decode cK5_weightOf 1 = .ok (.istore_n 2, 1) := by decide +kernel
theorem dK5_weightOf_2 : decode cK5_weightOf 2 = .ok (.iconst 0, 1) := by decide +kernel
theorem dK5_weightOf_3 : decode cK5_weightOf 3 = .ok (.istore_n 3, 1) := by decide +kernel
theorem dK5_weightOf_4 : decode cK5_weightOf 4 = .ok (.iload_n 3, 1) := by decide +kernel
theorem dK5_weightOf_5 : decode cK5_weightOf 5 = .ok (.bipush 12, 2) := by decide +kernel
theorem dK5_weightOf_7 : decode cK5_weightOf 7 = .ok (.if_icmp .ge 31, 3) := by decide +kernel
theorem dK5_weightOf_10 : decode cK5_weightOf 10 = .ok (.iload_n 2, 1) := by decide +kernel
theorem dK5_weightOf_11 : decode cK5_weightOf 11 = .ok (.iload_n 1, 1) := by decide +kernel
theorem dK5_weightOf_12 : decode cK5_weightOf 12 = .ok (.iload_n 3, 1) := by decide +kernel
theorem dK5_weightOf_13 : decode cK5_weightOf 13 = .ok (.ishr, 1) := by decide +kernel
theorem dK5_weightOf_14 : decode cK5_weightOf 14 = .ok (.iconst 1, 1) := by decide +kernel
theorem dK5_weightOf_15 : decode cK5_weightOf 15 = .ok (.iand, 1) := by decide +kernel
theorem dK5_weightOf_16 : decode cK5_weightOf 16 = .ok (.iconst 1, 1) := by decide +kernel
theorem dK5_weightOf_17 : decode cK5_weightOf 17 = .ok (.if_icmp .ne 12, 3) := by decide +kernel
theorem dK5_weightOf_20 : decode cK5_weightOf 20 = .ok (.aload_n 0, 1) := by decide +kernel
theorem dK5_weightOf_21 : decode cK5_weightOf 21 = .ok (.getfield 35, 3) := by decide +kernel
theorem dK5_weightOf_24 : decode cK5_weightOf 24 = .ok (.iload_n 3, 1) := by decide +kernel
theorem dK5_weightOf_25 : decode cK5_weightOf 25 = .ok (.iaload, 1) := by decide +kernel
theorem dK5_weightOf_26 : decode cK5_weightOf 26 = .ok (.goto 4, 3) := by decide +kernel
theorem dK5_weightOf_29 : decode cK5_weightOf 29 = .ok (.iconst 0, 1) := by decide +kernel
theorem dK5_weightOf_30 : decode cK5_weightOf 30 = .ok (.iadd, 1) := by decide +kernel
theorem dK5_weightOf_31 : decode cK5_weightOf 31 = .ok (.istore_n 2, 1) := by decide +kernel
theorem dK5_weightOf_32 : decode cK5_weightOf 32 = .ok (.iinc 3 1, 3) := by decide +kernel
theorem dK5_weightOf_35 : decode cK5_weightOf 35 = .ok (.goto (-31), 3) := by decide +kernel
theorem dK5_weightOf_38 : decode cK5_weightOf 38 = .ok (.iload_n 2, 1) := by decide +kernel
theorem dK5_weightOf_39 : decode cK5_weightOf 39 = .ok (.ireturn, 1) := by decide +kernel
theorem dK5_sizeOf_0 : decode cK5_sizeOf 0 = .ok (.iconst 0, 1) := by decide +kernel
theorem dK5_sizeOf_1 : decode cK5_sizeOf 1 = .ok (.istore_n 1, 1) := by decide +kernel
theorem dK5_sizeOf_2 : decode cK5_sizeOf 2 = .ok (.iconst 0, 1) := by decide +kernel
theorem dK5_sizeOf_3 : decode cK5_sizeOf 3 = .ok (.istore_n 2, 1) := by decide +kernel
theorem dK5_sizeOf_4 : decode cK5_sizeOf 4 = .ok (.iload_n 2, 1) := by decide +kernel
theorem dK5_sizeOf_5 : decode cK5_sizeOf 5 = .ok (.bipush 12, 2) := by decide +kernel
theorem dK5_sizeOf_7 : decode cK5_sizeOf 7 = .ok (.if_icmp .ge 17, 3) := by decide +kernel
theorem dK5_sizeOf_10 : decode cK5_sizeOf 10 = .ok (.iload_n 1, 1) := by decide +kernel
theorem dK5_sizeOf_11 : decode cK5_sizeOf 11 = .ok (.iload_n 0, 1) := by decide +kernel
theorem dK5_sizeOf_12 : decode cK5_sizeOf 12 = .ok (.iload_n 2, 1) := by decide +kernel
theorem dK5_sizeOf_13 : decode cK5_sizeOf 13 = .ok (.ishr, 1) := by decide +kernel
theorem dK5_sizeOf_14 : decode cK5_sizeOf 14 = .ok (.iconst 1, 1) := by decide +kernel
theorem dK5_sizeOf_15 : decode cK5_sizeOf 15 = .ok (.iand, 1) := by decide +kernel
theorem dK5_sizeOf_16 : decode cK5_sizeOf 16 = .ok (.iadd, 1) := by decide +kernel
theorem dK5_sizeOf_17 : decode cK5_sizeOf 17 = .ok (.istore_n 1, 1) := by decide +kernel
theorem dK5_sizeOf_18 : decode cK5_sizeOf 18 = .ok (.iinc 2 1, 3) := by decide +kernel
theorem dK5_sizeOf_21 : decode cK5_sizeOf 21 = .ok (.goto (-17), 3) := by decide +kernel
theorem dK5_sizeOf_24 : decode cK5_sizeOf 24 = .ok (.iload_n 1, 1) := by decide +kernel
theorem dK5_sizeOf_25 : decode cK5_sizeOf 25 = .ok (.ireturn, 1) := by decide +kernel
theorem dK5_cover_0 : decode cK5_cover 0 = .ok (.iload_n 1, 1) := by decide +kernel
theorem dK5_cover_1 : decode cK5_cover 1 = .ok (.iconst 0, 1) := by decide +kernel
theorem dK5_cover_2 : decode cK5_cover 2 = .ok (.bipush 12, 2) := by decide +kernel
theorem dK5_cover_4 : decode cK5_cover 4 = .ok (.invokestatic 61, 3) := by decide +kernel
theorem dK5_cover_7 : decode cK5_cover 7 = .ok (.ifCond .ne 5, 3) := by decide +kernel
theorem dK5_cover_10 : decode cK5_cover 10 = .ok (.iconst (-1), 1) := by decide +kernel
theorem dK5_cover_11 : decode cK5_cover 11 = .ok (.ireturn, 1) := by decide +kernel
theorem dK5_cover_12 : decode cK5_cover 12 = .ok (.aload_n 0, 1) := by decide +kernel
theorem dK5_cover_13 : decode cK5_cover 13 = .ok (.iconst 0, 1) := by decide +kernel
theorem dK5_cover_14 : decode cK5_cover 14 = .ok (.putfield 120, 3) := by decide +kernel
theorem dK5_cover_17 : decode cK5_cover 17 = .ok (.aload_n 0, 1) := by decide +kernel
theorem dK5_cover_18 : decode cK5_cover 18 = .ok (.iconst 1, 1) := by decide +kernel
theorem dK5_cover_19 : decode cK5_cover 19 = .ok (.putfield 57, 3) := by decide +kernel
theorem dK5_cover_22 : decode cK5_cover 22 = .ok (.aload_n 0, 1) := by decide +kernel
theorem dK5_cover_23 : decode cK5_cover 23 = .ok (.iconst 0, 1) := by decide +kernel
theorem dK5_cover_24 : decode cK5_cover 24 = .ok (.putfield 117, 3) := by decide +kernel
theorem dK5_cover_27 : decode cK5_cover 27 = .ok (.iconst 0, 1) := by decide +kernel
theorem dK5_cover_28 : decode cK5_cover 28 = .ok (.istore_n 2, 1) := by decide +kernel
theorem dK5_cover_29 : decode cK5_cover 29 = .ok (.iload_n 2, 1) := by decide +kernel
theorem dK5_cover_30 : decode cK5_cover 30 = .ok (.iload_n 1, 1) := by decide +kernel
theorem dK5_cover_31 : decode cK5_cover 31 = .ok (.if_icmp .gt 72, 3) := by decide +kernel
theorem dK5_cover_34 : decode cK5_cover 34 = .ok (.iload_n 2, 1) := by decide +kernel
theorem dK5_cover_35 : decode cK5_cover 35 = .ok (.aload_n 0, 1) := by decide +kernel
theorem dK5_cover_36 : decode cK5_cover 36 = .ok (.getfield 75, 3) := by decide +kernel
theorem dK5_cover_39 : decode cK5_cover 39 = .ok (.if_icmp .gt 64, 3) := by decide +kernel
theorem dK5_cover_42 : decode cK5_cover 42 = .ok (.aload_n 0, 1) := by decide +kernel
theorem dK5_cover_43 : decode cK5_cover 43 = .ok (.getfield 57, 3) := by decide +kernel
theorem dK5_cover_46 : decode cK5_cover 46 = .ok (.ifCond .eq 57, 3) := by decide +kernel
theorem dK5_cover_49 : decode cK5_cover 49 = .ok (.aload_n 0, 1) := by decide +kernel
theorem dK5_cover_50 : decode cK5_cover 50 = .ok (.iload_n 2, 1) := by decide +kernel
theorem dK5_cover_51 : decode cK5_cover 51 = .ok (.invokevirtual 123, 3) := by decide +kernel
theorem dK5_cover_54 : decode cK5_cover 54 = .ok (.iconst 1, 1) := by decide +kernel
theorem dK5_cover_55 : decode cK5_cover 55 = .ok (.istore_n 3, 1) := by decide +kernel
theorem dK5_cover_56 : decode cK5_cover 56 = .ok (.iload_n 3, 1) := by decide +kernel
theorem dK5_cover_57 : decode cK5_cover 57 = .ok (.ifCond .eq 40, 3) := by decide +kernel
theorem dK5_cover_60 : decode cK5_cover 60 = .ok (.aload_n 0, 1) := by decide +kernel
theorem dK5_cover_61 : decode cK5_cover 61 = .ok (.getfield 57, 3) := by decide +kernel
theorem dK5_cover_64 : decode cK5_cover 64 = .ok (.ifCond .eq 33, 3) := by decide +kernel
theorem dK5_cover_67 : decode cK5_cover 67 = .ok (.aload_n 0, 1) := by decide +kernel
theorem dK5_cover_68 : decode cK5_cover 68 = .ok (.aload_n 0, 1) := by decide +kernel
theorem dK5_cover_69 : decode cK5_cover 69 = .ok (.iload_n 2, 1) := by decide +kernel
theorem dK5_cover_70 : decode cK5_cover 70 = .ok (.invokevirtual 126, 3) := by decide +kernel
theorem dK5_cover_73 : decode cK5_cover 73 = .ok (.invokevirtual 150, 3) := by decide +kernel
theorem dK5_cover_76 : decode cK5_cover 76 = .ok (.iload_n 2, 1) := by decide +kernel
theorem dK5_cover_77 : decode cK5_cover 77 = .ok (.ifCond .le 15, 3) := by decide +kernel
theorem dK5_cover_80 : decode cK5_cover 80 = .ok (.aload_n 0, 1) := by decide +kernel
theorem dK5_cover_81 : decode cK5_cover 81 = .ok (.iload_n 2, 1) := by decide +kernel
theorem dK5_cover_82 : decode cK5_cover 82 = .ok (.invokevirtual 138, 3) := by decide +kernel
theorem dK5_cover_85 : decode cK5_cover 85 = .ok (.ifCond .eq 7, 3) := by decide +kernel
theorem dK5_cover_88 : decode cK5_cover 88 = .ok (.iconst 1, 1) := by decide +kernel
theorem dK5_cover_89 : decode cK5_cover 89 = .ok (.goto 4, 3) := by decide +kernel
theorem dK5_cover_92 : decode cK5_cover 92 = .ok (.iconst 0, 1) := by decide +kernel
theorem dK5_cover_93 : decode cK5_cover 93 = .ok (.istore_n 3, 1) := by decide +kernel
theorem dK5_cover_94 : decode cK5_cover 94 = .ok (.goto (-38), 3) := by decide +kernel
theorem dK5_cover_97 : decode cK5_cover 97 = .ok (.iinc 2 1, 3) := by decide +kernel
theorem dK5_cover_100 : decode cK5_cover 100 = .ok (.goto (-71), 3) := by decide +kernel
theorem dK5_cover_103 : decode cK5_cover 103 = .ok (.aload_n 0, 1) := by decide +kernel
theorem dK5_cover_104 : decode cK5_cover 104 = .ok (.getfield 117, 3) := by decide +kernel
theorem dK5_cover_107 : decode cK5_cover 107 = .ok (.ifCond .eq 14, 3) := by decide +kernel
theorem dK5_cover_110 : decode cK5_cover 110 = .ok (.aload_n 0, 1) := by decide +kernel
theorem dK5_cover_111 : decode cK5_cover 111 = .ok (.aload_n 0, 1) := by decide +kernel
theorem dK5_cover_112 : decode cK5_cover 112 = .ok (.getfield 153, 3) := by decide +kernel
theorem dK5_cover_115 : decode cK5_cover 115 = .ok (.invokevirtual 144, 3) := by decide +kernel
theorem dK5_cover_118 : decode cK5_cover 118 = .ok (.goto 5, 3) := by decide +kernel
theorem dK5_cover_121 : decode cK5_cover 121 = .ok (.bipush (-2), 2) := by decide +kernel
theorem dK5_cover_123 : decode cK5_cover 123 = .ok (.ireturn, 1) := by decide +kernel
theorem dK5_weigh_0 : decode cK5_weigh 0 = .ok (.aload_n 0, 1) := by decide +kernel
theorem dK5_weigh_1 : decode cK5_weigh 1 = .ok (.getfield 120, 3) := by decide +kernel
theorem dK5_weigh_4 : decode cK5_weigh 4 = .ok (.aload_n 0, 1) := by decide +kernel
theorem dK5_weigh_5 : decode cK5_weigh 5 = .ok (.getfield 38, 3) := by decide +kernel
theorem dK5_weigh_8 : decode cK5_weigh 8 = .ok (.if_icmp .ne 9, 3) := by decide +kernel
theorem dK5_weigh_11 : decode cK5_weigh 11 = .ok (.aload_n 0, 1) := by decide +kernel
theorem dK5_weigh_12 : decode cK5_weigh 12 = .ok (.iconst 0, 1) := by decide +kernel
theorem dK5_weigh_13 : decode cK5_weigh 13 = .ok (.putfield 57, 3) := by decide +kernel
theorem dK5_weigh_16 : decode cK5_weigh 16 = .ok (.return_, 1) := by decide +kernel
theorem dK5_weigh_17 : decode cK5_weigh 17 = .ok (.aload_n 0, 1) := by decide +kernel
theorem dK5_weigh_18 : decode cK5_weigh 18 = .ok (.dup, 1) := by decide +kernel
theorem dK5_weigh_19 : decode cK5_weigh 19 = .ok (.getfield 120, 3) := by decide +kernel
theorem dK5_weigh_22 : decode cK5_weigh 22 = .ok (.iconst 1, 1) := by decide +kernel
theorem dK5_weigh_23 : decode cK5_weigh 23 = .ok (.iadd, 1) := by decide +kernel
theorem dK5_weigh_24 : decode cK5_weigh 24 = .ok (.putfield 120, 3) := by decide +kernel
theorem dK5_weigh_27 : decode cK5_weigh 27 = .ok (.aload_n 0, 1) := by decide +kernel
theorem dK5_weigh_28 : decode cK5_weigh 28 = .ok (.iload_n 1, 1) := by decide +kernel
theorem dK5_weigh_29 : decode cK5_weigh 29 = .ok (.invokevirtual 88, 3) := by decide +kernel
theorem dK5_weigh_32 : decode cK5_weigh 32 = .ok (.aload_n 0, 1) := by decide +kernel
theorem dK5_weigh_33 : decode cK5_weigh 33 = .ok (.invokevirtual 92, 3) := by decide +kernel
theorem dK5_weigh_36 : decode cK5_weigh 36 = .ok (.ifCond .ne 57, 3) := by decide +kernel
theorem dK5_weigh_39 : decode cK5_weigh 39 = .ok (.bipush 100, 2) := by decide +kernel
theorem dK5_weigh_41 : decode cK5_weigh 41 = .ok (.aload_n 0, 1) := by decide +kernel
theorem dK5_weigh_42 : decode cK5_weigh 42 = .ok (.iload_n 1, 1) := by decide +kernel
theorem dK5_weigh_43 : decode cK5_weigh 43 = .ok (.invokevirtual 144, 3) := by decide +kernel
theorem dK5_weigh_46 : decode cK5_weigh 46 = .ok (.imul, 1) := by decide +kernel
theorem dK5_weigh_47 : decode cK5_weigh 47 = .ok (.iload_n 1, 1) := by decide +kernel
theorem dK5_weigh_48 : decode cK5_weigh 48 = .ok (.invokestatic 147, 3) := by decide +kernel
theorem dK5_weigh_51 : decode cK5_weigh 51 = .ok (.iadd, 1) := by decide +kernel
theorem dK5_weigh_52 : decode cK5_weigh 52 = .ok (.istore_n 2, 1) := by decide +kernel
theorem dK5_weigh_53 : decode cK5_weigh 53 = .ok (.aload_n 0, 1) := by decide +kernel
theorem dK5_weigh_54 : decode cK5_weigh 54 = .ok (.getfield 117, 3) := by decide +kernel
theorem dK5_weigh_57 : decode cK5_weigh 57 = .ok (.ifCond .eq 26, 3) := by decide +kernel
