theorem dX12_gains_252 : decode cX12_gains 252 = .ok (.getfield 13, 3) := by decide +kernel
theorem dX12_gains_255 : decode cX12_gains 255 = .ok (.iconst 1, 1) := by decide +kernel
theorem dX12_gains_256 : decode cX12_gains 256 = .ok (.iaload, 1) := by decide +kernel
theorem dX12_gains_257 : decode cX12_gains 257 = .ok (.goto 4, 3) := by decide +kernel
theorem dX12_gains_260 : decode cX12_gains 260 = .ok (.iconst 0, 1) := by decide +kernel
theorem dX12_gains_261 : decode cX12_gains 261 = .ok (.aload_n 0, 1) := by decide +kernel
theorem dX12_gains_262 : decode cX12_gains 262 = .ok (.getfield 13, 3) := by decide +kernel
theorem dX12_gains_265 : decode cX12_gains 265 = .ok (.iconst 3, 1) := by decide +kernel
theorem dX12_gains_266 : decode cX12_gains 266 = .ok (.iload 8, 2) := by decide +kernel
theorem dX12_gains_268 : decode cX12_gains 268 = .ok (.iadd, 1) := by decide +kernel
theorem dX12_gains_269 : decode cX12_gains 269 = .ok (.iconst 1, 1) := by decide +kernel
theorem dX12_gains_270 : decode cX12_gains 270 = .ok (.iadd, 1) := by decide +kernel
theorem dX12_gains_271 : decode cX12_gains 271 = .ok (.iaload, 1) := by decide +kernel
theorem dX12_gains_272 : decode cX12_gains 272 = .ok (.isub, 1) := by decide +kernel
theorem dX12_gains_273 : decode cX12_gains 273 = .ok (.istore 14, 2) := by decide +kernel
theorem dX12_gains_275 : decode cX12_gains 275 = .ok (.lload 4, 2) := by decide +kernel
theorem dX12_gains_277 : decode cX12_gains 277 = .ok (.aload_n 0, 1) := by decide +kernel
theorem dX12_gains_278 : decode cX12_gains 278 = .ok (.iload 6, 2) := by decide +kernel
theorem dX12_gains_280 : decode cX12_gains 280 = .ok (.ifCond .eq 10, 3) := by decide +kernel
theorem dX12_gains_283 : decode cX12_gains 283 = .ok (.aload_n 0, 1) := by decide +kernel
theorem dX12_gains_284 : decode cX12_gains 284 = .ok (.getfield 44, 3) := by decide +kernel
theorem dX12_gains_287 : decode cX12_gains 287 = .ok (.goto 7, 3) := by decide +kernel
theorem dX12_gains_290 : decode cX12_gains 290 = .ok (.aload_n 0, 1) := by decide +kernel
theorem dX12_gains_291 : decode cX12_gains 291 = .ok (.getfield 40, 3) := by decide +kernel
theorem dX12_gains_294 : decode cX12_gains 294 = .ok (.iload_n 1, 1) := by decide +kernel
theorem dX12_gains_295 : decode cX12_gains 295 = .ok (.iload 8, 2) := by decide +kernel
theorem dX12_gains_297 : decode cX12_gains 297 = .ok (.iload 7, 2) := by decide +kernel
theorem dX12_gains_299 : decode cX12_gains 299 = .ok (.invokevirtual 266, 3) := by decide +kernel
theorem dX12_gains_302 : decode cX12_gains 302 = .ok (.iload 14, 2) := by decide +kernel
theorem dX12_gains_304 : decode cX12_gains 304 = .ok (.i2l, 1) := by decide +kernel
theorem dX12_gains_305 : decode cX12_gains 305 = .ok (.lmul, 1) := by decide +kernel
theorem dX12_gains_306 : decode cX12_gains 306 = .ok (.aload_n 0, 1) := by decide +kernel
theorem dX12_gains_307 : decode cX12_gains 307 = .ok (.getfield 47, 3) := by decide +kernel
theorem dX12_gains_310 : decode cX12_gains 310 = .ok (.iload 8, 2) := by decide +kernel
theorem dX12_gains_312 : decode cX12_gains 312 = .ok (.laload, 1) := by decide +kernel
theorem dX12_gains_313 : decode cX12_gains 313 = .ok (.lmul, 1) := by decide +kernel
theorem dX12_gains_314 : decode cX12_gains 314 = .ok (.ladd, 1) := by decide +kernel
theorem dX12_gains_315 : decode cX12_gains 315 = .ok (.lstore 4, 2) := by decide +kernel
theorem dX12_gains_317 : decode cX12_gains 317 = .ok (.iload 7, 2) := by decide +kernel
theorem dX12_gains_319 : decode cX12_gains 319 = .ok (.iload 13, 2) := by decide +kernel
theorem dX12_gains_321 : decode cX12_gains 321 = .ok (.ifCond .eq 7, 3) := by decide +kernel
theorem dX12_gains_324 : decode cX12_gains 324 = .ok (.iconst 1, 1) := by decide +kernel
theorem dX12_gains_325 : decode cX12_gains 325 = .ok (.goto 4, 3) := by decide +kernel
theorem dX12_gains_328 : decode cX12_gains 328 = .ok (.iconst 0, 1) := by decide +kernel
theorem dX12_gains_329 : decode cX12_gains 329 = .ok (.iadd, 1) := by decide +kernel
theorem dX12_gains_330 : decode cX12_gains 330 = .ok (.istore 7, 2) := by decide +kernel
theorem dX12_gains_332 : decode cX12_gains 332 = .ok (.iinc 8 1, 3) := by decide +kernel
theorem dX12_gains_335 : decode cX12_gains 335 = .ok (.goto (-313), 3) := by decide +kernel
theorem dX12_gains_338 : decode cX12_gains 338 = .ok (.lload 4, 2) := by decide +kernel
theorem dX12_gains_340 : decode cX12_gains 340 = .ok (.lreturn, 1) := by decide +kernel
theorem dX12_gain_0 : decode cX12_gain 0 = .ok (.aload_n 0, 1) := by decide +kernel
theorem dX12_gain_1 : decode cX12_gain 1 = .ok (.aload_n 0, 1) := by decide +kernel
theorem dX12_gain_2 : decode cX12_gain 2 = .ok (.iload_n 1, 1) := by decide +kernel
theorem dX12_gain_3 : decode cX12_gain 3 = .ok (.invokevirtual 194, 3) := by decide +kernel
theorem dX12_gain_6 : decode cX12_gain 6 = .ok (.ifCond .eq 43, 3) := by decide +kernel
theorem dX12_gain_9 : decode cX12_gain 9 = .ok (.iload_n 2, 1) := by decide +kernel
theorem dX12_gain_10 : decode cX12_gain 10 = .ok (.iconst 0, 1) := by decide +kernel
theorem dX12_gain_11 : decode cX12_gain 11 = .ok (.iconst 1, 1) := by decide +kernel
theorem dX12_gain_12 : decode cX12_gain 12 = .ok (.aload_n 0, 1) := by decide +kernel
theorem dX12_gain_13 : decode cX12_gain 13 = .ok (.getfield 13, 3) := by decide +kernel
theorem dX12_gain_16 : decode cX12_gain 16 = .ok (.iconst 2, 1) := by decide +kernel
theorem dX12_gain_17 : decode cX12_gain 17 = .ok (.iaload, 1) := by decide +kernel
theorem dX12_gain_18 : decode cX12_gain 18 = .ok (.ishl, 1) := by decide +kernel
theorem dX12_gain_19 : decode cX12_gain 19 = .ok (.iconst 1, 1) := by decide +kernel
theorem dX12_gain_20 : decode cX12_gain 20 = .ok (.isub, 1) := by decide +kernel
theorem dX12_gain_21 : decode cX12_gain 21 = .ok (.invokestatic 88, 3) := by decide +kernel
theorem dX12_gain_24 : decode cX12_gain 24 = .ok (.ifCond .eq 25, 3) := by decide +kernel
theorem dX12_gain_27 : decode cX12_gain 27 = .ok (.iload_n 3, 1) := by decide +kernel
theorem dX12_gain_28 : decode cX12_gain 28 = .ok (.iconst (-1), 1) := by decide +kernel
theorem dX12_gain_29 : decode cX12_gain 29 = .ok (.aload_n 0, 1) := by decide +kernel
theorem dX12_gain_30 : decode cX12_gain 30 = .ok (.getfield 13, 3) := by decide +kernel
theorem dX12_gain_33 : decode cX12_gain 33 = .ok (.iconst 2, 1) := by decide +kernel
theorem dX12_gain_34 : decode cX12_gain 34 = .ok (.iaload, 1) := by decide +kernel
theorem dX12_gain_35 : decode cX12_gain 35 = .ok (.invokestatic 88, 3) := by decide +kernel
theorem dX12_gain_38 : decode cX12_gain 38 = .ok (.ifCond .eq 11, 3) := by decide +kernel
theorem dX12_gain_41 : decode cX12_gain 41 = .ok (.iload 4, 2) := by decide +kernel
theorem dX12_gain_43 : decode cX12_gain 43 = .ok (.invokestatic 248, 3) := by decide +kernel
theorem dX12_gain_46 : decode cX12_gain 46 = .ok (.ifCond .ne 7, 3) := by decide +kernel
theorem dX12_gain_49 : decode cX12_gain 49 = .ok (.iconst 1, 1) := by decide +kernel
theorem dX12_gain_50 : decode cX12_gain 50 = .ok (.goto 4, 3) := by decide +kernel
theorem dX12_gain_53 : decode cX12_gain 53 = .ok (.iconst 0, 1) := by decide +kernel
theorem dX12_gain_54 : decode cX12_gain 54 = .ok (.invokevirtual 251, 3) := by decide +kernel
theorem dX12_gain_57 : decode cX12_gain 57 = .ok (.ifCond .eq 5, 3) := by decide +kernel
theorem dX12_gain_60 : decode cX12_gain 60 = .ok (.lconst 0, 1) := by decide +kernel
theorem dX12_gain_61 : decode cX12_gain 61 = .ok (.lreturn, 1) := by decide +kernel
theorem dX12_gain_62 : decode cX12_gain 62 = .ok (.aload_n 0, 1) := by decide +kernel
theorem dX12_gain_63 : decode cX12_gain 63 = .ok (.invokevirtual 255, 3) := by decide +kernel
theorem dX12_gain_66 : decode cX12_gain 66 = .ok (.aload_n 0, 1) := by decide +kernel
theorem dX12_gain_67 : decode cX12_gain 67 = .ok (.iload_n 1, 1) := by decide +kernel
theorem dX12_gain_68 : decode cX12_gain 68 = .ok (.iload_n 2, 1) := by decide +kernel
theorem dX12_gain_69 : decode cX12_gain 69 = .ok (.iload_n 3, 1) := by decide +kernel
theorem dX12_gain_70 : decode cX12_gain 70 = .ok (.invokevirtual 288, 3) := by decide +kernel
theorem dX12_gain_73 : decode cX12_gain 73 = .ok (.aload_n 0, 1) := by decide +kernel
theorem dX12_gain_74 : decode cX12_gain 74 = .ok (.getfield 47, 3) := by decide +kernel
theorem dX12_gain_77 : decode cX12_gain 77 = .ok (.aload_n 0, 1) := by decide +kernel
theorem dX12_gain_78 : decode cX12_gain 78 = .ok (.getfield 13, 3) := by decide +kernel
theorem dX12_gain_81 : decode cX12_gain 81 = .ok (.iconst 2, 1) := by decide +kernel
theorem dX12_gain_82 : decode cX12_gain 82 = .ok (.iaload, 1) := by decide +kernel
theorem dX12_gain_83 : decode cX12_gain 83 = .ok (.laload, 1) := by decide +kernel
theorem dX12_gain_84 : decode cX12_gain 84 = .ok (.iload 4, 2) := by decide +kernel
theorem dX12_gain_86 : decode cX12_gain 86 = .ok (.invokestatic 262, 3) := by decide +kernel
theorem dX12_gain_89 : decode cX12_gain 89 = .ok (.lreturn, 1) := by decide +kernel
theorem dX12_richest_0 : decode cX12_richest 0 = .ok (.aload_n 0, 1) := by decide +kernel
theorem dX12_richest_1 : decode cX12_richest 1 = .ok (.iconst 0, 1) := by decide +kernel
theorem dX12_richest_2 : decode cX12_richest 2 = .ok (.putfield 1, 3) := by decide +kernel
theorem dX12_richest_5 : decode cX12_richest 5 = .ok (.aload_n 0, 1) := by decide +kernel
theorem dX12_richest_6 : decode cX12_richest 6 = .ok (.iload_n 1, 1) := by decide +kernel
theorem dX12_richest_7 : decode cX12_richest 7 = .ok (.invokevirtual 194, 3) := by decide +kernel
theorem dX12_richest_10 : decode cX12_richest 10 = .ok (.ifCond .eq 17, 3) := by decide +kernel
theorem dX12_richest_13 : decode cX12_richest 13 = .ok (.iload_n 2, 1) := by decide +kernel
theorem dX12_richest_14 : decode cX12_richest 14 = .ok (.iconst (-1), 1) := by decide +kernel
theorem dX12_richest_15 : decode cX12_richest 15 = .ok (.aload_n 0, 1) := by decide +kernel
theorem dX12_richest_16 : decode cX12_richest 16 = .ok (.getfield 13, 3) := by decide +kernel
theorem dX12_richest_19 : decode cX12_richest 19 = .ok (.iconst 2, 1) := by decide +kernel
theorem dX12_richest_20 : decode cX12_richest 20 = .ok (.iaload, 1) := by decide +kernel
theorem dX12_richest_21 : decode cX12_richest 21 = .ok (.invokestatic 88, 3) := by decide +kernel
theorem dX12_richest_24 : decode cX12_richest 24 = .ok (.ifCond .ne 5, 3) := by decide +kernel
theorem dX12_richest_27 : decode cX12_richest 27 = .ok (.iconst (-1), 1) := by decide +kernel
theorem dX12_richest_28 : decode cX12_richest 28 = .ok (.ireturn, 1) := by decide +kernel
theorem dX12_richest_29 : decode cX12_richest 29 = .ok (.aload_n 0, 1) := by decide +kernel
theorem dX12_richest_30 : decode cX12_richest 30 = .ok (.invokevirtual 255, 3) := by decide +kernel
theorem dX12_richest_33 : decode cX12_richest 33 = .ok (.iconst 0, 1) := by decide +kernel
theorem dX12_richest_34 : decode cX12_richest 34 = .ok (.istore_n 3, 1) := by decide +kernel
theorem dX12_richest_35 : decode cX12_richest 35 = .ok (.aload_n 0, 1) := by decide +kernel
theorem dX12_richest_36 : decode cX12_richest 36 = .ok (.iload_n 1, 1) := by decide +kernel
theorem dX12_richest_37 : decode cX12_richest 37 = .ok (.iconst 0, 1) := by decide +kernel
theorem dX12_richest_38 : decode cX12_richest 38 = .ok (.iload_n 2, 1) := by decide +kernel
theorem dX12_richest_39 : decode cX12_richest 39 = .ok (.invokevirtual 288, 3) := by decide +kernel
theorem dX12_richest_42 : decode cX12_richest 42 = .ok (.lstore 4, 2) := by decide +kernel
theorem dX12_richest_44 : decode cX12_richest 44 = .ok (.iconst 1, 1) := by decide +kernel
theorem dX12_richest_45 : decode cX12_richest 45 = .ok (.istore 6, 2) := by decide +kernel
theorem dX12_richest_47 : decode cX12_richest 47 = .ok (.iload 6, 2) := by decide +kernel
theorem dX12_richest_49 : decode cX12_richest 49 = .ok (.iconst 1, 1) := by decide +kernel
theorem dX12_richest_50 : decode cX12_richest 50 = .ok (.aload_n 0, 1) := by decide +kernel
theorem dX12_richest_51 : decode cX12_richest 51 = .ok (.getfield 13, 3) := by decide +kernel
theorem dX12_richest_54 : decode cX12_richest 54 = .ok (.iconst 2, 1) := by decide +kernel
theorem dX12_richest_55 : decode cX12_richest 55 = .ok (.iaload, 1) := by decide +kernel
theorem dX12_richest_56 : decode cX12_richest 56 = .ok (.ishl, 1) := by decide +kernel
theorem dX12_richest_57 : decode cX12_richest 57 = .ok (.if_icmp .ge 37, 3) := by decide +kernel
theorem dX12_richest_60 : decode cX12_richest 60 = .ok (.aload_n 0, 1) := by decide +kernel
theorem dX12_richest_61 : decode cX12_richest 61 = .ok (.iload_n 1, 1) := by decide +kernel
theorem dX12_richest_62 : decode cX12_richest 62 = .ok (.iload 6, 2) := by decide +kernel
theorem dX12_richest_64 : decode cX12_richest 64 = .ok (.iload_n 2, 1) := by decide +kernel
theorem dX12_richest_65 : decode cX12_richest 65 = .ok (.invokevirtual 288, 3) := by decide +kernel
theorem dX12_richest_68 : decode cX12_richest 68 = .ok (.lstore 7, 2) := by decide +kernel
theorem dX12_richest_70 : decode cX12_richest 70 = .ok (.lload 7, 2) := by decide +kernel
theorem dX12_richest_72 : decode cX12_richest 72 = .ok (.lload 4, 2) := by decide +kernel
theorem dX12_richest_74 : decode cX12_richest 74 = .ok (.lcmp, 1) := by decide +kernel
theorem dX12_richest_75 : decode cX12_richest 75 = .ok (.ifCond .gt 6, 3) := by decide +kernel
theorem dX12_richest_78 : decode cX12_richest 78 = .ok (.goto 10, 3) := by decide +kernel
theorem dX12_richest_81 : decode cX12_richest 81 = .ok (.iload 6, 2) := by decide +kernel
theorem dX12_richest_83 : decode cX12_richest 83 = .ok (.istore_n 3, 1) := by decide +kernel
theorem dX12_richest_84 : decode cX12_richest 84 = .ok (.lload 7, 2) := by decide +kernel
theorem dX12_richest_86 : decode cX12_richest 86 = .ok (.lstore 4, 2) := by decide +kernel
theorem dX12_richest_88 : decode cX12_richest 88 = .ok (.iinc 6 1, 3) := by decide +kernel
theorem dX12_richest_91 : decode cX12_richest 91 = .ok (.goto (-44), 3) := by decide +kernel
theorem dX12_richest_94 : decode cX12_richest 94 = .ok (.iload_n 3, 1) := by decide +kernel
theorem dX12_richest_95 : decode cX12_richest 95 = .ok (.ireturn, 1) := by decide +kernel
theorem dX12_isWorth_0 : decode cX12_isWorth 0 = .ok (.aload_n 0, 1) := by decide +kernel
theorem dX12_isWorth_1 : decode cX12_isWorth 1 = .ok (.getfield 13, 3) := by decide +kernel
theorem dX12_isWorth_4 : decode cX12_isWorth 4 = .ok (.bipush 30, 2) := by decide +kernel
theorem dX12_isWorth_6 : decode cX12_isWorth 6 = .ok (.bipush 10, 2) := by decide +kernel
theorem dX12_isWorth_8 : decode cX12_isWorth 8 = .ok (.iload_n 1, 1) := by decide +kernel
theorem dX12_isWorth_9 : decode cX12_isWorth 9 = .ok (.imul, 1) := by decide +kernel
theorem dX12_isWorth_10 : decode cX12_isWorth 10 = .ok (.iadd, 1) := by decide +kernel
theorem dX12_isWorth_11 : decode cX12_isWorth 11 = .ok (.iconst 1, 1) := by decide +kernel
theorem dX12_isWorth_12 : decode cX12_isWorth 12 = .ok (.iadd, 1) := by decide +kernel
theorem dX12_isWorth_13 : decode cX12_isWorth 13 = .ok (.iload_n 2, 1) := by decide +kernel
theorem dX12_isWorth_14 : decode cX12_isWorth 14 = .ok (.iastore, 1) := by decide +kernel
theorem dX12_isWorth_15 : decode cX12_isWorth 15 = .ok (.aload_n 0, 1) := by decide +kernel
theorem dX12_isWorth_16 : decode cX12_isWorth 16 = .ok (.iload_n 1, 1) := by decide +kernel
theorem dX12_isWorth_17 : decode cX12_isWorth 17 = .ok (.invokevirtual 241, 3) := by decide +kernel
theorem dX12_isWorth_20 : decode cX12_isWorth 20 = .ok (.iload_n 3, 1) := by decide +kernel
theorem dX12_isWorth_21 : decode cX12_isWorth 21 = .ok (.ifCond .lt 39, 3) := by decide +kernel
theorem dX12_isWorth_24 : decode cX12_isWorth 24 = .ok (.iload_n 3, 1) := by decide +kernel
theorem dX12_isWorth_25 : decode cX12_isWorth 25 = .ok (.sipush 9999, 3) := by decide +kernel
theorem dX12_isWorth_28 : decode cX12_isWorth 28 = .ok (.if_icmp .ge 36, 3) := by decide +kernel
theorem dX12_isWorth_31 : decode cX12_isWorth 31 = .ok (.aload_n 0, 1) := by decide +kernel
theorem dX12_isWorth_32 : decode cX12_isWorth 32 = .ok (.getfield 40, 3) := by decide +kernel
theorem dX12_isWorth_35 : decode cX12_isWorth 35 = .ok (.iload_n 1, 1) := by decide +kernel
theorem dX12_isWorth_36 : decode cX12_isWorth 36 = .ok (.iconst 0, 1) := by decide +kernel
theorem dX12_isWorth_37 : decode cX12_isWorth 37 = .ok (.iconst 0, 1) := by decide +kernel
theorem dX12_isWorth_38 : decode cX12_isWorth 38 = .ok (.invokestatic 215, 3) := by decide +kernel
theorem dX12_isWorth_41 : decode cX12_isWorth 41 = .ok (.laload, 1) := by decide +kernel
theorem dX12_isWorth_42 : decode cX12_isWorth 42 = .ok (.iload_n 3, 1) := by decide +kernel
theorem dX12_isWorth_43 : decode cX12_isWorth 43 = .ok (.i2l, 1) := by decide +kernel
theorem dX12_isWorth_44 : decode cX12_isWorth 44 = .ok (.aload_n 0, 1) := by decide +kernel
theorem dX12_isWorth_45 : decode cX12_isWorth 45 = .ok (.getfield 47, 3) := by decide +kernel
theorem dX12_isWorth_48 : decode cX12_isWorth 48 = .ok (.aload_n 0, 1) := by decide +kernel
theorem dX12_isWorth_49 : decode cX12_isWorth 49 = .ok (.getfield 13, 3) := by decide +kernel
theorem dX12_isWorth_52 : decode cX12_isWorth 52 = .ok (.iconst 2, 1) := by decide +kernel
theorem dX12_isWorth_53 : decode cX12_isWorth 53 = .ok (.iaload, 1) := by decide +kernel
theorem dX12_isWorth_54 : decode cX12_isWorth 54 = .ok (.laload, 1) := by decide +kernel
theorem dX12_isWorth_55 : decode cX12_isWorth 55 = .ok (.lmul, 1) := by decide +kernel
theorem dX12_isWorth_56 : decode cX12_isWorth 56 = .ok (.lcmp, 1) := by decide +kernel
theorem dX12_isWorth_57 : decode cX12_isWorth 57 = .ok (.ifCond .lt 7, 3) := by decide +kernel
theorem dX12_isWorth_60 : decode cX12_isWorth 60 = .ok (.iconst 1, 1) := by decide +kernel
theorem dX12_isWorth_61 : decode cX12_isWorth 61 = .ok (.goto 4, 3) := by decide +kernel
theorem dX12_isWorth_64 : decode cX12_isWorth 64 = .ok (.iconst 0, 1) := by decide +kernel
theorem dX12_isWorth_65 : decode cX12_isWorth 65 = .ok (.ireturn, 1) := by decide +kernel
theorem dX12_strike_0 : decode cX12_strike 0 = .ok (.aload_n 0, 1) := by decide +kernel
theorem dX12_strike_1 : decode cX12_strike 1 = .ok (.iconst 0, 1) := by decide +kernel
theorem dX12_strike_2 : decode cX12_strike 2 = .ok (.putfield 1, 3) := by decide +kernel
theorem dX12_strike_5 : decode cX12_strike 5 = .ok (.aload_n 0, 1) := by decide +kernel
theorem dX12_strike_6 : decode cX12_strike 6 = .ok (.iload_n 1, 1) := by decide +kernel
theorem dX12_strike_7 : decode cX12_strike 7 = .ok (.invokevirtual 194, 3) := by decide +kernel
theorem dX12_strike_10 : decode cX12_strike 10 = .ok (.ifCond .eq 13, 3) := by decide +kernel
theorem dX12_strike_13 : decode cX12_strike 13 = .ok (.aload_n 0, 1) := by decide +kernel
theorem dX12_strike_14 : decode cX12_strike 14 = .ok (.iload_n 1, 1) := by decide +kernel
theorem dX12_strike_15 : decode cX12_strike 15 = .ok (.iconst 0, 1) := by decide +kernel
theorem dX12_strike_16 : decode cX12_strike 16 = .ok (.invokevirtual 191, 3) := by decide +kernel
theorem dX12_strike_19 : decode cX12_strike 19 = .ok (.iconst 1, 1) := by decide +kernel
theorem dX12_strike_20 : decode cX12_strike 20 = .ok (.if_icmp .le 5, 3) := by decide +kernel
theorem dX12_strike_23 : decode cX12_strike 23 = .ok (.iconst (-1), 1) := by decide +kernel
theorem dX12_strike_24 : decode cX12_strike 24 = .ok (.ireturn, 1) := by decide +kernel
theorem dX12_strike_25 : decode cX12_strike 25 = .ok (.aload_n 0, 1) := by decide +kernel
theorem dX12_strike_26 : decode cX12_strike 26 = .ok (.invokevirtual 255, 3) := by decide +kernel
theorem dX12_strike_29 : decode cX12_strike 29 = .ok (.aload_n 0, 1) := by decide +kernel
theorem dX12_strike_30 : decode cX12_strike 30 = .ok (.iload_n 1, 1) := by decide +kernel
theorem dX12_strike_31 : decode cX12_strike 31 = .ok (.iconst 1, 1) := by decide +kernel
theorem dX12_strike_32 : decode cX12_strike 32 = .ok (.invokevirtual 191, 3) := by decide +kernel
theorem dX12_strike_35 : decode cX12_strike 35 = .ok (.istore_n 3, 1) := by decide +kernel
theorem dX12_strike_36 : decode cX12_strike 36 = .ok (.iconst (-1), 1) := by decide +kernel
theorem dX12_strike_37 : decode cX12_strike 37 = .ok (.istore 4, 2) := by decide +kernel
theorem dX12_strike_39 : decode cX12_strike 39 = .ok (.iconst 0, 1) := by decide +kernel
theorem dX12_strike_40 : decode cX12_strike 40 = .ok (.istore 5, 2) := by decide +kernel
theorem dX12_strike_42 : decode cX12_strike 42 = .ok (.iload 5, 2) := by decide +kernel
theorem dX12_strike_44 : decode cX12_strike 44 = .ok (.sipush 1000, 3) := by decide +kernel
theorem dX12_strike_47 : decode cX12_strike 47 = .ok (.if_icmp .ge 51, 3) := by decide +kernel
theorem dX12_strike_50 : decode cX12_strike 50 = .ok (.iload 4, 2) := by decide +kernel
theorem dX12_strike_52 : decode cX12_strike 52 = .ok (.ifCond .ge 46, 3) := by decide +kernel
theorem dX12_strike_55 : decode cX12_strike 55 = .ok (.aload_n 0, 1) := by decide +kernel
theorem dX12_strike_56 : decode cX12_strike 56 = .ok (.iload_n 1, 1) := by decide +kernel
theorem dX12_strike_57 : decode cX12_strike 57 = .ok (.iconst 0, 1) := by decide +kernel
theorem dX12_strike_58 : decode cX12_strike 58 = .ok (.invokevirtual 191, 3) := by decide +kernel
theorem dX12_strike_61 : decode cX12_strike 61 = .ok (.ifCond .ne 12, 3) := by decide +kernel
theorem dX12_strike_64 : decode cX12_strike 64 = .ok (.sipush 999, 3) := by decide +kernel
theorem dX12_strike_67 : decode cX12_strike 67 = .ok (.iload 5, 2) := by decide +kernel
theorem dX12_strike_69 : decode cX12_strike 69 = .ok (.isub, 1) := by decide +kernel
theorem dX12_strike_70 : decode cX12_strike 70 = .ok (.goto 5, 3) := by decide +kernel
theorem dX12_strike_73 : decode cX12_strike 73 = .ok (.iload 5, 2) := by decide +kernel
theorem dX12_strike_75 : decode cX12_strike 75 = .ok (.istore 6, 2) := by decide +kernel
theorem dX12_strike_77 : decode cX12_strike 77 = .ok (.aload_n 0, 1) := by decide +kernel
theorem dX12_strike_78 : decode cX12_strike 78 = .ok (.iload_n 1, 1) := by decide +kernel
theorem dX12_strike_79 : decode cX12_strike 79 = .ok (.iload 6, 2) := by decide +kernel
theorem dX12_strike_81 : decode cX12_strike 81 = .ok (.iload_n 2, 1) := by decide +kernel
theorem dX12_strike_82 : decode cX12_strike 82 = .ok (.invokevirtual 291, 3) := by decide +kernel
theorem dX12_strike_85 : decode cX12_strike 85 = .ok (.ifCond .eq 7, 3) := by decide +kernel
theorem dX12_strike_88 : decode cX12_strike 88 = .ok (.iload 6, 2) := by decide +kernel
theorem dX12_strike_90 : decode cX12_strike 90 = .ok (.istore 4, 2) := by decide +kernel
theorem dX12_strike_92 : decode cX12_strike 92 = .ok (.iinc 5 1, 3) := by decide +kernel
theorem dX12_strike_95 : decode cX12_strike 95 = .ok (.goto (-53), 3) := by decide +kernel
theorem dX12_strike_98 : decode cX12_strike 98 = .ok (.aload_n 0, 1) := by decide +kernel
theorem dX12_strike_99 : decode cX12_strike 99 = .ok (.getfield 13, 3) := by decide +kernel
theorem dX12_strike_102 : decode cX12_strike 102 = .ok (.bipush 30, 2) := by decide +kernel
theorem dX12_strike_104 : decode cX12_strike 104 = .ok (.bipush 10, 2) := by decide +kernel
theorem dX12_strike_106 : decode cX12_strike 106 = .ok (.iload_n 1, 1) := by decide +kernel
theorem dX12_strike_107 : decode cX12_strike 107 = .ok (.imul, 1) := by decide +kernel
theorem dX12_strike_108 : decode cX12_strike 108 = .ok (.iadd, 1) := by decide +kernel
theorem dX12_strike_109 : decode cX12_strike 109 = .ok (.iconst 1, 1) := by decide +kernel
theorem dX12_strike_110 : decode cX12_strike 110 = .ok (.iadd, 1) := by decide +kernel
theorem dX12_strike_111 : decode cX12_strike 111 = .ok (.iload_n 3, 1) := by decide +kernel
theorem dX12_strike_112 : decode cX12_strike 112 = .ok (.iastore, 1) := by decide +kernel
theorem dX12_strike_113 : decode cX12_strike 113 = .ok (.aload_n 0, 1) := by decide +kernel
theorem dX12_strike_114 : decode cX12_strike 114 = .ok (.iconst 0, 1) := by decide +kernel
theorem dX12_strike_115 : decode cX12_strike 115 = .ok (.putfield 180, 3) := by decide +kernel
theorem dX12_strike_118 : decode cX12_strike 118 = .ok (.iload 4, 2) := by decide +kernel
theorem dX12_strike_120 : decode cX12_strike 120 = .ok (.ireturn, 1) := by decide +kernel
theorem dX12_early_0 : decode cX12_early 0 = .ok (.aload_n 0, 1) := by decide +kernel
theorem dX12_early_1 : decode cX12_early 1 = .ok (.aload_n 0, 1) := by decide +kernel
theorem dX12_early_2 : decode cX12_early 2 = .ok (.iload_n 1, 1) := by decide +kernel
theorem dX12_early_3 : decode cX12_early 3 = .ok (.invokevirtual 194, 3) := by decide +kernel
theorem dX12_early_6 : decode cX12_early 6 = .ok (.ifCond .eq 10, 3) := by decide +kernel
theorem dX12_early_9 : decode cX12_early 9 = .ok (.iload_n 2, 1) := by decide +kernel
theorem dX12_early_10 : decode cX12_early 10 = .ok (.invokestatic 248, 3) := by decide +kernel
theorem dX12_early_13 : decode cX12_early 13 = .ok (.ifCond .ne 7, 3) := by decide +kernel
theorem dX12_early_16 : decode cX12_early 16 = .ok (.iconst 1, 1) := by decide +kernel
theorem dX12_early_17 : decode cX12_early 17 = .ok (.goto 4, 3) := by decide +kernel
theorem dX12_early_20 : decode cX12_early 20 = .ok (.iconst 0, 1) := by decide +kernel
theorem dX12_early_21 : decode cX12_early 21 = .ok (.invokevirtual 251, 3) := by decide +kernel
theorem dX12_early_24 : decode cX12_early 24 = .ok (.ifCond .eq 5, 3) := by decide +kernel
theorem dX12_early_27 : decode cX12_early 27 = .ok (.lconst 0, 1) := by decide +kernel
theorem dX12_early_28 : decode cX12_early 28 = .ok (.lreturn, 1) := by decide +kernel
theorem dX12_early_29 : decode cX12_early 29 = .ok (.aload_n 0, 1) := by decide +kernel
theorem dX12_early_30 : decode cX12_early 30 = .ok (.invokevirtual 255, 3) := by decide +kernel
theorem dX12_early_33 : decode cX12_early 33 = .ok (.aload_n 0, 1) := by decide +kernel
theorem dX12_early_34 : decode cX12_early 34 = .ok (.getfield 40, 3) := by decide +kernel
theorem dX12_early_37 : decode cX12_early 37 = .ok (.iload_n 1, 1) := by decide +kernel
theorem dX12_early_38 : decode cX12_early 38 = .ok (.iconst 0, 1) := by decide +kernel
theorem dX12_early_39 : decode cX12_early 39 = .ok (.iconst 0, 1) := by decide +kernel
theorem dX12_early_40 : decode cX12_early 40 = .ok (.invokestatic 215, 3) := by decide +kernel
theorem dX12_early_43 : decode cX12_early 43 = .ok (.laload, 1) := by decide +kernel
theorem dX12_early_44 : decode cX12_early 44 = .ok (.lstore_n 3, 1) := by decide +kernel
theorem dX12_early_45 : decode cX12_early 45 = .ok (.aload_n 0, 1) := by decide +kernel
theorem dX12_early_46 : decode cX12_early 46 = .ok (.iload_n 1, 1) := by decide +kernel
theorem dX12_early_47 : decode cX12_early 47 = .ok (.iconst 3, 1) := by decide +kernel
theorem dX12_early_48 : decode cX12_early 48 = .ok (.invokevirtual 191, 3) := by decide +kernel
theorem dX12_early_51 : decode cX12_early 51 = .ok (.istore 5, 2) := by decide +kernel
theorem dX12_early_53 : decode cX12_early 53 = .ok (.aload_n 0, 1) := by decide +kernel
theorem dX12_early_54 : decode cX12_early 54 = .ok (.getfield 13, 3) := by decide +kernel
theorem dX12_early_57 : decode cX12_early 57 = .ok (.bipush 30, 2) := by decide +kernel
theorem dX12_early_59 : decode cX12_early 59 = .ok (.bipush 10, 2) := by decide +kernel
theorem dX12_early_61 : decode cX12_early 61 = .ok (.iload_n 1, 1) := by decide +kernel
theorem dX12_early_62 : decode cX12_early 62 = .ok (.imul, 1) := by decide +kernel
theorem dX12_early_63 : decode cX12_early 63 = .ok (.iadd, 1) := by decide +kernel
theorem dX12_early_64 : decode cX12_early 64 = .ok (.iconst 3, 1) := by decide +kernel
theorem dX12_early_65 : decode cX12_early 65 = .ok (.iadd, 1) := by decide +kernel
theorem dX12_early_66 : decode cX12_early 66 = .ok (.bipush 99, 2) := by decide +kernel
theorem dX12_early_68 : decode cX12_early 68 = .ok (.iastore, 1) := by decide +kernel
theorem dX12_early_69 : decode cX12_early 69 = .ok (.aload_n 0, 1) := by decide +kernel
theorem dX12_early_70 : decode cX12_early 70 = .ok (.iload_n 1, 1) := by decide +kernel
theorem dX12_early_71 : decode cX12_early 71 = .ok (.invokevirtual 241, 3) := by decide +kernel
theorem dX12_early_74 : decode cX12_early 74 = .ok (.aload_n 0, 1) := by decide +kernel
theorem dX12_early_75 : decode cX12_early 75 = .ok (.getfield 40, 3) := by decide +kernel
theorem dX12_early_78 : decode cX12_early 78 = .ok (.iload_n 1, 1) := by decide +kernel
theorem dX12_early_79 : decode cX12_early 79 = .ok (.iconst 0, 1) := by decide +kernel
theorem dX12_early_80 : decode cX12_early 80 = .ok (.iconst 0, 1) := by decide +kernel
theorem dX12_early_81 : decode cX12_early 81 = .ok (.invokestatic 215, 3) := by decide +kernel
theorem dX12_early_84 : decode cX12_early 84 = .ok (.laload, 1) := by decide +kernel
theorem dX12_early_85 : decode cX12_early 85 = .ok (.lstore 6, 2) := by decide +kernel
theorem dX12_early_87 : decode cX12_early 87 = .ok (.aload_n 0, 1) := by decide +kernel
theorem dX12_early_88 : decode cX12_early 88 = .ok (.getfield 13, 3) := by decide +kernel
theorem dX12_early_91 : decode cX12_early 91 = .ok (.bipush 30, 2) := by decide +kernel
theorem dX12_early_93 : decode cX12_early 93 = .ok (.bipush 10, 2) := by decide +kernel
theorem dX12_early_95 : decode cX12_early 95 = .ok (.iload_n 1, 1) := by decide +kernel
theorem dX12_early_96 : decode cX12_early 96 = .ok (.imul, 1) := by decide +kernel
theorem dX12_early_97 : decode cX12_early 97 = .ok (.iadd, 1) := by decide +kernel
theorem dX12_early_98 : decode cX12_early 98 = .ok (.iconst 3, 1) := by decide +kernel
theorem dX12_early_99 : decode cX12_early 99 = .ok (.iadd, 1) := by decide +kernel
theorem dX12_early_100 : decode cX12_early 100 = .ok (.iload 5, 2) := by decide +kernel
theorem dX12_early_102 : decode cX12_early 102 = .ok (.iastore, 1) := by decide +kernel
theorem dX12_early_103 : decode cX12_early 103 = .ok (.aload_n 0, 1) := by decide +kernel
theorem dX12_early_104 : decode cX12_early 104 = .ok (.iconst 0, 1) := by decide +kernel
theorem dX12_early_105 : decode cX12_early 105 = .ok (.putfield 180, 3) := by decide +kernel
theorem dX12_early_108 : decode cX12_early 108 = .ok (.lload_n 3, 1) := by decide +kernel
theorem dX12_early_109 : decode cX12_early 109 = .ok (.lload 6, 2) := by decide +kernel
theorem dX12_early_111 : decode cX12_early 111 = .ok (.lsub, 1) := by decide +kernel
theorem dX12_early_112 : decode cX12_early 112 = .ok (.aload_n 0, 1) := by decide +kernel
theorem dX12_early_113 : decode cX12_early 113 = .ok (.getfield 47, 3) := by decide +kernel
theorem dX12_early_116 : decode cX12_early 116 = .ok (.aload_n 0, 1) := by decide +kernel
theorem dX12_early_117 : decode cX12_early 117 = .ok (.getfield 13, 3) := by decide +kernel
theorem dX12_early_120 : decode cX12_early 120 = .ok (.iconst 2, 1) := by decide +kernel
theorem dX12_early_121 : decode cX12_early 121 = .ok (.iaload, 1) := by decide +kernel
theorem dX12_early_122 : decode cX12_early 122 = .ok (.laload, 1) := by decide +kernel
theorem dX12_early_123 : decode cX12_early 123 = .ok (.iload_n 2, 1) := by decide +kernel
theorem dX12_early_124 : decode cX12_early 124 = .ok (.invokestatic 262, 3) := by decide +kernel
theorem dX12_early_127 : decode cX12_early 127 = .ok (.lreturn, 1) := by decide +kernel
theorem dX12_isReached_0 : decode cX12_isReached 0 = .ok (.iload_n 2, 1) := by decide +kernel
theorem dX12_isReached_1 : decode cX12_isReached 1 = .ok (.iconst 1, 1) := by decide +kernel
theorem dX12_isReached_2 : decode cX12_isReached 2 = .ok (.if_icmp .ne 16, 3) := by decide +kernel
theorem dX12_isReached_5 : decode cX12_isReached 5 = .ok (.iload_n 0, 1) := by decide +kernel
theorem dX12_isReached_6 : decode cX12_isReached 6 = .ok (.iload_n 1, 1) := by decide +kernel
theorem dX12_isReached_7 : decode cX12_isReached 7 = .ok (.if_icmp .lt 7, 3) := by decide +kernel
theorem dX12_isReached_10 : decode cX12_isReached 10 = .ok (.iconst 1, 1) := by decide +kernel
theorem dX12_isReached_11 : decode cX12_isReached 11 = .ok (.goto 17, 3) := by decide +kernel
theorem dX12_isReached_14 : decode cX12_isReached 14 = .ok (.iconst 0, 1) := by decide +kernel
theorem dX12_isReached_15 : decode cX12_isReached 15 = .ok (.goto 13, 3) := by decide +kernel
theorem dX12_isReached_18 : decode cX12_isReached 18 = .ok (.iload_n 0, 1) := by decide +kernel
theorem dX12_isReached_19 : decode cX12_isReached 19 = .ok (.iload_n 1, 1) := by decide +kernel
theorem dX12_isReached_20 : decode cX12_isReached 20 = .ok (.if_icmp .gt 7, 3) := by decide +kernel
theorem dX12_isReached_23 : decode cX12_isReached 23 = .ok (.iconst 1, 1) := by decide +kernel
theorem dX12_isReached_24 : decode cX12_isReached 24 = .ok (.goto 4, 3) := by decide +kernel
theorem dX12_isReached_27 : decode cX12_isReached 27 = .ok (.iconst 0, 1) := by decide +kernel
theorem dX12_isReached_28 : decode cX12_isReached 28 = .ok (.ireturn, 1) := by decide +kernel
theorem dX12_chosen_0 : decode cX12_chosen 0 = .ok (.aload_n 0, 1) := by decide +kernel
theorem dX12_chosen_1 : decode cX12_chosen 1 = .ok (.iload_n 2, 1) := by decide +kernel
theorem dX12_chosen_2 : decode cX12_chosen 2 = .ok (.iload_n 3, 1) := by decide +kernel
theorem dX12_chosen_3 : decode cX12_chosen 3 = .ok (.iload 4, 2) := by decide +kernel
theorem dX12_chosen_5 : decode cX12_chosen 5 = .ok (.invokevirtual 223, 3) := by decide +kernel
theorem dX12_chosen_8 : decode cX12_chosen 8 = .ok (.lstore 6, 2) := by decide +kernel
theorem dX12_chosen_10 : decode cX12_chosen 10 = .ok (.lload 6, 2) := by decide +kernel
theorem dX12_chosen_12 : decode cX12_chosen 12 = .ok (.lconst 0, 1) := by decide +kernel
theorem dX12_chosen_13 : decode cX12_chosen 13 = .ok (.lcmp, 1) := by decide +kernel
theorem dX12_chosen_14 : decode cX12_chosen 14 = .ok (.ifCond .le 30, 3) := by decide +kernel
theorem dX12_chosen_17 : decode cX12_chosen 17 = .ok (.aload_n 0, 1) := by decide +kernel
theorem dX12_chosen_18 : decode cX12_chosen 18 = .ok (.iload_n 2, 1) := by decide +kernel
theorem dX12_chosen_19 : decode cX12_chosen 19 = .ok (.iload_n 3, 1) := by decide +kernel
theorem dX12_chosen_20 : decode cX12_chosen 20 = .ok (.invokevirtual 227, 3) := by decide +kernel
theorem dX12_chosen_23 : decode cX12_chosen 23 = .ok (.ifCond .eq 21, 3) := by decide +kernel
theorem dX12_chosen_26 : decode cX12_chosen 26 = .ok (.iload 5, 2) := by decide +kernel
theorem dX12_chosen_28 : decode cX12_chosen 28 = .ok (.ifCond .ne 13, 3) := by decide +kernel
theorem dX12_chosen_31 : decode cX12_chosen 31 = .ok (.iload_n 3, 1) := by decide +kernel
theorem dX12_chosen_32 : decode cX12_chosen 32 = .ok (.aload_n 0, 1) := by decide +kernel
theorem dX12_chosen_33 : decode cX12_chosen 33 = .ok (.getfield 13, 3) := by decide +kernel
theorem dX12_chosen_36 : decode cX12_chosen 36 = .ok (.iconst 2, 1) := by decide +kernel
theorem dX12_chosen_37 : decode cX12_chosen 37 = .ok (.iaload, 1) := by decide +kernel
theorem dX12_chosen_38 : decode cX12_chosen 38 = .ok (.if_icmp .ne 6, 3) := by decide +kernel
theorem dX12_chosen_41 : decode cX12_chosen 41 = .ok (.lload 6, 2) := by decide +kernel
theorem dX12_chosen_43 : decode cX12_chosen 43 = .ok (.lreturn, 1) := by decide +kernel
theorem dX12_chosen_44 : decode cX12_chosen 44 = .ok (.iload_n 3, 1) := by decide +kernel
theorem dX12_chosen_45 : decode cX12_chosen 45 = .ok (.aload_n 0, 1) := by decide +kernel
theorem dX12_chosen_46 : decode cX12_chosen 46 = .ok (.getfield 13, 3) := by decide +kernel
theorem dX12_chosen_49 : decode cX12_chosen 49 = .ok (.iconst 2, 1) := by decide +kernel
theorem dX12_chosen_50 : decode cX12_chosen 50 = .ok (.iaload, 1) := by decide +kernel
theorem dX12_chosen_51 : decode cX12_chosen 51 = .ok (.if_icmp .ne 5, 3) := by decide +kernel
theorem dX12_chosen_54 : decode cX12_chosen 54 = .ok (.lconst 0, 1) := by decide +kernel
theorem dX12_chosen_55 : decode cX12_chosen 55 = .ok (.lreturn, 1) := by decide +kernel
theorem dX12_chosen_56 : decode cX12_chosen 56 = .ok (.aload_n 0, 1) := by decide +kernel
theorem dX12_chosen_57 : decode cX12_chosen 57 = .ok (.aload_n 1, 1) := by decide +kernel
theorem dX12_chosen_58 : decode cX12_chosen 58 = .ok (.iload_n 3, 1) := by decide +kernel
theorem dX12_chosen_59 : decode cX12_chosen 59 = .ok (.iload 4, 2) := by decide +kernel
theorem dX12_chosen_61 : decode cX12_chosen 61 = .ok (.invokevirtual 294, 3) := by decide +kernel
theorem dX12_chosen_64 : decode cX12_chosen 64 = .ok (.lreturn, 1) := by decide +kernel
theorem dX12_heldOf0_0 : decode cX12_heldOf0 0 = .ok (.iload_n 2, 1) := by decide +kernel
theorem dX12_heldOf0_1 : decode cX12_heldOf0 1 = .ok (.aload_n 0, 1) := by decide +kernel
theorem dX12_heldOf0_2 : decode cX12_heldOf0 2 = .ok (.getfield 13, 3) := by decide +kernel
theorem dX12_heldOf0_5 : decode cX12_heldOf0 5 = .ok (.iconst 2, 1) := by decide +kernel
theorem dX12_heldOf0_6 : decode cX12_heldOf0 6 = .ok (.iaload, 1) := by decide +kernel
theorem dX12_heldOf0_7 : decode cX12_heldOf0 7 = .ok (.if_icmp .ne 5, 3) := by decide +kernel
theorem dX12_heldOf0_10 : decode cX12_heldOf0 10 = .ok (.lconst 0, 1) := by decide +kernel
theorem dX12_heldOf0_11 : decode cX12_heldOf0 11 = .ok (.lreturn, 1) := by decide +kernel
theorem dX12_heldOf0_12 : decode cX12_heldOf0 12 = .ok (.aload_n 0, 1) := by decide +kernel
theorem dX12_heldOf0_13 : decode cX12_heldOf0 13 = .ok (.getfield 13, 3) := by decide +kernel
theorem dX12_heldOf0_16 : decode cX12_heldOf0 16 = .ok (.iconst 3, 1) := by decide +kernel
theorem dX12_heldOf0_17 : decode cX12_heldOf0 17 = .ok (.iload_n 2, 1) := by decide +kernel
theorem dX12_heldOf0_18 : decode cX12_heldOf0 18 = .ok (.iadd, 1) := by decide +kernel
theorem dX12_heldOf0_19 : decode cX12_heldOf0 19 = .ok (.iconst 1, 1) := by decide +kernel
theorem dX12_heldOf0_20 : decode cX12_heldOf0 20 = .ok (.iadd, 1) := by decide +kernel
theorem dX12_heldOf0_21 : decode cX12_heldOf0 21 = .ok (.iaload, 1) := by decide +kernel
theorem dX12_heldOf0_22 : decode cX12_heldOf0 22 = .ok (.istore 4, 2) := by decide +kernel
theorem dX12_heldOf0_24 : decode cX12_heldOf0 24 = .ok (.iload 4, 2) := by decide +kernel
theorem dX12_heldOf0_26 : decode cX12_heldOf0 26 = .ok (.i2l, 1) := by decide +kernel
theorem dX12_heldOf0_27 : decode cX12_heldOf0 27 = .ok (.aload_n 1, 1) := by decide +kernel
theorem dX12_heldOf0_28 : decode cX12_heldOf0 28 = .ok (.bipush 13, 2) := by decide +kernel
theorem dX12_heldOf0_30 : decode cX12_heldOf0 30 = .ok (.iload_n 2, 1) := by decide +kernel
theorem dX12_heldOf0_31 : decode cX12_heldOf0 31 = .ok (.imul, 1) := by decide +kernel
theorem dX12_heldOf0_32 : decode cX12_heldOf0 32 = .ok (.bipush 13, 2) := by decide +kernel
theorem dX12_heldOf0_34 : decode cX12_heldOf0 34 = .ok (.iadd, 1) := by decide +kernel
theorem dX12_heldOf0_35 : decode cX12_heldOf0 35 = .ok (.iload_n 3, 1) := by decide +kernel
theorem dX12_heldOf0_36 : decode cX12_heldOf0 36 = .ok (.iadd, 1) := by decide +kernel
theorem dX12_heldOf0_37 : decode cX12_heldOf0 37 = .ok (.iconst 1, 1) := by decide +kernel
theorem dX12_heldOf0_38 : decode cX12_heldOf0 38 = .ok (.iadd, 1) := by decide +kernel
theorem dX12_heldOf0_39 : decode cX12_heldOf0 39 = .ok (.laload, 1) := by decide +kernel
theorem dX12_heldOf0_40 : decode cX12_heldOf0 40 = .ok (.lmul, 1) := by decide +kernel
theorem dX12_heldOf0_41 : decode cX12_heldOf0 41 = .ok (.aload_n 0, 1) := by decide +kernel
theorem dX12_heldOf0_42 : decode cX12_heldOf0 42 = .ok (.getfield 13, 3) := by decide +kernel
theorem dX12_heldOf0_45 : decode cX12_heldOf0 45 = .ok (.iconst 1, 1) := by decide +kernel
theorem dX12_heldOf0_46 : decode cX12_heldOf0 46 = .ok (.iaload, 1) := by decide +kernel
theorem dX12_heldOf0_47 : decode cX12_heldOf0 47 = .ok (.iload 4, 2) := by decide +kernel
theorem dX12_heldOf0_49 : decode cX12_heldOf0 49 = .ok (.isub, 1) := by decide +kernel
theorem dX12_heldOf0_50 : decode cX12_heldOf0 50 = .ok (.i2l, 1) := by decide +kernel
theorem dX12_heldOf0_51 : decode cX12_heldOf0 51 = .ok (.aload_n 1, 1) := by decide +kernel
theorem dX12_heldOf0_52 : decode cX12_heldOf0 52 = .ok (.bipush 13, 2) := by decide +kernel
theorem dX12_heldOf0_54 : decode cX12_heldOf0 54 = .ok (.iload_n 2, 1) := by decide +kernel
theorem dX12_heldOf0_55 : decode cX12_heldOf0 55 = .ok (.imul, 1) := by decide +kernel
theorem dX12_heldOf0_56 : decode cX12_heldOf0 56 = .ok (.bipush 13, 2) := by decide +kernel
theorem dX12_heldOf0_58 : decode cX12_heldOf0 58 = .ok (.iadd, 1) := by decide +kernel
theorem dX12_heldOf0_59 : decode cX12_heldOf0 59 = .ok (.iload_n 3, 1) := by decide +kernel
theorem dX12_heldOf0_60 : decode cX12_heldOf0 60 = .ok (.iadd, 1) := by decide +kernel
theorem dX12_heldOf0_61 : decode cX12_heldOf0 61 = .ok (.laload, 1) := by decide +kernel
theorem dX12_heldOf0_62 : decode cX12_heldOf0 62 = .ok (.lmul, 1) := by decide +kernel
theorem dX12_heldOf0_63 : decode cX12_heldOf0 63 = .ok (.ladd, 1) := by decide +kernel
theorem dX12_heldOf0_64 : decode cX12_heldOf0 64 = .ok (.lreturn, 1) := by decide +kernel
theorem dX12_worthAt_0 : decode cX12_worthAt 0 = .ok (.aload_n 0, 1) := by decide +kernel
theorem dX12_worthAt_1 : decode cX12_worthAt 1 = .ok (.iload_n 1, 1) := by decide +kernel
theorem dX12_worthAt_2 : decode cX12_worthAt 2 = .ok (.iconst 4, 1) := by decide +kernel
theorem dX12_worthAt_3 : decode cX12_worthAt 3 = .ok (.invokevirtual 191, 3) := by decide +kernel
theorem dX12_worthAt_6 : decode cX12_worthAt 6 = .ok (.istore 4, 2) := by decide +kernel
theorem dX12_worthAt_8 : decode cX12_worthAt 8 = .ok (.aload_n 0, 1) := by decide +kernel
theorem dX12_worthAt_9 : decode cX12_worthAt 9 = .ok (.getfield 13, 3) := by decide +kernel
theorem dX12_worthAt_12 : decode cX12_worthAt 12 = .ok (.iconst 2, 1) := by decide +kernel
theorem dX12_worthAt_13 : decode cX12_worthAt 13 = .ok (.iaload, 1) := by decide +kernel
theorem dX12_worthAt_14 : decode cX12_worthAt 14 = .ok (.istore 5, 2) := by decide +kernel
theorem dX12_worthAt_16 : decode cX12_worthAt 16 = .ok (.iload 5, 2) := by decide +kernel
theorem dX12_worthAt_18 : decode cX12_worthAt 18 = .ok (.ifCond .lt 191, 3) := by decide +kernel
theorem dX12_worthAt_21 : decode cX12_worthAt 21 = .ok (.iconst 0, 1) := by decide +kernel
theorem dX12_worthAt_22 : decode cX12_worthAt 22 = .ok (.istore 6, 2) := by decide +kernel
theorem dX12_worthAt_24 : decode cX12_worthAt 24 = .ok (.iload 6, 2) := by decide +kernel
theorem dX12_worthAt_26 : decode cX12_worthAt 26 = .ok (.iload 5, 2) := by decide +kernel
theorem dX12_worthAt_28 : decode cX12_worthAt 28 = .ok (.if_icmp .gt 175, 3) := by decide +kernel
theorem dX12_worthAt_31 : decode cX12_worthAt 31 = .ok (.aload_n 0, 1) := by decide +kernel
theorem dX12_worthAt_32 : decode cX12_worthAt 32 = .ok (.iload 5, 2) := by decide +kernel
theorem dX12_worthAt_34 : decode cX12_worthAt 34 = .ok (.iload 6, 2) := by decide +kernel
theorem dX12_worthAt_36 : decode cX12_worthAt 36 = .ok (.invokevirtual 204, 3) := by decide +kernel
theorem dX12_worthAt_39 : decode cX12_worthAt 39 = .ok (.iload_n 2, 1) := by decide +kernel
theorem dX12_worthAt_40 : decode cX12_worthAt 40 = .ok (.iload_n 3, 1) := by decide +kernel
theorem dX12_worthAt_41 : decode cX12_worthAt 41 = .ok (.invokestatic 298, 3) := by decide +kernel
theorem dX12_worthAt_44 : decode cX12_worthAt 44 = .ok (.istore 7, 2) := by decide +kernel
theorem dX12_worthAt_46 : decode cX12_worthAt 46 = .ok (.iload 4, 2) := by decide +kernel
theorem dX12_worthAt_48 : decode cX12_worthAt 48 = .ok (.ifCond .le 19, 3) := by decide +kernel
theorem dX12_worthAt_51 : decode cX12_worthAt 51 = .ok (.aload_n 0, 1) := by decide +kernel
theorem dX12_worthAt_52 : decode cX12_worthAt 52 = .ok (.iload_n 1, 1) := by decide +kernel
theorem dX12_worthAt_53 : decode cX12_worthAt 53 = .ok (.iload 5, 2) := by decide +kernel
theorem dX12_worthAt_55 : decode cX12_worthAt 55 = .ok (.iload 6, 2) := by decide +kernel
theorem dX12_worthAt_57 : decode cX12_worthAt 57 = .ok (.invokevirtual 234, 3) := by decide +kernel
theorem dX12_worthAt_60 : decode cX12_worthAt 60 = .ok (.ifCond .eq 7, 3) := by decide +kernel
theorem dX12_worthAt_63 : decode cX12_worthAt 63 = .ok (.iconst 1, 1) := by decide +kernel
theorem dX12_worthAt_64 : decode cX12_worthAt 64 = .ok (.goto 4, 3) := by decide +kernel
theorem dX12_worthAt_67 : decode cX12_worthAt 67 = .ok (.iconst 0, 1) := by decide +kernel
theorem dX12_worthAt_68 : decode cX12_worthAt 68 = .ok (.istore 8, 2) := by decide +kernel
theorem dX12_worthAt_70 : decode cX12_worthAt 70 = .ok (.bipush 13, 2) := by decide +kernel
theorem dX12_worthAt_72 : decode cX12_worthAt 72 = .ok (.iload 5, 2) := by decide +kernel
theorem dX12_worthAt_74 : decode cX12_worthAt 74 = .ok (.imul, 1) := by decide +kernel
theorem dX12_worthAt_75 : decode cX12_worthAt 75 = .ok (.iload 6, 2) := by decide +kernel
theorem dX12_worthAt_77 : decode cX12_worthAt 77 = .ok (.iadd, 1) := by decide +kernel
theorem dX12_worthAt_78 : decode cX12_worthAt 78 = .ok (.istore 9, 2) := by decide +kernel
theorem dX12_worthAt_80 : decode cX12_worthAt 80 = .ok (.aload_n 0, 1) := by decide +kernel
theorem dX12_worthAt_81 : decode cX12_worthAt 81 = .ok (.getfield 68, 3) := by decide +kernel
theorem dX12_worthAt_84 : decode cX12_worthAt 84 = .ok (.iload 9, 2) := by decide +kernel
theorem dX12_worthAt_86 : decode cX12_worthAt 86 = .ok (.aload_n 0, 1) := by decide +kernel
theorem dX12_worthAt_87 : decode cX12_worthAt 87 = .ok (.aload_n 0, 1) := by decide +kernel
theorem dX12_worthAt_88 : decode cX12_worthAt 88 = .ok (.getfield 68, 3) := by decide +kernel
theorem dX12_worthAt_91 : decode cX12_worthAt 91 = .ok (.iload_n 1, 1) := by decide +kernel
theorem dX12_worthAt_92 : decode cX12_worthAt 92 = .ok (.iload 5, 2) := by decide +kernel
theorem dX12_worthAt_94 : decode cX12_worthAt 94 = .ok (.iload 6, 2) := by decide +kernel
theorem dX12_worthAt_96 : decode cX12_worthAt 96 = .ok (.iload 7, 2) := by decide +kernel
theorem dX12_worthAt_98 : decode cX12_worthAt 98 = .ok (.invokevirtual 301, 3) := by decide +kernel
theorem dX12_worthAt_101 : decode cX12_worthAt 101 = .ok (.lastore, 1) := by decide +kernel
theorem dX12_worthAt_102 : decode cX12_worthAt 102 = .ok (.iload 4, 2) := by decide +kernel
theorem dX12_worthAt_104 : decode cX12_worthAt 104 = .ok (.iconst 2, 1) := by decide +kernel
theorem dX12_worthAt_105 : decode cX12_worthAt 105 = .ok (.if_icmp .ne 40, 3) := by decide +kernel
theorem dX12_worthAt_108 : decode cX12_worthAt 108 = .ok (.aload_n 0, 1) := by decide +kernel
theorem dX12_worthAt_109 : decode cX12_worthAt 109 = .ok (.getfield 65, 3) := by decide +kernel
theorem dX12_worthAt_112 : decode cX12_worthAt 112 = .ok (.iload 9, 2) := by decide +kernel
theorem dX12_worthAt_114 : decode cX12_worthAt 114 = .ok (.iload 8, 2) := by decide +kernel
theorem dX12_worthAt_116 : decode cX12_worthAt 116 = .ok (.ifCond .eq 13, 3) := by decide +kernel
theorem dX12_worthAt_119 : decode cX12_worthAt 119 = .ok (.aload_n 0, 1) := by decide +kernel
theorem dX12_worthAt_120 : decode cX12_worthAt 120 = .ok (.getfield 68, 3) := by decide +kernel
theorem dX12_worthAt_123 : decode cX12_worthAt 123 = .ok (.iload 9, 2) := by decide +kernel
theorem dX12_worthAt_125 : decode cX12_worthAt 125 = .ok (.laload, 1) := by decide +kernel
theorem dX12_worthAt_126 : decode cX12_worthAt 126 = .ok (.goto 15, 3) := by decide +kernel
theorem dX12_worthAt_129 : decode cX12_worthAt 129 = .ok (.aload_n 0, 1) := by decide +kernel
theorem dX12_worthAt_130 : decode cX12_worthAt 130 = .ok (.aload_n 0, 1) := by decide +kernel
theorem dX12_worthAt_131 : decode cX12_worthAt 131 = .ok (.getfield 65, 3) := by decide +kernel
theorem dX12_worthAt_134 : decode cX12_worthAt 134 = .ok (.iload 5, 2) := by decide +kernel
theorem dX12_worthAt_136 : decode cX12_worthAt 136 = .ok (.iload 6, 2) := by decide +kernel
theorem dX12_worthAt_138 : decode cX12_worthAt 138 = .ok (.invokevirtual 294, 3) := by decide +kernel
theorem dX12_worthAt_141 : decode cX12_worthAt 141 = .ok (.lastore, 1) := by decide +kernel
theorem dX12_worthAt_142 : decode cX12_worthAt 142 = .ok (.goto 55, 3) := by decide +kernel
theorem dX12_worthAt_145 : decode cX12_worthAt 145 = .ok (.iload 8, 2) := by decide +kernel
theorem dX12_worthAt_147 : decode cX12_worthAt 147 = .ok (.ifCond .eq 28, 3) := by decide +kernel
theorem dX12_worthAt_150 : decode cX12_worthAt 150 = .ok (.aload_n 0, 1) := by decide +kernel
theorem dX12_worthAt_151 : decode cX12_worthAt 151 = .ok (.getfield 65, 3) := by decide +kernel
theorem dX12_worthAt_154 : decode cX12_worthAt 154 = .ok (.iload 9, 2) := by decide +kernel
theorem dX12_worthAt_156 : decode cX12_worthAt 156 = .ok (.aload_n 0, 1) := by decide +kernel
theorem dX12_worthAt_157 : decode cX12_worthAt 157 = .ok (.iload_n 1, 1) := by decide +kernel
theorem dX12_worthAt_158 : decode cX12_worthAt 158 = .ok (.bipush 7, 2) := by decide +kernel
theorem dX12_worthAt_160 : decode cX12_worthAt 160 = .ok (.invokevirtual 191, 3) := by decide +kernel
theorem dX12_worthAt_163 : decode cX12_worthAt 163 = .ok (.i2l, 1) := by decide +kernel
theorem dX12_worthAt_164 : decode cX12_worthAt 164 = .ok (.aload_n 0, 1) := by decide +kernel
theorem dX12_worthAt_165 : decode cX12_worthAt 165 = .ok (.iload 5, 2) := by decide +kernel
theorem dX12_worthAt_167 : decode cX12_worthAt 167 = .ok (.invokevirtual 211, 3) := by decide +kernel
theorem dX12_worthAt_170 : decode cX12_worthAt 170 = .ok (.lmul, 1) := by decide +kernel
theorem dX12_worthAt_171 : decode cX12_worthAt 171 = .ok (.lastore, 1) := by decide +kernel
theorem dX12_worthAt_172 : decode cX12_worthAt 172 = .ok (.goto 25, 3) := by decide +kernel
theorem dX12_worthAt_175 : decode cX12_worthAt 175 = .ok (.aload_n 0, 1) := by decide +kernel
theorem dX12_worthAt_176 : decode cX12_worthAt 176 = .ok (.getfield 65, 3) := by decide +kernel
theorem dX12_worthAt_179 : decode cX12_worthAt 179 = .ok (.iload 9, 2) := by decide +kernel
theorem dX12_worthAt_181 : decode cX12_worthAt 181 = .ok (.aload_n 0, 1) := by decide +kernel
theorem dX12_worthAt_182 : decode cX12_worthAt 182 = .ok (.aload_n 0, 1) := by decide +kernel
theorem dX12_worthAt_183 : decode cX12_worthAt 183 = .ok (.getfield 65, 3) := by decide +kernel
theorem dX12_worthAt_186 : decode cX12_worthAt 186 = .ok (.iload_n 1, 1) := by decide +kernel
theorem dX12_worthAt_187 : decode cX12_worthAt 187 = .ok (.iload 5, 2) := by decide +kernel
theorem dX12_worthAt_189 : decode cX12_worthAt 189 = .ok (.iload 6, 2) := by decide +kernel
theorem dX12_worthAt_191 : decode cX12_worthAt 191 = .ok (.iload 7, 2) := by decide +kernel
theorem dX12_worthAt_193 : decode cX12_worthAt 193 = .ok (.invokevirtual 301, 3) := by decide +kernel
theorem dX12_worthAt_196 : decode cX12_worthAt 196 = .ok (.lastore, 1) := by decide +kernel
theorem dX12_worthAt_197 : decode cX12_worthAt 197 = .ok (.iinc 6 1, 3) := by decide +kernel
theorem dX12_worthAt_200 : decode cX12_worthAt 200 = .ok (.goto (-176), 3) := by decide +kernel
theorem dX12_worthAt_203 : decode cX12_worthAt 203 = .ok (.iinc 5 (-1), 3) := by decide +kernel
theorem dX12_worthAt_206 : decode cX12_worthAt 206 = .ok (.goto (-190), 3) := by decide +kernel
theorem dX12_worthAt_209 : decode cX12_worthAt 209 = .ok (.aload_n 0, 1) := by decide +kernel
theorem dX12_worthAt_210 : decode cX12_worthAt 210 = .ok (.getfield 65, 3) := by decide +kernel
theorem dX12_worthAt_213 : decode cX12_worthAt 213 = .ok (.iconst 0, 1) := by decide +kernel
theorem dX12_worthAt_214 : decode cX12_worthAt 214 = .ok (.laload, 1) := by decide +kernel
theorem dX12_worthAt_215 : decode cX12_worthAt 215 = .ok (.lreturn, 1) := by decide +kernel
theorem dX12_isUpper_0 : decode cX12_isUpper 0 = .ok (.iload_n 0, 1) := by decide +kernel
theorem dX12_isUpper_1 : decode cX12_isUpper 1 = .ok (.ifCond .eq 8, 3) := by decide +kernel
theorem dX12_isUpper_4 : decode cX12_isUpper 4 = .ok (.iload_n 0, 1) := by decide +kernel
theorem dX12_isUpper_5 : decode cX12_isUpper 5 = .ok (.iconst 1, 1) := by decide +kernel
theorem dX12_isUpper_6 : decode cX12_isUpper 6 = .ok (.if_icmp .ne 7, 3) := by decide +kernel
theorem dX12_isUpper_9 : decode cX12_isUpper 9 = .ok (.iconst 1, 1) := by decide +kernel
theorem dX12_isUpper_10 : decode cX12_isUpper 10 = .ok (.goto 4, 3) := by decide +kernel
theorem dX12_isUpper_13 : decode cX12_isUpper 13 = .ok (.iconst 0, 1) := by decide +kernel
theorem dX12_isUpper_14 : decode cX12_isUpper 14 = .ok (.ireturn, 1) := by decide +kernel
theorem dX12_worthBy_0 : decode cX12_worthBy 0 = .ok (.aload_n 0, 1) := by decide +kernel
theorem dX12_worthBy_1 : decode cX12_worthBy 1 = .ok (.aload_n 0, 1) := by decide +kernel
theorem dX12_worthBy_2 : decode cX12_worthBy 2 = .ok (.iload_n 1, 1) := by decide +kernel
theorem dX12_worthBy_3 : decode cX12_worthBy 3 = .ok (.invokevirtual 194, 3) := by decide +kernel
theorem dX12_worthBy_6 : decode cX12_worthBy 6 = .ok (.ifCond .eq 29, 3) := by decide +kernel
theorem dX12_worthBy_9 : decode cX12_worthBy 9 = .ok (.iload_n 2, 1) := by decide +kernel
theorem dX12_worthBy_10 : decode cX12_worthBy 10 = .ok (.iconst 0, 1) := by decide +kernel
theorem dX12_worthBy_11 : decode cX12_worthBy 11 = .ok (.sipush 2999, 3) := by decide +kernel
theorem dX12_worthBy_14 : decode cX12_worthBy 14 = .ok (.invokestatic 88, 3) := by decide +kernel
theorem dX12_worthBy_17 : decode cX12_worthBy 17 = .ok (.ifCond .eq 18, 3) := by decide +kernel
theorem dX12_worthBy_20 : decode cX12_worthBy 20 = .ok (.iload_n 3, 1) := by decide +kernel
theorem dX12_worthBy_21 : decode cX12_worthBy 21 = .ok (.invokestatic 305, 3) := by decide +kernel
theorem dX12_worthBy_24 : decode cX12_worthBy 24 = .ok (.ifCond .eq 11, 3) := by decide +kernel
theorem dX12_worthBy_27 : decode cX12_worthBy 27 = .ok (.iload 4, 2) := by decide +kernel
theorem dX12_worthBy_29 : decode cX12_worthBy 29 = .ok (.invokestatic 248, 3) := by decide +kernel
theorem dX12_worthBy_32 : decode cX12_worthBy 32 = .ok (.ifCond .ne 7, 3) := by decide +kernel
theorem dX12_worthBy_35 : decode cX12_worthBy 35 = .ok (.iconst 1, 1) := by decide +kernel
theorem dX12_worthBy_36 : decode cX12_worthBy 36 = .ok (.goto 4, 3) := by decide +kernel
theorem dX12_worthBy_39 : decode cX12_worthBy 39 = .ok (.iconst 0, 1) := by decide +kernel
theorem dX12_worthBy_40 : decode cX12_worthBy 40 = .ok (.invokevirtual 251, 3) := by decide +kernel
theorem dX12_worthBy_43 : decode cX12_worthBy 43 = .ok (.ifCond .eq 5, 3) := by decide +kernel
theorem dX12_worthBy_46 : decode cX12_worthBy 46 = .ok (.lconst 0, 1) := by decide +kernel
theorem dX12_worthBy_47 : decode cX12_worthBy 47 = .ok (.lreturn, 1) := by decide +kernel
theorem dX12_worthBy_48 : decode cX12_worthBy 48 = .ok (.aload_n 0, 1) := by decide +kernel
theorem dX12_worthBy_49 : decode cX12_worthBy 49 = .ok (.invokevirtual 255, 3) := by decide +kernel
theorem dX12_worthBy_52 : decode cX12_worthBy 52 = .ok (.aload_n 0, 1) := by decide +kernel
theorem dX12_worthBy_53 : decode cX12_worthBy 53 = .ok (.iload_n 1, 1) := by decide +kernel
theorem dX12_worthBy_54 : decode cX12_worthBy 54 = .ok (.iload_n 2, 1) := by decide +kernel
theorem dX12_worthBy_55 : decode cX12_worthBy 55 = .ok (.iload_n 3, 1) := by decide +kernel
theorem dX12_worthBy_56 : decode cX12_worthBy 56 = .ok (.invokevirtual 308, 3) := by decide +kernel
theorem dX12_worthBy_59 : decode cX12_worthBy 59 = .ok (.aload_n 0, 1) := by decide +kernel
theorem dX12_worthBy_60 : decode cX12_worthBy 60 = .ok (.getfield 47, 3) := by decide +kernel
theorem dX12_worthBy_63 : decode cX12_worthBy 63 = .ok (.aload_n 0, 1) := by decide +kernel
theorem dX12_worthBy_64 : decode cX12_worthBy 64 = .ok (.getfield 13, 3) := by decide +kernel
theorem dX12_worthBy_67 : decode cX12_worthBy 67 = .ok (.iconst 2, 1) := by decide +kernel
theorem dX12_worthBy_68 : decode cX12_worthBy 68 = .ok (.iaload, 1) := by decide +kernel
theorem dX12_worthBy_69 : decode cX12_worthBy 69 = .ok (.laload, 1) := by decide +kernel
theorem dX12_worthBy_70 : decode cX12_worthBy 70 = .ok (.iload 4, 2) := by decide +kernel
theorem dX12_worthBy_72 : decode cX12_worthBy 72 = .ok (.invokestatic 262, 3) := by decide +kernel
theorem dX12_worthBy_75 : decode cX12_worthBy 75 = .ok (.lreturn, 1) := by decide +kernel
theorem dX12_bestBy_0 : decode cX12_bestBy 0 = .ok (.aload_n 0, 1) := by decide +kernel
theorem dX12_bestBy_1 : decode cX12_bestBy 1 = .ok (.iconst 0, 1) := by decide +kernel
theorem dX12_bestBy_2 : decode cX12_bestBy 2 = .ok (.putfield 1, 3) := by decide +kernel
theorem dX12_bestBy_5 : decode cX12_bestBy 5 = .ok (.aload_n 0, 1) := by decide +kernel
theorem dX12_bestBy_6 : decode cX12_bestBy 6 = .ok (.iload_n 1, 1) := by decide +kernel
theorem dX12_bestBy_7 : decode cX12_bestBy 7 = .ok (.invokevirtual 194, 3) := by decide +kernel
theorem dX12_bestBy_10 : decode cX12_bestBy 10 = .ok (.ifCond .eq 10, 3) := by decide +kernel
theorem dX12_bestBy_13 : decode cX12_bestBy 13 = .ok (.iload_n 2, 1) := by decide +kernel
theorem dX12_bestBy_14 : decode cX12_bestBy 14 = .ok (.invokestatic 305, 3) := by decide +kernel
theorem dX12_bestBy_17 : decode cX12_bestBy 17 = .ok (.ifCond .ne 5, 3) := by decide +kernel
theorem dX12_bestBy_20 : decode cX12_bestBy 20 = .ok (.iconst (-1), 1) := by decide +kernel
theorem dX12_bestBy_21 : decode cX12_bestBy 21 = .ok (.ireturn, 1) := by decide +kernel
theorem dX12_bestBy_22 : decode cX12_bestBy 22 = .ok (.aload_n 0, 1) := by decide +kernel
theorem dX12_bestBy_23 : decode cX12_bestBy 23 = .ok (.invokevirtual 255, 3) := by decide +kernel
theorem dX12_bestBy_26 : decode cX12_bestBy 26 = .ok (.iconst 0, 1) := by decide +kernel
theorem dX12_bestBy_27 : decode cX12_bestBy 27 = .ok (.istore_n 3, 1) := by decide +kernel
theorem dX12_bestBy_28 : decode cX12_bestBy 28 = .ok (.aload_n 0, 1) := by decide +kernel
theorem dX12_bestBy_29 : decode cX12_bestBy 29 = .ok (.iload_n 1, 1) := by decide +kernel
theorem dX12_bestBy_30 : decode cX12_bestBy 30 = .ok (.iconst 0, 1) := by decide +kernel
theorem dX12_bestBy_31 : decode cX12_bestBy 31 = .ok (.iload_n 2, 1) := by decide +kernel
theorem dX12_bestBy_32 : decode cX12_bestBy 32 = .ok (.invokevirtual 308, 3) := by decide +kernel
theorem dX12_bestBy_35 : decode cX12_bestBy 35 = .ok (.lstore 4, 2) := by decide +kernel
theorem dX12_bestBy_37 : decode cX12_bestBy 37 = .ok (.iconst 1, 1) := by decide +kernel
theorem dX12_bestBy_38 : decode cX12_bestBy 38 = .ok (.istore 6, 2) := by decide +kernel
theorem dX12_bestBy_40 : decode cX12_bestBy 40 = .ok (.iload 6, 2) := by decide +kernel
theorem dX12_bestBy_42 : decode cX12_bestBy 42 = .ok (.sipush 3000, 3) := by decide +kernel
theorem dX12_bestBy_45 : decode cX12_bestBy 45 = .ok (.if_icmp .ge 37, 3) := by decide +kernel
theorem dX12_bestBy_48 : decode cX12_bestBy 48 = .ok (.aload_n 0, 1) := by decide +kernel
theorem dX12_bestBy_49 : decode cX12_bestBy 49 = .ok (.iload_n 1, 1) := by decide +kernel
theorem dX12_bestBy_50 : decode cX12_bestBy 50 = .ok (.iload 6, 2) := by decide +kernel
theorem dX12_bestBy_52 : decode cX12_bestBy 52 = .ok (.iload_n 2, 1) := by decide +kernel
theorem dX12_bestBy_53 : decode cX12_bestBy 53 = .ok (.invokevirtual 308, 3) := by decide +kernel
theorem dX12_bestBy_56 : decode cX12_bestBy 56 = .ok (.lstore 7, 2) := by decide +kernel
theorem dX12_bestBy_58 : decode cX12_bestBy 58 = .ok (.lload 7, 2) := by decide +kernel
theorem dX12_bestBy_60 : decode cX12_bestBy 60 = .ok (.lload 4, 2) := by decide +kernel
theorem dX12_bestBy_62 : decode cX12_bestBy 62 = .ok (.lcmp, 1) := by decide +kernel
theorem dX12_bestBy_63 : decode cX12_bestBy 63 = .ok (.ifCond .gt 6, 3) := by decide +kernel
theorem dX12_bestBy_66 : decode cX12_bestBy 66 = .ok (.goto 10, 3) := by decide +kernel
theorem dX12_bestBy_69 : decode cX12_bestBy 69 = .ok (.iload 6, 2) := by decide +kernel
theorem dX12_bestBy_71 : decode cX12_bestBy 71 = .ok (.istore_n 3, 1) := by decide +kernel
theorem dX12_bestBy_72 : decode cX12_bestBy 72 = .ok (.lload 7, 2) := by decide +kernel
theorem dX12_bestBy_74 : decode cX12_bestBy 74 = .ok (.lstore 4, 2) := by decide +kernel
theorem dX12_bestBy_76 : decode cX12_bestBy 76 = .ok (.iinc 6 1, 3) := by decide +kernel
theorem dX12_bestBy_79 : decode cX12_bestBy 79 = .ok (.goto (-39), 3) := by decide +kernel
theorem dX12_bestBy_82 : decode cX12_bestBy 82 = .ok (.iload_n 3, 1) := by decide +kernel
theorem dX12_bestBy_83 : decode cX12_bestBy 83 = .ok (.ireturn, 1) := by decide +kernel
theorem dX12_reach_0 : decode cX12_reach 0 = .ok (.aload_n 0, 1) := by decide +kernel
theorem dX12_reach_1 : decode cX12_reach 1 = .ok (.iload_n 1, 1) := by decide +kernel
theorem dX12_reach_2 : decode cX12_reach 2 = .ok (.iconst 0, 1) := by decide +kernel
theorem dX12_reach_3 : decode cX12_reach 3 = .ok (.sipush 2999, 3) := by decide +kernel
theorem dX12_reach_6 : decode cX12_reach 6 = .ok (.invokestatic 88, 3) := by decide +kernel
theorem dX12_reach_9 : decode cX12_reach 9 = .ok (.ifCond .eq 17, 3) := by decide +kernel
theorem dX12_reach_12 : decode cX12_reach 12 = .ok (.iload_n 2, 1) := by decide +kernel
theorem dX12_reach_13 : decode cX12_reach 13 = .ok (.invokestatic 305, 3) := by decide +kernel
theorem dX12_reach_16 : decode cX12_reach 16 = .ok (.ifCond .eq 10, 3) := by decide +kernel
theorem dX12_reach_19 : decode cX12_reach 19 = .ok (.iload_n 3, 1) := by decide +kernel
theorem dX12_reach_20 : decode cX12_reach 20 = .ok (.invokestatic 248, 3) := by decide +kernel
theorem dX12_reach_23 : decode cX12_reach 23 = .ok (.ifCond .ne 7, 3) := by decide +kernel
theorem dX12_reach_26 : decode cX12_reach 26 = .ok (.iconst 1, 1) := by decide +kernel
theorem dX12_reach_27 : decode cX12_reach 27 = .ok (.goto 4, 3) := by decide +kernel
theorem dX12_reach_30 : decode cX12_reach 30 = .ok (.iconst 0, 1) := by decide +kernel
theorem dX12_reach_31 : decode cX12_reach 31 = .ok (.invokevirtual 251, 3) := by decide +kernel
theorem dX12_reach_34 : decode cX12_reach 34 = .ok (.ifCond .eq 5, 3) := by decide +kernel
theorem dX12_reach_37 : decode cX12_reach 37 = .ok (.lconst 0, 1) := by decide +kernel
theorem dX12_reach_38 : decode cX12_reach 38 = .ok (.lreturn, 1) := by decide +kernel
theorem dX12_reach_39 : decode cX12_reach 39 = .ok (.aload_n 0, 1) := by decide +kernel
theorem dX12_reach_40 : decode cX12_reach 40 = .ok (.invokevirtual 255, 3) := by decide +kernel
theorem dX12_reach_43 : decode cX12_reach 43 = .ok (.aload_n 0, 1) := by decide +kernel
theorem dX12_reach_44 : decode cX12_reach 44 = .ok (.getfield 13, 3) := by decide +kernel
theorem dX12_reach_47 : decode cX12_reach 47 = .ok (.iconst 2, 1) := by decide +kernel
theorem dX12_reach_48 : decode cX12_reach 48 = .ok (.iaload, 1) := by decide +kernel
theorem dX12_reach_49 : decode cX12_reach 49 = .ok (.istore 4, 2) := by decide +kernel
theorem dX12_reach_51 : decode cX12_reach 51 = .ok (.iload 4, 2) := by decide +kernel
theorem dX12_reach_53 : decode cX12_reach 53 = .ok (.ifCond .lt 75, 3) := by decide +kernel
theorem dX12_reach_56 : decode cX12_reach 56 = .ok (.iconst 0, 1) := by decide +kernel
theorem dX12_reach_57 : decode cX12_reach 57 = .ok (.istore 5, 2) := by decide +kernel
theorem dX12_reach_59 : decode cX12_reach 59 = .ok (.iload 5, 2) := by decide +kernel
theorem dX12_reach_61 : decode cX12_reach 61 = .ok (.iload 4, 2) := by decide +kernel
theorem dX12_reach_63 : decode cX12_reach 63 = .ok (.if_icmp .gt 59, 3) := by decide +kernel
theorem dX12_reach_66 : decode cX12_reach 66 = .ok (.aload_n 0, 1) := by decide +kernel
theorem dX12_reach_67 : decode cX12_reach 67 = .ok (.getfield 65, 3) := by decide +kernel
theorem dX12_reach_70 : decode cX12_reach 70 = .ok (.bipush 13, 2) := by decide +kernel
theorem dX12_reach_72 : decode cX12_reach 72 = .ok (.iload 4, 2) := by decide +kernel
theorem dX12_reach_74 : decode cX12_reach 74 = .ok (.imul, 1) := by decide +kernel
theorem dX12_reach_75 : decode cX12_reach 75 = .ok (.iload 5, 2) := by decide +kernel
theorem dX12_reach_77 : decode cX12_reach 77 = .ok (.iadd, 1) := by decide +kernel
theorem dX12_reach_78 : decode cX12_reach 78 = .ok (.aload_n 0, 1) := by decide +kernel
theorem dX12_reach_79 : decode cX12_reach 79 = .ok (.iload 4, 2) := by decide +kernel
theorem dX12_reach_81 : decode cX12_reach 81 = .ok (.iload 5, 2) := by decide +kernel
theorem dX12_reach_83 : decode cX12_reach 83 = .ok (.invokevirtual 204, 3) := by decide +kernel
theorem dX12_reach_86 : decode cX12_reach 86 = .ok (.iload_n 1, 1) := by decide +kernel
theorem dX12_reach_87 : decode cX12_reach 87 = .ok (.iload_n 2, 1) := by decide +kernel
theorem dX12_reach_88 : decode cX12_reach 88 = .ok (.invokestatic 298, 3) := by decide +kernel
theorem dX12_reach_91 : decode cX12_reach 91 = .ok (.ifCond .eq 12, 3) := by decide +kernel
theorem dX12_reach_94 : decode cX12_reach 94 = .ok (.aload_n 0, 1) := by decide +kernel
theorem dX12_reach_95 : decode cX12_reach 95 = .ok (.iload 4, 2) := by decide +kernel
theorem dX12_reach_97 : decode cX12_reach 97 = .ok (.invokevirtual 211, 3) := by decide +kernel
theorem dX12_reach_100 : decode cX12_reach 100 = .ok (.goto 15, 3) := by decide +kernel
theorem dX12_reach_103 : decode cX12_reach 103 = .ok (.aload_n 0, 1) := by decide +kernel
theorem dX12_reach_104 : decode cX12_reach 104 = .ok (.aload_n 0, 1) := by decide +kernel
theorem dX12_reach_105 : decode cX12_reach 105 = .ok (.getfield 65, 3) := by decide +kernel
theorem dX12_reach_108 : decode cX12_reach 108 = .ok (.iload 4, 2) := by decide +kernel
theorem dX12_reach_110 : decode cX12_reach 110 = .ok (.iload 5, 2) := by decide +kernel
theorem dX12_reach_112 : decode cX12_reach 112 = .ok (.invokevirtual 294, 3) := by decide +kernel
theorem dX12_reach_115 : decode cX12_reach 115 = .ok (.lastore, 1) := by decide +kernel
theorem dX12_reach_116 : decode cX12_reach 116 = .ok (.iinc 5 1, 3) := by decide +kernel
theorem dX12_reach_119 : decode cX12_reach 119 = .ok (.goto (-60), 3) := by decide +kernel
theorem dX12_reach_122 : decode cX12_reach 122 = .ok (.iinc 4 (-1), 3) := by decide +kernel
theorem dX12_reach_125 : decode cX12_reach 125 = .ok (.goto (-74), 3) := by decide +kernel
theorem dX12_reach_128 : decode cX12_reach 128 = .ok (.aload_n 0, 1) := by decide +kernel
theorem dX12_reach_129 : decode cX12_reach 129 = .ok (.getfield 65, 3) := by decide +kernel
theorem dX12_reach_132 : decode cX12_reach 132 = .ok (.iconst 0, 1) := by decide +kernel
theorem dX12_reach_133 : decode cX12_reach 133 = .ok (.laload, 1) := by decide +kernel
theorem dX12_reach_134 : decode cX12_reach 134 = .ok (.aload_n 0, 1) := by decide +kernel
theorem dX12_reach_135 : decode cX12_reach 135 = .ok (.getfield 47, 3) := by decide +kernel
theorem dX12_reach_138 : decode cX12_reach 138 = .ok (.aload_n 0, 1) := by decide +kernel
theorem dX12_reach_139 : decode cX12_reach 139 = .ok (.getfield 13, 3) := by decide +kernel
theorem dX12_reach_142 : decode cX12_reach 142 = .ok (.iconst 2, 1) := by decide +kernel
theorem dX12_reach_143 : decode cX12_reach 143 = .ok (.iaload, 1) := by decide +kernel
theorem dX12_reach_144 : decode cX12_reach 144 = .ok (.laload, 1) := by decide +kernel
theorem dX12_reach_145 : decode cX12_reach 145 = .ok (.iload_n 3, 1) := by decide +kernel
theorem dX12_reach_146 : decode cX12_reach 146 = .ok (.invokestatic 262, 3) := by decide +kernel
theorem dX12_reach_149 : decode cX12_reach 149 = .ok (.lreturn, 1) := by decide +kernel
theorem dX12_bookAt_0 : decode cX12_bookAt 0 = .ok (.lconst 0, 1) := by decide +kernel
theorem dX12_bookAt_1 : decode cX12_bookAt 1 = .ok (.lstore_n 3, 1) := by decide +kernel
theorem dX12_bookAt_2 : decode cX12_bookAt 2 = .ok (.iconst 0, 1) := by decide +kernel
theorem dX12_bookAt_3 : decode cX12_bookAt 3 = .ok (.istore 5, 2) := by decide +kernel
theorem dX12_bookAt_5 : decode cX12_bookAt 5 = .ok (.iload 5, 2) := by decide +kernel
theorem dX12_bookAt_7 : decode cX12_bookAt 7 = .ok (.aload_n 0, 1) := by decide +kernel
theorem dX12_bookAt_8 : decode cX12_bookAt 8 = .ok (.getfield 13, 3) := by decide +kernel
theorem dX12_bookAt_11 : decode cX12_bookAt 11 = .ok (.bipush 29, 2) := by decide +kernel
theorem dX12_bookAt_13 : decode cX12_bookAt 13 = .ok (.iaload, 1) := by decide +kernel
theorem dX12_bookAt_14 : decode cX12_bookAt 14 = .ok (.if_icmp .ge 34, 3) := by decide +kernel
theorem dX12_bookAt_17 : decode cX12_bookAt 17 = .ok (.lload_n 3, 1) := by decide +kernel
theorem dX12_bookAt_18 : decode cX12_bookAt 18 = .ok (.aload_n 0, 1) := by decide +kernel
theorem dX12_bookAt_19 : decode cX12_bookAt 19 = .ok (.iload 5, 2) := by decide +kernel
theorem dX12_bookAt_21 : decode cX12_bookAt 21 = .ok (.bipush 9, 2) := by decide +kernel
theorem dX12_bookAt_23 : decode cX12_bookAt 23 = .ok (.invokevirtual 191, 3) := by decide +kernel
theorem dX12_bookAt_26 : decode cX12_bookAt 26 = .ok (.i2l, 1) := by decide +kernel
theorem dX12_bookAt_27 : decode cX12_bookAt 27 = .ok (.aload_n 0, 1) := by decide +kernel
theorem dX12_bookAt_28 : decode cX12_bookAt 28 = .ok (.getfield 40, 3) := by decide +kernel
theorem dX12_bookAt_31 : decode cX12_bookAt 31 = .ok (.iload 5, 2) := by decide +kernel
theorem dX12_bookAt_33 : decode cX12_bookAt 33 = .ok (.iload_n 1, 1) := by decide +kernel
theorem dX12_bookAt_34 : decode cX12_bookAt 34 = .ok (.iload_n 2, 1) := by decide +kernel
theorem dX12_bookAt_35 : decode cX12_bookAt 35 = .ok (.invokestatic 215, 3) := by decide +kernel
theorem dX12_bookAt_38 : decode cX12_bookAt 38 = .ok (.laload, 1) := by decide +kernel
theorem dX12_bookAt_39 : decode cX12_bookAt 39 = .ok (.lmul, 1) := by decide +kernel
theorem dX12_bookAt_40 : decode cX12_bookAt 40 = .ok (.ladd, 1) := by decide +kernel
theorem dX12_bookAt_41 : decode cX12_bookAt 41 = .ok (.lstore_n 3, 1) := by decide +kernel
theorem dX12_bookAt_42 : decode cX12_bookAt 42 = .ok (.iinc 5 1, 3) := by decide +kernel
theorem dX12_bookAt_45 : decode cX12_bookAt 45 = .ok (.goto (-40), 3) := by decide +kernel
theorem dX12_bookAt_48 : decode cX12_bookAt 48 = .ok (.lload_n 3, 1) := by decide +kernel
theorem dX12_bookAt_49 : decode cX12_bookAt 49 = .ok (.lreturn, 1) := by decide +kernel
theorem dX12_coverAt_0 : decode cX12_coverAt 0 = .ok (.lconst 0, 1) := by decide +kernel
theorem dX12_coverAt_1 : decode cX12_coverAt 1 = .ok (.lstore_n 3, 1) := by decide +kernel
theorem dX12_coverAt_2 : decode cX12_coverAt 2 = .ok (.iconst 0, 1) := by decide +kernel
theorem dX12_coverAt_3 : decode cX12_coverAt 3 = .ok (.istore 5, 2) := by decide +kernel
theorem dX12_coverAt_5 : decode cX12_coverAt 5 = .ok (.iload 5, 2) := by decide +kernel
theorem dX12_coverAt_7 : decode cX12_coverAt 7 = .ok (.aload_n 0, 1) := by decide +kernel
theorem dX12_coverAt_8 : decode cX12_coverAt 8 = .ok (.getfield 13, 3) := by decide +kernel
theorem dX12_coverAt_11 : decode cX12_coverAt 11 = .ok (.bipush 29, 2) := by decide +kernel
theorem dX12_coverAt_13 : decode cX12_coverAt 13 = .ok (.iaload, 1) := by decide +kernel
theorem dX12_coverAt_14 : decode cX12_coverAt 14 = .ok (.if_icmp .ge 30, 3) := by decide +kernel
theorem dX12_coverAt_17 : decode cX12_coverAt 17 = .ok (.lload_n 3, 1) := by decide +kernel
theorem dX12_coverAt_18 : decode cX12_coverAt 18 = .ok (.aload_n 0, 1) := by decide +kernel
theorem dX12_coverAt_19 : decode cX12_coverAt 19 = .ok (.iload 5, 2) := by decide +kernel
theorem dX12_coverAt_21 : decode cX12_coverAt 21 = .ok (.bipush 9, 2) := by decide +kernel
theorem dX12_coverAt_23 : decode cX12_coverAt 23 = .ok (.invokevirtual 191, 3) := by decide +kernel
theorem dX12_coverAt_26 : decode cX12_coverAt 26 = .ok (.i2l, 1) := by decide +kernel
theorem dX12_coverAt_27 : decode cX12_coverAt 27 = .ok (.aload_n 0, 1) := by decide +kernel
theorem dX12_coverAt_28 : decode cX12_coverAt 28 = .ok (.iload 5, 2) := by decide +kernel
theorem dX12_coverAt_30 : decode cX12_coverAt 30 = .ok (.iload_n 1, 1) := by decide +kernel
theorem dX12_coverAt_31 : decode cX12_coverAt 31 = .ok (.iload_n 2, 1) := by decide +kernel
theorem dX12_coverAt_32 : decode cX12_coverAt 32 = .ok (.invokevirtual 269, 3) := by decide +kernel
theorem dX12_coverAt_35 : decode cX12_coverAt 35 = .ok (.lmul, 1) := by decide +kernel
theorem dX12_coverAt_36 : decode cX12_coverAt 36 = .ok (.ladd, 1) := by decide +kernel
theorem dX12_coverAt_37 : decode cX12_coverAt 37 = .ok (.lstore_n 3, 1) := by decide +kernel
theorem dX12_coverAt_38 : decode cX12_coverAt 38 = .ok (.iinc 5 1, 3) := by decide +kernel
theorem dX12_coverAt_41 : decode cX12_coverAt 41 = .ok (.goto (-36), 3) := by decide +kernel
theorem dX12_coverAt_44 : decode cX12_coverAt 44 = .ok (.lload_n 3, 1) := by decide +kernel
theorem dX12_coverAt_45 : decode cX12_coverAt 45 = .ok (.lreturn, 1) := by decide +kernel
theorem dX12_book_0 : decode cX12_book 0 = .ok (.aload_n 0, 1) := by decide +kernel
theorem dX12_book_1 : decode cX12_book 1 = .ok (.aload_n 0, 1) := by decide +kernel
theorem dX12_book_2 : decode cX12_book 2 = .ok (.iload_n 1, 1) := by decide +kernel
theorem dX12_book_3 : decode cX12_book 3 = .ok (.iload_n 2, 1) := by decide +kernel
theorem dX12_book_4 : decode cX12_book 4 = .ok (.invokevirtual 201, 3) := by decide +kernel
theorem dX12_book_7 : decode cX12_book 7 = .ok (.ifCond .eq 10, 3) := by decide +kernel
theorem dX12_book_10 : decode cX12_book 10 = .ok (.iload_n 3, 1) := by decide +kernel
theorem dX12_book_11 : decode cX12_book 11 = .ok (.invokestatic 248, 3) := by decide +kernel
theorem dX12_book_14 : decode cX12_book 14 = .ok (.ifCond .ne 7, 3) := by decide +kernel
theorem dX12_book_17 : decode cX12_book 17 = .ok (.iconst 1, 1) := by decide +kernel
theorem dX12_book_18 : decode cX12_book 18 = .ok (.goto 4, 3) := by decide +kernel
theorem dX12_book_21 : decode cX12_book 21 = .ok (.iconst 0, 1) := by decide +kernel
theorem dX12_book_22 : decode cX12_book 22 = .ok (.invokevirtual 251, 3) := by decide +kernel
theorem dX12_book_25 : decode cX12_book 25 = .ok (.ifCond .eq 5, 3) := by decide +kernel
theorem dX12_book_28 : decode cX12_book 28 = .ok (.lconst 0, 1) := by decide +kernel
theorem dX12_book_29 : decode cX12_book 29 = .ok (.lreturn, 1) := by decide +kernel
theorem dX12_book_30 : decode cX12_book 30 = .ok (.aload_n 0, 1) := by decide +kernel
theorem dX12_book_31 : decode cX12_book 31 = .ok (.invokevirtual 255, 3) := by decide +kernel
theorem dX12_book_34 : decode cX12_book 34 = .ok (.aload_n 0, 1) := by decide +kernel
theorem dX12_book_35 : decode cX12_book 35 = .ok (.iload_n 1, 1) := by decide +kernel
theorem dX12_book_36 : decode cX12_book 36 = .ok (.iload_n 2, 1) := by decide +kernel
theorem dX12_book_37 : decode cX12_book 37 = .ok (.invokevirtual 311, 3) := by decide +kernel
theorem dX12_book_40 : decode cX12_book 40 = .ok (.aload_n 0, 1) := by decide +kernel
theorem dX12_book_41 : decode cX12_book 41 = .ok (.iload_n 1, 1) := by decide +kernel
theorem dX12_book_42 : decode cX12_book 42 = .ok (.invokevirtual 211, 3) := by decide +kernel
theorem dX12_book_45 : decode cX12_book 45 = .ok (.iload_n 3, 1) := by decide +kernel
theorem dX12_book_46 : decode cX12_book 46 = .ok (.invokestatic 262, 3) := by decide +kernel
theorem dX12_book_49 : decode cX12_book 49 = .ok (.lreturn, 1) := by decide +kernel
theorem dX12_cover_0 : decode cX12_cover 0 = .ok (.aload_n 0, 1) := by decide +kernel
theorem dX12_cover_1 : decode cX12_cover 1 = .ok (.aload_n 0, 1) := by decide +kernel
theorem dX12_cover_2 : decode cX12_cover 2 = .ok (.iload_n 1, 1) := by decide +kernel
theorem dX12_cover_3 : decode cX12_cover 3 = .ok (.iload_n 2, 1) := by decide +kernel
theorem dX12_cover_4 : decode cX12_cover 4 = .ok (.invokevirtual 201, 3) := by decide +kernel
theorem dX12_cover_7 : decode cX12_cover 7 = .ok (.ifCond .eq 18, 3) := by decide +kernel
theorem dX12_cover_10 : decode cX12_cover 10 = .ok (.iload_n 3, 1) := by decide +kernel
theorem dX12_cover_11 : decode cX12_cover 11 = .ok (.invokestatic 248, 3) := by decide +kernel
theorem dX12_cover_14 : decode cX12_cover 14 = .ok (.ifCond .eq 11, 3) := by decide +kernel
theorem dX12_cover_17 : decode cX12_cover 17 = .ok (.iload 4, 2) := by decide +kernel
theorem dX12_cover_19 : decode cX12_cover 19 = .ok (.invokestatic 248, 3) := by decide +kernel
theorem dX12_cover_22 : decode cX12_cover 22 = .ok (.ifCond .ne 7, 3) := by decide +kernel
theorem dX12_cover_25 : decode cX12_cover 25 = .ok (.iconst 1, 1) := by decide +kernel
theorem dX12_cover_26 : decode cX12_cover 26 = .ok (.goto 4, 3) := by decide +kernel
theorem dX12_cover_29 : decode cX12_cover 29 = .ok (.iconst 0, 1) := by decide +kernel
theorem dX12_cover_30 : decode cX12_cover 30 = .ok (.invokevirtual 251, 3) := by decide +kernel
theorem dX12_cover_33 : decode cX12_cover 33 = .ok (.ifCond .eq 5, 3) := by decide +kernel
theorem dX12_cover_36 : decode cX12_cover 36 = .ok (.lconst 0, 1) := by decide +kernel
theorem dX12_cover_37 : decode cX12_cover 37 = .ok (.lreturn, 1) := by decide +kernel
theorem dX12_cover_38 : decode cX12_cover 38 = .ok (.aload_n 0, 1) := by decide +kernel
theorem dX12_cover_39 : decode cX12_cover 39 = .ok (.invokevirtual 255, 3) := by decide +kernel
theorem dX12_cover_42 : decode cX12_cover 42 = .ok (.iload_n 3, 1) := by decide +kernel
theorem dX12_cover_43 : decode cX12_cover 43 = .ok (.ifCond .ne 12, 3) := by decide +kernel
theorem dX12_cover_46 : decode cX12_cover 46 = .ok (.aload_n 0, 1) := by decide +kernel
theorem dX12_cover_47 : decode cX12_cover 47 = .ok (.iload_n 1, 1) := by decide +kernel
theorem dX12_cover_48 : decode cX12_cover 48 = .ok (.iload_n 2, 1) := by decide +kernel
theorem dX12_cover_49 : decode cX12_cover 49 = .ok (.invokevirtual 315, 3) := by decide +kernel
theorem dX12_cover_52 : decode cX12_cover 52 = .ok (.goto 24, 3) := by decide +kernel
theorem dX12_cover_55 : decode cX12_cover 55 = .ok (.aload_n 0, 1) := by decide +kernel
theorem dX12_cover_56 : decode cX12_cover 56 = .ok (.iload_n 1, 1) := by decide +kernel
theorem dX12_cover_57 : decode cX12_cover 57 = .ok (.iload_n 2, 1) := by decide +kernel
theorem dX12_cover_58 : decode cX12_cover 58 = .ok (.invokevirtual 311, 3) := by decide +kernel
theorem dX12_cover_61 : decode cX12_cover 61 = .ok (.aload_n 0, 1) := by decide +kernel
theorem dX12_cover_62 : decode cX12_cover 62 = .ok (.iload_n 1, 1) := by decide +kernel
theorem dX12_cover_63 : decode cX12_cover 63 = .ok (.iload_n 2, 1) := by decide +kernel
theorem dX12_cover_64 : decode cX12_cover 64 = .ok (.invokevirtual 315, 3) := by decide +kernel
theorem dX12_cover_67 : decode cX12_cover 67 = .ok (.aload_n 0, 1) := by decide +kernel
theorem dX12_cover_68 : decode cX12_cover 68 = .ok (.iload_n 1, 1) := by decide +kernel
theorem dX12_cover_69 : decode cX12_cover 69 = .ok (.iload_n 2, 1) := by decide +kernel
theorem dX12_cover_70 : decode cX12_cover 70 = .ok (.invokevirtual 184, 3) := by decide +kernel
theorem dX12_cover_73 : decode cX12_cover 73 = .ok (.i2l, 1) := by decide +kernel
theorem dX12_cover_74 : decode cX12_cover 74 = .ok (.lmul, 1) := by decide +kernel
theorem dX12_cover_75 : decode cX12_cover 75 = .ok (.lsub, 1) := by decide +kernel
theorem dX12_cover_76 : decode cX12_cover 76 = .ok (.aload_n 0, 1) := by decide +kernel
theorem dX12_cover_77 : decode cX12_cover 77 = .ok (.iload_n 1, 1) := by decide +kernel
theorem dX12_cover_78 : decode cX12_cover 78 = .ok (.invokevirtual 211, 3) := by decide +kernel
theorem dX12_cover_81 : decode cX12_cover 81 = .ok (.iload 4, 2) := by decide +kernel
theorem dX12_cover_83 : decode cX12_cover 83 = .ok (.invokestatic 262, 3) := by decide +kernel
theorem dX12_cover_86 : decode cX12_cover 86 = .ok (.lreturn, 1) := by decide +kernel
theorem dX12_extreme_0 : decode cX12_extreme 0 = .ok (.aload_n 0, 1) := by decide +kernel
theorem dX12_extreme_1 : decode cX12_extreme 1 = .ok (.iconst 0, 1) := by decide +kernel
theorem dX12_extreme_2 : decode cX12_extreme 2 = .ok (.putfield 1, 3) := by decide +kernel
theorem dX12_extreme_5 : decode cX12_extreme 5 = .ok (.iload_n 1, 1) := by decide +kernel
theorem dX12_extreme_6 : decode cX12_extreme 6 = .ok (.invokestatic 248, 3) := by decide +kernel
theorem dX12_extreme_9 : decode cX12_extreme 9 = .ok (.ifCond .ne 5, 3) := by decide +kernel
theorem dX12_extreme_12 : decode cX12_extreme 12 = .ok (.iconst (-1), 1) := by decide +kernel
theorem dX12_extreme_13 : decode cX12_extreme 13 = .ok (.ireturn, 1) := by decide +kernel
theorem dX12_extreme_14 : decode cX12_extreme 14 = .ok (.aload_n 0, 1) := by decide +kernel
theorem dX12_extreme_15 : decode cX12_extreme 15 = .ok (.invokevirtual 255, 3) := by decide +kernel
theorem dX12_extreme_18 : decode cX12_extreme 18 = .ok (.iconst 0, 1) := by decide +kernel
theorem dX12_extreme_19 : decode cX12_extreme 19 = .ok (.istore_n 2, 1) := by decide +kernel
theorem dX12_extreme_20 : decode cX12_extreme 20 = .ok (.iconst 1, 1) := by decide +kernel
theorem dX12_extreme_21 : decode cX12_extreme 21 = .ok (.istore_n 3, 1) := by decide +kernel
theorem dX12_extreme_22 : decode cX12_extreme 22 = .ok (.iload_n 3, 1) := by decide +kernel
theorem dX12_extreme_23 : decode cX12_extreme 23 = .ok (.aload_n 0, 1) := by decide +kernel
theorem dX12_extreme_24 : decode cX12_extreme 24 = .ok (.getfield 13, 3) := by decide +kernel
theorem dX12_extreme_27 : decode cX12_extreme 27 = .ok (.iconst 2, 1) := by decide +kernel
theorem dX12_extreme_28 : decode cX12_extreme 28 = .ok (.iaload, 1) := by decide +kernel
theorem dX12_extreme_29 : decode cX12_extreme 29 = .ok (.if_icmp .gt 60, 3) := by decide +kernel
theorem dX12_extreme_32 : decode cX12_extreme 32 = .ok (.aload_n 0, 1) := by decide +kernel
theorem dX12_extreme_33 : decode cX12_extreme 33 = .ok (.aload_n 0, 1) := by decide +kernel
theorem dX12_extreme_34 : decode cX12_extreme 34 = .ok (.getfield 13, 3) := by decide +kernel
theorem dX12_extreme_37 : decode cX12_extreme 37 = .ok (.iconst 2, 1) := by decide +kernel
theorem dX12_extreme_38 : decode cX12_extreme 38 = .ok (.iaload, 1) := by decide +kernel
theorem dX12_extreme_39 : decode cX12_extreme 39 = .ok (.iload_n 3, 1) := by decide +kernel
theorem dX12_extreme_40 : decode cX12_extreme 40 = .ok (.invokevirtual 311, 3) := by decide +kernel
theorem dX12_extreme_43 : decode cX12_extreme 43 = .ok (.lstore 4, 2) := by decide +kernel
theorem dX12_extreme_45 : decode cX12_extreme 45 = .ok (.aload_n 0, 1) := by decide +kernel
theorem dX12_extreme_46 : decode cX12_extreme 46 = .ok (.aload_n 0, 1) := by decide +kernel
theorem dX12_extreme_47 : decode cX12_extreme 47 = .ok (.getfield 13, 3) := by decide +kernel
theorem dX12_extreme_50 : decode cX12_extreme 50 = .ok (.iconst 2, 1) := by decide +kernel
theorem dX12_extreme_51 : decode cX12_extreme 51 = .ok (.iaload, 1) := by decide +kernel
theorem dX12_extreme_52 : decode cX12_extreme 52 = .ok (.iload_n 2, 1) := by decide +kernel
theorem dX12_extreme_53 : decode cX12_extreme 53 = .ok (.invokevirtual 311, 3) := by decide +kernel
theorem dX12_extreme_56 : decode cX12_extreme 56 = .ok (.lstore 6, 2) := by decide +kernel
theorem dX12_extreme_58 : decode cX12_extreme 58 = .ok (.iload_n 1, 1) := by decide +kernel
theorem dX12_extreme_59 : decode cX12_extreme 59 = .ok (.ifCond .ne 14, 3) := by decide +kernel
theorem dX12_extreme_62 : decode cX12_extreme 62 = .ok (.lload 4, 2) := by decide +kernel
theorem dX12_extreme_64 : decode cX12_extreme 64 = .ok (.lload 6, 2) := by decide +kernel
theorem dX12_extreme_66 : decode cX12_extreme 66 = .ok (.lcmp, 1) := by decide +kernel
theorem dX12_extreme_67 : decode cX12_extreme 67 = .ok (.ifCond .ge 16, 3) := by decide +kernel
theorem dX12_extreme_70 : decode cX12_extreme 70 = .ok (.goto 11, 3) := by decide +kernel
theorem dX12_extreme_73 : decode cX12_extreme 73 = .ok (.lload 4, 2) := by decide +kernel
theorem dX12_extreme_75 : decode cX12_extreme 75 = .ok (.lload 6, 2) := by decide +kernel
theorem dX12_extreme_77 : decode cX12_extreme 77 = .ok (.lcmp, 1) := by decide +kernel
theorem dX12_extreme_78 : decode cX12_extreme 78 = .ok (.ifCond .le 5, 3) := by decide +kernel
theorem dX12_extreme_81 : decode cX12_extreme 81 = .ok (.iload_n 3, 1) := by decide +kernel
theorem dX12_extreme_82 : decode cX12_extreme 82 = .ok (.istore_n 2, 1) := by decide +kernel
theorem dX12_extreme_83 : decode cX12_extreme 83 = .ok (.iinc 3 1, 3) := by decide +kernel
theorem dX12_extreme_86 : decode cX12_extreme 86 = .ok (.goto (-64), 3) := by decide +kernel
theorem dX12_extreme_89 : decode cX12_extreme 89 = .ok (.iload_n 2, 1) := by decide +kernel
theorem dX12_extreme_90 : decode cX12_extreme 90 = .ok (.ireturn, 1) := by decide +kernel
theorem dX12_keeps_0 : decode cX12_keeps 0 = .ok (.aload_n 0, 1) := by decide +kernel
theorem dX12_keeps_1 : decode cX12_keeps 1 = .ok (.getfield 177, 3) := by decide +kernel
theorem dX12_keeps_4 : decode cX12_keeps 4 = .ok (.bipush 8, 2) := by decide +kernel
theorem dX12_keeps_6 : decode cX12_keeps 6 = .ok (.if_icmp .ne 43, 3) := by decide +kernel
theorem dX12_keeps_9 : decode cX12_keeps 9 = .ok (.iconst 0, 1) := by decide +kernel
theorem dX12_keeps_10 : decode cX12_keeps 10 = .ok (.istore_n 1, 1) := by decide +kernel
theorem dX12_keeps_11 : decode cX12_keeps 11 = .ok (.iload_n 1, 1) := by decide +kernel
theorem dX12_keeps_12 : decode cX12_keeps 12 = .ok (.sipush 490, 3) := by decide +kernel
theorem dX12_keeps_15 : decode cX12_keeps 15 = .ok (.if_icmp .ge 24, 3) := by decide +kernel
theorem dX12_keeps_18 : decode cX12_keeps 18 = .ok (.aload_n 0, 1) := by decide +kernel
theorem dX12_keeps_19 : decode cX12_keeps 19 = .ok (.getfield 23, 3) := by decide +kernel
theorem dX12_keeps_22 : decode cX12_keeps 22 = .ok (.iload_n 1, 1) := by decide +kernel
theorem dX12_keeps_23 : decode cX12_keeps 23 = .ok (.aload_n 0, 1) := by decide +kernel
theorem dX12_keeps_24 : decode cX12_keeps 24 = .ok (.getfield 23, 3) := by decide +kernel
theorem dX12_keeps_27 : decode cX12_keeps 27 = .ok (.iload_n 1, 1) := by decide +kernel
theorem dX12_keeps_28 : decode cX12_keeps 28 = .ok (.bipush 70, 2) := by decide +kernel
theorem dX12_keeps_30 : decode cX12_keeps 30 = .ok (.iadd, 1) := by decide +kernel
theorem dX12_keeps_31 : decode cX12_keeps 31 = .ok (.iaload, 1) := by decide +kernel
theorem dX12_keeps_32 : decode cX12_keeps 32 = .ok (.iastore, 1) := by decide +kernel
theorem dX12_keeps_33 : decode cX12_keeps 33 = .ok (.iinc 1 1, 3) := by decide +kernel
theorem dX12_keeps_36 : decode cX12_keeps 36 = .ok (.goto (-25), 3) := by decide +kernel
theorem dX12_keeps_39 : decode cX12_keeps 39 = .ok (.aload_n 0, 1) := by decide +kernel
theorem dX12_keeps_40 : decode cX12_keeps 40 = .ok (.dup, 1) := by decide +kernel
theorem dX12_keeps_41 : decode cX12_keeps 41 = .ok (.getfield 177, 3) := by decide +kernel
theorem dX12_keeps_44 : decode cX12_keeps 44 = .ok (.iconst 1, 1) := by decide +kernel
theorem dX12_keeps_45 : decode cX12_keeps 45 = .ok (.isub, 1) := by decide +kernel
theorem dX12_keeps_46 : decode cX12_keeps 46 = .ok (.putfield 177, 3) := by decide +kernel
theorem dX12_keeps_49 : decode cX12_keeps 49 = .ok (.aload_n 0, 1) := by decide +kernel
theorem dX12_keeps_50 : decode cX12_keeps 50 = .ok (.getfield 13, 3) := by decide +kernel
theorem dX12_keeps_53 : decode cX12_keeps 53 = .ok (.iconst 0, 1) := by decide +kernel
theorem dX12_keeps_54 : decode cX12_keeps 54 = .ok (.aload_n 0, 1) := by decide +kernel
theorem dX12_keeps_55 : decode cX12_keeps 55 = .ok (.getfield 23, 3) := by decide +kernel
theorem dX12_keeps_58 : decode cX12_keeps 58 = .ok (.bipush 70, 2) := by decide +kernel
theorem dX12_keeps_60 : decode cX12_keeps 60 = .ok (.aload_n 0, 1) := by decide +kernel
theorem dX12_keeps_61 : decode cX12_keeps 61 = .ok (.getfield 177, 3) := by decide +kernel
theorem dX12_keeps_64 : decode cX12_keeps 64 = .ok (.imul, 1) := by decide +kernel
theorem dX12_keeps_65 : decode cX12_keeps 65 = .ok (.invokestatic 173, 3) := by decide +kernel
theorem dX12_keeps_68 : decode cX12_keeps 68 = .ok (.aload_n 0, 1) := by decide +kernel
theorem dX12_keeps_69 : decode cX12_keeps 69 = .ok (.dup, 1) := by decide +kernel
theorem dX12_keeps_70 : decode cX12_keeps 70 = .ok (.getfield 177, 3) := by decide +kernel
theorem dX12_keeps_73 : decode cX12_keeps 73 = .ok (.iconst 1, 1) := by decide +kernel
theorem dX12_keeps_74 : decode cX12_keeps 74 = .ok (.iadd, 1) := by decide +kernel
theorem dX12_keeps_75 : decode cX12_keeps 75 = .ok (.putfield 177, 3) := by decide +kernel
theorem dX12_keeps_78 : decode cX12_keeps 78 = .ok (.aload_n 0, 1) := by decide +kernel
theorem dX12_keeps_79 : decode cX12_keeps 79 = .ok (.iconst 0, 1) := by decide +kernel
theorem dX12_keeps_80 : decode cX12_keeps 80 = .ok (.putfield 180, 3) := by decide +kernel
theorem dX12_keeps_83 : decode cX12_keeps 83 = .ok (.return_, 1) := by decide +kernel
theorem dX12_becomes_0 : decode cX12_becomes 0 = .ok (.aload_n 0, 1) := by decide +kernel
theorem dX12_becomes_1 : decode cX12_becomes 1 = .ok (.getfield 13, 3) := by decide +kernel
theorem dX12_becomes_4 : decode cX12_becomes 4 = .ok (.iload_n 1, 1) := by decide +kernel
theorem dX12_becomes_5 : decode cX12_becomes 5 = .ok (.iaload, 1) := by decide +kernel
theorem dX12_becomes_6 : decode cX12_becomes 6 = .ok (.iload_n 2, 1) := by decide +kernel
theorem dX12_becomes_7 : decode cX12_becomes 7 = .ok (.if_icmp .ne 5, 3) := by decide +kernel
theorem dX12_becomes_10 : decode cX12_becomes 10 = .ok (.iconst 1, 1) := by decide +kernel
theorem dX12_becomes_11 : decode cX12_becomes 11 = .ok (.ireturn, 1) := by decide +kernel
theorem dX12_becomes_12 : decode cX12_becomes 12 = .ok (.aload_n 0, 1) := by decide +kernel
theorem dX12_becomes_13 : decode cX12_becomes 13 = .ok (.invokevirtual 318, 3) := by decide +kernel
theorem dX12_becomes_16 : decode cX12_becomes 16 = .ok (.aload_n 0, 1) := by decide +kernel
theorem dX12_becomes_17 : decode cX12_becomes 17 = .ok (.getfield 13, 3) := by decide +kernel
theorem dX12_becomes_20 : decode cX12_becomes 20 = .ok (.iload_n 1, 1) := by decide +kernel
theorem dX12_becomes_21 : decode cX12_becomes 21 = .ok (.iload_n 2, 1) := by decide +kernel
theorem dX12_becomes_22 : decode cX12_becomes 22 = .ok (.iastore, 1) := by decide +kernel
theorem dX12_becomes_23 : decode cX12_becomes 23 = .ok (.iconst 0, 1) := by decide +kernel
theorem dX12_becomes_24 : decode cX12_becomes 24 = .ok (.ireturn, 1) := by decide +kernel
theorem dX12_own_0 : decode cX12_own 0 = .ok (.aload_n 0, 1) := by decide +kernel
theorem dX12_own_1 : decode cX12_own 1 = .ok (.iconst 0, 1) := by decide +kernel
theorem dX12_own_2 : decode cX12_own 2 = .ok (.putfield 1, 3) := by decide +kernel
theorem dX12_own_5 : decode cX12_own 5 = .ok (.aload_n 0, 1) := by decide +kernel
theorem dX12_own_6 : decode cX12_own 6 = .ok (.iload_n 1, 1) := by decide +kernel
theorem dX12_own_7 : decode cX12_own 7 = .ok (.invokevirtual 194, 3) := by decide +kernel
theorem dX12_own_10 : decode cX12_own 10 = .ok (.ifCond .eq 14, 3) := by decide +kernel
theorem dX12_own_13 : decode cX12_own 13 = .ok (.iload_n 2, 1) := by decide +kernel
theorem dX12_own_14 : decode cX12_own 14 = .ok (.bipush (-9), 2) := by decide +kernel
theorem dX12_own_16 : decode cX12_own 16 = .ok (.bipush 9, 2) := by decide +kernel
theorem dX12_own_18 : decode cX12_own 18 = .ok (.invokestatic 88, 3) := by decide +kernel
theorem dX12_own_21 : decode cX12_own 21 = .ok (.ifCond .ne 6, 3) := by decide +kernel
theorem dX12_own_24 : decode cX12_own 24 = .ok (.ldc 197, 2) := by decide +kernel
theorem dX12_own_26 : decode cX12_own 26 = .ok (.ireturn, 1) := by decide +kernel
theorem dX12_own_27 : decode cX12_own 27 = .ok (.aload_n 0, 1) := by decide +kernel
theorem dX12_own_28 : decode cX12_own 28 = .ok (.invokevirtual 318, 3) := by decide +kernel
theorem dX12_own_31 : decode cX12_own 31 = .ok (.aload_n 0, 1) := by decide +kernel
theorem dX12_own_32 : decode cX12_own 32 = .ok (.iload_n 1, 1) := by decide +kernel
theorem dX12_own_33 : decode cX12_own 33 = .ok (.bipush 9, 2) := by decide +kernel
theorem dX12_own_35 : decode cX12_own 35 = .ok (.invokevirtual 191, 3) := by decide +kernel
theorem dX12_own_38 : decode cX12_own 38 = .ok (.istore_n 3, 1) := by decide +kernel
theorem dX12_own_39 : decode cX12_own 39 = .ok (.aload_n 0, 1) := by decide +kernel
theorem dX12_own_40 : decode cX12_own 40 = .ok (.getfield 13, 3) := by decide +kernel
theorem dX12_own_43 : decode cX12_own 43 = .ok (.bipush 30, 2) := by decide +kernel
theorem dX12_own_45 : decode cX12_own 45 = .ok (.bipush 10, 2) := by decide +kernel
theorem dX12_own_47 : decode cX12_own 47 = .ok (.iload_n 1, 1) := by decide +kernel
theorem dX12_own_48 : decode cX12_own 48 = .ok (.imul, 1) := by decide +kernel
theorem dX12_own_49 : decode cX12_own 49 = .ok (.iadd, 1) := by decide +kernel
theorem dX12_own_50 : decode cX12_own 50 = .ok (.bipush 9, 2) := by decide +kernel
theorem dX12_own_52 : decode cX12_own 52 = .ok (.iadd, 1) := by decide +kernel
theorem dX12_own_53 : decode cX12_own 53 = .ok (.iload_n 2, 1) := by decide +kernel
theorem dX12_own_54 : decode cX12_own 54 = .ok (.iastore, 1) := by decide +kernel
theorem dX12_own_55 : decode cX12_own 55 = .ok (.iload_n 3, 1) := by decide +kernel
theorem dX12_own_56 : decode cX12_own 56 = .ok (.ireturn, 1) := by decide +kernel
theorem dX12_move_0 : decode cX12_move 0 = .ok (.aload_n 0, 1) := by decide +kernel
theorem dX12_move_1 : decode cX12_move 1 = .ok (.iconst 0, 1) := by decide +kernel
theorem dX12_move_2 : decode cX12_move 2 = .ok (.putfield 1, 3) := by decide +kernel
theorem dX12_move_5 : decode cX12_move 5 = .ok (.iload_n 1, 1) := by decide +kernel
theorem dX12_move_6 : decode cX12_move 6 = .ok (.iconst 0, 1) := by decide +kernel
theorem dX12_move_7 : decode cX12_move 7 = .ok (.sipush 999, 3) := by decide +kernel
theorem dX12_move_10 : decode cX12_move 10 = .ok (.invokestatic 88, 3) := by decide +kernel
theorem dX12_move_13 : decode cX12_move 13 = .ok (.ifCond .eq 31, 3) := by decide +kernel
theorem dX12_move_16 : decode cX12_move 16 = .ok (.aload_n 0, 1) := by decide +kernel
theorem dX12_move_17 : decode cX12_move 17 = .ok (.getfield 13, 3) := by decide +kernel
theorem dX12_move_20 : decode cX12_move 20 = .ok (.invokestatic 140, 3) := by decide +kernel
theorem dX12_move_23 : decode cX12_move 23 = .ok (.aload_n 0, 1) := by decide +kernel
theorem dX12_move_24 : decode cX12_move 24 = .ok (.getfield 13, 3) := by decide +kernel
theorem dX12_move_27 : decode cX12_move 27 = .ok (.iconst 0, 1) := by decide +kernel
theorem dX12_move_28 : decode cX12_move 28 = .ok (.iaload, 1) := by decide +kernel
theorem dX12_move_29 : decode cX12_move 29 = .ok (.isub, 1) := by decide +kernel
theorem dX12_move_30 : decode cX12_move 30 = .ok (.iload_n 1, 1) := by decide +kernel
theorem dX12_move_31 : decode cX12_move 31 = .ok (.iadd, 1) := by decide +kernel
theorem dX12_move_32 : decode cX12_move 32 = .ok (.ifCond .lt 12, 3) := by decide +kernel
theorem dX12_move_35 : decode cX12_move 35 = .ok (.aload_n 0, 1) := by decide +kernel
theorem dX12_move_36 : decode cX12_move 36 = .ok (.iconst 0, 1) := by decide +kernel
theorem dX12_move_37 : decode cX12_move 37 = .ok (.iload_n 1, 1) := by decide +kernel
theorem dX12_move_38 : decode cX12_move 38 = .ok (.invokevirtual 321, 3) := by decide +kernel
theorem dX12_move_41 : decode cX12_move 41 = .ok (.goto 4, 3) := by decide +kernel
theorem dX12_move_44 : decode cX12_move 44 = .ok (.iconst (-1), 1) := by decide +kernel
theorem dX12_move_45 : decode cX12_move 45 = .ok (.ireturn, 1) := by decide +kernel
theorem dX12_fall_0 : decode cX12_fall 0 = .ok (.aload_n 0, 1) := by decide +kernel
theorem dX12_fall_1 : decode cX12_fall 1 = .ok (.iconst 0, 1) := by decide +kernel
theorem dX12_fall_2 : decode cX12_fall 2 = .ok (.putfield 1, 3) := by decide +kernel
theorem dX12_fall_5 : decode cX12_fall 5 = .ok (.iload_n 1, 1) := by decide +kernel
theorem dX12_fall_6 : decode cX12_fall 6 = .ok (.iconst 1, 1) := by decide +kernel
theorem dX12_fall_7 : decode cX12_fall 7 = .ok (.aload_n 0, 1) := by decide +kernel
theorem dX12_fall_8 : decode cX12_fall 8 = .ok (.getfield 13, 3) := by decide +kernel
theorem dX12_fall_11 : decode cX12_fall 11 = .ok (.iconst 2, 1) := by decide +kernel
theorem dX12_fall_12 : decode cX12_fall 12 = .ok (.iaload, 1) := by decide +kernel
theorem dX12_fall_13 : decode cX12_fall 13 = .ok (.invokestatic 88, 3) := by decide +kernel
theorem dX12_fall_16 : decode cX12_fall 16 = .ok (.ifCond .eq 39, 3) := by decide +kernel
theorem dX12_fall_19 : decode cX12_fall 19 = .ok (.iload_n 2, 1) := by decide +kernel
theorem dX12_fall_20 : decode cX12_fall 20 = .ok (.iconst 1, 1) := by decide +kernel
theorem dX12_fall_21 : decode cX12_fall 21 = .ok (.aload_n 0, 1) := by decide +kernel
theorem dX12_fall_22 : decode cX12_fall 22 = .ok (.getfield 13, 3) := by decide +kernel
theorem dX12_fall_25 : decode cX12_fall 25 = .ok (.iconst 1, 1) := by decide +kernel
theorem dX12_fall_26 : decode cX12_fall 26 = .ok (.iaload, 1) := by decide +kernel
theorem dX12_fall_27 : decode cX12_fall 27 = .ok (.iconst 1, 1) := by decide +kernel
theorem dX12_fall_28 : decode cX12_fall 28 = .ok (.isub, 1) := by decide +kernel
theorem dX12_fall_29 : decode cX12_fall 29 = .ok (.invokestatic 88, 3) := by decide +kernel
theorem dX12_fall_32 : decode cX12_fall 32 = .ok (.ifCond .eq 23, 3) := by decide +kernel
theorem dX12_fall_35 : decode cX12_fall 35 = .ok (.aload_n 0, 1) := by decide +kernel
theorem dX12_fall_36 : decode cX12_fall 36 = .ok (.getfield 13, 3) := by decide +kernel
theorem dX12_fall_39 : decode cX12_fall 39 = .ok (.invokestatic 140, 3) := by decide +kernel
theorem dX12_fall_42 : decode cX12_fall 42 = .ok (.aload_n 0, 1) := by decide +kernel
theorem dX12_fall_43 : decode cX12_fall 43 = .ok (.getfield 13, 3) := by decide +kernel
theorem dX12_fall_46 : decode cX12_fall 46 = .ok (.iconst 3, 1) := by decide +kernel
theorem dX12_fall_47 : decode cX12_fall 47 = .ok (.iload_n 1, 1) := by decide +kernel
theorem dX12_fall_48 : decode cX12_fall 48 = .ok (.iadd, 1) := by decide +kernel
theorem dX12_fall_49 : decode cX12_fall 49 = .ok (.iaload, 1) := by decide +kernel
theorem dX12_fall_50 : decode cX12_fall 50 = .ok (.iadd, 1) := by decide +kernel
theorem dX12_fall_51 : decode cX12_fall 51 = .ok (.iload_n 2, 1) := by decide +kernel
theorem dX12_fall_52 : decode cX12_fall 52 = .ok (.if_icmp .ge 5, 3) := by decide +kernel
theorem dX12_fall_55 : decode cX12_fall 55 = .ok (.iconst (-1), 1) := by decide +kernel
theorem dX12_fall_56 : decode cX12_fall 56 = .ok (.ireturn, 1) := by decide +kernel
theorem dX12_fall_57 : decode cX12_fall 57 = .ok (.aload_n 0, 1) := by decide +kernel
theorem dX12_fall_58 : decode cX12_fall 58 = .ok (.iconst 3, 1) := by decide +kernel
theorem dX12_fall_59 : decode cX12_fall 59 = .ok (.iload_n 1, 1) := by decide +kernel
theorem dX12_fall_60 : decode cX12_fall 60 = .ok (.iadd, 1) := by decide +kernel
theorem dX12_fall_61 : decode cX12_fall 61 = .ok (.iload_n 2, 1) := by decide +kernel
theorem dX12_fall_62 : decode cX12_fall 62 = .ok (.invokevirtual 321, 3) := by decide +kernel
theorem dX12_fall_65 : decode cX12_fall 65 = .ok (.ireturn, 1) := by decide +kernel
theorem dX12_cash_0 : decode cX12_cash 0 = .ok (.aload_n 0, 1) := by decide +kernel
theorem dX12_cash_1 : decode cX12_cash 1 = .ok (.iconst 0, 1) := by decide +kernel
theorem dX12_cash_2 : decode cX12_cash 2 = .ok (.putfield 1, 3) := by decide +kernel
theorem dX12_cash_5 : decode cX12_cash 5 = .ok (.iload_n 1, 1) := by decide +kernel
theorem dX12_cash_6 : decode cX12_cash 6 = .ok (.iconst 0, 1) := by decide +kernel
theorem dX12_cash_7 : decode cX12_cash 7 = .ok (.aload_n 0, 1) := by decide +kernel
theorem dX12_cash_8 : decode cX12_cash 8 = .ok (.getfield 13, 3) := by decide +kernel
theorem dX12_cash_11 : decode cX12_cash 11 = .ok (.iconst 2, 1) := by decide +kernel
theorem dX12_cash_12 : decode cX12_cash 12 = .ok (.iaload, 1) := by decide +kernel
theorem dX12_cash_13 : decode cX12_cash 13 = .ok (.invokestatic 88, 3) := by decide +kernel
theorem dX12_cash_16 : decode cX12_cash 16 = .ok (.ifCond .eq 25, 3) := by decide +kernel
theorem dX12_cash_19 : decode cX12_cash 19 = .ok (.iload_n 2, 1) := by decide +kernel
theorem dX12_cash_20 : decode cX12_cash 20 = .ok (.iconst 0, 1) := by decide +kernel
theorem dX12_cash_21 : decode cX12_cash 21 = .ok (.bipush 99, 2) := by decide +kernel
theorem dX12_cash_23 : decode cX12_cash 23 = .ok (.invokestatic 88, 3) := by decide +kernel
theorem dX12_cash_26 : decode cX12_cash 26 = .ok (.ifCond .eq 15, 3) := by decide +kernel
theorem dX12_cash_29 : decode cX12_cash 29 = .ok (.aload_n 0, 1) := by decide +kernel
theorem dX12_cash_30 : decode cX12_cash 30 = .ok (.bipush 16, 2) := by decide +kernel
theorem dX12_cash_32 : decode cX12_cash 32 = .ok (.iload_n 1, 1) := by decide +kernel
theorem dX12_cash_33 : decode cX12_cash 33 = .ok (.iadd, 1) := by decide +kernel
theorem dX12_cash_34 : decode cX12_cash 34 = .ok (.iload_n 2, 1) := by decide +kernel
theorem dX12_cash_35 : decode cX12_cash 35 = .ok (.invokevirtual 321, 3) := by decide +kernel
theorem dX12_cash_38 : decode cX12_cash 38 = .ok (.goto 4, 3) := by decide +kernel
theorem dX12_cash_41 : decode cX12_cash 41 = .ok (.iconst (-1), 1) := by decide +kernel
theorem dX12_cash_42 : decode cX12_cash 42 = .ok (.ireturn, 1) := by decide +kernel
theorem dX12_restrike_0 : decode cX12_restrike 0 = .ok (.aload_n 0, 1) := by decide +kernel
theorem dX12_restrike_1 : decode cX12_restrike 1 = .ok (.iconst 0, 1) := by decide +kernel
theorem dX12_restrike_2 : decode cX12_restrike 2 = .ok (.putfield 1, 3) := by decide +kernel
theorem dX12_restrike_5 : decode cX12_restrike 5 = .ok (.aload_n 0, 1) := by decide +kernel
theorem dX12_restrike_6 : decode cX12_restrike 6 = .ok (.iload_n 1, 1) := by decide +kernel
theorem dX12_restrike_7 : decode cX12_restrike 7 = .ok (.invokevirtual 194, 3) := by decide +kernel
theorem dX12_restrike_10 : decode cX12_restrike 10 = .ok (.ifCond .eq 34, 3) := by decide +kernel
theorem dX12_restrike_13 : decode cX12_restrike 13 = .ok (.iload_n 2, 1) := by decide +kernel
theorem dX12_restrike_14 : decode cX12_restrike 14 = .ok (.iconst 0, 1) := by decide +kernel
theorem dX12_restrike_15 : decode cX12_restrike 15 = .ok (.sipush 999, 3) := by decide +kernel
theorem dX12_restrike_18 : decode cX12_restrike 18 = .ok (.invokestatic 88, 3) := by decide +kernel
theorem dX12_restrike_21 : decode cX12_restrike 21 = .ok (.ifCond .eq 23, 3) := by decide +kernel
theorem dX12_restrike_24 : decode cX12_restrike 24 = .ok (.aload_n 0, 1) := by decide +kernel
theorem dX12_restrike_25 : decode cX12_restrike 25 = .ok (.iload_n 1, 1) := by decide +kernel
theorem dX12_restrike_26 : decode cX12_restrike 26 = .ok (.iconst 0, 1) := by decide +kernel
theorem dX12_restrike_27 : decode cX12_restrike 27 = .ok (.invokevirtual 191, 3) := by decide +kernel
theorem dX12_restrike_30 : decode cX12_restrike 30 = .ok (.iconst 3, 1) := by decide +kernel
theorem dX12_restrike_31 : decode cX12_restrike 31 = .ok (.if_icmp .ne 15, 3) := by decide +kernel
theorem dX12_restrike_34 : decode cX12_restrike 34 = .ok (.iload_n 2, 1) := by decide +kernel
theorem dX12_restrike_35 : decode cX12_restrike 35 = .ok (.aload_n 0, 1) := by decide +kernel
theorem dX12_restrike_36 : decode cX12_restrike 36 = .ok (.iload_n 1, 1) := by decide +kernel
theorem dX12_restrike_37 : decode cX12_restrike 37 = .ok (.iconst 2, 1) := by decide +kernel
theorem dX12_restrike_38 : decode cX12_restrike 38 = .ok (.invokevirtual 191, 3) := by decide +kernel
theorem dX12_restrike_41 : decode cX12_restrike 41 = .ok (.if_icmp .lt 5, 3) := by decide +kernel
theorem dX12_restrike_44 : decode cX12_restrike 44 = .ok (.iconst (-1), 1) := by decide +kernel
theorem dX12_restrike_45 : decode cX12_restrike 45 = .ok (.ireturn, 1) := by decide +kernel
theorem dX12_restrike_46 : decode cX12_restrike 46 = .ok (.aload_n 0, 1) := by decide +kernel
theorem dX12_restrike_47 : decode cX12_restrike 47 = .ok (.bipush 30, 2) := by decide +kernel
theorem dX12_restrike_49 : decode cX12_restrike 49 = .ok (.bipush 10, 2) := by decide +kernel
theorem dX12_restrike_51 : decode cX12_restrike 51 = .ok (.iload_n 1, 1) := by decide +kernel
theorem dX12_restrike_52 : decode cX12_restrike 52 = .ok (.imul, 1) := by decide +kernel
theorem dX12_restrike_53 : decode cX12_restrike 53 = .ok (.iadd, 1) := by decide +kernel
theorem dX12_restrike_54 : decode cX12_restrike 54 = .ok (.iconst 1, 1) := by decide +kernel
theorem dX12_restrike_55 : decode cX12_restrike 55 = .ok (.iadd, 1) := by decide +kernel
theorem dX12_restrike_56 : decode cX12_restrike 56 = .ok (.iload_n 2, 1) := by decide +kernel
theorem dX12_restrike_57 : decode cX12_restrike 57 = .ok (.invokevirtual 321, 3) := by decide +kernel
theorem dX12_restrike_60 : decode cX12_restrike 60 = .ok (.ireturn, 1) := by decide +kernel
theorem dX12_undo_0 : decode cX12_undo 0 = .ok (.aload_n 0, 1) := by decide +kernel
theorem dX12_undo_1 : decode cX12_undo 1 = .ok (.iconst 0, 1) := by decide +kernel
theorem dX12_undo_2 : decode cX12_undo 2 = .ok (.putfield 1, 3) := by decide +kernel
theorem dX12_undo_5 : decode cX12_undo 5 = .ok (.aload_n 0, 1) := by decide +kernel
theorem dX12_undo_6 : decode cX12_undo 6 = .ok (.getfield 177, 3) := by decide +kernel
theorem dX12_undo_9 : decode cX12_undo 9 = .ok (.ifCond .ne 5, 3) := by decide +kernel
theorem dX12_undo_12 : decode cX12_undo 12 = .ok (.iconst (-1), 1) := by decide +kernel
theorem dX12_undo_13 : decode cX12_undo 13 = .ok (.ireturn, 1) := by decide +kernel
theorem dX12_undo_14 : decode cX12_undo 14 = .ok (.aload_n 0, 1) := by decide +kernel
theorem dX12_undo_15 : decode cX12_undo 15 = .ok (.dup, 1) := by decide +kernel
theorem dX12_undo_16 : decode cX12_undo 16 = .ok (.getfield 177, 3) := by decide +kernel
theorem dX12_undo_19 : decode cX12_undo 19 = .ok (.iconst 1, 1) := by decide +kernel
theorem dX12_undo_20 : decode cX12_undo 20 = .ok (.isub, 1) := by decide +kernel
theorem dX12_undo_21 : decode cX12_undo 21 = .ok (.putfield 177, 3) := by decide +kernel
theorem dX12_undo_24 : decode cX12_undo 24 = .ok (.aload_n 0, 1) := by decide +kernel
theorem dX12_undo_25 : decode cX12_undo 25 = .ok (.getfield 23, 3) := by decide +kernel
theorem dX12_undo_28 : decode cX12_undo 28 = .ok (.bipush 70, 2) := by decide +kernel
theorem dX12_undo_30 : decode cX12_undo 30 = .ok (.aload_n 0, 1) := by decide +kernel
theorem dX12_undo_31 : decode cX12_undo 31 = .ok (.getfield 177, 3) := by decide +kernel
theorem dX12_undo_34 : decode cX12_undo 34 = .ok (.imul, 1) := by decide +kernel
theorem dX12_undo_35 : decode cX12_undo 35 = .ok (.aload_n 0, 1) := by decide +kernel
theorem dX12_undo_36 : decode cX12_undo 36 = .ok (.getfield 13, 3) := by decide +kernel
theorem dX12_undo_39 : decode cX12_undo 39 = .ok (.iconst 0, 1) := by decide +kernel
theorem dX12_undo_40 : decode cX12_undo 40 = .ok (.invokestatic 173, 3) := by decide +kernel
theorem dX12_undo_43 : decode cX12_undo 43 = .ok (.aload_n 0, 1) := by decide +kernel
theorem dX12_undo_44 : decode cX12_undo 44 = .ok (.iconst 0, 1) := by decide +kernel
theorem dX12_undo_45 : decode cX12_undo 45 = .ok (.putfield 180, 3) := by decide +kernel
theorem dX12_undo_48 : decode cX12_undo 48 = .ok (.aload_n 0, 1) := by decide +kernel
theorem dX12_undo_49 : decode cX12_undo 49 = .ok (.getfield 177, 3) := by decide +kernel
theorem dX12_undo_52 : decode cX12_undo 52 = .ok (.ireturn, 1) := by decide +kernel
theorem dX12_image_0 : decode cX12_image 0 = .ok (.aload_n 0, 1) := by decide +kernel
theorem dX12_image_1 : decode cX12_image 1 = .ok (.iconst 0, 1) := by decide +kernel
theorem dX12_image_2 : decode cX12_image 2 = .ok (.putfield 1, 3) := by decide +kernel
theorem dX12_image_5 : decode cX12_image 5 = .ok (.iload_n 1, 1) := by decide +kernel
theorem dX12_image_6 : decode cX12_image 6 = .ok (.iconst 0, 1) := by decide +kernel
theorem dX12_image_7 : decode cX12_image 7 = .ok (.iconst 1, 1) := by decide +kernel
theorem dX12_image_8 : decode cX12_image 8 = .ok (.invokestatic 88, 3) := by decide +kernel
theorem dX12_image_11 : decode cX12_image 11 = .ok (.ifCond .ne 5, 3) := by decide +kernel
theorem dX12_image_14 : decode cX12_image 14 = .ok (.iconst 0, 1) := by decide +kernel
theorem dX12_image_15 : decode cX12_image 15 = .ok (.ireturn, 1) := by decide +kernel
theorem dX12_image_16 : decode cX12_image 16 = .ok (.aload_n 0, 1) := by decide +kernel
theorem dX12_image_17 : decode cX12_image 17 = .ok (.getfield 13, 3) := by decide +kernel
theorem dX12_image_20 : decode cX12_image 20 = .ok (.iconst 0, 1) := by decide +kernel
theorem dX12_image_21 : decode cX12_image 21 = .ok (.aload_n 0, 1) := by decide +kernel
theorem dX12_image_22 : decode cX12_image 22 = .ok (.getfield 20, 3) := by decide +kernel
theorem dX12_image_25 : decode cX12_image 25 = .ok (.bipush 70, 2) := by decide +kernel
theorem dX12_image_27 : decode cX12_image 27 = .ok (.iload_n 1, 1) := by decide +kernel
theorem dX12_image_28 : decode cX12_image 28 = .ok (.imul, 1) := by decide +kernel
theorem dX12_image_29 : decode cX12_image 29 = .ok (.invokestatic 173, 3) := by decide +kernel
theorem dX12_image_32 : decode cX12_image 32 = .ok (.aload_n 0, 1) := by decide +kernel
theorem dX12_image_33 : decode cX12_image 33 = .ok (.getfield 26, 3) := by decide +kernel
theorem dX12_image_36 : decode cX12_image 36 = .ok (.iload_n 1, 1) := by decide +kernel
theorem dX12_image_37 : decode cX12_image 37 = .ok (.iconst 1, 1) := by decide +kernel
theorem dX12_image_38 : decode cX12_image 38 = .ok (.bastore, 1) := by decide +kernel
theorem dX12_image_39 : decode cX12_image 39 = .ok (.iconst 1, 1) := by decide +kernel
theorem dX12_image_40 : decode cX12_image 40 = .ok (.ireturn, 1) := by decide +kernel
theorem dX12_restore_0 : decode cX12_restore 0 = .ok (.aload_n 0, 1) := by decide +kernel
theorem dX12_restore_1 : decode cX12_restore 1 = .ok (.iconst 0, 1) := by decide +kernel
theorem dX12_restore_2 : decode cX12_restore 2 = .ok (.putfield 1, 3) := by decide +kernel
theorem dX12_restore_5 : decode cX12_restore 5 = .ok (.iload_n 1, 1) := by decide +kernel
theorem dX12_restore_6 : decode cX12_restore 6 = .ok (.iconst 0, 1) := by decide +kernel
theorem dX12_restore_7 : decode cX12_restore 7 = .ok (.iconst 1, 1) := by decide +kernel
theorem dX12_restore_8 : decode cX12_restore 8 = .ok (.invokestatic 88, 3) := by decide +kernel
theorem dX12_restore_11 : decode cX12_restore 11 = .ok (.ifCond .eq 12, 3) := by decide +kernel
theorem dX12_restore_14 : decode cX12_restore 14 = .ok (.aload_n 0, 1) := by decide +kernel
theorem dX12_restore_15 : decode cX12_restore 15 = .ok (.getfield 26, 3) := by decide +kernel
theorem dX12_restore_18 : decode cX12_restore 18 = .ok (.iload_n 1, 1) := by decide +kernel
theorem dX12_restore_19 : decode cX12_restore 19 = .ok (.baload, 1) := by decide +kernel
theorem dX12_restore_20 : decode cX12_restore 20 = .ok (.ifCond .ne 5, 3) := by decide +kernel
theorem dX12_restore_23 : decode cX12_restore 23 = .ok (.iconst 0, 1) := by decide +kernel
theorem dX12_restore_24 : decode cX12_restore 24 = .ok (.ireturn, 1) := by decide +kernel
theorem dX12_restore_25 : decode cX12_restore 25 = .ok (.aload_n 0, 1) := by decide +kernel
theorem dX12_restore_26 : decode cX12_restore 26 = .ok (.getfield 20, 3) := by decide +kernel
theorem dX12_restore_29 : decode cX12_restore 29 = .ok (.bipush 70, 2) := by decide +kernel
theorem dX12_restore_31 : decode cX12_restore 31 = .ok (.iload_n 1, 1) := by decide +kernel
theorem dX12_restore_32 : decode cX12_restore 32 = .ok (.imul, 1) := by decide +kernel
theorem dX12_restore_33 : decode cX12_restore 33 = .ok (.aload_n 0, 1) := by decide +kernel
theorem dX12_restore_34 : decode cX12_restore 34 = .ok (.getfield 13, 3) := by decide +kernel
theorem dX12_restore_37 : decode cX12_restore 37 = .ok (.iconst 0, 1) := by decide +kernel
theorem dX12_restore_38 : decode cX12_restore 38 = .ok (.invokestatic 173, 3) := by decide +kernel
theorem dX12_restore_41 : decode cX12_restore 41 = .ok (.aload_n 0, 1) := by decide +kernel
theorem dX12_restore_42 : decode cX12_restore 42 = .ok (.iconst 0, 1) := by decide +kernel
theorem dX12_restore_43 : decode cX12_restore 43 = .ok (.putfield 177, 3) := by decide +kernel
theorem dX12_restore_46 : decode cX12_restore 46 = .ok (.aload_n 0, 1) := by decide +kernel
theorem dX12_restore_47 : decode cX12_restore 47 = .ok (.iconst 0, 1) := by decide +kernel
theorem dX12_restore_48 : decode cX12_restore 48 = .ok (.putfield 180, 3) := by decide +kernel
theorem dX12_restore_51 : decode cX12_restore 51 = .ok (.iconst 1, 1) := by decide +kernel
theorem dX12_restore_52 : decode cX12_restore 52 = .ok (.ireturn, 1) := by decide +kernel
