theorem dX5_baseOf_245 : decode cX5_baseOf 245 = .ok (.iload 4, 2) := by decide +kernel
theorem dX5_baseOf_247 : decode cX5_baseOf 247 = .ok (.iaload, 1) := by decide +kernel
theorem dX5_baseOf_248 : decode cX5_baseOf 248 = .ok (.iload 8, 2) := by decide +kernel
theorem dX5_baseOf_250 : decode cX5_baseOf 250 = .ok (.invokestatic 104, 3) := by decide +kernel
theorem dX5_baseOf_253 : decode cX5_baseOf 253 = .ok (.iaload, 1) := by decide +kernel
theorem dX5_baseOf_254 : decode cX5_baseOf 254 = .ok (.istore 9, 2) := by decide +kernel
theorem dX5_baseOf_256 : decode cX5_baseOf 256 = .ok (.iload 7, 2) := by decide +kernel
theorem dX5_baseOf_258 : decode cX5_baseOf 258 = .ok (.iconst 2, 1) := by decide +kernel
theorem dX5_baseOf_259 : decode cX5_baseOf 259 = .ok (.if_icmp .ne 16, 3) := by decide +kernel
theorem dX5_baseOf_262 : decode cX5_baseOf 262 = .ok (.iload 9, 2) := by decide +kernel
theorem dX5_baseOf_264 : decode cX5_baseOf 264 = .ok (.i2d, 1) := by decide +kernel
theorem dX5_baseOf_265 : decode cX5_baseOf 265 = .ok (.ldc2_w 110, 3) := by decide +kernel
theorem dX5_baseOf_268 : decode cX5_baseOf 268 = .ok (.dmul, 1) := by decide +kernel
theorem dX5_baseOf_269 : decode cX5_baseOf 269 = .ok (.invokestatic 112, 3) := by decide +kernel
theorem dX5_baseOf_272 : decode cX5_baseOf 272 = .ok (.goto 5, 3) := by decide +kernel
theorem dX5_baseOf_275 : decode cX5_baseOf 275 = .ok (.iload 9, 2) := by decide +kernel
theorem dX5_baseOf_277 : decode cX5_baseOf 277 = .ok (.istore 9, 2) := by decide +kernel
theorem dX5_baseOf_279 : decode cX5_baseOf 279 = .ok (.aload_n 0, 1) := by decide +kernel
theorem dX5_baseOf_280 : decode cX5_baseOf 280 = .ok (.getfield 35, 3) := by decide +kernel
theorem dX5_baseOf_283 : decode cX5_baseOf 283 = .ok (.iload 4, 2) := by decide +kernel
theorem dX5_baseOf_285 : decode cX5_baseOf 285 = .ok (.baload, 1) := by decide +kernel
theorem dX5_baseOf_286 : decode cX5_baseOf 286 = .ok (.ifCond .eq 16, 3) := by decide +kernel
theorem dX5_baseOf_289 : decode cX5_baseOf 289 = .ok (.iload 9, 2) := by decide +kernel
theorem dX5_baseOf_291 : decode cX5_baseOf 291 = .ok (.i2d, 1) := by decide +kernel
theorem dX5_baseOf_292 : decode cX5_baseOf 292 = .ok (.ldc2_w 110, 3) := by decide +kernel
theorem dX5_baseOf_295 : decode cX5_baseOf 295 = .ok (.dmul, 1) := by decide +kernel
theorem dX5_baseOf_296 : decode cX5_baseOf 296 = .ok (.invokestatic 112, 3) := by decide +kernel
theorem dX5_baseOf_299 : decode cX5_baseOf 299 = .ok (.goto 5, 3) := by decide +kernel
theorem dX5_baseOf_302 : decode cX5_baseOf 302 = .ok (.iload 9, 2) := by decide +kernel
theorem dX5_baseOf_304 : decode cX5_baseOf 304 = .ok (.istore 9, 2) := by decide +kernel
theorem dX5_baseOf_306 : decode cX5_baseOf 306 = .ok (.aload_n 0, 1) := by decide +kernel
theorem dX5_baseOf_307 : decode cX5_baseOf 307 = .ok (.getfield 39, 3) := by decide +kernel
theorem dX5_baseOf_310 : decode cX5_baseOf 310 = .ok (.iload 4, 2) := by decide +kernel
theorem dX5_baseOf_312 : decode cX5_baseOf 312 = .ok (.baload, 1) := by decide +kernel
theorem dX5_baseOf_313 : decode cX5_baseOf 313 = .ok (.ifCond .eq 16, 3) := by decide +kernel
theorem dX5_baseOf_316 : decode cX5_baseOf 316 = .ok (.iload 9, 2) := by decide +kernel
theorem dX5_baseOf_318 : decode cX5_baseOf 318 = .ok (.i2d, 1) := by decide +kernel
theorem dX5_baseOf_319 : decode cX5_baseOf 319 = .ok (.ldc2_w 116, 3) := by decide +kernel
theorem dX5_baseOf_322 : decode cX5_baseOf 322 = .ok (.dmul, 1) := by decide +kernel
theorem dX5_baseOf_323 : decode cX5_baseOf 323 = .ok (.invokestatic 112, 3) := by decide +kernel
theorem dX5_baseOf_326 : decode cX5_baseOf 326 = .ok (.goto 5, 3) := by decide +kernel
theorem dX5_baseOf_329 : decode cX5_baseOf 329 = .ok (.iload 9, 2) := by decide +kernel
theorem dX5_baseOf_331 : decode cX5_baseOf 331 = .ok (.ireturn, 1) := by decide +kernel
theorem dX5_clears_0 : decode cX5_clears 0 = .ok (.aload_n 0, 1) := by decide +kernel
theorem dX5_clears_1 : decode cX5_clears 1 = .ok (.iconst 0, 1) := by decide +kernel
theorem dX5_clears_2 : decode cX5_clears 2 = .ok (.putfield 118, 3) := by decide +kernel
theorem dX5_clears_5 : decode cX5_clears 5 = .ok (.aload_n 0, 1) := by decide +kernel
theorem dX5_clears_6 : decode cX5_clears 6 = .ok (.iconst 0, 1) := by decide +kernel
theorem dX5_clears_7 : decode cX5_clears 7 = .ok (.putfield 121, 3) := by decide +kernel
theorem dX5_clears_10 : decode cX5_clears 10 = .ok (.aload_n 0, 1) := by decide +kernel
theorem dX5_clears_11 : decode cX5_clears 11 = .ok (.bipush 99, 2) := by decide +kernel
theorem dX5_clears_13 : decode cX5_clears 13 = .ok (.putfield 124, 3) := by decide +kernel
theorem dX5_clears_16 : decode cX5_clears 16 = .ok (.aload_n 0, 1) := by decide +kernel
theorem dX5_clears_17 : decode cX5_clears 17 = .ok (.bipush (-99), 2) := by decide +kernel
theorem dX5_clears_19 : decode cX5_clears 19 = .ok (.putfield 127, 3) := by decide +kernel
theorem dX5_clears_22 : decode cX5_clears 22 = .ok (.return_, 1) := by decide +kernel
theorem dX5_counts_0 : decode cX5_counts 0 = .ok (.iload_n 1, 1) := by decide +kernel
theorem dX5_counts_1 : decode cX5_counts 1 = .ok (.bipush (-99), 2) := by decide +kernel
theorem dX5_counts_3 : decode cX5_counts 3 = .ok (.if_icmp .eq 63, 3) := by decide +kernel
theorem dX5_counts_6 : decode cX5_counts 6 = .ok (.aload_n 0, 1) := by decide +kernel
theorem dX5_counts_7 : decode cX5_counts 7 = .ok (.dup, 1) := by decide +kernel
theorem dX5_counts_8 : decode cX5_counts 8 = .ok (.getfield 118, 3) := by decide +kernel
theorem dX5_counts_11 : decode cX5_counts 11 = .ok (.iconst 1, 1) := by decide +kernel
theorem dX5_counts_12 : decode cX5_counts 12 = .ok (.iadd, 1) := by decide +kernel
theorem dX5_counts_13 : decode cX5_counts 13 = .ok (.putfield 118, 3) := by decide +kernel
theorem dX5_counts_16 : decode cX5_counts 16 = .ok (.aload_n 0, 1) := by decide +kernel
theorem dX5_counts_17 : decode cX5_counts 17 = .ok (.dup, 1) := by decide +kernel
theorem dX5_counts_18 : decode cX5_counts 18 = .ok (.getfield 121, 3) := by decide +kernel
theorem dX5_counts_21 : decode cX5_counts 21 = .ok (.iload_n 1, 1) := by decide +kernel
theorem dX5_counts_22 : decode cX5_counts 22 = .ok (.iadd, 1) := by decide +kernel
theorem dX5_counts_23 : decode cX5_counts 23 = .ok (.putfield 121, 3) := by decide +kernel
theorem dX5_counts_26 : decode cX5_counts 26 = .ok (.aload_n 0, 1) := by decide +kernel
theorem dX5_counts_27 : decode cX5_counts 27 = .ok (.iload_n 1, 1) := by decide +kernel
theorem dX5_counts_28 : decode cX5_counts 28 = .ok (.aload_n 0, 1) := by decide +kernel
theorem dX5_counts_29 : decode cX5_counts 29 = .ok (.getfield 124, 3) := by decide +kernel
theorem dX5_counts_32 : decode cX5_counts 32 = .ok (.if_icmp .ge 7, 3) := by decide +kernel
theorem dX5_counts_35 : decode cX5_counts 35 = .ok (.iload_n 1, 1) := by decide +kernel
theorem dX5_counts_36 : decode cX5_counts 36 = .ok (.goto 7, 3) := by decide +kernel
theorem dX5_counts_39 : decode cX5_counts 39 = .ok (.aload_n 0, 1) := by decide +kernel
theorem dX5_counts_40 : decode cX5_counts 40 = .ok (.getfield 124, 3) := by decide +kernel
theorem dX5_counts_43 : decode cX5_counts 43 = .ok (.putfield 124, 3) := by decide +kernel
theorem dX5_counts_46 : decode cX5_counts 46 = .ok (.aload_n 0, 1) := by decide +kernel
theorem dX5_counts_47 : decode cX5_counts 47 = .ok (.iload_n 1, 1) := by decide +kernel
theorem dX5_counts_48 : decode cX5_counts 48 = .ok (.aload_n 0, 1) := by decide +kernel
theorem dX5_counts_49 : decode cX5_counts 49 = .ok (.getfield 127, 3) := by decide +kernel
theorem dX5_counts_52 : decode cX5_counts 52 = .ok (.if_icmp .le 7, 3) := by decide +kernel
theorem dX5_counts_55 : decode cX5_counts 55 = .ok (.iload_n 1, 1) := by decide +kernel
theorem dX5_counts_56 : decode cX5_counts 56 = .ok (.goto 7, 3) := by decide +kernel
theorem dX5_counts_59 : decode cX5_counts 59 = .ok (.aload_n 0, 1) := by decide +kernel
theorem dX5_counts_60 : decode cX5_counts 60 = .ok (.getfield 127, 3) := by decide +kernel
theorem dX5_counts_63 : decode cX5_counts 63 = .ok (.putfield 127, 3) := by decide +kernel
theorem dX5_counts_66 : decode cX5_counts 66 = .ok (.return_, 1) := by decide +kernel
theorem dX5_trimmed_0 : decode cX5_trimmed 0 = .ok (.aload_n 0, 1) := by decide +kernel
theorem dX5_trimmed_1 : decode cX5_trimmed 1 = .ok (.getfield 118, 3) := by decide +kernel
theorem dX5_trimmed_4 : decode cX5_trimmed 4 = .ok (.iconst 3, 1) := by decide +kernel
theorem dX5_trimmed_5 : decode cX5_trimmed 5 = .ok (.if_icmp .ge 7, 3) := by decide +kernel
theorem dX5_trimmed_8 : decode cX5_trimmed 8 = .ok (.dconst 0, 1) := by decide +kernel
theorem dX5_trimmed_9 : decode cX5_trimmed 9 = .ok (.goto 26, 3) := by decide +kernel
theorem dX5_trimmed_12 : decode cX5_trimmed 12 = .ok (.aload_n 0, 1) := by decide +kernel
theorem dX5_trimmed_13 : decode cX5_trimmed 13 = .ok (.getfield 121, 3) := by decide +kernel
theorem dX5_trimmed_16 : decode cX5_trimmed 16 = .ok (.aload_n 0, 1) := by decide +kernel
theorem dX5_trimmed_17 : decode cX5_trimmed 17 = .ok (.getfield 124, 3) := by decide +kernel
theorem dX5_trimmed_20 : decode cX5_trimmed 20 = .ok (.isub, 1) := by decide +kernel
theorem dX5_trimmed_21 : decode cX5_trimmed 21 = .ok (.aload_n 0, 1) := by decide +kernel
theorem dX5_trimmed_22 : decode cX5_trimmed 22 = .ok (.getfield 127, 3) := by decide +kernel
theorem dX5_trimmed_25 : decode cX5_trimmed 25 = .ok (.isub, 1) := by decide +kernel
theorem dX5_trimmed_26 : decode cX5_trimmed 26 = .ok (.i2d, 1) := by decide +kernel
theorem dX5_trimmed_27 : decode cX5_trimmed 27 = .ok (.aload_n 0, 1) := by decide +kernel
theorem dX5_trimmed_28 : decode cX5_trimmed 28 = .ok (.getfield 118, 3) := by decide +kernel
theorem dX5_trimmed_31 : decode cX5_trimmed 31 = .ok (.iconst 2, 1) := by decide +kernel
theorem dX5_trimmed_32 : decode cX5_trimmed 32 = .ok (.isub, 1) := by decide +kernel
theorem dX5_trimmed_33 : decode cX5_trimmed 33 = .ok (.i2d, 1) := by decide +kernel
theorem dX5_trimmed_34 : decode cX5_trimmed 34 = .ok (.ddiv, 1) := by decide +kernel
theorem dX5_trimmed_35 : decode cX5_trimmed 35 = .ok (.dreturn, 1) := by decide +kernel
theorem dX5_meanOf_0 : decode cX5_meanOf 0 = .ok (.aload_n 0, 1) := by decide +kernel
theorem dX5_meanOf_1 : decode cX5_meanOf 1 = .ok (.invokevirtual 130, 3) := by decide +kernel
theorem dX5_meanOf_4 : decode cX5_meanOf 4 = .ok (.iconst 0, 1) := by decide +kernel
theorem dX5_meanOf_5 : decode cX5_meanOf 5 = .ok (.istore_n 3, 1) := by decide +kernel
theorem dX5_meanOf_6 : decode cX5_meanOf 6 = .ok (.iload_n 3, 1) := by decide +kernel
theorem dX5_meanOf_7 : decode cX5_meanOf 7 = .ok (.bipush 7, 2) := by decide +kernel
theorem dX5_meanOf_9 : decode cX5_meanOf 9 = .ok (.if_icmp .ge 29, 3) := by decide +kernel
theorem dX5_meanOf_12 : decode cX5_meanOf 12 = .ok (.aload_n 0, 1) := by decide +kernel
theorem dX5_meanOf_13 : decode cX5_meanOf 13 = .ok (.aload_n 0, 1) := by decide +kernel
theorem dX5_meanOf_14 : decode cX5_meanOf 14 = .ok (.getfield 45, 3) := by decide +kernel
theorem dX5_meanOf_17 : decode cX5_meanOf 17 = .ok (.sipush 144, 3) := by decide +kernel
theorem dX5_meanOf_20 : decode cX5_meanOf 20 = .ok (.iload_n 3, 1) := by decide +kernel
theorem dX5_meanOf_21 : decode cX5_meanOf 21 = .ok (.imul, 1) := by decide +kernel
theorem dX5_meanOf_22 : decode cX5_meanOf 22 = .ok (.iload_n 1, 1) := by decide +kernel
theorem dX5_meanOf_23 : decode cX5_meanOf 23 = .ok (.iload_n 2, 1) := by decide +kernel
theorem dX5_meanOf_24 : decode cX5_meanOf 24 = .ok (.invokestatic 92, 3) := by decide +kernel
theorem dX5_meanOf_27 : decode cX5_meanOf 27 = .ok (.iadd, 1) := by decide +kernel
theorem dX5_meanOf_28 : decode cX5_meanOf 28 = .ok (.iaload, 1) := by decide +kernel
theorem dX5_meanOf_29 : decode cX5_meanOf 29 = .ok (.invokevirtual 133, 3) := by decide +kernel
theorem dX5_meanOf_32 : decode cX5_meanOf 32 = .ok (.iinc 3 1, 3) := by decide +kernel
theorem dX5_meanOf_35 : decode cX5_meanOf 35 = .ok (.goto (-29), 3) := by decide +kernel
theorem dX5_meanOf_38 : decode cX5_meanOf 38 = .ok (.aload_n 0, 1) := by decide +kernel
theorem dX5_meanOf_39 : decode cX5_meanOf 39 = .ok (.invokevirtual 137, 3) := by decide +kernel
theorem dX5_meanOf_42 : decode cX5_meanOf 42 = .ok (.dreturn, 1) := by decide +kernel
theorem dX5_scoreOf_0 : decode cX5_scoreOf 0 = .ok (.aload_n 0, 1) := by decide +kernel
theorem dX5_scoreOf_1 : decode cX5_scoreOf 1 = .ok (.iload_n 1, 1) := by decide +kernel
theorem dX5_scoreOf_2 : decode cX5_scoreOf 2 = .ok (.iload_n 2, 1) := by decide +kernel
theorem dX5_scoreOf_3 : decode cX5_scoreOf 3 = .ok (.iload_n 3, 1) := by decide +kernel
theorem dX5_scoreOf_4 : decode cX5_scoreOf 4 = .ok (.invokevirtual 141, 3) := by decide +kernel
theorem dX5_scoreOf_7 : decode cX5_scoreOf 7 = .ok (.istore 4, 2) := by decide +kernel
theorem dX5_scoreOf_9 : decode cX5_scoreOf 9 = .ok (.iload 4, 2) := by decide +kernel
theorem dX5_scoreOf_11 : decode cX5_scoreOf 11 = .ok (.iload 4, 2) := by decide +kernel
theorem dX5_scoreOf_13 : decode cX5_scoreOf 13 = .ok (.i2d, 1) := by decide +kernel
theorem dX5_scoreOf_14 : decode cX5_scoreOf 14 = .ok (.aload_n 0, 1) := by decide +kernel
theorem dX5_scoreOf_15 : decode cX5_scoreOf 15 = .ok (.iload_n 1, 1) := by decide +kernel
theorem dX5_scoreOf_16 : decode cX5_scoreOf 16 = .ok (.iload_n 2, 1) := by decide +kernel
theorem dX5_scoreOf_17 : decode cX5_scoreOf 17 = .ok (.invokevirtual 144, 3) := by decide +kernel
theorem dX5_scoreOf_20 : decode cX5_scoreOf 20 = .ok (.dmul, 1) := by decide +kernel
theorem dX5_scoreOf_21 : decode cX5_scoreOf 21 = .ok (.ldc2_w 148, 3) := by decide +kernel
theorem dX5_scoreOf_24 : decode cX5_scoreOf 24 = .ok (.ddiv, 1) := by decide +kernel
theorem dX5_scoreOf_25 : decode cX5_scoreOf 25 = .ok (.invokestatic 112, 3) := by decide +kernel
theorem dX5_scoreOf_28 : decode cX5_scoreOf 28 = .ok (.iadd, 1) := by decide +kernel
theorem dX5_scoreOf_29 : decode cX5_scoreOf 29 = .ok (.ireturn, 1) := by decide +kernel
theorem dX5_elementsOf_0 : decode cX5_elementsOf 0 = .ok (.iconst 0, 1) := by decide +kernel
theorem dX5_elementsOf_1 : decode cX5_elementsOf 1 = .ok (.istore_n 3, 1) := by decide +kernel
theorem dX5_elementsOf_2 : decode cX5_elementsOf 2 = .ok (.iconst 0, 1) := by decide +kernel
theorem dX5_elementsOf_3 : decode cX5_elementsOf 3 = .ok (.istore 4, 2) := by decide +kernel
theorem dX5_elementsOf_5 : decode cX5_elementsOf 5 = .ok (.iload 4, 2) := by decide +kernel
theorem dX5_elementsOf_7 : decode cX5_elementsOf 7 = .ok (.aload_n 0, 1) := by decide +kernel
theorem dX5_elementsOf_8 : decode cX5_elementsOf 8 = .ok (.getfield 20, 3) := by decide +kernel
theorem dX5_elementsOf_11 : decode cX5_elementsOf 11 = .ok (.iload_n 1, 1) := by decide +kernel
theorem dX5_elementsOf_12 : decode cX5_elementsOf 12 = .ok (.iaload, 1) := by decide +kernel
theorem dX5_elementsOf_13 : decode cX5_elementsOf 13 = .ok (.if_icmp .ge 20, 3) := by decide +kernel
theorem dX5_elementsOf_16 : decode cX5_elementsOf 16 = .ok (.iload_n 3, 1) := by decide +kernel
theorem dX5_elementsOf_17 : decode cX5_elementsOf 17 = .ok (.aload_n 0, 1) := by decide +kernel
theorem dX5_elementsOf_18 : decode cX5_elementsOf 18 = .ok (.iload_n 1, 1) := by decide +kernel
theorem dX5_elementsOf_19 : decode cX5_elementsOf 19 = .ok (.iload 4, 2) := by decide +kernel
theorem dX5_elementsOf_21 : decode cX5_elementsOf 21 = .ok (.iload_n 2, 1) := by decide +kernel
theorem dX5_elementsOf_22 : decode cX5_elementsOf 22 = .ok (.invokevirtual 150, 3) := by decide +kernel
theorem dX5_elementsOf_25 : decode cX5_elementsOf 25 = .ok (.iadd, 1) := by decide +kernel
theorem dX5_elementsOf_26 : decode cX5_elementsOf 26 = .ok (.istore_n 3, 1) := by decide +kernel
theorem dX5_elementsOf_27 : decode cX5_elementsOf 27 = .ok (.iinc 4 1, 3) := by decide +kernel
theorem dX5_elementsOf_30 : decode cX5_elementsOf 30 = .ok (.goto (-25), 3) := by decide +kernel
theorem dX5_elementsOf_33 : decode cX5_elementsOf 33 = .ok (.iload_n 3, 1) := by decide +kernel
theorem dX5_elementsOf_34 : decode cX5_elementsOf 34 = .ok (.ireturn, 1) := by decide +kernel
theorem dX5_componentsOf_0 : decode cX5_componentsOf 0 = .ok (.iconst 0, 1) := by decide +kernel
theorem dX5_componentsOf_1 : decode cX5_componentsOf 1 = .ok (.istore_n 2, 1) := by decide +kernel
theorem dX5_componentsOf_2 : decode cX5_componentsOf 2 = .ok (.iconst 0, 1) := by decide +kernel
theorem dX5_componentsOf_3 : decode cX5_componentsOf 3 = .ok (.istore_n 3, 1) := by decide +kernel
theorem dX5_componentsOf_4 : decode cX5_componentsOf 4 = .ok (.iload_n 3, 1) := by decide +kernel
theorem dX5_componentsOf_5 : decode cX5_componentsOf 5 = .ok (.iconst 3, 1) := by decide +kernel
theorem dX5_componentsOf_6 : decode cX5_componentsOf 6 = .ok (.if_icmp .ge 65, 3) := by decide +kernel
theorem dX5_componentsOf_9 : decode cX5_componentsOf 9 = .ok (.aload_n 0, 1) := by decide +kernel
theorem dX5_componentsOf_10 : decode cX5_componentsOf 10 = .ok (.invokevirtual 130, 3) := by decide +kernel
theorem dX5_componentsOf_13 : decode cX5_componentsOf 13 = .ok (.iconst 0, 1) := by decide +kernel
theorem dX5_componentsOf_14 : decode cX5_componentsOf 14 = .ok (.istore 4, 2) := by decide +kernel
theorem dX5_componentsOf_16 : decode cX5_componentsOf 16 = .ok (.iload 4, 2) := by decide +kernel
theorem dX5_componentsOf_18 : decode cX5_componentsOf 18 = .ok (.bipush 7, 2) := by decide +kernel
theorem dX5_componentsOf_20 : decode cX5_componentsOf 20 = .ok (.if_icmp .ge 29, 3) := by decide +kernel
theorem dX5_componentsOf_23 : decode cX5_componentsOf 23 = .ok (.aload_n 0, 1) := by decide +kernel
theorem dX5_componentsOf_24 : decode cX5_componentsOf 24 = .ok (.aload_n 0, 1) := by decide +kernel
theorem dX5_componentsOf_25 : decode cX5_componentsOf 25 = .ok (.getfield 48, 3) := by decide +kernel
theorem dX5_componentsOf_28 : decode cX5_componentsOf 28 = .ok (.bipush 36, 2) := by decide +kernel
theorem dX5_componentsOf_30 : decode cX5_componentsOf 30 = .ok (.iload 4, 2) := by decide +kernel
theorem dX5_componentsOf_32 : decode cX5_componentsOf 32 = .ok (.imul, 1) := by decide +kernel
theorem dX5_componentsOf_33 : decode cX5_componentsOf 33 = .ok (.iconst 3, 1) := by decide +kernel
theorem dX5_componentsOf_34 : decode cX5_componentsOf 34 = .ok (.iload_n 1, 1) := by decide +kernel
theorem dX5_componentsOf_35 : decode cX5_componentsOf 35 = .ok (.imul, 1) := by decide +kernel
theorem dX5_componentsOf_36 : decode cX5_componentsOf 36 = .ok (.iadd, 1) := by decide +kernel
theorem dX5_componentsOf_37 : decode cX5_componentsOf 37 = .ok (.iload_n 3, 1) := by decide +kernel
theorem dX5_componentsOf_38 : decode cX5_componentsOf 38 = .ok (.iadd, 1) := by decide +kernel
theorem dX5_componentsOf_39 : decode cX5_componentsOf 39 = .ok (.iaload, 1) := by decide +kernel
theorem dX5_componentsOf_40 : decode cX5_componentsOf 40 = .ok (.invokevirtual 133, 3) := by decide +kernel
theorem dX5_componentsOf_43 : decode cX5_componentsOf 43 = .ok (.iinc 4 1, 3) := by decide +kernel
theorem dX5_componentsOf_46 : decode cX5_componentsOf 46 = .ok (.goto (-30), 3) := by decide +kernel
theorem dX5_componentsOf_49 : decode cX5_componentsOf 49 = .ok (.iload_n 2, 1) := by decide +kernel
theorem dX5_componentsOf_50 : decode cX5_componentsOf 50 = .ok (.ldc2_w 153, 3) := by decide +kernel
theorem dX5_componentsOf_53 : decode cX5_componentsOf 53 = .ok (.aload_n 0, 1) := by decide +kernel
theorem dX5_componentsOf_54 : decode cX5_componentsOf 54 = .ok (.invokevirtual 137, 3) := by decide +kernel
theorem dX5_componentsOf_57 : decode cX5_componentsOf 57 = .ok (.dmul, 1) := by decide +kernel
theorem dX5_componentsOf_58 : decode cX5_componentsOf 58 = .ok (.invokestatic 112, 3) := by decide +kernel
theorem dX5_componentsOf_61 : decode cX5_componentsOf 61 = .ok (.iconst 2, 1) := by decide +kernel
theorem dX5_componentsOf_62 : decode cX5_componentsOf 62 = .ok (.imul, 1) := by decide +kernel
theorem dX5_componentsOf_63 : decode cX5_componentsOf 63 = .ok (.iadd, 1) := by decide +kernel
theorem dX5_componentsOf_64 : decode cX5_componentsOf 64 = .ok (.istore_n 2, 1) := by decide +kernel
theorem dX5_componentsOf_65 : decode cX5_componentsOf 65 = .ok (.iinc 3 1, 3) := by decide +kernel
theorem dX5_componentsOf_68 : decode cX5_componentsOf 68 = .ok (.goto (-64), 3) := by decide +kernel
theorem dX5_componentsOf_71 : decode cX5_componentsOf 71 = .ok (.iload_n 2, 1) := by decide +kernel
theorem dX5_componentsOf_72 : decode cX5_componentsOf 72 = .ok (.ireturn, 1) := by decide +kernel
theorem dX5_fineOf_0 : decode cX5_fineOf 0 = .ok (.iconst 0, 1) := by decide +kernel
theorem dX5_fineOf_1 : decode cX5_fineOf 1 = .ok (.istore_n 2, 1) := by decide +kernel
theorem dX5_fineOf_2 : decode cX5_fineOf 2 = .ok (.iconst 0, 1) := by decide +kernel
theorem dX5_fineOf_3 : decode cX5_fineOf 3 = .ok (.istore_n 3, 1) := by decide +kernel
theorem dX5_fineOf_4 : decode cX5_fineOf 4 = .ok (.iload_n 3, 1) := by decide +kernel
theorem dX5_fineOf_5 : decode cX5_fineOf 5 = .ok (.aload_n 0, 1) := by decide +kernel
theorem dX5_fineOf_6 : decode cX5_fineOf 6 = .ok (.getfield 20, 3) := by decide +kernel
theorem dX5_fineOf_9 : decode cX5_fineOf 9 = .ok (.iload_n 1, 1) := by decide +kernel
theorem dX5_fineOf_10 : decode cX5_fineOf 10 = .ok (.iaload, 1) := by decide +kernel
theorem dX5_fineOf_11 : decode cX5_fineOf 11 = .ok (.if_icmp .ge 30, 3) := by decide +kernel
theorem dX5_fineOf_14 : decode cX5_fineOf 14 = .ok (.iload_n 2, 1) := by decide +kernel
theorem dX5_fineOf_15 : decode cX5_fineOf 15 = .ok (.aload_n 0, 1) := by decide +kernel
theorem dX5_fineOf_16 : decode cX5_fineOf 16 = .ok (.getfield 42, 3) := by decide +kernel
theorem dX5_fineOf_19 : decode cX5_fineOf 19 = .ok (.iload_n 1, 1) := by decide +kernel
theorem dX5_fineOf_20 : decode cX5_fineOf 20 = .ok (.iload_n 3, 1) := by decide +kernel
theorem dX5_fineOf_21 : decode cX5_fineOf 21 = .ok (.invokestatic 92, 3) := by decide +kernel
theorem dX5_fineOf_24 : decode cX5_fineOf 24 = .ok (.baload, 1) := by decide +kernel
theorem dX5_fineOf_25 : decode cX5_fineOf 25 = .ok (.ifCond .eq 7, 3) := by decide +kernel
theorem dX5_fineOf_28 : decode cX5_fineOf 28 = .ok (.iconst 1, 1) := by decide +kernel
theorem dX5_fineOf_29 : decode cX5_fineOf 29 = .ok (.goto 4, 3) := by decide +kernel
theorem dX5_fineOf_32 : decode cX5_fineOf 32 = .ok (.iconst 0, 1) := by decide +kernel
theorem dX5_fineOf_33 : decode cX5_fineOf 33 = .ok (.iadd, 1) := by decide +kernel
theorem dX5_fineOf_34 : decode cX5_fineOf 34 = .ok (.istore_n 2, 1) := by decide +kernel
theorem dX5_fineOf_35 : decode cX5_fineOf 35 = .ok (.iinc 3 1, 3) := by decide +kernel
theorem dX5_fineOf_38 : decode cX5_fineOf 38 = .ok (.goto (-34), 3) := by decide +kernel
theorem dX5_fineOf_41 : decode cX5_fineOf 41 = .ok (.iload_n 2, 1) := by decide +kernel
theorem dX5_fineOf_42 : decode cX5_fineOf 42 = .ok (.iconst 3, 1) := by decide +kernel
theorem dX5_fineOf_43 : decode cX5_fineOf 43 = .ok (.if_icmp .ge 10, 3) := by decide +kernel
theorem dX5_fineOf_46 : decode cX5_fineOf 46 = .ok (.bipush 100, 2) := by decide +kernel
theorem dX5_fineOf_48 : decode cX5_fineOf 48 = .ok (.iload_n 2, 1) := by decide +kernel
theorem dX5_fineOf_49 : decode cX5_fineOf 49 = .ok (.imul, 1) := by decide +kernel
theorem dX5_fineOf_50 : decode cX5_fineOf 50 = .ok (.goto 12, 3) := by decide +kernel
theorem dX5_fineOf_53 : decode cX5_fineOf 53 = .ok (.sipush 200, 3) := by decide +kernel
theorem dX5_fineOf_56 : decode cX5_fineOf 56 = .ok (.iload_n 2, 1) := by decide +kernel
theorem dX5_fineOf_57 : decode cX5_fineOf 57 = .ok (.imul, 1) := by decide +kernel
theorem dX5_fineOf_58 : decode cX5_fineOf 58 = .ok (.sipush 200, 3) := by decide +kernel
theorem dX5_fineOf_61 : decode cX5_fineOf 61 = .ok (.isub, 1) := by decide +kernel
theorem dX5_fineOf_62 : decode cX5_fineOf 62 = .ok (.ireturn, 1) := by decide +kernel
theorem dX5_totalOf_0 : decode cX5_totalOf 0 = .ok (.aload_n 0, 1) := by decide +kernel
theorem dX5_totalOf_1 : decode cX5_totalOf 1 = .ok (.iload_n 1, 1) := by decide +kernel
theorem dX5_totalOf_2 : decode cX5_totalOf 2 = .ok (.iload_n 2, 1) := by decide +kernel
theorem dX5_totalOf_3 : decode cX5_totalOf 3 = .ok (.invokevirtual 155, 3) := by decide +kernel
theorem dX5_totalOf_6 : decode cX5_totalOf 6 = .ok (.aload_n 0, 1) := by decide +kernel
theorem dX5_totalOf_7 : decode cX5_totalOf 7 = .ok (.iload_n 1, 1) := by decide +kernel
theorem dX5_totalOf_8 : decode cX5_totalOf 8 = .ok (.invokevirtual 158, 3) := by decide +kernel
theorem dX5_totalOf_11 : decode cX5_totalOf 11 = .ok (.iadd, 1) := by decide +kernel
theorem dX5_totalOf_12 : decode cX5_totalOf 12 = .ok (.aload_n 0, 1) := by decide +kernel
theorem dX5_totalOf_13 : decode cX5_totalOf 13 = .ok (.iload_n 1, 1) := by decide +kernel
theorem dX5_totalOf_14 : decode cX5_totalOf 14 = .ok (.invokevirtual 161, 3) := by decide +kernel
theorem dX5_totalOf_17 : decode cX5_totalOf 17 = .ok (.isub, 1) := by decide +kernel
theorem dX5_totalOf_18 : decode cX5_totalOf 18 = .ok (.istore_n 3, 1) := by decide +kernel
theorem dX5_totalOf_19 : decode cX5_totalOf 19 = .ok (.iload_n 3, 1) := by decide +kernel
theorem dX5_totalOf_20 : decode cX5_totalOf 20 = .ok (.ifCond .ge 7, 3) := by decide +kernel
theorem dX5_totalOf_23 : decode cX5_totalOf 23 = .ok (.iconst 0, 1) := by decide +kernel
theorem dX5_totalOf_24 : decode cX5_totalOf 24 = .ok (.goto 4, 3) := by decide +kernel
theorem dX5_totalOf_27 : decode cX5_totalOf 27 = .ok (.iload_n 3, 1) := by decide +kernel
theorem dX5_totalOf_28 : decode cX5_totalOf 28 = .ok (.ireturn, 1) := by decide +kernel
theorem dX5_isAhead_0 : decode cX5_isAhead 0 = .ok (.aload_n 0, 1) := by decide +kernel
theorem dX5_isAhead_1 : decode cX5_isAhead 1 = .ok (.iload_n 1, 1) := by decide +kernel
theorem dX5_isAhead_2 : decode cX5_isAhead 2 = .ok (.iload_n 3, 1) := by decide +kernel
theorem dX5_isAhead_3 : decode cX5_isAhead 3 = .ok (.invokevirtual 164, 3) := by decide +kernel
theorem dX5_isAhead_6 : decode cX5_isAhead 6 = .ok (.aload_n 0, 1) := by decide +kernel
theorem dX5_isAhead_7 : decode cX5_isAhead 7 = .ok (.iload_n 2, 1) := by decide +kernel
theorem dX5_isAhead_8 : decode cX5_isAhead 8 = .ok (.iload_n 3, 1) := by decide +kernel
theorem dX5_isAhead_9 : decode cX5_isAhead 9 = .ok (.invokevirtual 164, 3) := by decide +kernel
theorem dX5_isAhead_12 : decode cX5_isAhead 12 = .ok (.isub, 1) := by decide +kernel
theorem dX5_isAhead_13 : decode cX5_isAhead 13 = .ok (.istore 4, 2) := by decide +kernel
theorem dX5_isAhead_15 : decode cX5_isAhead 15 = .ok (.iload 4, 2) := by decide +kernel
theorem dX5_isAhead_17 : decode cX5_isAhead 17 = .ok (.ifCond .ne 19, 3) := by decide +kernel
theorem dX5_isAhead_20 : decode cX5_isAhead 20 = .ok (.aload_n 0, 1) := by decide +kernel
theorem dX5_isAhead_21 : decode cX5_isAhead 21 = .ok (.iload_n 1, 1) := by decide +kernel
theorem dX5_isAhead_22 : decode cX5_isAhead 22 = .ok (.iload_n 3, 1) := by decide +kernel
theorem dX5_isAhead_23 : decode cX5_isAhead 23 = .ok (.invokevirtual 155, 3) := by decide +kernel
theorem dX5_isAhead_26 : decode cX5_isAhead 26 = .ok (.aload_n 0, 1) := by decide +kernel
theorem dX5_isAhead_27 : decode cX5_isAhead 27 = .ok (.iload_n 2, 1) := by decide +kernel
theorem dX5_isAhead_28 : decode cX5_isAhead 28 = .ok (.iload_n 3, 1) := by decide +kernel
theorem dX5_isAhead_29 : decode cX5_isAhead 29 = .ok (.invokevirtual 155, 3) := by decide +kernel
theorem dX5_isAhead_32 : decode cX5_isAhead 32 = .ok (.isub, 1) := by decide +kernel
theorem dX5_isAhead_33 : decode cX5_isAhead 33 = .ok (.goto 5, 3) := by decide +kernel
theorem dX5_isAhead_36 : decode cX5_isAhead 36 = .ok (.iload 4, 2) := by decide +kernel
theorem dX5_isAhead_38 : decode cX5_isAhead 38 = .ok (.istore 4, 2) := by decide +kernel
theorem dX5_isAhead_40 : decode cX5_isAhead 40 = .ok (.iload 4, 2) := by decide +kernel
theorem dX5_isAhead_42 : decode cX5_isAhead 42 = .ok (.ifCond .gt 13, 3) := by decide +kernel
theorem dX5_isAhead_45 : decode cX5_isAhead 45 = .ok (.iload 4, 2) := by decide +kernel
theorem dX5_isAhead_47 : decode cX5_isAhead 47 = .ok (.ifCond .ne 12, 3) := by decide +kernel
theorem dX5_isAhead_50 : decode cX5_isAhead 50 = .ok (.iload_n 1, 1) := by decide +kernel
theorem dX5_isAhead_51 : decode cX5_isAhead 51 = .ok (.iload_n 2, 1) := by decide +kernel
theorem dX5_isAhead_52 : decode cX5_isAhead 52 = .ok (.if_icmp .ge 7, 3) := by decide +kernel
theorem dX5_isAhead_55 : decode cX5_isAhead 55 = .ok (.iconst 1, 1) := by decide +kernel
theorem dX5_isAhead_56 : decode cX5_isAhead 56 = .ok (.goto 4, 3) := by decide +kernel
theorem dX5_isAhead_59 : decode cX5_isAhead 59 = .ok (.iconst 0, 1) := by decide +kernel
theorem dX5_isAhead_60 : decode cX5_isAhead 60 = .ok (.ireturn, 1) := by decide +kernel
theorem dX5_rankOf_0 : decode cX5_rankOf 0 = .ok (.iconst 0, 1) := by decide +kernel
theorem dX5_rankOf_1 : decode cX5_rankOf 1 = .ok (.istore_n 3, 1) := by decide +kernel
theorem dX5_rankOf_2 : decode cX5_rankOf 2 = .ok (.iconst 0, 1) := by decide +kernel
theorem dX5_rankOf_3 : decode cX5_rankOf 3 = .ok (.istore 4, 2) := by decide +kernel
theorem dX5_rankOf_5 : decode cX5_rankOf 5 = .ok (.iload 4, 2) := by decide +kernel
theorem dX5_rankOf_7 : decode cX5_rankOf 7 = .ok (.aload_n 0, 1) := by decide +kernel
theorem dX5_rankOf_8 : decode cX5_rankOf 8 = .ok (.getfield 61, 3) := by decide +kernel
theorem dX5_rankOf_11 : decode cX5_rankOf 11 = .ok (.if_icmp .ge 45, 3) := by decide +kernel
theorem dX5_rankOf_14 : decode cX5_rankOf 14 = .ok (.iload_n 3, 1) := by decide +kernel
theorem dX5_rankOf_15 : decode cX5_rankOf 15 = .ok (.aload_n 0, 1) := by decide +kernel
theorem dX5_rankOf_16 : decode cX5_rankOf 16 = .ok (.getfield 13, 3) := by decide +kernel
theorem dX5_rankOf_19 : decode cX5_rankOf 19 = .ok (.iload 4, 2) := by decide +kernel
theorem dX5_rankOf_21 : decode cX5_rankOf 21 = .ok (.iaload, 1) := by decide +kernel
theorem dX5_rankOf_22 : decode cX5_rankOf 22 = .ok (.iconst 2, 1) := by decide +kernel
theorem dX5_rankOf_23 : decode cX5_rankOf 23 = .ok (.if_icmp .ne 24, 3) := by decide +kernel
theorem dX5_rankOf_26 : decode cX5_rankOf 26 = .ok (.iload 4, 2) := by decide +kernel
theorem dX5_rankOf_28 : decode cX5_rankOf 28 = .ok (.iload_n 1, 1) := by decide +kernel
theorem dX5_rankOf_29 : decode cX5_rankOf 29 = .ok (.if_icmp .eq 18, 3) := by decide +kernel
theorem dX5_rankOf_32 : decode cX5_rankOf 32 = .ok (.aload_n 0, 1) := by decide +kernel
theorem dX5_rankOf_33 : decode cX5_rankOf 33 = .ok (.iload 4, 2) := by decide +kernel
theorem dX5_rankOf_35 : decode cX5_rankOf 35 = .ok (.iload_n 1, 1) := by decide +kernel
theorem dX5_rankOf_36 : decode cX5_rankOf 36 = .ok (.iload_n 2, 1) := by decide +kernel
theorem dX5_rankOf_37 : decode cX5_rankOf 37 = .ok (.invokevirtual 167, 3) := by decide +kernel
theorem dX5_rankOf_40 : decode cX5_rankOf 40 = .ok (.ifCond .eq 7, 3) := by decide +kernel
theorem dX5_rankOf_43 : decode cX5_rankOf 43 = .ok (.iconst 1, 1) := by decide +kernel
theorem dX5_rankOf_44 : decode cX5_rankOf 44 = .ok (.goto 4, 3) := by decide +kernel
theorem dX5_rankOf_47 : decode cX5_rankOf 47 = .ok (.iconst 0, 1) := by decide +kernel
theorem dX5_rankOf_48 : decode cX5_rankOf 48 = .ok (.iadd, 1) := by decide +kernel
theorem dX5_rankOf_49 : decode cX5_rankOf 49 = .ok (.istore_n 3, 1) := by decide +kernel
theorem dX5_rankOf_50 : decode cX5_rankOf 50 = .ok (.iinc 4 1, 3) := by decide +kernel
theorem dX5_rankOf_53 : decode cX5_rankOf 53 = .ok (.goto (-48), 3) := by decide +kernel
theorem dX5_rankOf_56 : decode cX5_rankOf 56 = .ok (.aload_n 0, 1) := by decide +kernel
theorem dX5_rankOf_57 : decode cX5_rankOf 57 = .ok (.getfield 13, 3) := by decide +kernel
theorem dX5_rankOf_60 : decode cX5_rankOf 60 = .ok (.iload_n 1, 1) := by decide +kernel
theorem dX5_rankOf_61 : decode cX5_rankOf 61 = .ok (.iaload, 1) := by decide +kernel
theorem dX5_rankOf_62 : decode cX5_rankOf 62 = .ok (.iconst 2, 1) := by decide +kernel
theorem dX5_rankOf_63 : decode cX5_rankOf 63 = .ok (.if_icmp .ne 7, 3) := by decide +kernel
theorem dX5_rankOf_66 : decode cX5_rankOf 66 = .ok (.iload_n 3, 1) := by decide +kernel
theorem dX5_rankOf_67 : decode cX5_rankOf 67 = .ok (.goto 4, 3) := by decide +kernel
theorem dX5_rankOf_70 : decode cX5_rankOf 70 = .ok (.iconst (-1), 1) := by decide +kernel
theorem dX5_rankOf_71 : decode cX5_rankOf 71 = .ok (.ireturn, 1) := by decide +kernel
theorem dX5_element_0 : decode cX5_element 0 = .ok (.aload_n 0, 1) := by decide +kernel
theorem dX5_element_1 : decode cX5_element 1 = .ok (.aload_n 0, 1) := by decide +kernel
theorem dX5_element_2 : decode cX5_element 2 = .ok (.iload_n 1, 1) := by decide +kernel
theorem dX5_element_3 : decode cX5_element 3 = .ok (.iload_n 2, 1) := by decide +kernel
theorem dX5_element_4 : decode cX5_element 4 = .ok (.invokevirtual 96, 3) := by decide +kernel
theorem dX5_element_7 : decode cX5_element 7 = .ok (.ifCond .ne 7, 3) := by decide +kernel
theorem dX5_element_10 : decode cX5_element 10 = .ok (.iconst 1, 1) := by decide +kernel
theorem dX5_element_11 : decode cX5_element 11 = .ok (.goto 28, 3) := by decide +kernel
theorem dX5_element_14 : decode cX5_element 14 = .ok (.iload_n 3, 1) := by decide +kernel
theorem dX5_element_15 : decode cX5_element 15 = .ok (.iconst 0, 1) := by decide +kernel
theorem dX5_element_16 : decode cX5_element 16 = .ok (.iconst 2, 1) := by decide +kernel
theorem dX5_element_17 : decode cX5_element 17 = .ok (.invokestatic 64, 3) := by decide +kernel
theorem dX5_element_20 : decode cX5_element 20 = .ok (.ifCond .eq 18, 3) := by decide +kernel
theorem dX5_element_23 : decode cX5_element 23 = .ok (.iload 4, 2) := by decide +kernel
theorem dX5_element_25 : decode cX5_element 25 = .ok (.iconst 0, 1) := by decide +kernel
theorem dX5_element_26 : decode cX5_element 26 = .ok (.bipush 7, 2) := by decide +kernel
theorem dX5_element_28 : decode cX5_element 28 = .ok (.invokestatic 64, 3) := by decide +kernel
theorem dX5_element_31 : decode cX5_element 31 = .ok (.ifCond .eq 7, 3) := by decide +kernel
theorem dX5_element_34 : decode cX5_element 34 = .ok (.iconst 0, 1) := by decide +kernel
theorem dX5_element_35 : decode cX5_element 35 = .ok (.goto 4, 3) := by decide +kernel
theorem dX5_element_38 : decode cX5_element 38 = .ok (.iconst 2, 1) := by decide +kernel
theorem dX5_element_39 : decode cX5_element 39 = .ok (.putfield 58, 3) := by decide +kernel
theorem dX5_element_42 : decode cX5_element 42 = .ok (.aload_n 0, 1) := by decide +kernel
theorem dX5_element_43 : decode cX5_element 43 = .ok (.getfield 58, 3) := by decide +kernel
theorem dX5_element_46 : decode cX5_element 46 = .ok (.ifCond .le 5, 3) := by decide +kernel
theorem dX5_element_49 : decode cX5_element 49 = .ok (.iconst 0, 1) := by decide +kernel
theorem dX5_element_50 : decode cX5_element 50 = .ok (.ireturn, 1) := by decide +kernel
theorem dX5_element_51 : decode cX5_element 51 = .ok (.iload_n 1, 1) := by decide +kernel
theorem dX5_element_52 : decode cX5_element 52 = .ok (.iload_n 2, 1) := by decide +kernel
theorem dX5_element_53 : decode cX5_element 53 = .ok (.invokestatic 92, 3) := by decide +kernel
theorem dX5_element_56 : decode cX5_element 56 = .ok (.istore 5, 2) := by decide +kernel
theorem dX5_element_58 : decode cX5_element 58 = .ok (.iload 4, 2) := by decide +kernel
theorem dX5_element_60 : decode cX5_element 60 = .ok (.iconst 3, 1) := by decide +kernel
theorem dX5_element_61 : decode cX5_element 61 = .ok (.if_icmp .ge 41, 3) := by decide +kernel
theorem dX5_element_64 : decode cX5_element 64 = .ok (.iload 4, 2) := by decide +kernel
theorem dX5_element_66 : decode cX5_element 66 = .ok (.ifCond .ne 13, 3) := by decide +kernel
theorem dX5_element_69 : decode cX5_element 69 = .ok (.aload_n 0, 1) := by decide +kernel
theorem dX5_element_70 : decode cX5_element 70 = .ok (.getfield 23, 3) := by decide +kernel
theorem dX5_element_73 : decode cX5_element 73 = .ok (.iload 5, 2) := by decide +kernel
theorem dX5_element_75 : decode cX5_element 75 = .ok (.iaload, 1) := by decide +kernel
theorem dX5_element_76 : decode cX5_element 76 = .ok (.goto 25, 3) := by decide +kernel
theorem dX5_element_79 : decode cX5_element 79 = .ok (.iload 4, 2) := by decide +kernel
theorem dX5_element_81 : decode cX5_element 81 = .ok (.iconst 1, 1) := by decide +kernel
theorem dX5_element_82 : decode cX5_element 82 = .ok (.if_icmp .ne 13, 3) := by decide +kernel
theorem dX5_element_85 : decode cX5_element 85 = .ok (.aload_n 0, 1) := by decide +kernel
theorem dX5_element_86 : decode cX5_element 86 = .ok (.getfield 26, 3) := by decide +kernel
theorem dX5_element_89 : decode cX5_element 89 = .ok (.iload 5, 2) := by decide +kernel
theorem dX5_element_91 : decode cX5_element 91 = .ok (.iaload, 1) := by decide +kernel
theorem dX5_element_92 : decode cX5_element 92 = .ok (.goto 9, 3) := by decide +kernel
theorem dX5_element_95 : decode cX5_element 95 = .ok (.aload_n 0, 1) := by decide +kernel
theorem dX5_element_96 : decode cX5_element 96 = .ok (.iload 5, 2) := by decide +kernel
theorem dX5_element_98 : decode cX5_element 98 = .ok (.invokevirtual 100, 3) := by decide +kernel
theorem dX5_element_101 : decode cX5_element 101 = .ok (.ireturn, 1) := by decide +kernel
theorem dX5_element_102 : decode cX5_element 102 = .ok (.iload 4, 2) := by decide +kernel
theorem dX5_element_104 : decode cX5_element 104 = .ok (.bipush 6, 2) := by decide +kernel
theorem dX5_element_106 : decode cX5_element 106 = .ok (.if_icmp .ge 57, 3) := by decide +kernel
theorem dX5_element_109 : decode cX5_element 109 = .ok (.iload 4, 2) := by decide +kernel
theorem dX5_element_111 : decode cX5_element 111 = .ok (.iconst 3, 1) := by decide +kernel
theorem dX5_element_112 : decode cX5_element 112 = .ok (.if_icmp .ne 16, 3) := by decide +kernel
theorem dX5_element_115 : decode cX5_element 115 = .ok (.aload_n 0, 1) := by decide +kernel
theorem dX5_element_116 : decode cX5_element 116 = .ok (.getfield 35, 3) := by decide +kernel
theorem dX5_element_119 : decode cX5_element 119 = .ok (.iload 5, 2) := by decide +kernel
theorem dX5_element_121 : decode cX5_element 121 = .ok (.baload, 1) := by decide +kernel
theorem dX5_element_122 : decode cX5_element 122 = .ok (.ifCond .eq 39, 3) := by decide +kernel
theorem dX5_element_125 : decode cX5_element 125 = .ok (.goto 32, 3) := by decide +kernel
theorem dX5_element_128 : decode cX5_element 128 = .ok (.iload 4, 2) := by decide +kernel
theorem dX5_element_130 : decode cX5_element 130 = .ok (.iconst 4, 1) := by decide +kernel
theorem dX5_element_131 : decode cX5_element 131 = .ok (.if_icmp .ne 16, 3) := by decide +kernel
theorem dX5_element_134 : decode cX5_element 134 = .ok (.aload_n 0, 1) := by decide +kernel
theorem dX5_element_135 : decode cX5_element 135 = .ok (.getfield 39, 3) := by decide +kernel
theorem dX5_element_138 : decode cX5_element 138 = .ok (.iload 5, 2) := by decide +kernel
theorem dX5_element_140 : decode cX5_element 140 = .ok (.baload, 1) := by decide +kernel
theorem dX5_element_141 : decode cX5_element 141 = .ok (.ifCond .eq 20, 3) := by decide +kernel
theorem dX5_element_144 : decode cX5_element 144 = .ok (.goto 13, 3) := by decide +kernel
theorem dX5_element_147 : decode cX5_element 147 = .ok (.aload_n 0, 1) := by decide +kernel
theorem dX5_element_148 : decode cX5_element 148 = .ok (.getfield 42, 3) := by decide +kernel
theorem dX5_element_151 : decode cX5_element 151 = .ok (.iload 5, 2) := by decide +kernel
theorem dX5_element_153 : decode cX5_element 153 = .ok (.baload, 1) := by decide +kernel
theorem dX5_element_154 : decode cX5_element 154 = .ok (.ifCond .eq 7, 3) := by decide +kernel
theorem dX5_element_157 : decode cX5_element 157 = .ok (.iconst 1, 1) := by decide +kernel
theorem dX5_element_158 : decode cX5_element 158 = .ok (.goto 4, 3) := by decide +kernel
theorem dX5_element_161 : decode cX5_element 161 = .ok (.iconst 0, 1) := by decide +kernel
theorem dX5_element_162 : decode cX5_element 162 = .ok (.ireturn, 1) := by decide +kernel
theorem dX5_element_163 : decode cX5_element 163 = .ok (.iload 4, 2) := by decide +kernel
theorem dX5_element_165 : decode cX5_element 165 = .ok (.bipush 6, 2) := by decide +kernel
theorem dX5_element_167 : decode cX5_element 167 = .ok (.if_icmp .ne 13, 3) := by decide +kernel
theorem dX5_element_170 : decode cX5_element 170 = .ok (.aload_n 0, 1) := by decide +kernel
theorem dX5_element_171 : decode cX5_element 171 = .ok (.iload_n 1, 1) := by decide +kernel
theorem dX5_element_172 : decode cX5_element 172 = .ok (.iload_n 2, 1) := by decide +kernel
theorem dX5_element_173 : decode cX5_element 173 = .ok (.iload_n 3, 1) := by decide +kernel
theorem dX5_element_174 : decode cX5_element 174 = .ok (.invokevirtual 141, 3) := by decide +kernel
theorem dX5_element_177 : decode cX5_element 177 = .ok (.goto 10, 3) := by decide +kernel
theorem dX5_element_180 : decode cX5_element 180 = .ok (.aload_n 0, 1) := by decide +kernel
theorem dX5_element_181 : decode cX5_element 181 = .ok (.iload_n 1, 1) := by decide +kernel
theorem dX5_element_182 : decode cX5_element 182 = .ok (.iload_n 2, 1) := by decide +kernel
theorem dX5_element_183 : decode cX5_element 183 = .ok (.iload_n 3, 1) := by decide +kernel
theorem dX5_element_184 : decode cX5_element 184 = .ok (.invokevirtual 150, 3) := by decide +kernel
theorem dX5_element_187 : decode cX5_element 187 = .ok (.ireturn, 1) := by decide +kernel
theorem dX5_programme_0 : decode cX5_programme 0 = .ok (.aload_n 0, 1) := by decide +kernel
theorem dX5_programme_1 : decode cX5_programme 1 = .ok (.aload_n 0, 1) := by decide +kernel
theorem dX5_programme_2 : decode cX5_programme 2 = .ok (.iload_n 1, 1) := by decide +kernel
theorem dX5_programme_3 : decode cX5_programme 3 = .ok (.invokevirtual 68, 3) := by decide +kernel
theorem dX5_programme_6 : decode cX5_programme 6 = .ok (.ifCond .ne 7, 3) := by decide +kernel
theorem dX5_programme_9 : decode cX5_programme 9 = .ok (.iconst 1, 1) := by decide +kernel
theorem dX5_programme_10 : decode cX5_programme 10 = .ok (.goto 26, 3) := by decide +kernel
theorem dX5_programme_13 : decode cX5_programme 13 = .ok (.iload_n 2, 1) := by decide +kernel
theorem dX5_programme_14 : decode cX5_programme 14 = .ok (.iconst 0, 1) := by decide +kernel
theorem dX5_programme_15 : decode cX5_programme 15 = .ok (.iconst 2, 1) := by decide +kernel
theorem dX5_programme_16 : decode cX5_programme 16 = .ok (.invokestatic 64, 3) := by decide +kernel
theorem dX5_programme_19 : decode cX5_programme 19 = .ok (.ifCond .eq 16, 3) := by decide +kernel
theorem dX5_programme_22 : decode cX5_programme 22 = .ok (.iload_n 3, 1) := by decide +kernel
theorem dX5_programme_23 : decode cX5_programme 23 = .ok (.iconst 0, 1) := by decide +kernel
theorem dX5_programme_24 : decode cX5_programme 24 = .ok (.iconst 5, 1) := by decide +kernel
theorem dX5_programme_25 : decode cX5_programme 25 = .ok (.invokestatic 64, 3) := by decide +kernel
theorem dX5_programme_28 : decode cX5_programme 28 = .ok (.ifCond .eq 7, 3) := by decide +kernel
theorem dX5_programme_31 : decode cX5_programme 31 = .ok (.iconst 0, 1) := by decide +kernel
theorem dX5_programme_32 : decode cX5_programme 32 = .ok (.goto 4, 3) := by decide +kernel
theorem dX5_programme_35 : decode cX5_programme 35 = .ok (.iconst 2, 1) := by decide +kernel
theorem dX5_programme_36 : decode cX5_programme 36 = .ok (.putfield 58, 3) := by decide +kernel
theorem dX5_programme_39 : decode cX5_programme 39 = .ok (.aload_n 0, 1) := by decide +kernel
theorem dX5_programme_40 : decode cX5_programme 40 = .ok (.getfield 58, 3) := by decide +kernel
theorem dX5_programme_43 : decode cX5_programme 43 = .ok (.ifCond .le 5, 3) := by decide +kernel
theorem dX5_programme_46 : decode cX5_programme 46 = .ok (.iconst 0, 1) := by decide +kernel
theorem dX5_programme_47 : decode cX5_programme 47 = .ok (.ireturn, 1) := by decide +kernel
theorem dX5_programme_48 : decode cX5_programme 48 = .ok (.iload_n 3, 1) := by decide +kernel
theorem dX5_programme_49 : decode cX5_programme 49 = .ok (.iconst 3, 1) := by decide +kernel
theorem dX5_programme_50 : decode cX5_programme 50 = .ok (.if_icmp .ge 35, 3) := by decide +kernel
theorem dX5_programme_53 : decode cX5_programme 53 = .ok (.iload_n 3, 1) := by decide +kernel
theorem dX5_programme_54 : decode cX5_programme 54 = .ok (.ifCond .ne 12, 3) := by decide +kernel
theorem dX5_programme_57 : decode cX5_programme 57 = .ok (.aload_n 0, 1) := by decide +kernel
theorem dX5_programme_58 : decode cX5_programme 58 = .ok (.iload_n 1, 1) := by decide +kernel
theorem dX5_programme_59 : decode cX5_programme 59 = .ok (.iload_n 2, 1) := by decide +kernel
theorem dX5_programme_60 : decode cX5_programme 60 = .ok (.invokevirtual 155, 3) := by decide +kernel
theorem dX5_programme_63 : decode cX5_programme 63 = .ok (.goto 21, 3) := by decide +kernel
theorem dX5_programme_66 : decode cX5_programme 66 = .ok (.iload_n 3, 1) := by decide +kernel
theorem dX5_programme_67 : decode cX5_programme 67 = .ok (.iconst 1, 1) := by decide +kernel
theorem dX5_programme_68 : decode cX5_programme 68 = .ok (.if_icmp .ne 11, 3) := by decide +kernel
theorem dX5_programme_71 : decode cX5_programme 71 = .ok (.aload_n 0, 1) := by decide +kernel
theorem dX5_programme_72 : decode cX5_programme 72 = .ok (.iload_n 1, 1) := by decide +kernel
theorem dX5_programme_73 : decode cX5_programme 73 = .ok (.invokevirtual 158, 3) := by decide +kernel
theorem dX5_programme_76 : decode cX5_programme 76 = .ok (.goto 8, 3) := by decide +kernel
theorem dX5_programme_79 : decode cX5_programme 79 = .ok (.aload_n 0, 1) := by decide +kernel
theorem dX5_programme_80 : decode cX5_programme 80 = .ok (.iload_n 1, 1) := by decide +kernel
theorem dX5_programme_81 : decode cX5_programme 81 = .ok (.invokevirtual 161, 3) := by decide +kernel
theorem dX5_programme_84 : decode cX5_programme 84 = .ok (.ireturn, 1) := by decide +kernel
theorem dX5_programme_85 : decode cX5_programme 85 = .ok (.iload_n 3, 1) := by decide +kernel
theorem dX5_programme_86 : decode cX5_programme 86 = .ok (.iconst 3, 1) := by decide +kernel
theorem dX5_programme_87 : decode cX5_programme 87 = .ok (.if_icmp .ne 12, 3) := by decide +kernel
theorem dX5_programme_90 : decode cX5_programme 90 = .ok (.aload_n 0, 1) := by decide +kernel
theorem dX5_programme_91 : decode cX5_programme 91 = .ok (.iload_n 1, 1) := by decide +kernel
theorem dX5_programme_92 : decode cX5_programme 92 = .ok (.iload_n 2, 1) := by decide +kernel
theorem dX5_programme_93 : decode cX5_programme 93 = .ok (.invokevirtual 164, 3) := by decide +kernel
theorem dX5_programme_96 : decode cX5_programme 96 = .ok (.goto 23, 3) := by decide +kernel
theorem dX5_programme_99 : decode cX5_programme 99 = .ok (.iload_n 3, 1) := by decide +kernel
theorem dX5_programme_100 : decode cX5_programme 100 = .ok (.iconst 4, 1) := by decide +kernel
theorem dX5_programme_101 : decode cX5_programme 101 = .ok (.if_icmp .ne 12, 3) := by decide +kernel
theorem dX5_programme_104 : decode cX5_programme 104 = .ok (.aload_n 0, 1) := by decide +kernel
theorem dX5_programme_105 : decode cX5_programme 105 = .ok (.getfield 17, 3) := by decide +kernel
theorem dX5_programme_108 : decode cX5_programme 108 = .ok (.iload_n 1, 1) := by decide +kernel
theorem dX5_programme_109 : decode cX5_programme 109 = .ok (.iaload, 1) := by decide +kernel
theorem dX5_programme_110 : decode cX5_programme 110 = .ok (.goto 9, 3) := by decide +kernel
theorem dX5_programme_113 : decode cX5_programme 113 = .ok (.aload_n 0, 1) := by decide +kernel
theorem dX5_programme_114 : decode cX5_programme 114 = .ok (.iload_n 1, 1) := by decide +kernel
theorem dX5_programme_115 : decode cX5_programme 115 = .ok (.iload_n 2, 1) := by decide +kernel
theorem dX5_programme_116 : decode cX5_programme 116 = .ok (.invokevirtual 170, 3) := by decide +kernel
theorem dX5_programme_119 : decode cX5_programme 119 = .ok (.ireturn, 1) := by decide +kernel
theorem dX5_starts_0 : decode cX5_starts 0 = .ok (.aload_n 0, 1) := by decide +kernel
theorem dX5_starts_1 : decode cX5_starts 1 = .ok (.iload_n 1, 1) := by decide +kernel
theorem dX5_starts_2 : decode cX5_starts 2 = .ok (.iconst 0, 1) := by decide +kernel
theorem dX5_starts_3 : decode cX5_starts 3 = .ok (.iconst 2, 1) := by decide +kernel
theorem dX5_starts_4 : decode cX5_starts 4 = .ok (.invokestatic 64, 3) := by decide +kernel
theorem dX5_starts_7 : decode cX5_starts 7 = .ok (.ifCond .eq 17, 3) := by decide +kernel
theorem dX5_starts_10 : decode cX5_starts 10 = .ok (.iload_n 2, 1) := by decide +kernel
theorem dX5_starts_11 : decode cX5_starts 11 = .ok (.iconst 0, 1) := by decide +kernel
theorem dX5_starts_12 : decode cX5_starts 12 = .ok (.bipush 11, 2) := by decide +kernel
theorem dX5_starts_14 : decode cX5_starts 14 = .ok (.invokestatic 64, 3) := by decide +kernel
theorem dX5_starts_17 : decode cX5_starts 17 = .ok (.ifCond .eq 7, 3) := by decide +kernel
theorem dX5_starts_20 : decode cX5_starts 20 = .ok (.iconst 0, 1) := by decide +kernel
theorem dX5_starts_21 : decode cX5_starts 21 = .ok (.goto 4, 3) := by decide +kernel
theorem dX5_starts_24 : decode cX5_starts 24 = .ok (.iconst 1, 1) := by decide +kernel
theorem dX5_starts_25 : decode cX5_starts 25 = .ok (.putfield 58, 3) := by decide +kernel
theorem dX5_starts_28 : decode cX5_starts 28 = .ok (.aload_n 0, 1) := by decide +kernel
theorem dX5_starts_29 : decode cX5_starts 29 = .ok (.getfield 58, 3) := by decide +kernel
theorem dX5_starts_32 : decode cX5_starts 32 = .ok (.ifCond .le 5, 3) := by decide +kernel
theorem dX5_starts_35 : decode cX5_starts 35 = .ok (.iconst 0, 1) := by decide +kernel
theorem dX5_starts_36 : decode cX5_starts 36 = .ok (.ireturn, 1) := by decide +kernel
theorem dX5_starts_37 : decode cX5_starts 37 = .ok (.iconst 0, 1) := by decide +kernel
theorem dX5_starts_38 : decode cX5_starts 38 = .ok (.istore_n 3, 1) := by decide +kernel
theorem dX5_starts_39 : decode cX5_starts 39 = .ok (.iconst 0, 1) := by decide +kernel
theorem dX5_starts_40 : decode cX5_starts 40 = .ok (.istore 4, 2) := by decide +kernel
theorem dX5_starts_42 : decode cX5_starts 42 = .ok (.iload 4, 2) := by decide +kernel
theorem dX5_starts_44 : decode cX5_starts 44 = .ok (.aload_n 0, 1) := by decide +kernel
theorem dX5_starts_45 : decode cX5_starts 45 = .ok (.getfield 61, 3) := by decide +kernel
theorem dX5_starts_48 : decode cX5_starts 48 = .ok (.if_icmp .ge 28, 3) := by decide +kernel
theorem dX5_starts_51 : decode cX5_starts 51 = .ok (.iload_n 3, 1) := by decide +kernel
theorem dX5_starts_52 : decode cX5_starts 52 = .ok (.aload_n 0, 1) := by decide +kernel
theorem dX5_starts_53 : decode cX5_starts 53 = .ok (.getfield 13, 3) := by decide +kernel
theorem dX5_starts_56 : decode cX5_starts 56 = .ok (.iload 4, 2) := by decide +kernel
theorem dX5_starts_58 : decode cX5_starts 58 = .ok (.iaload, 1) := by decide +kernel
theorem dX5_starts_59 : decode cX5_starts 59 = .ok (.iconst 2, 1) := by decide +kernel
theorem dX5_starts_60 : decode cX5_starts 60 = .ok (.if_icmp .ne 7, 3) := by decide +kernel
theorem dX5_starts_63 : decode cX5_starts 63 = .ok (.iconst 1, 1) := by decide +kernel
theorem dX5_starts_64 : decode cX5_starts 64 = .ok (.goto 4, 3) := by decide +kernel
theorem dX5_starts_67 : decode cX5_starts 67 = .ok (.iconst 0, 1) := by decide +kernel
theorem dX5_starts_68 : decode cX5_starts 68 = .ok (.iadd, 1) := by decide +kernel
theorem dX5_starts_69 : decode cX5_starts 69 = .ok (.istore_n 3, 1) := by decide +kernel
theorem dX5_starts_70 : decode cX5_starts 70 = .ok (.iinc 4 1, 3) := by decide +kernel
theorem dX5_starts_73 : decode cX5_starts 73 = .ok (.goto (-31), 3) := by decide +kernel
theorem dX5_starts_76 : decode cX5_starts 76 = .ok (.iload_n 2, 1) := by decide +kernel
theorem dX5_starts_77 : decode cX5_starts 77 = .ok (.iload_n 3, 1) := by decide +kernel
theorem dX5_starts_78 : decode cX5_starts 78 = .ok (.isub, 1) := by decide +kernel
theorem dX5_starts_79 : decode cX5_starts 79 = .ok (.istore 4, 2) := by decide +kernel
theorem dX5_starts_81 : decode cX5_starts 81 = .ok (.iconst (-1), 1) := by decide +kernel
theorem dX5_starts_82 : decode cX5_starts 82 = .ok (.istore 5, 2) := by decide +kernel
theorem dX5_starts_84 : decode cX5_starts 84 = .ok (.iconst 0, 1) := by decide +kernel
theorem dX5_starts_85 : decode cX5_starts 85 = .ok (.istore 6, 2) := by decide +kernel
theorem dX5_starts_87 : decode cX5_starts 87 = .ok (.iload 6, 2) := by decide +kernel
theorem dX5_starts_89 : decode cX5_starts 89 = .ok (.aload_n 0, 1) := by decide +kernel
theorem dX5_starts_90 : decode cX5_starts 90 = .ok (.getfield 61, 3) := by decide +kernel
theorem dX5_starts_93 : decode cX5_starts 93 = .ok (.if_icmp .ge 101, 3) := by decide +kernel
theorem dX5_starts_96 : decode cX5_starts 96 = .ok (.aload_n 0, 1) := by decide +kernel
theorem dX5_starts_97 : decode cX5_starts 97 = .ok (.getfield 13, 3) := by decide +kernel
theorem dX5_starts_100 : decode cX5_starts 100 = .ok (.iload 6, 2) := by decide +kernel
theorem dX5_starts_102 : decode cX5_starts 102 = .ok (.iaload, 1) := by decide +kernel
theorem dX5_starts_103 : decode cX5_starts 103 = .ok (.iconst 2, 1) := by decide +kernel
theorem dX5_starts_104 : decode cX5_starts 104 = .ok (.if_icmp .ne 7, 3) := by decide +kernel
theorem dX5_starts_107 : decode cX5_starts 107 = .ok (.iconst 1, 1) := by decide +kernel
theorem dX5_starts_108 : decode cX5_starts 108 = .ok (.goto 4, 3) := by decide +kernel
theorem dX5_starts_111 : decode cX5_starts 111 = .ok (.iconst 0, 1) := by decide +kernel
theorem dX5_starts_112 : decode cX5_starts 112 = .ok (.istore 7, 2) := by decide +kernel
theorem dX5_starts_114 : decode cX5_starts 114 = .ok (.iload 7, 2) := by decide +kernel
theorem dX5_starts_116 : decode cX5_starts 116 = .ok (.ifCond .eq 31, 3) := by decide +kernel
theorem dX5_starts_119 : decode cX5_starts 119 = .ok (.iload_n 2, 1) := by decide +kernel
theorem dX5_starts_120 : decode cX5_starts 120 = .ok (.iload_n 3, 1) := by decide +kernel
theorem dX5_starts_121 : decode cX5_starts 121 = .ok (.if_icmp .ge 22, 3) := by decide +kernel
theorem dX5_starts_124 : decode cX5_starts 124 = .ok (.aload_n 0, 1) := by decide +kernel
theorem dX5_starts_125 : decode cX5_starts 125 = .ok (.iload 6, 2) := by decide +kernel
theorem dX5_starts_127 : decode cX5_starts 127 = .ok (.iload_n 1, 1) := by decide +kernel
theorem dX5_starts_128 : decode cX5_starts 128 = .ok (.invokevirtual 170, 3) := by decide +kernel
theorem dX5_starts_131 : decode cX5_starts 131 = .ok (.iload_n 3, 1) := by decide +kernel
theorem dX5_starts_132 : decode cX5_starts 132 = .ok (.iconst 1, 1) := by decide +kernel
theorem dX5_starts_133 : decode cX5_starts 133 = .ok (.isub, 1) := by decide +kernel
theorem dX5_starts_134 : decode cX5_starts 134 = .ok (.iload_n 2, 1) := by decide +kernel
theorem dX5_starts_135 : decode cX5_starts 135 = .ok (.isub, 1) := by decide +kernel
theorem dX5_starts_136 : decode cX5_starts 136 = .ok (.if_icmp .ne 7, 3) := by decide +kernel
theorem dX5_starts_139 : decode cX5_starts 139 = .ok (.iconst 1, 1) := by decide +kernel
theorem dX5_starts_140 : decode cX5_starts 140 = .ok (.goto 17, 3) := by decide +kernel
theorem dX5_starts_143 : decode cX5_starts 143 = .ok (.iconst 0, 1) := by decide +kernel
theorem dX5_starts_144 : decode cX5_starts 144 = .ok (.goto 13, 3) := by decide +kernel
theorem dX5_starts_147 : decode cX5_starts 147 = .ok (.iload 4, 2) := by decide +kernel
theorem dX5_starts_149 : decode cX5_starts 149 = .ok (.ifCond .ne 7, 3) := by decide +kernel
theorem dX5_starts_152 : decode cX5_starts 152 = .ok (.iconst 1, 1) := by decide +kernel
theorem dX5_starts_153 : decode cX5_starts 153 = .ok (.goto 4, 3) := by decide +kernel
theorem dX5_starts_156 : decode cX5_starts 156 = .ok (.iconst 0, 1) := by decide +kernel
theorem dX5_starts_157 : decode cX5_starts 157 = .ok (.istore 8, 2) := by decide +kernel
theorem dX5_starts_159 : decode cX5_starts 159 = .ok (.iload 8, 2) := by decide +kernel
theorem dX5_starts_161 : decode cX5_starts 161 = .ok (.ifCond .eq 8, 3) := by decide +kernel
theorem dX5_starts_164 : decode cX5_starts 164 = .ok (.iload 6, 2) := by decide +kernel
theorem dX5_starts_166 : decode cX5_starts 166 = .ok (.goto 5, 3) := by decide +kernel
theorem dX5_starts_169 : decode cX5_starts 169 = .ok (.iload 5, 2) := by decide +kernel
theorem dX5_starts_171 : decode cX5_starts 171 = .ok (.istore 5, 2) := by decide +kernel
theorem dX5_starts_173 : decode cX5_starts 173 = .ok (.iload 4, 2) := by decide +kernel
theorem dX5_starts_175 : decode cX5_starts 175 = .ok (.iload 7, 2) := by decide +kernel
theorem dX5_starts_177 : decode cX5_starts 177 = .ok (.ifCond .eq 7, 3) := by decide +kernel
theorem dX5_starts_180 : decode cX5_starts 180 = .ok (.iconst 0, 1) := by decide +kernel
theorem dX5_starts_181 : decode cX5_starts 181 = .ok (.goto 4, 3) := by decide +kernel
theorem dX5_starts_184 : decode cX5_starts 184 = .ok (.iconst 1, 1) := by decide +kernel
theorem dX5_starts_185 : decode cX5_starts 185 = .ok (.isub, 1) := by decide +kernel
theorem dX5_starts_186 : decode cX5_starts 186 = .ok (.istore 4, 2) := by decide +kernel
theorem dX5_starts_188 : decode cX5_starts 188 = .ok (.iinc 6 1, 3) := by decide +kernel
theorem dX5_starts_191 : decode cX5_starts 191 = .ok (.goto (-104), 3) := by decide +kernel
theorem dX5_starts_194 : decode cX5_starts 194 = .ok (.iload 5, 2) := by decide +kernel
theorem dX5_starts_196 : decode cX5_starts 196 = .ok (.ireturn, 1) := by decide +kernel
theorem dX5_bias_0 : decode cX5_bias 0 = .ok (.aload_n 0, 1) := by decide +kernel
theorem dX5_bias_1 : decode cX5_bias 1 = .ok (.iload_n 1, 1) := by decide +kernel
theorem dX5_bias_2 : decode cX5_bias 2 = .ok (.iconst 0, 1) := by decide +kernel
theorem dX5_bias_3 : decode cX5_bias 3 = .ok (.bipush 6, 2) := by decide +kernel
theorem dX5_bias_5 : decode cX5_bias 5 = .ok (.invokestatic 64, 3) := by decide +kernel
theorem dX5_bias_8 : decode cX5_bias 8 = .ok (.ifCond .eq 7, 3) := by decide +kernel
theorem dX5_bias_11 : decode cX5_bias 11 = .ok (.iconst 0, 1) := by decide +kernel
theorem dX5_bias_12 : decode cX5_bias 12 = .ok (.goto 4, 3) := by decide +kernel
theorem dX5_bias_15 : decode cX5_bias 15 = .ok (.iconst 1, 1) := by decide +kernel
theorem dX5_bias_16 : decode cX5_bias 16 = .ok (.putfield 58, 3) := by decide +kernel
theorem dX5_bias_19 : decode cX5_bias 19 = .ok (.dconst 0, 1) := by decide +kernel
theorem dX5_bias_20 : decode cX5_bias 20 = .ok (.dstore_n 2, 1) := by decide +kernel
theorem dX5_bias_21 : decode cX5_bias 21 = .ok (.iconst 0, 1) := by decide +kernel
theorem dX5_bias_22 : decode cX5_bias 22 = .ok (.istore 4, 2) := by decide +kernel
theorem dX5_bias_24 : decode cX5_bias 24 = .ok (.iload 4, 2) := by decide +kernel
theorem dX5_bias_26 : decode cX5_bias 26 = .ok (.sipush 144, 3) := by decide +kernel
theorem dX5_bias_29 : decode cX5_bias 29 = .ok (.if_icmp .ge 71, 3) := by decide +kernel
theorem dX5_bias_32 : decode cX5_bias 32 = .ok (.aload_n 0, 1) := by decide +kernel
theorem dX5_bias_33 : decode cX5_bias 33 = .ok (.getfield 58, 3) := by decide +kernel
theorem dX5_bias_36 : decode cX5_bias 36 = .ok (.ifCond .ne 64, 3) := by decide +kernel
theorem dX5_bias_39 : decode cX5_bias 39 = .ok (.aload_n 0, 1) := by decide +kernel
theorem dX5_bias_40 : decode cX5_bias 40 = .ok (.getfield 45, 3) := by decide +kernel
theorem dX5_bias_43 : decode cX5_bias 43 = .ok (.sipush 144, 3) := by decide +kernel
theorem dX5_bias_46 : decode cX5_bias 46 = .ok (.iload_n 1, 1) := by decide +kernel
theorem dX5_bias_47 : decode cX5_bias 47 = .ok (.imul, 1) := by decide +kernel
theorem dX5_bias_48 : decode cX5_bias 48 = .ok (.iload 4, 2) := by decide +kernel
theorem dX5_bias_50 : decode cX5_bias 50 = .ok (.iadd, 1) := by decide +kernel
theorem dX5_bias_51 : decode cX5_bias 51 = .ok (.iaload, 1) := by decide +kernel
theorem dX5_bias_52 : decode cX5_bias 52 = .ok (.istore 5, 2) := by decide +kernel
theorem dX5_bias_54 : decode cX5_bias 54 = .ok (.aload_n 0, 1) := by decide +kernel
theorem dX5_bias_55 : decode cX5_bias 55 = .ok (.iload 4, 2) := by decide +kernel
theorem dX5_bias_57 : decode cX5_bias 57 = .ok (.bipush 12, 2) := by decide +kernel
theorem dX5_bias_59 : decode cX5_bias 59 = .ok (.idiv, 1) := by decide +kernel
theorem dX5_bias_60 : decode cX5_bias 60 = .ok (.iload 4, 2) := by decide +kernel
theorem dX5_bias_62 : decode cX5_bias 62 = .ok (.bipush 12, 2) := by decide +kernel
theorem dX5_bias_64 : decode cX5_bias 64 = .ok (.irem, 1) := by decide +kernel
theorem dX5_bias_65 : decode cX5_bias 65 = .ok (.invokevirtual 144, 3) := by decide +kernel
theorem dX5_bias_68 : decode cX5_bias 68 = .ok (.dstore 6, 2) := by decide +kernel
theorem dX5_bias_70 : decode cX5_bias 70 = .ok (.iload 5, 2) := by decide +kernel
theorem dX5_bias_72 : decode cX5_bias 72 = .ok (.bipush (-99), 2) := by decide +kernel
theorem dX5_bias_74 : decode cX5_bias 74 = .ok (.if_icmp .eq 20, 3) := by decide +kernel
theorem dX5_bias_77 : decode cX5_bias 77 = .ok (.aload_n 0, 1) := by decide +kernel
theorem dX5_bias_78 : decode cX5_bias 78 = .ok (.getfield 118, 3) := by decide +kernel
theorem dX5_bias_81 : decode cX5_bias 81 = .ok (.iconst 3, 1) := by decide +kernel
theorem dX5_bias_82 : decode cX5_bias 82 = .ok (.if_icmp .lt 12, 3) := by decide +kernel
theorem dX5_bias_85 : decode cX5_bias 85 = .ok (.dload_n 2, 1) := by decide +kernel
theorem dX5_bias_86 : decode cX5_bias 86 = .ok (.iload 5, 2) := by decide +kernel
theorem dX5_bias_88 : decode cX5_bias 88 = .ok (.i2d, 1) := by decide +kernel
theorem dX5_bias_89 : decode cX5_bias 89 = .ok (.dload 6, 2) := by decide +kernel
theorem dX5_bias_91 : decode cX5_bias 91 = .ok (.dsub, 1) := by decide +kernel
theorem dX5_bias_92 : decode cX5_bias 92 = .ok (.dadd, 1) := by decide +kernel
theorem dX5_bias_93 : decode cX5_bias 93 = .ok (.dstore_n 2, 1) := by decide +kernel
theorem dX5_bias_94 : decode cX5_bias 94 = .ok (.iinc 4 1, 3) := by decide +kernel
theorem dX5_bias_97 : decode cX5_bias 97 = .ok (.goto (-73), 3) := by decide +kernel
theorem dX5_bias_100 : decode cX5_bias 100 = .ok (.aload_n 0, 1) := by decide +kernel
theorem dX5_bias_101 : decode cX5_bias 101 = .ok (.getfield 58, 3) := by decide +kernel
theorem dX5_bias_104 : decode cX5_bias 104 = .ok (.ifCond .le 7, 3) := by decide +kernel
theorem dX5_bias_107 : decode cX5_bias 107 = .ok (.iconst 0, 1) := by decide +kernel
theorem dX5_bias_108 : decode cX5_bias 108 = .ok (.goto 11, 3) := by decide +kernel
theorem dX5_bias_111 : decode cX5_bias 111 = .ok (.ldc2_w 173, 3) := by decide +kernel
theorem dX5_bias_114 : decode cX5_bias 114 = .ok (.dload_n 2, 1) := by decide +kernel
theorem dX5_bias_115 : decode cX5_bias 115 = .ok (.dmul, 1) := by decide +kernel
theorem dX5_bias_116 : decode cX5_bias 116 = .ok (.invokestatic 112, 3) := by decide +kernel
theorem dX5_bias_119 : decode cX5_bias 119 = .ok (.ireturn, 1) := by decide +kernel
theorem dX5_addsUp_0 : decode cX5_addsUp 0 = .ok (.aload_n 0, 1) := by decide +kernel
theorem dX5_addsUp_1 : decode cX5_addsUp 1 = .ok (.iconst 0, 1) := by decide +kernel
theorem dX5_addsUp_2 : decode cX5_addsUp 2 = .ok (.putfield 58, 3) := by decide +kernel
theorem dX5_addsUp_5 : decode cX5_addsUp 5 = .ok (.iconst 1, 1) := by decide +kernel
theorem dX5_addsUp_6 : decode cX5_addsUp 6 = .ok (.ireturn, 1) := by decide +kernel
theorem dJ6_bitCount_0f7a4_0 : decode cJ6_bitCount_0f7a4 0 = .ok (.iload_n 0, 1) := by decide +kernel
theorem dJ6_bitCount_0f7a4_1 : decode cJ6_bitCount_0f7a4 1 = .ok (.iload_n 0, 1) := by decide +kernel
theorem dJ6_bitCount_0f7a4_2 : decode cJ6_bitCount_0f7a4 2 = .ok (.iconst 1, 1) := by decide +kernel
theorem dJ6_bitCount_0f7a4_3 : decode cJ6_bitCount_0f7a4 3 = .ok (.iushr, 1) := by decide +kernel
theorem dJ6_bitCount_0f7a4_4 : decode cJ6_bitCount_0f7a4 4 = .ok (.ldc_w 265, 3) := by decide +kernel
theorem dJ6_bitCount_0f7a4_7 : decode cJ6_bitCount_0f7a4 7 = .ok (.iand, 1) := by decide +kernel
theorem dJ6_bitCount_0f7a4_8 : decode cJ6_bitCount_0f7a4 8 = .ok (.isub, 1) := by decide +kernel
theorem dJ6_bitCount_0f7a4_9 : decode cJ6_bitCount_0f7a4 9 = .ok (.istore_n 0, 1) := by decide +kernel
theorem dJ6_bitCount_0f7a4_10 : decode cJ6_bitCount_0f7a4 10 = .ok (.iload_n 0, 1) := by decide +kernel
theorem dJ6_bitCount_0f7a4_11 : decode cJ6_bitCount_0f7a4 11 = .ok (.ldc_w 266, 3) := by decide +kernel
theorem dJ6_bitCount_0f7a4_14 : decode cJ6_bitCount_0f7a4 14 = .ok (.iand, 1) := by decide +kernel
theorem dJ6_bitCount_0f7a4_15 : decode cJ6_bitCount_0f7a4 15 = .ok (.iload_n 0, 1) := by decide +kernel
theorem dJ6_bitCount_0f7a4_16 : decode cJ6_bitCount_0f7a4 16 = .ok (.iconst 2, 1) := by decide +kernel
theorem dJ6_bitCount_0f7a4_17 : decode cJ6_bitCount_0f7a4 17 = .ok (.iushr, 1) := by decide +kernel
theorem dJ6_bitCount_0f7a4_18 : decode cJ6_bitCount_0f7a4 18 = .ok (.ldc_w 266, 3) := by decide +kernel
theorem dJ6_bitCount_0f7a4_21 : decode cJ6_bitCount_0f7a4 21 = .ok (.iand, 1) := by decide +kernel
theorem dJ6_bitCount_0f7a4_22 : decode cJ6_bitCount_0f7a4 22 = .ok (.iadd, 1) := by decide +kernel
theorem dJ6_bitCount_0f7a4_23 : decode cJ6_bitCount_0f7a4 23 = .ok (.istore_n 0, 1) := by decide +kernel
theorem dJ6_bitCount_0f7a4_24 : decode cJ6_bitCount_0f7a4 24 = .ok (.iload_n 0, 1) := by decide +kernel
theorem dJ6_bitCount_0f7a4_25 : decode cJ6_bitCount_0f7a4 25 = .ok (.iload_n 0, 1) := by decide +kernel
theorem dJ6_bitCount_0f7a4_26 : decode cJ6_bitCount_0f7a4 26 = .ok (.iconst 4, 1) := by decide +kernel
theorem dJ6_bitCount_0f7a4_27 : decode cJ6_bitCount_0f7a4 27 = .ok (.iushr, 1) := by decide +kernel
theorem dJ6_bitCount_0f7a4_28 : decode cJ6_bitCount_0f7a4 28 = .ok (.iadd, 1) := by decide +kernel
theorem dJ6_bitCount_0f7a4_29 : decode cJ6_bitCount_0f7a4 29 = .ok (.ldc_w 267, 3) := by decide +kernel
theorem dJ6_bitCount_0f7a4_32 : decode cJ6_bitCount_0f7a4 32 = .ok (.iand, 1) := by decide +kernel
theorem dJ6_bitCount_0f7a4_33 : decode cJ6_bitCount_0f7a4 33 = .ok (.istore_n 0, 1) := by decide +kernel
theorem dJ6_bitCount_0f7a4_34 : decode cJ6_bitCount_0f7a4 34 = .ok (.iload_n 0, 1) := by decide +kernel
theorem dJ6_bitCount_0f7a4_35 : decode cJ6_bitCount_0f7a4 35 = .ok (.iload_n 0, 1) := by decide +kernel
theorem dJ6_bitCount_0f7a4_36 : decode cJ6_bitCount_0f7a4 36 = .ok (.bipush 8, 2) := by decide +kernel
theorem dJ6_bitCount_0f7a4_38 : decode cJ6_bitCount_0f7a4 38 = .ok (.iushr, 1) := by decide +kernel
theorem dJ6_bitCount_0f7a4_39 : decode cJ6_bitCount_0f7a4 39 = .ok (.iadd, 1) := by decide +kernel
theorem dJ6_bitCount_0f7a4_40 : decode cJ6_bitCount_0f7a4 40 = .ok (.istore_n 0, 1) := by decide +kernel
theorem dJ6_bitCount_0f7a4_41 : decode cJ6_bitCount_0f7a4 41 = .ok (.iload_n 0, 1) := by decide +kernel
theorem dJ6_bitCount_0f7a4_42 : decode cJ6_bitCount_0f7a4 42 = .ok (.iload_n 0, 1) := by decide +kernel
theorem dJ6_bitCount_0f7a4_43 : decode cJ6_bitCount_0f7a4 43 = .ok (.bipush 16, 2) := by decide +kernel
theorem dJ6_bitCount_0f7a4_45 : decode cJ6_bitCount_0f7a4 45 = .ok (.iushr, 1) := by decide +kernel
theorem dJ6_bitCount_0f7a4_46 : decode cJ6_bitCount_0f7a4 46 = .ok (.iadd, 1) := by decide +kernel
theorem dJ6_bitCount_0f7a4_47 : decode cJ6_bitCount_0f7a4 47 = .ok (.istore_n 0, 1) := by decide +kernel
theorem dJ6_bitCount_0f7a4_48 : decode cJ6_bitCount_0f7a4 48 = .ok (.iload_n 0, 1) := by decide +kernel
theorem dJ6_bitCount_0f7a4_49 : decode cJ6_bitCount_0f7a4 49 = .ok (.bipush 63, 2) := by decide +kernel
theorem dJ6_bitCount_0f7a4_51 : decode cJ6_bitCount_0f7a4 51 = .ok (.iand, 1) := by decide +kernel
theorem dJ6_bitCount_0f7a4_52 : decode cJ6_bitCount_0f7a4 52 = .ok (.ireturn, 1) := by decide +kernel
theorem dJ9_max_7cf53_0 : decode cJ9_max_7cf53 0 = .ok (.iload_n 0, 1) := by decide +kernel
theorem dJ9_max_7cf53_1 : decode cJ9_max_7cf53 1 = .ok (.iload_n 1, 1) := by decide +kernel
theorem dJ9_max_7cf53_2 : decode cJ9_max_7cf53 2 = .ok (.if_icmp .lt 7, 3) := by decide +kernel
theorem dJ9_max_7cf53_5 : decode cJ9_max_7cf53 5 = .ok (.iload_n 0, 1) := by decide +kernel
theorem dJ9_max_7cf53_6 : decode cJ9_max_7cf53 6 = .ok (.goto 4, 3) := by decide +kernel
theorem dJ9_max_7cf53_9 : decode cJ9_max_7cf53 9 = .ok (.iload_n 1, 1) := by decide +kernel
theorem dJ9_max_7cf53_10 : decode cJ9_max_7cf53 10 = .ok (.ireturn, 1) := by decide +kernel
theorem dJ9_min_7cf53_0 : decode cJ9_min_7cf53 0 = .ok (.iload_n 0, 1) := by decide +kernel
theorem dJ9_min_7cf53_1 : decode cJ9_min_7cf53 1 = .ok (.iload_n 1, 1) := by decide +kernel
theorem dJ9_min_7cf53_2 : decode cJ9_min_7cf53 2 = .ok (.if_icmp .gt 7, 3) := by decide +kernel
theorem dJ9_min_7cf53_5 : decode cJ9_min_7cf53 5 = .ok (.iload_n 0, 1) := by decide +kernel
theorem dJ9_min_7cf53_6 : decode cJ9_min_7cf53 6 = .ok (.goto 4, 3) := by decide +kernel
theorem dJ9_min_7cf53_9 : decode cJ9_min_7cf53 9 = .ok (.iload_n 1, 1) := by decide +kernel
theorem dJ9_min_7cf53_10 : decode cJ9_min_7cf53 10 = .ok (.ireturn, 1) := by decide +kernel
theorem dL_skater_0 : decode cL_skater 0 = .ok (.aload_n 1, 1) := by decide +kernel
theorem dL_skater_1 : decode cL_skater 1 = .ok (.iconst 0, 1) := by decide +kernel
theorem dL_skater_2 : decode cL_skater 2 = .ok (.aload_n 0, 1) := by decide +kernel
theorem dL_skater_3 : decode cL_skater 3 = .ok (.invokevirtual 7, 3) := by decide +kernel
theorem dL_skater_6 : decode cL_skater 6 = .ok (.i2l, 1) := by decide +kernel
theorem dL_skater_7 : decode cL_skater 7 = .ok (.lastore, 1) := by decide +kernel
theorem dL_skater_8 : decode cL_skater 8 = .ok (.goto 6, 3) := by decide +kernel
theorem dL_skater_11 : decode cL_skater 11 = .ok (.astore_n 2, 1) := by decide +kernel
theorem dL_skater_12 : decode cL_skater 12 = .ok (.iconst 1, 1) := by decide +kernel
theorem dL_skater_13 : decode cL_skater 13 = .ok (.ireturn, 1) := by decide +kernel
theorem dL_skater_14 : decode cL_skater 14 = .ok (.iconst 0, 1) := by decide +kernel
theorem dL_skater_15 : decode cL_skater 15 = .ok (.ireturn, 1) := by decide +kernel
theorem dL_begin_0 : decode cL_begin 0 = .ok (.aload_n 0, 1) := by decide +kernel
theorem dL_begin_1 : decode cL_begin 1 = .ok (.iload_n 1, 1) := by decide +kernel
theorem dL_begin_2 : decode cL_begin 2 = .ok (.invokevirtual 15, 3) := by decide +kernel
theorem dL_begin_5 : decode cL_begin 5 = .ok (.goto 9, 3) := by decide +kernel
theorem dL_begin_8 : decode cL_begin 8 = .ok (.astore_n 2, 1) := by decide +kernel
theorem dL_begin_9 : decode cL_begin 9 = .ok (.iconst 1, 1) := by decide +kernel
theorem dL_begin_10 : decode cL_begin 10 = .ok (.ireturn, 1) := by decide +kernel
theorem dL_begin_11 : decode cL_begin 11 = .ok (.astore_n 2, 1) := by decide +kernel
theorem dL_begin_12 : decode cL_begin 12 = .ok (.iconst 2, 1) := by decide +kernel
theorem dL_begin_13 : decode cL_begin 13 = .ok (.ireturn, 1) := by decide +kernel
theorem dL_begin_14 : decode cL_begin 14 = .ok (.iconst 0, 1) := by decide +kernel
theorem dL_begin_15 : decode cL_begin 15 = .ok (.ireturn, 1) := by decide +kernel
theorem dL_turn_0 : decode cL_turn 0 = .ok (.aload_n 2, 1) := by decide +kernel
theorem dL_turn_1 : decode cL_turn 1 = .ok (.iconst 0, 1) := by decide +kernel
theorem dL_turn_2 : decode cL_turn 2 = .ok (.aload_n 0, 1) := by decide +kernel
theorem dL_turn_3 : decode cL_turn 3 = .ok (.iload_n 1, 1) := by decide +kernel
theorem dL_turn_4 : decode cL_turn 4 = .ok (.invokevirtual 21, 3) := by decide +kernel
theorem dL_turn_7 : decode cL_turn 7 = .ok (.i2l, 1) := by decide +kernel
theorem dL_turn_8 : decode cL_turn 8 = .ok (.lastore, 1) := by decide +kernel
theorem dL_turn_9 : decode cL_turn 9 = .ok (.goto 9, 3) := by decide +kernel
theorem dL_turn_12 : decode cL_turn 12 = .ok (.astore_n 3, 1) := by decide +kernel
theorem dL_turn_13 : decode cL_turn 13 = .ok (.iconst 1, 1) := by decide +kernel
theorem dL_turn_14 : decode cL_turn 14 = .ok (.ireturn, 1) := by decide +kernel
theorem dL_turn_15 : decode cL_turn 15 = .ok (.astore_n 3, 1) := by decide +kernel
theorem dL_turn_16 : decode cL_turn 16 = .ok (.iconst 2, 1) := by decide +kernel
theorem dL_turn_17 : decode cL_turn 17 = .ok (.ireturn, 1) := by decide +kernel
theorem dL_turn_18 : decode cL_turn 18 = .ok (.iconst 0, 1) := by decide +kernel
theorem dL_turn_19 : decode cL_turn 19 = .ok (.ireturn, 1) := by decide +kernel
theorem dL_jump_0 : decode cL_jump 0 = .ok (.aload 4, 2) := by decide +kernel
theorem dL_jump_2 : decode cL_jump 2 = .ok (.iconst 0, 1) := by decide +kernel
theorem dL_jump_3 : decode cL_jump 3 = .ok (.aload_n 0, 1) := by decide +kernel
theorem dL_jump_4 : decode cL_jump 4 = .ok (.iload_n 1, 1) := by decide +kernel
theorem dL_jump_5 : decode cL_jump 5 = .ok (.iload_n 2, 1) := by decide +kernel
theorem dL_jump_6 : decode cL_jump 6 = .ok (.iload_n 3, 1) := by decide +kernel
theorem dL_jump_7 : decode cL_jump 7 = .ok (.invokevirtual 27, 3) := by decide +kernel
theorem dL_jump_10 : decode cL_jump 10 = .ok (.i2l, 1) := by decide +kernel
theorem dL_jump_11 : decode cL_jump 11 = .ok (.lastore, 1) := by decide +kernel
theorem dL_jump_12 : decode cL_jump 12 = .ok (.goto 11, 3) := by decide +kernel
theorem dL_jump_15 : decode cL_jump 15 = .ok (.astore 5, 2) := by decide +kernel
theorem dL_jump_17 : decode cL_jump 17 = .ok (.iconst 1, 1) := by decide +kernel
theorem dL_jump_18 : decode cL_jump 18 = .ok (.ireturn, 1) := by decide +kernel
theorem dL_jump_19 : decode cL_jump 19 = .ok (.astore 5, 2) := by decide +kernel
theorem dL_jump_21 : decode cL_jump 21 = .ok (.iconst 2, 1) := by decide +kernel
theorem dL_jump_22 : decode cL_jump 22 = .ok (.ireturn, 1) := by decide +kernel
theorem dL_jump_23 : decode cL_jump 23 = .ok (.iconst 0, 1) := by decide +kernel
theorem dL_jump_24 : decode cL_jump 24 = .ok (.ireturn, 1) := by decide +kernel
theorem dL_spin_0 : decode cL_spin 0 = .ok (.aload_n 3, 1) := by decide +kernel
theorem dL_spin_1 : decode cL_spin 1 = .ok (.iconst 0, 1) := by decide +kernel
theorem dL_spin_2 : decode cL_spin 2 = .ok (.aload_n 0, 1) := by decide +kernel
theorem dL_spin_3 : decode cL_spin 3 = .ok (.iload_n 1, 1) := by decide +kernel
theorem dL_spin_4 : decode cL_spin 4 = .ok (.iload_n 2, 1) := by decide +kernel
theorem dL_spin_5 : decode cL_spin 5 = .ok (.invokevirtual 31, 3) := by decide +kernel
theorem dL_spin_8 : decode cL_spin 8 = .ok (.i2l, 1) := by decide +kernel
theorem dL_spin_9 : decode cL_spin 9 = .ok (.lastore, 1) := by decide +kernel
theorem dL_spin_10 : decode cL_spin 10 = .ok (.goto 11, 3) := by decide +kernel
theorem dL_spin_13 : decode cL_spin 13 = .ok (.astore 4, 2) := by decide +kernel
theorem dL_spin_15 : decode cL_spin 15 = .ok (.iconst 1, 1) := by decide +kernel
theorem dL_spin_16 : decode cL_spin 16 = .ok (.ireturn, 1) := by decide +kernel
theorem dL_spin_17 : decode cL_spin 17 = .ok (.astore 4, 2) := by decide +kernel
theorem dL_spin_19 : decode cL_spin 19 = .ok (.iconst 2, 1) := by decide +kernel
theorem dL_spin_20 : decode cL_spin 20 = .ok (.ireturn, 1) := by decide +kernel
theorem dL_spin_21 : decode cL_spin 21 = .ok (.iconst 0, 1) := by decide +kernel
theorem dL_spin_22 : decode cL_spin 22 = .ok (.ireturn, 1) := by decide +kernel
theorem dL_end_0 : decode cL_end 0 = .ok (.aload_n 1, 1) := by decide +kernel
theorem dL_end_1 : decode cL_end 1 = .ok (.iconst 0, 1) := by decide +kernel
theorem dL_end_2 : decode cL_end 2 = .ok (.aload_n 0, 1) := by decide +kernel
theorem dL_end_3 : decode cL_end 3 = .ok (.invokevirtual 35, 3) := by decide +kernel
theorem dL_end_6 : decode cL_end 6 = .ok (.i2l, 1) := by decide +kernel
theorem dL_end_7 : decode cL_end 7 = .ok (.lastore, 1) := by decide +kernel
theorem dL_end_8 : decode cL_end 8 = .ok (.goto 6, 3) := by decide +kernel
theorem dL_end_11 : decode cL_end 11 = .ok (.astore_n 2, 1) := by decide +kernel
theorem dL_end_12 : decode cL_end 12 = .ok (.iconst 1, 1) := by decide +kernel
theorem dL_end_13 : decode cL_end 13 = .ok (.ireturn, 1) := by decide +kernel
theorem dL_end_14 : decode cL_end 14 = .ok (.iconst 0, 1) := by decide +kernel
theorem dL_end_15 : decode cL_end 15 = .ok (.ireturn, 1) := by decide +kernel
theorem dL_call_0 : decode cL_call 0 = .ok (.aload 4, 2) := by decide +kernel
theorem dL_call_2 : decode cL_call 2 = .ok (.iconst 0, 1) := by decide +kernel
theorem dL_call_3 : decode cL_call 3 = .ok (.aload_n 0, 1) := by decide +kernel
theorem dL_call_4 : decode cL_call 4 = .ok (.iload_n 1, 1) := by decide +kernel
theorem dL_call_5 : decode cL_call 5 = .ok (.iload_n 2, 1) := by decide +kernel
theorem dL_call_6 : decode cL_call 6 = .ok (.iload_n 3, 1) := by decide +kernel
theorem dL_call_7 : decode cL_call 7 = .ok (.invokevirtual 38, 3) := by decide +kernel
theorem dL_call_10 : decode cL_call 10 = .ok (.i2l, 1) := by decide +kernel
theorem dL_call_11 : decode cL_call 11 = .ok (.lastore, 1) := by decide +kernel
theorem dL_call_12 : decode cL_call 12 = .ok (.goto 15, 3) := by decide +kernel
theorem dL_call_15 : decode cL_call 15 = .ok (.astore 5, 2) := by decide +kernel
theorem dL_call_17 : decode cL_call 17 = .ok (.iconst 1, 1) := by decide +kernel
theorem dL_call_18 : decode cL_call 18 = .ok (.ireturn, 1) := by decide +kernel
theorem dL_call_19 : decode cL_call 19 = .ok (.astore 5, 2) := by decide +kernel
theorem dL_call_21 : decode cL_call 21 = .ok (.iconst 2, 1) := by decide +kernel
theorem dL_call_22 : decode cL_call 22 = .ok (.ireturn, 1) := by decide +kernel
theorem dL_call_23 : decode cL_call 23 = .ok (.astore 5, 2) := by decide +kernel
theorem dL_call_25 : decode cL_call 25 = .ok (.iconst 3, 1) := by decide +kernel
theorem dL_call_26 : decode cL_call 26 = .ok (.ireturn, 1) := by decide +kernel
theorem dL_call_27 : decode cL_call 27 = .ok (.iconst 0, 1) := by decide +kernel
theorem dL_call_28 : decode cL_call 28 = .ok (.ireturn, 1) := by decide +kernel
theorem dL_grade_0 : decode cL_grade 0 = .ok (.aload_n 0, 1) := by decide +kernel
theorem dL_grade_1 : decode cL_grade 1 = .ok (.iload_n 1, 1) := by decide +kernel
theorem dL_grade_2 : decode cL_grade 2 = .ok (.iload_n 2, 1) := by decide +kernel
theorem dL_grade_3 : decode cL_grade 3 = .ok (.iload_n 3, 1) := by decide +kernel
theorem dL_grade_4 : decode cL_grade 4 = .ok (.iload 4, 2) := by decide +kernel
theorem dL_grade_6 : decode cL_grade 6 = .ok (.invokevirtual 42, 3) := by decide +kernel
theorem dL_grade_9 : decode cL_grade 9 = .ok (.goto 15, 3) := by decide +kernel
theorem dL_grade_12 : decode cL_grade 12 = .ok (.astore 5, 2) := by decide +kernel
theorem dL_grade_14 : decode cL_grade 14 = .ok (.iconst 1, 1) := by decide +kernel
theorem dL_grade_15 : decode cL_grade 15 = .ok (.ireturn, 1) := by decide +kernel
theorem dL_grade_16 : decode cL_grade 16 = .ok (.astore 5, 2) := by decide +kernel
theorem dL_grade_18 : decode cL_grade 18 = .ok (.iconst 2, 1) := by decide +kernel
theorem dL_grade_19 : decode cL_grade 19 = .ok (.ireturn, 1) := by decide +kernel
theorem dL_grade_20 : decode cL_grade 20 = .ok (.astore 5, 2) := by decide +kernel
theorem dL_grade_22 : decode cL_grade 22 = .ok (.iconst 3, 1) := by decide +kernel
theorem dL_grade_23 : decode cL_grade 23 = .ok (.ireturn, 1) := by decide +kernel
theorem dL_grade_24 : decode cL_grade 24 = .ok (.iconst 0, 1) := by decide +kernel
theorem dL_grade_25 : decode cL_grade 25 = .ok (.ireturn, 1) := by decide +kernel
theorem dL_component_0 : decode cL_component 0 = .ok (.aload_n 0, 1) := by decide +kernel
theorem dL_component_1 : decode cL_component 1 = .ok (.iload_n 1, 1) := by decide +kernel
theorem dL_component_2 : decode cL_component 2 = .ok (.iload_n 2, 1) := by decide +kernel
theorem dL_component_3 : decode cL_component 3 = .ok (.iload_n 3, 1) := by decide +kernel
theorem dL_component_4 : decode cL_component 4 = .ok (.iload 4, 2) := by decide +kernel
theorem dL_component_6 : decode cL_component 6 = .ok (.invokevirtual 46, 3) := by decide +kernel
theorem dL_component_9 : decode cL_component 9 = .ok (.goto 15, 3) := by decide +kernel
theorem dL_component_12 : decode cL_component 12 = .ok (.astore 5, 2) := by decide +kernel
theorem dL_component_14 : decode cL_component 14 = .ok (.iconst 1, 1) := by decide +kernel
theorem dL_component_15 : decode cL_component 15 = .ok (.ireturn, 1) := by decide +kernel
theorem dL_component_16 : decode cL_component 16 = .ok (.astore 5, 2) := by decide +kernel
theorem dL_component_18 : decode cL_component 18 = .ok (.iconst 2, 1) := by decide +kernel
theorem dL_component_19 : decode cL_component 19 = .ok (.ireturn, 1) := by decide +kernel
theorem dL_component_20 : decode cL_component 20 = .ok (.astore 5, 2) := by decide +kernel
theorem dL_component_22 : decode cL_component 22 = .ok (.iconst 3, 1) := by decide +kernel
theorem dL_component_23 : decode cL_component 23 = .ok (.ireturn, 1) := by decide +kernel
theorem dL_component_24 : decode cL_component 24 = .ok (.iconst 0, 1) := by decide +kernel
theorem dL_component_25 : decode cL_component 25 = .ok (.ireturn, 1) := by decide +kernel
theorem dL_value_0 : decode cL_value 0 = .ok (.aload 5, 2) := by decide +kernel
theorem dL_value_2 : decode cL_value 2 = .ok (.iconst 0, 1) := by decide +kernel
theorem dL_value_3 : decode cL_value 3 = .ok (.aload_n 0, 1) := by decide +kernel
theorem dL_value_4 : decode cL_value 4 = .ok (.iload_n 1, 1) := by decide +kernel
theorem dL_value_5 : decode cL_value 5 = .ok (.iload_n 2, 1) := by decide +kernel
theorem dL_value_6 : decode cL_value 6 = .ok (.iload_n 3, 1) := by decide +kernel
theorem dL_value_7 : decode cL_value 7 = .ok (.iload 4, 2) := by decide +kernel
theorem dL_value_9 : decode cL_value 9 = .ok (.invokevirtual 49, 3) := by decide +kernel
theorem dL_value_12 : decode cL_value 12 = .ok (.i2l, 1) := by decide +kernel
theorem dL_value_13 : decode cL_value 13 = .ok (.lastore, 1) := by decide +kernel
theorem dL_value_14 : decode cL_value 14 = .ok (.goto 7, 3) := by decide +kernel
theorem dL_value_17 : decode cL_value 17 = .ok (.astore 6, 2) := by decide +kernel
theorem dL_value_19 : decode cL_value 19 = .ok (.iconst 1, 1) := by decide +kernel
theorem dL_value_20 : decode cL_value 20 = .ok (.ireturn, 1) := by decide +kernel
theorem dL_value_21 : decode cL_value 21 = .ok (.iconst 0, 1) := by decide +kernel
theorem dL_value_22 : decode cL_value 22 = .ok (.ireturn, 1) := by decide +kernel
theorem dL_element_0 : decode cL_element 0 = .ok (.aload 5, 2) := by decide +kernel
theorem dL_element_2 : decode cL_element 2 = .ok (.iconst 0, 1) := by decide +kernel
theorem dL_element_3 : decode cL_element 3 = .ok (.aload_n 0, 1) := by decide +kernel
theorem dL_element_4 : decode cL_element 4 = .ok (.iload_n 1, 1) := by decide +kernel
theorem dL_element_5 : decode cL_element 5 = .ok (.iload_n 2, 1) := by decide +kernel
theorem dL_element_6 : decode cL_element 6 = .ok (.iload_n 3, 1) := by decide +kernel
theorem dL_element_7 : decode cL_element 7 = .ok (.iload 4, 2) := by decide +kernel
theorem dL_element_9 : decode cL_element 9 = .ok (.invokevirtual 53, 3) := by decide +kernel
theorem dL_element_12 : decode cL_element 12 = .ok (.i2l, 1) := by decide +kernel
theorem dL_element_13 : decode cL_element 13 = .ok (.lastore, 1) := by decide +kernel
theorem dL_element_14 : decode cL_element 14 = .ok (.goto 11, 3) := by decide +kernel
theorem dL_element_17 : decode cL_element 17 = .ok (.astore 6, 2) := by decide +kernel
theorem dL_element_19 : decode cL_element 19 = .ok (.iconst 1, 1) := by decide +kernel
theorem dL_element_20 : decode cL_element 20 = .ok (.ireturn, 1) := by decide +kernel
theorem dL_element_21 : decode cL_element 21 = .ok (.astore 6, 2) := by decide +kernel
theorem dL_element_23 : decode cL_element 23 = .ok (.iconst 2, 1) := by decide +kernel
theorem dL_element_24 : decode cL_element 24 = .ok (.ireturn, 1) := by decide +kernel
theorem dL_element_25 : decode cL_element 25 = .ok (.iconst 0, 1) := by decide +kernel
theorem dL_element_26 : decode cL_element 26 = .ok (.ireturn, 1) := by decide +kernel
theorem dL_programme_0 : decode cL_programme 0 = .ok (.aload 4, 2) := by decide +kernel
theorem dL_programme_2 : decode cL_programme 2 = .ok (.iconst 0, 1) := by decide +kernel
theorem dL_programme_3 : decode cL_programme 3 = .ok (.aload_n 0, 1) := by decide +kernel
theorem dL_programme_4 : decode cL_programme 4 = .ok (.iload_n 1, 1) := by decide +kernel
theorem dL_programme_5 : decode cL_programme 5 = .ok (.iload_n 2, 1) := by decide +kernel
theorem dL_programme_6 : decode cL_programme 6 = .ok (.iload_n 3, 1) := by decide +kernel
theorem dL_programme_7 : decode cL_programme 7 = .ok (.invokevirtual 56, 3) := by decide +kernel
theorem dL_programme_10 : decode cL_programme 10 = .ok (.i2l, 1) := by decide +kernel
theorem dL_programme_11 : decode cL_programme 11 = .ok (.lastore, 1) := by decide +kernel
theorem dL_programme_12 : decode cL_programme 12 = .ok (.goto 11, 3) := by decide +kernel
theorem dL_programme_15 : decode cL_programme 15 = .ok (.astore 5, 2) := by decide +kernel
theorem dL_programme_17 : decode cL_programme 17 = .ok (.iconst 1, 1) := by decide +kernel
theorem dL_programme_18 : decode cL_programme 18 = .ok (.ireturn, 1) := by decide +kernel
theorem dL_programme_19 : decode cL_programme 19 = .ok (.astore 5, 2) := by decide +kernel
theorem dL_programme_21 : decode cL_programme 21 = .ok (.iconst 2, 1) := by decide +kernel
theorem dL_programme_22 : decode cL_programme 22 = .ok (.ireturn, 1) := by decide +kernel
theorem dL_programme_23 : decode cL_programme 23 = .ok (.iconst 0, 1) := by decide +kernel
theorem dL_programme_24 : decode cL_programme 24 = .ok (.ireturn, 1) := by decide +kernel
theorem dL_starts_0 : decode cL_starts 0 = .ok (.aload_n 3, 1) := by decide +kernel
theorem dL_starts_1 : decode cL_starts 1 = .ok (.iconst 0, 1) := by decide +kernel
theorem dL_starts_2 : decode cL_starts 2 = .ok (.aload_n 0, 1) := by decide +kernel
theorem dL_starts_3 : decode cL_starts 3 = .ok (.iload_n 1, 1) := by decide +kernel
theorem dL_starts_4 : decode cL_starts 4 = .ok (.iload_n 2, 1) := by decide +kernel
theorem dL_starts_5 : decode cL_starts 5 = .ok (.invokevirtual 59, 3) := by decide +kernel
theorem dL_starts_8 : decode cL_starts 8 = .ok (.i2l, 1) := by decide +kernel
theorem dL_starts_9 : decode cL_starts 9 = .ok (.lastore, 1) := by decide +kernel
theorem dL_starts_10 : decode cL_starts 10 = .ok (.goto 7, 3) := by decide +kernel
theorem dL_starts_13 : decode cL_starts 13 = .ok (.astore 4, 2) := by decide +kernel
theorem dL_starts_15 : decode cL_starts 15 = .ok (.iconst 1, 1) := by decide +kernel
theorem dL_starts_16 : decode cL_starts 16 = .ok (.ireturn, 1) := by decide +kernel
theorem dL_starts_17 : decode cL_starts 17 = .ok (.iconst 0, 1) := by decide +kernel
theorem dL_starts_18 : decode cL_starts 18 = .ok (.ireturn, 1) := by decide +kernel
theorem dL_bias_0 : decode cL_bias 0 = .ok (.aload_n 2, 1) := by decide +kernel
theorem dL_bias_1 : decode cL_bias 1 = .ok (.iconst 0, 1) := by decide +kernel
theorem dL_bias_2 : decode cL_bias 2 = .ok (.aload_n 0, 1) := by decide +kernel
theorem dL_bias_3 : decode cL_bias 3 = .ok (.iload_n 1, 1) := by decide +kernel
theorem dL_bias_4 : decode cL_bias 4 = .ok (.invokevirtual 62, 3) := by decide +kernel
theorem dL_bias_7 : decode cL_bias 7 = .ok (.i2l, 1) := by decide +kernel
theorem dL_bias_8 : decode cL_bias 8 = .ok (.lastore, 1) := by decide +kernel
theorem dL_bias_9 : decode cL_bias 9 = .ok (.goto 6, 3) := by decide +kernel
theorem dL_bias_12 : decode cL_bias 12 = .ok (.astore_n 3, 1) := by decide +kernel
theorem dL_bias_13 : decode cL_bias 13 = .ok (.iconst 1, 1) := by decide +kernel
theorem dL_bias_14 : decode cL_bias 14 = .ok (.ireturn, 1) := by decide +kernel
theorem dL_bias_15 : decode cL_bias 15 = .ok (.iconst 0, 1) := by decide +kernel
theorem dL_bias_16 : decode cL_bias 16 = .ok (.ireturn, 1) := by decide +kernel
theorem dL_law_0 : decode cL_law 0 = .ok (.new 8, 3) := by decide +kernel
theorem dL_law_3 : decode cL_law 3 = .ok (.dup, 1) := by decide +kernel
theorem dL_law_4 : decode cL_law 4 = .ok (.invokespecial 65, 3) := by decide +kernel
theorem dL_law_7 : decode cL_law 7 = .ok (.astore_n 1, 1) := by decide +kernel
theorem dL_law_8 : decode cL_law 8 = .ok (.new 66, 3) := by decide +kernel
theorem dL_law_11 : decode cL_law 11 = .ok (.dup, 1) := by decide +kernel
theorem dL_law_12 : decode cL_law 12 = .ok (.invokespecial 68, 3) := by decide +kernel
theorem dL_law_15 : decode cL_law 15 = .ok (.astore_n 2, 1) := by decide +kernel
theorem dL_law_16 : decode cL_law 16 = .ok (.iconst 1, 1) := by decide +kernel
theorem dL_law_17 : decode cL_law 17 = .ok (.newarray .long, 2) := by decide +kernel
theorem dL_law_19 : decode cL_law 19 = .ok (.astore_n 3, 1) := by decide +kernel
theorem dL_law_20 : decode cL_law 20 = .ok (.iconst 0, 1) := by decide +kernel
theorem dL_law_21 : decode cL_law 21 = .ok (.istore 4, 2) := by decide +kernel
theorem dL_law_23 : decode cL_law 23 = .ok (.iload 4, 2) := by decide +kernel
theorem dL_law_25 : decode cL_law 25 = .ok (.aload_n 0, 1) := by decide +kernel
theorem dL_law_26 : decode cL_law 26 = .ok (.arraylength, 1) := by decide +kernel
theorem dL_law_27 : decode cL_law 27 = .ok (.iconst 5, 1) := by decide +kernel
theorem dL_law_28 : decode cL_law 28 = .ok (.isub, 1) := by decide +kernel
theorem dL_law_29 : decode cL_law 29 = .ok (.if_icmp .gt 1058, 3) := by decide +kernel
theorem dL_law_32 : decode cL_law 32 = .ok (.aload_n 0, 1) := by decide +kernel
theorem dL_law_33 : decode cL_law 33 = .ok (.iload 4, 2) := by decide +kernel
theorem dL_law_35 : decode cL_law 35 = .ok (.iaload, 1) := by decide +kernel
theorem dL_law_36 : decode cL_law 36 = .ok (.bipush 15, 2) := by decide +kernel
theorem dL_law_38 : decode cL_law 38 = .ok (.iand, 1) := by decide +kernel
theorem dL_law_39 : decode cL_law 39 = .ok (.tableswitch 1042 0 14 #[73, 117, 153, 209, 305, 373, 417, 497, 569, 641, 733, 825, 905, 973, 1029], 73) := by decide +kernel
theorem dL_law_112 : decode cL_law 112 = .ok (.aload_n 1, 1) := by decide +kernel
theorem dL_law_113 : decode cL_law 113 = .ok (.aload_n 3, 1) := by decide +kernel
theorem dL_law_114 : decode cL_law 114 = .ok (.invokestatic 69, 3) := by decide +kernel
theorem dL_law_117 : decode cL_law 117 = .ok (.istore 5, 2) := by decide +kernel
theorem dL_law_119 : decode cL_law 119 = .ok (.aload_n 2, 1) := by decide +kernel
theorem dL_law_120 : decode cL_law 120 = .ok (.invokevirtual 74, 3) := by decide +kernel
theorem dL_law_123 : decode cL_law 123 = .ok (.istore 6, 2) := by decide +kernel
theorem dL_law_125 : decode cL_law 125 = .ok (.aload_n 2, 1) := by decide +kernel
theorem dL_law_126 : decode cL_law 126 = .ok (.invokevirtual 75, 3) := by decide +kernel
theorem dL_law_129 : decode cL_law 129 = .ok (.iload 5, 2) := by decide +kernel
theorem dL_law_131 : decode cL_law 131 = .ok (.if_icmp .eq 5, 3) := by decide +kernel
theorem dL_law_134 : decode cL_law 134 = .ok (.iconst 0, 1) := by decide +kernel
theorem dL_law_135 : decode cL_law 135 = .ok (.ireturn, 1) := by decide +kernel
theorem dL_law_136 : decode cL_law 136 = .ok (.iload 5, 2) := by decide +kernel
theorem dL_law_138 : decode cL_law 138 = .ok (.ifCond .ne 15, 3) := by decide +kernel
theorem dL_law_141 : decode cL_law 141 = .ok (.aload_n 3, 1) := by decide +kernel
theorem dL_law_142 : decode cL_law 142 = .ok (.iconst 0, 1) := by decide +kernel
theorem dL_law_143 : decode cL_law 143 = .ok (.laload, 1) := by decide +kernel
theorem dL_law_144 : decode cL_law 144 = .ok (.iload 6, 2) := by decide +kernel
theorem dL_law_146 : decode cL_law 146 = .ok (.i2l, 1) := by decide +kernel
theorem dL_law_147 : decode cL_law 147 = .ok (.lcmp, 1) := by decide +kernel
theorem dL_law_148 : decode cL_law 148 = .ok (.ifCond .eq 5, 3) := by decide +kernel
theorem dL_law_151 : decode cL_law 151 = .ok (.iconst 0, 1) := by decide +kernel
theorem dL_law_152 : decode cL_law 152 = .ok (.ireturn, 1) := by decide +kernel
theorem dL_law_153 : decode cL_law 153 = .ok (.goto 928, 3) := by decide +kernel
theorem dL_law_156 : decode cL_law 156 = .ok (.aload_n 1, 1) := by decide +kernel
theorem dL_law_157 : decode cL_law 157 = .ok (.aload_n 0, 1) := by decide +kernel
theorem dL_law_158 : decode cL_law 158 = .ok (.iload 4, 2) := by decide +kernel
theorem dL_law_160 : decode cL_law 160 = .ok (.iconst 1, 1) := by decide +kernel
theorem dL_law_161 : decode cL_law 161 = .ok (.iadd, 1) := by decide +kernel
theorem dL_law_162 : decode cL_law 162 = .ok (.iaload, 1) := by decide +kernel
theorem dL_law_163 : decode cL_law 163 = .ok (.invokestatic 78, 3) := by decide +kernel
theorem dL_law_166 : decode cL_law 166 = .ok (.istore 5, 2) := by decide +kernel
theorem dL_law_168 : decode cL_law 168 = .ok (.aload_n 2, 1) := by decide +kernel
theorem dL_law_169 : decode cL_law 169 = .ok (.aload_n 0, 1) := by decide +kernel
theorem dL_law_170 : decode cL_law 170 = .ok (.iload 4, 2) := by decide +kernel
theorem dL_law_172 : decode cL_law 172 = .ok (.iconst 1, 1) := by decide +kernel
theorem dL_law_173 : decode cL_law 173 = .ok (.iadd, 1) := by decide +kernel
theorem dL_law_174 : decode cL_law 174 = .ok (.iaload, 1) := by decide +kernel
theorem dL_law_175 : decode cL_law 175 = .ok (.invokevirtual 81, 3) := by decide +kernel
theorem dL_law_178 : decode cL_law 178 = .ok (.aload_n 2, 1) := by decide +kernel
theorem dL_law_179 : decode cL_law 179 = .ok (.invokevirtual 75, 3) := by decide +kernel
theorem dL_law_182 : decode cL_law 182 = .ok (.iload 5, 2) := by decide +kernel
theorem dL_law_184 : decode cL_law 184 = .ok (.if_icmp .eq 5, 3) := by decide +kernel
theorem dL_law_187 : decode cL_law 187 = .ok (.iconst 0, 1) := by decide +kernel
theorem dL_law_188 : decode cL_law 188 = .ok (.ireturn, 1) := by decide +kernel
theorem dL_law_189 : decode cL_law 189 = .ok (.goto 892, 3) := by decide +kernel
theorem dL_law_192 : decode cL_law 192 = .ok (.aload_n 1, 1) := by decide +kernel
theorem dL_law_193 : decode cL_law 193 = .ok (.aload_n 0, 1) := by decide +kernel
theorem dL_law_194 : decode cL_law 194 = .ok (.iload 4, 2) := by decide +kernel
theorem dL_law_196 : decode cL_law 196 = .ok (.iconst 1, 1) := by decide +kernel
theorem dL_law_197 : decode cL_law 197 = .ok (.iadd, 1) := by decide +kernel
theorem dL_law_198 : decode cL_law 198 = .ok (.iaload, 1) := by decide +kernel
theorem dL_law_199 : decode cL_law 199 = .ok (.aload_n 3, 1) := by decide +kernel
theorem dL_law_200 : decode cL_law 200 = .ok (.invokestatic 82, 3) := by decide +kernel
theorem dL_law_203 : decode cL_law 203 = .ok (.istore 5, 2) := by decide +kernel
theorem dL_law_205 : decode cL_law 205 = .ok (.aload_n 2, 1) := by decide +kernel
theorem dL_law_206 : decode cL_law 206 = .ok (.aload_n 0, 1) := by decide +kernel
theorem dL_law_207 : decode cL_law 207 = .ok (.iload 4, 2) := by decide +kernel
theorem dL_law_209 : decode cL_law 209 = .ok (.iconst 1, 1) := by decide +kernel
theorem dL_law_210 : decode cL_law 210 = .ok (.iadd, 1) := by decide +kernel
theorem dL_law_211 : decode cL_law 211 = .ok (.iaload, 1) := by decide +kernel
theorem dL_law_212 : decode cL_law 212 = .ok (.invokevirtual 85, 3) := by decide +kernel
theorem dL_law_215 : decode cL_law 215 = .ok (.istore 6, 2) := by decide +kernel
theorem dL_law_217 : decode cL_law 217 = .ok (.aload_n 2, 1) := by decide +kernel
theorem dL_law_218 : decode cL_law 218 = .ok (.invokevirtual 75, 3) := by decide +kernel
theorem dL_law_221 : decode cL_law 221 = .ok (.iload 5, 2) := by decide +kernel
theorem dL_law_223 : decode cL_law 223 = .ok (.if_icmp .eq 5, 3) := by decide +kernel
theorem dL_law_226 : decode cL_law 226 = .ok (.iconst 0, 1) := by decide +kernel
theorem dL_law_227 : decode cL_law 227 = .ok (.ireturn, 1) := by decide +kernel
theorem dL_law_228 : decode cL_law 228 = .ok (.iload 5, 2) := by decide +kernel
theorem dL_law_230 : decode cL_law 230 = .ok (.ifCond .ne 15, 3) := by decide +kernel
theorem dL_law_233 : decode cL_law 233 = .ok (.aload_n 3, 1) := by decide +kernel
theorem dL_law_234 : decode cL_law 234 = .ok (.iconst 0, 1) := by decide +kernel
theorem dL_law_235 : decode cL_law 235 = .ok (.laload, 1) := by decide +kernel
theorem dL_law_236 : decode cL_law 236 = .ok (.iload 6, 2) := by decide +kernel
theorem dL_law_238 : decode cL_law 238 = .ok (.i2l, 1) := by decide +kernel
theorem dL_law_239 : decode cL_law 239 = .ok (.lcmp, 1) := by decide +kernel
theorem dL_law_240 : decode cL_law 240 = .ok (.ifCond .eq 5, 3) := by decide +kernel
theorem dL_law_243 : decode cL_law 243 = .ok (.iconst 0, 1) := by decide +kernel
theorem dL_law_244 : decode cL_law 244 = .ok (.ireturn, 1) := by decide +kernel
theorem dL_law_245 : decode cL_law 245 = .ok (.goto 836, 3) := by decide +kernel
theorem dL_law_248 : decode cL_law 248 = .ok (.aload_n 1, 1) := by decide +kernel
theorem dL_law_249 : decode cL_law 249 = .ok (.aload_n 0, 1) := by decide +kernel
theorem dL_law_250 : decode cL_law 250 = .ok (.iload 4, 2) := by decide +kernel
theorem dL_law_252 : decode cL_law 252 = .ok (.iconst 1, 1) := by decide +kernel
theorem dL_law_253 : decode cL_law 253 = .ok (.iadd, 1) := by decide +kernel
theorem dL_law_254 : decode cL_law 254 = .ok (.iaload, 1) := by decide +kernel
theorem dL_law_255 : decode cL_law 255 = .ok (.aload_n 0, 1) := by decide +kernel
theorem dL_law_256 : decode cL_law 256 = .ok (.iload 4, 2) := by decide +kernel
theorem dL_law_258 : decode cL_law 258 = .ok (.iconst 2, 1) := by decide +kernel
theorem dL_law_259 : decode cL_law 259 = .ok (.iadd, 1) := by decide +kernel
theorem dL_law_260 : decode cL_law 260 = .ok (.iaload, 1) := by decide +kernel
theorem dL_law_261 : decode cL_law 261 = .ok (.aload_n 0, 1) := by decide +kernel
theorem dL_law_262 : decode cL_law 262 = .ok (.iload 4, 2) := by decide +kernel
theorem dL_law_264 : decode cL_law 264 = .ok (.iconst 3, 1) := by decide +kernel
theorem dL_law_265 : decode cL_law 265 = .ok (.iadd, 1) := by decide +kernel
theorem dL_law_266 : decode cL_law 266 = .ok (.iaload, 1) := by decide +kernel
theorem dL_law_267 : decode cL_law 267 = .ok (.ifCond .eq 7, 3) := by decide +kernel
theorem dL_law_270 : decode cL_law 270 = .ok (.iconst 1, 1) := by decide +kernel
theorem dL_law_271 : decode cL_law 271 = .ok (.goto 4, 3) := by decide +kernel
theorem dL_law_274 : decode cL_law 274 = .ok (.iconst 0, 1) := by decide +kernel
theorem dL_law_275 : decode cL_law 275 = .ok (.aload_n 3, 1) := by decide +kernel
theorem dL_law_276 : decode cL_law 276 = .ok (.invokestatic 86, 3) := by decide +kernel
theorem dL_law_279 : decode cL_law 279 = .ok (.istore 5, 2) := by decide +kernel
theorem dL_law_281 : decode cL_law 281 = .ok (.aload_n 2, 1) := by decide +kernel
theorem dL_law_282 : decode cL_law 282 = .ok (.aload_n 0, 1) := by decide +kernel
theorem dL_law_283 : decode cL_law 283 = .ok (.iload 4, 2) := by decide +kernel
theorem dL_law_285 : decode cL_law 285 = .ok (.iconst 1, 1) := by decide +kernel
theorem dL_law_286 : decode cL_law 286 = .ok (.iadd, 1) := by decide +kernel
theorem dL_law_287 : decode cL_law 287 = .ok (.iaload, 1) := by decide +kernel
theorem dL_law_288 : decode cL_law 288 = .ok (.aload_n 0, 1) := by decide +kernel
theorem dL_law_289 : decode cL_law 289 = .ok (.iload 4, 2) := by decide +kernel
theorem dL_law_291 : decode cL_law 291 = .ok (.iconst 2, 1) := by decide +kernel
theorem dL_law_292 : decode cL_law 292 = .ok (.iadd, 1) := by decide +kernel
theorem dL_law_293 : decode cL_law 293 = .ok (.iaload, 1) := by decide +kernel
theorem dL_law_294 : decode cL_law 294 = .ok (.aload_n 0, 1) := by decide +kernel
theorem dL_law_295 : decode cL_law 295 = .ok (.iload 4, 2) := by decide +kernel
theorem dL_law_297 : decode cL_law 297 = .ok (.iconst 3, 1) := by decide +kernel
theorem dL_law_298 : decode cL_law 298 = .ok (.iadd, 1) := by decide +kernel
theorem dL_law_299 : decode cL_law 299 = .ok (.iaload, 1) := by decide +kernel
theorem dL_law_300 : decode cL_law 300 = .ok (.ifCond .eq 7, 3) := by decide +kernel
theorem dL_law_303 : decode cL_law 303 = .ok (.iconst 1, 1) := by decide +kernel
theorem dL_law_304 : decode cL_law 304 = .ok (.goto 4, 3) := by decide +kernel
theorem dL_law_307 : decode cL_law 307 = .ok (.iconst 0, 1) := by decide +kernel
theorem dL_law_308 : decode cL_law 308 = .ok (.invokevirtual 89, 3) := by decide +kernel
theorem dL_law_311 : decode cL_law 311 = .ok (.istore 6, 2) := by decide +kernel
theorem dL_law_313 : decode cL_law 313 = .ok (.aload_n 2, 1) := by decide +kernel
theorem dL_law_314 : decode cL_law 314 = .ok (.invokevirtual 75, 3) := by decide +kernel
theorem dL_law_317 : decode cL_law 317 = .ok (.iload 5, 2) := by decide +kernel
theorem dL_law_319 : decode cL_law 319 = .ok (.if_icmp .eq 5, 3) := by decide +kernel
theorem dL_law_322 : decode cL_law 322 = .ok (.iconst 0, 1) := by decide +kernel
theorem dL_law_323 : decode cL_law 323 = .ok (.ireturn, 1) := by decide +kernel
theorem dL_law_324 : decode cL_law 324 = .ok (.iload 5, 2) := by decide +kernel
theorem dL_law_326 : decode cL_law 326 = .ok (.ifCond .ne 15, 3) := by decide +kernel
theorem dL_law_329 : decode cL_law 329 = .ok (.aload_n 3, 1) := by decide +kernel
theorem dL_law_330 : decode cL_law 330 = .ok (.iconst 0, 1) := by decide +kernel
theorem dL_law_331 : decode cL_law 331 = .ok (.laload, 1) := by decide +kernel
theorem dL_law_332 : decode cL_law 332 = .ok (.iload 6, 2) := by decide +kernel
theorem dL_law_334 : decode cL_law 334 = .ok (.i2l, 1) := by decide +kernel
theorem dL_law_335 : decode cL_law 335 = .ok (.lcmp, 1) := by decide +kernel
theorem dL_law_336 : decode cL_law 336 = .ok (.ifCond .eq 5, 3) := by decide +kernel
theorem dL_law_339 : decode cL_law 339 = .ok (.iconst 0, 1) := by decide +kernel
theorem dL_law_340 : decode cL_law 340 = .ok (.ireturn, 1) := by decide +kernel
theorem dL_law_341 : decode cL_law 341 = .ok (.goto 740, 3) := by decide +kernel
theorem dL_law_344 : decode cL_law 344 = .ok (.aload_n 1, 1) := by decide +kernel
theorem dL_law_345 : decode cL_law 345 = .ok (.aload_n 0, 1) := by decide +kernel
theorem dL_law_346 : decode cL_law 346 = .ok (.iload 4, 2) := by decide +kernel
theorem dL_law_348 : decode cL_law 348 = .ok (.iconst 1, 1) := by decide +kernel
theorem dL_law_349 : decode cL_law 349 = .ok (.iadd, 1) := by decide +kernel
theorem dL_law_350 : decode cL_law 350 = .ok (.iaload, 1) := by decide +kernel
theorem dL_law_351 : decode cL_law 351 = .ok (.aload_n 0, 1) := by decide +kernel
theorem dL_law_352 : decode cL_law 352 = .ok (.iload 4, 2) := by decide +kernel
theorem dL_law_354 : decode cL_law 354 = .ok (.iconst 2, 1) := by decide +kernel
theorem dL_law_355 : decode cL_law 355 = .ok (.iadd, 1) := by decide +kernel
theorem dL_law_356 : decode cL_law 356 = .ok (.iaload, 1) := by decide +kernel
theorem dL_law_357 : decode cL_law 357 = .ok (.aload_n 3, 1) := by decide +kernel
theorem dL_law_358 : decode cL_law 358 = .ok (.invokestatic 90, 3) := by decide +kernel
theorem dL_law_361 : decode cL_law 361 = .ok (.istore 5, 2) := by decide +kernel
theorem dL_law_363 : decode cL_law 363 = .ok (.aload_n 2, 1) := by decide +kernel
theorem dL_law_364 : decode cL_law 364 = .ok (.aload_n 0, 1) := by decide +kernel
theorem dL_law_365 : decode cL_law 365 = .ok (.iload 4, 2) := by decide +kernel
theorem dL_law_367 : decode cL_law 367 = .ok (.iconst 1, 1) := by decide +kernel
theorem dL_law_368 : decode cL_law 368 = .ok (.iadd, 1) := by decide +kernel
theorem dL_law_369 : decode cL_law 369 = .ok (.iaload, 1) := by decide +kernel
theorem dL_law_370 : decode cL_law 370 = .ok (.aload_n 0, 1) := by decide +kernel
theorem dL_law_371 : decode cL_law 371 = .ok (.iload 4, 2) := by decide +kernel
theorem dL_law_373 : decode cL_law 373 = .ok (.iconst 2, 1) := by decide +kernel
theorem dL_law_374 : decode cL_law 374 = .ok (.iadd, 1) := by decide +kernel
theorem dL_law_375 : decode cL_law 375 = .ok (.iaload, 1) := by decide +kernel
theorem dL_law_376 : decode cL_law 376 = .ok (.invokevirtual 93, 3) := by decide +kernel
theorem dL_law_379 : decode cL_law 379 = .ok (.istore 6, 2) := by decide +kernel
theorem dL_law_381 : decode cL_law 381 = .ok (.aload_n 2, 1) := by decide +kernel
theorem dL_law_382 : decode cL_law 382 = .ok (.invokevirtual 75, 3) := by decide +kernel
theorem dL_law_385 : decode cL_law 385 = .ok (.iload 5, 2) := by decide +kernel
theorem dL_law_387 : decode cL_law 387 = .ok (.if_icmp .eq 5, 3) := by decide +kernel
theorem dL_law_390 : decode cL_law 390 = .ok (.iconst 0, 1) := by decide +kernel
theorem dL_law_391 : decode cL_law 391 = .ok (.ireturn, 1) := by decide +kernel
theorem dL_law_392 : decode cL_law 392 = .ok (.iload 5, 2) := by decide +kernel
theorem dL_law_394 : decode cL_law 394 = .ok (.ifCond .ne 15, 3) := by decide +kernel
theorem dL_law_397 : decode cL_law 397 = .ok (.aload_n 3, 1) := by decide +kernel
theorem dL_law_398 : decode cL_law 398 = .ok (.iconst 0, 1) := by decide +kernel
theorem dL_law_399 : decode cL_law 399 = .ok (.laload, 1) := by decide +kernel
theorem dL_law_400 : decode cL_law 400 = .ok (.iload 6, 2) := by decide +kernel
theorem dL_law_402 : decode cL_law 402 = .ok (.i2l, 1) := by decide +kernel
theorem dL_law_403 : decode cL_law 403 = .ok (.lcmp, 1) := by decide +kernel
theorem dL_law_404 : decode cL_law 404 = .ok (.ifCond .eq 5, 3) := by decide +kernel
theorem dL_law_407 : decode cL_law 407 = .ok (.iconst 0, 1) := by decide +kernel
theorem dL_law_408 : decode cL_law 408 = .ok (.ireturn, 1) := by decide +kernel
theorem dL_law_409 : decode cL_law 409 = .ok (.goto 672, 3) := by decide +kernel
theorem dL_law_412 : decode cL_law 412 = .ok (.aload_n 1, 1) := by decide +kernel
theorem dL_law_413 : decode cL_law 413 = .ok (.aload_n 3, 1) := by decide +kernel
theorem dL_law_414 : decode cL_law 414 = .ok (.invokestatic 94, 3) := by decide +kernel
theorem dL_law_417 : decode cL_law 417 = .ok (.istore 5, 2) := by decide +kernel
theorem dL_law_419 : decode cL_law 419 = .ok (.aload_n 2, 1) := by decide +kernel
theorem dL_law_420 : decode cL_law 420 = .ok (.invokevirtual 96, 3) := by decide +kernel
theorem dL_law_423 : decode cL_law 423 = .ok (.istore 6, 2) := by decide +kernel
theorem dL_law_425 : decode cL_law 425 = .ok (.aload_n 2, 1) := by decide +kernel
theorem dL_law_426 : decode cL_law 426 = .ok (.invokevirtual 75, 3) := by decide +kernel
theorem dL_law_429 : decode cL_law 429 = .ok (.iload 5, 2) := by decide +kernel
theorem dL_law_431 : decode cL_law 431 = .ok (.if_icmp .eq 5, 3) := by decide +kernel
theorem dL_law_434 : decode cL_law 434 = .ok (.iconst 0, 1) := by decide +kernel
theorem dL_law_435 : decode cL_law 435 = .ok (.ireturn, 1) := by decide +kernel
theorem dL_law_436 : decode cL_law 436 = .ok (.iload 5, 2) := by decide +kernel
theorem dL_law_438 : decode cL_law 438 = .ok (.ifCond .ne 15, 3) := by decide +kernel
theorem dL_law_441 : decode cL_law 441 = .ok (.aload_n 3, 1) := by decide +kernel
theorem dL_law_442 : decode cL_law 442 = .ok (.iconst 0, 1) := by decide +kernel
theorem dL_law_443 : decode cL_law 443 = .ok (.laload, 1) := by decide +kernel
theorem dL_law_444 : decode cL_law 444 = .ok (.iload 6, 2) := by decide +kernel
theorem dL_law_446 : decode cL_law 446 = .ok (.i2l, 1) := by decide +kernel
theorem dL_law_447 : decode cL_law 447 = .ok (.lcmp, 1) := by decide +kernel
theorem dL_law_448 : decode cL_law 448 = .ok (.ifCond .eq 5, 3) := by decide +kernel
theorem dL_law_451 : decode cL_law 451 = .ok (.iconst 0, 1) := by decide +kernel
theorem dL_law_452 : decode cL_law 452 = .ok (.ireturn, 1) := by decide +kernel
theorem dL_law_453 : decode cL_law 453 = .ok (.goto 628, 3) := by decide +kernel
theorem dL_law_456 : decode cL_law 456 = .ok (.aload_n 1, 1) := by decide +kernel
theorem dL_law_457 : decode cL_law 457 = .ok (.aload_n 0, 1) := by decide +kernel
theorem dL_law_458 : decode cL_law 458 = .ok (.iload 4, 2) := by decide +kernel
theorem dL_law_460 : decode cL_law 460 = .ok (.iconst 1, 1) := by decide +kernel
theorem dL_law_461 : decode cL_law 461 = .ok (.iadd, 1) := by decide +kernel
theorem dL_law_462 : decode cL_law 462 = .ok (.iaload, 1) := by decide +kernel
theorem dL_law_463 : decode cL_law 463 = .ok (.aload_n 0, 1) := by decide +kernel
theorem dL_law_464 : decode cL_law 464 = .ok (.iload 4, 2) := by decide +kernel
theorem dL_law_466 : decode cL_law 466 = .ok (.iconst 2, 1) := by decide +kernel
theorem dL_law_467 : decode cL_law 467 = .ok (.iadd, 1) := by decide +kernel
theorem dL_law_468 : decode cL_law 468 = .ok (.iaload, 1) := by decide +kernel
theorem dL_law_469 : decode cL_law 469 = .ok (.aload_n 0, 1) := by decide +kernel
theorem dL_law_470 : decode cL_law 470 = .ok (.iload 4, 2) := by decide +kernel
theorem dL_law_472 : decode cL_law 472 = .ok (.iconst 3, 1) := by decide +kernel
theorem dL_law_473 : decode cL_law 473 = .ok (.iadd, 1) := by decide +kernel
theorem dL_law_474 : decode cL_law 474 = .ok (.iaload, 1) := by decide +kernel
theorem dL_law_475 : decode cL_law 475 = .ok (.aload_n 3, 1) := by decide +kernel
theorem dL_law_476 : decode cL_law 476 = .ok (.invokestatic 97, 3) := by decide +kernel
theorem dL_law_479 : decode cL_law 479 = .ok (.istore 5, 2) := by decide +kernel
theorem dL_law_481 : decode cL_law 481 = .ok (.aload_n 2, 1) := by decide +kernel
theorem dL_law_482 : decode cL_law 482 = .ok (.aload_n 0, 1) := by decide +kernel
theorem dL_law_483 : decode cL_law 483 = .ok (.iload 4, 2) := by decide +kernel
theorem dL_law_485 : decode cL_law 485 = .ok (.iconst 1, 1) := by decide +kernel
theorem dL_law_486 : decode cL_law 486 = .ok (.iadd, 1) := by decide +kernel
theorem dL_law_487 : decode cL_law 487 = .ok (.iaload, 1) := by decide +kernel
theorem dL_law_488 : decode cL_law 488 = .ok (.aload_n 0, 1) := by decide +kernel
theorem dL_law_489 : decode cL_law 489 = .ok (.iload 4, 2) := by decide +kernel
theorem dL_law_491 : decode cL_law 491 = .ok (.iconst 2, 1) := by decide +kernel
theorem dL_law_492 : decode cL_law 492 = .ok (.iadd, 1) := by decide +kernel
theorem dL_law_493 : decode cL_law 493 = .ok (.iaload, 1) := by decide +kernel
theorem dL_law_494 : decode cL_law 494 = .ok (.aload_n 0, 1) := by decide +kernel
theorem dL_law_495 : decode cL_law 495 = .ok (.iload 4, 2) := by decide +kernel
theorem dL_law_497 : decode cL_law 497 = .ok (.iconst 3, 1) := by decide +kernel
theorem dL_law_498 : decode cL_law 498 = .ok (.iadd, 1) := by decide +kernel
theorem dL_law_499 : decode cL_law 499 = .ok (.iaload, 1) := by decide +kernel
theorem dL_law_500 : decode cL_law 500 = .ok (.invokevirtual 100, 3) := by decide +kernel
theorem dL_law_503 : decode cL_law 503 = .ok (.istore 6, 2) := by decide +kernel
theorem dL_law_505 : decode cL_law 505 = .ok (.aload_n 2, 1) := by decide +kernel
theorem dL_law_506 : decode cL_law 506 = .ok (.invokevirtual 75, 3) := by decide +kernel
theorem dL_law_509 : decode cL_law 509 = .ok (.iload 5, 2) := by decide +kernel
theorem dL_law_511 : decode cL_law 511 = .ok (.if_icmp .eq 5, 3) := by decide +kernel
theorem dL_law_514 : decode cL_law 514 = .ok (.iconst 0, 1) := by decide +kernel
theorem dL_law_515 : decode cL_law 515 = .ok (.ireturn, 1) := by decide +kernel
theorem dL_law_516 : decode cL_law 516 = .ok (.iload 5, 2) := by decide +kernel
theorem dL_law_518 : decode cL_law 518 = .ok (.ifCond .ne 15, 3) := by decide +kernel
theorem dL_law_521 : decode cL_law 521 = .ok (.aload_n 3, 1) := by decide +kernel
theorem dL_law_522 : decode cL_law 522 = .ok (.iconst 0, 1) := by decide +kernel
theorem dL_law_523 : decode cL_law 523 = .ok (.laload, 1) := by decide +kernel
theorem dL_law_524 : decode cL_law 524 = .ok (.iload 6, 2) := by decide +kernel
theorem dL_law_526 : decode cL_law 526 = .ok (.i2l, 1) := by decide +kernel
theorem dL_law_527 : decode cL_law 527 = .ok (.lcmp, 1) := by decide +kernel
theorem dL_law_528 : decode cL_law 528 = .ok (.ifCond .eq 5, 3) := by decide +kernel
theorem dL_law_531 : decode cL_law 531 = .ok (.iconst 0, 1) := by decide +kernel
theorem dL_law_532 : decode cL_law 532 = .ok (.ireturn, 1) := by decide +kernel
theorem dL_law_533 : decode cL_law 533 = .ok (.goto 548, 3) := by decide +kernel
theorem dL_law_536 : decode cL_law 536 = .ok (.aload_n 1, 1) := by decide +kernel
theorem dL_law_537 : decode cL_law 537 = .ok (.aload_n 0, 1) := by decide +kernel
theorem dL_law_538 : decode cL_law 538 = .ok (.iload 4, 2) := by decide +kernel
theorem dL_law_540 : decode cL_law 540 = .ok (.iconst 1, 1) := by decide +kernel
theorem dL_law_541 : decode cL_law 541 = .ok (.iadd, 1) := by decide +kernel
theorem dL_law_542 : decode cL_law 542 = .ok (.iaload, 1) := by decide +kernel
theorem dL_law_543 : decode cL_law 543 = .ok (.aload_n 0, 1) := by decide +kernel
theorem dL_law_544 : decode cL_law 544 = .ok (.iload 4, 2) := by decide +kernel
theorem dL_law_546 : decode cL_law 546 = .ok (.iconst 2, 1) := by decide +kernel
theorem dL_law_547 : decode cL_law 547 = .ok (.iadd, 1) := by decide +kernel
theorem dL_law_548 : decode cL_law 548 = .ok (.iaload, 1) := by decide +kernel
theorem dL_law_549 : decode cL_law 549 = .ok (.aload_n 0, 1) := by decide +kernel
theorem dL_law_550 : decode cL_law 550 = .ok (.iload 4, 2) := by decide +kernel
theorem dL_law_552 : decode cL_law 552 = .ok (.iconst 3, 1) := by decide +kernel
theorem dL_law_553 : decode cL_law 553 = .ok (.iadd, 1) := by decide +kernel
theorem dL_law_554 : decode cL_law 554 = .ok (.iaload, 1) := by decide +kernel
theorem dL_law_555 : decode cL_law 555 = .ok (.aload_n 0, 1) := by decide +kernel
theorem dL_law_556 : decode cL_law 556 = .ok (.iload 4, 2) := by decide +kernel
theorem dL_law_558 : decode cL_law 558 = .ok (.iconst 4, 1) := by decide +kernel
theorem dL_law_559 : decode cL_law 559 = .ok (.iadd, 1) := by decide +kernel
theorem dL_law_560 : decode cL_law 560 = .ok (.iaload, 1) := by decide +kernel
theorem dL_law_561 : decode cL_law 561 = .ok (.invokestatic 101, 3) := by decide +kernel
theorem dL_law_564 : decode cL_law 564 = .ok (.istore 5, 2) := by decide +kernel
theorem dL_law_566 : decode cL_law 566 = .ok (.aload_n 2, 1) := by decide +kernel
theorem dL_law_567 : decode cL_law 567 = .ok (.aload_n 0, 1) := by decide +kernel
theorem dL_law_568 : decode cL_law 568 = .ok (.iload 4, 2) := by decide +kernel
theorem dL_law_570 : decode cL_law 570 = .ok (.iconst 1, 1) := by decide +kernel
theorem dL_law_571 : decode cL_law 571 = .ok (.iadd, 1) := by decide +kernel
theorem dL_law_572 : decode cL_law 572 = .ok (.iaload, 1) := by decide +kernel
theorem dL_law_573 : decode cL_law 573 = .ok (.aload_n 0, 1) := by decide +kernel
theorem dL_law_574 : decode cL_law 574 = .ok (.iload 4, 2) := by decide +kernel
theorem dL_law_576 : decode cL_law 576 = .ok (.iconst 2, 1) := by decide +kernel
theorem dL_law_577 : decode cL_law 577 = .ok (.iadd, 1) := by decide +kernel
theorem dL_law_578 : decode cL_law 578 = .ok (.iaload, 1) := by decide +kernel
theorem dL_law_579 : decode cL_law 579 = .ok (.aload_n 0, 1) := by decide +kernel
theorem dL_law_580 : decode cL_law 580 = .ok (.iload 4, 2) := by decide +kernel
theorem dL_law_582 : decode cL_law 582 = .ok (.iconst 3, 1) := by decide +kernel
theorem dL_law_583 : decode cL_law 583 = .ok (.iadd, 1) := by decide +kernel
theorem dL_law_584 : decode cL_law 584 = .ok (.iaload, 1) := by decide +kernel
theorem dL_law_585 : decode cL_law 585 = .ok (.aload_n 0, 1) := by decide +kernel
theorem dL_law_586 : decode cL_law 586 = .ok (.iload 4, 2) := by decide +kernel
theorem dL_law_588 : decode cL_law 588 = .ok (.iconst 4, 1) := by decide +kernel
theorem dL_law_589 : decode cL_law 589 = .ok (.iadd, 1) := by decide +kernel
theorem dL_law_590 : decode cL_law 590 = .ok (.iaload, 1) := by decide +kernel
theorem dL_law_591 : decode cL_law 591 = .ok (.invokevirtual 104, 3) := by decide +kernel
theorem dL_law_594 : decode cL_law 594 = .ok (.aload_n 2, 1) := by decide +kernel
theorem dL_law_595 : decode cL_law 595 = .ok (.invokevirtual 75, 3) := by decide +kernel
theorem dL_law_598 : decode cL_law 598 = .ok (.iload 5, 2) := by decide +kernel
theorem dL_law_600 : decode cL_law 600 = .ok (.if_icmp .eq 5, 3) := by decide +kernel
theorem dL_law_603 : decode cL_law 603 = .ok (.iconst 0, 1) := by decide +kernel
theorem dL_law_604 : decode cL_law 604 = .ok (.ireturn, 1) := by decide +kernel
theorem dL_law_605 : decode cL_law 605 = .ok (.goto 476, 3) := by decide +kernel
theorem dL_law_608 : decode cL_law 608 = .ok (.aload_n 1, 1) := by decide +kernel
theorem dL_law_609 : decode cL_law 609 = .ok (.aload_n 0, 1) := by decide +kernel
theorem dL_law_610 : decode cL_law 610 = .ok (.iload 4, 2) := by decide +kernel
theorem dL_law_612 : decode cL_law 612 = .ok (.iconst 1, 1) := by decide +kernel
theorem dL_law_613 : decode cL_law 613 = .ok (.iadd, 1) := by decide +kernel
theorem dL_law_614 : decode cL_law 614 = .ok (.iaload, 1) := by decide +kernel
theorem dL_law_615 : decode cL_law 615 = .ok (.aload_n 0, 1) := by decide +kernel
theorem dL_law_616 : decode cL_law 616 = .ok (.iload 4, 2) := by decide +kernel
theorem dL_law_618 : decode cL_law 618 = .ok (.iconst 2, 1) := by decide +kernel
theorem dL_law_619 : decode cL_law 619 = .ok (.iadd, 1) := by decide +kernel
theorem dL_law_620 : decode cL_law 620 = .ok (.iaload, 1) := by decide +kernel
theorem dL_law_621 : decode cL_law 621 = .ok (.aload_n 0, 1) := by decide +kernel
theorem dL_law_622 : decode cL_law 622 = .ok (.iload 4, 2) := by decide +kernel
theorem dL_law_624 : decode cL_law 624 = .ok (.iconst 3, 1) := by decide +kernel
theorem dL_law_625 : decode cL_law 625 = .ok (.iadd, 1) := by decide +kernel
theorem dL_law_626 : decode cL_law 626 = .ok (.iaload, 1) := by decide +kernel
theorem dL_law_627 : decode cL_law 627 = .ok (.aload_n 0, 1) := by decide +kernel
theorem dL_law_628 : decode cL_law 628 = .ok (.iload 4, 2) := by decide +kernel
theorem dL_law_630 : decode cL_law 630 = .ok (.iconst 4, 1) := by decide +kernel
theorem dL_law_631 : decode cL_law 631 = .ok (.iadd, 1) := by decide +kernel
theorem dL_law_632 : decode cL_law 632 = .ok (.iaload, 1) := by decide +kernel
theorem dL_law_633 : decode cL_law 633 = .ok (.invokestatic 105, 3) := by decide +kernel
theorem dL_law_636 : decode cL_law 636 = .ok (.istore 5, 2) := by decide +kernel
theorem dL_law_638 : decode cL_law 638 = .ok (.aload_n 2, 1) := by decide +kernel
theorem dL_law_639 : decode cL_law 639 = .ok (.aload_n 0, 1) := by decide +kernel
theorem dL_law_640 : decode cL_law 640 = .ok (.iload 4, 2) := by decide +kernel
theorem dL_law_642 : decode cL_law 642 = .ok (.iconst 1, 1) := by decide +kernel
theorem dL_law_643 : decode cL_law 643 = .ok (.iadd, 1) := by decide +kernel
theorem dL_law_644 : decode cL_law 644 = .ok (.iaload, 1) := by decide +kernel
theorem dL_law_645 : decode cL_law 645 = .ok (.aload_n 0, 1) := by decide +kernel
theorem dL_law_646 : decode cL_law 646 = .ok (.iload 4, 2) := by decide +kernel
theorem dL_law_648 : decode cL_law 648 = .ok (.iconst 2, 1) := by decide +kernel
theorem dL_law_649 : decode cL_law 649 = .ok (.iadd, 1) := by decide +kernel
theorem dL_law_650 : decode cL_law 650 = .ok (.iaload, 1) := by decide +kernel
theorem dL_law_651 : decode cL_law 651 = .ok (.aload_n 0, 1) := by decide +kernel
theorem dL_law_652 : decode cL_law 652 = .ok (.iload 4, 2) := by decide +kernel
theorem dL_law_654 : decode cL_law 654 = .ok (.iconst 3, 1) := by decide +kernel
theorem dL_law_655 : decode cL_law 655 = .ok (.iadd, 1) := by decide +kernel
theorem dL_law_656 : decode cL_law 656 = .ok (.iaload, 1) := by decide +kernel
theorem dL_law_657 : decode cL_law 657 = .ok (.aload_n 0, 1) := by decide +kernel
theorem dL_law_658 : decode cL_law 658 = .ok (.iload 4, 2) := by decide +kernel
theorem dL_law_660 : decode cL_law 660 = .ok (.iconst 4, 1) := by decide +kernel
theorem dL_law_661 : decode cL_law 661 = .ok (.iadd, 1) := by decide +kernel
theorem dL_law_662 : decode cL_law 662 = .ok (.iaload, 1) := by decide +kernel
theorem dL_law_663 : decode cL_law 663 = .ok (.invokevirtual 107, 3) := by decide +kernel
theorem dL_law_666 : decode cL_law 666 = .ok (.aload_n 2, 1) := by decide +kernel
theorem dL_law_667 : decode cL_law 667 = .ok (.invokevirtual 75, 3) := by decide +kernel
theorem dL_law_670 : decode cL_law 670 = .ok (.iload 5, 2) := by decide +kernel
theorem dL_law_672 : decode cL_law 672 = .ok (.if_icmp .eq 5, 3) := by decide +kernel
theorem dL_law_675 : decode cL_law 675 = .ok (.iconst 0, 1) := by decide +kernel
theorem dL_law_676 : decode cL_law 676 = .ok (.ireturn, 1) := by decide +kernel
theorem dL_law_677 : decode cL_law 677 = .ok (.goto 404, 3) := by decide +kernel
theorem dL_law_680 : decode cL_law 680 = .ok (.aload_n 1, 1) := by decide +kernel
theorem dL_law_681 : decode cL_law 681 = .ok (.aload_n 0, 1) := by decide +kernel
theorem dL_law_682 : decode cL_law 682 = .ok (.iload 4, 2) := by decide +kernel
theorem dL_law_684 : decode cL_law 684 = .ok (.iconst 1, 1) := by decide +kernel
theorem dL_law_685 : decode cL_law 685 = .ok (.iadd, 1) := by decide +kernel
theorem dL_law_686 : decode cL_law 686 = .ok (.iaload, 1) := by decide +kernel
theorem dL_law_687 : decode cL_law 687 = .ok (.aload_n 0, 1) := by decide +kernel
theorem dL_law_688 : decode cL_law 688 = .ok (.iload 4, 2) := by decide +kernel
theorem dL_law_690 : decode cL_law 690 = .ok (.iconst 2, 1) := by decide +kernel
theorem dL_law_691 : decode cL_law 691 = .ok (.iadd, 1) := by decide +kernel
theorem dL_law_692 : decode cL_law 692 = .ok (.iaload, 1) := by decide +kernel
theorem dL_law_693 : decode cL_law 693 = .ok (.aload_n 0, 1) := by decide +kernel
theorem dL_law_694 : decode cL_law 694 = .ok (.iload 4, 2) := by decide +kernel
theorem dL_law_696 : decode cL_law 696 = .ok (.iconst 3, 1) := by decide +kernel
theorem dL_law_697 : decode cL_law 697 = .ok (.iadd, 1) := by decide +kernel
theorem dL_law_698 : decode cL_law 698 = .ok (.iaload, 1) := by decide +kernel
theorem dL_law_699 : decode cL_law 699 = .ok (.aload_n 0, 1) := by decide +kernel
theorem dL_law_700 : decode cL_law 700 = .ok (.iload 4, 2) := by decide +kernel
theorem dL_law_702 : decode cL_law 702 = .ok (.iconst 4, 1) := by decide +kernel
theorem dL_law_703 : decode cL_law 703 = .ok (.iadd, 1) := by decide +kernel
theorem dL_law_704 : decode cL_law 704 = .ok (.iaload, 1) := by decide +kernel
theorem dL_law_705 : decode cL_law 705 = .ok (.aload_n 3, 1) := by decide +kernel
theorem dL_law_706 : decode cL_law 706 = .ok (.invokestatic 108, 3) := by decide +kernel
theorem dL_law_709 : decode cL_law 709 = .ok (.istore 5, 2) := by decide +kernel
theorem dL_law_711 : decode cL_law 711 = .ok (.aload_n 2, 1) := by decide +kernel
theorem dL_law_712 : decode cL_law 712 = .ok (.aload_n 0, 1) := by decide +kernel
theorem dL_law_713 : decode cL_law 713 = .ok (.iload 4, 2) := by decide +kernel
theorem dL_law_715 : decode cL_law 715 = .ok (.iconst 1, 1) := by decide +kernel
theorem dL_law_716 : decode cL_law 716 = .ok (.iadd, 1) := by decide +kernel
theorem dL_law_717 : decode cL_law 717 = .ok (.iaload, 1) := by decide +kernel
theorem dL_law_718 : decode cL_law 718 = .ok (.aload_n 0, 1) := by decide +kernel
theorem dL_law_719 : decode cL_law 719 = .ok (.iload 4, 2) := by decide +kernel
theorem dL_law_721 : decode cL_law 721 = .ok (.iconst 2, 1) := by decide +kernel
theorem dL_law_722 : decode cL_law 722 = .ok (.iadd, 1) := by decide +kernel
theorem dL_law_723 : decode cL_law 723 = .ok (.iaload, 1) := by decide +kernel
theorem dL_law_724 : decode cL_law 724 = .ok (.aload_n 0, 1) := by decide +kernel
theorem dL_law_725 : decode cL_law 725 = .ok (.iload 4, 2) := by decide +kernel
theorem dL_law_727 : decode cL_law 727 = .ok (.iconst 3, 1) := by decide +kernel
theorem dL_law_728 : decode cL_law 728 = .ok (.iadd, 1) := by decide +kernel
theorem dL_law_729 : decode cL_law 729 = .ok (.iaload, 1) := by decide +kernel
theorem dL_law_730 : decode cL_law 730 = .ok (.aload_n 0, 1) := by decide +kernel
theorem dL_law_731 : decode cL_law 731 = .ok (.iload 4, 2) := by decide +kernel
theorem dL_law_733 : decode cL_law 733 = .ok (.iconst 4, 1) := by decide +kernel
theorem dL_law_734 : decode cL_law 734 = .ok (.iadd, 1) := by decide +kernel
theorem dL_law_735 : decode cL_law 735 = .ok (.iaload, 1) := by decide +kernel
theorem dL_law_736 : decode cL_law 736 = .ok (.invokevirtual 111, 3) := by decide +kernel
theorem dL_law_739 : decode cL_law 739 = .ok (.istore 6, 2) := by decide +kernel
theorem dL_law_741 : decode cL_law 741 = .ok (.aload_n 2, 1) := by decide +kernel
theorem dL_law_742 : decode cL_law 742 = .ok (.invokevirtual 75, 3) := by decide +kernel
theorem dL_law_745 : decode cL_law 745 = .ok (.iload 5, 2) := by decide +kernel
theorem dL_law_747 : decode cL_law 747 = .ok (.if_icmp .eq 5, 3) := by decide +kernel
theorem dL_law_750 : decode cL_law 750 = .ok (.iconst 0, 1) := by decide +kernel
theorem dL_law_751 : decode cL_law 751 = .ok (.ireturn, 1) := by decide +kernel
theorem dL_law_752 : decode cL_law 752 = .ok (.iload 5, 2) := by decide +kernel
theorem dL_law_754 : decode cL_law 754 = .ok (.ifCond .ne 15, 3) := by decide +kernel
theorem dL_law_757 : decode cL_law 757 = .ok (.aload_n 3, 1) := by decide +kernel
theorem dL_law_758 : decode cL_law 758 = .ok (.iconst 0, 1) := by decide +kernel
theorem dL_law_759 : decode cL_law 759 = .ok (.laload, 1) := by decide +kernel
theorem dL_law_760 : decode cL_law 760 = .ok (.iload 6, 2) := by decide +kernel
theorem dL_law_762 : decode cL_law 762 = .ok (.i2l, 1) := by decide +kernel
theorem dL_law_763 : decode cL_law 763 = .ok (.lcmp, 1) := by decide +kernel
theorem dL_law_764 : decode cL_law 764 = .ok (.ifCond .eq 5, 3) := by decide +kernel
theorem dL_law_767 : decode cL_law 767 = .ok (.iconst 0, 1) := by decide +kernel
theorem dL_law_768 : decode cL_law 768 = .ok (.ireturn, 1) := by decide +kernel
theorem dL_law_769 : decode cL_law 769 = .ok (.goto 312, 3) := by decide +kernel
theorem dL_law_772 : decode cL_law 772 = .ok (.aload_n 1, 1) := by decide +kernel
theorem dL_law_773 : decode cL_law 773 = .ok (.aload_n 0, 1) := by decide +kernel
theorem dL_law_774 : decode cL_law 774 = .ok (.iload 4, 2) := by decide +kernel
theorem dL_law_776 : decode cL_law 776 = .ok (.iconst 1, 1) := by decide +kernel
theorem dL_law_777 : decode cL_law 777 = .ok (.iadd, 1) := by decide +kernel
theorem dL_law_778 : decode cL_law 778 = .ok (.iaload, 1) := by decide +kernel
theorem dL_law_779 : decode cL_law 779 = .ok (.aload_n 0, 1) := by decide +kernel
theorem dL_law_780 : decode cL_law 780 = .ok (.iload 4, 2) := by decide +kernel
theorem dL_law_782 : decode cL_law 782 = .ok (.iconst 2, 1) := by decide +kernel
theorem dL_law_783 : decode cL_law 783 = .ok (.iadd, 1) := by decide +kernel
theorem dL_law_784 : decode cL_law 784 = .ok (.iaload, 1) := by decide +kernel
theorem dL_law_785 : decode cL_law 785 = .ok (.aload_n 0, 1) := by decide +kernel
theorem dL_law_786 : decode cL_law 786 = .ok (.iload 4, 2) := by decide +kernel
theorem dL_law_788 : decode cL_law 788 = .ok (.iconst 3, 1) := by decide +kernel
theorem dL_law_789 : decode cL_law 789 = .ok (.iadd, 1) := by decide +kernel
theorem dL_law_790 : decode cL_law 790 = .ok (.iaload, 1) := by decide +kernel
theorem dL_law_791 : decode cL_law 791 = .ok (.aload_n 0, 1) := by decide +kernel
theorem dL_law_792 : decode cL_law 792 = .ok (.iload 4, 2) := by decide +kernel
theorem dL_law_794 : decode cL_law 794 = .ok (.iconst 4, 1) := by decide +kernel
theorem dL_law_795 : decode cL_law 795 = .ok (.iadd, 1) := by decide +kernel
theorem dL_law_796 : decode cL_law 796 = .ok (.iaload, 1) := by decide +kernel
theorem dL_law_797 : decode cL_law 797 = .ok (.aload_n 3, 1) := by decide +kernel
theorem dL_law_798 : decode cL_law 798 = .ok (.invokestatic 112, 3) := by decide +kernel
theorem dL_law_801 : decode cL_law 801 = .ok (.istore 5, 2) := by decide +kernel
theorem dL_law_803 : decode cL_law 803 = .ok (.aload_n 2, 1) := by decide +kernel
theorem dL_law_804 : decode cL_law 804 = .ok (.aload_n 0, 1) := by decide +kernel
theorem dL_law_805 : decode cL_law 805 = .ok (.iload 4, 2) := by decide +kernel
theorem dL_law_807 : decode cL_law 807 = .ok (.iconst 1, 1) := by decide +kernel
theorem dL_law_808 : decode cL_law 808 = .ok (.iadd, 1) := by decide +kernel
theorem dL_law_809 : decode cL_law 809 = .ok (.iaload, 1) := by decide +kernel
theorem dL_law_810 : decode cL_law 810 = .ok (.aload_n 0, 1) := by decide +kernel
theorem dL_law_811 : decode cL_law 811 = .ok (.iload 4, 2) := by decide +kernel
theorem dL_law_813 : decode cL_law 813 = .ok (.iconst 2, 1) := by decide +kernel
theorem dL_law_814 : decode cL_law 814 = .ok (.iadd, 1) := by decide +kernel
theorem dL_law_815 : decode cL_law 815 = .ok (.iaload, 1) := by decide +kernel
theorem dL_law_816 : decode cL_law 816 = .ok (.aload_n 0, 1) := by decide +kernel
theorem dL_law_817 : decode cL_law 817 = .ok (.iload 4, 2) := by decide +kernel
theorem dL_law_819 : decode cL_law 819 = .ok (.iconst 3, 1) := by decide +kernel
theorem dL_law_820 : decode cL_law 820 = .ok (.iadd, 1) := by decide +kernel
theorem dL_law_821 : decode cL_law 821 = .ok (.iaload, 1) := by decide +kernel
theorem dL_law_822 : decode cL_law 822 = .ok (.aload_n 0, 1) := by decide +kernel
theorem dL_law_823 : decode cL_law 823 = .ok (.iload 4, 2) := by decide +kernel
theorem dL_law_825 : decode cL_law 825 = .ok (.iconst 4, 1) := by decide +kernel
theorem dL_law_826 : decode cL_law 826 = .ok (.iadd, 1) := by decide +kernel
theorem dL_law_827 : decode cL_law 827 = .ok (.iaload, 1) := by decide +kernel
theorem dL_law_828 : decode cL_law 828 = .ok (.invokevirtual 114, 3) := by decide +kernel
theorem dL_law_831 : decode cL_law 831 = .ok (.istore 6, 2) := by decide +kernel
theorem dL_law_833 : decode cL_law 833 = .ok (.aload_n 2, 1) := by decide +kernel
theorem dL_law_834 : decode cL_law 834 = .ok (.invokevirtual 75, 3) := by decide +kernel
theorem dL_law_837 : decode cL_law 837 = .ok (.iload 5, 2) := by decide +kernel
theorem dL_law_839 : decode cL_law 839 = .ok (.if_icmp .eq 5, 3) := by decide +kernel
theorem dL_law_842 : decode cL_law 842 = .ok (.iconst 0, 1) := by decide +kernel
theorem dL_law_843 : decode cL_law 843 = .ok (.ireturn, 1) := by decide +kernel
theorem dL_law_844 : decode cL_law 844 = .ok (.iload 5, 2) := by decide +kernel
theorem dL_law_846 : decode cL_law 846 = .ok (.ifCond .ne 15, 3) := by decide +kernel
theorem dL_law_849 : decode cL_law 849 = .ok (.aload_n 3, 1) := by decide +kernel
theorem dL_law_850 : decode cL_law 850 = .ok (.iconst 0, 1) := by decide +kernel
theorem dL_law_851 : decode cL_law 851 = .ok (.laload, 1) := by decide +kernel
theorem dL_law_852 : decode cL_law 852 = .ok (.iload 6, 2) := by decide +kernel
theorem dL_law_854 : decode cL_law 854 = .ok (.i2l, 1) := by decide +kernel
theorem dL_law_855 : decode cL_law 855 = .ok (.lcmp, 1) := by decide +kernel
theorem dL_law_856 : decode cL_law 856 = .ok (.ifCond .eq 5, 3) := by decide +kernel
theorem dL_law_859 : decode cL_law 859 = .ok (.iconst 0, 1) := by decide +kernel
theorem dL_law_860 : decode cL_law 860 = .ok (.ireturn, 1) := by decide +kernel
theorem dL_law_861 : decode cL_law 861 = .ok (.goto 220, 3) := by decide +kernel
theorem dL_law_864 : decode cL_law 864 = .ok (.aload_n 1, 1) := by decide +kernel
theorem dL_law_865 : decode cL_law 865 = .ok (.aload_n 0, 1) := by decide +kernel
theorem dL_law_866 : decode cL_law 866 = .ok (.iload 4, 2) := by decide +kernel
theorem dL_law_868 : decode cL_law 868 = .ok (.iconst 1, 1) := by decide +kernel
theorem dL_law_869 : decode cL_law 869 = .ok (.iadd, 1) := by decide +kernel
theorem dL_law_870 : decode cL_law 870 = .ok (.iaload, 1) := by decide +kernel
theorem dL_law_871 : decode cL_law 871 = .ok (.aload_n 0, 1) := by decide +kernel
theorem dL_law_872 : decode cL_law 872 = .ok (.iload 4, 2) := by decide +kernel
theorem dL_law_874 : decode cL_law 874 = .ok (.iconst 2, 1) := by decide +kernel
theorem dL_law_875 : decode cL_law 875 = .ok (.iadd, 1) := by decide +kernel
theorem dL_law_876 : decode cL_law 876 = .ok (.iaload, 1) := by decide +kernel
theorem dL_law_877 : decode cL_law 877 = .ok (.aload_n 0, 1) := by decide +kernel
theorem dL_law_878 : decode cL_law 878 = .ok (.iload 4, 2) := by decide +kernel
theorem dL_law_880 : decode cL_law 880 = .ok (.iconst 3, 1) := by decide +kernel
theorem dL_law_881 : decode cL_law 881 = .ok (.iadd, 1) := by decide +kernel
theorem dL_law_882 : decode cL_law 882 = .ok (.iaload, 1) := by decide +kernel
theorem dL_law_883 : decode cL_law 883 = .ok (.aload_n 3, 1) := by decide +kernel
theorem dL_law_884 : decode cL_law 884 = .ok (.invokestatic 115, 3) := by decide +kernel
theorem dL_law_887 : decode cL_law 887 = .ok (.istore 5, 2) := by decide +kernel
theorem dL_law_889 : decode cL_law 889 = .ok (.aload_n 2, 1) := by decide +kernel
theorem dL_law_890 : decode cL_law 890 = .ok (.aload_n 0, 1) := by decide +kernel
theorem dL_law_891 : decode cL_law 891 = .ok (.iload 4, 2) := by decide +kernel
theorem dL_law_893 : decode cL_law 893 = .ok (.iconst 1, 1) := by decide +kernel
theorem dL_law_894 : decode cL_law 894 = .ok (.iadd, 1) := by decide +kernel
theorem dL_law_895 : decode cL_law 895 = .ok (.iaload, 1) := by decide +kernel
theorem dL_law_896 : decode cL_law 896 = .ok (.aload_n 0, 1) := by decide +kernel
theorem dL_law_897 : decode cL_law 897 = .ok (.iload 4, 2) := by decide +kernel
theorem dL_law_899 : decode cL_law 899 = .ok (.iconst 2, 1) := by decide +kernel
theorem dL_law_900 : decode cL_law 900 = .ok (.iadd, 1) := by decide +kernel
theorem dL_law_901 : decode cL_law 901 = .ok (.iaload, 1) := by decide +kernel
theorem dL_law_902 : decode cL_law 902 = .ok (.aload_n 0, 1) := by decide +kernel
theorem dL_law_903 : decode cL_law 903 = .ok (.iload 4, 2) := by decide +kernel
theorem dL_law_905 : decode cL_law 905 = .ok (.iconst 3, 1) := by decide +kernel
theorem dL_law_906 : decode cL_law 906 = .ok (.iadd, 1) := by decide +kernel
theorem dL_law_907 : decode cL_law 907 = .ok (.iaload, 1) := by decide +kernel
theorem dL_law_908 : decode cL_law 908 = .ok (.invokevirtual 117, 3) := by decide +kernel
theorem dL_law_911 : decode cL_law 911 = .ok (.istore 6, 2) := by decide +kernel
theorem dL_law_913 : decode cL_law 913 = .ok (.aload_n 2, 1) := by decide +kernel
theorem dL_law_914 : decode cL_law 914 = .ok (.invokevirtual 75, 3) := by decide +kernel
theorem dL_law_917 : decode cL_law 917 = .ok (.iload 5, 2) := by decide +kernel
theorem dL_law_919 : decode cL_law 919 = .ok (.if_icmp .eq 5, 3) := by decide +kernel
theorem dL_law_922 : decode cL_law 922 = .ok (.iconst 0, 1) := by decide +kernel
theorem dL_law_923 : decode cL_law 923 = .ok (.ireturn, 1) := by decide +kernel
theorem dL_law_924 : decode cL_law 924 = .ok (.iload 5, 2) := by decide +kernel
theorem dL_law_926 : decode cL_law 926 = .ok (.ifCond .ne 15, 3) := by decide +kernel
theorem dL_law_929 : decode cL_law 929 = .ok (.aload_n 3, 1) := by decide +kernel
theorem dL_law_930 : decode cL_law 930 = .ok (.iconst 0, 1) := by decide +kernel
theorem dL_law_931 : decode cL_law 931 = .ok (.laload, 1) := by decide +kernel
theorem dL_law_932 : decode cL_law 932 = .ok (.iload 6, 2) := by decide +kernel
theorem dL_law_934 : decode cL_law 934 = .ok (.i2l, 1) := by decide +kernel
theorem dL_law_935 : decode cL_law 935 = .ok (.lcmp, 1) := by decide +kernel
theorem dL_law_936 : decode cL_law 936 = .ok (.ifCond .eq 5, 3) := by decide +kernel
theorem dL_law_939 : decode cL_law 939 = .ok (.iconst 0, 1) := by decide +kernel
theorem dL_law_940 : decode cL_law 940 = .ok (.ireturn, 1) := by decide +kernel
theorem dL_law_941 : decode cL_law 941 = .ok (.goto 140, 3) := by decide +kernel
theorem dL_law_944 : decode cL_law 944 = .ok (.aload_n 1, 1) := by decide +kernel
theorem dL_law_945 : decode cL_law 945 = .ok (.aload_n 0, 1) := by decide +kernel
theorem dL_law_946 : decode cL_law 946 = .ok (.iload 4, 2) := by decide +kernel
theorem dL_law_948 : decode cL_law 948 = .ok (.iconst 1, 1) := by decide +kernel
theorem dL_law_949 : decode cL_law 949 = .ok (.iadd, 1) := by decide +kernel
theorem dL_law_950 : decode cL_law 950 = .ok (.iaload, 1) := by decide +kernel
theorem dL_law_951 : decode cL_law 951 = .ok (.aload_n 0, 1) := by decide +kernel
theorem dL_law_952 : decode cL_law 952 = .ok (.iload 4, 2) := by decide +kernel
theorem dL_law_954 : decode cL_law 954 = .ok (.iconst 2, 1) := by decide +kernel
theorem dL_law_955 : decode cL_law 955 = .ok (.iadd, 1) := by decide +kernel
theorem dL_law_956 : decode cL_law 956 = .ok (.iaload, 1) := by decide +kernel
theorem dL_law_957 : decode cL_law 957 = .ok (.aload_n 3, 1) := by decide +kernel
theorem dL_law_958 : decode cL_law 958 = .ok (.invokestatic 118, 3) := by decide +kernel
theorem dL_law_961 : decode cL_law 961 = .ok (.istore 5, 2) := by decide +kernel
theorem dL_law_963 : decode cL_law 963 = .ok (.aload_n 2, 1) := by decide +kernel
theorem dL_law_964 : decode cL_law 964 = .ok (.aload_n 0, 1) := by decide +kernel
theorem dL_law_965 : decode cL_law 965 = .ok (.iload 4, 2) := by decide +kernel
theorem dL_law_967 : decode cL_law 967 = .ok (.iconst 1, 1) := by decide +kernel
theorem dL_law_968 : decode cL_law 968 = .ok (.iadd, 1) := by decide +kernel
theorem dL_law_969 : decode cL_law 969 = .ok (.iaload, 1) := by decide +kernel
theorem dL_law_970 : decode cL_law 970 = .ok (.aload_n 0, 1) := by decide +kernel
theorem dL_law_971 : decode cL_law 971 = .ok (.iload 4, 2) := by decide +kernel
theorem dL_law_973 : decode cL_law 973 = .ok (.iconst 2, 1) := by decide +kernel
theorem dL_law_974 : decode cL_law 974 = .ok (.iadd, 1) := by decide +kernel
theorem dL_law_975 : decode cL_law 975 = .ok (.iaload, 1) := by decide +kernel
theorem dL_law_976 : decode cL_law 976 = .ok (.invokevirtual 120, 3) := by decide +kernel
theorem dL_law_979 : decode cL_law 979 = .ok (.istore 6, 2) := by decide +kernel
theorem dL_law_981 : decode cL_law 981 = .ok (.aload_n 2, 1) := by decide +kernel
theorem dL_law_982 : decode cL_law 982 = .ok (.invokevirtual 75, 3) := by decide +kernel
theorem dL_law_985 : decode cL_law 985 = .ok (.iload 5, 2) := by decide +kernel
theorem dL_law_987 : decode cL_law 987 = .ok (.if_icmp .eq 5, 3) := by decide +kernel
theorem dL_law_990 : decode cL_law 990 = .ok (.iconst 0, 1) := by decide +kernel
theorem dL_law_991 : decode cL_law 991 = .ok (.ireturn, 1) := by decide +kernel
theorem dL_law_992 : decode cL_law 992 = .ok (.iload 5, 2) := by decide +kernel
theorem dL_law_994 : decode cL_law 994 = .ok (.ifCond .ne 15, 3) := by decide +kernel
theorem dL_law_997 : decode cL_law 997 = .ok (.aload_n 3, 1) := by decide +kernel
theorem dL_law_998 : decode cL_law 998 = .ok (.iconst 0, 1) := by decide +kernel
theorem dL_law_999 : decode cL_law 999 = .ok (.laload, 1) := by decide +kernel
theorem dL_law_1000 : decode cL_law 1000 = .ok (.iload 6, 2) := by decide +kernel
theorem dL_law_1002 : decode cL_law 1002 = .ok (.i2l, 1) := by decide +kernel
theorem dL_law_1003 : decode cL_law 1003 = .ok (.lcmp, 1) := by decide +kernel
theorem dL_law_1004 : decode cL_law 1004 = .ok (.ifCond .eq 5, 3) := by decide +kernel
theorem dL_law_1007 : decode cL_law 1007 = .ok (.iconst 0, 1) := by decide +kernel
theorem dL_law_1008 : decode cL_law 1008 = .ok (.ireturn, 1) := by decide +kernel
theorem dL_law_1009 : decode cL_law 1009 = .ok (.goto 72, 3) := by decide +kernel
theorem dL_law_1012 : decode cL_law 1012 = .ok (.aload_n 1, 1) := by decide +kernel
theorem dL_law_1013 : decode cL_law 1013 = .ok (.aload_n 0, 1) := by decide +kernel
theorem dL_law_1014 : decode cL_law 1014 = .ok (.iload 4, 2) := by decide +kernel
theorem dL_law_1016 : decode cL_law 1016 = .ok (.iconst 1, 1) := by decide +kernel
theorem dL_law_1017 : decode cL_law 1017 = .ok (.iadd, 1) := by decide +kernel
theorem dL_law_1018 : decode cL_law 1018 = .ok (.iaload, 1) := by decide +kernel
theorem dL_law_1019 : decode cL_law 1019 = .ok (.aload_n 3, 1) := by decide +kernel
theorem dL_law_1020 : decode cL_law 1020 = .ok (.invokestatic 121, 3) := by decide +kernel
theorem dL_law_1023 : decode cL_law 1023 = .ok (.istore 5, 2) := by decide +kernel
theorem dL_law_1025 : decode cL_law 1025 = .ok (.aload_n 2, 1) := by decide +kernel
theorem dL_law_1026 : decode cL_law 1026 = .ok (.aload_n 0, 1) := by decide +kernel
theorem dL_law_1027 : decode cL_law 1027 = .ok (.iload 4, 2) := by decide +kernel
theorem dL_law_1029 : decode cL_law 1029 = .ok (.iconst 1, 1) := by decide +kernel
theorem dL_law_1030 : decode cL_law 1030 = .ok (.iadd, 1) := by decide +kernel
theorem dL_law_1031 : decode cL_law 1031 = .ok (.iaload, 1) := by decide +kernel
theorem dL_law_1032 : decode cL_law 1032 = .ok (.invokevirtual 123, 3) := by decide +kernel
theorem dL_law_1035 : decode cL_law 1035 = .ok (.istore 6, 2) := by decide +kernel
theorem dL_law_1037 : decode cL_law 1037 = .ok (.aload_n 2, 1) := by decide +kernel
theorem dL_law_1038 : decode cL_law 1038 = .ok (.invokevirtual 75, 3) := by decide +kernel
theorem dL_law_1041 : decode cL_law 1041 = .ok (.iload 5, 2) := by decide +kernel
theorem dL_law_1043 : decode cL_law 1043 = .ok (.if_icmp .eq 5, 3) := by decide +kernel
theorem dL_law_1046 : decode cL_law 1046 = .ok (.iconst 0, 1) := by decide +kernel
theorem dL_law_1047 : decode cL_law 1047 = .ok (.ireturn, 1) := by decide +kernel
theorem dL_law_1048 : decode cL_law 1048 = .ok (.iload 5, 2) := by decide +kernel
theorem dL_law_1050 : decode cL_law 1050 = .ok (.ifCond .ne 15, 3) := by decide +kernel
theorem dL_law_1053 : decode cL_law 1053 = .ok (.aload_n 3, 1) := by decide +kernel
theorem dL_law_1054 : decode cL_law 1054 = .ok (.iconst 0, 1) := by decide +kernel
theorem dL_law_1055 : decode cL_law 1055 = .ok (.laload, 1) := by decide +kernel
theorem dL_law_1056 : decode cL_law 1056 = .ok (.iload 6, 2) := by decide +kernel
theorem dL_law_1058 : decode cL_law 1058 = .ok (.i2l, 1) := by decide +kernel
theorem dL_law_1059 : decode cL_law 1059 = .ok (.lcmp, 1) := by decide +kernel
theorem dL_law_1060 : decode cL_law 1060 = .ok (.ifCond .eq 5, 3) := by decide +kernel
theorem dL_law_1063 : decode cL_law 1063 = .ok (.iconst 0, 1) := by decide +kernel
theorem dL_law_1064 : decode cL_law 1064 = .ok (.ireturn, 1) := by decide +kernel
theorem dL_law_1065 : decode cL_law 1065 = .ok (.goto 16, 3) := by decide +kernel
theorem dL_law_1068 : decode cL_law 1068 = .ok (.aload_n 1, 1) := by decide +kernel
theorem dL_law_1069 : decode cL_law 1069 = .ok (.invokevirtual 124, 3) := by decide +kernel
theorem dL_law_1072 : decode cL_law 1072 = .ok (.aload_n 2, 1) := by decide +kernel
theorem dL_law_1073 : decode cL_law 1073 = .ok (.invokevirtual 128, 3) := by decide +kernel
theorem dL_law_1076 : decode cL_law 1076 = .ok (.if_icmp .eq 5, 3) := by decide +kernel
theorem dL_law_1079 : decode cL_law 1079 = .ok (.iconst 0, 1) := by decide +kernel
theorem dL_law_1080 : decode cL_law 1080 = .ok (.ireturn, 1) := by decide +kernel
theorem dL_law_1081 : decode cL_law 1081 = .ok (.iinc 4 5, 3) := by decide +kernel
theorem dL_law_1084 : decode cL_law 1084 = .ok (.goto (-1061), 3) := by decide +kernel
theorem dL_law_1087 : decode cL_law 1087 = .ok (.iconst 1, 1) := by decide +kernel
theorem dL_law_1088 : decode cL_law 1088 = .ok (.ireturn, 1) := by decide +kernel
