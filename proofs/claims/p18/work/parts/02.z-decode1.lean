theorem dX0_init_0 : decode cX0_init 0 = .ok (.aload_n 0, 1) := by decide +kernel
theorem dX0_init_1 : decode cX0_init 1 = .ok (.invokespecial 3, 3) := by decide +kernel
theorem dX0_init_4 : decode cX0_init 4 = .ok (.aload_n 0, 1) := by decide +kernel
theorem dX0_init_5 : decode cX0_init 5 = .ok (.getstatic 9, 3) := by decide +kernel
theorem dX0_init_8 : decode cX0_init 8 = .ok (.invokevirtual 13, 3) := by decide +kernel
theorem dX0_init_11 : decode cX0_init 11 = .ok (.checkcast 14, 3) := by decide +kernel
theorem dX0_init_14 : decode cX0_init 14 = .ok (.putfield 18, 3) := by decide +kernel
theorem dX0_init_17 : decode cX0_init 17 = .ok (.return_, 1) := by decide +kernel
theorem dX0_hasValue_0 : decode cX0_hasValue 0 = .ok (.iload_n 0, 1) := by decide +kernel
theorem dX0_hasValue_1 : decode cX0_hasValue 1 = .ok (.bipush 6, 2) := by decide +kernel
theorem dX0_hasValue_3 : decode cX0_hasValue 3 = .ok (.if_icmp .ne 10, 3) := by decide +kernel
theorem dX0_hasValue_6 : decode cX0_hasValue 6 = .ok (.iload_n 1, 1) := by decide +kernel
theorem dX0_hasValue_7 : decode cX0_hasValue 7 = .ok (.iconst 0, 1) := by decide +kernel
theorem dX0_hasValue_8 : decode cX0_hasValue 8 = .ok (.iconst 4, 1) := by decide +kernel
theorem dX0_hasValue_9 : decode cX0_hasValue 9 = .ok (.invokestatic 23, 3) := by decide +kernel
theorem dX0_hasValue_12 : decode cX0_hasValue 12 = .ok (.ireturn, 1) := by decide +kernel
theorem dX0_hasValue_13 : decode cX0_hasValue 13 = .ok (.iload_n 0, 1) := by decide +kernel
theorem dX0_hasValue_14 : decode cX0_hasValue 14 = .ok (.iconst 0, 1) := by decide +kernel
theorem dX0_hasValue_15 : decode cX0_hasValue 15 = .ok (.iconst 5, 1) := by decide +kernel
theorem dX0_hasValue_16 : decode cX0_hasValue 16 = .ok (.invokestatic 23, 3) := by decide +kernel
theorem dX0_hasValue_19 : decode cX0_hasValue 19 = .ok (.ifCond .eq 16, 3) := by decide +kernel
theorem dX0_hasValue_22 : decode cX0_hasValue 22 = .ok (.iload_n 1, 1) := by decide +kernel
theorem dX0_hasValue_23 : decode cX0_hasValue 23 = .ok (.iconst 1, 1) := by decide +kernel
theorem dX0_hasValue_24 : decode cX0_hasValue 24 = .ok (.iconst 4, 1) := by decide +kernel
theorem dX0_hasValue_25 : decode cX0_hasValue 25 = .ok (.invokestatic 23, 3) := by decide +kernel
theorem dX0_hasValue_28 : decode cX0_hasValue 28 = .ok (.ifCond .eq 7, 3) := by decide +kernel
theorem dX0_hasValue_31 : decode cX0_hasValue 31 = .ok (.iconst 1, 1) := by decide +kernel
theorem dX0_hasValue_32 : decode cX0_hasValue 32 = .ok (.goto 4, 3) := by decide +kernel
theorem dX0_hasValue_35 : decode cX0_hasValue 35 = .ok (.iconst 0, 1) := by decide +kernel
theorem dX0_hasValue_36 : decode cX0_hasValue 36 = .ok (.ireturn, 1) := by decide +kernel
theorem dX0_valueOf_0 : decode cX0_valueOf 0 = .ok (.iload_n 1, 1) := by decide +kernel
theorem dX0_valueOf_1 : decode cX0_valueOf 1 = .ok (.iconst 5, 1) := by decide +kernel
theorem dX0_valueOf_2 : decode cX0_valueOf 2 = .ok (.imul, 1) := by decide +kernel
theorem dX0_valueOf_3 : decode cX0_valueOf 3 = .ok (.iload_n 2, 1) := by decide +kernel
theorem dX0_valueOf_4 : decode cX0_valueOf 4 = .ok (.iadd, 1) := by decide +kernel
theorem dX0_valueOf_5 : decode cX0_valueOf 5 = .ok (.istore_n 3, 1) := by decide +kernel
theorem dX0_valueOf_6 : decode cX0_valueOf 6 = .ok (.iload_n 3, 1) := by decide +kernel
theorem dX0_valueOf_7 : decode cX0_valueOf 7 = .ok (.ifCond .lt 21, 3) := by decide +kernel
theorem dX0_valueOf_10 : decode cX0_valueOf 10 = .ok (.iload_n 3, 1) := by decide +kernel
theorem dX0_valueOf_11 : decode cX0_valueOf 11 = .ok (.aload_n 0, 1) := by decide +kernel
theorem dX0_valueOf_12 : decode cX0_valueOf 12 = .ok (.getfield 18, 3) := by decide +kernel
theorem dX0_valueOf_15 : decode cX0_valueOf 15 = .ok (.arraylength, 1) := by decide +kernel
theorem dX0_valueOf_16 : decode cX0_valueOf 16 = .ok (.if_icmp .ge 12, 3) := by decide +kernel
theorem dX0_valueOf_19 : decode cX0_valueOf 19 = .ok (.aload_n 0, 1) := by decide +kernel
theorem dX0_valueOf_20 : decode cX0_valueOf 20 = .ok (.getfield 18, 3) := by decide +kernel
theorem dX0_valueOf_23 : decode cX0_valueOf 23 = .ok (.iload_n 3, 1) := by decide +kernel
theorem dX0_valueOf_24 : decode cX0_valueOf 24 = .ok (.iaload, 1) := by decide +kernel
theorem dX0_valueOf_25 : decode cX0_valueOf 25 = .ok (.goto 4, 3) := by decide +kernel
theorem dX0_valueOf_28 : decode cX0_valueOf 28 = .ok (.iconst 0, 1) := by decide +kernel
theorem dX0_valueOf_29 : decode cX0_valueOf 29 = .ok (.ireturn, 1) := by decide +kernel
theorem dX0_replace_0 : decode cX0_replace 0 = .ok (.iload_n 1, 1) := by decide +kernel
theorem dX0_replace_1 : decode cX0_replace 1 = .ok (.iconst 5, 1) := by decide +kernel
theorem dX0_replace_2 : decode cX0_replace 2 = .ok (.imul, 1) := by decide +kernel
theorem dX0_replace_3 : decode cX0_replace 3 = .ok (.iload_n 2, 1) := by decide +kernel
theorem dX0_replace_4 : decode cX0_replace 4 = .ok (.iadd, 1) := by decide +kernel
theorem dX0_replace_5 : decode cX0_replace 5 = .ok (.istore 4, 2) := by decide +kernel
theorem dX0_replace_7 : decode cX0_replace 7 = .ok (.iload 4, 2) := by decide +kernel
theorem dX0_replace_9 : decode cX0_replace 9 = .ok (.ifCond .lt 13, 3) := by decide +kernel
theorem dX0_replace_12 : decode cX0_replace 12 = .ok (.iload 4, 2) := by decide +kernel
theorem dX0_replace_14 : decode cX0_replace 14 = .ok (.aload_n 0, 1) := by decide +kernel
theorem dX0_replace_15 : decode cX0_replace 15 = .ok (.getfield 18, 3) := by decide +kernel
theorem dX0_replace_18 : decode cX0_replace 18 = .ok (.arraylength, 1) := by decide +kernel
theorem dX0_replace_19 : decode cX0_replace 19 = .ok (.if_icmp .lt 5, 3) := by decide +kernel
theorem dX0_replace_22 : decode cX0_replace 22 = .ok (.iconst 0, 1) := by decide +kernel
theorem dX0_replace_23 : decode cX0_replace 23 = .ok (.ireturn, 1) := by decide +kernel
theorem dX0_replace_24 : decode cX0_replace 24 = .ok (.aload_n 0, 1) := by decide +kernel
theorem dX0_replace_25 : decode cX0_replace 25 = .ok (.getfield 18, 3) := by decide +kernel
theorem dX0_replace_28 : decode cX0_replace 28 = .ok (.iload 4, 2) := by decide +kernel
theorem dX0_replace_30 : decode cX0_replace 30 = .ok (.iaload, 1) := by decide +kernel
theorem dX0_replace_31 : decode cX0_replace 31 = .ok (.istore 5, 2) := by decide +kernel
theorem dX0_replace_33 : decode cX0_replace 33 = .ok (.aload_n 0, 1) := by decide +kernel
theorem dX0_replace_34 : decode cX0_replace 34 = .ok (.getfield 18, 3) := by decide +kernel
theorem dX0_replace_37 : decode cX0_replace 37 = .ok (.iload 4, 2) := by decide +kernel
theorem dX0_replace_39 : decode cX0_replace 39 = .ok (.iload_n 3, 1) := by decide +kernel
theorem dX0_replace_40 : decode cX0_replace 40 = .ok (.iastore, 1) := by decide +kernel
theorem dX0_replace_41 : decode cX0_replace 41 = .ok (.iload 5, 2) := by decide +kernel
theorem dX0_replace_43 : decode cX0_replace 43 = .ok (.ireturn, 1) := by decide +kernel
theorem dX1_init_0 : decode cX1_init 0 = .ok (.aload_n 0, 1) := by decide +kernel
theorem dX1_init_1 : decode cX1_init 1 = .ok (.invokespecial 1, 3) := by decide +kernel
theorem dX1_init_4 : decode cX1_init 4 = .ok (.aload_n 0, 1) := by decide +kernel
theorem dX1_init_5 : decode cX1_init 5 = .ok (.new 7, 3) := by decide +kernel
theorem dX1_init_8 : decode cX1_init 8 = .ok (.dup, 1) := by decide +kernel
theorem dX1_init_9 : decode cX1_init 9 = .ok (.invokespecial 9, 3) := by decide +kernel
theorem dX1_init_12 : decode cX1_init 12 = .ok (.putfield 10, 3) := by decide +kernel
theorem dX1_init_15 : decode cX1_init 15 = .ok (.aload_n 0, 1) := by decide +kernel
theorem dX1_init_16 : decode cX1_init 16 = .ok (.new 7, 3) := by decide +kernel
theorem dX1_init_19 : decode cX1_init 19 = .ok (.dup, 1) := by decide +kernel
theorem dX1_init_20 : decode cX1_init 20 = .ok (.invokespecial 9, 3) := by decide +kernel
theorem dX1_init_23 : decode cX1_init 23 = .ok (.putfield 16, 3) := by decide +kernel
theorem dX1_init_26 : decode cX1_init 26 = .ok (.aload_n 0, 1) := by decide +kernel
theorem dX1_init_27 : decode cX1_init 27 = .ok (.iload_n 1, 1) := by decide +kernel
theorem dX1_init_28 : decode cX1_init 28 = .ok (.putfield 19, 3) := by decide +kernel
theorem dX1_init_31 : decode cX1_init 31 = .ok (.aload_n 0, 1) := by decide +kernel
theorem dX1_init_32 : decode cX1_init 32 = .ok (.iload_n 2, 1) := by decide +kernel
theorem dX1_init_33 : decode cX1_init 33 = .ok (.putfield 23, 3) := by decide +kernel
theorem dX1_init_36 : decode cX1_init 36 = .ok (.aload_n 0, 1) := by decide +kernel
theorem dX1_init_37 : decode cX1_init 37 = .ok (.iload_n 3, 1) := by decide +kernel
theorem dX1_init_38 : decode cX1_init 38 = .ok (.putfield 26, 3) := by decide +kernel
theorem dX1_init_41 : decode cX1_init 41 = .ok (.aload_n 0, 1) := by decide +kernel
theorem dX1_init_42 : decode cX1_init 42 = .ok (.iload 4, 2) := by decide +kernel
theorem dX1_init_44 : decode cX1_init 44 = .ok (.putfield 30, 3) := by decide +kernel
theorem dX1_init_47 : decode cX1_init 47 = .ok (.aload_n 0, 1) := by decide +kernel
theorem dX1_init_48 : decode cX1_init 48 = .ok (.iload 5, 2) := by decide +kernel
theorem dX1_init_50 : decode cX1_init 50 = .ok (.putfield 33, 3) := by decide +kernel
theorem dX1_init_53 : decode cX1_init 53 = .ok (.aload_n 0, 1) := by decide +kernel
theorem dX1_init_54 : decode cX1_init 54 = .ok (.iload 6, 2) := by decide +kernel
theorem dX1_init_56 : decode cX1_init 56 = .ok (.putfield 36, 3) := by decide +kernel
theorem dX1_init_59 : decode cX1_init 59 = .ok (.return_, 1) := by decide +kernel
theorem dX1_quarters_0 : decode cX1_quarters 0 = .ok (.aload_n 0, 1) := by decide +kernel
theorem dX1_quarters_1 : decode cX1_quarters 1 = .ok (.getfield 10, 3) := by decide +kernel
theorem dX1_quarters_4 : decode cX1_quarters 4 = .ok (.invokevirtual 39, 3) := by decide +kernel
theorem dX1_quarters_7 : decode cX1_quarters 7 = .ok (.ireturn, 1) := by decide +kernel
theorem dX1_baseBy_0 : decode cX1_baseBy 0 = .ok (.aload_n 0, 1) := by decide +kernel
theorem dX1_baseBy_1 : decode cX1_baseBy 1 = .ok (.getfield 36, 3) := by decide +kernel
theorem dX1_baseBy_4 : decode cX1_baseBy 4 = .ok (.ifCond .ne 5, 3) := by decide +kernel
theorem dX1_baseBy_7 : decode cX1_baseBy 7 = .ok (.iconst 0, 1) := by decide +kernel
theorem dX1_baseBy_8 : decode cX1_baseBy 8 = .ok (.ireturn, 1) := by decide +kernel
theorem dX1_baseBy_9 : decode cX1_baseBy 9 = .ok (.aload_n 0, 1) := by decide +kernel
theorem dX1_baseBy_10 : decode cX1_baseBy 10 = .ok (.getfield 10, 3) := by decide +kernel
theorem dX1_baseBy_13 : decode cX1_baseBy 13 = .ok (.invokevirtual 39, 3) := by decide +kernel
theorem dX1_baseBy_16 : decode cX1_baseBy 16 = .ok (.istore_n 2, 1) := by decide +kernel
theorem dX1_baseBy_17 : decode cX1_baseBy 17 = .ok (.aload_n 1, 1) := by decide +kernel
theorem dX1_baseBy_18 : decode cX1_baseBy 18 = .ok (.aload_n 0, 1) := by decide +kernel
theorem dX1_baseBy_19 : decode cX1_baseBy 19 = .ok (.getfield 19, 3) := by decide +kernel
theorem dX1_baseBy_22 : decode cX1_baseBy 22 = .ok (.iload_n 2, 1) := by decide +kernel
theorem dX1_baseBy_23 : decode cX1_baseBy 23 = .ok (.iconst 3, 1) := by decide +kernel
theorem dX1_baseBy_24 : decode cX1_baseBy 24 = .ok (.if_icmp .lt 12, 3) := by decide +kernel
theorem dX1_baseBy_27 : decode cX1_baseBy 27 = .ok (.aload_n 0, 1) := by decide +kernel
theorem dX1_baseBy_28 : decode cX1_baseBy 28 = .ok (.getfield 23, 3) := by decide +kernel
theorem dX1_baseBy_31 : decode cX1_baseBy 31 = .ok (.iconst 1, 1) := by decide +kernel
theorem dX1_baseBy_32 : decode cX1_baseBy 32 = .ok (.isub, 1) := by decide +kernel
theorem dX1_baseBy_33 : decode cX1_baseBy 33 = .ok (.goto 7, 3) := by decide +kernel
theorem dX1_baseBy_36 : decode cX1_baseBy 36 = .ok (.aload_n 0, 1) := by decide +kernel
theorem dX1_baseBy_37 : decode cX1_baseBy 37 = .ok (.getfield 23, 3) := by decide +kernel
theorem dX1_baseBy_40 : decode cX1_baseBy 40 = .ok (.invokevirtual 43, 3) := by decide +kernel
theorem dX1_baseBy_43 : decode cX1_baseBy 43 = .ok (.istore_n 3, 1) := by decide +kernel
theorem dX1_baseBy_44 : decode cX1_baseBy 44 = .ok (.iload_n 2, 1) := by decide +kernel
theorem dX1_baseBy_45 : decode cX1_baseBy 45 = .ok (.iconst 2, 1) := by decide +kernel
theorem dX1_baseBy_46 : decode cX1_baseBy 46 = .ok (.if_icmp .ne 13, 3) := by decide +kernel
theorem dX1_baseBy_49 : decode cX1_baseBy 49 = .ok (.iload_n 3, 1) := by decide +kernel
theorem dX1_baseBy_50 : decode cX1_baseBy 50 = .ok (.i2d, 1) := by decide +kernel
theorem dX1_baseBy_51 : decode cX1_baseBy 51 = .ok (.ldc2_w 49, 3) := by decide +kernel
theorem dX1_baseBy_54 : decode cX1_baseBy 54 = .ok (.dmul, 1) := by decide +kernel
theorem dX1_baseBy_55 : decode cX1_baseBy 55 = .ok (.invokestatic 51, 3) := by decide +kernel
theorem dX1_baseBy_58 : decode cX1_baseBy 58 = .ok (.istore_n 3, 1) := by decide +kernel
theorem dX1_baseBy_59 : decode cX1_baseBy 59 = .ok (.aload_n 0, 1) := by decide +kernel
theorem dX1_baseBy_60 : decode cX1_baseBy 60 = .ok (.getfield 26, 3) := by decide +kernel
theorem dX1_baseBy_63 : decode cX1_baseBy 63 = .ok (.ifCond .eq 13, 3) := by decide +kernel
theorem dX1_baseBy_66 : decode cX1_baseBy 66 = .ok (.iload_n 3, 1) := by decide +kernel
theorem dX1_baseBy_67 : decode cX1_baseBy 67 = .ok (.i2d, 1) := by decide +kernel
theorem dX1_baseBy_68 : decode cX1_baseBy 68 = .ok (.ldc2_w 49, 3) := by decide +kernel
theorem dX1_baseBy_71 : decode cX1_baseBy 71 = .ok (.dmul, 1) := by decide +kernel
theorem dX1_baseBy_72 : decode cX1_baseBy 72 = .ok (.invokestatic 51, 3) := by decide +kernel
theorem dX1_baseBy_75 : decode cX1_baseBy 75 = .ok (.istore_n 3, 1) := by decide +kernel
theorem dX1_baseBy_76 : decode cX1_baseBy 76 = .ok (.aload_n 0, 1) := by decide +kernel
theorem dX1_baseBy_77 : decode cX1_baseBy 77 = .ok (.getfield 30, 3) := by decide +kernel
theorem dX1_baseBy_80 : decode cX1_baseBy 80 = .ok (.ifCond .eq 13, 3) := by decide +kernel
theorem dX1_baseBy_83 : decode cX1_baseBy 83 = .ok (.iload_n 3, 1) := by decide +kernel
theorem dX1_baseBy_84 : decode cX1_baseBy 84 = .ok (.i2d, 1) := by decide +kernel
theorem dX1_baseBy_85 : decode cX1_baseBy 85 = .ok (.ldc2_w 57, 3) := by decide +kernel
theorem dX1_baseBy_88 : decode cX1_baseBy 88 = .ok (.dmul, 1) := by decide +kernel
theorem dX1_baseBy_89 : decode cX1_baseBy 89 = .ok (.invokestatic 51, 3) := by decide +kernel
theorem dX1_baseBy_92 : decode cX1_baseBy 92 = .ok (.istore_n 3, 1) := by decide +kernel
theorem dX1_baseBy_93 : decode cX1_baseBy 93 = .ok (.iload_n 3, 1) := by decide +kernel
theorem dX1_baseBy_94 : decode cX1_baseBy 94 = .ok (.ireturn, 1) := by decide +kernel
theorem dX1_scoreBy_0 : decode cX1_scoreBy 0 = .ok (.aload_n 0, 1) := by decide +kernel
theorem dX1_scoreBy_1 : decode cX1_scoreBy 1 = .ok (.aload_n 1, 1) := by decide +kernel
theorem dX1_scoreBy_2 : decode cX1_scoreBy 2 = .ok (.invokevirtual 59, 3) := by decide +kernel
theorem dX1_scoreBy_5 : decode cX1_scoreBy 5 = .ok (.istore_n 2, 1) := by decide +kernel
theorem dX1_scoreBy_6 : decode cX1_scoreBy 6 = .ok (.iload_n 2, 1) := by decide +kernel
theorem dX1_scoreBy_7 : decode cX1_scoreBy 7 = .ok (.iload_n 2, 1) := by decide +kernel
theorem dX1_scoreBy_8 : decode cX1_scoreBy 8 = .ok (.i2d, 1) := by decide +kernel
theorem dX1_scoreBy_9 : decode cX1_scoreBy 9 = .ok (.aload_n 0, 1) := by decide +kernel
theorem dX1_scoreBy_10 : decode cX1_scoreBy 10 = .ok (.getfield 16, 3) := by decide +kernel
theorem dX1_scoreBy_13 : decode cX1_scoreBy 13 = .ok (.invokevirtual 63, 3) := by decide +kernel
theorem dX1_scoreBy_16 : decode cX1_scoreBy 16 = .ok (.dmul, 1) := by decide +kernel
theorem dX1_scoreBy_17 : decode cX1_scoreBy 17 = .ok (.ldc2_w 67, 3) := by decide +kernel
theorem dX1_scoreBy_20 : decode cX1_scoreBy 20 = .ok (.ddiv, 1) := by decide +kernel
theorem dX1_scoreBy_21 : decode cX1_scoreBy 21 = .ok (.invokestatic 51, 3) := by decide +kernel
theorem dX1_scoreBy_24 : decode cX1_scoreBy 24 = .ok (.iadd, 1) := by decide +kernel
theorem dX1_scoreBy_25 : decode cX1_scoreBy 25 = .ok (.ireturn, 1) := by decide +kernel
theorem dX2_init_0 : decode cX2_init 0 = .ok (.aload_n 0, 1) := by decide +kernel
theorem dX2_init_1 : decode cX2_init 1 = .ok (.invokespecial 3, 3) := by decide +kernel
theorem dX2_init_4 : decode cX2_init 4 = .ok (.aload_n 0, 1) := by decide +kernel
theorem dX2_init_5 : decode cX2_init 5 = .ok (.bipush 12, 2) := by decide +kernel
theorem dX2_init_7 : decode cX2_init 7 = .ok (.anewarray 9, 3) := by decide +kernel
theorem dX2_init_10 : decode cX2_init 10 = .ok (.putfield 11, 3) := by decide +kernel
theorem dX2_init_13 : decode cX2_init 13 = .ok (.aload_n 0, 1) := by decide +kernel
theorem dX2_init_14 : decode cX2_init 14 = .ok (.iconst 3, 1) := by decide +kernel
theorem dX2_init_15 : decode cX2_init 15 = .ok (.anewarray 17, 3) := by decide +kernel
theorem dX2_init_18 : decode cX2_init 18 = .ok (.putfield 19, 3) := by decide +kernel
theorem dX2_init_21 : decode cX2_init 21 = .ok (.aload_n 0, 1) := by decide +kernel
theorem dX2_init_22 : decode cX2_init 22 = .ok (.iconst 0, 1) := by decide +kernel
theorem dX2_init_23 : decode cX2_init 23 = .ok (.putfield 23, 3) := by decide +kernel
theorem dX2_init_26 : decode cX2_init 26 = .ok (.aload_n 0, 1) := by decide +kernel
theorem dX2_init_27 : decode cX2_init 27 = .ok (.iconst 0, 1) := by decide +kernel
theorem dX2_init_28 : decode cX2_init 28 = .ok (.putfield 27, 3) := by decide +kernel
theorem dX2_init_31 : decode cX2_init 31 = .ok (.aload_n 0, 1) := by decide +kernel
theorem dX2_init_32 : decode cX2_init 32 = .ok (.iconst 0, 1) := by decide +kernel
theorem dX2_init_33 : decode cX2_init 33 = .ok (.putfield 30, 3) := by decide +kernel
theorem dX2_init_36 : decode cX2_init 36 = .ok (.aload_n 0, 1) := by decide +kernel
theorem dX2_init_37 : decode cX2_init 37 = .ok (.iconst 1, 1) := by decide +kernel
theorem dX2_init_38 : decode cX2_init 38 = .ok (.putfield 34, 3) := by decide +kernel
theorem dX2_init_41 : decode cX2_init 41 = .ok (.aload_n 0, 1) := by decide +kernel
theorem dX2_init_42 : decode cX2_init 42 = .ok (.iconst 0, 1) := by decide +kernel
theorem dX2_init_43 : decode cX2_init 43 = .ok (.putfield 37, 3) := by decide +kernel
theorem dX2_init_46 : decode cX2_init 46 = .ok (.aload_n 0, 1) := by decide +kernel
theorem dX2_init_47 : decode cX2_init 47 = .ok (.iconst 0, 1) := by decide +kernel
theorem dX2_init_48 : decode cX2_init 48 = .ok (.putfield 40, 3) := by decide +kernel
theorem dX2_init_51 : decode cX2_init 51 = .ok (.aload_n 0, 1) := by decide +kernel
theorem dX2_init_52 : decode cX2_init 52 = .ok (.iconst 0, 1) := by decide +kernel
theorem dX2_init_53 : decode cX2_init 53 = .ok (.putfield 43, 3) := by decide +kernel
theorem dX2_init_56 : decode cX2_init 56 = .ok (.aload_n 0, 1) := by decide +kernel
theorem dX2_init_57 : decode cX2_init 57 = .ok (.iconst 0, 1) := by decide +kernel
theorem dX2_init_58 : decode cX2_init 58 = .ok (.putfield 46, 3) := by decide +kernel
theorem dX2_init_61 : decode cX2_init 61 = .ok (.aload_n 0, 1) := by decide +kernel
theorem dX2_init_62 : decode cX2_init 62 = .ok (.iconst 0, 1) := by decide +kernel
theorem dX2_init_63 : decode cX2_init 63 = .ok (.putfield 49, 3) := by decide +kernel
theorem dX2_init_66 : decode cX2_init 66 = .ok (.aload_n 0, 1) := by decide +kernel
theorem dX2_init_67 : decode cX2_init 67 = .ok (.iconst 0, 1) := by decide +kernel
theorem dX2_init_68 : decode cX2_init 68 = .ok (.putfield 52, 3) := by decide +kernel
theorem dX2_init_71 : decode cX2_init 71 = .ok (.iconst 0, 1) := by decide +kernel
theorem dX2_init_72 : decode cX2_init 72 = .ok (.istore_n 1, 1) := by decide +kernel
theorem dX2_init_73 : decode cX2_init 73 = .ok (.iload_n 1, 1) := by decide +kernel
theorem dX2_init_74 : decode cX2_init 74 = .ok (.aload_n 0, 1) := by decide +kernel
theorem dX2_init_75 : decode cX2_init 75 = .ok (.getfield 19, 3) := by decide +kernel
theorem dX2_init_78 : decode cX2_init 78 = .ok (.arraylength, 1) := by decide +kernel
theorem dX2_init_79 : decode cX2_init 79 = .ok (.if_icmp .ge 22, 3) := by decide +kernel
theorem dX2_init_82 : decode cX2_init 82 = .ok (.aload_n 0, 1) := by decide +kernel
theorem dX2_init_83 : decode cX2_init 83 = .ok (.getfield 19, 3) := by decide +kernel
theorem dX2_init_86 : decode cX2_init 86 = .ok (.iload_n 1, 1) := by decide +kernel
theorem dX2_init_87 : decode cX2_init 87 = .ok (.new 17, 3) := by decide +kernel
theorem dX2_init_90 : decode cX2_init 90 = .ok (.dup, 1) := by decide +kernel
theorem dX2_init_91 : decode cX2_init 91 = .ok (.invokespecial 55, 3) := by decide +kernel
theorem dX2_init_94 : decode cX2_init 94 = .ok (.aastore, 1) := by decide +kernel
theorem dX2_init_95 : decode cX2_init 95 = .ok (.iinc 1 1, 3) := by decide +kernel
theorem dX2_init_98 : decode cX2_init 98 = .ok (.goto (-25), 3) := by decide +kernel
theorem dX2_init_101 : decode cX2_init 101 = .ok (.return_, 1) := by decide +kernel
theorem dX2_elementAt_0 : decode cX2_elementAt 0 = .ok (.iload_n 1, 1) := by decide +kernel
theorem dX2_elementAt_1 : decode cX2_elementAt 1 = .ok (.ifCond .lt 21, 3) := by decide +kernel
theorem dX2_elementAt_4 : decode cX2_elementAt 4 = .ok (.iload_n 1, 1) := by decide +kernel
theorem dX2_elementAt_5 : decode cX2_elementAt 5 = .ok (.aload_n 0, 1) := by decide +kernel
theorem dX2_elementAt_6 : decode cX2_elementAt 6 = .ok (.getfield 11, 3) := by decide +kernel
theorem dX2_elementAt_9 : decode cX2_elementAt 9 = .ok (.arraylength, 1) := by decide +kernel
theorem dX2_elementAt_10 : decode cX2_elementAt 10 = .ok (.if_icmp .ge 12, 3) := by decide +kernel
theorem dX2_elementAt_13 : decode cX2_elementAt 13 = .ok (.aload_n 0, 1) := by decide +kernel
theorem dX2_elementAt_14 : decode cX2_elementAt 14 = .ok (.getfield 11, 3) := by decide +kernel
theorem dX2_elementAt_17 : decode cX2_elementAt 17 = .ok (.iload_n 1, 1) := by decide +kernel
theorem dX2_elementAt_18 : decode cX2_elementAt 18 = .ok (.aaload, 1) := by decide +kernel
theorem dX2_elementAt_19 : decode cX2_elementAt 19 = .ok (.goto 4, 3) := by decide +kernel
theorem dX2_elementAt_22 : decode cX2_elementAt 22 = .ok (.aconst_null, 1) := by decide +kernel
theorem dX2_elementAt_23 : decode cX2_elementAt 23 = .ok (.areturn, 1) := by decide +kernel
theorem dX2_componentAt_0 : decode cX2_componentAt 0 = .ok (.iload_n 1, 1) := by decide +kernel
theorem dX2_componentAt_1 : decode cX2_componentAt 1 = .ok (.ifCond .lt 21, 3) := by decide +kernel
theorem dX2_componentAt_4 : decode cX2_componentAt 4 = .ok (.iload_n 1, 1) := by decide +kernel
theorem dX2_componentAt_5 : decode cX2_componentAt 5 = .ok (.aload_n 0, 1) := by decide +kernel
theorem dX2_componentAt_6 : decode cX2_componentAt 6 = .ok (.getfield 19, 3) := by decide +kernel
theorem dX2_componentAt_9 : decode cX2_componentAt 9 = .ok (.arraylength, 1) := by decide +kernel
theorem dX2_componentAt_10 : decode cX2_componentAt 10 = .ok (.if_icmp .ge 12, 3) := by decide +kernel
theorem dX2_componentAt_13 : decode cX2_componentAt 13 = .ok (.aload_n 0, 1) := by decide +kernel
theorem dX2_componentAt_14 : decode cX2_componentAt 14 = .ok (.getfield 19, 3) := by decide +kernel
theorem dX2_componentAt_17 : decode cX2_componentAt 17 = .ok (.iload_n 1, 1) := by decide +kernel
theorem dX2_componentAt_18 : decode cX2_componentAt 18 = .ok (.aaload, 1) := by decide +kernel
theorem dX2_componentAt_19 : decode cX2_componentAt 19 = .ok (.goto 4, 3) := by decide +kernel
theorem dX2_componentAt_22 : decode cX2_componentAt 22 = .ok (.aconst_null, 1) := by decide +kernel
theorem dX2_componentAt_23 : decode cX2_componentAt 23 = .ok (.areturn, 1) := by decide +kernel
theorem dX2_hasTime_0 : decode cX2_hasTime 0 = .ok (.aload_n 0, 1) := by decide +kernel
theorem dX2_hasTime_1 : decode cX2_hasTime 1 = .ok (.getfield 40, 3) := by decide +kernel
theorem dX2_hasTime_4 : decode cX2_hasTime 4 = .ok (.sipush 240, 3) := by decide +kernel
theorem dX2_hasTime_7 : decode cX2_hasTime 7 = .ok (.if_icmp .ge 7, 3) := by decide +kernel
theorem dX2_hasTime_10 : decode cX2_hasTime 10 = .ok (.iconst 1, 1) := by decide +kernel
theorem dX2_hasTime_11 : decode cX2_hasTime 11 = .ok (.goto 4, 3) := by decide +kernel
theorem dX2_hasTime_14 : decode cX2_hasTime 14 = .ok (.iconst 0, 1) := by decide +kernel
theorem dX2_hasTime_15 : decode cX2_hasTime 15 = .ok (.ireturn, 1) := by decide +kernel
theorem dX2_hasRoom_0 : decode cX2_hasRoom 0 = .ok (.aload_n 0, 1) := by decide +kernel
theorem dX2_hasRoom_1 : decode cX2_hasRoom 1 = .ok (.invokevirtual 56, 3) := by decide +kernel
theorem dX2_hasRoom_4 : decode cX2_hasRoom 4 = .ok (.ifCond .eq 19, 3) := by decide +kernel
theorem dX2_hasRoom_7 : decode cX2_hasRoom 7 = .ok (.aload_n 0, 1) := by decide +kernel
theorem dX2_hasRoom_8 : decode cX2_hasRoom 8 = .ok (.getfield 43, 3) := by decide +kernel
theorem dX2_hasRoom_11 : decode cX2_hasRoom 11 = .ok (.aload_n 0, 1) := by decide +kernel
theorem dX2_hasRoom_12 : decode cX2_hasRoom 12 = .ok (.getfield 11, 3) := by decide +kernel
theorem dX2_hasRoom_15 : decode cX2_hasRoom 15 = .ok (.arraylength, 1) := by decide +kernel
theorem dX2_hasRoom_16 : decode cX2_hasRoom 16 = .ok (.if_icmp .ge 7, 3) := by decide +kernel
theorem dX2_hasRoom_19 : decode cX2_hasRoom 19 = .ok (.iconst 1, 1) := by decide +kernel
theorem dX2_hasRoom_20 : decode cX2_hasRoom 20 = .ok (.goto 4, 3) := by decide +kernel
theorem dX2_hasRoom_23 : decode cX2_hasRoom 23 = .ok (.iconst 0, 1) := by decide +kernel
theorem dX2_hasRoom_24 : decode cX2_hasRoom 24 = .ok (.ireturn, 1) := by decide +kernel
theorem dX2_skateTurn_0 : decode cX2_skateTurn 0 = .ok (.iload_n 1, 1) := by decide +kernel
theorem dX2_skateTurn_1 : decode cX2_skateTurn 1 = .ok (.iconst 2, 1) := by decide +kernel
theorem dX2_skateTurn_2 : decode cX2_skateTurn 2 = .ok (.if_icmp .eq 13, 3) := by decide +kernel
theorem dX2_skateTurn_5 : decode cX2_skateTurn 5 = .ok (.iload_n 1, 1) := by decide +kernel
theorem dX2_skateTurn_6 : decode cX2_skateTurn 6 = .ok (.iconst 3, 1) := by decide +kernel
theorem dX2_skateTurn_7 : decode cX2_skateTurn 7 = .ok (.if_icmp .eq 8, 3) := by decide +kernel
theorem dX2_skateTurn_10 : decode cX2_skateTurn 10 = .ok (.iload_n 1, 1) := by decide +kernel
theorem dX2_skateTurn_11 : decode cX2_skateTurn 11 = .ok (.iconst 5, 1) := by decide +kernel
theorem dX2_skateTurn_12 : decode cX2_skateTurn 12 = .ok (.if_icmp .ne 13, 3) := by decide +kernel
theorem dX2_skateTurn_15 : decode cX2_skateTurn 15 = .ok (.aload_n 0, 1) := by decide +kernel
theorem dX2_skateTurn_16 : decode cX2_skateTurn 16 = .ok (.iconst 1, 1) := by decide +kernel
theorem dX2_skateTurn_17 : decode cX2_skateTurn 17 = .ok (.aload_n 0, 1) := by decide +kernel
theorem dX2_skateTurn_18 : decode cX2_skateTurn 18 = .ok (.getfield 30, 3) := by decide +kernel
theorem dX2_skateTurn_21 : decode cX2_skateTurn 21 = .ok (.isub, 1) := by decide +kernel
theorem dX2_skateTurn_22 : decode cX2_skateTurn 22 = .ok (.putfield 30, 3) := by decide +kernel
theorem dX2_skateTurn_25 : decode cX2_skateTurn 25 = .ok (.iload_n 1, 1) := by decide +kernel
theorem dX2_skateTurn_26 : decode cX2_skateTurn 26 = .ok (.ifCond .eq 13, 3) := by decide +kernel
theorem dX2_skateTurn_29 : decode cX2_skateTurn 29 = .ok (.iload_n 1, 1) := by decide +kernel
theorem dX2_skateTurn_30 : decode cX2_skateTurn 30 = .ok (.iconst 3, 1) := by decide +kernel
theorem dX2_skateTurn_31 : decode cX2_skateTurn 31 = .ok (.if_icmp .eq 8, 3) := by decide +kernel
theorem dX2_skateTurn_34 : decode cX2_skateTurn 34 = .ok (.iload_n 1, 1) := by decide +kernel
theorem dX2_skateTurn_35 : decode cX2_skateTurn 35 = .ok (.iconst 4, 1) := by decide +kernel
theorem dX2_skateTurn_36 : decode cX2_skateTurn 36 = .ok (.if_icmp .ne 13, 3) := by decide +kernel
theorem dX2_skateTurn_39 : decode cX2_skateTurn 39 = .ok (.aload_n 0, 1) := by decide +kernel
theorem dX2_skateTurn_40 : decode cX2_skateTurn 40 = .ok (.iconst 1, 1) := by decide +kernel
theorem dX2_skateTurn_41 : decode cX2_skateTurn 41 = .ok (.aload_n 0, 1) := by decide +kernel
theorem dX2_skateTurn_42 : decode cX2_skateTurn 42 = .ok (.getfield 34, 3) := by decide +kernel
theorem dX2_skateTurn_45 : decode cX2_skateTurn 45 = .ok (.isub, 1) := by decide +kernel
theorem dX2_skateTurn_46 : decode cX2_skateTurn 46 = .ok (.putfield 34, 3) := by decide +kernel
theorem dX2_skateTurn_49 : decode cX2_skateTurn 49 = .ok (.iload_n 1, 1) := by decide +kernel
theorem dX2_skateTurn_50 : decode cX2_skateTurn 50 = .ok (.ifCond .eq 18, 3) := by decide +kernel
theorem dX2_skateTurn_53 : decode cX2_skateTurn 53 = .ok (.iload_n 1, 1) := by decide +kernel
theorem dX2_skateTurn_54 : decode cX2_skateTurn 54 = .ok (.iconst 1, 1) := by decide +kernel
theorem dX2_skateTurn_55 : decode cX2_skateTurn 55 = .ok (.if_icmp .eq 13, 3) := by decide +kernel
theorem dX2_skateTurn_58 : decode cX2_skateTurn 58 = .ok (.iload_n 1, 1) := by decide +kernel
theorem dX2_skateTurn_59 : decode cX2_skateTurn 59 = .ok (.iconst 2, 1) := by decide +kernel
theorem dX2_skateTurn_60 : decode cX2_skateTurn 60 = .ok (.if_icmp .eq 8, 3) := by decide +kernel
theorem dX2_skateTurn_63 : decode cX2_skateTurn 63 = .ok (.iload_n 1, 1) := by decide +kernel
theorem dX2_skateTurn_64 : decode cX2_skateTurn 64 = .ok (.iconst 3, 1) := by decide +kernel
theorem dX2_skateTurn_65 : decode cX2_skateTurn 65 = .ok (.if_icmp .ne 13, 3) := by decide +kernel
theorem dX2_skateTurn_68 : decode cX2_skateTurn 68 = .ok (.aload_n 0, 1) := by decide +kernel
theorem dX2_skateTurn_69 : decode cX2_skateTurn 69 = .ok (.iconst 1, 1) := by decide +kernel
theorem dX2_skateTurn_70 : decode cX2_skateTurn 70 = .ok (.aload_n 0, 1) := by decide +kernel
theorem dX2_skateTurn_71 : decode cX2_skateTurn 71 = .ok (.getfield 37, 3) := by decide +kernel
theorem dX2_skateTurn_74 : decode cX2_skateTurn 74 = .ok (.isub, 1) := by decide +kernel
theorem dX2_skateTurn_75 : decode cX2_skateTurn 75 = .ok (.putfield 37, 3) := by decide +kernel
theorem dX2_skateTurn_78 : decode cX2_skateTurn 78 = .ok (.aload_n 0, 1) := by decide +kernel
theorem dX2_skateTurn_79 : decode cX2_skateTurn 79 = .ok (.dup, 1) := by decide +kernel
theorem dX2_skateTurn_80 : decode cX2_skateTurn 80 = .ok (.getfield 40, 3) := by decide +kernel
theorem dX2_skateTurn_83 : decode cX2_skateTurn 83 = .ok (.iconst 2, 1) := by decide +kernel
theorem dX2_skateTurn_84 : decode cX2_skateTurn 84 = .ok (.iadd, 1) := by decide +kernel
theorem dX2_skateTurn_85 : decode cX2_skateTurn 85 = .ok (.putfield 40, 3) := by decide +kernel
theorem dX2_skateTurn_88 : decode cX2_skateTurn 88 = .ok (.iconst 4, 1) := by decide +kernel
theorem dX2_skateTurn_89 : decode cX2_skateTurn 89 = .ok (.aload_n 0, 1) := by decide +kernel
theorem dX2_skateTurn_90 : decode cX2_skateTurn 90 = .ok (.getfield 30, 3) := by decide +kernel
theorem dX2_skateTurn_93 : decode cX2_skateTurn 93 = .ok (.imul, 1) := by decide +kernel
theorem dX2_skateTurn_94 : decode cX2_skateTurn 94 = .ok (.iconst 2, 1) := by decide +kernel
theorem dX2_skateTurn_95 : decode cX2_skateTurn 95 = .ok (.aload_n 0, 1) := by decide +kernel
theorem dX2_skateTurn_96 : decode cX2_skateTurn 96 = .ok (.getfield 34, 3) := by decide +kernel
theorem dX2_skateTurn_99 : decode cX2_skateTurn 99 = .ok (.imul, 1) := by decide +kernel
theorem dX2_skateTurn_100 : decode cX2_skateTurn 100 = .ok (.iadd, 1) := by decide +kernel
theorem dX2_skateTurn_101 : decode cX2_skateTurn 101 = .ok (.aload_n 0, 1) := by decide +kernel
theorem dX2_skateTurn_102 : decode cX2_skateTurn 102 = .ok (.getfield 37, 3) := by decide +kernel
theorem dX2_skateTurn_105 : decode cX2_skateTurn 105 = .ok (.iadd, 1) := by decide +kernel
theorem dX2_skateTurn_106 : decode cX2_skateTurn 106 = .ok (.ireturn, 1) := by decide +kernel
theorem dX2_canTakeOff_0 : decode cX2_canTakeOff 0 = .ok (.iload_n 1, 1) := by decide +kernel
theorem dX2_canTakeOff_1 : decode cX2_canTakeOff 1 = .ok (.ifCond .eq 8, 3) := by decide +kernel
theorem dX2_canTakeOff_4 : decode cX2_canTakeOff 4 = .ok (.iload_n 1, 1) := by decide +kernel
theorem dX2_canTakeOff_5 : decode cX2_canTakeOff 5 = .ok (.iconst 2, 1) := by decide +kernel
theorem dX2_canTakeOff_6 : decode cX2_canTakeOff 6 = .ok (.if_icmp .ne 7, 3) := by decide +kernel
theorem dX2_canTakeOff_9 : decode cX2_canTakeOff 9 = .ok (.iconst 1, 1) := by decide +kernel
theorem dX2_canTakeOff_10 : decode cX2_canTakeOff 10 = .ok (.goto 4, 3) := by decide +kernel
theorem dX2_canTakeOff_13 : decode cX2_canTakeOff 13 = .ok (.iconst 0, 1) := by decide +kernel
theorem dX2_canTakeOff_14 : decode cX2_canTakeOff 14 = .ok (.istore_n 2, 1) := by decide +kernel
theorem dX2_canTakeOff_15 : decode cX2_canTakeOff 15 = .ok (.iload_n 1, 1) := by decide +kernel
theorem dX2_canTakeOff_16 : decode cX2_canTakeOff 16 = .ok (.iconst 5, 1) := by decide +kernel
theorem dX2_canTakeOff_17 : decode cX2_canTakeOff 17 = .ok (.if_icmp .ne 7, 3) := by decide +kernel
theorem dX2_canTakeOff_20 : decode cX2_canTakeOff 20 = .ok (.iconst 0, 1) := by decide +kernel
theorem dX2_canTakeOff_21 : decode cX2_canTakeOff 21 = .ok (.goto 4, 3) := by decide +kernel
theorem dX2_canTakeOff_24 : decode cX2_canTakeOff 24 = .ok (.iconst 1, 1) := by decide +kernel
theorem dX2_canTakeOff_25 : decode cX2_canTakeOff 25 = .ok (.istore_n 3, 1) := by decide +kernel
theorem dX2_canTakeOff_26 : decode cX2_canTakeOff 26 = .ok (.iload_n 1, 1) := by decide +kernel
theorem dX2_canTakeOff_27 : decode cX2_canTakeOff 27 = .ok (.iconst 3, 1) := by decide +kernel
theorem dX2_canTakeOff_28 : decode cX2_canTakeOff 28 = .ok (.if_icmp .eq 8, 3) := by decide +kernel
theorem dX2_canTakeOff_31 : decode cX2_canTakeOff 31 = .ok (.iload_n 1, 1) := by decide +kernel
theorem dX2_canTakeOff_32 : decode cX2_canTakeOff 32 = .ok (.iconst 4, 1) := by decide +kernel
theorem dX2_canTakeOff_33 : decode cX2_canTakeOff 33 = .ok (.if_icmp .ne 7, 3) := by decide +kernel
theorem dX2_canTakeOff_36 : decode cX2_canTakeOff 36 = .ok (.iconst 1, 1) := by decide +kernel
theorem dX2_canTakeOff_37 : decode cX2_canTakeOff 37 = .ok (.goto 4, 3) := by decide +kernel
theorem dX2_canTakeOff_40 : decode cX2_canTakeOff 40 = .ok (.iconst 0, 1) := by decide +kernel
theorem dX2_canTakeOff_41 : decode cX2_canTakeOff 41 = .ok (.istore 4, 2) := by decide +kernel
theorem dX2_canTakeOff_43 : decode cX2_canTakeOff 43 = .ok (.aload_n 0, 1) := by decide +kernel
theorem dX2_canTakeOff_44 : decode cX2_canTakeOff 44 = .ok (.getfield 30, 3) := by decide +kernel
theorem dX2_canTakeOff_47 : decode cX2_canTakeOff 47 = .ok (.iload_n 2, 1) := by decide +kernel
theorem dX2_canTakeOff_48 : decode cX2_canTakeOff 48 = .ok (.if_icmp .ne 28, 3) := by decide +kernel
theorem dX2_canTakeOff_51 : decode cX2_canTakeOff 51 = .ok (.aload_n 0, 1) := by decide +kernel
theorem dX2_canTakeOff_52 : decode cX2_canTakeOff 52 = .ok (.getfield 37, 3) := by decide +kernel
theorem dX2_canTakeOff_55 : decode cX2_canTakeOff 55 = .ok (.iload_n 3, 1) := by decide +kernel
theorem dX2_canTakeOff_56 : decode cX2_canTakeOff 56 = .ok (.if_icmp .ne 20, 3) := by decide +kernel
theorem dX2_canTakeOff_59 : decode cX2_canTakeOff 59 = .ok (.iload 4, 2) := by decide +kernel
theorem dX2_canTakeOff_61 : decode cX2_canTakeOff 61 = .ok (.ifCond .ne 11, 3) := by decide +kernel
theorem dX2_canTakeOff_64 : decode cX2_canTakeOff 64 = .ok (.aload_n 0, 1) := by decide +kernel
theorem dX2_canTakeOff_65 : decode cX2_canTakeOff 65 = .ok (.iload_n 1, 1) := by decide +kernel
theorem dX2_canTakeOff_66 : decode cX2_canTakeOff 66 = .ok (.invokevirtual 60, 3) := by decide +kernel
theorem dX2_canTakeOff_69 : decode cX2_canTakeOff 69 = .ok (.ifCond .ne 7, 3) := by decide +kernel
theorem dX2_canTakeOff_72 : decode cX2_canTakeOff 72 = .ok (.iconst 1, 1) := by decide +kernel
theorem dX2_canTakeOff_73 : decode cX2_canTakeOff 73 = .ok (.goto 4, 3) := by decide +kernel
theorem dX2_canTakeOff_76 : decode cX2_canTakeOff 76 = .ok (.iconst 0, 1) := by decide +kernel
theorem dX2_canTakeOff_77 : decode cX2_canTakeOff 77 = .ok (.ireturn, 1) := by decide +kernel
theorem dX2_isWrongEdge_0 : decode cX2_isWrongEdge 0 = .ok (.aload_n 0, 1) := by decide +kernel
theorem dX2_isWrongEdge_1 : decode cX2_isWrongEdge 1 = .ok (.getfield 34, 3) := by decide +kernel
theorem dX2_isWrongEdge_4 : decode cX2_isWrongEdge 4 = .ok (.iload_n 1, 1) := by decide +kernel
theorem dX2_isWrongEdge_5 : decode cX2_isWrongEdge 5 = .ok (.iconst 1, 1) := by decide +kernel
theorem dX2_isWrongEdge_6 : decode cX2_isWrongEdge 6 = .ok (.if_icmp .eq 8, 3) := by decide +kernel
theorem dX2_isWrongEdge_9 : decode cX2_isWrongEdge 9 = .ok (.iload_n 1, 1) := by decide +kernel
theorem dX2_isWrongEdge_10 : decode cX2_isWrongEdge 10 = .ok (.iconst 3, 1) := by decide +kernel
theorem dX2_isWrongEdge_11 : decode cX2_isWrongEdge 11 = .ok (.if_icmp .ne 7, 3) := by decide +kernel
theorem dX2_isWrongEdge_14 : decode cX2_isWrongEdge 14 = .ok (.iconst 0, 1) := by decide +kernel
theorem dX2_isWrongEdge_15 : decode cX2_isWrongEdge 15 = .ok (.goto 4, 3) := by decide +kernel
theorem dX2_isWrongEdge_18 : decode cX2_isWrongEdge 18 = .ok (.iconst 1, 1) := by decide +kernel
theorem dX2_isWrongEdge_19 : decode cX2_isWrongEdge 19 = .ok (.if_icmp .eq 7, 3) := by decide +kernel
theorem dX2_isWrongEdge_22 : decode cX2_isWrongEdge 22 = .ok (.iconst 1, 1) := by decide +kernel
theorem dX2_isWrongEdge_23 : decode cX2_isWrongEdge 23 = .ok (.goto 4, 3) := by decide +kernel
theorem dX2_isWrongEdge_26 : decode cX2_isWrongEdge 26 = .ok (.iconst 0, 1) := by decide +kernel
theorem dX2_isWrongEdge_27 : decode cX2_isWrongEdge 27 = .ok (.ireturn, 1) := by decide +kernel
theorem dX2_skateJump_0 : decode cX2_skateJump 0 = .ok (.aload_n 0, 1) := by decide +kernel
theorem dX2_skateJump_1 : decode cX2_skateJump 1 = .ok (.getfield 46, 3) := by decide +kernel
theorem dX2_skateJump_4 : decode cX2_skateJump 4 = .ok (.bipush 7, 2) := by decide +kernel
theorem dX2_skateJump_6 : decode cX2_skateJump 6 = .ok (.if_icmp .ge 17, 3) := by decide +kernel
theorem dX2_skateJump_9 : decode cX2_skateJump 9 = .ok (.aload_n 0, 1) := by decide +kernel
theorem dX2_skateJump_10 : decode cX2_skateJump 10 = .ok (.iload_n 1, 1) := by decide +kernel
theorem dX2_skateJump_11 : decode cX2_skateJump 11 = .ok (.iload_n 2, 1) := by decide +kernel
theorem dX2_skateJump_12 : decode cX2_skateJump 12 = .ok (.invokevirtual 64, 3) := by decide +kernel
theorem dX2_skateJump_15 : decode cX2_skateJump 15 = .ok (.iconst 2, 1) := by decide +kernel
theorem dX2_skateJump_16 : decode cX2_skateJump 16 = .ok (.if_icmp .ge 7, 3) := by decide +kernel
theorem dX2_skateJump_19 : decode cX2_skateJump 19 = .ok (.iconst 1, 1) := by decide +kernel
theorem dX2_skateJump_20 : decode cX2_skateJump 20 = .ok (.goto 4, 3) := by decide +kernel
theorem dX2_skateJump_23 : decode cX2_skateJump 23 = .ok (.iconst 0, 1) := by decide +kernel
theorem dX2_skateJump_24 : decode cX2_skateJump 24 = .ok (.istore 4, 2) := by decide +kernel
theorem dX2_skateJump_26 : decode cX2_skateJump 26 = .ok (.aload_n 0, 1) := by decide +kernel
theorem dX2_skateJump_27 : decode cX2_skateJump 27 = .ok (.getfield 40, 3) := by decide +kernel
theorem dX2_skateJump_30 : decode cX2_skateJump 30 = .ok (.bipush 120, 2) := by decide +kernel
theorem dX2_skateJump_32 : decode cX2_skateJump 32 = .ok (.if_icmp .lt 7, 3) := by decide +kernel
theorem dX2_skateJump_35 : decode cX2_skateJump 35 = .ok (.iconst 1, 1) := by decide +kernel
theorem dX2_skateJump_36 : decode cX2_skateJump 36 = .ok (.goto 4, 3) := by decide +kernel
theorem dX2_skateJump_39 : decode cX2_skateJump 39 = .ok (.iconst 0, 1) := by decide +kernel
theorem dX2_skateJump_40 : decode cX2_skateJump 40 = .ok (.istore 5, 2) := by decide +kernel
theorem dX2_skateJump_42 : decode cX2_skateJump 42 = .ok (.aload_n 0, 1) := by decide +kernel
theorem dX2_skateJump_43 : decode cX2_skateJump 43 = .ok (.new 9, 3) := by decide +kernel
theorem dX2_skateJump_46 : decode cX2_skateJump 46 = .ok (.dup, 1) := by decide +kernel
theorem dX2_skateJump_47 : decode cX2_skateJump 47 = .ok (.iload_n 1, 1) := by decide +kernel
theorem dX2_skateJump_48 : decode cX2_skateJump 48 = .ok (.iload_n 2, 1) := by decide +kernel
theorem dX2_skateJump_49 : decode cX2_skateJump 49 = .ok (.aload_n 0, 1) := by decide +kernel
theorem dX2_skateJump_50 : decode cX2_skateJump 50 = .ok (.iload_n 1, 1) := by decide +kernel
theorem dX2_skateJump_51 : decode cX2_skateJump 51 = .ok (.invokevirtual 60, 3) := by decide +kernel
theorem dX2_skateJump_54 : decode cX2_skateJump 54 = .ok (.iload 5, 2) := by decide +kernel
theorem dX2_skateJump_56 : decode cX2_skateJump 56 = .ok (.iload_n 3, 1) := by decide +kernel
theorem dX2_skateJump_57 : decode cX2_skateJump 57 = .ok (.iload 4, 2) := by decide +kernel
theorem dX2_skateJump_59 : decode cX2_skateJump 59 = .ok (.invokespecial 68, 3) := by decide +kernel
theorem dX2_skateJump_62 : decode cX2_skateJump 62 = .ok (.invokevirtual 71, 3) := by decide +kernel
theorem dX2_skateJump_65 : decode cX2_skateJump 65 = .ok (.istore 6, 2) := by decide +kernel
theorem dX2_skateJump_67 : decode cX2_skateJump 67 = .ok (.aload_n 0, 1) := by decide +kernel
theorem dX2_skateJump_68 : decode cX2_skateJump 68 = .ok (.dup, 1) := by decide +kernel
theorem dX2_skateJump_69 : decode cX2_skateJump 69 = .ok (.getfield 46, 3) := by decide +kernel
theorem dX2_skateJump_72 : decode cX2_skateJump 72 = .ok (.iconst 1, 1) := by decide +kernel
theorem dX2_skateJump_73 : decode cX2_skateJump 73 = .ok (.iadd, 1) := by decide +kernel
theorem dX2_skateJump_74 : decode cX2_skateJump 74 = .ok (.putfield 46, 3) := by decide +kernel
theorem dX2_skateJump_77 : decode cX2_skateJump 77 = .ok (.iload_n 3, 1) := by decide +kernel
theorem dX2_skateJump_78 : decode cX2_skateJump 78 = .ok (.ifCond .eq 13, 3) := by decide +kernel
theorem dX2_skateJump_81 : decode cX2_skateJump 81 = .ok (.aload_n 0, 1) := by decide +kernel
theorem dX2_skateJump_82 : decode cX2_skateJump 82 = .ok (.dup, 1) := by decide +kernel
theorem dX2_skateJump_83 : decode cX2_skateJump 83 = .ok (.getfield 49, 3) := by decide +kernel
theorem dX2_skateJump_86 : decode cX2_skateJump 86 = .ok (.iconst 1, 1) := by decide +kernel
theorem dX2_skateJump_87 : decode cX2_skateJump 87 = .ok (.iadd, 1) := by decide +kernel
theorem dX2_skateJump_88 : decode cX2_skateJump 88 = .ok (.putfield 49, 3) := by decide +kernel
theorem dX2_skateJump_91 : decode cX2_skateJump 91 = .ok (.aload_n 0, 1) := by decide +kernel
theorem dX2_skateJump_92 : decode cX2_skateJump 92 = .ok (.dup, 1) := by decide +kernel
theorem dX2_skateJump_93 : decode cX2_skateJump 93 = .ok (.getfield 40, 3) := by decide +kernel
theorem dX2_skateJump_96 : decode cX2_skateJump 96 = .ok (.iconst 4, 1) := by decide +kernel
theorem dX2_skateJump_97 : decode cX2_skateJump 97 = .ok (.iadd, 1) := by decide +kernel
theorem dX2_skateJump_98 : decode cX2_skateJump 98 = .ok (.putfield 40, 3) := by decide +kernel
theorem dX2_skateJump_101 : decode cX2_skateJump 101 = .ok (.aload_n 0, 1) := by decide +kernel
theorem dX2_skateJump_102 : decode cX2_skateJump 102 = .ok (.iconst 1, 1) := by decide +kernel
theorem dX2_skateJump_103 : decode cX2_skateJump 103 = .ok (.invokevirtual 75, 3) := by decide +kernel
theorem dX2_skateJump_106 : decode cX2_skateJump 106 = .ok (.iload 6, 2) := by decide +kernel
theorem dX2_skateJump_108 : decode cX2_skateJump 108 = .ok (.ireturn, 1) := by decide +kernel
theorem dX2_skateSpin_0 : decode cX2_skateSpin 0 = .ok (.iload_n 2, 1) := by decide +kernel
theorem dX2_skateSpin_1 : decode cX2_skateSpin 1 = .ok (.bipush 6, 2) := by decide +kernel
theorem dX2_skateSpin_3 : decode cX2_skateSpin 3 = .ok (.if_icmp .ge 7, 3) := by decide +kernel
theorem dX2_skateSpin_6 : decode cX2_skateSpin 6 = .ok (.iconst 0, 1) := by decide +kernel
theorem dX2_skateSpin_7 : decode cX2_skateSpin 7 = .ok (.goto 18, 3) := by decide +kernel
theorem dX2_skateSpin_10 : decode cX2_skateSpin 10 = .ok (.iload_n 1, 1) := by decide +kernel
theorem dX2_skateSpin_11 : decode cX2_skateSpin 11 = .ok (.aload_n 0, 1) := by decide +kernel
theorem dX2_skateSpin_12 : decode cX2_skateSpin 12 = .ok (.getfield 52, 3) := by decide +kernel
theorem dX2_skateSpin_15 : decode cX2_skateSpin 15 = .ok (.iconst (-1), 1) := by decide +kernel
theorem dX2_skateSpin_16 : decode cX2_skateSpin 16 = .ok (.ixor, 1) := by decide +kernel
theorem dX2_skateSpin_17 : decode cX2_skateSpin 17 = .ok (.iand, 1) := by decide +kernel
theorem dX2_skateSpin_18 : decode cX2_skateSpin 18 = .ok (.invokestatic 79, 3) := by decide +kernel
theorem dX2_skateSpin_21 : decode cX2_skateSpin 21 = .ok (.iconst 4, 1) := by decide +kernel
theorem dX2_skateSpin_22 : decode cX2_skateSpin 22 = .ok (.invokestatic 85, 3) := by decide +kernel
theorem dX2_skateSpin_25 : decode cX2_skateSpin 25 = .ok (.istore_n 3, 1) := by decide +kernel
theorem dX2_skateSpin_26 : decode cX2_skateSpin 26 = .ok (.aload_n 0, 1) := by decide +kernel
theorem dX2_skateSpin_27 : decode cX2_skateSpin 27 = .ok (.getfield 43, 3) := by decide +kernel
theorem dX2_skateSpin_30 : decode cX2_skateSpin 30 = .ok (.aload_n 0, 1) := by decide +kernel
theorem dX2_skateSpin_31 : decode cX2_skateSpin 31 = .ok (.getfield 46, 3) := by decide +kernel
theorem dX2_skateSpin_34 : decode cX2_skateSpin 34 = .ok (.isub, 1) := by decide +kernel
theorem dX2_skateSpin_35 : decode cX2_skateSpin 35 = .ok (.iconst 3, 1) := by decide +kernel
theorem dX2_skateSpin_36 : decode cX2_skateSpin 36 = .ok (.if_icmp .ge 7, 3) := by decide +kernel
theorem dX2_skateSpin_39 : decode cX2_skateSpin 39 = .ok (.iconst 1, 1) := by decide +kernel
theorem dX2_skateSpin_40 : decode cX2_skateSpin 40 = .ok (.goto 4, 3) := by decide +kernel
theorem dX2_skateSpin_43 : decode cX2_skateSpin 43 = .ok (.iconst 0, 1) := by decide +kernel
theorem dX2_skateSpin_44 : decode cX2_skateSpin 44 = .ok (.istore 4, 2) := by decide +kernel
theorem dX2_skateSpin_46 : decode cX2_skateSpin 46 = .ok (.aload_n 0, 1) := by decide +kernel
theorem dX2_skateSpin_47 : decode cX2_skateSpin 47 = .ok (.new 9, 3) := by decide +kernel
theorem dX2_skateSpin_50 : decode cX2_skateSpin 50 = .ok (.dup, 1) := by decide +kernel
theorem dX2_skateSpin_51 : decode cX2_skateSpin 51 = .ok (.bipush 6, 2) := by decide +kernel
theorem dX2_skateSpin_53 : decode cX2_skateSpin 53 = .ok (.iload_n 3, 1) := by decide +kernel
theorem dX2_skateSpin_54 : decode cX2_skateSpin 54 = .ok (.iconst 0, 1) := by decide +kernel
theorem dX2_skateSpin_55 : decode cX2_skateSpin 55 = .ok (.iconst 0, 1) := by decide +kernel
theorem dX2_skateSpin_56 : decode cX2_skateSpin 56 = .ok (.iconst 0, 1) := by decide +kernel
theorem dX2_skateSpin_57 : decode cX2_skateSpin 57 = .ok (.iload 4, 2) := by decide +kernel
theorem dX2_skateSpin_59 : decode cX2_skateSpin 59 = .ok (.invokespecial 68, 3) := by decide +kernel
theorem dX2_skateSpin_62 : decode cX2_skateSpin 62 = .ok (.invokevirtual 71, 3) := by decide +kernel
theorem dX2_skateSpin_65 : decode cX2_skateSpin 65 = .ok (.istore 5, 2) := by decide +kernel
theorem dX2_skateSpin_67 : decode cX2_skateSpin 67 = .ok (.iload_n 3, 1) := by decide +kernel
theorem dX2_skateSpin_68 : decode cX2_skateSpin 68 = .ok (.ifCond .le 13, 3) := by decide +kernel
theorem dX2_skateSpin_71 : decode cX2_skateSpin 71 = .ok (.aload_n 0, 1) := by decide +kernel
theorem dX2_skateSpin_72 : decode cX2_skateSpin 72 = .ok (.dup, 1) := by decide +kernel
theorem dX2_skateSpin_73 : decode cX2_skateSpin 73 = .ok (.getfield 52, 3) := by decide +kernel
theorem dX2_skateSpin_76 : decode cX2_skateSpin 76 = .ok (.iload_n 1, 1) := by decide +kernel
theorem dX2_skateSpin_77 : decode cX2_skateSpin 77 = .ok (.ior, 1) := by decide +kernel
theorem dX2_skateSpin_78 : decode cX2_skateSpin 78 = .ok (.putfield 52, 3) := by decide +kernel
theorem dX2_skateSpin_81 : decode cX2_skateSpin 81 = .ok (.aload_n 0, 1) := by decide +kernel
theorem dX2_skateSpin_82 : decode cX2_skateSpin 82 = .ok (.dup, 1) := by decide +kernel
theorem dX2_skateSpin_83 : decode cX2_skateSpin 83 = .ok (.getfield 40, 3) := by decide +kernel
theorem dX2_skateSpin_86 : decode cX2_skateSpin 86 = .ok (.bipush 10, 2) := by decide +kernel
theorem dX2_skateSpin_88 : decode cX2_skateSpin 88 = .ok (.iadd, 1) := by decide +kernel
theorem dX2_skateSpin_89 : decode cX2_skateSpin 89 = .ok (.putfield 40, 3) := by decide +kernel
theorem dX2_skateSpin_92 : decode cX2_skateSpin 92 = .ok (.aload_n 0, 1) := by decide +kernel
theorem dX2_skateSpin_93 : decode cX2_skateSpin 93 = .ok (.iconst 0, 1) := by decide +kernel
theorem dX2_skateSpin_94 : decode cX2_skateSpin 94 = .ok (.invokevirtual 75, 3) := by decide +kernel
theorem dX2_skateSpin_97 : decode cX2_skateSpin 97 = .ok (.iload 5, 2) := by decide +kernel
theorem dX2_skateSpin_99 : decode cX2_skateSpin 99 = .ok (.ireturn, 1) := by decide +kernel
theorem dX2_add_0 : decode cX2_add 0 = .ok (.aload_n 0, 1) := by decide +kernel
theorem dX2_add_1 : decode cX2_add 1 = .ok (.getfield 43, 3) := by decide +kernel
theorem dX2_add_4 : decode cX2_add 4 = .ok (.istore_n 2, 1) := by decide +kernel
theorem dX2_add_5 : decode cX2_add 5 = .ok (.iload_n 2, 1) := by decide +kernel
theorem dX2_add_6 : decode cX2_add 6 = .ok (.ifCond .lt 12, 3) := by decide +kernel
theorem dX2_add_9 : decode cX2_add 9 = .ok (.iload_n 2, 1) := by decide +kernel
theorem dX2_add_10 : decode cX2_add 10 = .ok (.aload_n 0, 1) := by decide +kernel
theorem dX2_add_11 : decode cX2_add 11 = .ok (.getfield 11, 3) := by decide +kernel
theorem dX2_add_14 : decode cX2_add 14 = .ok (.arraylength, 1) := by decide +kernel
theorem dX2_add_15 : decode cX2_add 15 = .ok (.if_icmp .lt 5, 3) := by decide +kernel
theorem dX2_add_18 : decode cX2_add 18 = .ok (.iconst (-1), 1) := by decide +kernel
theorem dX2_add_19 : decode cX2_add 19 = .ok (.ireturn, 1) := by decide +kernel
theorem dX2_add_20 : decode cX2_add 20 = .ok (.aload_n 0, 1) := by decide +kernel
theorem dX2_add_21 : decode cX2_add 21 = .ok (.getfield 11, 3) := by decide +kernel
theorem dX2_add_24 : decode cX2_add 24 = .ok (.iload_n 2, 1) := by decide +kernel
theorem dX2_add_25 : decode cX2_add 25 = .ok (.aload_n 1, 1) := by decide +kernel
theorem dX2_add_26 : decode cX2_add 26 = .ok (.aastore, 1) := by decide +kernel
theorem dX2_add_27 : decode cX2_add 27 = .ok (.aload_n 0, 1) := by decide +kernel
theorem dX2_add_28 : decode cX2_add 28 = .ok (.iload_n 2, 1) := by decide +kernel
theorem dX2_add_29 : decode cX2_add 29 = .ok (.iconst 1, 1) := by decide +kernel
theorem dX2_add_30 : decode cX2_add 30 = .ok (.iadd, 1) := by decide +kernel
theorem dX2_add_31 : decode cX2_add 31 = .ok (.putfield 43, 3) := by decide +kernel
theorem dX2_add_34 : decode cX2_add 34 = .ok (.iload_n 2, 1) := by decide +kernel
theorem dX2_add_35 : decode cX2_add 35 = .ok (.ireturn, 1) := by decide +kernel
theorem dX2_landOn_0 : decode cX2_landOn 0 = .ok (.aload_n 0, 1) := by decide +kernel
theorem dX2_landOn_1 : decode cX2_landOn 1 = .ok (.iload_n 1, 1) := by decide +kernel
theorem dX2_landOn_2 : decode cX2_landOn 2 = .ok (.putfield 30, 3) := by decide +kernel
theorem dX2_landOn_5 : decode cX2_landOn 5 = .ok (.aload_n 0, 1) := by decide +kernel
theorem dX2_landOn_6 : decode cX2_landOn 6 = .ok (.iconst 1, 1) := by decide +kernel
theorem dX2_landOn_7 : decode cX2_landOn 7 = .ok (.putfield 34, 3) := by decide +kernel
theorem dX2_landOn_10 : decode cX2_landOn 10 = .ok (.aload_n 0, 1) := by decide +kernel
theorem dX2_landOn_11 : decode cX2_landOn 11 = .ok (.iconst 1, 1) := by decide +kernel
theorem dX2_landOn_12 : decode cX2_landOn 12 = .ok (.putfield 37, 3) := by decide +kernel
theorem dX2_landOn_15 : decode cX2_landOn 15 = .ok (.return_, 1) := by decide +kernel
theorem dX2_likeJumps_0 : decode cX2_likeJumps 0 = .ok (.iconst 0, 1) := by decide +kernel
theorem dX2_likeJumps_1 : decode cX2_likeJumps 1 = .ok (.istore_n 3, 1) := by decide +kernel
theorem dX2_likeJumps_2 : decode cX2_likeJumps 2 = .ok (.aload_n 0, 1) := by decide +kernel
theorem dX2_likeJumps_3 : decode cX2_likeJumps 3 = .ok (.getfield 11, 3) := by decide +kernel
theorem dX2_likeJumps_6 : decode cX2_likeJumps 6 = .ok (.astore 4, 2) := by decide +kernel
theorem dX2_likeJumps_8 : decode cX2_likeJumps 8 = .ok (.aload 4, 2) := by decide +kernel
theorem dX2_likeJumps_10 : decode cX2_likeJumps 10 = .ok (.arraylength, 1) := by decide +kernel
theorem dX2_likeJumps_11 : decode cX2_likeJumps 11 = .ok (.istore 5, 2) := by decide +kernel
theorem dX2_likeJumps_13 : decode cX2_likeJumps 13 = .ok (.iconst 0, 1) := by decide +kernel
theorem dX2_likeJumps_14 : decode cX2_likeJumps 14 = .ok (.istore 6, 2) := by decide +kernel
theorem dX2_likeJumps_16 : decode cX2_likeJumps 16 = .ok (.iload 6, 2) := by decide +kernel
theorem dX2_likeJumps_18 : decode cX2_likeJumps 18 = .ok (.iload 5, 2) := by decide +kernel
theorem dX2_likeJumps_20 : decode cX2_likeJumps 20 = .ok (.if_icmp .ge 42, 3) := by decide +kernel
theorem dX2_likeJumps_23 : decode cX2_likeJumps 23 = .ok (.aload 4, 2) := by decide +kernel
theorem dX2_likeJumps_25 : decode cX2_likeJumps 25 = .ok (.iload 6, 2) := by decide +kernel
theorem dX2_likeJumps_27 : decode cX2_likeJumps 27 = .ok (.aaload, 1) := by decide +kernel
theorem dX2_likeJumps_28 : decode cX2_likeJumps 28 = .ok (.astore 7, 2) := by decide +kernel
theorem dX2_likeJumps_30 : decode cX2_likeJumps 30 = .ok (.aload 7, 2) := by decide +kernel
theorem dX2_likeJumps_32 : decode cX2_likeJumps 32 = .ok (.ifnull 24, 3) := by decide +kernel
theorem dX2_likeJumps_35 : decode cX2_likeJumps 35 = .ok (.aload 7, 2) := by decide +kernel
theorem dX2_likeJumps_37 : decode cX2_likeJumps 37 = .ok (.getfield 90, 3) := by decide +kernel
theorem dX2_likeJumps_40 : decode cX2_likeJumps 40 = .ok (.iload_n 1, 1) := by decide +kernel
theorem dX2_likeJumps_41 : decode cX2_likeJumps 41 = .ok (.if_icmp .ne 15, 3) := by decide +kernel
theorem dX2_likeJumps_44 : decode cX2_likeJumps 44 = .ok (.aload 7, 2) := by decide +kernel
theorem dX2_likeJumps_46 : decode cX2_likeJumps 46 = .ok (.getfield 93, 3) := by decide +kernel
theorem dX2_likeJumps_49 : decode cX2_likeJumps 49 = .ok (.iload_n 2, 1) := by decide +kernel
theorem dX2_likeJumps_50 : decode cX2_likeJumps 50 = .ok (.if_icmp .ne 6, 3) := by decide +kernel
theorem dX2_likeJumps_53 : decode cX2_likeJumps 53 = .ok (.iinc 3 1, 3) := by decide +kernel
theorem dX2_likeJumps_56 : decode cX2_likeJumps 56 = .ok (.iinc 6 1, 3) := by decide +kernel
theorem dX2_likeJumps_59 : decode cX2_likeJumps 59 = .ok (.goto (-43), 3) := by decide +kernel
theorem dX2_likeJumps_62 : decode cX2_likeJumps 62 = .ok (.iload_n 3, 1) := by decide +kernel
theorem dX2_likeJumps_63 : decode cX2_likeJumps 63 = .ok (.ireturn, 1) := by decide +kernel
theorem dX2_elementScoresBy_0 : decode cX2_elementScoresBy 0 = .ok (.iconst 0, 1) := by decide +kernel
theorem dX2_elementScoresBy_1 : decode cX2_elementScoresBy 1 = .ok (.istore_n 2, 1) := by decide +kernel
theorem dX2_elementScoresBy_2 : decode cX2_elementScoresBy 2 = .ok (.aload_n 0, 1) := by decide +kernel
theorem dX2_elementScoresBy_3 : decode cX2_elementScoresBy 3 = .ok (.getfield 11, 3) := by decide +kernel
theorem dX2_elementScoresBy_6 : decode cX2_elementScoresBy 6 = .ok (.astore_n 3, 1) := by decide +kernel
theorem dX2_elementScoresBy_7 : decode cX2_elementScoresBy 7 = .ok (.aload_n 3, 1) := by decide +kernel
theorem dX2_elementScoresBy_8 : decode cX2_elementScoresBy 8 = .ok (.arraylength, 1) := by decide +kernel
theorem dX2_elementScoresBy_9 : decode cX2_elementScoresBy 9 = .ok (.istore 4, 2) := by decide +kernel
theorem dX2_elementScoresBy_11 : decode cX2_elementScoresBy 11 = .ok (.iconst 0, 1) := by decide +kernel
theorem dX2_elementScoresBy_12 : decode cX2_elementScoresBy 12 = .ok (.istore 5, 2) := by decide +kernel
theorem dX2_elementScoresBy_14 : decode cX2_elementScoresBy 14 = .ok (.iload 5, 2) := by decide +kernel
theorem dX2_elementScoresBy_16 : decode cX2_elementScoresBy 16 = .ok (.iload 4, 2) := by decide +kernel
theorem dX2_elementScoresBy_18 : decode cX2_elementScoresBy 18 = .ok (.if_icmp .ge 29, 3) := by decide +kernel
theorem dX2_elementScoresBy_21 : decode cX2_elementScoresBy 21 = .ok (.aload_n 3, 1) := by decide +kernel
theorem dX2_elementScoresBy_22 : decode cX2_elementScoresBy 22 = .ok (.iload 5, 2) := by decide +kernel
theorem dX2_elementScoresBy_24 : decode cX2_elementScoresBy 24 = .ok (.aaload, 1) := by decide +kernel
theorem dX2_elementScoresBy_25 : decode cX2_elementScoresBy 25 = .ok (.astore 6, 2) := by decide +kernel
theorem dX2_elementScoresBy_27 : decode cX2_elementScoresBy 27 = .ok (.aload 6, 2) := by decide +kernel
theorem dX2_elementScoresBy_29 : decode cX2_elementScoresBy 29 = .ok (.ifnull 12, 3) := by decide +kernel
theorem dX2_elementScoresBy_32 : decode cX2_elementScoresBy 32 = .ok (.iload_n 2, 1) := by decide +kernel
theorem dX2_elementScoresBy_33 : decode cX2_elementScoresBy 33 = .ok (.aload 6, 2) := by decide +kernel
theorem dX2_elementScoresBy_35 : decode cX2_elementScoresBy 35 = .ok (.aload_n 1, 1) := by decide +kernel
theorem dX2_elementScoresBy_36 : decode cX2_elementScoresBy 36 = .ok (.invokevirtual 96, 3) := by decide +kernel
theorem dX2_elementScoresBy_39 : decode cX2_elementScoresBy 39 = .ok (.iadd, 1) := by decide +kernel
theorem dX2_elementScoresBy_40 : decode cX2_elementScoresBy 40 = .ok (.istore_n 2, 1) := by decide +kernel
theorem dX2_elementScoresBy_41 : decode cX2_elementScoresBy 41 = .ok (.iinc 5 1, 3) := by decide +kernel
theorem dX2_elementScoresBy_44 : decode cX2_elementScoresBy 44 = .ok (.goto (-30), 3) := by decide +kernel
theorem dX2_elementScoresBy_47 : decode cX2_elementScoresBy 47 = .ok (.iload_n 2, 1) := by decide +kernel
theorem dX2_elementScoresBy_48 : decode cX2_elementScoresBy 48 = .ok (.ireturn, 1) := by decide +kernel
theorem dX2_componentScore_0 : decode cX2_componentScore 0 = .ok (.iconst 2, 1) := by decide +kernel
theorem dX2_componentScore_1 : decode cX2_componentScore 1 = .ok (.ldc2_w 100, 3) := by decide +kernel
theorem dX2_componentScore_4 : decode cX2_componentScore 4 = .ok (.aload_n 1, 1) := by decide +kernel
theorem dX2_componentScore_5 : decode cX2_componentScore 5 = .ok (.invokevirtual 102, 3) := by decide +kernel
theorem dX2_componentScore_8 : decode cX2_componentScore 8 = .ok (.dmul, 1) := by decide +kernel
theorem dX2_componentScore_9 : decode cX2_componentScore 9 = .ok (.invokestatic 106, 3) := by decide +kernel
theorem dX2_componentScore_12 : decode cX2_componentScore 12 = .ok (.imul, 1) := by decide +kernel
theorem dX2_componentScore_13 : decode cX2_componentScore 13 = .ok (.ireturn, 1) := by decide +kernel
theorem dX2_componentScores_0 : decode cX2_componentScores 0 = .ok (.iconst 0, 1) := by decide +kernel
theorem dX2_componentScores_1 : decode cX2_componentScores 1 = .ok (.istore_n 1, 1) := by decide +kernel
theorem dX2_componentScores_2 : decode cX2_componentScores 2 = .ok (.aload_n 0, 1) := by decide +kernel
theorem dX2_componentScores_3 : decode cX2_componentScores 3 = .ok (.getfield 19, 3) := by decide +kernel
theorem dX2_componentScores_6 : decode cX2_componentScores 6 = .ok (.astore_n 2, 1) := by decide +kernel
theorem dX2_componentScores_7 : decode cX2_componentScores 7 = .ok (.aload_n 2, 1) := by decide +kernel
theorem dX2_componentScores_8 : decode cX2_componentScores 8 = .ok (.arraylength, 1) := by decide +kernel
theorem dX2_componentScores_9 : decode cX2_componentScores 9 = .ok (.istore_n 3, 1) := by decide +kernel
theorem dX2_componentScores_10 : decode cX2_componentScores 10 = .ok (.iconst 0, 1) := by decide +kernel
theorem dX2_componentScores_11 : decode cX2_componentScores 11 = .ok (.istore 4, 2) := by decide +kernel
theorem dX2_componentScores_13 : decode cX2_componentScores 13 = .ok (.iload 4, 2) := by decide +kernel
theorem dX2_componentScores_15 : decode cX2_componentScores 15 = .ok (.iload_n 3, 1) := by decide +kernel
theorem dX2_componentScores_16 : decode cX2_componentScores 16 = .ok (.if_icmp .ge 29, 3) := by decide +kernel
theorem dX2_componentScores_19 : decode cX2_componentScores 19 = .ok (.aload_n 2, 1) := by decide +kernel
theorem dX2_componentScores_20 : decode cX2_componentScores 20 = .ok (.iload 4, 2) := by decide +kernel
theorem dX2_componentScores_22 : decode cX2_componentScores 22 = .ok (.aaload, 1) := by decide +kernel
theorem dX2_componentScores_23 : decode cX2_componentScores 23 = .ok (.astore 5, 2) := by decide +kernel
theorem dX2_componentScores_25 : decode cX2_componentScores 25 = .ok (.aload 5, 2) := by decide +kernel
theorem dX2_componentScores_27 : decode cX2_componentScores 27 = .ok (.ifnull 12, 3) := by decide +kernel
theorem dX2_componentScores_30 : decode cX2_componentScores 30 = .ok (.iload_n 1, 1) := by decide +kernel
theorem dX2_componentScores_31 : decode cX2_componentScores 31 = .ok (.aload_n 0, 1) := by decide +kernel
theorem dX2_componentScores_32 : decode cX2_componentScores 32 = .ok (.aload 5, 2) := by decide +kernel
theorem dX2_componentScores_34 : decode cX2_componentScores 34 = .ok (.invokevirtual 110, 3) := by decide +kernel
theorem dX2_componentScores_37 : decode cX2_componentScores 37 = .ok (.iadd, 1) := by decide +kernel
theorem dX2_componentScores_38 : decode cX2_componentScores 38 = .ok (.istore_n 1, 1) := by decide +kernel
theorem dX2_componentScores_39 : decode cX2_componentScores 39 = .ok (.iinc 4 1, 3) := by decide +kernel
theorem dX2_componentScores_42 : decode cX2_componentScores 42 = .ok (.goto (-29), 3) := by decide +kernel
theorem dX2_componentScores_45 : decode cX2_componentScores 45 = .ok (.iload_n 1, 1) := by decide +kernel
theorem dX2_componentScores_46 : decode cX2_componentScores 46 = .ok (.ireturn, 1) := by decide +kernel
theorem dX2_fine_0 : decode cX2_fine 0 = .ok (.bipush 100, 2) := by decide +kernel
theorem dX2_fine_2 : decode cX2_fine 2 = .ok (.aload_n 0, 1) := by decide +kernel
theorem dX2_fine_3 : decode cX2_fine 3 = .ok (.getfield 49, 3) := by decide +kernel
theorem dX2_fine_6 : decode cX2_fine 6 = .ok (.imul, 1) := by decide +kernel
theorem dX2_fine_7 : decode cX2_fine 7 = .ok (.bipush 100, 2) := by decide +kernel
theorem dX2_fine_9 : decode cX2_fine 9 = .ok (.iconst 0, 1) := by decide +kernel
theorem dX2_fine_10 : decode cX2_fine 10 = .ok (.aload_n 0, 1) := by decide +kernel
theorem dX2_fine_11 : decode cX2_fine 11 = .ok (.getfield 49, 3) := by decide +kernel
theorem dX2_fine_14 : decode cX2_fine 14 = .ok (.iconst 2, 1) := by decide +kernel
theorem dX2_fine_15 : decode cX2_fine 15 = .ok (.isub, 1) := by decide +kernel
theorem dX2_fine_16 : decode cX2_fine 16 = .ok (.invokestatic 114, 3) := by decide +kernel
theorem dX2_fine_19 : decode cX2_fine 19 = .ok (.imul, 1) := by decide +kernel
theorem dX2_fine_20 : decode cX2_fine 20 = .ok (.iadd, 1) := by decide +kernel
theorem dX2_fine_21 : decode cX2_fine 21 = .ok (.ireturn, 1) := by decide +kernel
theorem dX2_totalOf_0 : decode cX2_totalOf 0 = .ok (.iconst 0, 1) := by decide +kernel
theorem dX2_totalOf_1 : decode cX2_totalOf 1 = .ok (.iload_n 1, 1) := by decide +kernel
theorem dX2_totalOf_2 : decode cX2_totalOf 2 = .ok (.aload_n 0, 1) := by decide +kernel
theorem dX2_totalOf_3 : decode cX2_totalOf 3 = .ok (.invokevirtual 117, 3) := by decide +kernel
theorem dX2_totalOf_6 : decode cX2_totalOf 6 = .ok (.iadd, 1) := by decide +kernel
theorem dX2_totalOf_7 : decode cX2_totalOf 7 = .ok (.aload_n 0, 1) := by decide +kernel
theorem dX2_totalOf_8 : decode cX2_totalOf 8 = .ok (.invokevirtual 121, 3) := by decide +kernel
theorem dX2_totalOf_11 : decode cX2_totalOf 11 = .ok (.isub, 1) := by decide +kernel
theorem dX2_totalOf_12 : decode cX2_totalOf 12 = .ok (.invokestatic 114, 3) := by decide +kernel
theorem dX2_totalOf_15 : decode cX2_totalOf 15 = .ok (.ireturn, 1) := by decide +kernel
theorem dX2_isSumRight_0 : decode cX2_isSumRight 0 = .ok (.iconst 0, 1) := by decide +kernel
theorem dX2_isSumRight_1 : decode cX2_isSumRight 1 = .ok (.istore_n 2, 1) := by decide +kernel
theorem dX2_isSumRight_2 : decode cX2_isSumRight 2 = .ok (.aload_n 0, 1) := by decide +kernel
theorem dX2_isSumRight_3 : decode cX2_isSumRight 3 = .ok (.getfield 11, 3) := by decide +kernel
theorem dX2_isSumRight_6 : decode cX2_isSumRight 6 = .ok (.arraylength, 1) := by decide +kernel
theorem dX2_isSumRight_7 : decode cX2_isSumRight 7 = .ok (.iconst 1, 1) := by decide +kernel
theorem dX2_isSumRight_8 : decode cX2_isSumRight 8 = .ok (.isub, 1) := by decide +kernel
theorem dX2_isSumRight_9 : decode cX2_isSumRight 9 = .ok (.istore_n 3, 1) := by decide +kernel
theorem dX2_isSumRight_10 : decode cX2_isSumRight 10 = .ok (.iload_n 3, 1) := by decide +kernel
theorem dX2_isSumRight_11 : decode cX2_isSumRight 11 = .ok (.ifCond .lt 31, 3) := by decide +kernel
theorem dX2_isSumRight_14 : decode cX2_isSumRight 14 = .ok (.aload_n 0, 1) := by decide +kernel
theorem dX2_isSumRight_15 : decode cX2_isSumRight 15 = .ok (.getfield 11, 3) := by decide +kernel
theorem dX2_isSumRight_18 : decode cX2_isSumRight 18 = .ok (.iload_n 3, 1) := by decide +kernel
theorem dX2_isSumRight_19 : decode cX2_isSumRight 19 = .ok (.aaload, 1) := by decide +kernel
theorem dX2_isSumRight_20 : decode cX2_isSumRight 20 = .ok (.astore 4, 2) := by decide +kernel
theorem dX2_isSumRight_22 : decode cX2_isSumRight 22 = .ok (.aload 4, 2) := by decide +kernel
theorem dX2_isSumRight_24 : decode cX2_isSumRight 24 = .ok (.ifnull 12, 3) := by decide +kernel
theorem dX2_isSumRight_27 : decode cX2_isSumRight 27 = .ok (.iload_n 2, 1) := by decide +kernel
theorem dX2_isSumRight_28 : decode cX2_isSumRight 28 = .ok (.aload 4, 2) := by decide +kernel
theorem dX2_isSumRight_30 : decode cX2_isSumRight 30 = .ok (.aload_n 1, 1) := by decide +kernel
theorem dX2_isSumRight_31 : decode cX2_isSumRight 31 = .ok (.invokevirtual 96, 3) := by decide +kernel
theorem dX2_isSumRight_34 : decode cX2_isSumRight 34 = .ok (.iadd, 1) := by decide +kernel
theorem dX2_isSumRight_35 : decode cX2_isSumRight 35 = .ok (.istore_n 2, 1) := by decide +kernel
theorem dX2_isSumRight_36 : decode cX2_isSumRight 36 = .ok (.iinc 3 (-1), 3) := by decide +kernel
theorem dX2_isSumRight_39 : decode cX2_isSumRight 39 = .ok (.goto (-29), 3) := by decide +kernel
theorem dX2_isSumRight_42 : decode cX2_isSumRight 42 = .ok (.aload_n 0, 1) := by decide +kernel
theorem dX2_isSumRight_43 : decode cX2_isSumRight 43 = .ok (.getfield 19, 3) := by decide +kernel
theorem dX2_isSumRight_46 : decode cX2_isSumRight 46 = .ok (.arraylength, 1) := by decide +kernel
theorem dX2_isSumRight_47 : decode cX2_isSumRight 47 = .ok (.iconst 1, 1) := by decide +kernel
theorem dX2_isSumRight_48 : decode cX2_isSumRight 48 = .ok (.isub, 1) := by decide +kernel
theorem dX2_isSumRight_49 : decode cX2_isSumRight 49 = .ok (.istore_n 3, 1) := by decide +kernel
theorem dX2_isSumRight_50 : decode cX2_isSumRight 50 = .ok (.iload_n 3, 1) := by decide +kernel
theorem dX2_isSumRight_51 : decode cX2_isSumRight 51 = .ok (.ifCond .lt 31, 3) := by decide +kernel
theorem dX2_isSumRight_54 : decode cX2_isSumRight 54 = .ok (.aload_n 0, 1) := by decide +kernel
theorem dX2_isSumRight_55 : decode cX2_isSumRight 55 = .ok (.getfield 19, 3) := by decide +kernel
theorem dX2_isSumRight_58 : decode cX2_isSumRight 58 = .ok (.iload_n 3, 1) := by decide +kernel
theorem dX2_isSumRight_59 : decode cX2_isSumRight 59 = .ok (.aaload, 1) := by decide +kernel
theorem dX2_isSumRight_60 : decode cX2_isSumRight 60 = .ok (.astore 4, 2) := by decide +kernel
theorem dX2_isSumRight_62 : decode cX2_isSumRight 62 = .ok (.aload 4, 2) := by decide +kernel
theorem dX2_isSumRight_64 : decode cX2_isSumRight 64 = .ok (.ifnull 12, 3) := by decide +kernel
theorem dX2_isSumRight_67 : decode cX2_isSumRight 67 = .ok (.iload_n 2, 1) := by decide +kernel
theorem dX2_isSumRight_68 : decode cX2_isSumRight 68 = .ok (.aload_n 0, 1) := by decide +kernel
theorem dX2_isSumRight_69 : decode cX2_isSumRight 69 = .ok (.aload 4, 2) := by decide +kernel
theorem dX2_isSumRight_71 : decode cX2_isSumRight 71 = .ok (.invokevirtual 110, 3) := by decide +kernel
theorem dX2_isSumRight_74 : decode cX2_isSumRight 74 = .ok (.iadd, 1) := by decide +kernel
theorem dX2_isSumRight_75 : decode cX2_isSumRight 75 = .ok (.istore_n 2, 1) := by decide +kernel
theorem dX2_isSumRight_76 : decode cX2_isSumRight 76 = .ok (.iinc 3 (-1), 3) := by decide +kernel
theorem dX2_isSumRight_79 : decode cX2_isSumRight 79 = .ok (.goto (-29), 3) := by decide +kernel
theorem dX2_isSumRight_82 : decode cX2_isSumRight 82 = .ok (.iconst 0, 1) := by decide +kernel
theorem dX2_isSumRight_83 : decode cX2_isSumRight 83 = .ok (.iload_n 2, 1) := by decide +kernel
theorem dX2_isSumRight_84 : decode cX2_isSumRight 84 = .ok (.aload_n 0, 1) := by decide +kernel
theorem dX2_isSumRight_85 : decode cX2_isSumRight 85 = .ok (.invokevirtual 121, 3) := by decide +kernel
theorem dX2_isSumRight_88 : decode cX2_isSumRight 88 = .ok (.isub, 1) := by decide +kernel
theorem dX2_isSumRight_89 : decode cX2_isSumRight 89 = .ok (.invokestatic 114, 3) := by decide +kernel
theorem dX2_isSumRight_92 : decode cX2_isSumRight 92 = .ok (.aload_n 0, 1) := by decide +kernel
theorem dX2_isSumRight_93 : decode cX2_isSumRight 93 = .ok (.aload_n 0, 1) := by decide +kernel
theorem dX2_isSumRight_94 : decode cX2_isSumRight 94 = .ok (.aload_n 1, 1) := by decide +kernel
theorem dX2_isSumRight_95 : decode cX2_isSumRight 95 = .ok (.invokevirtual 124, 3) := by decide +kernel
theorem dX2_isSumRight_98 : decode cX2_isSumRight 98 = .ok (.invokevirtual 127, 3) := by decide +kernel
theorem dX2_isSumRight_101 : decode cX2_isSumRight 101 = .ok (.if_icmp .ne 7, 3) := by decide +kernel
theorem dX2_isSumRight_104 : decode cX2_isSumRight 104 = .ok (.iconst 1, 1) := by decide +kernel
theorem dX2_isSumRight_105 : decode cX2_isSumRight 105 = .ok (.goto 4, 3) := by decide +kernel
theorem dX2_isSumRight_108 : decode cX2_isSumRight 108 = .ok (.iconst 0, 1) := by decide +kernel
theorem dX2_isSumRight_109 : decode cX2_isSumRight 109 = .ok (.ireturn, 1) := by decide +kernel
theorem dX3_init_0 : decode cX3_init 0 = .ok (.aload_n 0, 1) := by decide +kernel
theorem dX3_init_1 : decode cX3_init 1 = .ok (.invokespecial 3, 3) := by decide +kernel
theorem dX3_init_4 : decode cX3_init 4 = .ok (.aload_n 0, 1) := by decide +kernel
theorem dX3_init_5 : decode cX3_init 5 = .ok (.bipush 7, 2) := by decide +kernel
theorem dX3_init_7 : decode cX3_init 7 = .ok (.newarray .int, 2) := by decide +kernel
theorem dX3_init_9 : decode cX3_init 9 = .ok (.putfield 9, 3) := by decide +kernel
theorem dX3_init_12 : decode cX3_init 12 = .ok (.aload_n 0, 1) := by decide +kernel
theorem dX3_init_13 : decode cX3_init 13 = .ok (.bipush 7, 2) := by decide +kernel
theorem dX3_init_15 : decode cX3_init 15 = .ok (.newarray .boolean, 2) := by decide +kernel
theorem dX3_init_17 : decode cX3_init 17 = .ok (.putfield 15, 3) := by decide +kernel
theorem dX3_init_20 : decode cX3_init 20 = .ok (.aload_n 0, 1) := by decide +kernel
theorem dX3_init_21 : decode cX3_init 21 = .ok (.iconst 0, 1) := by decide +kernel
theorem dX3_init_22 : decode cX3_init 22 = .ok (.putfield 19, 3) := by decide +kernel
theorem dX3_init_25 : decode cX3_init 25 = .ok (.aload_n 0, 1) := by decide +kernel
theorem dX3_init_26 : decode cX3_init 26 = .ok (.iconst 0, 1) := by decide +kernel
theorem dX3_init_27 : decode cX3_init 27 = .ok (.putfield 23, 3) := by decide +kernel
theorem dX3_init_30 : decode cX3_init 30 = .ok (.aload_n 0, 1) := by decide +kernel
theorem dX3_init_31 : decode cX3_init 31 = .ok (.iconst 0, 1) := by decide +kernel
theorem dX3_init_32 : decode cX3_init 32 = .ok (.putfield 26, 3) := by decide +kernel
theorem dX3_init_35 : decode cX3_init 35 = .ok (.aload_n 0, 1) := by decide +kernel
theorem dX3_init_36 : decode cX3_init 36 = .ok (.iconst 0, 1) := by decide +kernel
theorem dX3_init_37 : decode cX3_init 37 = .ok (.putfield 29, 3) := by decide +kernel
theorem dX3_init_40 : decode cX3_init 40 = .ok (.return_, 1) := by decide +kernel
theorem dX3_isSeat_0 : decode cX3_isSeat 0 = .ok (.iload_n 1, 1) := by decide +kernel
theorem dX3_isSeat_1 : decode cX3_isSeat 1 = .ok (.ifCond .lt 25, 3) := by decide +kernel
theorem dX3_isSeat_4 : decode cX3_isSeat 4 = .ok (.iload_n 1, 1) := by decide +kernel
theorem dX3_isSeat_5 : decode cX3_isSeat 5 = .ok (.aload_n 0, 1) := by decide +kernel
theorem dX3_isSeat_6 : decode cX3_isSeat 6 = .ok (.getfield 9, 3) := by decide +kernel
theorem dX3_isSeat_9 : decode cX3_isSeat 9 = .ok (.arraylength, 1) := by decide +kernel
theorem dX3_isSeat_10 : decode cX3_isSeat 10 = .ok (.if_icmp .ge 16, 3) := by decide +kernel
theorem dX3_isSeat_13 : decode cX3_isSeat 13 = .ok (.iload_n 1, 1) := by decide +kernel
theorem dX3_isSeat_14 : decode cX3_isSeat 14 = .ok (.aload_n 0, 1) := by decide +kernel
theorem dX3_isSeat_15 : decode cX3_isSeat 15 = .ok (.getfield 15, 3) := by decide +kernel
theorem dX3_isSeat_18 : decode cX3_isSeat 18 = .ok (.arraylength, 1) := by decide +kernel
theorem dX3_isSeat_19 : decode cX3_isSeat 19 = .ok (.if_icmp .ge 7, 3) := by decide +kernel
theorem dX3_isSeat_22 : decode cX3_isSeat 22 = .ok (.iconst 1, 1) := by decide +kernel
theorem dX3_isSeat_23 : decode cX3_isSeat 23 = .ok (.goto 4, 3) := by decide +kernel
theorem dX3_isSeat_26 : decode cX3_isSeat 26 = .ok (.iconst 0, 1) := by decide +kernel
theorem dX3_isSeat_27 : decode cX3_isSeat 27 = .ok (.ireturn, 1) := by decide +kernel
theorem dX3_tell_0 : decode cX3_tell 0 = .ok (.aload_n 0, 1) := by decide +kernel
theorem dX3_tell_1 : decode cX3_tell 1 = .ok (.iload_n 1, 1) := by decide +kernel
theorem dX3_tell_2 : decode cX3_tell 2 = .ok (.invokevirtual 32, 3) := by decide +kernel
theorem dX3_tell_5 : decode cX3_tell 5 = .ok (.ifCond .ne 4, 3) := by decide +kernel
theorem dX3_tell_8 : decode cX3_tell 8 = .ok (.return_, 1) := by decide +kernel
theorem dX3_tell_9 : decode cX3_tell 9 = .ok (.aload_n 0, 1) := by decide +kernel
theorem dX3_tell_10 : decode cX3_tell 10 = .ok (.getfield 9, 3) := by decide +kernel
theorem dX3_tell_13 : decode cX3_tell 13 = .ok (.iload_n 1, 1) := by decide +kernel
theorem dX3_tell_14 : decode cX3_tell 14 = .ok (.iload_n 2, 1) := by decide +kernel
theorem dX3_tell_15 : decode cX3_tell 15 = .ok (.iastore, 1) := by decide +kernel
theorem dX3_tell_16 : decode cX3_tell 16 = .ok (.aload_n 0, 1) := by decide +kernel
theorem dX3_tell_17 : decode cX3_tell 17 = .ok (.getfield 15, 3) := by decide +kernel
theorem dX3_tell_20 : decode cX3_tell 20 = .ok (.iload_n 1, 1) := by decide +kernel
theorem dX3_tell_21 : decode cX3_tell 21 = .ok (.iconst 1, 1) := by decide +kernel
theorem dX3_tell_22 : decode cX3_tell 22 = .ok (.bastore, 1) := by decide +kernel
theorem dX3_tell_23 : decode cX3_tell 23 = .ok (.aload_n 0, 1) := by decide +kernel
theorem dX3_tell_24 : decode cX3_tell 24 = .ok (.invokevirtual 36, 3) := by decide +kernel
theorem dX3_tell_27 : decode cX3_tell 27 = .ok (.return_, 1) := by decide +kernel
theorem dX3_recount_0 : decode cX3_recount 0 = .ok (.aload_n 0, 1) := by decide +kernel
theorem dX3_recount_1 : decode cX3_recount 1 = .ok (.iconst 0, 1) := by decide +kernel
theorem dX3_recount_2 : decode cX3_recount 2 = .ok (.putfield 19, 3) := by decide +kernel
theorem dX3_recount_5 : decode cX3_recount 5 = .ok (.aload_n 0, 1) := by decide +kernel
theorem dX3_recount_6 : decode cX3_recount 6 = .ok (.iconst 0, 1) := by decide +kernel
theorem dX3_recount_7 : decode cX3_recount 7 = .ok (.putfield 23, 3) := by decide +kernel
theorem dX3_recount_10 : decode cX3_recount 10 = .ok (.iconst 0, 1) := by decide +kernel
theorem dX3_recount_11 : decode cX3_recount 11 = .ok (.istore_n 1, 1) := by decide +kernel
theorem dX3_recount_12 : decode cX3_recount 12 = .ok (.iload_n 1, 1) := by decide +kernel
theorem dX3_recount_13 : decode cX3_recount 13 = .ok (.aload_n 0, 1) := by decide +kernel
theorem dX3_recount_14 : decode cX3_recount 14 = .ok (.getfield 9, 3) := by decide +kernel
theorem dX3_recount_17 : decode cX3_recount 17 = .ok (.arraylength, 1) := by decide +kernel
theorem dX3_recount_18 : decode cX3_recount 18 = .ok (.if_icmp .ge 118, 3) := by decide +kernel
theorem dX3_recount_21 : decode cX3_recount 21 = .ok (.iload_n 1, 1) := by decide +kernel
theorem dX3_recount_22 : decode cX3_recount 22 = .ok (.aload_n 0, 1) := by decide +kernel
theorem dX3_recount_23 : decode cX3_recount 23 = .ok (.getfield 15, 3) := by decide +kernel
theorem dX3_recount_26 : decode cX3_recount 26 = .ok (.arraylength, 1) := by decide +kernel
theorem dX3_recount_27 : decode cX3_recount 27 = .ok (.if_icmp .ge 109, 3) := by decide +kernel
theorem dX3_recount_30 : decode cX3_recount 30 = .ok (.aload_n 0, 1) := by decide +kernel
theorem dX3_recount_31 : decode cX3_recount 31 = .ok (.getfield 15, 3) := by decide +kernel
theorem dX3_recount_34 : decode cX3_recount 34 = .ok (.iload_n 1, 1) := by decide +kernel
theorem dX3_recount_35 : decode cX3_recount 35 = .ok (.baload, 1) := by decide +kernel
theorem dX3_recount_36 : decode cX3_recount 36 = .ok (.ifCond .eq 94, 3) := by decide +kernel
theorem dX3_recount_39 : decode cX3_recount 39 = .ok (.aload_n 0, 1) := by decide +kernel
theorem dX3_recount_40 : decode cX3_recount 40 = .ok (.aload_n 0, 1) := by decide +kernel
theorem dX3_recount_41 : decode cX3_recount 41 = .ok (.getfield 19, 3) := by decide +kernel
theorem dX3_recount_44 : decode cX3_recount 44 = .ok (.ifCond .ne 12, 3) := by decide +kernel
theorem dX3_recount_47 : decode cX3_recount 47 = .ok (.aload_n 0, 1) := by decide +kernel
theorem dX3_recount_48 : decode cX3_recount 48 = .ok (.getfield 9, 3) := by decide +kernel
theorem dX3_recount_51 : decode cX3_recount 51 = .ok (.iload_n 1, 1) := by decide +kernel
theorem dX3_recount_52 : decode cX3_recount 52 = .ok (.iaload, 1) := by decide +kernel
theorem dX3_recount_53 : decode cX3_recount 53 = .ok (.goto 16, 3) := by decide +kernel
theorem dX3_recount_56 : decode cX3_recount 56 = .ok (.aload_n 0, 1) := by decide +kernel
theorem dX3_recount_57 : decode cX3_recount 57 = .ok (.getfield 26, 3) := by decide +kernel
theorem dX3_recount_60 : decode cX3_recount 60 = .ok (.aload_n 0, 1) := by decide +kernel
theorem dX3_recount_61 : decode cX3_recount 61 = .ok (.getfield 9, 3) := by decide +kernel
theorem dX3_recount_64 : decode cX3_recount 64 = .ok (.iload_n 1, 1) := by decide +kernel
theorem dX3_recount_65 : decode cX3_recount 65 = .ok (.iaload, 1) := by decide +kernel
theorem dX3_recount_66 : decode cX3_recount 66 = .ok (.invokestatic 39, 3) := by decide +kernel
theorem dX3_recount_69 : decode cX3_recount 69 = .ok (.putfield 26, 3) := by decide +kernel
theorem dX3_recount_72 : decode cX3_recount 72 = .ok (.aload_n 0, 1) := by decide +kernel
theorem dX3_recount_73 : decode cX3_recount 73 = .ok (.aload_n 0, 1) := by decide +kernel
theorem dX3_recount_74 : decode cX3_recount 74 = .ok (.getfield 19, 3) := by decide +kernel
theorem dX3_recount_77 : decode cX3_recount 77 = .ok (.ifCond .ne 12, 3) := by decide +kernel
theorem dX3_recount_80 : decode cX3_recount 80 = .ok (.aload_n 0, 1) := by decide +kernel
theorem dX3_recount_81 : decode cX3_recount 81 = .ok (.getfield 9, 3) := by decide +kernel
theorem dX3_recount_84 : decode cX3_recount 84 = .ok (.iload_n 1, 1) := by decide +kernel
theorem dX3_recount_85 : decode cX3_recount 85 = .ok (.iaload, 1) := by decide +kernel
theorem dX3_recount_86 : decode cX3_recount 86 = .ok (.goto 16, 3) := by decide +kernel
theorem dX3_recount_89 : decode cX3_recount 89 = .ok (.aload_n 0, 1) := by decide +kernel
theorem dX3_recount_90 : decode cX3_recount 90 = .ok (.getfield 29, 3) := by decide +kernel
theorem dX3_recount_93 : decode cX3_recount 93 = .ok (.aload_n 0, 1) := by decide +kernel
theorem dX3_recount_94 : decode cX3_recount 94 = .ok (.getfield 9, 3) := by decide +kernel
theorem dX3_recount_97 : decode cX3_recount 97 = .ok (.iload_n 1, 1) := by decide +kernel
theorem dX3_recount_98 : decode cX3_recount 98 = .ok (.iaload, 1) := by decide +kernel
theorem dX3_recount_99 : decode cX3_recount 99 = .ok (.invokestatic 45, 3) := by decide +kernel
theorem dX3_recount_102 : decode cX3_recount 102 = .ok (.putfield 29, 3) := by decide +kernel
theorem dX3_recount_105 : decode cX3_recount 105 = .ok (.aload_n 0, 1) := by decide +kernel
theorem dX3_recount_106 : decode cX3_recount 106 = .ok (.dup, 1) := by decide +kernel
theorem dX3_recount_107 : decode cX3_recount 107 = .ok (.getfield 23, 3) := by decide +kernel
theorem dX3_recount_110 : decode cX3_recount 110 = .ok (.aload_n 0, 1) := by decide +kernel
theorem dX3_recount_111 : decode cX3_recount 111 = .ok (.getfield 9, 3) := by decide +kernel
theorem dX3_recount_114 : decode cX3_recount 114 = .ok (.iload_n 1, 1) := by decide +kernel
theorem dX3_recount_115 : decode cX3_recount 115 = .ok (.iaload, 1) := by decide +kernel
theorem dX3_recount_116 : decode cX3_recount 116 = .ok (.iadd, 1) := by decide +kernel
theorem dX3_recount_117 : decode cX3_recount 117 = .ok (.putfield 23, 3) := by decide +kernel
theorem dX3_recount_120 : decode cX3_recount 120 = .ok (.aload_n 0, 1) := by decide +kernel
theorem dX3_recount_121 : decode cX3_recount 121 = .ok (.dup, 1) := by decide +kernel
theorem dX3_recount_122 : decode cX3_recount 122 = .ok (.getfield 19, 3) := by decide +kernel
theorem dX3_recount_125 : decode cX3_recount 125 = .ok (.iconst 1, 1) := by decide +kernel
theorem dX3_recount_126 : decode cX3_recount 126 = .ok (.iadd, 1) := by decide +kernel
theorem dX3_recount_127 : decode cX3_recount 127 = .ok (.putfield 19, 3) := by decide +kernel
theorem dX3_recount_130 : decode cX3_recount 130 = .ok (.iinc 1 1, 3) := by decide +kernel
theorem dX3_recount_133 : decode cX3_recount 133 = .ok (.goto (-121), 3) := by decide +kernel
theorem dX3_recount_136 : decode cX3_recount 136 = .ok (.return_, 1) := by decide +kernel
theorem dX3_trimmedMean_0 : decode cX3_trimmedMean 0 = .ok (.aload_n 0, 1) := by decide +kernel
theorem dX3_trimmedMean_1 : decode cX3_trimmedMean 1 = .ok (.getfield 19, 3) := by decide +kernel
theorem dX3_trimmedMean_4 : decode cX3_trimmedMean 4 = .ok (.iconst 3, 1) := by decide +kernel
theorem dX3_trimmedMean_5 : decode cX3_trimmedMean 5 = .ok (.if_icmp .ge 7, 3) := by decide +kernel
theorem dX3_trimmedMean_8 : decode cX3_trimmedMean 8 = .ok (.dconst 0, 1) := by decide +kernel
theorem dX3_trimmedMean_9 : decode cX3_trimmedMean 9 = .ok (.goto 26, 3) := by decide +kernel
theorem dX3_trimmedMean_12 : decode cX3_trimmedMean 12 = .ok (.aload_n 0, 1) := by decide +kernel
theorem dX3_trimmedMean_13 : decode cX3_trimmedMean 13 = .ok (.getfield 23, 3) := by decide +kernel
theorem dX3_trimmedMean_16 : decode cX3_trimmedMean 16 = .ok (.aload_n 0, 1) := by decide +kernel
