theorem dX4_addsUp_82 : decode cX4_addsUp 82 = .ok (.iconst 1, 1) := by decide +kernel
theorem dX4_addsUp_83 : decode cX4_addsUp 83 = .ok (.ireturn, 1) := by decide +kernel
theorem dX4_isIn_0 : decode cX4_isIn 0 = .ok (.iload_n 0, 1) := by decide +kernel
theorem dX4_isIn_1 : decode cX4_isIn 1 = .ok (.iload_n 1, 1) := by decide +kernel
theorem dX4_isIn_2 : decode cX4_isIn 2 = .ok (.if_icmp .lt 12, 3) := by decide +kernel
theorem dX4_isIn_5 : decode cX4_isIn 5 = .ok (.iload_n 0, 1) := by decide +kernel
theorem dX4_isIn_6 : decode cX4_isIn 6 = .ok (.iload_n 2, 1) := by decide +kernel
theorem dX4_isIn_7 : decode cX4_isIn 7 = .ok (.if_icmp .gt 7, 3) := by decide +kernel
theorem dX4_isIn_10 : decode cX4_isIn 10 = .ok (.iconst 1, 1) := by decide +kernel
theorem dX4_isIn_11 : decode cX4_isIn 11 = .ok (.goto 4, 3) := by decide +kernel
theorem dX4_isIn_14 : decode cX4_isIn 14 = .ok (.iconst 0, 1) := by decide +kernel
theorem dX4_isIn_15 : decode cX4_isIn 15 = .ok (.ireturn, 1) := by decide +kernel
theorem dX4_nearest_0 : decode cX4_nearest 0 = .ok (.dload_n 0, 1) := by decide +kernel
theorem dX4_nearest_1 : decode cX4_nearest 1 = .ok (.d2i, 1) := by decide +kernel
theorem dX4_nearest_2 : decode cX4_nearest 2 = .ok (.istore_n 2, 1) := by decide +kernel
theorem dX4_nearest_3 : decode cX4_nearest 3 = .ok (.dload_n 0, 1) := by decide +kernel
theorem dX4_nearest_4 : decode cX4_nearest 4 = .ok (.iload_n 2, 1) := by decide +kernel
theorem dX4_nearest_5 : decode cX4_nearest 5 = .ok (.i2d, 1) := by decide +kernel
theorem dX4_nearest_6 : decode cX4_nearest 6 = .ok (.dsub, 1) := by decide +kernel
theorem dX4_nearest_7 : decode cX4_nearest 7 = .ok (.dstore_n 3, 1) := by decide +kernel
theorem dX4_nearest_8 : decode cX4_nearest 8 = .ok (.iload_n 2, 1) := by decide +kernel
theorem dX4_nearest_9 : decode cX4_nearest 9 = .ok (.iconst 1, 1) := by decide +kernel
theorem dX4_nearest_10 : decode cX4_nearest 10 = .ok (.iand, 1) := by decide +kernel
theorem dX4_nearest_11 : decode cX4_nearest 11 = .ok (.ifCond .eq 7, 3) := by decide +kernel
theorem dX4_nearest_14 : decode cX4_nearest 14 = .ok (.iconst 1, 1) := by decide +kernel
theorem dX4_nearest_15 : decode cX4_nearest 15 = .ok (.goto 4, 3) := by decide +kernel
theorem dX4_nearest_18 : decode cX4_nearest 18 = .ok (.iconst 0, 1) := by decide +kernel
theorem dX4_nearest_19 : decode cX4_nearest 19 = .ok (.istore 5, 2) := by decide +kernel
theorem dX4_nearest_21 : decode cX4_nearest 21 = .ok (.dload_n 3, 1) := by decide +kernel
theorem dX4_nearest_22 : decode cX4_nearest 22 = .ok (.ldc2_w 240, 3) := by decide +kernel
theorem dX4_nearest_25 : decode cX4_nearest 25 = .ok (.dcmp .l, 1) := by decide +kernel
theorem dX4_nearest_26 : decode cX4_nearest 26 = .ok (.ifCond .gt 16, 3) := by decide +kernel
theorem dX4_nearest_29 : decode cX4_nearest 29 = .ok (.dload_n 3, 1) := by decide +kernel
theorem dX4_nearest_30 : decode cX4_nearest 30 = .ok (.ldc2_w 240, 3) := by decide +kernel
theorem dX4_nearest_33 : decode cX4_nearest 33 = .ok (.dcmp .l, 1) := by decide +kernel
theorem dX4_nearest_34 : decode cX4_nearest 34 = .ok (.ifCond .ne 12, 3) := by decide +kernel
theorem dX4_nearest_37 : decode cX4_nearest 37 = .ok (.iload 5, 2) := by decide +kernel
theorem dX4_nearest_39 : decode cX4_nearest 39 = .ok (.ifCond .eq 7, 3) := by decide +kernel
theorem dX4_nearest_42 : decode cX4_nearest 42 = .ok (.iload_n 2, 1) := by decide +kernel
theorem dX4_nearest_43 : decode cX4_nearest 43 = .ok (.iconst 1, 1) := by decide +kernel
theorem dX4_nearest_44 : decode cX4_nearest 44 = .ok (.iadd, 1) := by decide +kernel
theorem dX4_nearest_45 : decode cX4_nearest 45 = .ok (.ireturn, 1) := by decide +kernel
theorem dX4_nearest_46 : decode cX4_nearest 46 = .ok (.dload_n 3, 1) := by decide +kernel
theorem dX4_nearest_47 : decode cX4_nearest 47 = .ok (.ldc2_w 242, 3) := by decide +kernel
theorem dX4_nearest_50 : decode cX4_nearest 50 = .ok (.dcmp .g, 1) := by decide +kernel
theorem dX4_nearest_51 : decode cX4_nearest 51 = .ok (.ifCond .lt 16, 3) := by decide +kernel
theorem dX4_nearest_54 : decode cX4_nearest 54 = .ok (.dload_n 3, 1) := by decide +kernel
theorem dX4_nearest_55 : decode cX4_nearest 55 = .ok (.ldc2_w 242, 3) := by decide +kernel
theorem dX4_nearest_58 : decode cX4_nearest 58 = .ok (.dcmp .l, 1) := by decide +kernel
theorem dX4_nearest_59 : decode cX4_nearest 59 = .ok (.ifCond .ne 12, 3) := by decide +kernel
theorem dX4_nearest_62 : decode cX4_nearest 62 = .ok (.iload 5, 2) := by decide +kernel
theorem dX4_nearest_64 : decode cX4_nearest 64 = .ok (.ifCond .eq 7, 3) := by decide +kernel
theorem dX4_nearest_67 : decode cX4_nearest 67 = .ok (.iload_n 2, 1) := by decide +kernel
theorem dX4_nearest_68 : decode cX4_nearest 68 = .ok (.iconst 1, 1) := by decide +kernel
theorem dX4_nearest_69 : decode cX4_nearest 69 = .ok (.isub, 1) := by decide +kernel
theorem dX4_nearest_70 : decode cX4_nearest 70 = .ok (.ireturn, 1) := by decide +kernel
theorem dX4_nearest_71 : decode cX4_nearest 71 = .ok (.iload_n 2, 1) := by decide +kernel
theorem dX4_nearest_72 : decode cX4_nearest 72 = .ok (.ireturn, 1) := by decide +kernel
theorem dX4_programmeOf_0 : decode cX4_programmeOf 0 = .ok (.iload_n 1, 1) := by decide +kernel
theorem dX4_programmeOf_1 : decode cX4_programmeOf 1 = .ok (.ifCond .lt 21, 3) := by decide +kernel
theorem dX4_programmeOf_4 : decode cX4_programmeOf 4 = .ok (.iload_n 1, 1) := by decide +kernel
theorem dX4_programmeOf_5 : decode cX4_programmeOf 5 = .ok (.aload_n 0, 1) := by decide +kernel
theorem dX4_programmeOf_6 : decode cX4_programmeOf 6 = .ok (.getfield 11, 3) := by decide +kernel
theorem dX4_programmeOf_9 : decode cX4_programmeOf 9 = .ok (.arraylength, 1) := by decide +kernel
theorem dX4_programmeOf_10 : decode cX4_programmeOf 10 = .ok (.if_icmp .ge 12, 3) := by decide +kernel
theorem dX4_programmeOf_13 : decode cX4_programmeOf 13 = .ok (.aload_n 0, 1) := by decide +kernel
theorem dX4_programmeOf_14 : decode cX4_programmeOf 14 = .ok (.getfield 11, 3) := by decide +kernel
theorem dX4_programmeOf_17 : decode cX4_programmeOf 17 = .ok (.iload_n 1, 1) := by decide +kernel
theorem dX4_programmeOf_18 : decode cX4_programmeOf 18 = .ok (.aaload, 1) := by decide +kernel
theorem dX4_programmeOf_19 : decode cX4_programmeOf 19 = .ok (.goto 4, 3) := by decide +kernel
theorem dX4_programmeOf_22 : decode cX4_programmeOf 22 = .ok (.aconst_null, 1) := by decide +kernel
theorem dX4_programmeOf_23 : decode cX4_programmeOf 23 = .ok (.areturn, 1) := by decide +kernel
theorem dX4_editionAt_0 : decode cX4_editionAt 0 = .ok (.iload_n 1, 1) := by decide +kernel
theorem dX4_editionAt_1 : decode cX4_editionAt 1 = .ok (.ifCond .lt 21, 3) := by decide +kernel
theorem dX4_editionAt_4 : decode cX4_editionAt 4 = .ok (.iload_n 1, 1) := by decide +kernel
theorem dX4_editionAt_5 : decode cX4_editionAt 5 = .ok (.aload_n 0, 1) := by decide +kernel
theorem dX4_editionAt_6 : decode cX4_editionAt 6 = .ok (.getfield 17, 3) := by decide +kernel
theorem dX4_editionAt_9 : decode cX4_editionAt 9 = .ok (.arraylength, 1) := by decide +kernel
theorem dX4_editionAt_10 : decode cX4_editionAt 10 = .ok (.if_icmp .ge 12, 3) := by decide +kernel
theorem dX4_editionAt_13 : decode cX4_editionAt 13 = .ok (.aload_n 0, 1) := by decide +kernel
theorem dX4_editionAt_14 : decode cX4_editionAt 14 = .ok (.getfield 17, 3) := by decide +kernel
theorem dX4_editionAt_17 : decode cX4_editionAt 17 = .ok (.iload_n 1, 1) := by decide +kernel
theorem dX4_editionAt_18 : decode cX4_editionAt 18 = .ok (.aaload, 1) := by decide +kernel
theorem dX4_editionAt_19 : decode cX4_editionAt 19 = .ok (.goto 4, 3) := by decide +kernel
theorem dX4_editionAt_22 : decode cX4_editionAt 22 = .ok (.aconst_null, 1) := by decide +kernel
theorem dX4_editionAt_23 : decode cX4_editionAt 23 = .ok (.areturn, 1) := by decide +kernel
theorem dX4_fillRanking_0 : decode cX4_fillRanking 0 = .ok (.iconst 0, 1) := by decide +kernel
theorem dX4_fillRanking_1 : decode cX4_fillRanking 1 = .ok (.istore_n 2, 1) := by decide +kernel
theorem dX4_fillRanking_2 : decode cX4_fillRanking 2 = .ok (.iload_n 2, 1) := by decide +kernel
theorem dX4_fillRanking_3 : decode cX4_fillRanking 3 = .ok (.aload_n 0, 1) := by decide +kernel
theorem dX4_fillRanking_4 : decode cX4_fillRanking 4 = .ok (.getfield 21, 3) := by decide +kernel
theorem dX4_fillRanking_7 : decode cX4_fillRanking 7 = .ok (.arraylength, 1) := by decide +kernel
theorem dX4_fillRanking_8 : decode cX4_fillRanking 8 = .ok (.if_icmp .ge 79, 3) := by decide +kernel
theorem dX4_fillRanking_11 : decode cX4_fillRanking 11 = .ok (.iload_n 2, 1) := by decide +kernel
theorem dX4_fillRanking_12 : decode cX4_fillRanking 12 = .ok (.aload_n 0, 1) := by decide +kernel
theorem dX4_fillRanking_13 : decode cX4_fillRanking 13 = .ok (.getfield 25, 3) := by decide +kernel
theorem dX4_fillRanking_16 : decode cX4_fillRanking 16 = .ok (.arraylength, 1) := by decide +kernel
theorem dX4_fillRanking_17 : decode cX4_fillRanking 17 = .ok (.if_icmp .ge 70, 3) := by decide +kernel
theorem dX4_fillRanking_20 : decode cX4_fillRanking 20 = .ok (.aload_n 0, 1) := by decide +kernel
theorem dX4_fillRanking_21 : decode cX4_fillRanking 21 = .ok (.iload_n 2, 1) := by decide +kernel
theorem dX4_fillRanking_22 : decode cX4_fillRanking 22 = .ok (.invokevirtual 45, 3) := by decide +kernel
theorem dX4_fillRanking_25 : decode cX4_fillRanking 25 = .ok (.astore_n 3, 1) := by decide +kernel
theorem dX4_fillRanking_26 : decode cX4_fillRanking 26 = .ok (.aload_n 3, 1) := by decide +kernel
theorem dX4_fillRanking_27 : decode cX4_fillRanking 27 = .ok (.ifnull 40, 3) := by decide +kernel
theorem dX4_fillRanking_30 : decode cX4_fillRanking 30 = .ok (.aload_n 3, 1) := by decide +kernel
theorem dX4_fillRanking_31 : decode cX4_fillRanking 31 = .ok (.getfield 104, 3) := by decide +kernel
theorem dX4_fillRanking_34 : decode cX4_fillRanking 34 = .ok (.ifCond .eq 33, 3) := by decide +kernel
theorem dX4_fillRanking_37 : decode cX4_fillRanking 37 = .ok (.aload_n 0, 1) := by decide +kernel
theorem dX4_fillRanking_38 : decode cX4_fillRanking 38 = .ok (.getfield 25, 3) := by decide +kernel
theorem dX4_fillRanking_41 : decode cX4_fillRanking 41 = .ok (.iload_n 2, 1) := by decide +kernel
theorem dX4_fillRanking_42 : decode cX4_fillRanking 42 = .ok (.aload_n 3, 1) := by decide +kernel
theorem dX4_fillRanking_43 : decode cX4_fillRanking 43 = .ok (.aload_n 1, 1) := by decide +kernel
theorem dX4_fillRanking_44 : decode cX4_fillRanking 44 = .ok (.invokevirtual 191, 3) := by decide +kernel
theorem dX4_fillRanking_47 : decode cX4_fillRanking 47 = .ok (.iastore, 1) := by decide +kernel
theorem dX4_fillRanking_48 : decode cX4_fillRanking 48 = .ok (.aload_n 0, 1) := by decide +kernel
theorem dX4_fillRanking_49 : decode cX4_fillRanking 49 = .ok (.getfield 21, 3) := by decide +kernel
theorem dX4_fillRanking_52 : decode cX4_fillRanking 52 = .ok (.iload_n 2, 1) := by decide +kernel
theorem dX4_fillRanking_53 : decode cX4_fillRanking 53 = .ok (.aload_n 3, 1) := by decide +kernel
theorem dX4_fillRanking_54 : decode cX4_fillRanking 54 = .ok (.aload_n 0, 1) := by decide +kernel
theorem dX4_fillRanking_55 : decode cX4_fillRanking 55 = .ok (.getfield 25, 3) := by decide +kernel
theorem dX4_fillRanking_58 : decode cX4_fillRanking 58 = .ok (.iload_n 2, 1) := by decide +kernel
theorem dX4_fillRanking_59 : decode cX4_fillRanking 59 = .ok (.iaload, 1) := by decide +kernel
theorem dX4_fillRanking_60 : decode cX4_fillRanking 60 = .ok (.invokevirtual 200, 3) := by decide +kernel
theorem dX4_fillRanking_63 : decode cX4_fillRanking 63 = .ok (.iastore, 1) := by decide +kernel
theorem dX4_fillRanking_64 : decode cX4_fillRanking 64 = .ok (.goto 17, 3) := by decide +kernel
theorem dX4_fillRanking_67 : decode cX4_fillRanking 67 = .ok (.aload_n 0, 1) := by decide +kernel
theorem dX4_fillRanking_68 : decode cX4_fillRanking 68 = .ok (.getfield 21, 3) := by decide +kernel
theorem dX4_fillRanking_71 : decode cX4_fillRanking 71 = .ok (.iload_n 2, 1) := by decide +kernel
theorem dX4_fillRanking_72 : decode cX4_fillRanking 72 = .ok (.iconst (-1), 1) := by decide +kernel
theorem dX4_fillRanking_73 : decode cX4_fillRanking 73 = .ok (.iastore, 1) := by decide +kernel
theorem dX4_fillRanking_74 : decode cX4_fillRanking 74 = .ok (.aload_n 0, 1) := by decide +kernel
theorem dX4_fillRanking_75 : decode cX4_fillRanking 75 = .ok (.getfield 25, 3) := by decide +kernel
theorem dX4_fillRanking_78 : decode cX4_fillRanking 78 = .ok (.iload_n 2, 1) := by decide +kernel
theorem dX4_fillRanking_79 : decode cX4_fillRanking 79 = .ok (.iconst 0, 1) := by decide +kernel
theorem dX4_fillRanking_80 : decode cX4_fillRanking 80 = .ok (.iastore, 1) := by decide +kernel
theorem dX4_fillRanking_81 : decode cX4_fillRanking 81 = .ok (.iinc 2 1, 3) := by decide +kernel
theorem dX4_fillRanking_84 : decode cX4_fillRanking 84 = .ok (.goto (-82), 3) := by decide +kernel
theorem dX4_fillRanking_87 : decode cX4_fillRanking 87 = .ok (.return_, 1) := by decide +kernel
theorem dX4_isRankPlace_0 : decode cX4_isRankPlace 0 = .ok (.iload_n 1, 1) := by decide +kernel
theorem dX4_isRankPlace_1 : decode cX4_isRankPlace 1 = .ok (.ifCond .lt 25, 3) := by decide +kernel
theorem dX4_isRankPlace_4 : decode cX4_isRankPlace 4 = .ok (.iload_n 1, 1) := by decide +kernel
theorem dX4_isRankPlace_5 : decode cX4_isRankPlace 5 = .ok (.aload_n 0, 1) := by decide +kernel
theorem dX4_isRankPlace_6 : decode cX4_isRankPlace 6 = .ok (.getfield 21, 3) := by decide +kernel
theorem dX4_isRankPlace_9 : decode cX4_isRankPlace 9 = .ok (.arraylength, 1) := by decide +kernel
theorem dX4_isRankPlace_10 : decode cX4_isRankPlace 10 = .ok (.if_icmp .ge 16, 3) := by decide +kernel
theorem dX4_isRankPlace_13 : decode cX4_isRankPlace 13 = .ok (.iload_n 1, 1) := by decide +kernel
theorem dX4_isRankPlace_14 : decode cX4_isRankPlace 14 = .ok (.aload_n 0, 1) := by decide +kernel
theorem dX4_isRankPlace_15 : decode cX4_isRankPlace 15 = .ok (.getfield 25, 3) := by decide +kernel
theorem dX4_isRankPlace_18 : decode cX4_isRankPlace 18 = .ok (.arraylength, 1) := by decide +kernel
theorem dX4_isRankPlace_19 : decode cX4_isRankPlace 19 = .ok (.if_icmp .ge 7, 3) := by decide +kernel
theorem dX4_isRankPlace_22 : decode cX4_isRankPlace 22 = .ok (.iconst 1, 1) := by decide +kernel
theorem dX4_isRankPlace_23 : decode cX4_isRankPlace 23 = .ok (.goto 4, 3) := by decide +kernel
theorem dX4_isRankPlace_26 : decode cX4_isRankPlace 26 = .ok (.iconst 0, 1) := by decide +kernel
theorem dX4_isRankPlace_27 : decode cX4_isRankPlace 27 = .ok (.ireturn, 1) := by decide +kernel
theorem dX4_isRanked_0 : decode cX4_isRanked 0 = .ok (.aload_n 0, 1) := by decide +kernel
theorem dX4_isRanked_1 : decode cX4_isRanked 1 = .ok (.iload_n 1, 1) := by decide +kernel
theorem dX4_isRanked_2 : decode cX4_isRanked 2 = .ok (.invokevirtual 244, 3) := by decide +kernel
theorem dX4_isRanked_5 : decode cX4_isRanked 5 = .ok (.ifCond .eq 17, 3) := by decide +kernel
theorem dX4_isRanked_8 : decode cX4_isRanked 8 = .ok (.aload_n 0, 1) := by decide +kernel
theorem dX4_isRanked_9 : decode cX4_isRanked 9 = .ok (.getfield 21, 3) := by decide +kernel
theorem dX4_isRanked_12 : decode cX4_isRanked 12 = .ok (.iload_n 1, 1) := by decide +kernel
theorem dX4_isRanked_13 : decode cX4_isRanked 13 = .ok (.iaload, 1) := by decide +kernel
theorem dX4_isRanked_14 : decode cX4_isRanked 14 = .ok (.iconst (-1), 1) := by decide +kernel
theorem dX4_isRanked_15 : decode cX4_isRanked 15 = .ok (.if_icmp .eq 7, 3) := by decide +kernel
theorem dX4_isRanked_18 : decode cX4_isRanked 18 = .ok (.iconst 1, 1) := by decide +kernel
theorem dX4_isRanked_19 : decode cX4_isRanked 19 = .ok (.goto 4, 3) := by decide +kernel
theorem dX4_isRanked_22 : decode cX4_isRanked 22 = .ok (.iconst 0, 1) := by decide +kernel
theorem dX4_isRanked_23 : decode cX4_isRanked 23 = .ok (.ireturn, 1) := by decide +kernel
theorem dX4_isAhead_0 : decode cX4_isAhead 0 = .ok (.aload_n 0, 1) := by decide +kernel
theorem dX4_isAhead_1 : decode cX4_isAhead 1 = .ok (.iload_n 1, 1) := by decide +kernel
theorem dX4_isAhead_2 : decode cX4_isAhead 2 = .ok (.invokevirtual 247, 3) := by decide +kernel
theorem dX4_isAhead_5 : decode cX4_isAhead 5 = .ok (.ifCond .eq 11, 3) := by decide +kernel
theorem dX4_isAhead_8 : decode cX4_isAhead 8 = .ok (.aload_n 0, 1) := by decide +kernel
theorem dX4_isAhead_9 : decode cX4_isAhead 9 = .ok (.iload_n 2, 1) := by decide +kernel
theorem dX4_isAhead_10 : decode cX4_isAhead 10 = .ok (.invokevirtual 247, 3) := by decide +kernel
theorem dX4_isAhead_13 : decode cX4_isAhead 13 = .ok (.ifCond .ne 5, 3) := by decide +kernel
theorem dX4_isAhead_16 : decode cX4_isAhead 16 = .ok (.iconst 0, 1) := by decide +kernel
theorem dX4_isAhead_17 : decode cX4_isAhead 17 = .ok (.ireturn, 1) := by decide +kernel
theorem dX4_isAhead_18 : decode cX4_isAhead 18 = .ok (.aload_n 0, 1) := by decide +kernel
theorem dX4_isAhead_19 : decode cX4_isAhead 19 = .ok (.getfield 21, 3) := by decide +kernel
theorem dX4_isAhead_22 : decode cX4_isAhead 22 = .ok (.iload_n 1, 1) := by decide +kernel
theorem dX4_isAhead_23 : decode cX4_isAhead 23 = .ok (.iaload, 1) := by decide +kernel
theorem dX4_isAhead_24 : decode cX4_isAhead 24 = .ok (.aload_n 0, 1) := by decide +kernel
theorem dX4_isAhead_25 : decode cX4_isAhead 25 = .ok (.getfield 21, 3) := by decide +kernel
theorem dX4_isAhead_28 : decode cX4_isAhead 28 = .ok (.iload_n 2, 1) := by decide +kernel
theorem dX4_isAhead_29 : decode cX4_isAhead 29 = .ok (.iaload, 1) := by decide +kernel
theorem dX4_isAhead_30 : decode cX4_isAhead 30 = .ok (.if_icmp .eq 24, 3) := by decide +kernel
theorem dX4_isAhead_33 : decode cX4_isAhead 33 = .ok (.aload_n 0, 1) := by decide +kernel
theorem dX4_isAhead_34 : decode cX4_isAhead 34 = .ok (.getfield 21, 3) := by decide +kernel
theorem dX4_isAhead_37 : decode cX4_isAhead 37 = .ok (.iload_n 1, 1) := by decide +kernel
theorem dX4_isAhead_38 : decode cX4_isAhead 38 = .ok (.iaload, 1) := by decide +kernel
theorem dX4_isAhead_39 : decode cX4_isAhead 39 = .ok (.aload_n 0, 1) := by decide +kernel
theorem dX4_isAhead_40 : decode cX4_isAhead 40 = .ok (.getfield 21, 3) := by decide +kernel
theorem dX4_isAhead_43 : decode cX4_isAhead 43 = .ok (.iload_n 2, 1) := by decide +kernel
theorem dX4_isAhead_44 : decode cX4_isAhead 44 = .ok (.iaload, 1) := by decide +kernel
theorem dX4_isAhead_45 : decode cX4_isAhead 45 = .ok (.if_icmp .le 7, 3) := by decide +kernel
theorem dX4_isAhead_48 : decode cX4_isAhead 48 = .ok (.iconst 1, 1) := by decide +kernel
theorem dX4_isAhead_49 : decode cX4_isAhead 49 = .ok (.goto 4, 3) := by decide +kernel
theorem dX4_isAhead_52 : decode cX4_isAhead 52 = .ok (.iconst 0, 1) := by decide +kernel
theorem dX4_isAhead_53 : decode cX4_isAhead 53 = .ok (.ireturn, 1) := by decide +kernel
theorem dX4_isAhead_54 : decode cX4_isAhead 54 = .ok (.aload_n 0, 1) := by decide +kernel
theorem dX4_isAhead_55 : decode cX4_isAhead 55 = .ok (.getfield 25, 3) := by decide +kernel
theorem dX4_isAhead_58 : decode cX4_isAhead 58 = .ok (.iload_n 1, 1) := by decide +kernel
theorem dX4_isAhead_59 : decode cX4_isAhead 59 = .ok (.iaload, 1) := by decide +kernel
theorem dX4_isAhead_60 : decode cX4_isAhead 60 = .ok (.aload_n 0, 1) := by decide +kernel
theorem dX4_isAhead_61 : decode cX4_isAhead 61 = .ok (.getfield 25, 3) := by decide +kernel
theorem dX4_isAhead_64 : decode cX4_isAhead 64 = .ok (.iload_n 2, 1) := by decide +kernel
theorem dX4_isAhead_65 : decode cX4_isAhead 65 = .ok (.iaload, 1) := by decide +kernel
theorem dX4_isAhead_66 : decode cX4_isAhead 66 = .ok (.if_icmp .eq 24, 3) := by decide +kernel
theorem dX4_isAhead_69 : decode cX4_isAhead 69 = .ok (.aload_n 0, 1) := by decide +kernel
theorem dX4_isAhead_70 : decode cX4_isAhead 70 = .ok (.getfield 25, 3) := by decide +kernel
theorem dX4_isAhead_73 : decode cX4_isAhead 73 = .ok (.iload_n 1, 1) := by decide +kernel
theorem dX4_isAhead_74 : decode cX4_isAhead 74 = .ok (.iaload, 1) := by decide +kernel
theorem dX4_isAhead_75 : decode cX4_isAhead 75 = .ok (.aload_n 0, 1) := by decide +kernel
theorem dX4_isAhead_76 : decode cX4_isAhead 76 = .ok (.getfield 25, 3) := by decide +kernel
theorem dX4_isAhead_79 : decode cX4_isAhead 79 = .ok (.iload_n 2, 1) := by decide +kernel
theorem dX4_isAhead_80 : decode cX4_isAhead 80 = .ok (.iaload, 1) := by decide +kernel
theorem dX4_isAhead_81 : decode cX4_isAhead 81 = .ok (.if_icmp .le 7, 3) := by decide +kernel
theorem dX4_isAhead_84 : decode cX4_isAhead 84 = .ok (.iconst 1, 1) := by decide +kernel
theorem dX4_isAhead_85 : decode cX4_isAhead 85 = .ok (.goto 4, 3) := by decide +kernel
theorem dX4_isAhead_88 : decode cX4_isAhead 88 = .ok (.iconst 0, 1) := by decide +kernel
theorem dX4_isAhead_89 : decode cX4_isAhead 89 = .ok (.ireturn, 1) := by decide +kernel
theorem dX4_isAhead_90 : decode cX4_isAhead 90 = .ok (.iload_n 1, 1) := by decide +kernel
theorem dX4_isAhead_91 : decode cX4_isAhead 91 = .ok (.iload_n 2, 1) := by decide +kernel
theorem dX4_isAhead_92 : decode cX4_isAhead 92 = .ok (.if_icmp .ge 7, 3) := by decide +kernel
theorem dX4_isAhead_95 : decode cX4_isAhead 95 = .ok (.iconst 1, 1) := by decide +kernel
theorem dX4_isAhead_96 : decode cX4_isAhead 96 = .ok (.goto 4, 3) := by decide +kernel
theorem dX4_isAhead_99 : decode cX4_isAhead 99 = .ok (.iconst 0, 1) := by decide +kernel
theorem dX4_isAhead_100 : decode cX4_isAhead 100 = .ok (.ireturn, 1) := by decide +kernel
theorem dX4_rankOf_0 : decode cX4_rankOf 0 = .ok (.aload_n 0, 1) := by decide +kernel
theorem dX4_rankOf_1 : decode cX4_rankOf 1 = .ok (.iload_n 1, 1) := by decide +kernel
theorem dX4_rankOf_2 : decode cX4_rankOf 2 = .ok (.invokevirtual 247, 3) := by decide +kernel
theorem dX4_rankOf_5 : decode cX4_rankOf 5 = .ok (.ifCond .ne 5, 3) := by decide +kernel
theorem dX4_rankOf_8 : decode cX4_rankOf 8 = .ok (.iconst (-1), 1) := by decide +kernel
theorem dX4_rankOf_9 : decode cX4_rankOf 9 = .ok (.ireturn, 1) := by decide +kernel
theorem dX4_rankOf_10 : decode cX4_rankOf 10 = .ok (.iconst 0, 1) := by decide +kernel
theorem dX4_rankOf_11 : decode cX4_rankOf 11 = .ok (.istore_n 2, 1) := by decide +kernel
theorem dX4_rankOf_12 : decode cX4_rankOf 12 = .ok (.iconst 0, 1) := by decide +kernel
theorem dX4_rankOf_13 : decode cX4_rankOf 13 = .ok (.istore_n 3, 1) := by decide +kernel
theorem dX4_rankOf_14 : decode cX4_rankOf 14 = .ok (.iload_n 3, 1) := by decide +kernel
theorem dX4_rankOf_15 : decode cX4_rankOf 15 = .ok (.bipush 12, 2) := by decide +kernel
theorem dX4_rankOf_17 : decode cX4_rankOf 17 = .ok (.if_icmp .ge 21, 3) := by decide +kernel
theorem dX4_rankOf_20 : decode cX4_rankOf 20 = .ok (.aload_n 0, 1) := by decide +kernel
theorem dX4_rankOf_21 : decode cX4_rankOf 21 = .ok (.iload_n 3, 1) := by decide +kernel
theorem dX4_rankOf_22 : decode cX4_rankOf 22 = .ok (.iload_n 1, 1) := by decide +kernel
theorem dX4_rankOf_23 : decode cX4_rankOf 23 = .ok (.invokevirtual 250, 3) := by decide +kernel
theorem dX4_rankOf_26 : decode cX4_rankOf 26 = .ok (.ifCond .eq 6, 3) := by decide +kernel
theorem dX4_rankOf_29 : decode cX4_rankOf 29 = .ok (.iinc 2 1, 3) := by decide +kernel
theorem dX4_rankOf_32 : decode cX4_rankOf 32 = .ok (.iinc 3 1, 3) := by decide +kernel
theorem dX4_rankOf_35 : decode cX4_rankOf 35 = .ok (.goto (-21), 3) := by decide +kernel
theorem dX4_rankOf_38 : decode cX4_rankOf 38 = .ok (.iload_n 2, 1) := by decide +kernel
theorem dX4_rankOf_39 : decode cX4_rankOf 39 = .ok (.ireturn, 1) := by decide +kernel
theorem dX4_howManyRanked_0 : decode cX4_howManyRanked 0 = .ok (.iconst 0, 1) := by decide +kernel
theorem dX4_howManyRanked_1 : decode cX4_howManyRanked 1 = .ok (.istore_n 1, 1) := by decide +kernel
theorem dX4_howManyRanked_2 : decode cX4_howManyRanked 2 = .ok (.iconst 0, 1) := by decide +kernel
theorem dX4_howManyRanked_3 : decode cX4_howManyRanked 3 = .ok (.istore_n 2, 1) := by decide +kernel
theorem dX4_howManyRanked_4 : decode cX4_howManyRanked 4 = .ok (.iload_n 2, 1) := by decide +kernel
theorem dX4_howManyRanked_5 : decode cX4_howManyRanked 5 = .ok (.bipush 12, 2) := by decide +kernel
theorem dX4_howManyRanked_7 : decode cX4_howManyRanked 7 = .ok (.if_icmp .ge 20, 3) := by decide +kernel
theorem dX4_howManyRanked_10 : decode cX4_howManyRanked 10 = .ok (.aload_n 0, 1) := by decide +kernel
theorem dX4_howManyRanked_11 : decode cX4_howManyRanked 11 = .ok (.iload_n 2, 1) := by decide +kernel
theorem dX4_howManyRanked_12 : decode cX4_howManyRanked 12 = .ok (.invokevirtual 247, 3) := by decide +kernel
theorem dX4_howManyRanked_15 : decode cX4_howManyRanked 15 = .ok (.ifCond .eq 6, 3) := by decide +kernel
theorem dX4_howManyRanked_18 : decode cX4_howManyRanked 18 = .ok (.iinc 1 1, 3) := by decide +kernel
theorem dX4_howManyRanked_21 : decode cX4_howManyRanked 21 = .ok (.iinc 2 1, 3) := by decide +kernel
theorem dX4_howManyRanked_24 : decode cX4_howManyRanked 24 = .ok (.goto (-20), 3) := by decide +kernel
theorem dX4_howManyRanked_27 : decode cX4_howManyRanked 27 = .ok (.iload_n 1, 1) := by decide +kernel
theorem dX4_howManyRanked_28 : decode cX4_howManyRanked 28 = .ok (.ireturn, 1) := by decide +kernel
theorem dX4_skaterOfRank_0 : decode cX4_skaterOfRank 0 = .ok (.iconst 0, 1) := by decide +kernel
theorem dX4_skaterOfRank_1 : decode cX4_skaterOfRank 1 = .ok (.istore_n 2, 1) := by decide +kernel
theorem dX4_skaterOfRank_2 : decode cX4_skaterOfRank 2 = .ok (.iload_n 2, 1) := by decide +kernel
theorem dX4_skaterOfRank_3 : decode cX4_skaterOfRank 3 = .ok (.bipush 12, 2) := by decide +kernel
theorem dX4_skaterOfRank_5 : decode cX4_skaterOfRank 5 = .ok (.if_icmp .ge 28, 3) := by decide +kernel
theorem dX4_skaterOfRank_8 : decode cX4_skaterOfRank 8 = .ok (.aload_n 0, 1) := by decide +kernel
theorem dX4_skaterOfRank_9 : decode cX4_skaterOfRank 9 = .ok (.iload_n 2, 1) := by decide +kernel
theorem dX4_skaterOfRank_10 : decode cX4_skaterOfRank 10 = .ok (.invokevirtual 247, 3) := by decide +kernel
theorem dX4_skaterOfRank_13 : decode cX4_skaterOfRank 13 = .ok (.ifCond .eq 14, 3) := by decide +kernel
theorem dX4_skaterOfRank_16 : decode cX4_skaterOfRank 16 = .ok (.aload_n 0, 1) := by decide +kernel
theorem dX4_skaterOfRank_17 : decode cX4_skaterOfRank 17 = .ok (.iload_n 2, 1) := by decide +kernel
theorem dX4_skaterOfRank_18 : decode cX4_skaterOfRank 18 = .ok (.invokevirtual 210, 3) := by decide +kernel
theorem dX4_skaterOfRank_21 : decode cX4_skaterOfRank 21 = .ok (.iload_n 1, 1) := by decide +kernel
theorem dX4_skaterOfRank_22 : decode cX4_skaterOfRank 22 = .ok (.if_icmp .ne 5, 3) := by decide +kernel
theorem dX4_skaterOfRank_25 : decode cX4_skaterOfRank 25 = .ok (.iload_n 2, 1) := by decide +kernel
theorem dX4_skaterOfRank_26 : decode cX4_skaterOfRank 26 = .ok (.ireturn, 1) := by decide +kernel
theorem dX4_skaterOfRank_27 : decode cX4_skaterOfRank 27 = .ok (.iinc 2 1, 3) := by decide +kernel
theorem dX4_skaterOfRank_30 : decode cX4_skaterOfRank 30 = .ok (.goto (-28), 3) := by decide +kernel
theorem dX4_skaterOfRank_33 : decode cX4_skaterOfRank 33 = .ok (.iconst (-1), 1) := by decide +kernel
theorem dX4_skaterOfRank_34 : decode cX4_skaterOfRank 34 = .ok (.ireturn, 1) := by decide +kernel
theorem dX4_unrankedSkater_0 : decode cX4_unrankedSkater 0 = .ok (.iconst 0, 1) := by decide +kernel
theorem dX4_unrankedSkater_1 : decode cX4_unrankedSkater 1 = .ok (.istore_n 2, 1) := by decide +kernel
theorem dX4_unrankedSkater_2 : decode cX4_unrankedSkater 2 = .ok (.iconst 0, 1) := by decide +kernel
theorem dX4_unrankedSkater_3 : decode cX4_unrankedSkater 3 = .ok (.istore_n 3, 1) := by decide +kernel
theorem dX4_unrankedSkater_4 : decode cX4_unrankedSkater 4 = .ok (.iload_n 3, 1) := by decide +kernel
theorem dX4_unrankedSkater_5 : decode cX4_unrankedSkater 5 = .ok (.bipush 12, 2) := by decide +kernel
theorem dX4_unrankedSkater_7 : decode cX4_unrankedSkater 7 = .ok (.if_icmp .ge 35, 3) := by decide +kernel
theorem dX4_unrankedSkater_10 : decode cX4_unrankedSkater 10 = .ok (.aload_n 0, 1) := by decide +kernel
theorem dX4_unrankedSkater_11 : decode cX4_unrankedSkater 11 = .ok (.iload_n 3, 1) := by decide +kernel
theorem dX4_unrankedSkater_12 : decode cX4_unrankedSkater 12 = .ok (.invokevirtual 45, 3) := by decide +kernel
theorem dX4_unrankedSkater_15 : decode cX4_unrankedSkater 15 = .ok (.ifnull 21, 3) := by decide +kernel
theorem dX4_unrankedSkater_18 : decode cX4_unrankedSkater 18 = .ok (.aload_n 0, 1) := by decide +kernel
theorem dX4_unrankedSkater_19 : decode cX4_unrankedSkater 19 = .ok (.iload_n 3, 1) := by decide +kernel
theorem dX4_unrankedSkater_20 : decode cX4_unrankedSkater 20 = .ok (.invokevirtual 247, 3) := by decide +kernel
theorem dX4_unrankedSkater_23 : decode cX4_unrankedSkater 23 = .ok (.ifCond .ne 13, 3) := by decide +kernel
theorem dX4_unrankedSkater_26 : decode cX4_unrankedSkater 26 = .ok (.iload_n 2, 1) := by decide +kernel
theorem dX4_unrankedSkater_27 : decode cX4_unrankedSkater 27 = .ok (.iload_n 1, 1) := by decide +kernel
theorem dX4_unrankedSkater_28 : decode cX4_unrankedSkater 28 = .ok (.if_icmp .ne 5, 3) := by decide +kernel
theorem dX4_unrankedSkater_31 : decode cX4_unrankedSkater 31 = .ok (.iload_n 3, 1) := by decide +kernel
theorem dX4_unrankedSkater_32 : decode cX4_unrankedSkater 32 = .ok (.ireturn, 1) := by decide +kernel
theorem dX4_unrankedSkater_33 : decode cX4_unrankedSkater 33 = .ok (.iinc 2 1, 3) := by decide +kernel
theorem dX4_unrankedSkater_36 : decode cX4_unrankedSkater 36 = .ok (.iinc 3 1, 3) := by decide +kernel
theorem dX4_unrankedSkater_39 : decode cX4_unrankedSkater 39 = .ok (.goto (-35), 3) := by decide +kernel
theorem dX4_unrankedSkater_42 : decode cX4_unrankedSkater 42 = .ok (.iconst (-1), 1) := by decide +kernel
theorem dX4_unrankedSkater_43 : decode cX4_unrankedSkater 43 = .ok (.ireturn, 1) := by decide +kernel
theorem dX5_init_0 : decode cX5_init 0 = .ok (.aload_n 0, 1) := by decide +kernel
theorem dX5_init_1 : decode cX5_init 1 = .ok (.invokespecial 1, 3) := by decide +kernel
theorem dX5_init_4 : decode cX5_init 4 = .ok (.aload_n 0, 1) := by decide +kernel
theorem dX5_init_5 : decode cX5_init 5 = .ok (.iconst (-1), 1) := by decide +kernel
theorem dX5_init_6 : decode cX5_init 6 = .ok (.putfield 9, 3) := by decide +kernel
theorem dX5_init_9 : decode cX5_init 9 = .ok (.aload_n 0, 1) := by decide +kernel
theorem dX5_init_10 : decode cX5_init 10 = .ok (.bipush 12, 2) := by decide +kernel
theorem dX5_init_12 : decode cX5_init 12 = .ok (.newarray .int, 2) := by decide +kernel
theorem dX5_init_14 : decode cX5_init 14 = .ok (.putfield 13, 3) := by decide +kernel
theorem dX5_init_17 : decode cX5_init 17 = .ok (.aload_n 0, 1) := by decide +kernel
theorem dX5_init_18 : decode cX5_init 18 = .ok (.bipush 12, 2) := by decide +kernel
theorem dX5_init_20 : decode cX5_init 20 = .ok (.newarray .int, 2) := by decide +kernel
theorem dX5_init_22 : decode cX5_init 22 = .ok (.putfield 17, 3) := by decide +kernel
theorem dX5_init_25 : decode cX5_init 25 = .ok (.aload_n 0, 1) := by decide +kernel
theorem dX5_init_26 : decode cX5_init 26 = .ok (.bipush 12, 2) := by decide +kernel
theorem dX5_init_28 : decode cX5_init 28 = .ok (.newarray .int, 2) := by decide +kernel
theorem dX5_init_30 : decode cX5_init 30 = .ok (.putfield 20, 3) := by decide +kernel
theorem dX5_init_33 : decode cX5_init 33 = .ok (.aload_n 0, 1) := by decide +kernel
theorem dX5_init_34 : decode cX5_init 34 = .ok (.sipush 144, 3) := by decide +kernel
theorem dX5_init_37 : decode cX5_init 37 = .ok (.newarray .int, 2) := by decide +kernel
theorem dX5_init_39 : decode cX5_init 39 = .ok (.putfield 23, 3) := by decide +kernel
theorem dX5_init_42 : decode cX5_init 42 = .ok (.aload_n 0, 1) := by decide +kernel
theorem dX5_init_43 : decode cX5_init 43 = .ok (.sipush 144, 3) := by decide +kernel
theorem dX5_init_46 : decode cX5_init 46 = .ok (.newarray .int, 2) := by decide +kernel
theorem dX5_init_48 : decode cX5_init 48 = .ok (.putfield 26, 3) := by decide +kernel
theorem dX5_init_51 : decode cX5_init 51 = .ok (.aload_n 0, 1) := by decide +kernel
theorem dX5_init_52 : decode cX5_init 52 = .ok (.sipush 144, 3) := by decide +kernel
theorem dX5_init_55 : decode cX5_init 55 = .ok (.newarray .int, 2) := by decide +kernel
theorem dX5_init_57 : decode cX5_init 57 = .ok (.putfield 29, 3) := by decide +kernel
theorem dX5_init_60 : decode cX5_init 60 = .ok (.aload_n 0, 1) := by decide +kernel
theorem dX5_init_61 : decode cX5_init 61 = .ok (.sipush 432, 3) := by decide +kernel
theorem dX5_init_64 : decode cX5_init 64 = .ok (.newarray .int, 2) := by decide +kernel
theorem dX5_init_66 : decode cX5_init 66 = .ok (.putfield 32, 3) := by decide +kernel
theorem dX5_init_69 : decode cX5_init 69 = .ok (.aload_n 0, 1) := by decide +kernel
theorem dX5_init_70 : decode cX5_init 70 = .ok (.sipush 144, 3) := by decide +kernel
theorem dX5_init_73 : decode cX5_init 73 = .ok (.newarray .boolean, 2) := by decide +kernel
theorem dX5_init_75 : decode cX5_init 75 = .ok (.putfield 35, 3) := by decide +kernel
theorem dX5_init_78 : decode cX5_init 78 = .ok (.aload_n 0, 1) := by decide +kernel
theorem dX5_init_79 : decode cX5_init 79 = .ok (.sipush 144, 3) := by decide +kernel
theorem dX5_init_82 : decode cX5_init 82 = .ok (.newarray .boolean, 2) := by decide +kernel
theorem dX5_init_84 : decode cX5_init 84 = .ok (.putfield 39, 3) := by decide +kernel
theorem dX5_init_87 : decode cX5_init 87 = .ok (.aload_n 0, 1) := by decide +kernel
theorem dX5_init_88 : decode cX5_init 88 = .ok (.sipush 144, 3) := by decide +kernel
theorem dX5_init_91 : decode cX5_init 91 = .ok (.newarray .boolean, 2) := by decide +kernel
theorem dX5_init_93 : decode cX5_init 93 = .ok (.putfield 42, 3) := by decide +kernel
theorem dX5_init_96 : decode cX5_init 96 = .ok (.aload_n 0, 1) := by decide +kernel
theorem dX5_init_97 : decode cX5_init 97 = .ok (.sipush 1008, 3) := by decide +kernel
theorem dX5_init_100 : decode cX5_init 100 = .ok (.newarray .int, 2) := by decide +kernel
theorem dX5_init_102 : decode cX5_init 102 = .ok (.putfield 45, 3) := by decide +kernel
theorem dX5_init_105 : decode cX5_init 105 = .ok (.aload_n 0, 1) := by decide +kernel
theorem dX5_init_106 : decode cX5_init 106 = .ok (.sipush 252, 3) := by decide +kernel
theorem dX5_init_109 : decode cX5_init 109 = .ok (.newarray .int, 2) := by decide +kernel
theorem dX5_init_111 : decode cX5_init 111 = .ok (.putfield 48, 3) := by decide +kernel
theorem dX5_init_114 : decode cX5_init 114 = .ok (.aload_n 0, 1) := by decide +kernel
theorem dX5_init_115 : decode cX5_init 115 = .ok (.bipush 87, 2) := by decide +kernel
theorem dX5_init_117 : decode cX5_init 117 = .ok (.newarray .int, 2) := by decide +kernel
theorem dX5_init_119 : decode cX5_init 119 = .ok (.putfield 51, 3) := by decide +kernel
theorem dX5_init_122 : decode cX5_init 122 = .ok (.iconst 0, 1) := by decide +kernel
theorem dX5_init_123 : decode cX5_init 123 = .ok (.istore_n 1, 1) := by decide +kernel
theorem dX5_init_124 : decode cX5_init 124 = .ok (.iload_n 1, 1) := by decide +kernel
theorem dX5_init_125 : decode cX5_init 125 = .ok (.sipush 432, 3) := by decide +kernel
theorem dX5_init_128 : decode cX5_init 128 = .ok (.if_icmp .ge 17, 3) := by decide +kernel
theorem dX5_init_131 : decode cX5_init 131 = .ok (.aload_n 0, 1) := by decide +kernel
theorem dX5_init_132 : decode cX5_init 132 = .ok (.getfield 32, 3) := by decide +kernel
theorem dX5_init_135 : decode cX5_init 135 = .ok (.iload_n 1, 1) := by decide +kernel
theorem dX5_init_136 : decode cX5_init 136 = .ok (.bipush (-99), 2) := by decide +kernel
theorem dX5_init_138 : decode cX5_init 138 = .ok (.iastore, 1) := by decide +kernel
theorem dX5_init_139 : decode cX5_init 139 = .ok (.iinc 1 1, 3) := by decide +kernel
theorem dX5_init_142 : decode cX5_init 142 = .ok (.goto (-18), 3) := by decide +kernel
theorem dX5_init_145 : decode cX5_init 145 = .ok (.iconst 0, 1) := by decide +kernel
theorem dX5_init_146 : decode cX5_init 146 = .ok (.istore_n 1, 1) := by decide +kernel
theorem dX5_init_147 : decode cX5_init 147 = .ok (.iload_n 1, 1) := by decide +kernel
theorem dX5_init_148 : decode cX5_init 148 = .ok (.sipush 1008, 3) := by decide +kernel
theorem dX5_init_151 : decode cX5_init 151 = .ok (.if_icmp .ge 17, 3) := by decide +kernel
theorem dX5_init_154 : decode cX5_init 154 = .ok (.aload_n 0, 1) := by decide +kernel
theorem dX5_init_155 : decode cX5_init 155 = .ok (.getfield 45, 3) := by decide +kernel
theorem dX5_init_158 : decode cX5_init 158 = .ok (.iload_n 1, 1) := by decide +kernel
theorem dX5_init_159 : decode cX5_init 159 = .ok (.bipush (-99), 2) := by decide +kernel
theorem dX5_init_161 : decode cX5_init 161 = .ok (.iastore, 1) := by decide +kernel
theorem dX5_init_162 : decode cX5_init 162 = .ok (.iinc 1 1, 3) := by decide +kernel
theorem dX5_init_165 : decode cX5_init 165 = .ok (.goto (-18), 3) := by decide +kernel
theorem dX5_init_168 : decode cX5_init 168 = .ok (.iconst 0, 1) := by decide +kernel
theorem dX5_init_169 : decode cX5_init 169 = .ok (.istore_n 1, 1) := by decide +kernel
theorem dX5_init_170 : decode cX5_init 170 = .ok (.iload_n 1, 1) := by decide +kernel
theorem dX5_init_171 : decode cX5_init 171 = .ok (.sipush 252, 3) := by decide +kernel
theorem dX5_init_174 : decode cX5_init 174 = .ok (.if_icmp .ge 17, 3) := by decide +kernel
theorem dX5_init_177 : decode cX5_init 177 = .ok (.aload_n 0, 1) := by decide +kernel
theorem dX5_init_178 : decode cX5_init 178 = .ok (.getfield 48, 3) := by decide +kernel
theorem dX5_init_181 : decode cX5_init 181 = .ok (.iload_n 1, 1) := by decide +kernel
theorem dX5_init_182 : decode cX5_init 182 = .ok (.bipush (-99), 2) := by decide +kernel
theorem dX5_init_184 : decode cX5_init 184 = .ok (.iastore, 1) := by decide +kernel
theorem dX5_init_185 : decode cX5_init 185 = .ok (.iinc 1 1, 3) := by decide +kernel
theorem dX5_init_188 : decode cX5_init 188 = .ok (.goto (-18), 3) := by decide +kernel
theorem dX5_init_191 : decode cX5_init 191 = .ok (.iconst 0, 1) := by decide +kernel
theorem dX5_init_192 : decode cX5_init 192 = .ok (.istore_n 1, 1) := by decide +kernel
theorem dX5_init_193 : decode cX5_init 193 = .ok (.iload_n 1, 1) := by decide +kernel
theorem dX5_init_194 : decode cX5_init 194 = .ok (.iconst 3, 1) := by decide +kernel
theorem dX5_init_195 : decode cX5_init 195 = .ok (.if_icmp .ge 142, 3) := by decide +kernel
theorem dX5_init_198 : decode cX5_init 198 = .ok (.aload_n 0, 1) := by decide +kernel
theorem dX5_init_199 : decode cX5_init 199 = .ok (.iload_n 1, 1) := by decide +kernel
theorem dX5_init_200 : decode cX5_init 200 = .ok (.iconst 0, 1) := by decide +kernel
theorem dX5_init_201 : decode cX5_init 201 = .ok (.bipush 40, 2) := by decide +kernel
theorem dX5_init_203 : decode cX5_init 203 = .ok (.sipush 130, 3) := by decide +kernel
theorem dX5_init_206 : decode cX5_init 206 = .ok (.sipush 420, 3) := by decide +kernel
theorem dX5_init_209 : decode cX5_init 209 = .ok (.sipush 950, 3) := by decide +kernel
theorem dX5_init_212 : decode cX5_init 212 = .ok (.invokevirtual 54, 3) := by decide +kernel
theorem dX5_init_215 : decode cX5_init 215 = .ok (.aload_n 0, 1) := by decide +kernel
theorem dX5_init_216 : decode cX5_init 216 = .ok (.iload_n 1, 1) := by decide +kernel
theorem dX5_init_217 : decode cX5_init 217 = .ok (.iconst 1, 1) := by decide +kernel
theorem dX5_init_218 : decode cX5_init 218 = .ok (.bipush 40, 2) := by decide +kernel
theorem dX5_init_220 : decode cX5_init 220 = .ok (.sipush 130, 3) := by decide +kernel
theorem dX5_init_223 : decode cX5_init 223 = .ok (.sipush 430, 3) := by decide +kernel
theorem dX5_init_226 : decode cX5_init 226 = .ok (.sipush 970, 3) := by decide +kernel
theorem dX5_init_229 : decode cX5_init 229 = .ok (.invokevirtual 54, 3) := by decide +kernel
theorem dX5_init_232 : decode cX5_init 232 = .ok (.aload_n 0, 1) := by decide +kernel
theorem dX5_init_233 : decode cX5_init 233 = .ok (.iload_n 1, 1) := by decide +kernel
theorem dX5_init_234 : decode cX5_init 234 = .ok (.iconst 2, 1) := by decide +kernel
theorem dX5_init_235 : decode cX5_init 235 = .ok (.bipush 50, 2) := by decide +kernel
theorem dX5_init_237 : decode cX5_init 237 = .ok (.sipush 170, 3) := by decide +kernel
theorem dX5_init_240 : decode cX5_init 240 = .ok (.sipush 490, 3) := by decide +kernel
theorem dX5_init_243 : decode cX5_init 243 = .ok (.sipush 1050, 3) := by decide +kernel
theorem dX5_init_246 : decode cX5_init 246 = .ok (.invokevirtual 54, 3) := by decide +kernel
theorem dX5_init_249 : decode cX5_init 249 = .ok (.aload_n 0, 1) := by decide +kernel
theorem dX5_init_250 : decode cX5_init 250 = .ok (.iload_n 1, 1) := by decide +kernel
theorem dX5_init_251 : decode cX5_init 251 = .ok (.iconst 3, 1) := by decide +kernel
theorem dX5_init_252 : decode cX5_init 252 = .ok (.bipush 50, 2) := by decide +kernel
theorem dX5_init_254 : decode cX5_init 254 = .ok (.sipush 180, 3) := by decide +kernel
theorem dX5_init_257 : decode cX5_init 257 = .ok (.sipush 530, 3) := by decide +kernel
theorem dX5_init_260 : decode cX5_init 260 = .ok (.sipush 1100, 3) := by decide +kernel
theorem dX5_init_263 : decode cX5_init 263 = .ok (.invokevirtual 54, 3) := by decide +kernel
theorem dX5_init_266 : decode cX5_init 266 = .ok (.aload_n 0, 1) := by decide +kernel
theorem dX5_init_267 : decode cX5_init 267 = .ok (.iload_n 1, 1) := by decide +kernel
theorem dX5_init_268 : decode cX5_init 268 = .ok (.iconst 4, 1) := by decide +kernel
theorem dX5_init_269 : decode cX5_init 269 = .ok (.bipush 60, 2) := by decide +kernel
theorem dX5_init_271 : decode cX5_init 271 = .ok (.sipush 210, 3) := by decide +kernel
theorem dX5_init_274 : decode cX5_init 274 = .ok (.sipush 590, 3) := by decide +kernel
theorem dX5_init_277 : decode cX5_init 277 = .ok (.sipush 1150, 3) := by decide +kernel
theorem dX5_init_280 : decode cX5_init 280 = .ok (.invokevirtual 54, 3) := by decide +kernel
theorem dX5_init_283 : decode cX5_init 283 = .ok (.aload_n 0, 1) := by decide +kernel
theorem dX5_init_284 : decode cX5_init 284 = .ok (.iload_n 1, 1) := by decide +kernel
theorem dX5_init_285 : decode cX5_init 285 = .ok (.iconst 5, 1) := by decide +kernel
theorem dX5_init_286 : decode cX5_init 286 = .ok (.bipush 110, 2) := by decide +kernel
theorem dX5_init_288 : decode cX5_init 288 = .ok (.sipush 330, 3) := by decide +kernel
theorem dX5_init_291 : decode cX5_init 291 = .ok (.sipush 800, 3) := by decide +kernel
theorem dX5_init_294 : decode cX5_init 294 = .ok (.sipush 1250, 3) := by decide +kernel
theorem dX5_init_297 : decode cX5_init 297 = .ok (.invokevirtual 54, 3) := by decide +kernel
theorem dX5_init_300 : decode cX5_init 300 = .ok (.aload_n 0, 1) := by decide +kernel
theorem dX5_init_301 : decode cX5_init 301 = .ok (.iload_n 1, 1) := by decide +kernel
theorem dX5_init_302 : decode cX5_init 302 = .ok (.bipush 6, 2) := by decide +kernel
theorem dX5_init_304 : decode cX5_init 304 = .ok (.iconst 0, 1) := by decide +kernel
theorem dX5_init_305 : decode cX5_init 305 = .ok (.bipush 120, 2) := by decide +kernel
theorem dX5_init_307 : decode cX5_init 307 = .ok (.sipush 150, 3) := by decide +kernel
theorem dX5_init_310 : decode cX5_init 310 = .ok (.sipush 200, 3) := by decide +kernel
theorem dX5_init_313 : decode cX5_init 313 = .ok (.invokevirtual 54, 3) := by decide +kernel
theorem dX5_init_316 : decode cX5_init 316 = .ok (.aload_n 0, 1) := by decide +kernel
theorem dX5_init_317 : decode cX5_init 317 = .ok (.getfield 51, 3) := by decide +kernel
theorem dX5_init_320 : decode cX5_init 320 = .ok (.bipush 29, 2) := by decide +kernel
theorem dX5_init_322 : decode cX5_init 322 = .ok (.iload_n 1, 1) := by decide +kernel
theorem dX5_init_323 : decode cX5_init 323 = .ok (.imul, 1) := by decide +kernel
theorem dX5_init_324 : decode cX5_init 324 = .ok (.bipush 28, 2) := by decide +kernel
theorem dX5_init_326 : decode cX5_init 326 = .ok (.iadd, 1) := by decide +kernel
theorem dX5_init_327 : decode cX5_init 327 = .ok (.sipush 270, 3) := by decide +kernel
theorem dX5_init_330 : decode cX5_init 330 = .ok (.iastore, 1) := by decide +kernel
theorem dX5_init_331 : decode cX5_init 331 = .ok (.iinc 1 1, 3) := by decide +kernel
theorem dX5_init_334 : decode cX5_init 334 = .ok (.goto (-141), 3) := by decide +kernel
theorem dX5_init_337 : decode cX5_init 337 = .ok (.return_, 1) := by decide +kernel
theorem dX5_sets_0 : decode cX5_sets 0 = .ok (.aload_n 0, 1) := by decide +kernel
theorem dX5_sets_1 : decode cX5_sets 1 = .ok (.getfield 51, 3) := by decide +kernel
theorem dX5_sets_4 : decode cX5_sets 4 = .ok (.bipush 29, 2) := by decide +kernel
theorem dX5_sets_6 : decode cX5_sets 6 = .ok (.iload_n 1, 1) := by decide +kernel
theorem dX5_sets_7 : decode cX5_sets 7 = .ok (.imul, 1) := by decide +kernel
theorem dX5_sets_8 : decode cX5_sets 8 = .ok (.iconst 4, 1) := by decide +kernel
theorem dX5_sets_9 : decode cX5_sets 9 = .ok (.iload_n 2, 1) := by decide +kernel
theorem dX5_sets_10 : decode cX5_sets 10 = .ok (.imul, 1) := by decide +kernel
theorem dX5_sets_11 : decode cX5_sets 11 = .ok (.iadd, 1) := by decide +kernel
theorem dX5_sets_12 : decode cX5_sets 12 = .ok (.iload_n 3, 1) := by decide +kernel
theorem dX5_sets_13 : decode cX5_sets 13 = .ok (.iastore, 1) := by decide +kernel
theorem dX5_sets_14 : decode cX5_sets 14 = .ok (.aload_n 0, 1) := by decide +kernel
theorem dX5_sets_15 : decode cX5_sets 15 = .ok (.getfield 51, 3) := by decide +kernel
theorem dX5_sets_18 : decode cX5_sets 18 = .ok (.bipush 29, 2) := by decide +kernel
theorem dX5_sets_20 : decode cX5_sets 20 = .ok (.iload_n 1, 1) := by decide +kernel
theorem dX5_sets_21 : decode cX5_sets 21 = .ok (.imul, 1) := by decide +kernel
theorem dX5_sets_22 : decode cX5_sets 22 = .ok (.iconst 4, 1) := by decide +kernel
theorem dX5_sets_23 : decode cX5_sets 23 = .ok (.iload_n 2, 1) := by decide +kernel
theorem dX5_sets_24 : decode cX5_sets 24 = .ok (.imul, 1) := by decide +kernel
theorem dX5_sets_25 : decode cX5_sets 25 = .ok (.iadd, 1) := by decide +kernel
theorem dX5_sets_26 : decode cX5_sets 26 = .ok (.iconst 1, 1) := by decide +kernel
theorem dX5_sets_27 : decode cX5_sets 27 = .ok (.iadd, 1) := by decide +kernel
theorem dX5_sets_28 : decode cX5_sets 28 = .ok (.iload 4, 2) := by decide +kernel
theorem dX5_sets_30 : decode cX5_sets 30 = .ok (.iastore, 1) := by decide +kernel
theorem dX5_sets_31 : decode cX5_sets 31 = .ok (.aload_n 0, 1) := by decide +kernel
theorem dX5_sets_32 : decode cX5_sets 32 = .ok (.getfield 51, 3) := by decide +kernel
theorem dX5_sets_35 : decode cX5_sets 35 = .ok (.bipush 29, 2) := by decide +kernel
theorem dX5_sets_37 : decode cX5_sets 37 = .ok (.iload_n 1, 1) := by decide +kernel
theorem dX5_sets_38 : decode cX5_sets 38 = .ok (.imul, 1) := by decide +kernel
theorem dX5_sets_39 : decode cX5_sets 39 = .ok (.iconst 4, 1) := by decide +kernel
theorem dX5_sets_40 : decode cX5_sets 40 = .ok (.iload_n 2, 1) := by decide +kernel
theorem dX5_sets_41 : decode cX5_sets 41 = .ok (.imul, 1) := by decide +kernel
theorem dX5_sets_42 : decode cX5_sets 42 = .ok (.iadd, 1) := by decide +kernel
theorem dX5_sets_43 : decode cX5_sets 43 = .ok (.iconst 2, 1) := by decide +kernel
theorem dX5_sets_44 : decode cX5_sets 44 = .ok (.iadd, 1) := by decide +kernel
theorem dX5_sets_45 : decode cX5_sets 45 = .ok (.iload 5, 2) := by decide +kernel
theorem dX5_sets_47 : decode cX5_sets 47 = .ok (.iastore, 1) := by decide +kernel
theorem dX5_sets_48 : decode cX5_sets 48 = .ok (.aload_n 0, 1) := by decide +kernel
theorem dX5_sets_49 : decode cX5_sets 49 = .ok (.getfield 51, 3) := by decide +kernel
theorem dX5_sets_52 : decode cX5_sets 52 = .ok (.bipush 29, 2) := by decide +kernel
theorem dX5_sets_54 : decode cX5_sets 54 = .ok (.iload_n 1, 1) := by decide +kernel
theorem dX5_sets_55 : decode cX5_sets 55 = .ok (.imul, 1) := by decide +kernel
theorem dX5_sets_56 : decode cX5_sets 56 = .ok (.iconst 4, 1) := by decide +kernel
theorem dX5_sets_57 : decode cX5_sets 57 = .ok (.iload_n 2, 1) := by decide +kernel
theorem dX5_sets_58 : decode cX5_sets 58 = .ok (.imul, 1) := by decide +kernel
theorem dX5_sets_59 : decode cX5_sets 59 = .ok (.iadd, 1) := by decide +kernel
theorem dX5_sets_60 : decode cX5_sets 60 = .ok (.iconst 3, 1) := by decide +kernel
theorem dX5_sets_61 : decode cX5_sets 61 = .ok (.iadd, 1) := by decide +kernel
theorem dX5_sets_62 : decode cX5_sets 62 = .ok (.iload 6, 2) := by decide +kernel
theorem dX5_sets_64 : decode cX5_sets 64 = .ok (.iastore, 1) := by decide +kernel
theorem dX5_sets_65 : decode cX5_sets 65 = .ok (.return_, 1) := by decide +kernel
theorem dX5_thrown_0 : decode cX5_thrown 0 = .ok (.aload_n 0, 1) := by decide +kernel
theorem dX5_thrown_1 : decode cX5_thrown 1 = .ok (.getfield 58, 3) := by decide +kernel
theorem dX5_thrown_4 : decode cX5_thrown 4 = .ok (.ireturn, 1) := by decide +kernel
theorem dX5_in_0 : decode cX5_in 0 = .ok (.iload_n 0, 1) := by decide +kernel
theorem dX5_in_1 : decode cX5_in 1 = .ok (.iload_n 1, 1) := by decide +kernel
theorem dX5_in_2 : decode cX5_in 2 = .ok (.if_icmp .lt 12, 3) := by decide +kernel
theorem dX5_in_5 : decode cX5_in 5 = .ok (.iload_n 0, 1) := by decide +kernel
theorem dX5_in_6 : decode cX5_in 6 = .ok (.iload_n 2, 1) := by decide +kernel
theorem dX5_in_7 : decode cX5_in 7 = .ok (.if_icmp .gt 7, 3) := by decide +kernel
theorem dX5_in_10 : decode cX5_in 10 = .ok (.iconst 1, 1) := by decide +kernel
theorem dX5_in_11 : decode cX5_in 11 = .ok (.goto 4, 3) := by decide +kernel
theorem dX5_in_14 : decode cX5_in 14 = .ok (.iconst 0, 1) := by decide +kernel
theorem dX5_in_15 : decode cX5_in 15 = .ok (.ireturn, 1) := by decide +kernel
theorem dX5_isSkater_0 : decode cX5_isSkater 0 = .ok (.iload_n 1, 1) := by decide +kernel
theorem dX5_isSkater_1 : decode cX5_isSkater 1 = .ok (.iconst 0, 1) := by decide +kernel
theorem dX5_isSkater_2 : decode cX5_isSkater 2 = .ok (.aload_n 0, 1) := by decide +kernel
theorem dX5_isSkater_3 : decode cX5_isSkater 3 = .ok (.getfield 61, 3) := by decide +kernel
theorem dX5_isSkater_6 : decode cX5_isSkater 6 = .ok (.iconst 1, 1) := by decide +kernel
theorem dX5_isSkater_7 : decode cX5_isSkater 7 = .ok (.isub, 1) := by decide +kernel
theorem dX5_isSkater_8 : decode cX5_isSkater 8 = .ok (.invokestatic 64, 3) := by decide +kernel
theorem dX5_isSkater_11 : decode cX5_isSkater 11 = .ok (.ireturn, 1) := by decide +kernel
theorem dX5_isElement_0 : decode cX5_isElement 0 = .ok (.aload_n 0, 1) := by decide +kernel
theorem dX5_isElement_1 : decode cX5_isElement 1 = .ok (.iload_n 1, 1) := by decide +kernel
theorem dX5_isElement_2 : decode cX5_isElement 2 = .ok (.invokevirtual 68, 3) := by decide +kernel
theorem dX5_isElement_5 : decode cX5_isElement 5 = .ok (.ifCond .eq 23, 3) := by decide +kernel
theorem dX5_isElement_8 : decode cX5_isElement 8 = .ok (.iload_n 2, 1) := by decide +kernel
theorem dX5_isElement_9 : decode cX5_isElement 9 = .ok (.iconst 0, 1) := by decide +kernel
theorem dX5_isElement_10 : decode cX5_isElement 10 = .ok (.aload_n 0, 1) := by decide +kernel
theorem dX5_isElement_11 : decode cX5_isElement 11 = .ok (.getfield 20, 3) := by decide +kernel
theorem dX5_isElement_14 : decode cX5_isElement 14 = .ok (.iload_n 1, 1) := by decide +kernel
theorem dX5_isElement_15 : decode cX5_isElement 15 = .ok (.iaload, 1) := by decide +kernel
theorem dX5_isElement_16 : decode cX5_isElement 16 = .ok (.iconst 1, 1) := by decide +kernel
theorem dX5_isElement_17 : decode cX5_isElement 17 = .ok (.isub, 1) := by decide +kernel
theorem dX5_isElement_18 : decode cX5_isElement 18 = .ok (.invokestatic 64, 3) := by decide +kernel
theorem dX5_isElement_21 : decode cX5_isElement 21 = .ok (.ifCond .eq 7, 3) := by decide +kernel
theorem dX5_isElement_24 : decode cX5_isElement 24 = .ok (.iconst 1, 1) := by decide +kernel
theorem dX5_isElement_25 : decode cX5_isElement 25 = .ok (.goto 4, 3) := by decide +kernel
theorem dX5_isElement_28 : decode cX5_isElement 28 = .ok (.iconst 0, 1) := by decide +kernel
theorem dX5_isElement_29 : decode cX5_isElement 29 = .ok (.ireturn, 1) := by decide +kernel
theorem dX5_at_0 : decode cX5_at 0 = .ok (.bipush 12, 2) := by decide +kernel
theorem dX5_at_2 : decode cX5_at 2 = .ok (.iload_n 0, 1) := by decide +kernel
theorem dX5_at_3 : decode cX5_at 3 = .ok (.imul, 1) := by decide +kernel
theorem dX5_at_4 : decode cX5_at 4 = .ok (.iload_n 1, 1) := by decide +kernel
theorem dX5_at_5 : decode cX5_at 5 = .ok (.iadd, 1) := by decide +kernel
theorem dX5_at_6 : decode cX5_at 6 = .ok (.ireturn, 1) := by decide +kernel
theorem dX5_skater_0 : decode cX5_skater 0 = .ok (.aload_n 0, 1) := by decide +kernel
theorem dX5_skater_1 : decode cX5_skater 1 = .ok (.aload_n 0, 1) := by decide +kernel
theorem dX5_skater_2 : decode cX5_skater 2 = .ok (.getfield 61, 3) := by decide +kernel
theorem dX5_skater_5 : decode cX5_skater 5 = .ok (.bipush 12, 2) := by decide +kernel
theorem dX5_skater_7 : decode cX5_skater 7 = .ok (.if_icmp .ne 7, 3) := by decide +kernel
theorem dX5_skater_10 : decode cX5_skater 10 = .ok (.iconst 1, 1) := by decide +kernel
theorem dX5_skater_11 : decode cX5_skater 11 = .ok (.goto 4, 3) := by decide +kernel
theorem dX5_skater_14 : decode cX5_skater 14 = .ok (.iconst 0, 1) := by decide +kernel
theorem dX5_skater_15 : decode cX5_skater 15 = .ok (.putfield 58, 3) := by decide +kernel
theorem dX5_skater_18 : decode cX5_skater 18 = .ok (.aload_n 0, 1) := by decide +kernel
theorem dX5_skater_19 : decode cX5_skater 19 = .ok (.getfield 58, 3) := by decide +kernel
theorem dX5_skater_22 : decode cX5_skater 22 = .ok (.ifCond .le 5, 3) := by decide +kernel
theorem dX5_skater_25 : decode cX5_skater 25 = .ok (.iconst 0, 1) := by decide +kernel
theorem dX5_skater_26 : decode cX5_skater 26 = .ok (.ireturn, 1) := by decide +kernel
theorem dX5_skater_27 : decode cX5_skater 27 = .ok (.aload_n 0, 1) := by decide +kernel
theorem dX5_skater_28 : decode cX5_skater 28 = .ok (.dup, 1) := by decide +kernel
theorem dX5_skater_29 : decode cX5_skater 29 = .ok (.getfield 61, 3) := by decide +kernel
theorem dX5_skater_32 : decode cX5_skater 32 = .ok (.iconst 1, 1) := by decide +kernel
theorem dX5_skater_33 : decode cX5_skater 33 = .ok (.iadd, 1) := by decide +kernel
theorem dX5_skater_34 : decode cX5_skater 34 = .ok (.putfield 61, 3) := by decide +kernel
theorem dX5_skater_37 : decode cX5_skater 37 = .ok (.aload_n 0, 1) := by decide +kernel
theorem dX5_skater_38 : decode cX5_skater 38 = .ok (.getfield 61, 3) := by decide +kernel
theorem dX5_skater_41 : decode cX5_skater 41 = .ok (.iconst 1, 1) := by decide +kernel
theorem dX5_skater_42 : decode cX5_skater 42 = .ok (.isub, 1) := by decide +kernel
theorem dX5_skater_43 : decode cX5_skater 43 = .ok (.ireturn, 1) := by decide +kernel
theorem dX5_begin_0 : decode cX5_begin 0 = .ok (.aload_n 0, 1) := by decide +kernel
theorem dX5_begin_1 : decode cX5_begin 1 = .ok (.aload_n 0, 1) := by decide +kernel
theorem dX5_begin_2 : decode cX5_begin 2 = .ok (.iload_n 1, 1) := by decide +kernel
theorem dX5_begin_3 : decode cX5_begin 3 = .ok (.invokevirtual 68, 3) := by decide +kernel
theorem dX5_begin_6 : decode cX5_begin 6 = .ok (.ifCond .ne 7, 3) := by decide +kernel
theorem dX5_begin_9 : decode cX5_begin 9 = .ok (.iconst 1, 1) := by decide +kernel
theorem dX5_begin_10 : decode cX5_begin 10 = .ok (.goto 25, 3) := by decide +kernel
theorem dX5_begin_13 : decode cX5_begin 13 = .ok (.aload_n 0, 1) := by decide +kernel
theorem dX5_begin_14 : decode cX5_begin 14 = .ok (.getfield 13, 3) := by decide +kernel
theorem dX5_begin_17 : decode cX5_begin 17 = .ok (.iload_n 1, 1) := by decide +kernel
theorem dX5_begin_18 : decode cX5_begin 18 = .ok (.iaload, 1) := by decide +kernel
theorem dX5_begin_19 : decode cX5_begin 19 = .ok (.ifCond .gt 11, 3) := by decide +kernel
theorem dX5_begin_22 : decode cX5_begin 22 = .ok (.aload_n 0, 1) := by decide +kernel
theorem dX5_begin_23 : decode cX5_begin 23 = .ok (.getfield 9, 3) := by decide +kernel
theorem dX5_begin_26 : decode cX5_begin 26 = .ok (.iconst (-1), 1) := by decide +kernel
theorem dX5_begin_27 : decode cX5_begin 27 = .ok (.if_icmp .eq 7, 3) := by decide +kernel
theorem dX5_begin_30 : decode cX5_begin 30 = .ok (.iconst 2, 1) := by decide +kernel
theorem dX5_begin_31 : decode cX5_begin 31 = .ok (.goto 4, 3) := by decide +kernel
theorem dX5_begin_34 : decode cX5_begin 34 = .ok (.iconst 0, 1) := by decide +kernel
theorem dX5_begin_35 : decode cX5_begin 35 = .ok (.putfield 58, 3) := by decide +kernel
theorem dX5_begin_38 : decode cX5_begin 38 = .ok (.aload_n 0, 1) := by decide +kernel
theorem dX5_begin_39 : decode cX5_begin 39 = .ok (.getfield 58, 3) := by decide +kernel
theorem dX5_begin_42 : decode cX5_begin 42 = .ok (.ifCond .ne 22, 3) := by decide +kernel
theorem dX5_begin_45 : decode cX5_begin 45 = .ok (.aload_n 0, 1) := by decide +kernel
theorem dX5_begin_46 : decode cX5_begin 46 = .ok (.getfield 13, 3) := by decide +kernel
theorem dX5_begin_49 : decode cX5_begin 49 = .ok (.iload_n 1, 1) := by decide +kernel
theorem dX5_begin_50 : decode cX5_begin 50 = .ok (.iconst 1, 1) := by decide +kernel
theorem dX5_begin_51 : decode cX5_begin 51 = .ok (.iastore, 1) := by decide +kernel
theorem dX5_begin_52 : decode cX5_begin 52 = .ok (.aload_n 0, 1) := by decide +kernel
theorem dX5_begin_53 : decode cX5_begin 53 = .ok (.iload_n 1, 1) := by decide +kernel
theorem dX5_begin_54 : decode cX5_begin 54 = .ok (.putfield 9, 3) := by decide +kernel
theorem dX5_begin_57 : decode cX5_begin 57 = .ok (.aload_n 0, 1) := by decide +kernel
theorem dX5_begin_58 : decode cX5_begin 58 = .ok (.iconst 0, 1) := by decide +kernel
theorem dX5_begin_59 : decode cX5_begin 59 = .ok (.iconst 1, 1) := by decide +kernel
theorem dX5_begin_60 : decode cX5_begin 60 = .ok (.iconst 0, 1) := by decide +kernel
theorem dX5_begin_61 : decode cX5_begin 61 = .ok (.invokevirtual 72, 3) := by decide +kernel
theorem dX5_begin_64 : decode cX5_begin 64 = .ok (.return_, 1) := by decide +kernel
theorem dX5_stands_0 : decode cX5_stands 0 = .ok (.aload_n 0, 1) := by decide +kernel
theorem dX5_stands_1 : decode cX5_stands 1 = .ok (.iload_n 1, 1) := by decide +kernel
theorem dX5_stands_2 : decode cX5_stands 2 = .ok (.putfield 76, 3) := by decide +kernel
theorem dX5_stands_5 : decode cX5_stands 5 = .ok (.aload_n 0, 1) := by decide +kernel
theorem dX5_stands_6 : decode cX5_stands 6 = .ok (.iload_n 2, 1) := by decide +kernel
theorem dX5_stands_7 : decode cX5_stands 7 = .ok (.putfield 79, 3) := by decide +kernel
theorem dX5_stands_10 : decode cX5_stands 10 = .ok (.aload_n 0, 1) := by decide +kernel
theorem dX5_stands_11 : decode cX5_stands 11 = .ok (.iload_n 3, 1) := by decide +kernel
theorem dX5_stands_12 : decode cX5_stands 12 = .ok (.putfield 82, 3) := by decide +kernel
theorem dX5_stands_15 : decode cX5_stands 15 = .ok (.return_, 1) := by decide +kernel
theorem dX5_isOpen_0 : decode cX5_isOpen 0 = .ok (.aload_n 0, 1) := by decide +kernel
theorem dX5_isOpen_1 : decode cX5_isOpen 1 = .ok (.getfield 9, 3) := by decide +kernel
theorem dX5_isOpen_4 : decode cX5_isOpen 4 = .ok (.iconst (-1), 1) := by decide +kernel
theorem dX5_isOpen_5 : decode cX5_isOpen 5 = .ok (.if_icmp .eq 22, 3) := by decide +kernel
theorem dX5_isOpen_8 : decode cX5_isOpen 8 = .ok (.aload_n 0, 1) := by decide +kernel
theorem dX5_isOpen_9 : decode cX5_isOpen 9 = .ok (.getfield 17, 3) := by decide +kernel
theorem dX5_isOpen_12 : decode cX5_isOpen 12 = .ok (.aload_n 0, 1) := by decide +kernel
theorem dX5_isOpen_13 : decode cX5_isOpen 13 = .ok (.getfield 9, 3) := by decide +kernel
theorem dX5_isOpen_16 : decode cX5_isOpen 16 = .ok (.iaload, 1) := by decide +kernel
theorem dX5_isOpen_17 : decode cX5_isOpen 17 = .ok (.sipush 240, 3) := by decide +kernel
theorem dX5_isOpen_20 : decode cX5_isOpen 20 = .ok (.if_icmp .ge 7, 3) := by decide +kernel
theorem dX5_isOpen_23 : decode cX5_isOpen 23 = .ok (.iconst 1, 1) := by decide +kernel
theorem dX5_isOpen_24 : decode cX5_isOpen 24 = .ok (.goto 4, 3) := by decide +kernel
theorem dX5_isOpen_27 : decode cX5_isOpen 27 = .ok (.iconst 0, 1) := by decide +kernel
theorem dX5_isOpen_28 : decode cX5_isOpen 28 = .ok (.ireturn, 1) := by decide +kernel
theorem dX5_turn_0 : decode cX5_turn 0 = .ok (.aload_n 0, 1) := by decide +kernel
theorem dX5_turn_1 : decode cX5_turn 1 = .ok (.iload_n 1, 1) := by decide +kernel
theorem dX5_turn_2 : decode cX5_turn 2 = .ok (.iconst 0, 1) := by decide +kernel
theorem dX5_turn_3 : decode cX5_turn 3 = .ok (.iconst 5, 1) := by decide +kernel
theorem dX5_turn_4 : decode cX5_turn 4 = .ok (.invokestatic 64, 3) := by decide +kernel
theorem dX5_turn_7 : decode cX5_turn 7 = .ok (.ifCond .ne 7, 3) := by decide +kernel
theorem dX5_turn_10 : decode cX5_turn 10 = .ok (.iconst 1, 1) := by decide +kernel
theorem dX5_turn_11 : decode cX5_turn 11 = .ok (.goto 15, 3) := by decide +kernel
theorem dX5_turn_14 : decode cX5_turn 14 = .ok (.aload_n 0, 1) := by decide +kernel
theorem dX5_turn_15 : decode cX5_turn 15 = .ok (.invokevirtual 85, 3) := by decide +kernel
theorem dX5_turn_18 : decode cX5_turn 18 = .ok (.ifCond .eq 7, 3) := by decide +kernel
theorem dX5_turn_21 : decode cX5_turn 21 = .ok (.iconst 0, 1) := by decide +kernel
theorem dX5_turn_22 : decode cX5_turn 22 = .ok (.goto 4, 3) := by decide +kernel
theorem dX5_turn_25 : decode cX5_turn 25 = .ok (.iconst 2, 1) := by decide +kernel
theorem dX5_turn_26 : decode cX5_turn 26 = .ok (.putfield 58, 3) := by decide +kernel
theorem dX5_turn_29 : decode cX5_turn 29 = .ok (.aload_n 0, 1) := by decide +kernel
theorem dX5_turn_30 : decode cX5_turn 30 = .ok (.getfield 58, 3) := by decide +kernel
theorem dX5_turn_33 : decode cX5_turn 33 = .ok (.ifCond .le 5, 3) := by decide +kernel
theorem dX5_turn_36 : decode cX5_turn 36 = .ok (.iconst 0, 1) := by decide +kernel
theorem dX5_turn_37 : decode cX5_turn 37 = .ok (.ireturn, 1) := by decide +kernel
theorem dX5_turn_38 : decode cX5_turn 38 = .ok (.iload_n 1, 1) := by decide +kernel
theorem dX5_turn_39 : decode cX5_turn 39 = .ok (.iconst 2, 1) := by decide +kernel
theorem dX5_turn_40 : decode cX5_turn 40 = .ok (.if_icmp .eq 13, 3) := by decide +kernel
theorem dX5_turn_43 : decode cX5_turn 43 = .ok (.iload_n 1, 1) := by decide +kernel
theorem dX5_turn_44 : decode cX5_turn 44 = .ok (.iconst 3, 1) := by decide +kernel
theorem dX5_turn_45 : decode cX5_turn 45 = .ok (.if_icmp .eq 8, 3) := by decide +kernel
theorem dX5_turn_48 : decode cX5_turn 48 = .ok (.iload_n 1, 1) := by decide +kernel
theorem dX5_turn_49 : decode cX5_turn 49 = .ok (.iconst 5, 1) := by decide +kernel
theorem dX5_turn_50 : decode cX5_turn 50 = .ok (.if_icmp .ne 7, 3) := by decide +kernel
theorem dX5_turn_53 : decode cX5_turn 53 = .ok (.iconst 1, 1) := by decide +kernel
theorem dX5_turn_54 : decode cX5_turn 54 = .ok (.goto 4, 3) := by decide +kernel
theorem dX5_turn_57 : decode cX5_turn 57 = .ok (.iconst 0, 1) := by decide +kernel
theorem dX5_turn_58 : decode cX5_turn 58 = .ok (.istore_n 2, 1) := by decide +kernel
theorem dX5_turn_59 : decode cX5_turn 59 = .ok (.iload_n 1, 1) := by decide +kernel
theorem dX5_turn_60 : decode cX5_turn 60 = .ok (.ifCond .eq 13, 3) := by decide +kernel
theorem dX5_turn_63 : decode cX5_turn 63 = .ok (.iload_n 1, 1) := by decide +kernel
theorem dX5_turn_64 : decode cX5_turn 64 = .ok (.iconst 3, 1) := by decide +kernel
theorem dX5_turn_65 : decode cX5_turn 65 = .ok (.if_icmp .eq 8, 3) := by decide +kernel
theorem dX5_turn_68 : decode cX5_turn 68 = .ok (.iload_n 1, 1) := by decide +kernel
theorem dX5_turn_69 : decode cX5_turn 69 = .ok (.iconst 4, 1) := by decide +kernel
theorem dX5_turn_70 : decode cX5_turn 70 = .ok (.if_icmp .ne 7, 3) := by decide +kernel
theorem dX5_turn_73 : decode cX5_turn 73 = .ok (.iconst 1, 1) := by decide +kernel
theorem dX5_turn_74 : decode cX5_turn 74 = .ok (.goto 4, 3) := by decide +kernel
theorem dX5_turn_77 : decode cX5_turn 77 = .ok (.iconst 0, 1) := by decide +kernel
theorem dX5_turn_78 : decode cX5_turn 78 = .ok (.istore_n 3, 1) := by decide +kernel
theorem dX5_turn_79 : decode cX5_turn 79 = .ok (.iload_n 1, 1) := by decide +kernel
theorem dX5_turn_80 : decode cX5_turn 80 = .ok (.iconst 4, 1) := by decide +kernel
theorem dX5_turn_81 : decode cX5_turn 81 = .ok (.if_icmp .ge 7, 3) := by decide +kernel
theorem dX5_turn_84 : decode cX5_turn 84 = .ok (.iconst 1, 1) := by decide +kernel
theorem dX5_turn_85 : decode cX5_turn 85 = .ok (.goto 4, 3) := by decide +kernel
theorem dX5_turn_88 : decode cX5_turn 88 = .ok (.iconst 0, 1) := by decide +kernel
theorem dX5_turn_89 : decode cX5_turn 89 = .ok (.istore 4, 2) := by decide +kernel
theorem dX5_turn_91 : decode cX5_turn 91 = .ok (.aload_n 0, 1) := by decide +kernel
theorem dX5_turn_92 : decode cX5_turn 92 = .ok (.iload_n 2, 1) := by decide +kernel
theorem dX5_turn_93 : decode cX5_turn 93 = .ok (.ifCond .eq 12, 3) := by decide +kernel
theorem dX5_turn_96 : decode cX5_turn 96 = .ok (.iconst 1, 1) := by decide +kernel
theorem dX5_turn_97 : decode cX5_turn 97 = .ok (.aload_n 0, 1) := by decide +kernel
theorem dX5_turn_98 : decode cX5_turn 98 = .ok (.getfield 76, 3) := by decide +kernel
theorem dX5_turn_101 : decode cX5_turn 101 = .ok (.isub, 1) := by decide +kernel
theorem dX5_turn_102 : decode cX5_turn 102 = .ok (.goto 7, 3) := by decide +kernel
theorem dX5_turn_105 : decode cX5_turn 105 = .ok (.aload_n 0, 1) := by decide +kernel
theorem dX5_turn_106 : decode cX5_turn 106 = .ok (.getfield 76, 3) := by decide +kernel
theorem dX5_turn_109 : decode cX5_turn 109 = .ok (.iload_n 3, 1) := by decide +kernel
theorem dX5_turn_110 : decode cX5_turn 110 = .ok (.ifCond .eq 12, 3) := by decide +kernel
theorem dX5_turn_113 : decode cX5_turn 113 = .ok (.iconst 1, 1) := by decide +kernel
theorem dX5_turn_114 : decode cX5_turn 114 = .ok (.aload_n 0, 1) := by decide +kernel
theorem dX5_turn_115 : decode cX5_turn 115 = .ok (.getfield 79, 3) := by decide +kernel
theorem dX5_turn_118 : decode cX5_turn 118 = .ok (.isub, 1) := by decide +kernel
theorem dX5_turn_119 : decode cX5_turn 119 = .ok (.goto 7, 3) := by decide +kernel
theorem dX5_turn_122 : decode cX5_turn 122 = .ok (.aload_n 0, 1) := by decide +kernel
theorem dX5_turn_123 : decode cX5_turn 123 = .ok (.getfield 79, 3) := by decide +kernel
theorem dX5_turn_126 : decode cX5_turn 126 = .ok (.iload 4, 2) := by decide +kernel
theorem dX5_turn_128 : decode cX5_turn 128 = .ok (.ifCond .eq 12, 3) := by decide +kernel
theorem dX5_turn_131 : decode cX5_turn 131 = .ok (.iconst 1, 1) := by decide +kernel
theorem dX5_turn_132 : decode cX5_turn 132 = .ok (.aload_n 0, 1) := by decide +kernel
theorem dX5_turn_133 : decode cX5_turn 133 = .ok (.getfield 82, 3) := by decide +kernel
theorem dX5_turn_136 : decode cX5_turn 136 = .ok (.isub, 1) := by decide +kernel
theorem dX5_turn_137 : decode cX5_turn 137 = .ok (.goto 7, 3) := by decide +kernel
theorem dX5_turn_140 : decode cX5_turn 140 = .ok (.aload_n 0, 1) := by decide +kernel
theorem dX5_turn_141 : decode cX5_turn 141 = .ok (.getfield 82, 3) := by decide +kernel
theorem dX5_turn_144 : decode cX5_turn 144 = .ok (.invokevirtual 72, 3) := by decide +kernel
theorem dX5_turn_147 : decode cX5_turn 147 = .ok (.aload_n 0, 1) := by decide +kernel
theorem dX5_turn_148 : decode cX5_turn 148 = .ok (.getfield 17, 3) := by decide +kernel
theorem dX5_turn_151 : decode cX5_turn 151 = .ok (.aload_n 0, 1) := by decide +kernel
theorem dX5_turn_152 : decode cX5_turn 152 = .ok (.getfield 9, 3) := by decide +kernel
theorem dX5_turn_155 : decode cX5_turn 155 = .ok (.dup2, 1) := by decide +kernel
theorem dX5_turn_156 : decode cX5_turn 156 = .ok (.iaload, 1) := by decide +kernel
theorem dX5_turn_157 : decode cX5_turn 157 = .ok (.iconst 2, 1) := by decide +kernel
theorem dX5_turn_158 : decode cX5_turn 158 = .ok (.iadd, 1) := by decide +kernel
theorem dX5_turn_159 : decode cX5_turn 159 = .ok (.iastore, 1) := by decide +kernel
theorem dX5_turn_160 : decode cX5_turn 160 = .ok (.iconst 4, 1) := by decide +kernel
theorem dX5_turn_161 : decode cX5_turn 161 = .ok (.aload_n 0, 1) := by decide +kernel
theorem dX5_turn_162 : decode cX5_turn 162 = .ok (.getfield 76, 3) := by decide +kernel
theorem dX5_turn_165 : decode cX5_turn 165 = .ok (.imul, 1) := by decide +kernel
theorem dX5_turn_166 : decode cX5_turn 166 = .ok (.iconst 2, 1) := by decide +kernel
theorem dX5_turn_167 : decode cX5_turn 167 = .ok (.aload_n 0, 1) := by decide +kernel
theorem dX5_turn_168 : decode cX5_turn 168 = .ok (.getfield 79, 3) := by decide +kernel
theorem dX5_turn_171 : decode cX5_turn 171 = .ok (.imul, 1) := by decide +kernel
theorem dX5_turn_172 : decode cX5_turn 172 = .ok (.iadd, 1) := by decide +kernel
theorem dX5_turn_173 : decode cX5_turn 173 = .ok (.aload_n 0, 1) := by decide +kernel
theorem dX5_turn_174 : decode cX5_turn 174 = .ok (.getfield 82, 3) := by decide +kernel
theorem dX5_turn_177 : decode cX5_turn 177 = .ok (.iadd, 1) := by decide +kernel
theorem dX5_turn_178 : decode cX5_turn 178 = .ok (.ireturn, 1) := by decide +kernel
theorem dX5_canTakeOff_0 : decode cX5_canTakeOff 0 = .ok (.iload_n 1, 1) := by decide +kernel
theorem dX5_canTakeOff_1 : decode cX5_canTakeOff 1 = .ok (.ifCond .eq 8, 3) := by decide +kernel
theorem dX5_canTakeOff_4 : decode cX5_canTakeOff 4 = .ok (.iload_n 1, 1) := by decide +kernel
theorem dX5_canTakeOff_5 : decode cX5_canTakeOff 5 = .ok (.iconst 2, 1) := by decide +kernel
theorem dX5_canTakeOff_6 : decode cX5_canTakeOff 6 = .ok (.if_icmp .ne 33, 3) := by decide +kernel
theorem dX5_canTakeOff_9 : decode cX5_canTakeOff 9 = .ok (.aload_n 0, 1) := by decide +kernel
theorem dX5_canTakeOff_10 : decode cX5_canTakeOff 10 = .ok (.getfield 76, 3) := by decide +kernel
theorem dX5_canTakeOff_13 : decode cX5_canTakeOff 13 = .ok (.iconst 1, 1) := by decide +kernel
theorem dX5_canTakeOff_14 : decode cX5_canTakeOff 14 = .ok (.if_icmp .ne 23, 3) := by decide +kernel
theorem dX5_canTakeOff_17 : decode cX5_canTakeOff 17 = .ok (.aload_n 0, 1) := by decide +kernel
theorem dX5_canTakeOff_18 : decode cX5_canTakeOff 18 = .ok (.getfield 79, 3) := by decide +kernel
theorem dX5_canTakeOff_21 : decode cX5_canTakeOff 21 = .ok (.iconst 1, 1) := by decide +kernel
theorem dX5_canTakeOff_22 : decode cX5_canTakeOff 22 = .ok (.if_icmp .ne 15, 3) := by decide +kernel
theorem dX5_canTakeOff_25 : decode cX5_canTakeOff 25 = .ok (.aload_n 0, 1) := by decide +kernel
theorem dX5_canTakeOff_26 : decode cX5_canTakeOff 26 = .ok (.getfield 82, 3) := by decide +kernel
theorem dX5_canTakeOff_29 : decode cX5_canTakeOff 29 = .ok (.iconst 1, 1) := by decide +kernel
theorem dX5_canTakeOff_30 : decode cX5_canTakeOff 30 = .ok (.if_icmp .ne 7, 3) := by decide +kernel
theorem dX5_canTakeOff_33 : decode cX5_canTakeOff 33 = .ok (.iconst 1, 1) := by decide +kernel
theorem dX5_canTakeOff_34 : decode cX5_canTakeOff 34 = .ok (.goto 4, 3) := by decide +kernel
theorem dX5_canTakeOff_37 : decode cX5_canTakeOff 37 = .ok (.iconst 0, 1) := by decide +kernel
theorem dX5_canTakeOff_38 : decode cX5_canTakeOff 38 = .ok (.ireturn, 1) := by decide +kernel
theorem dX5_canTakeOff_39 : decode cX5_canTakeOff 39 = .ok (.iload_n 1, 1) := by decide +kernel
theorem dX5_canTakeOff_40 : decode cX5_canTakeOff 40 = .ok (.iconst 3, 1) := by decide +kernel
theorem dX5_canTakeOff_41 : decode cX5_canTakeOff 41 = .ok (.if_icmp .eq 8, 3) := by decide +kernel
theorem dX5_canTakeOff_44 : decode cX5_canTakeOff 44 = .ok (.iload_n 1, 1) := by decide +kernel
theorem dX5_canTakeOff_45 : decode cX5_canTakeOff 45 = .ok (.iconst 4, 1) := by decide +kernel
theorem dX5_canTakeOff_46 : decode cX5_canTakeOff 46 = .ok (.if_icmp .ne 25, 3) := by decide +kernel
theorem dX5_canTakeOff_49 : decode cX5_canTakeOff 49 = .ok (.aload_n 0, 1) := by decide +kernel
theorem dX5_canTakeOff_50 : decode cX5_canTakeOff 50 = .ok (.getfield 76, 3) := by decide +kernel
theorem dX5_canTakeOff_53 : decode cX5_canTakeOff 53 = .ok (.iconst 1, 1) := by decide +kernel
theorem dX5_canTakeOff_54 : decode cX5_canTakeOff 54 = .ok (.if_icmp .eq 15, 3) := by decide +kernel
theorem dX5_canTakeOff_57 : decode cX5_canTakeOff 57 = .ok (.aload_n 0, 1) := by decide +kernel
theorem dX5_canTakeOff_58 : decode cX5_canTakeOff 58 = .ok (.getfield 82, 3) := by decide +kernel
theorem dX5_canTakeOff_61 : decode cX5_canTakeOff 61 = .ok (.iconst 1, 1) := by decide +kernel
theorem dX5_canTakeOff_62 : decode cX5_canTakeOff 62 = .ok (.if_icmp .ne 7, 3) := by decide +kernel
theorem dX5_canTakeOff_65 : decode cX5_canTakeOff 65 = .ok (.iconst 1, 1) := by decide +kernel
theorem dX5_canTakeOff_66 : decode cX5_canTakeOff 66 = .ok (.goto 4, 3) := by decide +kernel
theorem dX5_canTakeOff_69 : decode cX5_canTakeOff 69 = .ok (.iconst 0, 1) := by decide +kernel
theorem dX5_canTakeOff_70 : decode cX5_canTakeOff 70 = .ok (.ireturn, 1) := by decide +kernel
theorem dX5_canTakeOff_71 : decode cX5_canTakeOff 71 = .ok (.aload_n 0, 1) := by decide +kernel
theorem dX5_canTakeOff_72 : decode cX5_canTakeOff 72 = .ok (.getfield 76, 3) := by decide +kernel
theorem dX5_canTakeOff_75 : decode cX5_canTakeOff 75 = .ok (.iconst 1, 1) := by decide +kernel
theorem dX5_canTakeOff_76 : decode cX5_canTakeOff 76 = .ok (.if_icmp .eq 47, 3) := by decide +kernel
theorem dX5_canTakeOff_79 : decode cX5_canTakeOff 79 = .ok (.iload_n 1, 1) := by decide +kernel
theorem dX5_canTakeOff_80 : decode cX5_canTakeOff 80 = .ok (.iconst 5, 1) := by decide +kernel
theorem dX5_canTakeOff_81 : decode cX5_canTakeOff 81 = .ok (.if_icmp .ne 22, 3) := by decide +kernel
theorem dX5_canTakeOff_84 : decode cX5_canTakeOff 84 = .ok (.aload_n 0, 1) := by decide +kernel
theorem dX5_canTakeOff_85 : decode cX5_canTakeOff 85 = .ok (.getfield 79, 3) := by decide +kernel
theorem dX5_canTakeOff_88 : decode cX5_canTakeOff 88 = .ok (.iconst 1, 1) := by decide +kernel
theorem dX5_canTakeOff_89 : decode cX5_canTakeOff 89 = .ok (.if_icmp .ne 34, 3) := by decide +kernel
theorem dX5_canTakeOff_92 : decode cX5_canTakeOff 92 = .ok (.aload_n 0, 1) := by decide +kernel
theorem dX5_canTakeOff_93 : decode cX5_canTakeOff 93 = .ok (.getfield 82, 3) := by decide +kernel
theorem dX5_canTakeOff_96 : decode cX5_canTakeOff 96 = .ok (.iconst 1, 1) := by decide +kernel
theorem dX5_canTakeOff_97 : decode cX5_canTakeOff 97 = .ok (.if_icmp .eq 26, 3) := by decide +kernel
theorem dX5_canTakeOff_100 : decode cX5_canTakeOff 100 = .ok (.goto 19, 3) := by decide +kernel
theorem dX5_canTakeOff_103 : decode cX5_canTakeOff 103 = .ok (.aload_n 0, 1) := by decide +kernel
theorem dX5_canTakeOff_104 : decode cX5_canTakeOff 104 = .ok (.getfield 79, 3) := by decide +kernel
theorem dX5_canTakeOff_107 : decode cX5_canTakeOff 107 = .ok (.iconst 1, 1) := by decide +kernel
theorem dX5_canTakeOff_108 : decode cX5_canTakeOff 108 = .ok (.if_icmp .eq 15, 3) := by decide +kernel
theorem dX5_canTakeOff_111 : decode cX5_canTakeOff 111 = .ok (.aload_n 0, 1) := by decide +kernel
theorem dX5_canTakeOff_112 : decode cX5_canTakeOff 112 = .ok (.getfield 82, 3) := by decide +kernel
theorem dX5_canTakeOff_115 : decode cX5_canTakeOff 115 = .ok (.iconst 1, 1) := by decide +kernel
theorem dX5_canTakeOff_116 : decode cX5_canTakeOff 116 = .ok (.if_icmp .ne 7, 3) := by decide +kernel
theorem dX5_canTakeOff_119 : decode cX5_canTakeOff 119 = .ok (.iconst 1, 1) := by decide +kernel
theorem dX5_canTakeOff_120 : decode cX5_canTakeOff 120 = .ok (.goto 4, 3) := by decide +kernel
theorem dX5_canTakeOff_123 : decode cX5_canTakeOff 123 = .ok (.iconst 0, 1) := by decide +kernel
theorem dX5_canTakeOff_124 : decode cX5_canTakeOff 124 = .ok (.ireturn, 1) := by decide +kernel
theorem dX5_jump_0 : decode cX5_jump 0 = .ok (.aload_n 0, 1) := by decide +kernel
theorem dX5_jump_1 : decode cX5_jump 1 = .ok (.iload_n 1, 1) := by decide +kernel
theorem dX5_jump_2 : decode cX5_jump 2 = .ok (.iconst 0, 1) := by decide +kernel
theorem dX5_jump_3 : decode cX5_jump 3 = .ok (.iconst 5, 1) := by decide +kernel
theorem dX5_jump_4 : decode cX5_jump 4 = .ok (.invokestatic 64, 3) := by decide +kernel
theorem dX5_jump_7 : decode cX5_jump 7 = .ok (.ifCond .eq 12, 3) := by decide +kernel
theorem dX5_jump_10 : decode cX5_jump 10 = .ok (.iload_n 2, 1) := by decide +kernel
theorem dX5_jump_11 : decode cX5_jump 11 = .ok (.iconst 1, 1) := by decide +kernel
theorem dX5_jump_12 : decode cX5_jump 12 = .ok (.iconst 4, 1) := by decide +kernel
theorem dX5_jump_13 : decode cX5_jump 13 = .ok (.invokestatic 64, 3) := by decide +kernel
theorem dX5_jump_16 : decode cX5_jump 16 = .ok (.ifCond .ne 7, 3) := by decide +kernel
theorem dX5_jump_19 : decode cX5_jump 19 = .ok (.iconst 1, 1) := by decide +kernel
theorem dX5_jump_20 : decode cX5_jump 20 = .ok (.goto 4, 3) := by decide +kernel
theorem dX5_jump_23 : decode cX5_jump 23 = .ok (.iconst 0, 1) := by decide +kernel
theorem dX5_jump_24 : decode cX5_jump 24 = .ok (.putfield 58, 3) := by decide +kernel
theorem dX5_jump_27 : decode cX5_jump 27 = .ok (.aload_n 0, 1) := by decide +kernel
theorem dX5_jump_28 : decode cX5_jump 28 = .ok (.getfield 58, 3) := by decide +kernel
theorem dX5_jump_31 : decode cX5_jump 31 = .ok (.ifCond .ne 41, 3) := by decide +kernel
theorem dX5_jump_34 : decode cX5_jump 34 = .ok (.aload_n 0, 1) := by decide +kernel
theorem dX5_jump_35 : decode cX5_jump 35 = .ok (.aload_n 0, 1) := by decide +kernel
theorem dX5_jump_36 : decode cX5_jump 36 = .ok (.invokevirtual 85, 3) := by decide +kernel
theorem dX5_jump_39 : decode cX5_jump 39 = .ok (.ifCond .eq 29, 3) := by decide +kernel
theorem dX5_jump_42 : decode cX5_jump 42 = .ok (.aload_n 0, 1) := by decide +kernel
theorem dX5_jump_43 : decode cX5_jump 43 = .ok (.getfield 20, 3) := by decide +kernel
theorem dX5_jump_46 : decode cX5_jump 46 = .ok (.aload_n 0, 1) := by decide +kernel
theorem dX5_jump_47 : decode cX5_jump 47 = .ok (.getfield 9, 3) := by decide +kernel
theorem dX5_jump_50 : decode cX5_jump 50 = .ok (.iaload, 1) := by decide +kernel
theorem dX5_jump_51 : decode cX5_jump 51 = .ok (.bipush 12, 2) := by decide +kernel
theorem dX5_jump_53 : decode cX5_jump 53 = .ok (.if_icmp .ge 15, 3) := by decide +kernel
theorem dX5_jump_56 : decode cX5_jump 56 = .ok (.aload_n 0, 1) := by decide +kernel
theorem dX5_jump_57 : decode cX5_jump 57 = .ok (.iload_n 1, 1) := by decide +kernel
theorem dX5_jump_58 : decode cX5_jump 58 = .ok (.invokevirtual 89, 3) := by decide +kernel
theorem dX5_jump_61 : decode cX5_jump 61 = .ok (.ifCond .eq 7, 3) := by decide +kernel
theorem dX5_jump_64 : decode cX5_jump 64 = .ok (.iconst 0, 1) := by decide +kernel
theorem dX5_jump_65 : decode cX5_jump 65 = .ok (.goto 4, 3) := by decide +kernel
theorem dX5_jump_68 : decode cX5_jump 68 = .ok (.iconst 2, 1) := by decide +kernel
theorem dX5_jump_69 : decode cX5_jump 69 = .ok (.putfield 58, 3) := by decide +kernel
theorem dX5_jump_72 : decode cX5_jump 72 = .ok (.aload_n 0, 1) := by decide +kernel
theorem dX5_jump_73 : decode cX5_jump 73 = .ok (.getfield 58, 3) := by decide +kernel
theorem dX5_jump_76 : decode cX5_jump 76 = .ok (.ifCond .le 5, 3) := by decide +kernel
theorem dX5_jump_79 : decode cX5_jump 79 = .ok (.iconst 0, 1) := by decide +kernel
theorem dX5_jump_80 : decode cX5_jump 80 = .ok (.ireturn, 1) := by decide +kernel
theorem dX5_jump_81 : decode cX5_jump 81 = .ok (.aload_n 0, 1) := by decide +kernel
theorem dX5_jump_82 : decode cX5_jump 82 = .ok (.getfield 9, 3) := by decide +kernel
theorem dX5_jump_85 : decode cX5_jump 85 = .ok (.aload_n 0, 1) := by decide +kernel
theorem dX5_jump_86 : decode cX5_jump 86 = .ok (.getfield 20, 3) := by decide +kernel
theorem dX5_jump_89 : decode cX5_jump 89 = .ok (.aload_n 0, 1) := by decide +kernel
theorem dX5_jump_90 : decode cX5_jump 90 = .ok (.getfield 9, 3) := by decide +kernel
theorem dX5_jump_93 : decode cX5_jump 93 = .ok (.iaload, 1) := by decide +kernel
theorem dX5_jump_94 : decode cX5_jump 94 = .ok (.invokestatic 92, 3) := by decide +kernel
theorem dX5_jump_97 : decode cX5_jump 97 = .ok (.istore 4, 2) := by decide +kernel
theorem dX5_jump_99 : decode cX5_jump 99 = .ok (.aload_n 0, 1) := by decide +kernel
theorem dX5_jump_100 : decode cX5_jump 100 = .ok (.getfield 23, 3) := by decide +kernel
theorem dX5_jump_103 : decode cX5_jump 103 = .ok (.iload 4, 2) := by decide +kernel
theorem dX5_jump_105 : decode cX5_jump 105 = .ok (.iload_n 1, 1) := by decide +kernel
theorem dX5_jump_106 : decode cX5_jump 106 = .ok (.iastore, 1) := by decide +kernel
theorem dX5_jump_107 : decode cX5_jump 107 = .ok (.aload_n 0, 1) := by decide +kernel
theorem dX5_jump_108 : decode cX5_jump 108 = .ok (.getfield 26, 3) := by decide +kernel
theorem dX5_jump_111 : decode cX5_jump 111 = .ok (.iload 4, 2) := by decide +kernel
theorem dX5_jump_113 : decode cX5_jump 113 = .ok (.iload_n 2, 1) := by decide +kernel
theorem dX5_jump_114 : decode cX5_jump 114 = .ok (.iastore, 1) := by decide +kernel
theorem dX5_jump_115 : decode cX5_jump 115 = .ok (.aload_n 0, 1) := by decide +kernel
theorem dX5_jump_116 : decode cX5_jump 116 = .ok (.getfield 35, 3) := by decide +kernel
theorem dX5_jump_119 : decode cX5_jump 119 = .ok (.iload 4, 2) := by decide +kernel
theorem dX5_jump_121 : decode cX5_jump 121 = .ok (.iload_n 1, 1) := by decide +kernel
theorem dX5_jump_122 : decode cX5_jump 122 = .ok (.iconst 3, 1) := by decide +kernel
theorem dX5_jump_123 : decode cX5_jump 123 = .ok (.if_icmp .ne 11, 3) := by decide +kernel
theorem dX5_jump_126 : decode cX5_jump 126 = .ok (.aload_n 0, 1) := by decide +kernel
theorem dX5_jump_127 : decode cX5_jump 127 = .ok (.getfield 79, 3) := by decide +kernel
theorem dX5_jump_130 : decode cX5_jump 130 = .ok (.iconst 1, 1) := by decide +kernel
theorem dX5_jump_131 : decode cX5_jump 131 = .ok (.if_icmp .eq 16, 3) := by decide +kernel
theorem dX5_jump_134 : decode cX5_jump 134 = .ok (.iload_n 1, 1) := by decide +kernel
theorem dX5_jump_135 : decode cX5_jump 135 = .ok (.iconst 4, 1) := by decide +kernel
theorem dX5_jump_136 : decode cX5_jump 136 = .ok (.if_icmp .ne 15, 3) := by decide +kernel
theorem dX5_jump_139 : decode cX5_jump 139 = .ok (.aload_n 0, 1) := by decide +kernel
theorem dX5_jump_140 : decode cX5_jump 140 = .ok (.getfield 79, 3) := by decide +kernel
theorem dX5_jump_143 : decode cX5_jump 143 = .ok (.iconst 1, 1) := by decide +kernel
theorem dX5_jump_144 : decode cX5_jump 144 = .ok (.if_icmp .eq 7, 3) := by decide +kernel
theorem dX5_jump_147 : decode cX5_jump 147 = .ok (.iconst 1, 1) := by decide +kernel
theorem dX5_jump_148 : decode cX5_jump 148 = .ok (.goto 4, 3) := by decide +kernel
theorem dX5_jump_151 : decode cX5_jump 151 = .ok (.iconst 0, 1) := by decide +kernel
theorem dX5_jump_152 : decode cX5_jump 152 = .ok (.bastore, 1) := by decide +kernel
theorem dX5_jump_153 : decode cX5_jump 153 = .ok (.aload_n 0, 1) := by decide +kernel
theorem dX5_jump_154 : decode cX5_jump 154 = .ok (.getfield 39, 3) := by decide +kernel
theorem dX5_jump_157 : decode cX5_jump 157 = .ok (.iload 4, 2) := by decide +kernel
theorem dX5_jump_159 : decode cX5_jump 159 = .ok (.aload_n 0, 1) := by decide +kernel
theorem dX5_jump_160 : decode cX5_jump 160 = .ok (.getfield 17, 3) := by decide +kernel
theorem dX5_jump_163 : decode cX5_jump 163 = .ok (.aload_n 0, 1) := by decide +kernel
theorem dX5_jump_164 : decode cX5_jump 164 = .ok (.getfield 9, 3) := by decide +kernel
theorem dX5_jump_167 : decode cX5_jump 167 = .ok (.iaload, 1) := by decide +kernel
theorem dX5_jump_168 : decode cX5_jump 168 = .ok (.bipush 120, 2) := by decide +kernel
theorem dX5_jump_170 : decode cX5_jump 170 = .ok (.if_icmp .lt 7, 3) := by decide +kernel
theorem dX5_jump_173 : decode cX5_jump 173 = .ok (.iconst 1, 1) := by decide +kernel
theorem dX5_jump_174 : decode cX5_jump 174 = .ok (.goto 4, 3) := by decide +kernel
theorem dX5_jump_177 : decode cX5_jump 177 = .ok (.iconst 0, 1) := by decide +kernel
theorem dX5_jump_178 : decode cX5_jump 178 = .ok (.bastore, 1) := by decide +kernel
theorem dX5_jump_179 : decode cX5_jump 179 = .ok (.aload_n 0, 1) := by decide +kernel
theorem dX5_jump_180 : decode cX5_jump 180 = .ok (.getfield 42, 3) := by decide +kernel
theorem dX5_jump_183 : decode cX5_jump 183 = .ok (.iload 4, 2) := by decide +kernel
theorem dX5_jump_185 : decode cX5_jump 185 = .ok (.iload_n 3, 1) := by decide +kernel
theorem dX5_jump_186 : decode cX5_jump 186 = .ok (.bastore, 1) := by decide +kernel
theorem dX5_jump_187 : decode cX5_jump 187 = .ok (.aload_n 0, 1) := by decide +kernel
theorem dX5_jump_188 : decode cX5_jump 188 = .ok (.getfield 17, 3) := by decide +kernel
theorem dX5_jump_191 : decode cX5_jump 191 = .ok (.aload_n 0, 1) := by decide +kernel
theorem dX5_jump_192 : decode cX5_jump 192 = .ok (.getfield 9, 3) := by decide +kernel
theorem dX5_jump_195 : decode cX5_jump 195 = .ok (.dup2, 1) := by decide +kernel
theorem dX5_jump_196 : decode cX5_jump 196 = .ok (.iaload, 1) := by decide +kernel
theorem dX5_jump_197 : decode cX5_jump 197 = .ok (.iconst 4, 1) := by decide +kernel
theorem dX5_jump_198 : decode cX5_jump 198 = .ok (.iadd, 1) := by decide +kernel
theorem dX5_jump_199 : decode cX5_jump 199 = .ok (.iastore, 1) := by decide +kernel
theorem dX5_jump_200 : decode cX5_jump 200 = .ok (.aload_n 0, 1) := by decide +kernel
theorem dX5_jump_201 : decode cX5_jump 201 = .ok (.iconst 1, 1) := by decide +kernel
theorem dX5_jump_202 : decode cX5_jump 202 = .ok (.iconst 1, 1) := by decide +kernel
theorem dX5_jump_203 : decode cX5_jump 203 = .ok (.iconst 1, 1) := by decide +kernel
theorem dX5_jump_204 : decode cX5_jump 204 = .ok (.invokevirtual 72, 3) := by decide +kernel
theorem dX5_jump_207 : decode cX5_jump 207 = .ok (.aload_n 0, 1) := by decide +kernel
theorem dX5_jump_208 : decode cX5_jump 208 = .ok (.getfield 20, 3) := by decide +kernel
theorem dX5_jump_211 : decode cX5_jump 211 = .ok (.aload_n 0, 1) := by decide +kernel
theorem dX5_jump_212 : decode cX5_jump 212 = .ok (.getfield 9, 3) := by decide +kernel
theorem dX5_jump_215 : decode cX5_jump 215 = .ok (.dup2, 1) := by decide +kernel
theorem dX5_jump_216 : decode cX5_jump 216 = .ok (.iaload, 1) := by decide +kernel
theorem dX5_jump_217 : decode cX5_jump 217 = .ok (.iconst 1, 1) := by decide +kernel
theorem dX5_jump_218 : decode cX5_jump 218 = .ok (.iadd, 1) := by decide +kernel
theorem dX5_jump_219 : decode cX5_jump 219 = .ok (.iastore, 1) := by decide +kernel
theorem dX5_jump_220 : decode cX5_jump 220 = .ok (.aload_n 0, 1) := by decide +kernel
theorem dX5_jump_221 : decode cX5_jump 221 = .ok (.getfield 20, 3) := by decide +kernel
theorem dX5_jump_224 : decode cX5_jump 224 = .ok (.aload_n 0, 1) := by decide +kernel
theorem dX5_jump_225 : decode cX5_jump 225 = .ok (.getfield 9, 3) := by decide +kernel
theorem dX5_jump_228 : decode cX5_jump 228 = .ok (.iaload, 1) := by decide +kernel
theorem dX5_jump_229 : decode cX5_jump 229 = .ok (.iconst 1, 1) := by decide +kernel
theorem dX5_jump_230 : decode cX5_jump 230 = .ok (.isub, 1) := by decide +kernel
theorem dX5_jump_231 : decode cX5_jump 231 = .ok (.ireturn, 1) := by decide +kernel
theorem dX5_spin_0 : decode cX5_spin 0 = .ok (.aload_n 0, 1) := by decide +kernel
theorem dX5_spin_1 : decode cX5_spin 1 = .ok (.iload_n 1, 1) := by decide +kernel
theorem dX5_spin_2 : decode cX5_spin 2 = .ok (.iconst 0, 1) := by decide +kernel
theorem dX5_spin_3 : decode cX5_spin 3 = .ok (.bipush 63, 2) := by decide +kernel
theorem dX5_spin_5 : decode cX5_spin 5 = .ok (.invokestatic 64, 3) := by decide +kernel
theorem dX5_spin_8 : decode cX5_spin 8 = .ok (.ifCond .eq 13, 3) := by decide +kernel
theorem dX5_spin_11 : decode cX5_spin 11 = .ok (.iload_n 2, 1) := by decide +kernel
theorem dX5_spin_12 : decode cX5_spin 12 = .ok (.iconst 1, 1) := by decide +kernel
theorem dX5_spin_13 : decode cX5_spin 13 = .ok (.bipush 20, 2) := by decide +kernel
theorem dX5_spin_15 : decode cX5_spin 15 = .ok (.invokestatic 64, 3) := by decide +kernel
theorem dX5_spin_18 : decode cX5_spin 18 = .ok (.ifCond .ne 7, 3) := by decide +kernel
theorem dX5_spin_21 : decode cX5_spin 21 = .ok (.iconst 1, 1) := by decide +kernel
theorem dX5_spin_22 : decode cX5_spin 22 = .ok (.goto 29, 3) := by decide +kernel
theorem dX5_spin_25 : decode cX5_spin 25 = .ok (.aload_n 0, 1) := by decide +kernel
theorem dX5_spin_26 : decode cX5_spin 26 = .ok (.invokevirtual 85, 3) := by decide +kernel
theorem dX5_spin_29 : decode cX5_spin 29 = .ok (.ifCond .eq 21, 3) := by decide +kernel
theorem dX5_spin_32 : decode cX5_spin 32 = .ok (.aload_n 0, 1) := by decide +kernel
theorem dX5_spin_33 : decode cX5_spin 33 = .ok (.getfield 20, 3) := by decide +kernel
theorem dX5_spin_36 : decode cX5_spin 36 = .ok (.aload_n 0, 1) := by decide +kernel
theorem dX5_spin_37 : decode cX5_spin 37 = .ok (.getfield 9, 3) := by decide +kernel
theorem dX5_spin_40 : decode cX5_spin 40 = .ok (.iaload, 1) := by decide +kernel
theorem dX5_spin_41 : decode cX5_spin 41 = .ok (.bipush 12, 2) := by decide +kernel
theorem dX5_spin_43 : decode cX5_spin 43 = .ok (.if_icmp .ge 7, 3) := by decide +kernel
theorem dX5_spin_46 : decode cX5_spin 46 = .ok (.iconst 0, 1) := by decide +kernel
theorem dX5_spin_47 : decode cX5_spin 47 = .ok (.goto 4, 3) := by decide +kernel
theorem dX5_spin_50 : decode cX5_spin 50 = .ok (.iconst 2, 1) := by decide +kernel
theorem dX5_spin_51 : decode cX5_spin 51 = .ok (.putfield 58, 3) := by decide +kernel
theorem dX5_spin_54 : decode cX5_spin 54 = .ok (.aload_n 0, 1) := by decide +kernel
theorem dX5_spin_55 : decode cX5_spin 55 = .ok (.getfield 58, 3) := by decide +kernel
theorem dX5_spin_58 : decode cX5_spin 58 = .ok (.ifCond .le 5, 3) := by decide +kernel
theorem dX5_spin_61 : decode cX5_spin 61 = .ok (.iconst 0, 1) := by decide +kernel
theorem dX5_spin_62 : decode cX5_spin 62 = .ok (.ireturn, 1) := by decide +kernel
theorem dX5_spin_63 : decode cX5_spin 63 = .ok (.aload_n 0, 1) := by decide +kernel
theorem dX5_spin_64 : decode cX5_spin 64 = .ok (.getfield 20, 3) := by decide +kernel
theorem dX5_spin_67 : decode cX5_spin 67 = .ok (.aload_n 0, 1) := by decide +kernel
theorem dX5_spin_68 : decode cX5_spin 68 = .ok (.getfield 9, 3) := by decide +kernel
theorem dX5_spin_71 : decode cX5_spin 71 = .ok (.iaload, 1) := by decide +kernel
theorem dX5_spin_72 : decode cX5_spin 72 = .ok (.istore_n 3, 1) := by decide +kernel
theorem dX5_spin_73 : decode cX5_spin 73 = .ok (.iconst 0, 1) := by decide +kernel
theorem dX5_spin_74 : decode cX5_spin 74 = .ok (.istore 4, 2) := by decide +kernel
theorem dX5_spin_76 : decode cX5_spin 76 = .ok (.iconst 0, 1) := by decide +kernel
theorem dX5_spin_77 : decode cX5_spin 77 = .ok (.istore 5, 2) := by decide +kernel
theorem dX5_spin_79 : decode cX5_spin 79 = .ok (.iload 5, 2) := by decide +kernel
theorem dX5_spin_81 : decode cX5_spin 81 = .ok (.iload_n 3, 1) := by decide +kernel
theorem dX5_spin_82 : decode cX5_spin 82 = .ok (.if_icmp .ge 68, 3) := by decide +kernel
theorem dX5_spin_85 : decode cX5_spin 85 = .ok (.iload 4, 2) := by decide +kernel
theorem dX5_spin_87 : decode cX5_spin 87 = .ok (.aload_n 0, 1) := by decide +kernel
theorem dX5_spin_88 : decode cX5_spin 88 = .ok (.getfield 23, 3) := by decide +kernel
theorem dX5_spin_91 : decode cX5_spin 91 = .ok (.aload_n 0, 1) := by decide +kernel
theorem dX5_spin_92 : decode cX5_spin 92 = .ok (.getfield 9, 3) := by decide +kernel
theorem dX5_spin_95 : decode cX5_spin 95 = .ok (.iload 5, 2) := by decide +kernel
theorem dX5_spin_97 : decode cX5_spin 97 = .ok (.invokestatic 92, 3) := by decide +kernel
theorem dX5_spin_100 : decode cX5_spin 100 = .ok (.iaload, 1) := by decide +kernel
theorem dX5_spin_101 : decode cX5_spin 101 = .ok (.bipush 6, 2) := by decide +kernel
theorem dX5_spin_103 : decode cX5_spin 103 = .ok (.if_icmp .ne 37, 3) := by decide +kernel
theorem dX5_spin_106 : decode cX5_spin 106 = .ok (.aload_n 0, 1) := by decide +kernel
theorem dX5_spin_107 : decode cX5_spin 107 = .ok (.getfield 26, 3) := by decide +kernel
theorem dX5_spin_110 : decode cX5_spin 110 = .ok (.aload_n 0, 1) := by decide +kernel
theorem dX5_spin_111 : decode cX5_spin 111 = .ok (.getfield 9, 3) := by decide +kernel
theorem dX5_spin_114 : decode cX5_spin 114 = .ok (.iload 5, 2) := by decide +kernel
theorem dX5_spin_116 : decode cX5_spin 116 = .ok (.invokestatic 92, 3) := by decide +kernel
theorem dX5_spin_119 : decode cX5_spin 119 = .ok (.iaload, 1) := by decide +kernel
theorem dX5_spin_120 : decode cX5_spin 120 = .ok (.ifCond .le 20, 3) := by decide +kernel
theorem dX5_spin_123 : decode cX5_spin 123 = .ok (.aload_n 0, 1) := by decide +kernel
theorem dX5_spin_124 : decode cX5_spin 124 = .ok (.getfield 29, 3) := by decide +kernel
theorem dX5_spin_127 : decode cX5_spin 127 = .ok (.aload_n 0, 1) := by decide +kernel
theorem dX5_spin_128 : decode cX5_spin 128 = .ok (.getfield 9, 3) := by decide +kernel
theorem dX5_spin_131 : decode cX5_spin 131 = .ok (.iload 5, 2) := by decide +kernel
theorem dX5_spin_133 : decode cX5_spin 133 = .ok (.invokestatic 92, 3) := by decide +kernel
theorem dX5_spin_136 : decode cX5_spin 136 = .ok (.iaload, 1) := by decide +kernel
theorem dX5_spin_137 : decode cX5_spin 137 = .ok (.goto 4, 3) := by decide +kernel
theorem dX5_spin_140 : decode cX5_spin 140 = .ok (.iconst 0, 1) := by decide +kernel
theorem dX5_spin_141 : decode cX5_spin 141 = .ok (.ior, 1) := by decide +kernel
theorem dX5_spin_142 : decode cX5_spin 142 = .ok (.istore 4, 2) := by decide +kernel
theorem dX5_spin_144 : decode cX5_spin 144 = .ok (.iinc 5 1, 3) := by decide +kernel
theorem dX5_spin_147 : decode cX5_spin 147 = .ok (.goto (-68), 3) := by decide +kernel
theorem dX5_spin_150 : decode cX5_spin 150 = .ok (.iconst 0, 1) := by decide +kernel
theorem dX5_spin_151 : decode cX5_spin 151 = .ok (.istore 5, 2) := by decide +kernel
theorem dX5_spin_153 : decode cX5_spin 153 = .ok (.iconst 0, 1) := by decide +kernel
theorem dX5_spin_154 : decode cX5_spin 154 = .ok (.istore 6, 2) := by decide +kernel
theorem dX5_spin_156 : decode cX5_spin 156 = .ok (.iload 6, 2) := by decide +kernel
theorem dX5_spin_158 : decode cX5_spin 158 = .ok (.bipush 6, 2) := by decide +kernel
theorem dX5_spin_160 : decode cX5_spin 160 = .ok (.if_icmp .ge 63, 3) := by decide +kernel
theorem dX5_spin_163 : decode cX5_spin 163 = .ok (.iload_n 2, 1) := by decide +kernel
theorem dX5_spin_164 : decode cX5_spin 164 = .ok (.bipush 6, 2) := by decide +kernel
theorem dX5_spin_166 : decode cX5_spin 166 = .ok (.if_icmp .lt 57, 3) := by decide +kernel
theorem dX5_spin_169 : decode cX5_spin 169 = .ok (.iload_n 1, 1) := by decide +kernel
theorem dX5_spin_170 : decode cX5_spin 170 = .ok (.iload 6, 2) := by decide +kernel
theorem dX5_spin_172 : decode cX5_spin 172 = .ok (.ishr, 1) := by decide +kernel
theorem dX5_spin_173 : decode cX5_spin 173 = .ok (.iconst 1, 1) := by decide +kernel
theorem dX5_spin_174 : decode cX5_spin 174 = .ok (.iand, 1) := by decide +kernel
theorem dX5_spin_175 : decode cX5_spin 175 = .ok (.iconst 1, 1) := by decide +kernel
theorem dX5_spin_176 : decode cX5_spin 176 = .ok (.if_icmp .ne 17, 3) := by decide +kernel
theorem dX5_spin_179 : decode cX5_spin 179 = .ok (.iload 4, 2) := by decide +kernel
theorem dX5_spin_181 : decode cX5_spin 181 = .ok (.iload 6, 2) := by decide +kernel
theorem dX5_spin_183 : decode cX5_spin 183 = .ok (.ishr, 1) := by decide +kernel
theorem dX5_spin_184 : decode cX5_spin 184 = .ok (.iconst 1, 1) := by decide +kernel
theorem dX5_spin_185 : decode cX5_spin 185 = .ok (.iand, 1) := by decide +kernel
theorem dX5_spin_186 : decode cX5_spin 186 = .ok (.ifCond .ne 7, 3) := by decide +kernel
theorem dX5_spin_189 : decode cX5_spin 189 = .ok (.iconst 1, 1) := by decide +kernel
theorem dX5_spin_190 : decode cX5_spin 190 = .ok (.goto 4, 3) := by decide +kernel
theorem dX5_spin_193 : decode cX5_spin 193 = .ok (.iconst 0, 1) := by decide +kernel
theorem dX5_spin_194 : decode cX5_spin 194 = .ok (.istore 7, 2) := by decide +kernel
theorem dX5_spin_196 : decode cX5_spin 196 = .ok (.iload 5, 2) := by decide +kernel
theorem dX5_spin_198 : decode cX5_spin 198 = .ok (.iload 7, 2) := by decide +kernel
theorem dX5_spin_200 : decode cX5_spin 200 = .ok (.ifCond .eq 13, 3) := by decide +kernel
theorem dX5_spin_203 : decode cX5_spin 203 = .ok (.iload 5, 2) := by decide +kernel
theorem dX5_spin_205 : decode cX5_spin 205 = .ok (.iconst 4, 1) := by decide +kernel
theorem dX5_spin_206 : decode cX5_spin 206 = .ok (.if_icmp .ge 7, 3) := by decide +kernel
theorem dX5_spin_209 : decode cX5_spin 209 = .ok (.iconst 1, 1) := by decide +kernel
theorem dX5_spin_210 : decode cX5_spin 210 = .ok (.goto 4, 3) := by decide +kernel
theorem dX5_spin_213 : decode cX5_spin 213 = .ok (.iconst 0, 1) := by decide +kernel
theorem dX5_spin_214 : decode cX5_spin 214 = .ok (.iadd, 1) := by decide +kernel
theorem dX5_spin_215 : decode cX5_spin 215 = .ok (.istore 5, 2) := by decide +kernel
theorem dX5_spin_217 : decode cX5_spin 217 = .ok (.iinc 6 1, 3) := by decide +kernel
theorem dX5_spin_220 : decode cX5_spin 220 = .ok (.goto (-64), 3) := by decide +kernel
theorem dX5_spin_223 : decode cX5_spin 223 = .ok (.aload_n 0, 1) := by decide +kernel
theorem dX5_spin_224 : decode cX5_spin 224 = .ok (.getfield 23, 3) := by decide +kernel
theorem dX5_spin_227 : decode cX5_spin 227 = .ok (.aload_n 0, 1) := by decide +kernel
theorem dX5_spin_228 : decode cX5_spin 228 = .ok (.getfield 9, 3) := by decide +kernel
theorem dX5_spin_231 : decode cX5_spin 231 = .ok (.iload_n 3, 1) := by decide +kernel
theorem dX5_spin_232 : decode cX5_spin 232 = .ok (.invokestatic 92, 3) := by decide +kernel
theorem dX5_spin_235 : decode cX5_spin 235 = .ok (.bipush 6, 2) := by decide +kernel
theorem dX5_spin_237 : decode cX5_spin 237 = .ok (.iastore, 1) := by decide +kernel
theorem dX5_spin_238 : decode cX5_spin 238 = .ok (.aload_n 0, 1) := by decide +kernel
theorem dX5_spin_239 : decode cX5_spin 239 = .ok (.getfield 26, 3) := by decide +kernel
theorem dX5_spin_242 : decode cX5_spin 242 = .ok (.aload_n 0, 1) := by decide +kernel
theorem dX5_spin_243 : decode cX5_spin 243 = .ok (.getfield 9, 3) := by decide +kernel
theorem dX5_spin_246 : decode cX5_spin 246 = .ok (.iload_n 3, 1) := by decide +kernel
theorem dX5_spin_247 : decode cX5_spin 247 = .ok (.invokestatic 92, 3) := by decide +kernel
theorem dX5_spin_250 : decode cX5_spin 250 = .ok (.iload 5, 2) := by decide +kernel
theorem dX5_spin_252 : decode cX5_spin 252 = .ok (.iastore, 1) := by decide +kernel
theorem dX5_spin_253 : decode cX5_spin 253 = .ok (.aload_n 0, 1) := by decide +kernel
theorem dX5_spin_254 : decode cX5_spin 254 = .ok (.getfield 29, 3) := by decide +kernel
theorem dX5_spin_257 : decode cX5_spin 257 = .ok (.aload_n 0, 1) := by decide +kernel
theorem dX5_spin_258 : decode cX5_spin 258 = .ok (.getfield 9, 3) := by decide +kernel
theorem dX5_spin_261 : decode cX5_spin 261 = .ok (.iload_n 3, 1) := by decide +kernel
theorem dX5_spin_262 : decode cX5_spin 262 = .ok (.invokestatic 92, 3) := by decide +kernel
theorem dX5_spin_265 : decode cX5_spin 265 = .ok (.iload_n 1, 1) := by decide +kernel
theorem dX5_spin_266 : decode cX5_spin 266 = .ok (.iastore, 1) := by decide +kernel
theorem dX5_spin_267 : decode cX5_spin 267 = .ok (.aload_n 0, 1) := by decide +kernel
theorem dX5_spin_268 : decode cX5_spin 268 = .ok (.getfield 17, 3) := by decide +kernel
theorem dX5_spin_271 : decode cX5_spin 271 = .ok (.aload_n 0, 1) := by decide +kernel
theorem dX5_spin_272 : decode cX5_spin 272 = .ok (.getfield 9, 3) := by decide +kernel
theorem dX5_spin_275 : decode cX5_spin 275 = .ok (.dup2, 1) := by decide +kernel
theorem dX5_spin_276 : decode cX5_spin 276 = .ok (.iaload, 1) := by decide +kernel
theorem dX5_spin_277 : decode cX5_spin 277 = .ok (.bipush 10, 2) := by decide +kernel
theorem dX5_spin_279 : decode cX5_spin 279 = .ok (.iadd, 1) := by decide +kernel
theorem dX5_spin_280 : decode cX5_spin 280 = .ok (.iastore, 1) := by decide +kernel
theorem dX5_spin_281 : decode cX5_spin 281 = .ok (.aload_n 0, 1) := by decide +kernel
theorem dX5_spin_282 : decode cX5_spin 282 = .ok (.iconst 0, 1) := by decide +kernel
theorem dX5_spin_283 : decode cX5_spin 283 = .ok (.iconst 1, 1) := by decide +kernel
theorem dX5_spin_284 : decode cX5_spin 284 = .ok (.iconst 1, 1) := by decide +kernel
theorem dX5_spin_285 : decode cX5_spin 285 = .ok (.invokevirtual 72, 3) := by decide +kernel
theorem dX5_spin_288 : decode cX5_spin 288 = .ok (.aload_n 0, 1) := by decide +kernel
theorem dX5_spin_289 : decode cX5_spin 289 = .ok (.getfield 20, 3) := by decide +kernel
theorem dX5_spin_292 : decode cX5_spin 292 = .ok (.aload_n 0, 1) := by decide +kernel
theorem dX5_spin_293 : decode cX5_spin 293 = .ok (.getfield 9, 3) := by decide +kernel
theorem dX5_spin_296 : decode cX5_spin 296 = .ok (.dup2, 1) := by decide +kernel
theorem dX5_spin_297 : decode cX5_spin 297 = .ok (.iaload, 1) := by decide +kernel
theorem dX5_spin_298 : decode cX5_spin 298 = .ok (.iconst 1, 1) := by decide +kernel
theorem dX5_spin_299 : decode cX5_spin 299 = .ok (.iadd, 1) := by decide +kernel
theorem dX5_spin_300 : decode cX5_spin 300 = .ok (.iastore, 1) := by decide +kernel
theorem dX5_spin_301 : decode cX5_spin 301 = .ok (.iload_n 3, 1) := by decide +kernel
theorem dX5_spin_302 : decode cX5_spin 302 = .ok (.ireturn, 1) := by decide +kernel
theorem dX5_end_0 : decode cX5_end 0 = .ok (.aload_n 0, 1) := by decide +kernel
theorem dX5_end_1 : decode cX5_end 1 = .ok (.aload_n 0, 1) := by decide +kernel
theorem dX5_end_2 : decode cX5_end 2 = .ok (.getfield 9, 3) := by decide +kernel
theorem dX5_end_5 : decode cX5_end 5 = .ok (.iconst (-1), 1) := by decide +kernel
theorem dX5_end_6 : decode cX5_end 6 = .ok (.if_icmp .ne 7, 3) := by decide +kernel
theorem dX5_end_9 : decode cX5_end 9 = .ok (.iconst 1, 1) := by decide +kernel
theorem dX5_end_10 : decode cX5_end 10 = .ok (.goto 4, 3) := by decide +kernel
theorem dX5_end_13 : decode cX5_end 13 = .ok (.iconst 0, 1) := by decide +kernel
theorem dX5_end_14 : decode cX5_end 14 = .ok (.putfield 58, 3) := by decide +kernel
theorem dX5_end_17 : decode cX5_end 17 = .ok (.aload_n 0, 1) := by decide +kernel
theorem dX5_end_18 : decode cX5_end 18 = .ok (.getfield 58, 3) := by decide +kernel
theorem dX5_end_21 : decode cX5_end 21 = .ok (.ifCond .le 5, 3) := by decide +kernel
theorem dX5_end_24 : decode cX5_end 24 = .ok (.iconst 0, 1) := by decide +kernel
theorem dX5_end_25 : decode cX5_end 25 = .ok (.ireturn, 1) := by decide +kernel
theorem dX5_end_26 : decode cX5_end 26 = .ok (.aload_n 0, 1) := by decide +kernel
theorem dX5_end_27 : decode cX5_end 27 = .ok (.getfield 20, 3) := by decide +kernel
theorem dX5_end_30 : decode cX5_end 30 = .ok (.aload_n 0, 1) := by decide +kernel
theorem dX5_end_31 : decode cX5_end 31 = .ok (.getfield 9, 3) := by decide +kernel
theorem dX5_end_34 : decode cX5_end 34 = .ok (.iaload, 1) := by decide +kernel
theorem dX5_end_35 : decode cX5_end 35 = .ok (.istore_n 1, 1) := by decide +kernel
theorem dX5_end_36 : decode cX5_end 36 = .ok (.aload_n 0, 1) := by decide +kernel
theorem dX5_end_37 : decode cX5_end 37 = .ok (.getfield 13, 3) := by decide +kernel
theorem dX5_end_40 : decode cX5_end 40 = .ok (.aload_n 0, 1) := by decide +kernel
theorem dX5_end_41 : decode cX5_end 41 = .ok (.getfield 9, 3) := by decide +kernel
theorem dX5_end_44 : decode cX5_end 44 = .ok (.iconst 2, 1) := by decide +kernel
theorem dX5_end_45 : decode cX5_end 45 = .ok (.iastore, 1) := by decide +kernel
theorem dX5_end_46 : decode cX5_end 46 = .ok (.aload_n 0, 1) := by decide +kernel
theorem dX5_end_47 : decode cX5_end 47 = .ok (.iconst (-1), 1) := by decide +kernel
theorem dX5_end_48 : decode cX5_end 48 = .ok (.putfield 9, 3) := by decide +kernel
theorem dX5_end_51 : decode cX5_end 51 = .ok (.iload_n 1, 1) := by decide +kernel
theorem dX5_end_52 : decode cX5_end 52 = .ok (.ireturn, 1) := by decide +kernel
theorem dX5_quartersOf_0 : decode cX5_quartersOf 0 = .ok (.iconst 0, 1) := by decide +kernel
theorem dX5_quartersOf_1 : decode cX5_quartersOf 1 = .ok (.istore_n 2, 1) := by decide +kernel
theorem dX5_quartersOf_2 : decode cX5_quartersOf 2 = .ok (.iconst 0, 1) := by decide +kernel
theorem dX5_quartersOf_3 : decode cX5_quartersOf 3 = .ok (.istore_n 3, 1) := by decide +kernel
theorem dX5_quartersOf_4 : decode cX5_quartersOf 4 = .ok (.bipush 99, 2) := by decide +kernel
theorem dX5_quartersOf_6 : decode cX5_quartersOf 6 = .ok (.istore 4, 2) := by decide +kernel
theorem dX5_quartersOf_8 : decode cX5_quartersOf 8 = .ok (.iconst 0, 1) := by decide +kernel
theorem dX5_quartersOf_9 : decode cX5_quartersOf 9 = .ok (.istore 5, 2) := by decide +kernel
theorem dX5_quartersOf_11 : decode cX5_quartersOf 11 = .ok (.iconst 0, 1) := by decide +kernel
theorem dX5_quartersOf_12 : decode cX5_quartersOf 12 = .ok (.istore 6, 2) := by decide +kernel
theorem dX5_quartersOf_14 : decode cX5_quartersOf 14 = .ok (.iload 6, 2) := by decide +kernel
theorem dX5_quartersOf_16 : decode cX5_quartersOf 16 = .ok (.iconst 3, 1) := by decide +kernel
theorem dX5_quartersOf_17 : decode cX5_quartersOf 17 = .ok (.if_icmp .ge 92, 3) := by decide +kernel
theorem dX5_quartersOf_20 : decode cX5_quartersOf 20 = .ok (.aload_n 0, 1) := by decide +kernel
theorem dX5_quartersOf_21 : decode cX5_quartersOf 21 = .ok (.getfield 32, 3) := by decide +kernel
theorem dX5_quartersOf_24 : decode cX5_quartersOf 24 = .ok (.iconst 3, 1) := by decide +kernel
theorem dX5_quartersOf_25 : decode cX5_quartersOf 25 = .ok (.iload_n 1, 1) := by decide +kernel
theorem dX5_quartersOf_26 : decode cX5_quartersOf 26 = .ok (.imul, 1) := by decide +kernel
theorem dX5_quartersOf_27 : decode cX5_quartersOf 27 = .ok (.iload 6, 2) := by decide +kernel
theorem dX5_quartersOf_29 : decode cX5_quartersOf 29 = .ok (.iadd, 1) := by decide +kernel
theorem dX5_quartersOf_30 : decode cX5_quartersOf 30 = .ok (.iaload, 1) := by decide +kernel
theorem dX5_quartersOf_31 : decode cX5_quartersOf 31 = .ok (.istore 7, 2) := by decide +kernel
theorem dX5_quartersOf_33 : decode cX5_quartersOf 33 = .ok (.iload_n 3, 1) := by decide +kernel
theorem dX5_quartersOf_34 : decode cX5_quartersOf 34 = .ok (.iload 7, 2) := by decide +kernel
theorem dX5_quartersOf_36 : decode cX5_quartersOf 36 = .ok (.bipush (-99), 2) := by decide +kernel
theorem dX5_quartersOf_38 : decode cX5_quartersOf 38 = .ok (.if_icmp .ne 7, 3) := by decide +kernel
theorem dX5_quartersOf_41 : decode cX5_quartersOf 41 = .ok (.iconst 0, 1) := by decide +kernel
theorem dX5_quartersOf_42 : decode cX5_quartersOf 42 = .ok (.goto 4, 3) := by decide +kernel
theorem dX5_quartersOf_45 : decode cX5_quartersOf 45 = .ok (.iconst 1, 1) := by decide +kernel
theorem dX5_quartersOf_46 : decode cX5_quartersOf 46 = .ok (.iadd, 1) := by decide +kernel
theorem dX5_quartersOf_47 : decode cX5_quartersOf 47 = .ok (.istore_n 3, 1) := by decide +kernel
theorem dX5_quartersOf_48 : decode cX5_quartersOf 48 = .ok (.iload_n 2, 1) := by decide +kernel
theorem dX5_quartersOf_49 : decode cX5_quartersOf 49 = .ok (.iload 7, 2) := by decide +kernel
theorem dX5_quartersOf_51 : decode cX5_quartersOf 51 = .ok (.bipush (-99), 2) := by decide +kernel
theorem dX5_quartersOf_53 : decode cX5_quartersOf 53 = .ok (.if_icmp .ne 7, 3) := by decide +kernel
theorem dX5_quartersOf_56 : decode cX5_quartersOf 56 = .ok (.iconst 0, 1) := by decide +kernel
theorem dX5_quartersOf_57 : decode cX5_quartersOf 57 = .ok (.goto 5, 3) := by decide +kernel
theorem dX5_quartersOf_60 : decode cX5_quartersOf 60 = .ok (.iload 7, 2) := by decide +kernel
theorem dX5_quartersOf_62 : decode cX5_quartersOf 62 = .ok (.iadd, 1) := by decide +kernel
theorem dX5_quartersOf_63 : decode cX5_quartersOf 63 = .ok (.istore_n 2, 1) := by decide +kernel
theorem dX5_quartersOf_64 : decode cX5_quartersOf 64 = .ok (.iload 7, 2) := by decide +kernel
theorem dX5_quartersOf_66 : decode cX5_quartersOf 66 = .ok (.bipush (-99), 2) := by decide +kernel
theorem dX5_quartersOf_68 : decode cX5_quartersOf 68 = .ok (.if_icmp .eq 15, 3) := by decide +kernel
theorem dX5_quartersOf_71 : decode cX5_quartersOf 71 = .ok (.iload 7, 2) := by decide +kernel
theorem dX5_quartersOf_73 : decode cX5_quartersOf 73 = .ok (.iload 4, 2) := by decide +kernel
theorem dX5_quartersOf_75 : decode cX5_quartersOf 75 = .ok (.if_icmp .ge 8, 3) := by decide +kernel
theorem dX5_quartersOf_78 : decode cX5_quartersOf 78 = .ok (.iload 7, 2) := by decide +kernel
theorem dX5_quartersOf_80 : decode cX5_quartersOf 80 = .ok (.goto 5, 3) := by decide +kernel
theorem dX5_quartersOf_83 : decode cX5_quartersOf 83 = .ok (.iload 4, 2) := by decide +kernel
theorem dX5_quartersOf_85 : decode cX5_quartersOf 85 = .ok (.istore 4, 2) := by decide +kernel
theorem dX5_quartersOf_87 : decode cX5_quartersOf 87 = .ok (.iload 7, 2) := by decide +kernel
theorem dX5_quartersOf_89 : decode cX5_quartersOf 89 = .ok (.iload 5, 2) := by decide +kernel
theorem dX5_quartersOf_91 : decode cX5_quartersOf 91 = .ok (.if_icmp .le 8, 3) := by decide +kernel
theorem dX5_quartersOf_94 : decode cX5_quartersOf 94 = .ok (.iload 7, 2) := by decide +kernel
theorem dX5_quartersOf_96 : decode cX5_quartersOf 96 = .ok (.goto 5, 3) := by decide +kernel
theorem dX5_quartersOf_99 : decode cX5_quartersOf 99 = .ok (.iload 5, 2) := by decide +kernel
theorem dX5_quartersOf_101 : decode cX5_quartersOf 101 = .ok (.istore 5, 2) := by decide +kernel
theorem dX5_quartersOf_103 : decode cX5_quartersOf 103 = .ok (.iinc 6 1, 3) := by decide +kernel
theorem dX5_quartersOf_106 : decode cX5_quartersOf 106 = .ok (.goto (-92), 3) := by decide +kernel
theorem dX5_quartersOf_109 : decode cX5_quartersOf 109 = .ok (.iload_n 3, 1) := by decide +kernel
theorem dX5_quartersOf_110 : decode cX5_quartersOf 110 = .ok (.ifCond .ne 7, 3) := by decide +kernel
theorem dX5_quartersOf_113 : decode cX5_quartersOf 113 = .ok (.iconst 0, 1) := by decide +kernel
theorem dX5_quartersOf_114 : decode cX5_quartersOf 114 = .ok (.goto 20, 3) := by decide +kernel
theorem dX5_quartersOf_117 : decode cX5_quartersOf 117 = .ok (.iload_n 3, 1) := by decide +kernel
theorem dX5_quartersOf_118 : decode cX5_quartersOf 118 = .ok (.iconst 3, 1) := by decide +kernel
theorem dX5_quartersOf_119 : decode cX5_quartersOf 119 = .ok (.if_icmp .ge 8, 3) := by decide +kernel
theorem dX5_quartersOf_122 : decode cX5_quartersOf 122 = .ok (.iload 4, 2) := by decide +kernel
theorem dX5_quartersOf_124 : decode cX5_quartersOf 124 = .ok (.goto 10, 3) := by decide +kernel
theorem dX5_quartersOf_127 : decode cX5_quartersOf 127 = .ok (.iload_n 2, 1) := by decide +kernel
theorem dX5_quartersOf_128 : decode cX5_quartersOf 128 = .ok (.iload 4, 2) := by decide +kernel
theorem dX5_quartersOf_130 : decode cX5_quartersOf 130 = .ok (.isub, 1) := by decide +kernel
theorem dX5_quartersOf_131 : decode cX5_quartersOf 131 = .ok (.iload 5, 2) := by decide +kernel
theorem dX5_quartersOf_133 : decode cX5_quartersOf 133 = .ok (.isub, 1) := by decide +kernel
theorem dX5_quartersOf_134 : decode cX5_quartersOf 134 = .ok (.ireturn, 1) := by decide +kernel
theorem dX5_call_0 : decode cX5_call 0 = .ok (.aload_n 0, 1) := by decide +kernel
theorem dX5_call_1 : decode cX5_call 1 = .ok (.iload_n 1, 1) := by decide +kernel
theorem dX5_call_2 : decode cX5_call 2 = .ok (.iconst 0, 1) := by decide +kernel
theorem dX5_call_3 : decode cX5_call 3 = .ok (.iconst 2, 1) := by decide +kernel
theorem dX5_call_4 : decode cX5_call 4 = .ok (.invokestatic 64, 3) := by decide +kernel
theorem dX5_call_7 : decode cX5_call 7 = .ok (.ifCond .eq 23, 3) := by decide +kernel
theorem dX5_call_10 : decode cX5_call 10 = .ok (.aload_n 0, 1) := by decide +kernel
theorem dX5_call_11 : decode cX5_call 11 = .ok (.getfield 9, 3) := by decide +kernel
theorem dX5_call_14 : decode cX5_call 14 = .ok (.iconst (-1), 1) := by decide +kernel
theorem dX5_call_15 : decode cX5_call 15 = .ok (.if_icmp .eq 19, 3) := by decide +kernel
theorem dX5_call_18 : decode cX5_call 18 = .ok (.aload_n 0, 1) := by decide +kernel
theorem dX5_call_19 : decode cX5_call 19 = .ok (.aload_n 0, 1) := by decide +kernel
theorem dX5_call_20 : decode cX5_call 20 = .ok (.getfield 9, 3) := by decide +kernel
theorem dX5_call_23 : decode cX5_call 23 = .ok (.iload_n 2, 1) := by decide +kernel
theorem dX5_call_24 : decode cX5_call 24 = .ok (.invokevirtual 96, 3) := by decide +kernel
theorem dX5_call_27 : decode cX5_call 27 = .ok (.ifCond .ne 7, 3) := by decide +kernel
theorem dX5_call_30 : decode cX5_call 30 = .ok (.iconst 1, 1) := by decide +kernel
theorem dX5_call_31 : decode cX5_call 31 = .ok (.goto 17, 3) := by decide +kernel
theorem dX5_call_34 : decode cX5_call 34 = .ok (.iload_n 3, 1) := by decide +kernel
theorem dX5_call_35 : decode cX5_call 35 = .ok (.iconst 0, 1) := by decide +kernel
theorem dX5_call_36 : decode cX5_call 36 = .ok (.iconst 4, 1) := by decide +kernel
theorem dX5_call_37 : decode cX5_call 37 = .ok (.invokestatic 64, 3) := by decide +kernel
theorem dX5_call_40 : decode cX5_call 40 = .ok (.ifCond .ne 7, 3) := by decide +kernel
theorem dX5_call_43 : decode cX5_call 43 = .ok (.iconst 2, 1) := by decide +kernel
theorem dX5_call_44 : decode cX5_call 44 = .ok (.goto 4, 3) := by decide +kernel
theorem dX5_call_47 : decode cX5_call 47 = .ok (.iconst 0, 1) := by decide +kernel
theorem dX5_call_48 : decode cX5_call 48 = .ok (.putfield 58, 3) := by decide +kernel
theorem dX5_call_51 : decode cX5_call 51 = .ok (.aload_n 0, 1) := by decide +kernel
theorem dX5_call_52 : decode cX5_call 52 = .ok (.getfield 58, 3) := by decide +kernel
theorem dX5_call_55 : decode cX5_call 55 = .ok (.ifCond .ne 38, 3) := by decide +kernel
theorem dX5_call_58 : decode cX5_call 58 = .ok (.aload_n 0, 1) := by decide +kernel
theorem dX5_call_59 : decode cX5_call 59 = .ok (.aload_n 0, 1) := by decide +kernel
theorem dX5_call_60 : decode cX5_call 60 = .ok (.getfield 9, 3) := by decide +kernel
theorem dX5_call_63 : decode cX5_call 63 = .ok (.iconst (-1), 1) := by decide +kernel
theorem dX5_call_64 : decode cX5_call 64 = .ok (.if_icmp .eq 21, 3) := by decide +kernel
theorem dX5_call_67 : decode cX5_call 67 = .ok (.aload_n 0, 1) := by decide +kernel
theorem dX5_call_68 : decode cX5_call 68 = .ok (.getfield 23, 3) := by decide +kernel
theorem dX5_call_71 : decode cX5_call 71 = .ok (.aload_n 0, 1) := by decide +kernel
theorem dX5_call_72 : decode cX5_call 72 = .ok (.getfield 9, 3) := by decide +kernel
theorem dX5_call_75 : decode cX5_call 75 = .ok (.iload_n 2, 1) := by decide +kernel
theorem dX5_call_76 : decode cX5_call 76 = .ok (.invokestatic 92, 3) := by decide +kernel
theorem dX5_call_79 : decode cX5_call 79 = .ok (.iaload, 1) := by decide +kernel
theorem dX5_call_80 : decode cX5_call 80 = .ok (.bipush 6, 2) := by decide +kernel
theorem dX5_call_82 : decode cX5_call 82 = .ok (.if_icmp .ne 7, 3) := by decide +kernel
theorem dX5_call_85 : decode cX5_call 85 = .ok (.iconst 3, 1) := by decide +kernel
theorem dX5_call_86 : decode cX5_call 86 = .ok (.goto 4, 3) := by decide +kernel
theorem dX5_call_89 : decode cX5_call 89 = .ok (.iconst 0, 1) := by decide +kernel
theorem dX5_call_90 : decode cX5_call 90 = .ok (.putfield 58, 3) := by decide +kernel
theorem dX5_call_93 : decode cX5_call 93 = .ok (.aload_n 0, 1) := by decide +kernel
theorem dX5_call_94 : decode cX5_call 94 = .ok (.getfield 58, 3) := by decide +kernel
theorem dX5_call_97 : decode cX5_call 97 = .ok (.ifCond .le 5, 3) := by decide +kernel
theorem dX5_call_100 : decode cX5_call 100 = .ok (.iconst 0, 1) := by decide +kernel
theorem dX5_call_101 : decode cX5_call 101 = .ok (.ireturn, 1) := by decide +kernel
theorem dX5_call_102 : decode cX5_call 102 = .ok (.aload_n 0, 1) := by decide +kernel
theorem dX5_call_103 : decode cX5_call 103 = .ok (.getfield 32, 3) := by decide +kernel
theorem dX5_call_106 : decode cX5_call 106 = .ok (.iconst 3, 1) := by decide +kernel
theorem dX5_call_107 : decode cX5_call 107 = .ok (.aload_n 0, 1) := by decide +kernel
theorem dX5_call_108 : decode cX5_call 108 = .ok (.getfield 9, 3) := by decide +kernel
theorem dX5_call_111 : decode cX5_call 111 = .ok (.iload_n 2, 1) := by decide +kernel
theorem dX5_call_112 : decode cX5_call 112 = .ok (.invokestatic 92, 3) := by decide +kernel
theorem dX5_call_115 : decode cX5_call 115 = .ok (.imul, 1) := by decide +kernel
theorem dX5_call_116 : decode cX5_call 116 = .ok (.iload_n 1, 1) := by decide +kernel
theorem dX5_call_117 : decode cX5_call 117 = .ok (.iadd, 1) := by decide +kernel
theorem dX5_call_118 : decode cX5_call 118 = .ok (.iload_n 3, 1) := by decide +kernel
theorem dX5_call_119 : decode cX5_call 119 = .ok (.iastore, 1) := by decide +kernel
theorem dX5_call_120 : decode cX5_call 120 = .ok (.aload_n 0, 1) := by decide +kernel
theorem dX5_call_121 : decode cX5_call 121 = .ok (.aload_n 0, 1) := by decide +kernel
theorem dX5_call_122 : decode cX5_call 122 = .ok (.getfield 9, 3) := by decide +kernel
theorem dX5_call_125 : decode cX5_call 125 = .ok (.iload_n 2, 1) := by decide +kernel
theorem dX5_call_126 : decode cX5_call 126 = .ok (.invokestatic 92, 3) := by decide +kernel
theorem dX5_call_129 : decode cX5_call 129 = .ok (.invokevirtual 100, 3) := by decide +kernel
theorem dX5_call_132 : decode cX5_call 132 = .ok (.ireturn, 1) := by decide +kernel
theorem dX5_grade_0 : decode cX5_grade 0 = .ok (.aload_n 0, 1) := by decide +kernel
theorem dX5_grade_1 : decode cX5_grade 1 = .ok (.iload_n 1, 1) := by decide +kernel
theorem dX5_grade_2 : decode cX5_grade 2 = .ok (.iconst 0, 1) := by decide +kernel
theorem dX5_grade_3 : decode cX5_grade 3 = .ok (.bipush 6, 2) := by decide +kernel
theorem dX5_grade_5 : decode cX5_grade 5 = .ok (.invokestatic 64, 3) := by decide +kernel
theorem dX5_grade_8 : decode cX5_grade 8 = .ok (.ifCond .eq 12, 3) := by decide +kernel
theorem dX5_grade_11 : decode cX5_grade 11 = .ok (.aload_n 0, 1) := by decide +kernel
theorem dX5_grade_12 : decode cX5_grade 12 = .ok (.iload_n 2, 1) := by decide +kernel
theorem dX5_grade_13 : decode cX5_grade 13 = .ok (.iload_n 3, 1) := by decide +kernel
theorem dX5_grade_14 : decode cX5_grade 14 = .ok (.invokevirtual 96, 3) := by decide +kernel
theorem dX5_grade_17 : decode cX5_grade 17 = .ok (.ifCond .ne 7, 3) := by decide +kernel
theorem dX5_grade_20 : decode cX5_grade 20 = .ok (.iconst 1, 1) := by decide +kernel
theorem dX5_grade_21 : decode cX5_grade 21 = .ok (.goto 33, 3) := by decide +kernel
theorem dX5_grade_24 : decode cX5_grade 24 = .ok (.iload 4, 2) := by decide +kernel
theorem dX5_grade_26 : decode cX5_grade 26 = .ok (.bipush (-5), 2) := by decide +kernel
theorem dX5_grade_28 : decode cX5_grade 28 = .ok (.iconst 5, 1) := by decide +kernel
theorem dX5_grade_29 : decode cX5_grade 29 = .ok (.invokestatic 64, 3) := by decide +kernel
theorem dX5_grade_32 : decode cX5_grade 32 = .ok (.ifCond .ne 7, 3) := by decide +kernel
theorem dX5_grade_35 : decode cX5_grade 35 = .ok (.iconst 2, 1) := by decide +kernel
theorem dX5_grade_36 : decode cX5_grade 36 = .ok (.goto 18, 3) := by decide +kernel
theorem dX5_grade_39 : decode cX5_grade 39 = .ok (.aload_n 0, 1) := by decide +kernel
theorem dX5_grade_40 : decode cX5_grade 40 = .ok (.getfield 13, 3) := by decide +kernel
theorem dX5_grade_43 : decode cX5_grade 43 = .ok (.iload_n 2, 1) := by decide +kernel
theorem dX5_grade_44 : decode cX5_grade 44 = .ok (.iaload, 1) := by decide +kernel
theorem dX5_grade_45 : decode cX5_grade 45 = .ok (.iconst 2, 1) := by decide +kernel
theorem dX5_grade_46 : decode cX5_grade 46 = .ok (.if_icmp .eq 7, 3) := by decide +kernel
theorem dX5_grade_49 : decode cX5_grade 49 = .ok (.iconst 3, 1) := by decide +kernel
theorem dX5_grade_50 : decode cX5_grade 50 = .ok (.goto 4, 3) := by decide +kernel
theorem dX5_grade_53 : decode cX5_grade 53 = .ok (.iconst 0, 1) := by decide +kernel
theorem dX5_grade_54 : decode cX5_grade 54 = .ok (.putfield 58, 3) := by decide +kernel
theorem dX5_grade_57 : decode cX5_grade 57 = .ok (.aload_n 0, 1) := by decide +kernel
theorem dX5_grade_58 : decode cX5_grade 58 = .ok (.getfield 58, 3) := by decide +kernel
theorem dX5_grade_61 : decode cX5_grade 61 = .ok (.ifCond .ne 21, 3) := by decide +kernel
theorem dX5_grade_64 : decode cX5_grade 64 = .ok (.aload_n 0, 1) := by decide +kernel
theorem dX5_grade_65 : decode cX5_grade 65 = .ok (.getfield 45, 3) := by decide +kernel
theorem dX5_grade_68 : decode cX5_grade 68 = .ok (.sipush 144, 3) := by decide +kernel
theorem dX5_grade_71 : decode cX5_grade 71 = .ok (.iload_n 1, 1) := by decide +kernel
theorem dX5_grade_72 : decode cX5_grade 72 = .ok (.imul, 1) := by decide +kernel
theorem dX5_grade_73 : decode cX5_grade 73 = .ok (.iload_n 2, 1) := by decide +kernel
theorem dX5_grade_74 : decode cX5_grade 74 = .ok (.iload_n 3, 1) := by decide +kernel
theorem dX5_grade_75 : decode cX5_grade 75 = .ok (.invokestatic 92, 3) := by decide +kernel
theorem dX5_grade_78 : decode cX5_grade 78 = .ok (.iadd, 1) := by decide +kernel
theorem dX5_grade_79 : decode cX5_grade 79 = .ok (.iload 4, 2) := by decide +kernel
theorem dX5_grade_81 : decode cX5_grade 81 = .ok (.iastore, 1) := by decide +kernel
theorem dX5_grade_82 : decode cX5_grade 82 = .ok (.return_, 1) := by decide +kernel
theorem dX5_component_0 : decode cX5_component 0 = .ok (.aload_n 0, 1) := by decide +kernel
theorem dX5_component_1 : decode cX5_component 1 = .ok (.iload_n 1, 1) := by decide +kernel
theorem dX5_component_2 : decode cX5_component 2 = .ok (.iconst 0, 1) := by decide +kernel
theorem dX5_component_3 : decode cX5_component 3 = .ok (.bipush 6, 2) := by decide +kernel
theorem dX5_component_5 : decode cX5_component 5 = .ok (.invokestatic 64, 3) := by decide +kernel
theorem dX5_component_8 : decode cX5_component 8 = .ok (.ifCond .eq 20, 3) := by decide +kernel
theorem dX5_component_11 : decode cX5_component 11 = .ok (.aload_n 0, 1) := by decide +kernel
theorem dX5_component_12 : decode cX5_component 12 = .ok (.iload_n 2, 1) := by decide +kernel
theorem dX5_component_13 : decode cX5_component 13 = .ok (.invokevirtual 68, 3) := by decide +kernel
theorem dX5_component_16 : decode cX5_component 16 = .ok (.ifCond .eq 12, 3) := by decide +kernel
theorem dX5_component_19 : decode cX5_component 19 = .ok (.iload_n 3, 1) := by decide +kernel
theorem dX5_component_20 : decode cX5_component 20 = .ok (.iconst 0, 1) := by decide +kernel
theorem dX5_component_21 : decode cX5_component 21 = .ok (.iconst 2, 1) := by decide +kernel
theorem dX5_component_22 : decode cX5_component 22 = .ok (.invokestatic 64, 3) := by decide +kernel
theorem dX5_component_25 : decode cX5_component 25 = .ok (.ifCond .ne 7, 3) := by decide +kernel
theorem dX5_component_28 : decode cX5_component 28 = .ok (.iconst 1, 1) := by decide +kernel
theorem dX5_component_29 : decode cX5_component 29 = .ok (.goto 33, 3) := by decide +kernel
theorem dX5_component_32 : decode cX5_component 32 = .ok (.iload 4, 2) := by decide +kernel
theorem dX5_component_34 : decode cX5_component 34 = .ok (.iconst 0, 1) := by decide +kernel
theorem dX5_component_35 : decode cX5_component 35 = .ok (.bipush 40, 2) := by decide +kernel
theorem dX5_component_37 : decode cX5_component 37 = .ok (.invokestatic 64, 3) := by decide +kernel
theorem dX5_component_40 : decode cX5_component 40 = .ok (.ifCond .ne 7, 3) := by decide +kernel
theorem dX5_component_43 : decode cX5_component 43 = .ok (.iconst 2, 1) := by decide +kernel
theorem dX5_component_44 : decode cX5_component 44 = .ok (.goto 18, 3) := by decide +kernel
theorem dX5_component_47 : decode cX5_component 47 = .ok (.aload_n 0, 1) := by decide +kernel
theorem dX5_component_48 : decode cX5_component 48 = .ok (.getfield 13, 3) := by decide +kernel
theorem dX5_component_51 : decode cX5_component 51 = .ok (.iload_n 2, 1) := by decide +kernel
theorem dX5_component_52 : decode cX5_component 52 = .ok (.iaload, 1) := by decide +kernel
theorem dX5_component_53 : decode cX5_component 53 = .ok (.iconst 2, 1) := by decide +kernel
theorem dX5_component_54 : decode cX5_component 54 = .ok (.if_icmp .eq 7, 3) := by decide +kernel
theorem dX5_component_57 : decode cX5_component 57 = .ok (.iconst 3, 1) := by decide +kernel
theorem dX5_component_58 : decode cX5_component 58 = .ok (.goto 4, 3) := by decide +kernel
theorem dX5_component_61 : decode cX5_component 61 = .ok (.iconst 0, 1) := by decide +kernel
theorem dX5_component_62 : decode cX5_component 62 = .ok (.putfield 58, 3) := by decide +kernel
theorem dX5_component_65 : decode cX5_component 65 = .ok (.aload_n 0, 1) := by decide +kernel
theorem dX5_component_66 : decode cX5_component 66 = .ok (.getfield 58, 3) := by decide +kernel
theorem dX5_component_69 : decode cX5_component 69 = .ok (.ifCond .ne 20, 3) := by decide +kernel
theorem dX5_component_72 : decode cX5_component 72 = .ok (.aload_n 0, 1) := by decide +kernel
theorem dX5_component_73 : decode cX5_component 73 = .ok (.getfield 48, 3) := by decide +kernel
theorem dX5_component_76 : decode cX5_component 76 = .ok (.bipush 36, 2) := by decide +kernel
theorem dX5_component_78 : decode cX5_component 78 = .ok (.iload_n 1, 1) := by decide +kernel
theorem dX5_component_79 : decode cX5_component 79 = .ok (.imul, 1) := by decide +kernel
theorem dX5_component_80 : decode cX5_component 80 = .ok (.iconst 3, 1) := by decide +kernel
theorem dX5_component_81 : decode cX5_component 81 = .ok (.iload_n 2, 1) := by decide +kernel
theorem dX5_component_82 : decode cX5_component 82 = .ok (.imul, 1) := by decide +kernel
theorem dX5_component_83 : decode cX5_component 83 = .ok (.iadd, 1) := by decide +kernel
theorem dX5_component_84 : decode cX5_component 84 = .ok (.iload_n 3, 1) := by decide +kernel
theorem dX5_component_85 : decode cX5_component 85 = .ok (.iadd, 1) := by decide +kernel
theorem dX5_component_86 : decode cX5_component 86 = .ok (.iload 4, 2) := by decide +kernel
theorem dX5_component_88 : decode cX5_component 88 = .ok (.iastore, 1) := by decide +kernel
theorem dX5_component_89 : decode cX5_component 89 = .ok (.return_, 1) := by decide +kernel
theorem dX5_value_0 : decode cX5_value 0 = .ok (.iload_n 1, 1) := by decide +kernel
theorem dX5_value_1 : decode cX5_value 1 = .ok (.iconst 0, 1) := by decide +kernel
theorem dX5_value_2 : decode cX5_value 2 = .ok (.iconst 2, 1) := by decide +kernel
theorem dX5_value_3 : decode cX5_value 3 = .ok (.invokestatic 64, 3) := by decide +kernel
theorem dX5_value_6 : decode cX5_value 6 = .ok (.ifCond .eq 48, 3) := by decide +kernel
theorem dX5_value_9 : decode cX5_value 9 = .ok (.iload_n 2, 1) := by decide +kernel
theorem dX5_value_10 : decode cX5_value 10 = .ok (.iconst 0, 1) := by decide +kernel
theorem dX5_value_11 : decode cX5_value 11 = .ok (.bipush 6, 2) := by decide +kernel
theorem dX5_value_13 : decode cX5_value 13 = .ok (.invokestatic 64, 3) := by decide +kernel
theorem dX5_value_16 : decode cX5_value 16 = .ok (.ifCond .eq 38, 3) := by decide +kernel
theorem dX5_value_19 : decode cX5_value 19 = .ok (.iload_n 3, 1) := by decide +kernel
theorem dX5_value_20 : decode cX5_value 20 = .ok (.iload_n 2, 1) := by decide +kernel
theorem dX5_value_21 : decode cX5_value 21 = .ok (.bipush 6, 2) := by decide +kernel
theorem dX5_value_23 : decode cX5_value 23 = .ok (.if_icmp .ne 7, 3) := by decide +kernel
theorem dX5_value_26 : decode cX5_value 26 = .ok (.iconst 0, 1) := by decide +kernel
theorem dX5_value_27 : decode cX5_value 27 = .ok (.goto 4, 3) := by decide +kernel
theorem dX5_value_30 : decode cX5_value 30 = .ok (.iconst 1, 1) := by decide +kernel
theorem dX5_value_31 : decode cX5_value 31 = .ok (.iconst 4, 1) := by decide +kernel
theorem dX5_value_32 : decode cX5_value 32 = .ok (.invokestatic 64, 3) := by decide +kernel
theorem dX5_value_35 : decode cX5_value 35 = .ok (.ifCond .eq 19, 3) := by decide +kernel
theorem dX5_value_38 : decode cX5_value 38 = .ok (.iload 4, 2) := by decide +kernel
theorem dX5_value_40 : decode cX5_value 40 = .ok (.iconst 0, 1) := by decide +kernel
theorem dX5_value_41 : decode cX5_value 41 = .ok (.sipush 9999, 3) := by decide +kernel
theorem dX5_value_44 : decode cX5_value 44 = .ok (.invokestatic 64, 3) := by decide +kernel
theorem dX5_value_47 : decode cX5_value 47 = .ok (.ifCond .eq 7, 3) := by decide +kernel
theorem dX5_value_50 : decode cX5_value 50 = .ok (.iconst 1, 1) := by decide +kernel
theorem dX5_value_51 : decode cX5_value 51 = .ok (.goto 4, 3) := by decide +kernel
theorem dX5_value_54 : decode cX5_value 54 = .ok (.iconst 0, 1) := by decide +kernel
theorem dX5_value_55 : decode cX5_value 55 = .ok (.istore 5, 2) := by decide +kernel
theorem dX5_value_57 : decode cX5_value 57 = .ok (.aload_n 0, 1) := by decide +kernel
theorem dX5_value_58 : decode cX5_value 58 = .ok (.iload 5, 2) := by decide +kernel
theorem dX5_value_60 : decode cX5_value 60 = .ok (.ifCond .eq 7, 3) := by decide +kernel
theorem dX5_value_63 : decode cX5_value 63 = .ok (.iconst 0, 1) := by decide +kernel
theorem dX5_value_64 : decode cX5_value 64 = .ok (.goto 4, 3) := by decide +kernel
theorem dX5_value_67 : decode cX5_value 67 = .ok (.iconst 1, 1) := by decide +kernel
theorem dX5_value_68 : decode cX5_value 68 = .ok (.putfield 58, 3) := by decide +kernel
theorem dX5_value_71 : decode cX5_value 71 = .ok (.aload_n 0, 1) := by decide +kernel
theorem dX5_value_72 : decode cX5_value 72 = .ok (.getfield 58, 3) := by decide +kernel
theorem dX5_value_75 : decode cX5_value 75 = .ok (.ifCond .le 5, 3) := by decide +kernel
theorem dX5_value_78 : decode cX5_value 78 = .ok (.iconst 0, 1) := by decide +kernel
theorem dX5_value_79 : decode cX5_value 79 = .ok (.ireturn, 1) := by decide +kernel
theorem dX5_value_80 : decode cX5_value 80 = .ok (.iload_n 1, 1) := by decide +kernel
theorem dX5_value_81 : decode cX5_value 81 = .ok (.iload_n 2, 1) := by decide +kernel
theorem dX5_value_82 : decode cX5_value 82 = .ok (.iload_n 3, 1) := by decide +kernel
theorem dX5_value_83 : decode cX5_value 83 = .ok (.invokestatic 104, 3) := by decide +kernel
theorem dX5_value_86 : decode cX5_value 86 = .ok (.istore 6, 2) := by decide +kernel
theorem dX5_value_88 : decode cX5_value 88 = .ok (.aload_n 0, 1) := by decide +kernel
theorem dX5_value_89 : decode cX5_value 89 = .ok (.getfield 51, 3) := by decide +kernel
theorem dX5_value_92 : decode cX5_value 92 = .ok (.iload 6, 2) := by decide +kernel
theorem dX5_value_94 : decode cX5_value 94 = .ok (.iaload, 1) := by decide +kernel
theorem dX5_value_95 : decode cX5_value 95 = .ok (.istore 7, 2) := by decide +kernel
theorem dX5_value_97 : decode cX5_value 97 = .ok (.aload_n 0, 1) := by decide +kernel
theorem dX5_value_98 : decode cX5_value 98 = .ok (.getfield 51, 3) := by decide +kernel
theorem dX5_value_101 : decode cX5_value 101 = .ok (.iload 6, 2) := by decide +kernel
theorem dX5_value_103 : decode cX5_value 103 = .ok (.iload 4, 2) := by decide +kernel
theorem dX5_value_105 : decode cX5_value 105 = .ok (.iastore, 1) := by decide +kernel
theorem dX5_value_106 : decode cX5_value 106 = .ok (.iload 7, 2) := by decide +kernel
theorem dX5_value_108 : decode cX5_value 108 = .ok (.ireturn, 1) := by decide +kernel
theorem dX5_valueAt_0 : decode cX5_valueAt 0 = .ok (.bipush 29, 2) := by decide +kernel
theorem dX5_valueAt_2 : decode cX5_valueAt 2 = .ok (.iload_n 0, 1) := by decide +kernel
theorem dX5_valueAt_3 : decode cX5_valueAt 3 = .ok (.imul, 1) := by decide +kernel
theorem dX5_valueAt_4 : decode cX5_valueAt 4 = .ok (.iload_n 1, 1) := by decide +kernel
theorem dX5_valueAt_5 : decode cX5_valueAt 5 = .ok (.bipush 6, 2) := by decide +kernel
theorem dX5_valueAt_7 : decode cX5_valueAt 7 = .ok (.if_icmp .ne 10, 3) := by decide +kernel
theorem dX5_valueAt_10 : decode cX5_valueAt 10 = .ok (.bipush 24, 2) := by decide +kernel
theorem dX5_valueAt_12 : decode cX5_valueAt 12 = .ok (.iload_n 2, 1) := by decide +kernel
theorem dX5_valueAt_13 : decode cX5_valueAt 13 = .ok (.iadd, 1) := by decide +kernel
theorem dX5_valueAt_14 : decode cX5_valueAt 14 = .ok (.goto 10, 3) := by decide +kernel
theorem dX5_valueAt_17 : decode cX5_valueAt 17 = .ok (.iconst 4, 1) := by decide +kernel
theorem dX5_valueAt_18 : decode cX5_valueAt 18 = .ok (.iload_n 1, 1) := by decide +kernel
theorem dX5_valueAt_19 : decode cX5_valueAt 19 = .ok (.imul, 1) := by decide +kernel
theorem dX5_valueAt_20 : decode cX5_valueAt 20 = .ok (.iload_n 2, 1) := by decide +kernel
theorem dX5_valueAt_21 : decode cX5_valueAt 21 = .ok (.iadd, 1) := by decide +kernel
theorem dX5_valueAt_22 : decode cX5_valueAt 22 = .ok (.iconst 1, 1) := by decide +kernel
theorem dX5_valueAt_23 : decode cX5_valueAt 23 = .ok (.isub, 1) := by decide +kernel
theorem dX5_valueAt_24 : decode cX5_valueAt 24 = .ok (.iadd, 1) := by decide +kernel
theorem dX5_valueAt_25 : decode cX5_valueAt 25 = .ok (.ireturn, 1) := by decide +kernel
theorem dX5_rint_0 : decode cX5_rint 0 = .ok (.dload_n 0, 1) := by decide +kernel
theorem dX5_rint_1 : decode cX5_rint 1 = .ok (.dconst 0, 1) := by decide +kernel
theorem dX5_rint_2 : decode cX5_rint 2 = .ok (.dcmp .g, 1) := by decide +kernel
theorem dX5_rint_3 : decode cX5_rint 3 = .ok (.ifCond .ge 8, 3) := by decide +kernel
theorem dX5_rint_6 : decode cX5_rint 6 = .ok (.dload_n 0, 1) := by decide +kernel
theorem dX5_rint_7 : decode cX5_rint 7 = .ok (.dneg, 1) := by decide +kernel
theorem dX5_rint_8 : decode cX5_rint 8 = .ok (.goto 4, 3) := by decide +kernel
theorem dX5_rint_11 : decode cX5_rint 11 = .ok (.dload_n 0, 1) := by decide +kernel
theorem dX5_rint_12 : decode cX5_rint 12 = .ok (.dstore_n 2, 1) := by decide +kernel
theorem dX5_rint_13 : decode cX5_rint 13 = .ok (.dload_n 2, 1) := by decide +kernel
theorem dX5_rint_14 : decode cX5_rint 14 = .ok (.d2i, 1) := by decide +kernel
theorem dX5_rint_15 : decode cX5_rint 15 = .ok (.istore 4, 2) := by decide +kernel
theorem dX5_rint_17 : decode cX5_rint 17 = .ok (.dload_n 2, 1) := by decide +kernel
theorem dX5_rint_18 : decode cX5_rint 18 = .ok (.iload 4, 2) := by decide +kernel
theorem dX5_rint_20 : decode cX5_rint 20 = .ok (.i2d, 1) := by decide +kernel
theorem dX5_rint_21 : decode cX5_rint 21 = .ok (.dsub, 1) := by decide +kernel
theorem dX5_rint_22 : decode cX5_rint 22 = .ok (.dstore 5, 2) := by decide +kernel
theorem dX5_rint_24 : decode cX5_rint 24 = .ok (.dload 5, 2) := by decide +kernel
theorem dX5_rint_26 : decode cX5_rint 26 = .ok (.ldc2_w 108, 3) := by decide +kernel
theorem dX5_rint_29 : decode cX5_rint 29 = .ok (.dcmp .l, 1) := by decide +kernel
theorem dX5_rint_30 : decode cX5_rint 30 = .ok (.ifCond .gt 20, 3) := by decide +kernel
theorem dX5_rint_33 : decode cX5_rint 33 = .ok (.dload 5, 2) := by decide +kernel
theorem dX5_rint_35 : decode cX5_rint 35 = .ok (.ldc2_w 108, 3) := by decide +kernel
theorem dX5_rint_38 : decode cX5_rint 38 = .ok (.dcmp .l, 1) := by decide +kernel
theorem dX5_rint_39 : decode cX5_rint 39 = .ok (.ifCond .ne 18, 3) := by decide +kernel
theorem dX5_rint_42 : decode cX5_rint 42 = .ok (.iload 4, 2) := by decide +kernel
theorem dX5_rint_44 : decode cX5_rint 44 = .ok (.iconst 2, 1) := by decide +kernel
theorem dX5_rint_45 : decode cX5_rint 45 = .ok (.irem, 1) := by decide +kernel
theorem dX5_rint_46 : decode cX5_rint 46 = .ok (.iconst 1, 1) := by decide +kernel
theorem dX5_rint_47 : decode cX5_rint 47 = .ok (.if_icmp .ne 10, 3) := by decide +kernel
theorem dX5_rint_50 : decode cX5_rint 50 = .ok (.iload 4, 2) := by decide +kernel
theorem dX5_rint_52 : decode cX5_rint 52 = .ok (.iconst 1, 1) := by decide +kernel
theorem dX5_rint_53 : decode cX5_rint 53 = .ok (.iadd, 1) := by decide +kernel
theorem dX5_rint_54 : decode cX5_rint 54 = .ok (.goto 5, 3) := by decide +kernel
theorem dX5_rint_57 : decode cX5_rint 57 = .ok (.iload 4, 2) := by decide +kernel
theorem dX5_rint_59 : decode cX5_rint 59 = .ok (.istore 7, 2) := by decide +kernel
theorem dX5_rint_61 : decode cX5_rint 61 = .ok (.dload_n 0, 1) := by decide +kernel
theorem dX5_rint_62 : decode cX5_rint 62 = .ok (.dconst 0, 1) := by decide +kernel
theorem dX5_rint_63 : decode cX5_rint 63 = .ok (.dcmp .g, 1) := by decide +kernel
theorem dX5_rint_64 : decode cX5_rint 64 = .ok (.ifCond .ge 9, 3) := by decide +kernel
theorem dX5_rint_67 : decode cX5_rint 67 = .ok (.iload 7, 2) := by decide +kernel
theorem dX5_rint_69 : decode cX5_rint 69 = .ok (.ineg, 1) := by decide +kernel
theorem dX5_rint_70 : decode cX5_rint 70 = .ok (.goto 5, 3) := by decide +kernel
theorem dX5_rint_73 : decode cX5_rint 73 = .ok (.iload 7, 2) := by decide +kernel
theorem dX5_rint_75 : decode cX5_rint 75 = .ok (.ireturn, 1) := by decide +kernel
theorem dX5_baseOf_0 : decode cX5_baseOf 0 = .ok (.iload_n 1, 1) := by decide +kernel
theorem dX5_baseOf_1 : decode cX5_baseOf 1 = .ok (.iload_n 2, 1) := by decide +kernel
theorem dX5_baseOf_2 : decode cX5_baseOf 2 = .ok (.invokestatic 92, 3) := by decide +kernel
theorem dX5_baseOf_5 : decode cX5_baseOf 5 = .ok (.istore 4, 2) := by decide +kernel
theorem dX5_baseOf_7 : decode cX5_baseOf 7 = .ok (.iconst 0, 1) := by decide +kernel
theorem dX5_baseOf_8 : decode cX5_baseOf 8 = .ok (.istore 5, 2) := by decide +kernel
theorem dX5_baseOf_10 : decode cX5_baseOf 10 = .ok (.iconst 0, 1) := by decide +kernel
theorem dX5_baseOf_11 : decode cX5_baseOf 11 = .ok (.istore 6, 2) := by decide +kernel
theorem dX5_baseOf_13 : decode cX5_baseOf 13 = .ok (.iconst 0, 1) := by decide +kernel
theorem dX5_baseOf_14 : decode cX5_baseOf 14 = .ok (.istore 7, 2) := by decide +kernel
theorem dX5_baseOf_16 : decode cX5_baseOf 16 = .ok (.iload 7, 2) := by decide +kernel
theorem dX5_baseOf_18 : decode cX5_baseOf 18 = .ok (.iload_n 2, 1) := by decide +kernel
theorem dX5_baseOf_19 : decode cX5_baseOf 19 = .ok (.if_icmp .ge 117, 3) := by decide +kernel
theorem dX5_baseOf_22 : decode cX5_baseOf 22 = .ok (.iload_n 1, 1) := by decide +kernel
theorem dX5_baseOf_23 : decode cX5_baseOf 23 = .ok (.iload 7, 2) := by decide +kernel
theorem dX5_baseOf_25 : decode cX5_baseOf 25 = .ok (.invokestatic 92, 3) := by decide +kernel
theorem dX5_baseOf_28 : decode cX5_baseOf 28 = .ok (.istore 8, 2) := by decide +kernel
theorem dX5_baseOf_30 : decode cX5_baseOf 30 = .ok (.aload_n 0, 1) := by decide +kernel
theorem dX5_baseOf_31 : decode cX5_baseOf 31 = .ok (.getfield 23, 3) := by decide +kernel
theorem dX5_baseOf_34 : decode cX5_baseOf 34 = .ok (.iload 8, 2) := by decide +kernel
theorem dX5_baseOf_36 : decode cX5_baseOf 36 = .ok (.iaload, 1) := by decide +kernel
theorem dX5_baseOf_37 : decode cX5_baseOf 37 = .ok (.bipush 6, 2) := by decide +kernel
theorem dX5_baseOf_39 : decode cX5_baseOf 39 = .ok (.if_icmp .ne 7, 3) := by decide +kernel
theorem dX5_baseOf_42 : decode cX5_baseOf 42 = .ok (.iconst 1, 1) := by decide +kernel
theorem dX5_baseOf_43 : decode cX5_baseOf 43 = .ok (.goto 4, 3) := by decide +kernel
theorem dX5_baseOf_46 : decode cX5_baseOf 46 = .ok (.iconst 0, 1) := by decide +kernel
theorem dX5_baseOf_47 : decode cX5_baseOf 47 = .ok (.istore 9, 2) := by decide +kernel
theorem dX5_baseOf_49 : decode cX5_baseOf 49 = .ok (.iload 6, 2) := by decide +kernel
theorem dX5_baseOf_51 : decode cX5_baseOf 51 = .ok (.iload 9, 2) := by decide +kernel
theorem dX5_baseOf_53 : decode cX5_baseOf 53 = .ok (.aload_n 0, 1) := by decide +kernel
theorem dX5_baseOf_54 : decode cX5_baseOf 54 = .ok (.getfield 23, 3) := by decide +kernel
theorem dX5_baseOf_57 : decode cX5_baseOf 57 = .ok (.iload 4, 2) := by decide +kernel
theorem dX5_baseOf_59 : decode cX5_baseOf 59 = .ok (.iaload, 1) := by decide +kernel
theorem dX5_baseOf_60 : decode cX5_baseOf 60 = .ok (.bipush 6, 2) := by decide +kernel
theorem dX5_baseOf_62 : decode cX5_baseOf 62 = .ok (.if_icmp .ne 7, 3) := by decide +kernel
theorem dX5_baseOf_65 : decode cX5_baseOf 65 = .ok (.iconst 1, 1) := by decide +kernel
theorem dX5_baseOf_66 : decode cX5_baseOf 66 = .ok (.goto 4, 3) := by decide +kernel
theorem dX5_baseOf_69 : decode cX5_baseOf 69 = .ok (.iconst 0, 1) := by decide +kernel
theorem dX5_baseOf_70 : decode cX5_baseOf 70 = .ok (.if_icmp .ne 7, 3) := by decide +kernel
theorem dX5_baseOf_73 : decode cX5_baseOf 73 = .ok (.iconst 1, 1) := by decide +kernel
theorem dX5_baseOf_74 : decode cX5_baseOf 74 = .ok (.goto 4, 3) := by decide +kernel
theorem dX5_baseOf_77 : decode cX5_baseOf 77 = .ok (.iconst 0, 1) := by decide +kernel
theorem dX5_baseOf_78 : decode cX5_baseOf 78 = .ok (.iadd, 1) := by decide +kernel
theorem dX5_baseOf_79 : decode cX5_baseOf 79 = .ok (.istore 6, 2) := by decide +kernel
theorem dX5_baseOf_81 : decode cX5_baseOf 81 = .ok (.iload 5, 2) := by decide +kernel
theorem dX5_baseOf_83 : decode cX5_baseOf 83 = .ok (.iload 9, 2) := by decide +kernel
theorem dX5_baseOf_85 : decode cX5_baseOf 85 = .ok (.ifCond .ne 41, 3) := by decide +kernel
theorem dX5_baseOf_88 : decode cX5_baseOf 88 = .ok (.aload_n 0, 1) := by decide +kernel
theorem dX5_baseOf_89 : decode cX5_baseOf 89 = .ok (.getfield 23, 3) := by decide +kernel
theorem dX5_baseOf_92 : decode cX5_baseOf 92 = .ok (.iload 8, 2) := by decide +kernel
theorem dX5_baseOf_94 : decode cX5_baseOf 94 = .ok (.iaload, 1) := by decide +kernel
theorem dX5_baseOf_95 : decode cX5_baseOf 95 = .ok (.aload_n 0, 1) := by decide +kernel
theorem dX5_baseOf_96 : decode cX5_baseOf 96 = .ok (.getfield 23, 3) := by decide +kernel
theorem dX5_baseOf_99 : decode cX5_baseOf 99 = .ok (.iload 4, 2) := by decide +kernel
theorem dX5_baseOf_101 : decode cX5_baseOf 101 = .ok (.iaload, 1) := by decide +kernel
theorem dX5_baseOf_102 : decode cX5_baseOf 102 = .ok (.if_icmp .ne 24, 3) := by decide +kernel
theorem dX5_baseOf_105 : decode cX5_baseOf 105 = .ok (.aload_n 0, 1) := by decide +kernel
theorem dX5_baseOf_106 : decode cX5_baseOf 106 = .ok (.getfield 26, 3) := by decide +kernel
theorem dX5_baseOf_109 : decode cX5_baseOf 109 = .ok (.iload 8, 2) := by decide +kernel
theorem dX5_baseOf_111 : decode cX5_baseOf 111 = .ok (.iaload, 1) := by decide +kernel
theorem dX5_baseOf_112 : decode cX5_baseOf 112 = .ok (.aload_n 0, 1) := by decide +kernel
theorem dX5_baseOf_113 : decode cX5_baseOf 113 = .ok (.getfield 26, 3) := by decide +kernel
theorem dX5_baseOf_116 : decode cX5_baseOf 116 = .ok (.iload 4, 2) := by decide +kernel
theorem dX5_baseOf_118 : decode cX5_baseOf 118 = .ok (.iaload, 1) := by decide +kernel
theorem dX5_baseOf_119 : decode cX5_baseOf 119 = .ok (.if_icmp .ne 7, 3) := by decide +kernel
theorem dX5_baseOf_122 : decode cX5_baseOf 122 = .ok (.iconst 1, 1) := by decide +kernel
theorem dX5_baseOf_123 : decode cX5_baseOf 123 = .ok (.goto 4, 3) := by decide +kernel
theorem dX5_baseOf_126 : decode cX5_baseOf 126 = .ok (.iconst 0, 1) := by decide +kernel
theorem dX5_baseOf_127 : decode cX5_baseOf 127 = .ok (.iadd, 1) := by decide +kernel
theorem dX5_baseOf_128 : decode cX5_baseOf 128 = .ok (.istore 5, 2) := by decide +kernel
theorem dX5_baseOf_130 : decode cX5_baseOf 130 = .ok (.iinc 7 1, 3) := by decide +kernel
theorem dX5_baseOf_133 : decode cX5_baseOf 133 = .ok (.goto (-117), 3) := by decide +kernel
theorem dX5_baseOf_136 : decode cX5_baseOf 136 = .ok (.aload_n 0, 1) := by decide +kernel
theorem dX5_baseOf_137 : decode cX5_baseOf 137 = .ok (.getfield 23, 3) := by decide +kernel
theorem dX5_baseOf_140 : decode cX5_baseOf 140 = .ok (.iload 4, 2) := by decide +kernel
theorem dX5_baseOf_142 : decode cX5_baseOf 142 = .ok (.iaload, 1) := by decide +kernel
theorem dX5_baseOf_143 : decode cX5_baseOf 143 = .ok (.bipush 6, 2) := by decide +kernel
theorem dX5_baseOf_145 : decode cX5_baseOf 145 = .ok (.if_icmp .ne 32, 3) := by decide +kernel
theorem dX5_baseOf_148 : decode cX5_baseOf 148 = .ok (.iload 6, 2) := by decide +kernel
theorem dX5_baseOf_150 : decode cX5_baseOf 150 = .ok (.iconst 3, 1) := by decide +kernel
theorem dX5_baseOf_151 : decode cX5_baseOf 151 = .ok (.if_icmp .lt 7, 3) := by decide +kernel
theorem dX5_baseOf_154 : decode cX5_baseOf 154 = .ok (.iconst 0, 1) := by decide +kernel
theorem dX5_baseOf_155 : decode cX5_baseOf 155 = .ok (.goto 21, 3) := by decide +kernel
theorem dX5_baseOf_158 : decode cX5_baseOf 158 = .ok (.aload_n 0, 1) := by decide +kernel
theorem dX5_baseOf_159 : decode cX5_baseOf 159 = .ok (.getfield 51, 3) := by decide +kernel
theorem dX5_baseOf_162 : decode cX5_baseOf 162 = .ok (.iload_n 3, 1) := by decide +kernel
theorem dX5_baseOf_163 : decode cX5_baseOf 163 = .ok (.bipush 6, 2) := by decide +kernel
theorem dX5_baseOf_165 : decode cX5_baseOf 165 = .ok (.aload_n 0, 1) := by decide +kernel
theorem dX5_baseOf_166 : decode cX5_baseOf 166 = .ok (.getfield 26, 3) := by decide +kernel
theorem dX5_baseOf_169 : decode cX5_baseOf 169 = .ok (.iload 4, 2) := by decide +kernel
theorem dX5_baseOf_171 : decode cX5_baseOf 171 = .ok (.iaload, 1) := by decide +kernel
theorem dX5_baseOf_172 : decode cX5_baseOf 172 = .ok (.invokestatic 104, 3) := by decide +kernel
theorem dX5_baseOf_175 : decode cX5_baseOf 175 = .ok (.iaload, 1) := by decide +kernel
theorem dX5_baseOf_176 : decode cX5_baseOf 176 = .ok (.ireturn, 1) := by decide +kernel
theorem dX5_baseOf_177 : decode cX5_baseOf 177 = .ok (.iload 5, 2) := by decide +kernel
theorem dX5_baseOf_179 : decode cX5_baseOf 179 = .ok (.iconst 2, 1) := by decide +kernel
theorem dX5_baseOf_180 : decode cX5_baseOf 180 = .ok (.if_icmp .ge 10, 3) := by decide +kernel
theorem dX5_baseOf_183 : decode cX5_baseOf 183 = .ok (.iload 6, 2) := by decide +kernel
theorem dX5_baseOf_185 : decode cX5_baseOf 185 = .ok (.bipush 7, 2) := by decide +kernel
theorem dX5_baseOf_187 : decode cX5_baseOf 187 = .ok (.if_icmp .lt 5, 3) := by decide +kernel
theorem dX5_baseOf_190 : decode cX5_baseOf 190 = .ok (.iconst 0, 1) := by decide +kernel
theorem dX5_baseOf_191 : decode cX5_baseOf 191 = .ok (.ireturn, 1) := by decide +kernel
theorem dX5_baseOf_192 : decode cX5_baseOf 192 = .ok (.aload_n 0, 1) := by decide +kernel
theorem dX5_baseOf_193 : decode cX5_baseOf 193 = .ok (.iload 4, 2) := by decide +kernel
theorem dX5_baseOf_195 : decode cX5_baseOf 195 = .ok (.invokevirtual 100, 3) := by decide +kernel
theorem dX5_baseOf_198 : decode cX5_baseOf 198 = .ok (.istore 7, 2) := by decide +kernel
theorem dX5_baseOf_200 : decode cX5_baseOf 200 = .ok (.iload 7, 2) := by decide +kernel
theorem dX5_baseOf_202 : decode cX5_baseOf 202 = .ok (.iconst 3, 1) := by decide +kernel
theorem dX5_baseOf_203 : decode cX5_baseOf 203 = .ok (.if_icmp .lt 15, 3) := by decide +kernel
theorem dX5_baseOf_206 : decode cX5_baseOf 206 = .ok (.aload_n 0, 1) := by decide +kernel
theorem dX5_baseOf_207 : decode cX5_baseOf 207 = .ok (.getfield 26, 3) := by decide +kernel
theorem dX5_baseOf_210 : decode cX5_baseOf 210 = .ok (.iload 4, 2) := by decide +kernel
theorem dX5_baseOf_212 : decode cX5_baseOf 212 = .ok (.iaload, 1) := by decide +kernel
theorem dX5_baseOf_213 : decode cX5_baseOf 213 = .ok (.iconst 1, 1) := by decide +kernel
theorem dX5_baseOf_214 : decode cX5_baseOf 214 = .ok (.isub, 1) := by decide +kernel
theorem dX5_baseOf_215 : decode cX5_baseOf 215 = .ok (.goto 10, 3) := by decide +kernel
theorem dX5_baseOf_218 : decode cX5_baseOf 218 = .ok (.aload_n 0, 1) := by decide +kernel
theorem dX5_baseOf_219 : decode cX5_baseOf 219 = .ok (.getfield 26, 3) := by decide +kernel
theorem dX5_baseOf_222 : decode cX5_baseOf 222 = .ok (.iload 4, 2) := by decide +kernel
theorem dX5_baseOf_224 : decode cX5_baseOf 224 = .ok (.iaload, 1) := by decide +kernel
theorem dX5_baseOf_225 : decode cX5_baseOf 225 = .ok (.istore 8, 2) := by decide +kernel
theorem dX5_baseOf_227 : decode cX5_baseOf 227 = .ok (.iload 8, 2) := by decide +kernel
theorem dX5_baseOf_229 : decode cX5_baseOf 229 = .ok (.ifCond .ne 7, 3) := by decide +kernel
theorem dX5_baseOf_232 : decode cX5_baseOf 232 = .ok (.iconst 0, 1) := by decide +kernel
theorem dX5_baseOf_233 : decode cX5_baseOf 233 = .ok (.goto 21, 3) := by decide +kernel
theorem dX5_baseOf_236 : decode cX5_baseOf 236 = .ok (.aload_n 0, 1) := by decide +kernel
theorem dX5_baseOf_237 : decode cX5_baseOf 237 = .ok (.getfield 51, 3) := by decide +kernel
theorem dX5_baseOf_240 : decode cX5_baseOf 240 = .ok (.iload_n 3, 1) := by decide +kernel
theorem dX5_baseOf_241 : decode cX5_baseOf 241 = .ok (.aload_n 0, 1) := by decide +kernel
theorem dX5_baseOf_242 : decode cX5_baseOf 242 = .ok (.getfield 23, 3) := by decide +kernel
