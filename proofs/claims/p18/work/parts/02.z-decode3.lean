theorem dX4_rankOf_23 : decode cX4_rankOf 23 = .ok (.invokevirtual 250, 3) := by decide +kernel
theorem dX4_rankOf_26 : decode cX4_rankOf 26 = .ok (.ifCond .eq 6, 3) := by decide +kernel
theorem dX4_rankOf_29 : decode cX4_rankOf 29 = .ok (.iinc 2 1, 3) := by decide +kernel
theorem dX4_rankOf_32 : decode cX4_rankOf 32 = .ok (.iinc 3 1, 3) := by decide +kernel
theorem dX4_rankOf_35 : decode cX4_rankOf 35 = .ok (.goto (-21), 3) := by decide +kernel
theorem dX4_rankOf_38 : decode cX4_rankOf 38 = .ok (.iload_n 2, 1) := by decide +kernel
theorem dX4_rankOf_39 : decode cX4_rankOf 39 = .ok (.ireturn, 1) := by decide +kernel
theorem dX4_howManyRanked_0 : decode cX4_howManyRanked 0 = .ok (.iconst 0, 1) := by decide +kernel
theorem dX4_howManyRanked_1 : decode cX4_howManyRanked 1 = .ok (.istore_n 1, 1) := by decide +kernel
theorem dX4_howManyRanked_2 : decode cX4_howManyRanked 2 = .ok (.iconst 0, 1) := by decide +kernel
theorem dX4_howManyRanked_3 : decode cX4_howManyRanked 3 = .ok (.istore_n 2, 1) := by decide +kernel
theorem dX4_howManyRanked_4 : decode cX4_howManyRanked 4 = .ok (.iload_n 2, 1) := by decide +kernel
theorem dX4_howManyRanked_5 : decode cX4_howManyRanked 5 = .ok (.bipush 12, 2) := by decide +kernel
theorem dX4_howManyRanked_7 : decode cX4_howManyRanked 7 = .ok (.if_icmp .ge 20, 3) := by decide +kernel
theorem dX4_howManyRanked_10 : decode cX4_howManyRanked 10 = .ok (.aload_n 0, 1) := by decide +kernel
theorem dX4_howManyRanked_11 : decode cX4_howManyRanked 11 = .ok (.iload_n 2, 1) := by decide +kernel
theorem dX4_howManyRanked_12 : decode cX4_howManyRanked 12 = .ok (.invokevirtual 247, 3) := by decide +kernel
theorem dX4_howManyRanked_15 : decode cX4_howManyRanked 15 = .ok (.ifCond .eq 6, 3) := by decide +kernel
theorem dX4_howManyRanked_18 : decode cX4_howManyRanked 18 = .ok (.iinc 1 1, 3) := by decide +kernel
theorem dX4_howManyRanked_21 : decode cX4_howManyRanked 21 = .ok (.iinc 2 1, 3) := by decide +kernel
theorem dX4_howManyRanked_24 : decode cX4_howManyRanked 24 = .ok (.goto (-20), 3) := by decide +kernel
theorem dX4_howManyRanked_27 : decode cX4_howManyRanked 27 = .ok (.iload_n 1, 1) := by decide +kernel
theorem dX4_howManyRanked_28 : decode cX4_howManyRanked 28 = .ok (.ireturn, 1) := by decide +kernel
theorem dX4_skaterOfRank_0 : decode cX4_skaterOfRank 0 = .ok (.iconst 0, 1) := by decide +kernel
theorem dX4_skaterOfRank_1 : decode cX4_skaterOfRank 1 = .ok (.istore_n 2, 1) := by decide +kernel
theorem dX4_skaterOfRank_2 : decode cX4_skaterOfRank 2 = .ok (.iload_n 2, 1) := by decide +kernel
theorem dX4_skaterOfRank_3 : decode cX4_skaterOfRank 3 = .ok (.bipush 12, 2) := by decide +kernel
theorem dX4_skaterOfRank_5 : decode cX4_skaterOfRank 5 = .ok (.if_icmp .ge 28, 3) := by decide +kernel
theorem dX4_skaterOfRank_8 : decode cX4_skaterOfRank 8 = .ok (.aload_n 0, 1) := by decide +kernel
theorem dX4_skaterOfRank_9 : decode cX4_skaterOfRank 9 = .ok (.iload_n 2, 1) := by decide +kernel
theorem dX4_skaterOfRank_10 : decode cX4_skaterOfRank 10 = .ok (.invokevirtual 247, 3) := by decide +kernel
theorem dX4_skaterOfRank_13 : decode cX4_skaterOfRank 13 = .ok (.ifCond .eq 14, 3) := by decide +kernel
theorem dX4_skaterOfRank_16 : decode cX4_skaterOfRank 16 = .ok (.aload_n 0, 1) := by decide +kernel
theorem dX4_skaterOfRank_17 : decode cX4_skaterOfRank 17 = .ok (.iload_n 2, 1) := by decide +kernel
theorem dX4_skaterOfRank_18 : decode cX4_skaterOfRank 18 = .ok (.invokevirtual 210, 3) := by decide +kernel
theorem dX4_skaterOfRank_21 : decode cX4_skaterOfRank 21 = .ok (.iload_n 1, 1) := by decide +kernel
theorem dX4_skaterOfRank_22 : decode cX4_skaterOfRank 22 = .ok (.if_icmp .ne 5, 3) := by decide +kernel
theorem dX4_skaterOfRank_25 : decode cX4_skaterOfRank 25 = .ok (.iload_n 2, 1) := by decide +kernel
theorem dX4_skaterOfRank_26 : decode cX4_skaterOfRank 26 = .ok (.ireturn, 1) := by decide +kernel
theorem dX4_skaterOfRank_27 : decode cX4_skaterOfRank 27 = .ok (.iinc 2 1, 3) := by decide +kernel
theorem dX4_skaterOfRank_30 : decode cX4_skaterOfRank 30 = .ok (.goto (-28), 3) := by decide +kernel
theorem dX4_skaterOfRank_33 : decode cX4_skaterOfRank 33 = .ok (.iconst (-1), 1) := by decide +kernel
theorem dX4_skaterOfRank_34 : decode cX4_skaterOfRank 34 = .ok (.ireturn, 1) := by decide +kernel
theorem dX4_unrankedSkater_0 : decode cX4_unrankedSkater 0 = .ok (.iconst 0, 1) := by decide +kernel
theorem dX4_unrankedSkater_1 : decode cX4_unrankedSkater 1 = .ok (.istore_n 2, 1) := by decide +kernel
theorem dX4_unrankedSkater_2 : decode cX4_unrankedSkater 2 = .ok (.iconst 0, 1) := by decide +kernel
theorem dX4_unrankedSkater_3 : decode cX4_unrankedSkater 3 = .ok (.istore_n 3, 1) := by decide +kernel
theorem dX4_unrankedSkater_4 : decode cX4_unrankedSkater 4 = .ok (.iload_n 3, 1) := by decide +kernel
theorem dX4_unrankedSkater_5 : decode cX4_unrankedSkater 5 = .ok (.bipush 12, 2) := by decide +kernel
theorem dX4_unrankedSkater_7 : decode cX4_unrankedSkater 7 = .ok (.if_icmp .ge 35, 3) := by decide +kernel
theorem dX4_unrankedSkater_10 : decode cX4_unrankedSkater 10 = .ok (.aload_n 0, 1) := by decide +kernel
theorem dX4_unrankedSkater_11 : decode cX4_unrankedSkater 11 = .ok (.iload_n 3, 1) := by decide +kernel
theorem dX4_unrankedSkater_12 : decode cX4_unrankedSkater 12 = .ok (.invokevirtual 45, 3) := by decide +kernel
theorem dX4_unrankedSkater_15 : decode cX4_unrankedSkater 15 = .ok (.ifnull 21, 3) := by decide +kernel
theorem dX4_unrankedSkater_18 : decode cX4_unrankedSkater 18 = .ok (.aload_n 0, 1) := by decide +kernel
theorem dX4_unrankedSkater_19 : decode cX4_unrankedSkater 19 = .ok (.iload_n 3, 1) := by decide +kernel
theorem dX4_unrankedSkater_20 : decode cX4_unrankedSkater 20 = .ok (.invokevirtual 247, 3) := by decide +kernel
theorem dX4_unrankedSkater_23 : decode cX4_unrankedSkater 23 = .ok (.ifCond .ne 13, 3) := by decide +kernel
theorem dX4_unrankedSkater_26 : decode cX4_unrankedSkater 26 = .ok (.iload_n 2, 1) := by decide +kernel
theorem dX4_unrankedSkater_27 : decode cX4_unrankedSkater 27 = .ok (.iload_n 1, 1) := by decide +kernel
theorem dX4_unrankedSkater_28 : decode cX4_unrankedSkater 28 = .ok (.if_icmp .ne 5, 3) := by decide +kernel
theorem dX4_unrankedSkater_31 : decode cX4_unrankedSkater 31 = .ok (.iload_n 3, 1) := by decide +kernel
theorem dX4_unrankedSkater_32 : decode cX4_unrankedSkater 32 = .ok (.ireturn, 1) := by decide +kernel
theorem dX4_unrankedSkater_33 : decode cX4_unrankedSkater 33 = .ok (.iinc 2 1, 3) := by decide +kernel
theorem dX4_unrankedSkater_36 : decode cX4_unrankedSkater 36 = .ok (.iinc 3 1, 3) := by decide +kernel
theorem dX4_unrankedSkater_39 : decode cX4_unrankedSkater 39 = .ok (.goto (-35), 3) := by decide +kernel
theorem dX4_unrankedSkater_42 : decode cX4_unrankedSkater 42 = .ok (.iconst (-1), 1) := by decide +kernel
theorem dX4_unrankedSkater_43 : decode cX4_unrankedSkater 43 = .ok (.ireturn, 1) := by decide +kernel
theorem dJ6_bitCount_0f7a4_0 : decode cJ6_bitCount_0f7a4 0 = .ok (.iload_n 0, 1) := by decide +kernel
theorem dJ6_bitCount_0f7a4_1 : decode cJ6_bitCount_0f7a4 1 = .ok (.iload_n 0, 1) := by decide +kernel
theorem dJ6_bitCount_0f7a4_2 : decode cJ6_bitCount_0f7a4 2 = .ok (.iconst 1, 1) := by decide +kernel
theorem dJ6_bitCount_0f7a4_3 : decode cJ6_bitCount_0f7a4 3 = .ok (.iushr, 1) := by decide +kernel
theorem dJ6_bitCount_0f7a4_4 : decode cJ6_bitCount_0f7a4 4 = .ok (.ldc_w 265, 3) := by decide +kernel
theorem dJ6_bitCount_0f7a4_7 : decode cJ6_bitCount_0f7a4 7 = .ok (.iand, 1) := by decide +kernel
theorem dJ6_bitCount_0f7a4_8 : decode cJ6_bitCount_0f7a4 8 = .ok (.isub, 1) := by decide +kernel
theorem dJ6_bitCount_0f7a4_9 : decode cJ6_bitCount_0f7a4 9 = .ok (.istore_n 0, 1) := by decide +kernel
theorem dJ6_bitCount_0f7a4_10 : decode cJ6_bitCount_0f7a4 10 = .ok (.iload_n 0, 1) := by decide +kernel
theorem dJ6_bitCount_0f7a4_11 : decode cJ6_bitCount_0f7a4 11 = .ok (.ldc_w 266, 3) := by decide +kernel
theorem dJ6_bitCount_0f7a4_14 : decode cJ6_bitCount_0f7a4 14 = .ok (.iand, 1) := by decide +kernel
theorem dJ6_bitCount_0f7a4_15 : decode cJ6_bitCount_0f7a4 15 = .ok (.iload_n 0, 1) := by decide +kernel
theorem dJ6_bitCount_0f7a4_16 : decode cJ6_bitCount_0f7a4 16 = .ok (.iconst 2, 1) := by decide +kernel
theorem dJ6_bitCount_0f7a4_17 : decode cJ6_bitCount_0f7a4 17 = .ok (.iushr, 1) := by decide +kernel
theorem dJ6_bitCount_0f7a4_18 : decode cJ6_bitCount_0f7a4 18 = .ok (.ldc_w 266, 3) := by decide +kernel
theorem dJ6_bitCount_0f7a4_21 : decode cJ6_bitCount_0f7a4 21 = .ok (.iand, 1) := by decide +kernel
theorem dJ6_bitCount_0f7a4_22 : decode cJ6_bitCount_0f7a4 22 = .ok (.iadd, 1) := by decide +kernel
theorem dJ6_bitCount_0f7a4_23 : decode cJ6_bitCount_0f7a4 23 = .ok (.istore_n 0, 1) := by decide +kernel
theorem dJ6_bitCount_0f7a4_24 : decode cJ6_bitCount_0f7a4 24 = .ok (.iload_n 0, 1) := by decide +kernel
theorem dJ6_bitCount_0f7a4_25 : decode cJ6_bitCount_0f7a4 25 = .ok (.iload_n 0, 1) := by decide +kernel
theorem dJ6_bitCount_0f7a4_26 : decode cJ6_bitCount_0f7a4 26 = .ok (.iconst 4, 1) := by decide +kernel
theorem dJ6_bitCount_0f7a4_27 : decode cJ6_bitCount_0f7a4 27 = .ok (.iushr, 1) := by decide +kernel
theorem dJ6_bitCount_0f7a4_28 : decode cJ6_bitCount_0f7a4 28 = .ok (.iadd, 1) := by decide +kernel
theorem dJ6_bitCount_0f7a4_29 : decode cJ6_bitCount_0f7a4 29 = .ok (.ldc_w 267, 3) := by decide +kernel
theorem dJ6_bitCount_0f7a4_32 : decode cJ6_bitCount_0f7a4 32 = .ok (.iand, 1) := by decide +kernel
theorem dJ6_bitCount_0f7a4_33 : decode cJ6_bitCount_0f7a4 33 = .ok (.istore_n 0, 1) := by decide +kernel
theorem dJ6_bitCount_0f7a4_34 : decode cJ6_bitCount_0f7a4 34 = .ok (.iload_n 0, 1) := by decide +kernel
theorem dJ6_bitCount_0f7a4_35 : decode cJ6_bitCount_0f7a4 35 = .ok (.iload_n 0, 1) := by decide +kernel
theorem dJ6_bitCount_0f7a4_36 : decode cJ6_bitCount_0f7a4 36 = .ok (.bipush 8, 2) := by decide +kernel
theorem dJ6_bitCount_0f7a4_38 : decode cJ6_bitCount_0f7a4 38 = .ok (.iushr, 1) := by decide +kernel
theorem dJ6_bitCount_0f7a4_39 : decode cJ6_bitCount_0f7a4 39 = .ok (.iadd, 1) := by decide +kernel
theorem dJ6_bitCount_0f7a4_40 : decode cJ6_bitCount_0f7a4 40 = .ok (.istore_n 0, 1) := by decide +kernel
theorem dJ6_bitCount_0f7a4_41 : decode cJ6_bitCount_0f7a4 41 = .ok (.iload_n 0, 1) := by decide +kernel
theorem dJ6_bitCount_0f7a4_42 : decode cJ6_bitCount_0f7a4 42 = .ok (.iload_n 0, 1) := by decide +kernel
theorem dJ6_bitCount_0f7a4_43 : decode cJ6_bitCount_0f7a4 43 = .ok (.bipush 16, 2) := by decide +kernel
theorem dJ6_bitCount_0f7a4_45 : decode cJ6_bitCount_0f7a4 45 = .ok (.iushr, 1) := by decide +kernel
theorem dJ6_bitCount_0f7a4_46 : decode cJ6_bitCount_0f7a4 46 = .ok (.iadd, 1) := by decide +kernel
theorem dJ6_bitCount_0f7a4_47 : decode cJ6_bitCount_0f7a4 47 = .ok (.istore_n 0, 1) := by decide +kernel
theorem dJ6_bitCount_0f7a4_48 : decode cJ6_bitCount_0f7a4 48 = .ok (.iload_n 0, 1) := by decide +kernel
theorem dJ6_bitCount_0f7a4_49 : decode cJ6_bitCount_0f7a4 49 = .ok (.bipush 63, 2) := by decide +kernel
theorem dJ6_bitCount_0f7a4_51 : decode cJ6_bitCount_0f7a4 51 = .ok (.iand, 1) := by decide +kernel
theorem dJ6_bitCount_0f7a4_52 : decode cJ6_bitCount_0f7a4 52 = .ok (.ireturn, 1) := by decide +kernel
theorem dJ9_max_7cf53_0 : decode cJ9_max_7cf53 0 = .ok (.iload_n 0, 1) := by decide +kernel
theorem dJ9_max_7cf53_1 : decode cJ9_max_7cf53 1 = .ok (.iload_n 1, 1) := by decide +kernel
theorem dJ9_max_7cf53_2 : decode cJ9_max_7cf53 2 = .ok (.if_icmp .lt 7, 3) := by decide +kernel
theorem dJ9_max_7cf53_5 : decode cJ9_max_7cf53 5 = .ok (.iload_n 0, 1) := by decide +kernel
theorem dJ9_max_7cf53_6 : decode cJ9_max_7cf53 6 = .ok (.goto 4, 3) := by decide +kernel
theorem dJ9_max_7cf53_9 : decode cJ9_max_7cf53 9 = .ok (.iload_n 1, 1) := by decide +kernel
theorem dJ9_max_7cf53_10 : decode cJ9_max_7cf53 10 = .ok (.ireturn, 1) := by decide +kernel
theorem dJ9_min_7cf53_0 : decode cJ9_min_7cf53 0 = .ok (.iload_n 0, 1) := by decide +kernel
theorem dJ9_min_7cf53_1 : decode cJ9_min_7cf53 1 = .ok (.iload_n 1, 1) := by decide +kernel
theorem dJ9_min_7cf53_2 : decode cJ9_min_7cf53 2 = .ok (.if_icmp .gt 7, 3) := by decide +kernel
theorem dJ9_min_7cf53_5 : decode cJ9_min_7cf53 5 = .ok (.iload_n 0, 1) := by decide +kernel
theorem dJ9_min_7cf53_6 : decode cJ9_min_7cf53 6 = .ok (.goto 4, 3) := by decide +kernel
theorem dJ9_min_7cf53_9 : decode cJ9_min_7cf53 9 = .ok (.iload_n 1, 1) := by decide +kernel
theorem dJ9_min_7cf53_10 : decode cJ9_min_7cf53 10 = .ok (.ireturn, 1) := by decide +kernel
theorem dL_cell_0 : decode cL_cell 0 = .ok (.iload_n 1, 1) := by decide +kernel
theorem dL_cell_1 : decode cL_cell 1 = .ok (.aload_n 0, 1) := by decide +kernel
theorem dL_cell_2 : decode cL_cell 2 = .ok (.arraylength, 1) := by decide +kernel
theorem dL_cell_3 : decode cL_cell 3 = .ok (.if_icmp .ge 9, 3) := by decide +kernel
theorem dL_cell_6 : decode cL_cell 6 = .ok (.aload_n 0, 1) := by decide +kernel
theorem dL_cell_7 : decode cL_cell 7 = .ok (.iload_n 1, 1) := by decide +kernel
theorem dL_cell_8 : decode cL_cell 8 = .ok (.iaload, 1) := by decide +kernel
theorem dL_cell_9 : decode cL_cell 9 = .ok (.goto 15, 3) := by decide +kernel
theorem dL_cell_12 : decode cL_cell 12 = .ok (.sipush 7919, 3) := by decide +kernel
theorem dL_cell_15 : decode cL_cell 15 = .ok (.iload_n 1, 1) := by decide +kernel
theorem dL_cell_16 : decode cL_cell 16 = .ok (.iconst 3, 1) := by decide +kernel
theorem dL_cell_17 : decode cL_cell 17 = .ok (.iadd, 1) := by decide +kernel
theorem dL_cell_18 : decode cL_cell 18 = .ok (.imul, 1) := by decide +kernel
theorem dL_cell_19 : decode cL_cell 19 = .ok (.iload_n 1, 1) := by decide +kernel
theorem dL_cell_20 : decode cL_cell 20 = .ok (.bipush 11, 2) := by decide +kernel
theorem dL_cell_22 : decode cL_cell 22 = .ok (.iadd, 1) := by decide +kernel
theorem dL_cell_23 : decode cL_cell 23 = .ok (.imul, 1) := by decide +kernel
theorem dL_cell_24 : decode cL_cell 24 = .ok (.ireturn, 1) := by decide +kernel
theorem dL_low_0 : decode cL_low 0 = .ok (.iload_n 0, 1) := by decide +kernel
theorem dL_low_1 : decode cL_low 1 = .ok (.ldc 7, 2) := by decide +kernel
theorem dL_low_3 : decode cL_low 3 = .ok (.iand, 1) := by decide +kernel
theorem dL_low_4 : decode cL_low 4 = .ok (.iload_n 1, 1) := by decide +kernel
theorem dL_low_5 : decode cL_low 5 = .ok (.irem, 1) := by decide +kernel
theorem dL_low_6 : decode cL_low 6 = .ok (.ireturn, 1) := by decide +kernel
theorem dL_skates_0 : decode cL_skates 0 = .ok (.iconst 0, 1) := by decide +kernel
theorem dL_skates_1 : decode cL_skates 1 = .ok (.istore 4, 2) := by decide +kernel
theorem dL_skates_3 : decode cL_skates 3 = .ok (.iconst 1, 1) := by decide +kernel
theorem dL_skates_4 : decode cL_skates 4 = .ok (.istore 5, 2) := by decide +kernel
theorem dL_skates_6 : decode cL_skates 6 = .ok (.iconst 0, 1) := by decide +kernel
theorem dL_skates_7 : decode cL_skates 7 = .ok (.istore 6, 2) := by decide +kernel
theorem dL_skates_9 : decode cL_skates 9 = .ok (.iconst 0, 1) := by decide +kernel
theorem dL_skates_10 : decode cL_skates 10 = .ok (.istore 7, 2) := by decide +kernel
theorem dL_skates_12 : decode cL_skates 12 = .ok (.iconst 0, 1) := by decide +kernel
theorem dL_skates_13 : decode cL_skates 13 = .ok (.istore 8, 2) := by decide +kernel
theorem dL_skates_15 : decode cL_skates 15 = .ok (.iconst 0, 1) := by decide +kernel
theorem dL_skates_16 : decode cL_skates 16 = .ok (.istore 9, 2) := by decide +kernel
theorem dL_skates_18 : decode cL_skates 18 = .ok (.iload 9, 2) := by decide +kernel
theorem dL_skates_20 : decode cL_skates 20 = .ok (.iload_n 3, 1) := by decide +kernel
theorem dL_skates_21 : decode cL_skates 21 = .ok (.if_icmp .ge 426, 3) := by decide +kernel
theorem dL_skates_24 : decode cL_skates 24 = .ok (.iload 7, 2) := by decide +kernel
theorem dL_skates_26 : decode cL_skates 26 = .ok (.sipush 240, 3) := by decide +kernel
theorem dL_skates_29 : decode cL_skates 29 = .ok (.if_icmp .ge 418, 3) := by decide +kernel
theorem dL_skates_32 : decode cL_skates 32 = .ok (.aload_n 1, 1) := by decide +kernel
theorem dL_skates_33 : decode cL_skates 33 = .ok (.iload_n 2, 1) := by decide +kernel
theorem dL_skates_34 : decode cL_skates 34 = .ok (.iload 9, 2) := by decide +kernel
theorem dL_skates_36 : decode cL_skates 36 = .ok (.iadd, 1) := by decide +kernel
theorem dL_skates_37 : decode cL_skates 37 = .ok (.invokestatic 8, 3) := by decide +kernel
theorem dL_skates_40 : decode cL_skates 40 = .ok (.istore 10, 2) := by decide +kernel
theorem dL_skates_42 : decode cL_skates 42 = .ok (.iload 10, 2) := by decide +kernel
theorem dL_skates_44 : decode cL_skates 44 = .ok (.iconst 4, 1) := by decide +kernel
theorem dL_skates_45 : decode cL_skates 45 = .ok (.invokestatic 14, 3) := by decide +kernel
theorem dL_skates_48 : decode cL_skates 48 = .ok (.istore 11, 2) := by decide +kernel
theorem dL_skates_50 : decode cL_skates 50 = .ok (.iload 10, 2) := by decide +kernel
theorem dL_skates_52 : decode cL_skates 52 = .ok (.iconst 4, 1) := by decide +kernel
theorem dL_skates_53 : decode cL_skates 53 = .ok (.ishr, 1) := by decide +kernel
theorem dL_skates_54 : decode cL_skates 54 = .ok (.bipush 6, 2) := by decide +kernel
theorem dL_skates_56 : decode cL_skates 56 = .ok (.invokestatic 14, 3) := by decide +kernel
theorem dL_skates_59 : decode cL_skates 59 = .ok (.istore 12, 2) := by decide +kernel
theorem dL_skates_61 : decode cL_skates 61 = .ok (.iload 4, 2) := by decide +kernel
theorem dL_skates_63 : decode cL_skates 63 = .ok (.iconst 1, 1) := by decide +kernel
theorem dL_skates_64 : decode cL_skates 64 = .ok (.if_icmp .ne 19, 3) := by decide +kernel
theorem dL_skates_67 : decode cL_skates 67 = .ok (.iload 5, 2) := by decide +kernel
theorem dL_skates_69 : decode cL_skates 69 = .ok (.iconst 1, 1) := by decide +kernel
theorem dL_skates_70 : decode cL_skates 70 = .ok (.if_icmp .ne 13, 3) := by decide +kernel
theorem dL_skates_73 : decode cL_skates 73 = .ok (.iload 6, 2) := by decide +kernel
theorem dL_skates_75 : decode cL_skates 75 = .ok (.iconst 1, 1) := by decide +kernel
theorem dL_skates_76 : decode cL_skates 76 = .ok (.if_icmp .ne 7, 3) := by decide +kernel
theorem dL_skates_79 : decode cL_skates 79 = .ok (.iconst 1, 1) := by decide +kernel
theorem dL_skates_80 : decode cL_skates 80 = .ok (.goto 4, 3) := by decide +kernel
theorem dL_skates_83 : decode cL_skates 83 = .ok (.iconst 0, 1) := by decide +kernel
theorem dL_skates_84 : decode cL_skates 84 = .ok (.istore 13, 2) := by decide +kernel
theorem dL_skates_86 : decode cL_skates 86 = .ok (.iload 12, 2) := by decide +kernel
theorem dL_skates_88 : decode cL_skates 88 = .ok (.ifCond .eq 9, 3) := by decide +kernel
theorem dL_skates_91 : decode cL_skates 91 = .ok (.iload 12, 2) := by decide +kernel
theorem dL_skates_93 : decode cL_skates 93 = .ok (.iconst 2, 1) := by decide +kernel
theorem dL_skates_94 : decode cL_skates 94 = .ok (.if_icmp .ne 8, 3) := by decide +kernel
theorem dL_skates_97 : decode cL_skates 97 = .ok (.iload 13, 2) := by decide +kernel
theorem dL_skates_99 : decode cL_skates 99 = .ok (.goto 59, 3) := by decide +kernel
theorem dL_skates_102 : decode cL_skates 102 = .ok (.iload 4, 2) := by decide +kernel
theorem dL_skates_104 : decode cL_skates 104 = .ok (.ifCond .ne 53, 3) := by decide +kernel
theorem dL_skates_107 : decode cL_skates 107 = .ok (.iload 12, 2) := by decide +kernel
theorem dL_skates_109 : decode cL_skates 109 = .ok (.iconst 1, 1) := by decide +kernel
theorem dL_skates_110 : decode cL_skates 110 = .ok (.if_icmp .ne 17, 3) := by decide +kernel
theorem dL_skates_113 : decode cL_skates 113 = .ok (.iload 5, 2) := by decide +kernel
theorem dL_skates_115 : decode cL_skates 115 = .ok (.ifCond .ne 42, 3) := by decide +kernel
theorem dL_skates_118 : decode cL_skates 118 = .ok (.iload 6, 2) := by decide +kernel
theorem dL_skates_120 : decode cL_skates 120 = .ok (.iconst 1, 1) := by decide +kernel
theorem dL_skates_121 : decode cL_skates 121 = .ok (.if_icmp .ne 36, 3) := by decide +kernel
theorem dL_skates_124 : decode cL_skates 124 = .ok (.goto 29, 3) := by decide +kernel
theorem dL_skates_127 : decode cL_skates 127 = .ok (.iload 12, 2) := by decide +kernel
theorem dL_skates_129 : decode cL_skates 129 = .ok (.iconst 5, 1) := by decide +kernel
theorem dL_skates_130 : decode cL_skates 130 = .ok (.if_icmp .ne 17, 3) := by decide +kernel
theorem dL_skates_133 : decode cL_skates 133 = .ok (.iload 5, 2) := by decide +kernel
theorem dL_skates_135 : decode cL_skates 135 = .ok (.iconst 1, 1) := by decide +kernel
theorem dL_skates_136 : decode cL_skates 136 = .ok (.if_icmp .ne 21, 3) := by decide +kernel
theorem dL_skates_139 : decode cL_skates 139 = .ok (.iload 6, 2) := by decide +kernel
theorem dL_skates_141 : decode cL_skates 141 = .ok (.ifCond .ne 16, 3) := by decide +kernel
theorem dL_skates_144 : decode cL_skates 144 = .ok (.goto 9, 3) := by decide +kernel
theorem dL_skates_147 : decode cL_skates 147 = .ok (.iload 6, 2) := by decide +kernel
theorem dL_skates_149 : decode cL_skates 149 = .ok (.iconst 1, 1) := by decide +kernel
theorem dL_skates_150 : decode cL_skates 150 = .ok (.if_icmp .ne 7, 3) := by decide +kernel
theorem dL_skates_153 : decode cL_skates 153 = .ok (.iconst 1, 1) := by decide +kernel
theorem dL_skates_154 : decode cL_skates 154 = .ok (.goto 4, 3) := by decide +kernel
theorem dL_skates_157 : decode cL_skates 157 = .ok (.iconst 0, 1) := by decide +kernel
theorem dL_skates_158 : decode cL_skates 158 = .ok (.istore 14, 2) := by decide +kernel
theorem dL_skates_160 : decode cL_skates 160 = .ok (.iload 11, 2) := by decide +kernel
theorem dL_skates_162 : decode cL_skates 162 = .ok (.iconst 2, 1) := by decide +kernel
theorem dL_skates_163 : decode cL_skates 163 = .ok (.if_icmp .lt 21, 3) := by decide +kernel
theorem dL_skates_166 : decode cL_skates 166 = .ok (.iload 8, 2) := by decide +kernel
theorem dL_skates_168 : decode cL_skates 168 = .ok (.bipush 12, 2) := by decide +kernel
theorem dL_skates_170 : decode cL_skates 170 = .ok (.if_icmp .eq 14, 3) := by decide +kernel
theorem dL_skates_173 : decode cL_skates 173 = .ok (.iload 11, 2) := by decide +kernel
theorem dL_skates_175 : decode cL_skates 175 = .ok (.iconst 2, 1) := by decide +kernel
theorem dL_skates_176 : decode cL_skates 176 = .ok (.if_icmp .ne 117, 3) := by decide +kernel
theorem dL_skates_179 : decode cL_skates 179 = .ok (.iload 14, 2) := by decide +kernel
theorem dL_skates_181 : decode cL_skates 181 = .ok (.ifCond .ne 112, 3) := by decide +kernel
theorem dL_skates_184 : decode cL_skates 184 = .ok (.iload 12, 2) := by decide +kernel
theorem dL_skates_186 : decode cL_skates 186 = .ok (.iconst 2, 1) := by decide +kernel
theorem dL_skates_187 : decode cL_skates 187 = .ok (.if_icmp .eq 15, 3) := by decide +kernel
theorem dL_skates_190 : decode cL_skates 190 = .ok (.iload 12, 2) := by decide +kernel
theorem dL_skates_192 : decode cL_skates 192 = .ok (.iconst 3, 1) := by decide +kernel
theorem dL_skates_193 : decode cL_skates 193 = .ok (.if_icmp .eq 9, 3) := by decide +kernel
theorem dL_skates_196 : decode cL_skates 196 = .ok (.iload 12, 2) := by decide +kernel
theorem dL_skates_198 : decode cL_skates 198 = .ok (.iconst 5, 1) := by decide +kernel
theorem dL_skates_199 : decode cL_skates 199 = .ok (.if_icmp .ne 10, 3) := by decide +kernel
theorem dL_skates_202 : decode cL_skates 202 = .ok (.iconst 1, 1) := by decide +kernel
theorem dL_skates_203 : decode cL_skates 203 = .ok (.iload 4, 2) := by decide +kernel
theorem dL_skates_205 : decode cL_skates 205 = .ok (.isub, 1) := by decide +kernel
theorem dL_skates_206 : decode cL_skates 206 = .ok (.goto 5, 3) := by decide +kernel
theorem dL_skates_209 : decode cL_skates 209 = .ok (.iload 4, 2) := by decide +kernel
theorem dL_skates_211 : decode cL_skates 211 = .ok (.istore 4, 2) := by decide +kernel
theorem dL_skates_213 : decode cL_skates 213 = .ok (.iload 12, 2) := by decide +kernel
theorem dL_skates_215 : decode cL_skates 215 = .ok (.ifCond .eq 15, 3) := by decide +kernel
theorem dL_skates_218 : decode cL_skates 218 = .ok (.iload 12, 2) := by decide +kernel
theorem dL_skates_220 : decode cL_skates 220 = .ok (.iconst 3, 1) := by decide +kernel
theorem dL_skates_221 : decode cL_skates 221 = .ok (.if_icmp .eq 9, 3) := by decide +kernel
theorem dL_skates_224 : decode cL_skates 224 = .ok (.iload 12, 2) := by decide +kernel
theorem dL_skates_226 : decode cL_skates 226 = .ok (.iconst 4, 1) := by decide +kernel
theorem dL_skates_227 : decode cL_skates 227 = .ok (.if_icmp .ne 10, 3) := by decide +kernel
theorem dL_skates_230 : decode cL_skates 230 = .ok (.iconst 1, 1) := by decide +kernel
theorem dL_skates_231 : decode cL_skates 231 = .ok (.iload 5, 2) := by decide +kernel
theorem dL_skates_233 : decode cL_skates 233 = .ok (.isub, 1) := by decide +kernel
theorem dL_skates_234 : decode cL_skates 234 = .ok (.goto 5, 3) := by decide +kernel
theorem dL_skates_237 : decode cL_skates 237 = .ok (.iload 5, 2) := by decide +kernel
theorem dL_skates_239 : decode cL_skates 239 = .ok (.istore 5, 2) := by decide +kernel
theorem dL_skates_241 : decode cL_skates 241 = .ok (.iload 12, 2) := by decide +kernel
theorem dL_skates_243 : decode cL_skates 243 = .ok (.iconst 4, 1) := by decide +kernel
theorem dL_skates_244 : decode cL_skates 244 = .ok (.if_icmp .ge 10, 3) := by decide +kernel
theorem dL_skates_247 : decode cL_skates 247 = .ok (.iconst 1, 1) := by decide +kernel
theorem dL_skates_248 : decode cL_skates 248 = .ok (.iload 6, 2) := by decide +kernel
theorem dL_skates_250 : decode cL_skates 250 = .ok (.isub, 1) := by decide +kernel
theorem dL_skates_251 : decode cL_skates 251 = .ok (.goto 5, 3) := by decide +kernel
theorem dL_skates_254 : decode cL_skates 254 = .ok (.iload 6, 2) := by decide +kernel
theorem dL_skates_256 : decode cL_skates 256 = .ok (.istore 6, 2) := by decide +kernel
theorem dL_skates_258 : decode cL_skates 258 = .ok (.iload 7, 2) := by decide +kernel
theorem dL_skates_260 : decode cL_skates 260 = .ok (.aload_n 0, 1) := by decide +kernel
theorem dL_skates_261 : decode cL_skates 261 = .ok (.iload 12, 2) := by decide +kernel
theorem dL_skates_263 : decode cL_skates 263 = .ok (.invokevirtual 18, 3) := by decide +kernel
theorem dL_skates_266 : decode cL_skates 266 = .ok (.iconst 4, 1) := by decide +kernel
theorem dL_skates_267 : decode cL_skates 267 = .ok (.iload 4, 2) := by decide +kernel
theorem dL_skates_269 : decode cL_skates 269 = .ok (.imul, 1) := by decide +kernel
theorem dL_skates_270 : decode cL_skates 270 = .ok (.iconst 2, 1) := by decide +kernel
theorem dL_skates_271 : decode cL_skates 271 = .ok (.iload 5, 2) := by decide +kernel
theorem dL_skates_273 : decode cL_skates 273 = .ok (.imul, 1) := by decide +kernel
theorem dL_skates_274 : decode cL_skates 274 = .ok (.iadd, 1) := by decide +kernel
theorem dL_skates_275 : decode cL_skates 275 = .ok (.iload 6, 2) := by decide +kernel
theorem dL_skates_277 : decode cL_skates 277 = .ok (.iadd, 1) := by decide +kernel
theorem dL_skates_278 : decode cL_skates 278 = .ok (.if_icmp .ne 7, 3) := by decide +kernel
theorem dL_skates_281 : decode cL_skates 281 = .ok (.iconst 2, 1) := by decide +kernel
theorem dL_skates_282 : decode cL_skates 282 = .ok (.goto 5, 3) := by decide +kernel
theorem dL_skates_285 : decode cL_skates 285 = .ok (.ldc 24, 2) := by decide +kernel
theorem dL_skates_287 : decode cL_skates 287 = .ok (.iadd, 1) := by decide +kernel
theorem dL_skates_288 : decode cL_skates 288 = .ok (.istore 7, 2) := by decide +kernel
theorem dL_skates_290 : decode cL_skates 290 = .ok (.goto 151, 3) := by decide +kernel
theorem dL_skates_293 : decode cL_skates 293 = .ok (.iload 11, 2) := by decide +kernel
theorem dL_skates_295 : decode cL_skates 295 = .ok (.iconst 2, 1) := by decide +kernel
theorem dL_skates_296 : decode cL_skates 296 = .ok (.if_icmp .ne 92, 3) := by decide +kernel
theorem dL_skates_299 : decode cL_skates 299 = .ok (.iload 7, 2) := by decide +kernel
theorem dL_skates_301 : decode cL_skates 301 = .ok (.aload_n 0, 1) := by decide +kernel
theorem dL_skates_302 : decode cL_skates 302 = .ok (.iload 12, 2) := by decide +kernel
theorem dL_skates_304 : decode cL_skates 304 = .ok (.iconst 1, 1) := by decide +kernel
theorem dL_skates_305 : decode cL_skates 305 = .ok (.iload 10, 2) := by decide +kernel
theorem dL_skates_307 : decode cL_skates 307 = .ok (.bipush 7, 2) := by decide +kernel
theorem dL_skates_309 : decode cL_skates 309 = .ok (.ishr, 1) := by decide +kernel
theorem dL_skates_310 : decode cL_skates 310 = .ok (.iconst 4, 1) := by decide +kernel
theorem dL_skates_311 : decode cL_skates 311 = .ok (.invokestatic 14, 3) := by decide +kernel
theorem dL_skates_314 : decode cL_skates 314 = .ok (.iadd, 1) := by decide +kernel
theorem dL_skates_315 : decode cL_skates 315 = .ok (.iload 10, 2) := by decide +kernel
theorem dL_skates_317 : decode cL_skates 317 = .ok (.bipush 9, 2) := by decide +kernel
theorem dL_skates_319 : decode cL_skates 319 = .ok (.ishr, 1) := by decide +kernel
theorem dL_skates_320 : decode cL_skates 320 = .ok (.iconst 5, 1) := by decide +kernel
theorem dL_skates_321 : decode cL_skates 321 = .ok (.invokestatic 14, 3) := by decide +kernel
theorem dL_skates_324 : decode cL_skates 324 = .ok (.ifCond .ne 7, 3) := by decide +kernel
theorem dL_skates_327 : decode cL_skates 327 = .ok (.iconst 1, 1) := by decide +kernel
theorem dL_skates_328 : decode cL_skates 328 = .ok (.goto 4, 3) := by decide +kernel
theorem dL_skates_331 : decode cL_skates 331 = .ok (.iconst 0, 1) := by decide +kernel
theorem dL_skates_332 : decode cL_skates 332 = .ok (.invokevirtual 25, 3) := by decide +kernel
theorem dL_skates_335 : decode cL_skates 335 = .ok (.iload 8, 2) := by decide +kernel
theorem dL_skates_337 : decode cL_skates 337 = .ok (.if_icmp .ne 7, 3) := by decide +kernel
theorem dL_skates_340 : decode cL_skates 340 = .ok (.iconst 4, 1) := by decide +kernel
theorem dL_skates_341 : decode cL_skates 341 = .ok (.goto 5, 3) := by decide +kernel
theorem dL_skates_344 : decode cL_skates 344 = .ok (.ldc 24, 2) := by decide +kernel
theorem dL_skates_346 : decode cL_skates 346 = .ok (.iadd, 1) := by decide +kernel
theorem dL_skates_347 : decode cL_skates 347 = .ok (.istore 7, 2) := by decide +kernel
theorem dL_skates_349 : decode cL_skates 349 = .ok (.aload_n 0, 1) := by decide +kernel
theorem dL_skates_350 : decode cL_skates 350 = .ok (.iload 10, 2) := by decide +kernel
theorem dL_skates_352 : decode cL_skates 352 = .ok (.iconst 3, 1) := by decide +kernel
theorem dL_skates_353 : decode cL_skates 353 = .ok (.ishr, 1) := by decide +kernel
theorem dL_skates_354 : decode cL_skates 354 = .ok (.iconst 3, 1) := by decide +kernel
theorem dL_skates_355 : decode cL_skates 355 = .ok (.invokestatic 14, 3) := by decide +kernel
theorem dL_skates_358 : decode cL_skates 358 = .ok (.iload 8, 2) := by decide +kernel
theorem dL_skates_360 : decode cL_skates 360 = .ok (.iload 10, 2) := by decide +kernel
theorem dL_skates_362 : decode cL_skates 362 = .ok (.bipush 6, 2) := by decide +kernel
theorem dL_skates_364 : decode cL_skates 364 = .ok (.ishr, 1) := by decide +kernel
theorem dL_skates_365 : decode cL_skates 365 = .ok (.iconst 5, 1) := by decide +kernel
theorem dL_skates_366 : decode cL_skates 366 = .ok (.invokestatic 14, 3) := by decide +kernel
theorem dL_skates_369 : decode cL_skates 369 = .ok (.invokevirtual 29, 3) := by decide +kernel
theorem dL_skates_372 : decode cL_skates 372 = .ok (.pop, 1) := by decide +kernel
theorem dL_skates_373 : decode cL_skates 373 = .ok (.iinc 8 1, 3) := by decide +kernel
theorem dL_skates_376 : decode cL_skates 376 = .ok (.iconst 1, 1) := by decide +kernel
theorem dL_skates_377 : decode cL_skates 377 = .ok (.istore 4, 2) := by decide +kernel
theorem dL_skates_379 : decode cL_skates 379 = .ok (.iconst 1, 1) := by decide +kernel
theorem dL_skates_380 : decode cL_skates 380 = .ok (.istore 5, 2) := by decide +kernel
theorem dL_skates_382 : decode cL_skates 382 = .ok (.iconst 1, 1) := by decide +kernel
theorem dL_skates_383 : decode cL_skates 383 = .ok (.istore 6, 2) := by decide +kernel
theorem dL_skates_385 : decode cL_skates 385 = .ok (.goto 56, 3) := by decide +kernel
theorem dL_skates_388 : decode cL_skates 388 = .ok (.iload 7, 2) := by decide +kernel
theorem dL_skates_390 : decode cL_skates 390 = .ok (.aload_n 0, 1) := by decide +kernel
theorem dL_skates_391 : decode cL_skates 391 = .ok (.iload 10, 2) := by decide +kernel
theorem dL_skates_393 : decode cL_skates 393 = .ok (.iconst 5, 1) := by decide +kernel
theorem dL_skates_394 : decode cL_skates 394 = .ok (.ishr, 1) := by decide +kernel
theorem dL_skates_395 : decode cL_skates 395 = .ok (.bipush 64, 2) := by decide +kernel
theorem dL_skates_397 : decode cL_skates 397 = .ok (.invokestatic 14, 3) := by decide +kernel
theorem dL_skates_400 : decode cL_skates 400 = .ok (.iconst 1, 1) := by decide +kernel
theorem dL_skates_401 : decode cL_skates 401 = .ok (.iload 10, 2) := by decide +kernel
theorem dL_skates_403 : decode cL_skates 403 = .ok (.iconst 3, 1) := by decide +kernel
theorem dL_skates_404 : decode cL_skates 404 = .ok (.ishr, 1) := by decide +kernel
theorem dL_skates_405 : decode cL_skates 405 = .ok (.bipush 20, 2) := by decide +kernel
theorem dL_skates_407 : decode cL_skates 407 = .ok (.invokestatic 14, 3) := by decide +kernel
theorem dL_skates_410 : decode cL_skates 410 = .ok (.iadd, 1) := by decide +kernel
theorem dL_skates_411 : decode cL_skates 411 = .ok (.invokevirtual 33, 3) := by decide +kernel
theorem dL_skates_414 : decode cL_skates 414 = .ok (.iload 8, 2) := by decide +kernel
theorem dL_skates_416 : decode cL_skates 416 = .ok (.if_icmp .ne 8, 3) := by decide +kernel
theorem dL_skates_419 : decode cL_skates 419 = .ok (.bipush 10, 2) := by decide +kernel
theorem dL_skates_421 : decode cL_skates 421 = .ok (.goto 5, 3) := by decide +kernel
theorem dL_skates_424 : decode cL_skates 424 = .ok (.ldc 24, 2) := by decide +kernel
theorem dL_skates_426 : decode cL_skates 426 = .ok (.iadd, 1) := by decide +kernel
theorem dL_skates_427 : decode cL_skates 427 = .ok (.istore 7, 2) := by decide +kernel
theorem dL_skates_429 : decode cL_skates 429 = .ok (.iinc 8 1, 3) := by decide +kernel
theorem dL_skates_432 : decode cL_skates 432 = .ok (.iconst 0, 1) := by decide +kernel
theorem dL_skates_433 : decode cL_skates 433 = .ok (.istore 4, 2) := by decide +kernel
theorem dL_skates_435 : decode cL_skates 435 = .ok (.iconst 1, 1) := by decide +kernel
theorem dL_skates_436 : decode cL_skates 436 = .ok (.istore 5, 2) := by decide +kernel
theorem dL_skates_438 : decode cL_skates 438 = .ok (.iconst 1, 1) := by decide +kernel
theorem dL_skates_439 : decode cL_skates 439 = .ok (.istore 6, 2) := by decide +kernel
theorem dL_skates_441 : decode cL_skates 441 = .ok (.iinc 9 1, 3) := by decide +kernel
theorem dL_skates_444 : decode cL_skates 444 = .ok (.goto (-426), 3) := by decide +kernel
theorem dL_skates_447 : decode cL_skates 447 = .ok (.iload 7, 2) := by decide +kernel
theorem dL_skates_449 : decode cL_skates 449 = .ok (.ireturn, 1) := by decide +kernel
theorem dL_law_0 : decode cL_law 0 = .ok (.new 19, 3) := by decide +kernel
theorem dL_law_3 : decode cL_law 3 = .ok (.dup, 1) := by decide +kernel
theorem dL_law_4 : decode cL_law 4 = .ok (.invokespecial 36, 3) := by decide +kernel
theorem dL_law_7 : decode cL_law 7 = .ok (.astore_n 1, 1) := by decide +kernel
theorem dL_law_8 : decode cL_law 8 = .ok (.aload_n 0, 1) := by decide +kernel
theorem dL_law_9 : decode cL_law 9 = .ok (.iconst 0, 1) := by decide +kernel
theorem dL_law_10 : decode cL_law 10 = .ok (.invokestatic 8, 3) := by decide +kernel
theorem dL_law_13 : decode cL_law 13 = .ok (.istore_n 2, 1) := by decide +kernel
theorem dL_law_14 : decode cL_law 14 = .ok (.iconst 1, 1) := by decide +kernel
theorem dL_law_15 : decode cL_law 15 = .ok (.iload_n 2, 1) := by decide +kernel
theorem dL_law_16 : decode cL_law 16 = .ok (.iconst 5, 1) := by decide +kernel
theorem dL_law_17 : decode cL_law 17 = .ok (.invokestatic 14, 3) := by decide +kernel
theorem dL_law_20 : decode cL_law 20 = .ok (.iadd, 1) := by decide +kernel
theorem dL_law_21 : decode cL_law 21 = .ok (.istore_n 3, 1) := by decide +kernel
theorem dL_law_22 : decode cL_law 22 = .ok (.iload_n 2, 1) := by decide +kernel
theorem dL_law_23 : decode cL_law 23 = .ok (.iconst 3, 1) := by decide +kernel
theorem dL_law_24 : decode cL_law 24 = .ok (.ishr, 1) := by decide +kernel
theorem dL_law_25 : decode cL_law 25 = .ok (.iconst 3, 1) := by decide +kernel
theorem dL_law_26 : decode cL_law 26 = .ok (.invokestatic 14, 3) := by decide +kernel
theorem dL_law_29 : decode cL_law 29 = .ok (.ifCond .le 7, 3) := by decide +kernel
theorem dL_law_32 : decode cL_law 32 = .ok (.iconst 1, 1) := by decide +kernel
theorem dL_law_33 : decode cL_law 33 = .ok (.goto 4, 3) := by decide +kernel
theorem dL_law_36 : decode cL_law 36 = .ok (.iconst 0, 1) := by decide +kernel
theorem dL_law_37 : decode cL_law 37 = .ok (.istore 4, 2) := by decide +kernel
theorem dL_law_39 : decode cL_law 39 = .ok (.iconst 1, 1) := by decide +kernel
theorem dL_law_40 : decode cL_law 40 = .ok (.istore 5, 2) := by decide +kernel
theorem dL_law_42 : decode cL_law 42 = .ok (.iconst 0, 1) := by decide +kernel
theorem dL_law_43 : decode cL_law 43 = .ok (.istore 6, 2) := by decide +kernel
theorem dL_law_45 : decode cL_law 45 = .ok (.iconst 5, 1) := by decide +kernel
theorem dL_law_46 : decode cL_law 46 = .ok (.newarray .int, 2) := by decide +kernel
theorem dL_law_48 : decode cL_law 48 = .ok (.astore 7, 2) := by decide +kernel
theorem dL_law_50 : decode cL_law 50 = .ok (.iconst 0, 1) := by decide +kernel
theorem dL_law_51 : decode cL_law 51 = .ok (.istore 8, 2) := by decide +kernel
theorem dL_law_53 : decode cL_law 53 = .ok (.iload 8, 2) := by decide +kernel
theorem dL_law_55 : decode cL_law 55 = .ok (.iload_n 3, 1) := by decide +kernel
theorem dL_law_56 : decode cL_law 56 = .ok (.if_icmp .ge 30, 3) := by decide +kernel
theorem dL_law_59 : decode cL_law 59 = .ok (.iload 5, 2) := by decide +kernel
theorem dL_law_61 : decode cL_law 61 = .ok (.ifCond .eq 16, 3) := by decide +kernel
theorem dL_law_64 : decode cL_law 64 = .ok (.aload_n 1, 1) := by decide +kernel
theorem dL_law_65 : decode cL_law 65 = .ok (.invokevirtual 37, 3) := by decide +kernel
theorem dL_law_68 : decode cL_law 68 = .ok (.iload 8, 2) := by decide +kernel
theorem dL_law_70 : decode cL_law 70 = .ok (.if_icmp .ne 7, 3) := by decide +kernel
theorem dL_law_73 : decode cL_law 73 = .ok (.iconst 1, 1) := by decide +kernel
theorem dL_law_74 : decode cL_law 74 = .ok (.goto 4, 3) := by decide +kernel
theorem dL_law_77 : decode cL_law 77 = .ok (.iconst 0, 1) := by decide +kernel
theorem dL_law_78 : decode cL_law 78 = .ok (.istore 5, 2) := by decide +kernel
theorem dL_law_80 : decode cL_law 80 = .ok (.iinc 8 1, 3) := by decide +kernel
theorem dL_law_83 : decode cL_law 83 = .ok (.goto (-30), 3) := by decide +kernel
theorem dL_law_86 : decode cL_law 86 = .ok (.iconst 0, 1) := by decide +kernel
theorem dL_law_87 : decode cL_law 87 = .ok (.istore 8, 2) := by decide +kernel
theorem dL_law_89 : decode cL_law 89 = .ok (.iload 8, 2) := by decide +kernel
theorem dL_law_91 : decode cL_law 91 = .ok (.iload_n 3, 1) := by decide +kernel
theorem dL_law_92 : decode cL_law 92 = .ok (.if_icmp .ge 247, 3) := by decide +kernel
theorem dL_law_95 : decode cL_law 95 = .ok (.iload 5, 2) := by decide +kernel
theorem dL_law_97 : decode cL_law 97 = .ok (.ifCond .eq 242, 3) := by decide +kernel
theorem dL_law_100 : decode cL_law 100 = .ok (.aload_n 1, 1) := by decide +kernel
theorem dL_law_101 : decode cL_law 101 = .ok (.iload 8, 2) := by decide +kernel
theorem dL_law_103 : decode cL_law 103 = .ok (.invokevirtual 41, 3) := by decide +kernel
theorem dL_law_106 : decode cL_law 106 = .ok (.aload_n 1, 1) := by decide +kernel
theorem dL_law_107 : decode cL_law 107 = .ok (.aload_n 0, 1) := by decide +kernel
theorem dL_law_108 : decode cL_law 108 = .ok (.iconst 1, 1) := by decide +kernel
theorem dL_law_109 : decode cL_law 109 = .ok (.bipush 9, 2) := by decide +kernel
theorem dL_law_111 : decode cL_law 111 = .ok (.iload 8, 2) := by decide +kernel
theorem dL_law_113 : decode cL_law 113 = .ok (.imul, 1) := by decide +kernel
theorem dL_law_114 : decode cL_law 114 = .ok (.iadd, 1) := by decide +kernel
theorem dL_law_115 : decode cL_law 115 = .ok (.iconst 3, 1) := by decide +kernel
theorem dL_law_116 : decode cL_law 116 = .ok (.aload_n 0, 1) := by decide +kernel
theorem dL_law_117 : decode cL_law 117 = .ok (.iconst 1, 1) := by decide +kernel
theorem dL_law_118 : decode cL_law 118 = .ok (.bipush 9, 2) := by decide +kernel
theorem dL_law_120 : decode cL_law 120 = .ok (.iload 8, 2) := by decide +kernel
theorem dL_law_122 : decode cL_law 122 = .ok (.imul, 1) := by decide +kernel
theorem dL_law_123 : decode cL_law 123 = .ok (.iadd, 1) := by decide +kernel
theorem dL_law_124 : decode cL_law 124 = .ok (.invokestatic 8, 3) := by decide +kernel
theorem dL_law_127 : decode cL_law 127 = .ok (.bipush 20, 2) := by decide +kernel
theorem dL_law_129 : decode cL_law 129 = .ok (.invokestatic 14, 3) := by decide +kernel
theorem dL_law_132 : decode cL_law 132 = .ok (.iadd, 1) := by decide +kernel
theorem dL_law_133 : decode cL_law 133 = .ok (.invokestatic 45, 3) := by decide +kernel
theorem dL_law_136 : decode cL_law 136 = .ok (.istore 9, 2) := by decide +kernel
theorem dL_law_138 : decode cL_law 138 = .ok (.aload_n 1, 1) := by decide +kernel
theorem dL_law_139 : decode cL_law 139 = .ok (.iload 8, 2) := by decide +kernel
theorem dL_law_141 : decode cL_law 141 = .ok (.iconst 0, 1) := by decide +kernel
theorem dL_law_142 : decode cL_law 142 = .ok (.iconst 4, 1) := by decide +kernel
theorem dL_law_143 : decode cL_law 143 = .ok (.invokevirtual 49, 3) := by decide +kernel
theorem dL_law_146 : decode cL_law 146 = .ok (.iload 9, 2) := by decide +kernel
theorem dL_law_148 : decode cL_law 148 = .ok (.if_icmp .ne 19, 3) := by decide +kernel
theorem dL_law_151 : decode cL_law 151 = .ok (.aload_n 1, 1) := by decide +kernel
theorem dL_law_152 : decode cL_law 152 = .ok (.iload 8, 2) := by decide +kernel
theorem dL_law_154 : decode cL_law 154 = .ok (.iconst 0, 1) := by decide +kernel
theorem dL_law_155 : decode cL_law 155 = .ok (.iconst 5, 1) := by decide +kernel
theorem dL_law_156 : decode cL_law 156 = .ok (.invokevirtual 49, 3) := by decide +kernel
theorem dL_law_159 : decode cL_law 159 = .ok (.iconst (-1), 1) := by decide +kernel
theorem dL_law_160 : decode cL_law 160 = .ok (.if_icmp .ne 7, 3) := by decide +kernel
theorem dL_law_163 : decode cL_law 163 = .ok (.iconst 1, 1) := by decide +kernel
theorem dL_law_164 : decode cL_law 164 = .ok (.goto 4, 3) := by decide +kernel
theorem dL_law_167 : decode cL_law 167 = .ok (.iconst 0, 1) := by decide +kernel
theorem dL_law_168 : decode cL_law 168 = .ok (.istore 5, 2) := by decide +kernel
theorem dL_law_170 : decode cL_law 170 = .ok (.iload 8, 2) := by decide +kernel
theorem dL_law_172 : decode cL_law 172 = .ok (.iload_n 3, 1) := by decide +kernel
theorem dL_law_173 : decode cL_law 173 = .ok (.iconst 1, 1) := by decide +kernel
theorem dL_law_174 : decode cL_law 174 = .ok (.isub, 1) := by decide +kernel
theorem dL_law_175 : decode cL_law 175 = .ok (.if_icmp .lt 8, 3) := by decide +kernel
theorem dL_law_178 : decode cL_law 178 = .ok (.iload 4, 2) := by decide +kernel
theorem dL_law_180 : decode cL_law 180 = .ok (.ifCond .eq 153, 3) := by decide +kernel
theorem dL_law_183 : decode cL_law 183 = .ok (.aload 7, 2) := by decide +kernel
theorem dL_law_185 : decode cL_law 185 = .ok (.iload 8, 2) := by decide +kernel
theorem dL_law_187 : decode cL_law 187 = .ok (.aload_n 1, 1) := by decide +kernel
theorem dL_law_188 : decode cL_law 188 = .ok (.invokevirtual 52, 3) := by decide +kernel
theorem dL_law_191 : decode cL_law 191 = .ok (.iastore, 1) := by decide +kernel
theorem dL_law_192 : decode cL_law 192 = .ok (.iinc 6 1, 3) := by decide +kernel
theorem dL_law_195 : decode cL_law 195 = .ok (.iconst 0, 1) := by decide +kernel
theorem dL_law_196 : decode cL_law 196 = .ok (.istore 10, 2) := by decide +kernel
theorem dL_law_198 : decode cL_law 198 = .ok (.iload 10, 2) := by decide +kernel
theorem dL_law_200 : decode cL_law 200 = .ok (.aload 7, 2) := by decide +kernel
theorem dL_law_202 : decode cL_law 202 = .ok (.iload 8, 2) := by decide +kernel
theorem dL_law_204 : decode cL_law 204 = .ok (.iaload, 1) := by decide +kernel
theorem dL_law_205 : decode cL_law 205 = .ok (.if_icmp .ge 76, 3) := by decide +kernel
theorem dL_law_208 : decode cL_law 208 = .ok (.iconst 0, 1) := by decide +kernel
theorem dL_law_209 : decode cL_law 209 = .ok (.istore 11, 2) := by decide +kernel
theorem dL_law_211 : decode cL_law 211 = .ok (.iload 11, 2) := by decide +kernel
theorem dL_law_213 : decode cL_law 213 = .ok (.bipush 7, 2) := by decide +kernel
theorem dL_law_215 : decode cL_law 215 = .ok (.if_icmp .ge 60, 3) := by decide +kernel
theorem dL_law_218 : decode cL_law 218 = .ok (.aload_n 0, 1) := by decide +kernel
theorem dL_law_219 : decode cL_law 219 = .ok (.iconst 3, 1) := by decide +kernel
theorem dL_law_220 : decode cL_law 220 = .ok (.bipush 9, 2) := by decide +kernel
theorem dL_law_222 : decode cL_law 222 = .ok (.iload 8, 2) := by decide +kernel
theorem dL_law_224 : decode cL_law 224 = .ok (.imul, 1) := by decide +kernel
theorem dL_law_225 : decode cL_law 225 = .ok (.iadd, 1) := by decide +kernel
theorem dL_law_226 : decode cL_law 226 = .ok (.iload 10, 2) := by decide +kernel
theorem dL_law_228 : decode cL_law 228 = .ok (.iadd, 1) := by decide +kernel
theorem dL_law_229 : decode cL_law 229 = .ok (.invokestatic 8, 3) := by decide +kernel
theorem dL_law_232 : decode cL_law 232 = .ok (.iload 11, 2) := by decide +kernel
theorem dL_law_234 : decode cL_law 234 = .ok (.iconst 2, 1) := by decide +kernel
theorem dL_law_235 : decode cL_law 235 = .ok (.iadd, 1) := by decide +kernel
theorem dL_law_236 : decode cL_law 236 = .ok (.ishr, 1) := by decide +kernel
theorem dL_law_237 : decode cL_law 237 = .ok (.istore 12, 2) := by decide +kernel
theorem dL_law_239 : decode cL_law 239 = .ok (.iload 12, 2) := by decide +kernel
theorem dL_law_241 : decode cL_law 241 = .ok (.iconst 4, 1) := by decide +kernel
theorem dL_law_242 : decode cL_law 242 = .ok (.invokestatic 14, 3) := by decide +kernel
theorem dL_law_245 : decode cL_law 245 = .ok (.ifCond .le 24, 3) := by decide +kernel
theorem dL_law_248 : decode cL_law 248 = .ok (.aload_n 1, 1) := by decide +kernel
theorem dL_law_249 : decode cL_law 249 = .ok (.iload 11, 2) := by decide +kernel
theorem dL_law_251 : decode cL_law 251 = .ok (.iload 8, 2) := by decide +kernel
theorem dL_law_253 : decode cL_law 253 = .ok (.iload 10, 2) := by decide +kernel
theorem dL_law_255 : decode cL_law 255 = .ok (.iload 12, 2) := by decide +kernel
theorem dL_law_257 : decode cL_law 257 = .ok (.iconst 2, 1) := by decide +kernel
theorem dL_law_258 : decode cL_law 258 = .ok (.ishr, 1) := by decide +kernel
theorem dL_law_259 : decode cL_law 259 = .ok (.bipush 11, 2) := by decide +kernel
theorem dL_law_261 : decode cL_law 261 = .ok (.invokestatic 14, 3) := by decide +kernel
theorem dL_law_264 : decode cL_law 264 = .ok (.iconst 5, 1) := by decide +kernel
theorem dL_law_265 : decode cL_law 265 = .ok (.isub, 1) := by decide +kernel
theorem dL_law_266 : decode cL_law 266 = .ok (.invokevirtual 55, 3) := by decide +kernel
theorem dL_law_269 : decode cL_law 269 = .ok (.iinc 11 1, 3) := by decide +kernel
theorem dL_law_272 : decode cL_law 272 = .ok (.goto (-61), 3) := by decide +kernel
theorem dL_law_275 : decode cL_law 275 = .ok (.iinc 10 1, 3) := by decide +kernel
theorem dL_law_278 : decode cL_law 278 = .ok (.goto (-80), 3) := by decide +kernel
theorem dL_law_281 : decode cL_law 281 = .ok (.iconst 0, 1) := by decide +kernel
theorem dL_law_282 : decode cL_law 282 = .ok (.istore 10, 2) := by decide +kernel
theorem dL_law_284 : decode cL_law 284 = .ok (.iload 10, 2) := by decide +kernel
theorem dL_law_286 : decode cL_law 286 = .ok (.bipush 21, 2) := by decide +kernel
theorem dL_law_288 : decode cL_law 288 = .ok (.if_icmp .ge 45, 3) := by decide +kernel
theorem dL_law_291 : decode cL_law 291 = .ok (.aload_n 1, 1) := by decide +kernel
theorem dL_law_292 : decode cL_law 292 = .ok (.iload 10, 2) := by decide +kernel
theorem dL_law_294 : decode cL_law 294 = .ok (.iconst 3, 1) := by decide +kernel
theorem dL_law_295 : decode cL_law 295 = .ok (.idiv, 1) := by decide +kernel
theorem dL_law_296 : decode cL_law 296 = .ok (.iload 8, 2) := by decide +kernel
theorem dL_law_298 : decode cL_law 298 = .ok (.iload 10, 2) := by decide +kernel
theorem dL_law_300 : decode cL_law 300 = .ok (.iconst 3, 1) := by decide +kernel
theorem dL_law_301 : decode cL_law 301 = .ok (.irem, 1) := by decide +kernel
theorem dL_law_302 : decode cL_law 302 = .ok (.aload_n 0, 1) := by decide +kernel
theorem dL_law_303 : decode cL_law 303 = .ok (.iconst 2, 1) := by decide +kernel
theorem dL_law_304 : decode cL_law 304 = .ok (.bipush 9, 2) := by decide +kernel
theorem dL_law_306 : decode cL_law 306 = .ok (.iload 8, 2) := by decide +kernel
theorem dL_law_308 : decode cL_law 308 = .ok (.imul, 1) := by decide +kernel
theorem dL_law_309 : decode cL_law 309 = .ok (.iadd, 1) := by decide +kernel
theorem dL_law_310 : decode cL_law 310 = .ok (.invokestatic 8, 3) := by decide +kernel
theorem dL_law_313 : decode cL_law 313 = .ok (.iload 10, 2) := by decide +kernel
theorem dL_law_315 : decode cL_law 315 = .ok (.bipush 17, 2) := by decide +kernel
theorem dL_law_317 : decode cL_law 317 = .ok (.irem, 1) := by decide +kernel
theorem dL_law_318 : decode cL_law 318 = .ok (.ishr, 1) := by decide +kernel
theorem dL_law_319 : decode cL_law 319 = .ok (.bipush 41, 2) := by decide +kernel
theorem dL_law_321 : decode cL_law 321 = .ok (.invokestatic 14, 3) := by decide +kernel
theorem dL_law_324 : decode cL_law 324 = .ok (.invokevirtual 59, 3) := by decide +kernel
theorem dL_law_327 : decode cL_law 327 = .ok (.iinc 10 1, 3) := by decide +kernel
theorem dL_law_330 : decode cL_law 330 = .ok (.goto (-46), 3) := by decide +kernel
theorem dL_law_333 : decode cL_law 333 = .ok (.iinc 8 1, 3) := by decide +kernel
theorem dL_law_336 : decode cL_law 336 = .ok (.goto (-247), 3) := by decide +kernel
theorem dL_law_339 : decode cL_law 339 = .ok (.aload_n 1, 1) := by decide +kernel
theorem dL_law_340 : decode cL_law 340 = .ok (.iconst 1, 1) := by decide +kernel
theorem dL_law_341 : decode cL_law 341 = .ok (.iload_n 2, 1) := by decide +kernel
theorem dL_law_342 : decode cL_law 342 = .ok (.bipush 6, 2) := by decide +kernel
theorem dL_law_344 : decode cL_law 344 = .ok (.invokestatic 14, 3) := by decide +kernel
theorem dL_law_347 : decode cL_law 347 = .ok (.iconst 1, 1) := by decide +kernel
theorem dL_law_348 : decode cL_law 348 = .ok (.iload_n 2, 1) := by decide +kernel
theorem dL_law_349 : decode cL_law 349 = .ok (.iconst 4, 1) := by decide +kernel
theorem dL_law_350 : decode cL_law 350 = .ok (.ishr, 1) := by decide +kernel
theorem dL_law_351 : decode cL_law 351 = .ok (.iconst 4, 1) := by decide +kernel
theorem dL_law_352 : decode cL_law 352 = .ok (.invokestatic 14, 3) := by decide +kernel
theorem dL_law_355 : decode cL_law 355 = .ok (.iadd, 1) := by decide +kernel
theorem dL_law_356 : decode cL_law 356 = .ok (.iload_n 2, 1) := by decide +kernel
theorem dL_law_357 : decode cL_law 357 = .ok (.iconst 2, 1) := by decide +kernel
theorem dL_law_358 : decode cL_law 358 = .ok (.ishr, 1) := by decide +kernel
theorem dL_law_359 : decode cL_law 359 = .ok (.sipush 10000, 3) := by decide +kernel
theorem dL_law_362 : decode cL_law 362 = .ok (.invokestatic 14, 3) := by decide +kernel
theorem dL_law_365 : decode cL_law 365 = .ok (.invokevirtual 62, 3) := by decide +kernel
theorem dL_law_368 : decode cL_law 368 = .ok (.pop, 1) := by decide +kernel
theorem dL_law_369 : decode cL_law 369 = .ok (.iload 5, 2) := by decide +kernel
theorem dL_law_371 : decode cL_law 371 = .ok (.ifCond .eq 14, 3) := by decide +kernel
theorem dL_law_374 : decode cL_law 374 = .ok (.aload_n 1, 1) := by decide +kernel
theorem dL_law_375 : decode cL_law 375 = .ok (.invokevirtual 66, 3) := by decide +kernel
theorem dL_law_378 : decode cL_law 378 = .ok (.ifCond .eq 7, 3) := by decide +kernel
theorem dL_law_381 : decode cL_law 381 = .ok (.iconst 1, 1) := by decide +kernel
theorem dL_law_382 : decode cL_law 382 = .ok (.goto 4, 3) := by decide +kernel
theorem dL_law_385 : decode cL_law 385 = .ok (.iconst 0, 1) := by decide +kernel
theorem dL_law_386 : decode cL_law 386 = .ok (.istore 5, 2) := by decide +kernel
theorem dL_law_388 : decode cL_law 388 = .ok (.iconst 0, 1) := by decide +kernel
theorem dL_law_389 : decode cL_law 389 = .ok (.istore 8, 2) := by decide +kernel
theorem dL_law_391 : decode cL_law 391 = .ok (.iload 8, 2) := by decide +kernel
theorem dL_law_393 : decode cL_law 393 = .ok (.iconst 2, 1) := by decide +kernel
theorem dL_law_394 : decode cL_law 394 = .ok (.if_icmp .ge 576, 3) := by decide +kernel
theorem dL_law_397 : decode cL_law 397 = .ok (.iload 5, 2) := by decide +kernel
theorem dL_law_399 : decode cL_law 399 = .ok (.ifCond .eq 571, 3) := by decide +kernel
theorem dL_law_402 : decode cL_law 402 = .ok (.iconst 0, 1) := by decide +kernel
theorem dL_law_403 : decode cL_law 403 = .ok (.istore 9, 2) := by decide +kernel
theorem dL_law_405 : decode cL_law 405 = .ok (.iload 9, 2) := by decide +kernel
theorem dL_law_407 : decode cL_law 407 = .ok (.iload_n 3, 1) := by decide +kernel
theorem dL_law_408 : decode cL_law 408 = .ok (.if_icmp .ge 532, 3) := by decide +kernel
theorem dL_law_411 : decode cL_law 411 = .ok (.iload 5, 2) := by decide +kernel
theorem dL_law_413 : decode cL_law 413 = .ok (.ifCond .eq 527, 3) := by decide +kernel
theorem dL_law_416 : decode cL_law 416 = .ok (.iconst 0, 1) := by decide +kernel
theorem dL_law_417 : decode cL_law 417 = .ok (.istore 10, 2) := by decide +kernel
theorem dL_law_419 : decode cL_law 419 = .ok (.iconst 0, 1) := by decide +kernel
theorem dL_law_420 : decode cL_law 420 = .ok (.istore 11, 2) := by decide +kernel
theorem dL_law_422 : decode cL_law 422 = .ok (.iconst 0, 1) := by decide +kernel
theorem dL_law_423 : decode cL_law 423 = .ok (.istore 12, 2) := by decide +kernel
theorem dL_law_425 : decode cL_law 425 = .ok (.iconst 0, 1) := by decide +kernel
theorem dL_law_426 : decode cL_law 426 = .ok (.istore 13, 2) := by decide +kernel
theorem dL_law_428 : decode cL_law 428 = .ok (.iload 11, 2) := by decide +kernel
theorem dL_law_430 : decode cL_law 430 = .ok (.aload 7, 2) := by decide +kernel
theorem dL_law_432 : decode cL_law 432 = .ok (.iload 9, 2) := by decide +kernel
theorem dL_law_434 : decode cL_law 434 = .ok (.iaload, 1) := by decide +kernel
theorem dL_law_435 : decode cL_law 435 = .ok (.if_icmp .ge 169, 3) := by decide +kernel
theorem dL_law_438 : decode cL_law 438 = .ok (.iload 10, 2) := by decide +kernel
theorem dL_law_440 : decode cL_law 440 = .ok (.aload_n 1, 1) := by decide +kernel
theorem dL_law_441 : decode cL_law 441 = .ok (.iload 9, 2) := by decide +kernel
theorem dL_law_443 : decode cL_law 443 = .ok (.iload 11, 2) := by decide +kernel
theorem dL_law_445 : decode cL_law 445 = .ok (.iload 8, 2) := by decide +kernel
theorem dL_law_447 : decode cL_law 447 = .ok (.bipush 7, 2) := by decide +kernel
theorem dL_law_449 : decode cL_law 449 = .ok (.invokevirtual 70, 3) := by decide +kernel
theorem dL_law_452 : decode cL_law 452 = .ok (.iadd, 1) := by decide +kernel
theorem dL_law_453 : decode cL_law 453 = .ok (.istore 10, 2) := by decide +kernel
theorem dL_law_455 : decode cL_law 455 = .ok (.iload 12, 2) := by decide +kernel
theorem dL_law_457 : decode cL_law 457 = .ok (.aload_n 1, 1) := by decide +kernel
theorem dL_law_458 : decode cL_law 458 = .ok (.iload 9, 2) := by decide +kernel
theorem dL_law_460 : decode cL_law 460 = .ok (.iload 11, 2) := by decide +kernel
theorem dL_law_462 : decode cL_law 462 = .ok (.iload 8, 2) := by decide +kernel
theorem dL_law_464 : decode cL_law 464 = .ok (.iconst 0, 1) := by decide +kernel
theorem dL_law_465 : decode cL_law 465 = .ok (.invokevirtual 70, 3) := by decide +kernel
theorem dL_law_468 : decode cL_law 468 = .ok (.bipush 6, 2) := by decide +kernel
theorem dL_law_470 : decode cL_law 470 = .ok (.if_icmp .ne 7, 3) := by decide +kernel
theorem dL_law_473 : decode cL_law 473 = .ok (.iconst 1, 1) := by decide +kernel
theorem dL_law_474 : decode cL_law 474 = .ok (.goto 4, 3) := by decide +kernel
theorem dL_law_477 : decode cL_law 477 = .ok (.iconst 0, 1) := by decide +kernel
theorem dL_law_478 : decode cL_law 478 = .ok (.iadd, 1) := by decide +kernel
theorem dL_law_479 : decode cL_law 479 = .ok (.istore 12, 2) := by decide +kernel
theorem dL_law_481 : decode cL_law 481 = .ok (.iload 13, 2) := by decide +kernel
theorem dL_law_483 : decode cL_law 483 = .ok (.aload_n 1, 1) := by decide +kernel
theorem dL_law_484 : decode cL_law 484 = .ok (.iload 9, 2) := by decide +kernel
theorem dL_law_486 : decode cL_law 486 = .ok (.iload 11, 2) := by decide +kernel
theorem dL_law_488 : decode cL_law 488 = .ok (.iload 8, 2) := by decide +kernel
theorem dL_law_490 : decode cL_law 490 = .ok (.iconst 0, 1) := by decide +kernel
theorem dL_law_491 : decode cL_law 491 = .ok (.invokevirtual 70, 3) := by decide +kernel
theorem dL_law_494 : decode cL_law 494 = .ok (.bipush 6, 2) := by decide +kernel
theorem dL_law_496 : decode cL_law 496 = .ok (.if_icmp .ne 7, 3) := by decide +kernel
theorem dL_law_499 : decode cL_law 499 = .ok (.iconst 0, 1) := by decide +kernel
theorem dL_law_500 : decode cL_law 500 = .ok (.goto 4, 3) := by decide +kernel
theorem dL_law_503 : decode cL_law 503 = .ok (.iconst 1, 1) := by decide +kernel
theorem dL_law_504 : decode cL_law 504 = .ok (.iadd, 1) := by decide +kernel
theorem dL_law_505 : decode cL_law 505 = .ok (.istore 13, 2) := by decide +kernel
theorem dL_law_507 : decode cL_law 507 = .ok (.aload_n 1, 1) := by decide +kernel
theorem dL_law_508 : decode cL_law 508 = .ok (.iload 9, 2) := by decide +kernel
theorem dL_law_510 : decode cL_law 510 = .ok (.iload 11, 2) := by decide +kernel
theorem dL_law_512 : decode cL_law 512 = .ok (.iload 8, 2) := by decide +kernel
theorem dL_law_514 : decode cL_law 514 = .ok (.iconst 0, 1) := by decide +kernel
theorem dL_law_515 : decode cL_law 515 = .ok (.invokevirtual 70, 3) := by decide +kernel
theorem dL_law_518 : decode cL_law 518 = .ok (.bipush 6, 2) := by decide +kernel
theorem dL_law_520 : decode cL_law 520 = .ok (.if_icmp .ne 17, 3) := by decide +kernel
theorem dL_law_523 : decode cL_law 523 = .ok (.iload 12, 2) := by decide +kernel
theorem dL_law_525 : decode cL_law 525 = .ok (.iconst 3, 1) := by decide +kernel
theorem dL_law_526 : decode cL_law 526 = .ok (.if_icmp .gt 7, 3) := by decide +kernel
theorem dL_law_529 : decode cL_law 529 = .ok (.iconst 1, 1) := by decide +kernel
theorem dL_law_530 : decode cL_law 530 = .ok (.goto 19, 3) := by decide +kernel
theorem dL_law_533 : decode cL_law 533 = .ok (.iconst 0, 1) := by decide +kernel
theorem dL_law_534 : decode cL_law 534 = .ok (.goto 15, 3) := by decide +kernel
theorem dL_law_537 : decode cL_law 537 = .ok (.iload 13, 2) := by decide +kernel
theorem dL_law_539 : decode cL_law 539 = .ok (.bipush 7, 2) := by decide +kernel
theorem dL_law_541 : decode cL_law 541 = .ok (.if_icmp .gt 7, 3) := by decide +kernel
theorem dL_law_544 : decode cL_law 544 = .ok (.iconst 1, 1) := by decide +kernel
theorem dL_law_545 : decode cL_law 545 = .ok (.goto 4, 3) := by decide +kernel
theorem dL_law_548 : decode cL_law 548 = .ok (.iconst 0, 1) := by decide +kernel
theorem dL_law_549 : decode cL_law 549 = .ok (.istore 14, 2) := by decide +kernel
theorem dL_law_551 : decode cL_law 551 = .ok (.iload 5, 2) := by decide +kernel
theorem dL_law_553 : decode cL_law 553 = .ok (.ifCond .eq 42, 3) := by decide +kernel
theorem dL_law_556 : decode cL_law 556 = .ok (.iload 14, 2) := by decide +kernel
theorem dL_law_558 : decode cL_law 558 = .ok (.ifCond .ne 33, 3) := by decide +kernel
theorem dL_law_561 : decode cL_law 561 = .ok (.aload_n 1, 1) := by decide +kernel
theorem dL_law_562 : decode cL_law 562 = .ok (.iload 9, 2) := by decide +kernel
theorem dL_law_564 : decode cL_law 564 = .ok (.iload 11, 2) := by decide +kernel
theorem dL_law_566 : decode cL_law 566 = .ok (.iload 8, 2) := by decide +kernel
theorem dL_law_568 : decode cL_law 568 = .ok (.bipush 6, 2) := by decide +kernel
theorem dL_law_570 : decode cL_law 570 = .ok (.invokevirtual 70, 3) := by decide +kernel
theorem dL_law_573 : decode cL_law 573 = .ok (.ifCond .ne 22, 3) := by decide +kernel
theorem dL_law_576 : decode cL_law 576 = .ok (.aload_n 1, 1) := by decide +kernel
theorem dL_law_577 : decode cL_law 577 = .ok (.iload 9, 2) := by decide +kernel
theorem dL_law_579 : decode cL_law 579 = .ok (.iload 11, 2) := by decide +kernel
theorem dL_law_581 : decode cL_law 581 = .ok (.iload 8, 2) := by decide +kernel
theorem dL_law_583 : decode cL_law 583 = .ok (.bipush 7, 2) := by decide +kernel
theorem dL_law_585 : decode cL_law 585 = .ok (.invokevirtual 70, 3) := by decide +kernel
theorem dL_law_588 : decode cL_law 588 = .ok (.ifCond .ne 7, 3) := by decide +kernel
theorem dL_law_591 : decode cL_law 591 = .ok (.iconst 1, 1) := by decide +kernel
theorem dL_law_592 : decode cL_law 592 = .ok (.goto 4, 3) := by decide +kernel
theorem dL_law_595 : decode cL_law 595 = .ok (.iconst 0, 1) := by decide +kernel
theorem dL_law_596 : decode cL_law 596 = .ok (.istore 5, 2) := by decide +kernel
theorem dL_law_598 : decode cL_law 598 = .ok (.iinc 11 1, 3) := by decide +kernel
theorem dL_law_601 : decode cL_law 601 = .ok (.goto (-173), 3) := by decide +kernel
theorem dL_law_604 : decode cL_law 604 = .ok (.aload_n 1, 1) := by decide +kernel
theorem dL_law_605 : decode cL_law 605 = .ok (.iload 9, 2) := by decide +kernel
theorem dL_law_607 : decode cL_law 607 = .ok (.iload 8, 2) := by decide +kernel
theorem dL_law_609 : decode cL_law 609 = .ok (.iconst 0, 1) := by decide +kernel
theorem dL_law_610 : decode cL_law 610 = .ok (.invokevirtual 49, 3) := by decide +kernel
theorem dL_law_613 : decode cL_law 613 = .ok (.aload_n 1, 1) := by decide +kernel
theorem dL_law_614 : decode cL_law 614 = .ok (.iload 9, 2) := by decide +kernel
theorem dL_law_616 : decode cL_law 616 = .ok (.iload 8, 2) := by decide +kernel
theorem dL_law_618 : decode cL_law 618 = .ok (.iconst 1, 1) := by decide +kernel
theorem dL_law_619 : decode cL_law 619 = .ok (.invokevirtual 49, 3) := by decide +kernel
theorem dL_law_622 : decode cL_law 622 = .ok (.iadd, 1) := by decide +kernel
theorem dL_law_623 : decode cL_law 623 = .ok (.aload_n 1, 1) := by decide +kernel
theorem dL_law_624 : decode cL_law 624 = .ok (.iload 9, 2) := by decide +kernel
theorem dL_law_626 : decode cL_law 626 = .ok (.iload 8, 2) := by decide +kernel
theorem dL_law_628 : decode cL_law 628 = .ok (.iconst 2, 1) := by decide +kernel
theorem dL_law_629 : decode cL_law 629 = .ok (.invokevirtual 49, 3) := by decide +kernel
theorem dL_law_632 : decode cL_law 632 = .ok (.isub, 1) := by decide +kernel
theorem dL_law_633 : decode cL_law 633 = .ok (.istore 14, 2) := by decide +kernel
theorem dL_law_635 : decode cL_law 635 = .ok (.iload 5, 2) := by decide +kernel
theorem dL_law_637 : decode cL_law 637 = .ok (.ifCond .eq 51, 3) := by decide +kernel
theorem dL_law_640 : decode cL_law 640 = .ok (.iload 9, 2) := by decide +kernel
theorem dL_law_642 : decode cL_law 642 = .ok (.iload 6, 2) := by decide +kernel
theorem dL_law_644 : decode cL_law 644 = .ok (.if_icmp .ge 17, 3) := by decide +kernel
theorem dL_law_647 : decode cL_law 647 = .ok (.aload_n 1, 1) := by decide +kernel
theorem dL_law_648 : decode cL_law 648 = .ok (.iload 9, 2) := by decide +kernel
theorem dL_law_650 : decode cL_law 650 = .ok (.iload 8, 2) := by decide +kernel
theorem dL_law_652 : decode cL_law 652 = .ok (.iconst 0, 1) := by decide +kernel
theorem dL_law_653 : decode cL_law 653 = .ok (.invokevirtual 49, 3) := by decide +kernel
theorem dL_law_656 : decode cL_law 656 = .ok (.iload 10, 2) := by decide +kernel
theorem dL_law_658 : decode cL_law 658 = .ok (.if_icmp .ne 30, 3) := by decide +kernel
theorem dL_law_661 : decode cL_law 661 = .ok (.aload_n 1, 1) := by decide +kernel
theorem dL_law_662 : decode cL_law 662 = .ok (.iload 9, 2) := by decide +kernel
theorem dL_law_664 : decode cL_law 664 = .ok (.iload 8, 2) := by decide +kernel
theorem dL_law_666 : decode cL_law 666 = .ok (.iconst 3, 1) := by decide +kernel
theorem dL_law_667 : decode cL_law 667 = .ok (.invokevirtual 49, 3) := by decide +kernel
theorem dL_law_670 : decode cL_law 670 = .ok (.iload 14, 2) := by decide +kernel
theorem dL_law_672 : decode cL_law 672 = .ok (.ifCond .ge 7, 3) := by decide +kernel
theorem dL_law_675 : decode cL_law 675 = .ok (.iconst 0, 1) := by decide +kernel
theorem dL_law_676 : decode cL_law 676 = .ok (.goto 5, 3) := by decide +kernel
theorem dL_law_679 : decode cL_law 679 = .ok (.iload 14, 2) := by decide +kernel
theorem dL_law_681 : decode cL_law 681 = .ok (.if_icmp .ne 7, 3) := by decide +kernel
theorem dL_law_684 : decode cL_law 684 = .ok (.iconst 1, 1) := by decide +kernel
theorem dL_law_685 : decode cL_law 685 = .ok (.goto 4, 3) := by decide +kernel
theorem dL_law_688 : decode cL_law 688 = .ok (.iconst 0, 1) := by decide +kernel
theorem dL_law_689 : decode cL_law 689 = .ok (.istore 5, 2) := by decide +kernel
theorem dL_law_691 : decode cL_law 691 = .ok (.aload_n 1, 1) := by decide +kernel
theorem dL_law_692 : decode cL_law 692 = .ok (.iload 9, 2) := by decide +kernel
theorem dL_law_694 : decode cL_law 694 = .ok (.iload 8, 2) := by decide +kernel
theorem dL_law_696 : decode cL_law 696 = .ok (.iconst 5, 1) := by decide +kernel
theorem dL_law_697 : decode cL_law 697 = .ok (.invokevirtual 49, 3) := by decide +kernel
theorem dL_law_700 : decode cL_law 700 = .ok (.istore 15, 2) := by decide +kernel
theorem dL_law_702 : decode cL_law 702 = .ok (.iload 5, 2) := by decide +kernel
theorem dL_law_704 : decode cL_law 704 = .ok (.ifCond .eq 66, 3) := by decide +kernel
theorem dL_law_707 : decode cL_law 707 = .ok (.iload 9, 2) := by decide +kernel
theorem dL_law_709 : decode cL_law 709 = .ok (.iload 6, 2) := by decide +kernel
theorem dL_law_711 : decode cL_law 711 = .ok (.if_icmp .ge 36, 3) := by decide +kernel
theorem dL_law_714 : decode cL_law 714 = .ok (.iload 15, 2) := by decide +kernel
theorem dL_law_716 : decode cL_law 716 = .ok (.ifCond .lt 54, 3) := by decide +kernel
theorem dL_law_719 : decode cL_law 719 = .ok (.iload 15, 2) := by decide +kernel
theorem dL_law_721 : decode cL_law 721 = .ok (.iload 6, 2) := by decide +kernel
theorem dL_law_723 : decode cL_law 723 = .ok (.if_icmp .ge 47, 3) := by decide +kernel
theorem dL_law_726 : decode cL_law 726 = .ok (.aload_n 1, 1) := by decide +kernel
theorem dL_law_727 : decode cL_law 727 = .ok (.iload 8, 2) := by decide +kernel
theorem dL_law_729 : decode cL_law 729 = .ok (.iload 6, 2) := by decide +kernel
theorem dL_law_731 : decode cL_law 731 = .ok (.iconst 1, 1) := by decide +kernel
theorem dL_law_732 : decode cL_law 732 = .ok (.isub, 1) := by decide +kernel
theorem dL_law_733 : decode cL_law 733 = .ok (.iload 15, 2) := by decide +kernel
theorem dL_law_735 : decode cL_law 735 = .ok (.isub, 1) := by decide +kernel
theorem dL_law_736 : decode cL_law 736 = .ok (.invokevirtual 73, 3) := by decide +kernel
theorem dL_law_739 : decode cL_law 739 = .ok (.iload 9, 2) := by decide +kernel
theorem dL_law_741 : decode cL_law 741 = .ok (.if_icmp .ne 29, 3) := by decide +kernel
theorem dL_law_744 : decode cL_law 744 = .ok (.goto 22, 3) := by decide +kernel
theorem dL_law_747 : decode cL_law 747 = .ok (.iload 15, 2) := by decide +kernel
theorem dL_law_749 : decode cL_law 749 = .ok (.iconst (-1), 1) := by decide +kernel
theorem dL_law_750 : decode cL_law 750 = .ok (.if_icmp .ne 20, 3) := by decide +kernel
theorem dL_law_753 : decode cL_law 753 = .ok (.aload_n 1, 1) := by decide +kernel
theorem dL_law_754 : decode cL_law 754 = .ok (.iload 8, 2) := by decide +kernel
theorem dL_law_756 : decode cL_law 756 = .ok (.iload 9, 2) := by decide +kernel
theorem dL_law_758 : decode cL_law 758 = .ok (.invokevirtual 73, 3) := by decide +kernel
theorem dL_law_761 : decode cL_law 761 = .ok (.iload 9, 2) := by decide +kernel
theorem dL_law_763 : decode cL_law 763 = .ok (.if_icmp .ne 7, 3) := by decide +kernel
theorem dL_law_766 : decode cL_law 766 = .ok (.iconst 1, 1) := by decide +kernel
theorem dL_law_767 : decode cL_law 767 = .ok (.goto 4, 3) := by decide +kernel
theorem dL_law_770 : decode cL_law 770 = .ok (.iconst 0, 1) := by decide +kernel
theorem dL_law_771 : decode cL_law 771 = .ok (.istore 5, 2) := by decide +kernel
theorem dL_law_773 : decode cL_law 773 = .ok (.iconst 0, 1) := by decide +kernel
theorem dL_law_774 : decode cL_law 774 = .ok (.istore 16, 2) := by decide +kernel
theorem dL_law_776 : decode cL_law 776 = .ok (.iload 16, 2) := by decide +kernel
theorem dL_law_778 : decode cL_law 778 = .ok (.iload 6, 2) := by decide +kernel
theorem dL_law_780 : decode cL_law 780 = .ok (.if_icmp .ge 154, 3) := by decide +kernel
theorem dL_law_783 : decode cL_law 783 = .ok (.iload 5, 2) := by decide +kernel
theorem dL_law_785 : decode cL_law 785 = .ok (.ifCond .eq 149, 3) := by decide +kernel
theorem dL_law_788 : decode cL_law 788 = .ok (.iload 9, 2) := by decide +kernel
theorem dL_law_790 : decode cL_law 790 = .ok (.iload 6, 2) := by decide +kernel
theorem dL_law_792 : decode cL_law 792 = .ok (.if_icmp .ge 142, 3) := by decide +kernel
theorem dL_law_795 : decode cL_law 795 = .ok (.aload_n 1, 1) := by decide +kernel
theorem dL_law_796 : decode cL_law 796 = .ok (.iload 16, 2) := by decide +kernel
theorem dL_law_798 : decode cL_law 798 = .ok (.iload 8, 2) := by decide +kernel
theorem dL_law_800 : decode cL_law 800 = .ok (.iconst 3, 1) := by decide +kernel
theorem dL_law_801 : decode cL_law 801 = .ok (.invokevirtual 49, 3) := by decide +kernel
theorem dL_law_804 : decode cL_law 804 = .ok (.istore 17, 2) := by decide +kernel
theorem dL_law_806 : decode cL_law 806 = .ok (.aload_n 1, 1) := by decide +kernel
theorem dL_law_807 : decode cL_law 807 = .ok (.iload 9, 2) := by decide +kernel
theorem dL_law_809 : decode cL_law 809 = .ok (.iload 8, 2) := by decide +kernel
theorem dL_law_811 : decode cL_law 811 = .ok (.iconst 3, 1) := by decide +kernel
theorem dL_law_812 : decode cL_law 812 = .ok (.invokevirtual 49, 3) := by decide +kernel
theorem dL_law_815 : decode cL_law 815 = .ok (.iload 17, 2) := by decide +kernel
theorem dL_law_817 : decode cL_law 817 = .ok (.if_icmp .gt 66, 3) := by decide +kernel
theorem dL_law_820 : decode cL_law 820 = .ok (.aload_n 1, 1) := by decide +kernel
theorem dL_law_821 : decode cL_law 821 = .ok (.iload 9, 2) := by decide +kernel
theorem dL_law_823 : decode cL_law 823 = .ok (.iload 8, 2) := by decide +kernel
theorem dL_law_825 : decode cL_law 825 = .ok (.iconst 3, 1) := by decide +kernel
theorem dL_law_826 : decode cL_law 826 = .ok (.invokevirtual 49, 3) := by decide +kernel
theorem dL_law_829 : decode cL_law 829 = .ok (.iload 17, 2) := by decide +kernel
theorem dL_law_831 : decode cL_law 831 = .ok (.if_icmp .ne 56, 3) := by decide +kernel
theorem dL_law_834 : decode cL_law 834 = .ok (.aload_n 1, 1) := by decide +kernel
theorem dL_law_835 : decode cL_law 835 = .ok (.iload 9, 2) := by decide +kernel
theorem dL_law_837 : decode cL_law 837 = .ok (.iload 8, 2) := by decide +kernel
theorem dL_law_839 : decode cL_law 839 = .ok (.iconst 0, 1) := by decide +kernel
theorem dL_law_840 : decode cL_law 840 = .ok (.invokevirtual 49, 3) := by decide +kernel
theorem dL_law_843 : decode cL_law 843 = .ok (.aload_n 1, 1) := by decide +kernel
theorem dL_law_844 : decode cL_law 844 = .ok (.iload 16, 2) := by decide +kernel
theorem dL_law_846 : decode cL_law 846 = .ok (.iload 8, 2) := by decide +kernel
theorem dL_law_848 : decode cL_law 848 = .ok (.iconst 0, 1) := by decide +kernel
theorem dL_law_849 : decode cL_law 849 = .ok (.invokevirtual 49, 3) := by decide +kernel
theorem dL_law_852 : decode cL_law 852 = .ok (.if_icmp .gt 31, 3) := by decide +kernel
theorem dL_law_855 : decode cL_law 855 = .ok (.aload_n 1, 1) := by decide +kernel
theorem dL_law_856 : decode cL_law 856 = .ok (.iload 9, 2) := by decide +kernel
theorem dL_law_858 : decode cL_law 858 = .ok (.iload 8, 2) := by decide +kernel
theorem dL_law_860 : decode cL_law 860 = .ok (.iconst 0, 1) := by decide +kernel
theorem dL_law_861 : decode cL_law 861 = .ok (.invokevirtual 49, 3) := by decide +kernel
theorem dL_law_864 : decode cL_law 864 = .ok (.aload_n 1, 1) := by decide +kernel
theorem dL_law_865 : decode cL_law 865 = .ok (.iload 16, 2) := by decide +kernel
theorem dL_law_867 : decode cL_law 867 = .ok (.iload 8, 2) := by decide +kernel
theorem dL_law_869 : decode cL_law 869 = .ok (.iconst 0, 1) := by decide +kernel
theorem dL_law_870 : decode cL_law 870 = .ok (.invokevirtual 49, 3) := by decide +kernel
theorem dL_law_873 : decode cL_law 873 = .ok (.if_icmp .ne 14, 3) := by decide +kernel
theorem dL_law_876 : decode cL_law 876 = .ok (.iload 9, 2) := by decide +kernel
theorem dL_law_878 : decode cL_law 878 = .ok (.iload 16, 2) := by decide +kernel
theorem dL_law_880 : decode cL_law 880 = .ok (.if_icmp .ge 7, 3) := by decide +kernel
theorem dL_law_883 : decode cL_law 883 = .ok (.iconst 1, 1) := by decide +kernel
theorem dL_law_884 : decode cL_law 884 = .ok (.goto 4, 3) := by decide +kernel
theorem dL_law_887 : decode cL_law 887 = .ok (.iconst 0, 1) := by decide +kernel
theorem dL_law_888 : decode cL_law 888 = .ok (.istore 18, 2) := by decide +kernel
theorem dL_law_890 : decode cL_law 890 = .ok (.iload 16, 2) := by decide +kernel
theorem dL_law_892 : decode cL_law 892 = .ok (.iload 9, 2) := by decide +kernel
theorem dL_law_894 : decode cL_law 894 = .ok (.if_icmp .eq 27, 3) := by decide +kernel
theorem dL_law_897 : decode cL_law 897 = .ok (.iload 18, 2) := by decide +kernel
theorem dL_law_899 : decode cL_law 899 = .ok (.iload 15, 2) := by decide +kernel
theorem dL_law_901 : decode cL_law 901 = .ok (.aload_n 1, 1) := by decide +kernel
theorem dL_law_902 : decode cL_law 902 = .ok (.iload 16, 2) := by decide +kernel
theorem dL_law_904 : decode cL_law 904 = .ok (.iload 8, 2) := by decide +kernel
theorem dL_law_906 : decode cL_law 906 = .ok (.iconst 5, 1) := by decide +kernel
theorem dL_law_907 : decode cL_law 907 = .ok (.invokevirtual 49, 3) := by decide +kernel
theorem dL_law_910 : decode cL_law 910 = .ok (.if_icmp .ge 7, 3) := by decide +kernel
theorem dL_law_913 : decode cL_law 913 = .ok (.iconst 1, 1) := by decide +kernel
theorem dL_law_914 : decode cL_law 914 = .ok (.goto 4, 3) := by decide +kernel
theorem dL_law_917 : decode cL_law 917 = .ok (.iconst 0, 1) := by decide +kernel
theorem dL_law_918 : decode cL_law 918 = .ok (.if_icmp .ne 7, 3) := by decide +kernel
theorem dL_law_921 : decode cL_law 921 = .ok (.iconst 1, 1) := by decide +kernel
theorem dL_law_922 : decode cL_law 922 = .ok (.goto 4, 3) := by decide +kernel
theorem dL_law_925 : decode cL_law 925 = .ok (.iconst 0, 1) := by decide +kernel
theorem dL_law_926 : decode cL_law 926 = .ok (.istore 5, 2) := by decide +kernel
theorem dL_law_928 : decode cL_law 928 = .ok (.iinc 16 1, 3) := by decide +kernel
theorem dL_law_931 : decode cL_law 931 = .ok (.goto (-155), 3) := by decide +kernel
theorem dL_law_934 : decode cL_law 934 = .ok (.iinc 9 1, 3) := by decide +kernel
theorem dL_law_937 : decode cL_law 937 = .ok (.goto (-532), 3) := by decide +kernel
theorem dL_law_940 : decode cL_law 940 = .ok (.iload 5, 2) := by decide +kernel
theorem dL_law_942 : decode cL_law 942 = .ok (.ifCond .eq 19, 3) := by decide +kernel
theorem dL_law_945 : decode cL_law 945 = .ok (.aload_n 1, 1) := by decide +kernel
theorem dL_law_946 : decode cL_law 946 = .ok (.iload 8, 2) := by decide +kernel
theorem dL_law_948 : decode cL_law 948 = .ok (.bipush 11, 2) := by decide +kernel
theorem dL_law_950 : decode cL_law 950 = .ok (.invokevirtual 73, 3) := by decide +kernel
theorem dL_law_953 : decode cL_law 953 = .ok (.iconst (-1), 1) := by decide +kernel
theorem dL_law_954 : decode cL_law 954 = .ok (.if_icmp .ne 7, 3) := by decide +kernel
theorem dL_law_957 : decode cL_law 957 = .ok (.iconst 1, 1) := by decide +kernel
theorem dL_law_958 : decode cL_law 958 = .ok (.goto 4, 3) := by decide +kernel
theorem dL_law_961 : decode cL_law 961 = .ok (.iconst 0, 1) := by decide +kernel
theorem dL_law_962 : decode cL_law 962 = .ok (.istore 5, 2) := by decide +kernel
theorem dL_law_964 : decode cL_law 964 = .ok (.iinc 8 1, 3) := by decide +kernel
theorem dL_law_967 : decode cL_law 967 = .ok (.goto (-576), 3) := by decide +kernel
theorem dL_law_970 : decode cL_law 970 = .ok (.iload 5, 2) := by decide +kernel
theorem dL_law_972 : decode cL_law 972 = .ok (.ireturn, 1) := by decide +kernel
