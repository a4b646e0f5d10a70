theorem dX3_trimmedMean_17 : decode cX3_trimmedMean 17 = .ok (.getfield 26, 3) := by decide +kernel
theorem dX3_trimmedMean_20 : decode cX3_trimmedMean 20 = .ok (.isub, 1) := by decide +kernel
theorem dX3_trimmedMean_21 : decode cX3_trimmedMean 21 = .ok (.aload_n 0, 1) := by decide +kernel
theorem dX3_trimmedMean_22 : decode cX3_trimmedMean 22 = .ok (.getfield 29, 3) := by decide +kernel
theorem dX3_trimmedMean_25 : decode cX3_trimmedMean 25 = .ok (.isub, 1) := by decide +kernel
theorem dX3_trimmedMean_26 : decode cX3_trimmedMean 26 = .ok (.i2d, 1) := by decide +kernel
theorem dX3_trimmedMean_27 : decode cX3_trimmedMean 27 = .ok (.aload_n 0, 1) := by decide +kernel
theorem dX3_trimmedMean_28 : decode cX3_trimmedMean 28 = .ok (.getfield 19, 3) := by decide +kernel
theorem dX3_trimmedMean_31 : decode cX3_trimmedMean 31 = .ok (.iconst 2, 1) := by decide +kernel
theorem dX3_trimmedMean_32 : decode cX3_trimmedMean 32 = .ok (.isub, 1) := by decide +kernel
theorem dX3_trimmedMean_33 : decode cX3_trimmedMean 33 = .ok (.i2d, 1) := by decide +kernel
theorem dX3_trimmedMean_34 : decode cX3_trimmedMean 34 = .ok (.ddiv, 1) := by decide +kernel
theorem dX3_trimmedMean_35 : decode cX3_trimmedMean 35 = .ok (.dreturn, 1) := by decide +kernel
theorem dX3_middle_0 : decode cX3_middle 0 = .ok (.aload_n 0, 1) := by decide +kernel
theorem dX3_middle_1 : decode cX3_middle 1 = .ok (.getfield 19, 3) := by decide +kernel
theorem dX3_middle_4 : decode cX3_middle 4 = .ok (.ifCond .ne 5, 3) := by decide +kernel
theorem dX3_middle_7 : decode cX3_middle 7 = .ok (.iconst 0, 1) := by decide +kernel
theorem dX3_middle_8 : decode cX3_middle 8 = .ok (.ireturn, 1) := by decide +kernel
theorem dX3_middle_9 : decode cX3_middle 9 = .ok (.aload_n 0, 1) := by decide +kernel
theorem dX3_middle_10 : decode cX3_middle 10 = .ok (.getfield 19, 3) := by decide +kernel
theorem dX3_middle_13 : decode cX3_middle 13 = .ok (.iconst 3, 1) := by decide +kernel
theorem dX3_middle_14 : decode cX3_middle 14 = .ok (.if_icmp .ge 10, 3) := by decide +kernel
theorem dX3_middle_17 : decode cX3_middle 17 = .ok (.aload_n 0, 1) := by decide +kernel
theorem dX3_middle_18 : decode cX3_middle 18 = .ok (.getfield 26, 3) := by decide +kernel
theorem dX3_middle_21 : decode cX3_middle 21 = .ok (.goto 17, 3) := by decide +kernel
theorem dX3_middle_24 : decode cX3_middle 24 = .ok (.aload_n 0, 1) := by decide +kernel
theorem dX3_middle_25 : decode cX3_middle 25 = .ok (.getfield 23, 3) := by decide +kernel
theorem dX3_middle_28 : decode cX3_middle 28 = .ok (.aload_n 0, 1) := by decide +kernel
theorem dX3_middle_29 : decode cX3_middle 29 = .ok (.getfield 26, 3) := by decide +kernel
theorem dX3_middle_32 : decode cX3_middle 32 = .ok (.isub, 1) := by decide +kernel
theorem dX3_middle_33 : decode cX3_middle 33 = .ok (.aload_n 0, 1) := by decide +kernel
theorem dX3_middle_34 : decode cX3_middle 34 = .ok (.getfield 29, 3) := by decide +kernel
theorem dX3_middle_37 : decode cX3_middle 37 = .ok (.isub, 1) := by decide +kernel
theorem dX3_middle_38 : decode cX3_middle 38 = .ok (.ireturn, 1) := by decide +kernel
theorem dX4_init_0 : decode cX4_init 0 = .ok (.aload_n 0, 1) := by decide +kernel
theorem dX4_init_1 : decode cX4_init 1 = .ok (.invokespecial 1, 3) := by decide +kernel
theorem dX4_init_4 : decode cX4_init 4 = .ok (.aload_n 0, 1) := by decide +kernel
theorem dX4_init_5 : decode cX4_init 5 = .ok (.bipush 12, 2) := by decide +kernel
theorem dX4_init_7 : decode cX4_init 7 = .ok (.anewarray 9, 3) := by decide +kernel
theorem dX4_init_10 : decode cX4_init 10 = .ok (.putfield 11, 3) := by decide +kernel
theorem dX4_init_13 : decode cX4_init 13 = .ok (.aload_n 0, 1) := by decide +kernel
theorem dX4_init_14 : decode cX4_init 14 = .ok (.iconst 3, 1) := by decide +kernel
theorem dX4_init_15 : decode cX4_init 15 = .ok (.anewarray 15, 3) := by decide +kernel
theorem dX4_init_18 : decode cX4_init 18 = .ok (.putfield 17, 3) := by decide +kernel
theorem dX4_init_21 : decode cX4_init 21 = .ok (.aload_n 0, 1) := by decide +kernel
theorem dX4_init_22 : decode cX4_init 22 = .ok (.bipush 12, 2) := by decide +kernel
theorem dX4_init_24 : decode cX4_init 24 = .ok (.newarray .int, 2) := by decide +kernel
theorem dX4_init_26 : decode cX4_init 26 = .ok (.putfield 21, 3) := by decide +kernel
theorem dX4_init_29 : decode cX4_init 29 = .ok (.aload_n 0, 1) := by decide +kernel
theorem dX4_init_30 : decode cX4_init 30 = .ok (.bipush 12, 2) := by decide +kernel
theorem dX4_init_32 : decode cX4_init 32 = .ok (.newarray .int, 2) := by decide +kernel
theorem dX4_init_34 : decode cX4_init 34 = .ok (.putfield 25, 3) := by decide +kernel
theorem dX4_init_37 : decode cX4_init 37 = .ok (.aload_n 0, 1) := by decide +kernel
theorem dX4_init_38 : decode cX4_init 38 = .ok (.iconst 0, 1) := by decide +kernel
theorem dX4_init_39 : decode cX4_init 39 = .ok (.putfield 28, 3) := by decide +kernel
theorem dX4_init_42 : decode cX4_init 42 = .ok (.aload_n 0, 1) := by decide +kernel
theorem dX4_init_43 : decode cX4_init 43 = .ok (.aconst_null, 1) := by decide +kernel
theorem dX4_init_44 : decode cX4_init 44 = .ok (.putfield 32, 3) := by decide +kernel
theorem dX4_init_47 : decode cX4_init 47 = .ok (.iconst 0, 1) := by decide +kernel
theorem dX4_init_48 : decode cX4_init 48 = .ok (.istore_n 1, 1) := by decide +kernel
theorem dX4_init_49 : decode cX4_init 49 = .ok (.iload_n 1, 1) := by decide +kernel
theorem dX4_init_50 : decode cX4_init 50 = .ok (.aload_n 0, 1) := by decide +kernel
theorem dX4_init_51 : decode cX4_init 51 = .ok (.getfield 17, 3) := by decide +kernel
theorem dX4_init_54 : decode cX4_init 54 = .ok (.arraylength, 1) := by decide +kernel
theorem dX4_init_55 : decode cX4_init 55 = .ok (.if_icmp .ge 22, 3) := by decide +kernel
theorem dX4_init_58 : decode cX4_init 58 = .ok (.aload_n 0, 1) := by decide +kernel
theorem dX4_init_59 : decode cX4_init 59 = .ok (.getfield 17, 3) := by decide +kernel
theorem dX4_init_62 : decode cX4_init 62 = .ok (.iload_n 1, 1) := by decide +kernel
theorem dX4_init_63 : decode cX4_init 63 = .ok (.new 15, 3) := by decide +kernel
theorem dX4_init_66 : decode cX4_init 66 = .ok (.dup, 1) := by decide +kernel
theorem dX4_init_67 : decode cX4_init 67 = .ok (.invokespecial 36, 3) := by decide +kernel
theorem dX4_init_70 : decode cX4_init 70 = .ok (.aastore, 1) := by decide +kernel
theorem dX4_init_71 : decode cX4_init 71 = .ok (.iinc 1 1, 3) := by decide +kernel
theorem dX4_init_74 : decode cX4_init 74 = .ok (.goto (-25), 3) := by decide +kernel
theorem dX4_init_77 : decode cX4_init 77 = .ok (.return_, 1) := by decide +kernel
theorem dX4_skater_0 : decode cX4_skater 0 = .ok (.aload_n 0, 1) := by decide +kernel
theorem dX4_skater_1 : decode cX4_skater 1 = .ok (.getfield 28, 3) := by decide +kernel
theorem dX4_skater_4 : decode cX4_skater 4 = .ok (.ifCond .lt 15, 3) := by decide +kernel
theorem dX4_skater_7 : decode cX4_skater 7 = .ok (.aload_n 0, 1) := by decide +kernel
theorem dX4_skater_8 : decode cX4_skater 8 = .ok (.getfield 28, 3) := by decide +kernel
theorem dX4_skater_11 : decode cX4_skater 11 = .ok (.aload_n 0, 1) := by decide +kernel
theorem dX4_skater_12 : decode cX4_skater 12 = .ok (.getfield 11, 3) := by decide +kernel
theorem dX4_skater_15 : decode cX4_skater 15 = .ok (.arraylength, 1) := by decide +kernel
theorem dX4_skater_16 : decode cX4_skater 16 = .ok (.if_icmp .lt 13, 3) := by decide +kernel
theorem dX4_skater_19 : decode cX4_skater 19 = .ok (.new 37, 3) := by decide +kernel
theorem dX4_skater_22 : decode cX4_skater 22 = .ok (.dup, 1) := by decide +kernel
theorem dX4_skater_23 : decode cX4_skater 23 = .ok (.ldc 39, 2) := by decide +kernel
theorem dX4_skater_25 : decode cX4_skater 25 = .ok (.invokespecial 41, 3) := by decide +kernel
theorem dX4_skater_28 : decode cX4_skater 28 = .ok (.athrow, 1) := by decide +kernel
theorem dX4_skater_29 : decode cX4_skater 29 = .ok (.aload_n 0, 1) := by decide +kernel
theorem dX4_skater_30 : decode cX4_skater 30 = .ok (.getfield 28, 3) := by decide +kernel
theorem dX4_skater_33 : decode cX4_skater 33 = .ok (.istore_n 1, 1) := by decide +kernel
theorem dX4_skater_34 : decode cX4_skater 34 = .ok (.aload_n 0, 1) := by decide +kernel
theorem dX4_skater_35 : decode cX4_skater 35 = .ok (.getfield 11, 3) := by decide +kernel
theorem dX4_skater_38 : decode cX4_skater 38 = .ok (.iload_n 1, 1) := by decide +kernel
theorem dX4_skater_39 : decode cX4_skater 39 = .ok (.new 9, 3) := by decide +kernel
theorem dX4_skater_42 : decode cX4_skater 42 = .ok (.dup, 1) := by decide +kernel
theorem dX4_skater_43 : decode cX4_skater 43 = .ok (.invokespecial 44, 3) := by decide +kernel
theorem dX4_skater_46 : decode cX4_skater 46 = .ok (.aastore, 1) := by decide +kernel
theorem dX4_skater_47 : decode cX4_skater 47 = .ok (.aload_n 0, 1) := by decide +kernel
theorem dX4_skater_48 : decode cX4_skater 48 = .ok (.iload_n 1, 1) := by decide +kernel
theorem dX4_skater_49 : decode cX4_skater 49 = .ok (.iconst 1, 1) := by decide +kernel
theorem dX4_skater_50 : decode cX4_skater 50 = .ok (.iadd, 1) := by decide +kernel
theorem dX4_skater_51 : decode cX4_skater 51 = .ok (.putfield 28, 3) := by decide +kernel
theorem dX4_skater_54 : decode cX4_skater 54 = .ok (.iload_n 1, 1) := by decide +kernel
theorem dX4_skater_55 : decode cX4_skater 55 = .ok (.ireturn, 1) := by decide +kernel
theorem dX4_begin_0 : decode cX4_begin 0 = .ok (.aload_n 0, 1) := by decide +kernel
theorem dX4_begin_1 : decode cX4_begin 1 = .ok (.iload_n 1, 1) := by decide +kernel
theorem dX4_begin_2 : decode cX4_begin 2 = .ok (.invokevirtual 45, 3) := by decide +kernel
theorem dX4_begin_5 : decode cX4_begin 5 = .ok (.astore_n 2, 1) := by decide +kernel
theorem dX4_begin_6 : decode cX4_begin 6 = .ok (.aload_n 2, 1) := by decide +kernel
theorem dX4_begin_7 : decode cX4_begin 7 = .ok (.ifnonnull 13, 3) := by decide +kernel
theorem dX4_begin_10 : decode cX4_begin 10 = .ok (.new 49, 3) := by decide +kernel
theorem dX4_begin_13 : decode cX4_begin 13 = .ok (.dup, 1) := by decide +kernel
theorem dX4_begin_14 : decode cX4_begin 14 = .ok (.ldc 51, 2) := by decide +kernel
theorem dX4_begin_16 : decode cX4_begin 16 = .ok (.invokespecial 53, 3) := by decide +kernel
theorem dX4_begin_19 : decode cX4_begin 19 = .ok (.athrow, 1) := by decide +kernel
theorem dX4_begin_20 : decode cX4_begin 20 = .ok (.aload_n 0, 1) := by decide +kernel
theorem dX4_begin_21 : decode cX4_begin 21 = .ok (.getfield 32, 3) := by decide +kernel
theorem dX4_begin_24 : decode cX4_begin 24 = .ok (.ifnonnull 10, 3) := by decide +kernel
theorem dX4_begin_27 : decode cX4_begin 27 = .ok (.aload_n 2, 1) := by decide +kernel
theorem dX4_begin_28 : decode cX4_begin 28 = .ok (.getfield 54, 3) := by decide +kernel
theorem dX4_begin_31 : decode cX4_begin 31 = .ok (.ifCond .eq 13, 3) := by decide +kernel
theorem dX4_begin_34 : decode cX4_begin 34 = .ok (.new 37, 3) := by decide +kernel
theorem dX4_begin_37 : decode cX4_begin 37 = .ok (.dup, 1) := by decide +kernel
theorem dX4_begin_38 : decode cX4_begin 38 = .ok (.ldc 58, 2) := by decide +kernel
theorem dX4_begin_40 : decode cX4_begin 40 = .ok (.invokespecial 41, 3) := by decide +kernel
theorem dX4_begin_43 : decode cX4_begin 43 = .ok (.athrow, 1) := by decide +kernel
theorem dX4_begin_44 : decode cX4_begin 44 = .ok (.aload_n 2, 1) := by decide +kernel
theorem dX4_begin_45 : decode cX4_begin 45 = .ok (.iconst 1, 1) := by decide +kernel
theorem dX4_begin_46 : decode cX4_begin 46 = .ok (.putfield 54, 3) := by decide +kernel
theorem dX4_begin_49 : decode cX4_begin 49 = .ok (.aload_n 0, 1) := by decide +kernel
theorem dX4_begin_50 : decode cX4_begin 50 = .ok (.aload_n 2, 1) := by decide +kernel
theorem dX4_begin_51 : decode cX4_begin 51 = .ok (.putfield 32, 3) := by decide +kernel
theorem dX4_begin_54 : decode cX4_begin 54 = .ok (.return_, 1) := by decide +kernel
theorem dX4_turn_0 : decode cX4_turn 0 = .ok (.iload_n 1, 1) := by decide +kernel
theorem dX4_turn_1 : decode cX4_turn 1 = .ok (.iconst 0, 1) := by decide +kernel
theorem dX4_turn_2 : decode cX4_turn 2 = .ok (.iconst 5, 1) := by decide +kernel
theorem dX4_turn_3 : decode cX4_turn 3 = .ok (.invokestatic 60, 3) := by decide +kernel
theorem dX4_turn_6 : decode cX4_turn 6 = .ok (.ifCond .ne 13, 3) := by decide +kernel
theorem dX4_turn_9 : decode cX4_turn 9 = .ok (.new 64, 3) := by decide +kernel
theorem dX4_turn_12 : decode cX4_turn 12 = .ok (.dup, 1) := by decide +kernel
theorem dX4_turn_13 : decode cX4_turn 13 = .ok (.ldc 66, 2) := by decide +kernel
theorem dX4_turn_15 : decode cX4_turn 15 = .ok (.invokespecial 68, 3) := by decide +kernel
theorem dX4_turn_18 : decode cX4_turn 18 = .ok (.athrow, 1) := by decide +kernel
theorem dX4_turn_19 : decode cX4_turn 19 = .ok (.aload_n 0, 1) := by decide +kernel
theorem dX4_turn_20 : decode cX4_turn 20 = .ok (.getfield 32, 3) := by decide +kernel
theorem dX4_turn_23 : decode cX4_turn 23 = .ok (.ifnull 13, 3) := by decide +kernel
theorem dX4_turn_26 : decode cX4_turn 26 = .ok (.aload_n 0, 1) := by decide +kernel
theorem dX4_turn_27 : decode cX4_turn 27 = .ok (.getfield 32, 3) := by decide +kernel
theorem dX4_turn_30 : decode cX4_turn 30 = .ok (.invokevirtual 69, 3) := by decide +kernel
theorem dX4_turn_33 : decode cX4_turn 33 = .ok (.ifCond .ne 13, 3) := by decide +kernel
theorem dX4_turn_36 : decode cX4_turn 36 = .ok (.new 37, 3) := by decide +kernel
theorem dX4_turn_39 : decode cX4_turn 39 = .ok (.dup, 1) := by decide +kernel
theorem dX4_turn_40 : decode cX4_turn 40 = .ok (.ldc 73, 2) := by decide +kernel
theorem dX4_turn_42 : decode cX4_turn 42 = .ok (.invokespecial 41, 3) := by decide +kernel
theorem dX4_turn_45 : decode cX4_turn 45 = .ok (.athrow, 1) := by decide +kernel
theorem dX4_turn_46 : decode cX4_turn 46 = .ok (.aload_n 0, 1) := by decide +kernel
theorem dX4_turn_47 : decode cX4_turn 47 = .ok (.getfield 32, 3) := by decide +kernel
theorem dX4_turn_50 : decode cX4_turn 50 = .ok (.iload_n 1, 1) := by decide +kernel
theorem dX4_turn_51 : decode cX4_turn 51 = .ok (.invokevirtual 75, 3) := by decide +kernel
theorem dX4_turn_54 : decode cX4_turn 54 = .ok (.ireturn, 1) := by decide +kernel
theorem dX4_jump_0 : decode cX4_jump 0 = .ok (.iload_n 1, 1) := by decide +kernel
theorem dX4_jump_1 : decode cX4_jump 1 = .ok (.iconst 0, 1) := by decide +kernel
theorem dX4_jump_2 : decode cX4_jump 2 = .ok (.iconst 5, 1) := by decide +kernel
theorem dX4_jump_3 : decode cX4_jump 3 = .ok (.invokestatic 60, 3) := by decide +kernel
theorem dX4_jump_6 : decode cX4_jump 6 = .ok (.ifCond .eq 12, 3) := by decide +kernel
theorem dX4_jump_9 : decode cX4_jump 9 = .ok (.iload_n 2, 1) := by decide +kernel
theorem dX4_jump_10 : decode cX4_jump 10 = .ok (.iconst 1, 1) := by decide +kernel
theorem dX4_jump_11 : decode cX4_jump 11 = .ok (.iconst 4, 1) := by decide +kernel
theorem dX4_jump_12 : decode cX4_jump 12 = .ok (.invokestatic 60, 3) := by decide +kernel
theorem dX4_jump_15 : decode cX4_jump 15 = .ok (.ifCond .ne 13, 3) := by decide +kernel
theorem dX4_jump_18 : decode cX4_jump 18 = .ok (.new 64, 3) := by decide +kernel
theorem dX4_jump_21 : decode cX4_jump 21 = .ok (.dup, 1) := by decide +kernel
theorem dX4_jump_22 : decode cX4_jump 22 = .ok (.ldc 79, 2) := by decide +kernel
theorem dX4_jump_24 : decode cX4_jump 24 = .ok (.invokespecial 68, 3) := by decide +kernel
theorem dX4_jump_27 : decode cX4_jump 27 = .ok (.athrow, 1) := by decide +kernel
theorem dX4_jump_28 : decode cX4_jump 28 = .ok (.aload_n 0, 1) := by decide +kernel
theorem dX4_jump_29 : decode cX4_jump 29 = .ok (.getfield 32, 3) := by decide +kernel
theorem dX4_jump_32 : decode cX4_jump 32 = .ok (.ifnull 24, 3) := by decide +kernel
theorem dX4_jump_35 : decode cX4_jump 35 = .ok (.aload_n 0, 1) := by decide +kernel
theorem dX4_jump_36 : decode cX4_jump 36 = .ok (.getfield 32, 3) := by decide +kernel
theorem dX4_jump_39 : decode cX4_jump 39 = .ok (.invokevirtual 81, 3) := by decide +kernel
theorem dX4_jump_42 : decode cX4_jump 42 = .ok (.ifCond .eq 14, 3) := by decide +kernel
theorem dX4_jump_45 : decode cX4_jump 45 = .ok (.aload_n 0, 1) := by decide +kernel
theorem dX4_jump_46 : decode cX4_jump 46 = .ok (.getfield 32, 3) := by decide +kernel
theorem dX4_jump_49 : decode cX4_jump 49 = .ok (.iload_n 1, 1) := by decide +kernel
theorem dX4_jump_50 : decode cX4_jump 50 = .ok (.invokevirtual 84, 3) := by decide +kernel
theorem dX4_jump_53 : decode cX4_jump 53 = .ok (.ifCond .ne 13, 3) := by decide +kernel
theorem dX4_jump_56 : decode cX4_jump 56 = .ok (.new 37, 3) := by decide +kernel
theorem dX4_jump_59 : decode cX4_jump 59 = .ok (.dup, 1) := by decide +kernel
theorem dX4_jump_60 : decode cX4_jump 60 = .ok (.ldc 88, 2) := by decide +kernel
theorem dX4_jump_62 : decode cX4_jump 62 = .ok (.invokespecial 41, 3) := by decide +kernel
theorem dX4_jump_65 : decode cX4_jump 65 = .ok (.athrow, 1) := by decide +kernel
theorem dX4_jump_66 : decode cX4_jump 66 = .ok (.aload_n 0, 1) := by decide +kernel
theorem dX4_jump_67 : decode cX4_jump 67 = .ok (.getfield 32, 3) := by decide +kernel
theorem dX4_jump_70 : decode cX4_jump 70 = .ok (.iload_n 1, 1) := by decide +kernel
theorem dX4_jump_71 : decode cX4_jump 71 = .ok (.iload_n 2, 1) := by decide +kernel
theorem dX4_jump_72 : decode cX4_jump 72 = .ok (.iload_n 3, 1) := by decide +kernel
theorem dX4_jump_73 : decode cX4_jump 73 = .ok (.invokevirtual 90, 3) := by decide +kernel
theorem dX4_jump_76 : decode cX4_jump 76 = .ok (.ireturn, 1) := by decide +kernel
theorem dX4_spin_0 : decode cX4_spin 0 = .ok (.iload_n 1, 1) := by decide +kernel
theorem dX4_spin_1 : decode cX4_spin 1 = .ok (.iconst 0, 1) := by decide +kernel
theorem dX4_spin_2 : decode cX4_spin 2 = .ok (.bipush 63, 2) := by decide +kernel
theorem dX4_spin_4 : decode cX4_spin 4 = .ok (.invokestatic 60, 3) := by decide +kernel
theorem dX4_spin_7 : decode cX4_spin 7 = .ok (.ifCond .eq 13, 3) := by decide +kernel
theorem dX4_spin_10 : decode cX4_spin 10 = .ok (.iload_n 2, 1) := by decide +kernel
theorem dX4_spin_11 : decode cX4_spin 11 = .ok (.iconst 1, 1) := by decide +kernel
theorem dX4_spin_12 : decode cX4_spin 12 = .ok (.bipush 20, 2) := by decide +kernel
theorem dX4_spin_14 : decode cX4_spin 14 = .ok (.invokestatic 60, 3) := by decide +kernel
theorem dX4_spin_17 : decode cX4_spin 17 = .ok (.ifCond .ne 13, 3) := by decide +kernel
theorem dX4_spin_20 : decode cX4_spin 20 = .ok (.new 64, 3) := by decide +kernel
theorem dX4_spin_23 : decode cX4_spin 23 = .ok (.dup, 1) := by decide +kernel
theorem dX4_spin_24 : decode cX4_spin 24 = .ok (.ldc 94, 2) := by decide +kernel
theorem dX4_spin_26 : decode cX4_spin 26 = .ok (.invokespecial 68, 3) := by decide +kernel
theorem dX4_spin_29 : decode cX4_spin 29 = .ok (.athrow, 1) := by decide +kernel
theorem dX4_spin_30 : decode cX4_spin 30 = .ok (.aload_n 0, 1) := by decide +kernel
theorem dX4_spin_31 : decode cX4_spin 31 = .ok (.getfield 32, 3) := by decide +kernel
theorem dX4_spin_34 : decode cX4_spin 34 = .ok (.ifnull 13, 3) := by decide +kernel
theorem dX4_spin_37 : decode cX4_spin 37 = .ok (.aload_n 0, 1) := by decide +kernel
theorem dX4_spin_38 : decode cX4_spin 38 = .ok (.getfield 32, 3) := by decide +kernel
theorem dX4_spin_41 : decode cX4_spin 41 = .ok (.invokevirtual 81, 3) := by decide +kernel
theorem dX4_spin_44 : decode cX4_spin 44 = .ok (.ifCond .ne 13, 3) := by decide +kernel
theorem dX4_spin_47 : decode cX4_spin 47 = .ok (.new 37, 3) := by decide +kernel
theorem dX4_spin_50 : decode cX4_spin 50 = .ok (.dup, 1) := by decide +kernel
theorem dX4_spin_51 : decode cX4_spin 51 = .ok (.ldc 96, 2) := by decide +kernel
theorem dX4_spin_53 : decode cX4_spin 53 = .ok (.invokespecial 41, 3) := by decide +kernel
theorem dX4_spin_56 : decode cX4_spin 56 = .ok (.athrow, 1) := by decide +kernel
theorem dX4_spin_57 : decode cX4_spin 57 = .ok (.aload_n 0, 1) := by decide +kernel
theorem dX4_spin_58 : decode cX4_spin 58 = .ok (.getfield 32, 3) := by decide +kernel
theorem dX4_spin_61 : decode cX4_spin 61 = .ok (.iload_n 1, 1) := by decide +kernel
theorem dX4_spin_62 : decode cX4_spin 62 = .ok (.iload_n 2, 1) := by decide +kernel
theorem dX4_spin_63 : decode cX4_spin 63 = .ok (.invokevirtual 98, 3) := by decide +kernel
theorem dX4_spin_66 : decode cX4_spin 66 = .ok (.ireturn, 1) := by decide +kernel
theorem dX4_end_0 : decode cX4_end 0 = .ok (.aload_n 0, 1) := by decide +kernel
theorem dX4_end_1 : decode cX4_end 1 = .ok (.getfield 32, 3) := by decide +kernel
theorem dX4_end_4 : decode cX4_end 4 = .ok (.ifnonnull 13, 3) := by decide +kernel
theorem dX4_end_7 : decode cX4_end 7 = .ok (.new 37, 3) := by decide +kernel
theorem dX4_end_10 : decode cX4_end 10 = .ok (.dup, 1) := by decide +kernel
theorem dX4_end_11 : decode cX4_end 11 = .ok (.ldc 102, 2) := by decide +kernel
theorem dX4_end_13 : decode cX4_end 13 = .ok (.invokespecial 41, 3) := by decide +kernel
theorem dX4_end_16 : decode cX4_end 16 = .ok (.athrow, 1) := by decide +kernel
theorem dX4_end_17 : decode cX4_end 17 = .ok (.aload_n 0, 1) := by decide +kernel
theorem dX4_end_18 : decode cX4_end 18 = .ok (.getfield 32, 3) := by decide +kernel
theorem dX4_end_21 : decode cX4_end 21 = .ok (.astore_n 1, 1) := by decide +kernel
theorem dX4_end_22 : decode cX4_end 22 = .ok (.aload_n 1, 1) := by decide +kernel
theorem dX4_end_23 : decode cX4_end 23 = .ok (.iconst 1, 1) := by decide +kernel
theorem dX4_end_24 : decode cX4_end 24 = .ok (.putfield 104, 3) := by decide +kernel
theorem dX4_end_27 : decode cX4_end 27 = .ok (.aload_n 0, 1) := by decide +kernel
theorem dX4_end_28 : decode cX4_end 28 = .ok (.aconst_null, 1) := by decide +kernel
theorem dX4_end_29 : decode cX4_end 29 = .ok (.putfield 32, 3) := by decide +kernel
theorem dX4_end_32 : decode cX4_end 32 = .ok (.aload_n 1, 1) := by decide +kernel
theorem dX4_end_33 : decode cX4_end 33 = .ok (.getfield 107, 3) := by decide +kernel
theorem dX4_end_36 : decode cX4_end 36 = .ok (.ireturn, 1) := by decide +kernel
theorem dX4_call_0 : decode cX4_call 0 = .ok (.aload_n 0, 1) := by decide +kernel
theorem dX4_call_1 : decode cX4_call 1 = .ok (.getfield 32, 3) := by decide +kernel
theorem dX4_call_4 : decode cX4_call 4 = .ok (.ifnonnull 7, 3) := by decide +kernel
theorem dX4_call_7 : decode cX4_call 7 = .ok (.aconst_null, 1) := by decide +kernel
theorem dX4_call_8 : decode cX4_call 8 = .ok (.goto 11, 3) := by decide +kernel
theorem dX4_call_11 : decode cX4_call 11 = .ok (.aload_n 0, 1) := by decide +kernel
theorem dX4_call_12 : decode cX4_call 12 = .ok (.getfield 32, 3) := by decide +kernel
theorem dX4_call_15 : decode cX4_call 15 = .ok (.iload_n 2, 1) := by decide +kernel
theorem dX4_call_16 : decode cX4_call 16 = .ok (.invokevirtual 110, 3) := by decide +kernel
theorem dX4_call_19 : decode cX4_call 19 = .ok (.astore 4, 2) := by decide +kernel
theorem dX4_call_21 : decode cX4_call 21 = .ok (.iload_n 1, 1) := by decide +kernel
theorem dX4_call_22 : decode cX4_call 22 = .ok (.iconst 0, 1) := by decide +kernel
theorem dX4_call_23 : decode cX4_call 23 = .ok (.iconst 2, 1) := by decide +kernel
theorem dX4_call_24 : decode cX4_call 24 = .ok (.invokestatic 60, 3) := by decide +kernel
theorem dX4_call_27 : decode cX4_call 27 = .ok (.ifCond .eq 15, 3) := by decide +kernel
theorem dX4_call_30 : decode cX4_call 30 = .ok (.aload_n 0, 1) := by decide +kernel
theorem dX4_call_31 : decode cX4_call 31 = .ok (.getfield 32, 3) := by decide +kernel
theorem dX4_call_34 : decode cX4_call 34 = .ok (.ifnull 18, 3) := by decide +kernel
theorem dX4_call_37 : decode cX4_call 37 = .ok (.aload 4, 2) := by decide +kernel
theorem dX4_call_39 : decode cX4_call 39 = .ok (.ifnonnull 13, 3) := by decide +kernel
theorem dX4_call_42 : decode cX4_call 42 = .ok (.new 49, 3) := by decide +kernel
theorem dX4_call_45 : decode cX4_call 45 = .ok (.dup, 1) := by decide +kernel
theorem dX4_call_46 : decode cX4_call 46 = .ok (.ldc 114, 2) := by decide +kernel
theorem dX4_call_48 : decode cX4_call 48 = .ok (.invokespecial 53, 3) := by decide +kernel
theorem dX4_call_51 : decode cX4_call 51 = .ok (.athrow, 1) := by decide +kernel
theorem dX4_call_52 : decode cX4_call 52 = .ok (.iload_n 3, 1) := by decide +kernel
theorem dX4_call_53 : decode cX4_call 53 = .ok (.iconst 0, 1) := by decide +kernel
theorem dX4_call_54 : decode cX4_call 54 = .ok (.iconst 4, 1) := by decide +kernel
theorem dX4_call_55 : decode cX4_call 55 = .ok (.invokestatic 60, 3) := by decide +kernel
theorem dX4_call_58 : decode cX4_call 58 = .ok (.ifCond .ne 13, 3) := by decide +kernel
theorem dX4_call_61 : decode cX4_call 61 = .ok (.new 64, 3) := by decide +kernel
theorem dX4_call_64 : decode cX4_call 64 = .ok (.dup, 1) := by decide +kernel
theorem dX4_call_65 : decode cX4_call 65 = .ok (.ldc 116, 2) := by decide +kernel
theorem dX4_call_67 : decode cX4_call 67 = .ok (.invokespecial 68, 3) := by decide +kernel
theorem dX4_call_70 : decode cX4_call 70 = .ok (.athrow, 1) := by decide +kernel
theorem dX4_call_71 : decode cX4_call 71 = .ok (.aload 4, 2) := by decide +kernel
theorem dX4_call_73 : decode cX4_call 73 = .ok (.ifnull 13, 3) := by decide +kernel
theorem dX4_call_76 : decode cX4_call 76 = .ok (.aload 4, 2) := by decide +kernel
theorem dX4_call_78 : decode cX4_call 78 = .ok (.getfield 118, 3) := by decide +kernel
theorem dX4_call_81 : decode cX4_call 81 = .ok (.bipush 6, 2) := by decide +kernel
theorem dX4_call_83 : decode cX4_call 83 = .ok (.if_icmp .ne 13, 3) := by decide +kernel
theorem dX4_call_86 : decode cX4_call 86 = .ok (.new 37, 3) := by decide +kernel
theorem dX4_call_89 : decode cX4_call 89 = .ok (.dup, 1) := by decide +kernel
theorem dX4_call_90 : decode cX4_call 90 = .ok (.ldc 123, 2) := by decide +kernel
theorem dX4_call_92 : decode cX4_call 92 = .ok (.invokespecial 41, 3) := by decide +kernel
theorem dX4_call_95 : decode cX4_call 95 = .ok (.athrow, 1) := by decide +kernel
theorem dX4_call_96 : decode cX4_call 96 = .ok (.aload 4, 2) := by decide +kernel
theorem dX4_call_98 : decode cX4_call 98 = .ok (.getfield 125, 3) := by decide +kernel
theorem dX4_call_101 : decode cX4_call 101 = .ok (.iload_n 1, 1) := by decide +kernel
theorem dX4_call_102 : decode cX4_call 102 = .ok (.iload_n 3, 1) := by decide +kernel
theorem dX4_call_103 : decode cX4_call 103 = .ok (.invokevirtual 129, 3) := by decide +kernel
theorem dX4_call_106 : decode cX4_call 106 = .ok (.aload 4, 2) := by decide +kernel
theorem dX4_call_108 : decode cX4_call 108 = .ok (.invokevirtual 135, 3) := by decide +kernel
theorem dX4_call_111 : decode cX4_call 111 = .ok (.ireturn, 1) := by decide +kernel
theorem dX4_grade_0 : decode cX4_grade 0 = .ok (.aload_n 0, 1) := by decide +kernel
theorem dX4_grade_1 : decode cX4_grade 1 = .ok (.iload_n 2, 1) := by decide +kernel
theorem dX4_grade_2 : decode cX4_grade 2 = .ok (.invokevirtual 45, 3) := by decide +kernel
theorem dX4_grade_5 : decode cX4_grade 5 = .ok (.astore 5, 2) := by decide +kernel
theorem dX4_grade_7 : decode cX4_grade 7 = .ok (.aload 5, 2) := by decide +kernel
theorem dX4_grade_9 : decode cX4_grade 9 = .ok (.ifnonnull 7, 3) := by decide +kernel
theorem dX4_grade_12 : decode cX4_grade 12 = .ok (.aconst_null, 1) := by decide +kernel
theorem dX4_grade_13 : decode cX4_grade 13 = .ok (.goto 9, 3) := by decide +kernel
theorem dX4_grade_16 : decode cX4_grade 16 = .ok (.aload 5, 2) := by decide +kernel
theorem dX4_grade_18 : decode cX4_grade 18 = .ok (.iload_n 3, 1) := by decide +kernel
theorem dX4_grade_19 : decode cX4_grade 19 = .ok (.invokevirtual 110, 3) := by decide +kernel
theorem dX4_grade_22 : decode cX4_grade 22 = .ok (.astore 6, 2) := by decide +kernel
theorem dX4_grade_24 : decode cX4_grade 24 = .ok (.iload_n 1, 1) := by decide +kernel
theorem dX4_grade_25 : decode cX4_grade 25 = .ok (.iconst 0, 1) := by decide +kernel
theorem dX4_grade_26 : decode cX4_grade 26 = .ok (.bipush 6, 2) := by decide +kernel
theorem dX4_grade_28 : decode cX4_grade 28 = .ok (.invokestatic 60, 3) := by decide +kernel
theorem dX4_grade_31 : decode cX4_grade 31 = .ok (.ifCond .eq 13, 3) := by decide +kernel
theorem dX4_grade_34 : decode cX4_grade 34 = .ok (.aload 5, 2) := by decide +kernel
theorem dX4_grade_36 : decode cX4_grade 36 = .ok (.ifnull 8, 3) := by decide +kernel
theorem dX4_grade_39 : decode cX4_grade 39 = .ok (.aload 6, 2) := by decide +kernel
theorem dX4_grade_41 : decode cX4_grade 41 = .ok (.ifnonnull 13, 3) := by decide +kernel
theorem dX4_grade_44 : decode cX4_grade 44 = .ok (.new 49, 3) := by decide +kernel
theorem dX4_grade_47 : decode cX4_grade 47 = .ok (.dup, 1) := by decide +kernel
theorem dX4_grade_48 : decode cX4_grade 48 = .ok (.ldc 139, 2) := by decide +kernel
theorem dX4_grade_50 : decode cX4_grade 50 = .ok (.invokespecial 53, 3) := by decide +kernel
theorem dX4_grade_53 : decode cX4_grade 53 = .ok (.athrow, 1) := by decide +kernel
theorem dX4_grade_54 : decode cX4_grade 54 = .ok (.iload 4, 2) := by decide +kernel
theorem dX4_grade_56 : decode cX4_grade 56 = .ok (.bipush (-5), 2) := by decide +kernel
theorem dX4_grade_58 : decode cX4_grade 58 = .ok (.iconst 5, 1) := by decide +kernel
theorem dX4_grade_59 : decode cX4_grade 59 = .ok (.invokestatic 60, 3) := by decide +kernel
theorem dX4_grade_62 : decode cX4_grade 62 = .ok (.ifCond .ne 13, 3) := by decide +kernel
theorem dX4_grade_65 : decode cX4_grade 65 = .ok (.new 64, 3) := by decide +kernel
theorem dX4_grade_68 : decode cX4_grade 68 = .ok (.dup, 1) := by decide +kernel
theorem dX4_grade_69 : decode cX4_grade 69 = .ok (.ldc 141, 2) := by decide +kernel
theorem dX4_grade_71 : decode cX4_grade 71 = .ok (.invokespecial 68, 3) := by decide +kernel
theorem dX4_grade_74 : decode cX4_grade 74 = .ok (.athrow, 1) := by decide +kernel
theorem dX4_grade_75 : decode cX4_grade 75 = .ok (.aload 5, 2) := by decide +kernel
theorem dX4_grade_77 : decode cX4_grade 77 = .ok (.getfield 104, 3) := by decide +kernel
theorem dX4_grade_80 : decode cX4_grade 80 = .ok (.ifCond .ne 13, 3) := by decide +kernel
theorem dX4_grade_83 : decode cX4_grade 83 = .ok (.new 37, 3) := by decide +kernel
theorem dX4_grade_86 : decode cX4_grade 86 = .ok (.dup, 1) := by decide +kernel
theorem dX4_grade_87 : decode cX4_grade 87 = .ok (.ldc 143, 2) := by decide +kernel
theorem dX4_grade_89 : decode cX4_grade 89 = .ok (.invokespecial 41, 3) := by decide +kernel
theorem dX4_grade_92 : decode cX4_grade 92 = .ok (.athrow, 1) := by decide +kernel
theorem dX4_grade_93 : decode cX4_grade 93 = .ok (.aload 6, 2) := by decide +kernel
theorem dX4_grade_95 : decode cX4_grade 95 = .ok (.getfield 145, 3) := by decide +kernel
theorem dX4_grade_98 : decode cX4_grade 98 = .ok (.iload_n 1, 1) := by decide +kernel
theorem dX4_grade_99 : decode cX4_grade 99 = .ok (.iload 4, 2) := by decide +kernel
theorem dX4_grade_101 : decode cX4_grade 101 = .ok (.invokevirtual 129, 3) := by decide +kernel
theorem dX4_grade_104 : decode cX4_grade 104 = .ok (.return_, 1) := by decide +kernel
theorem dX4_component_0 : decode cX4_component 0 = .ok (.aload_n 0, 1) := by decide +kernel
theorem dX4_component_1 : decode cX4_component 1 = .ok (.iload_n 2, 1) := by decide +kernel
theorem dX4_component_2 : decode cX4_component 2 = .ok (.invokevirtual 45, 3) := by decide +kernel
theorem dX4_component_5 : decode cX4_component 5 = .ok (.astore 5, 2) := by decide +kernel
theorem dX4_component_7 : decode cX4_component 7 = .ok (.aload 5, 2) := by decide +kernel
theorem dX4_component_9 : decode cX4_component 9 = .ok (.ifnonnull 7, 3) := by decide +kernel
theorem dX4_component_12 : decode cX4_component 12 = .ok (.aconst_null, 1) := by decide +kernel
theorem dX4_component_13 : decode cX4_component 13 = .ok (.goto 9, 3) := by decide +kernel
theorem dX4_component_16 : decode cX4_component 16 = .ok (.aload 5, 2) := by decide +kernel
theorem dX4_component_18 : decode cX4_component 18 = .ok (.iload_n 3, 1) := by decide +kernel
theorem dX4_component_19 : decode cX4_component 19 = .ok (.invokevirtual 148, 3) := by decide +kernel
theorem dX4_component_22 : decode cX4_component 22 = .ok (.astore 6, 2) := by decide +kernel
theorem dX4_component_24 : decode cX4_component 24 = .ok (.iload_n 1, 1) := by decide +kernel
theorem dX4_component_25 : decode cX4_component 25 = .ok (.iconst 0, 1) := by decide +kernel
theorem dX4_component_26 : decode cX4_component 26 = .ok (.bipush 6, 2) := by decide +kernel
theorem dX4_component_28 : decode cX4_component 28 = .ok (.invokestatic 60, 3) := by decide +kernel
theorem dX4_component_31 : decode cX4_component 31 = .ok (.ifCond .eq 13, 3) := by decide +kernel
theorem dX4_component_34 : decode cX4_component 34 = .ok (.aload 5, 2) := by decide +kernel
theorem dX4_component_36 : decode cX4_component 36 = .ok (.ifnull 8, 3) := by decide +kernel
theorem dX4_component_39 : decode cX4_component 39 = .ok (.aload 6, 2) := by decide +kernel
theorem dX4_component_41 : decode cX4_component 41 = .ok (.ifnonnull 13, 3) := by decide +kernel
theorem dX4_component_44 : decode cX4_component 44 = .ok (.new 49, 3) := by decide +kernel
theorem dX4_component_47 : decode cX4_component 47 = .ok (.dup, 1) := by decide +kernel
theorem dX4_component_48 : decode cX4_component 48 = .ok (.ldc 152, 2) := by decide +kernel
theorem dX4_component_50 : decode cX4_component 50 = .ok (.invokespecial 53, 3) := by decide +kernel
theorem dX4_component_53 : decode cX4_component 53 = .ok (.athrow, 1) := by decide +kernel
theorem dX4_component_54 : decode cX4_component 54 = .ok (.iload 4, 2) := by decide +kernel
theorem dX4_component_56 : decode cX4_component 56 = .ok (.iconst 0, 1) := by decide +kernel
theorem dX4_component_57 : decode cX4_component 57 = .ok (.bipush 40, 2) := by decide +kernel
theorem dX4_component_59 : decode cX4_component 59 = .ok (.invokestatic 60, 3) := by decide +kernel
theorem dX4_component_62 : decode cX4_component 62 = .ok (.ifCond .ne 13, 3) := by decide +kernel
theorem dX4_component_65 : decode cX4_component 65 = .ok (.new 64, 3) := by decide +kernel
theorem dX4_component_68 : decode cX4_component 68 = .ok (.dup, 1) := by decide +kernel
theorem dX4_component_69 : decode cX4_component 69 = .ok (.ldc 116, 2) := by decide +kernel
theorem dX4_component_71 : decode cX4_component 71 = .ok (.invokespecial 68, 3) := by decide +kernel
theorem dX4_component_74 : decode cX4_component 74 = .ok (.athrow, 1) := by decide +kernel
theorem dX4_component_75 : decode cX4_component 75 = .ok (.aload 5, 2) := by decide +kernel
theorem dX4_component_77 : decode cX4_component 77 = .ok (.getfield 104, 3) := by decide +kernel
theorem dX4_component_80 : decode cX4_component 80 = .ok (.ifCond .ne 13, 3) := by decide +kernel
theorem dX4_component_83 : decode cX4_component 83 = .ok (.new 37, 3) := by decide +kernel
theorem dX4_component_86 : decode cX4_component 86 = .ok (.dup, 1) := by decide +kernel
theorem dX4_component_87 : decode cX4_component 87 = .ok (.ldc 143, 2) := by decide +kernel
theorem dX4_component_89 : decode cX4_component 89 = .ok (.invokespecial 41, 3) := by decide +kernel
theorem dX4_component_92 : decode cX4_component 92 = .ok (.athrow, 1) := by decide +kernel
theorem dX4_component_93 : decode cX4_component 93 = .ok (.aload 6, 2) := by decide +kernel
theorem dX4_component_95 : decode cX4_component 95 = .ok (.iload_n 1, 1) := by decide +kernel
theorem dX4_component_96 : decode cX4_component 96 = .ok (.iload 4, 2) := by decide +kernel
theorem dX4_component_98 : decode cX4_component 98 = .ok (.invokevirtual 129, 3) := by decide +kernel
theorem dX4_component_101 : decode cX4_component 101 = .ok (.return_, 1) := by decide +kernel
theorem dX4_value_0 : decode cX4_value 0 = .ok (.aload_n 0, 1) := by decide +kernel
theorem dX4_value_1 : decode cX4_value 1 = .ok (.iload_n 1, 1) := by decide +kernel
theorem dX4_value_2 : decode cX4_value 2 = .ok (.invokevirtual 154, 3) := by decide +kernel
theorem dX4_value_5 : decode cX4_value 5 = .ok (.astore 5, 2) := by decide +kernel
theorem dX4_value_7 : decode cX4_value 7 = .ok (.aload 5, 2) := by decide +kernel
theorem dX4_value_9 : decode cX4_value 9 = .ok (.ifnull 23, 3) := by decide +kernel
theorem dX4_value_12 : decode cX4_value 12 = .ok (.iload_n 2, 1) := by decide +kernel
theorem dX4_value_13 : decode cX4_value 13 = .ok (.iload_n 3, 1) := by decide +kernel
theorem dX4_value_14 : decode cX4_value 14 = .ok (.invokestatic 158, 3) := by decide +kernel
theorem dX4_value_17 : decode cX4_value 17 = .ok (.ifCond .eq 15, 3) := by decide +kernel
theorem dX4_value_20 : decode cX4_value 20 = .ok (.iload 4, 2) := by decide +kernel
theorem dX4_value_22 : decode cX4_value 22 = .ok (.iconst 0, 1) := by decide +kernel
theorem dX4_value_23 : decode cX4_value 23 = .ok (.sipush 9999, 3) := by decide +kernel
theorem dX4_value_26 : decode cX4_value 26 = .ok (.invokestatic 60, 3) := by decide +kernel
theorem dX4_value_29 : decode cX4_value 29 = .ok (.ifCond .ne 13, 3) := by decide +kernel
theorem dX4_value_32 : decode cX4_value 32 = .ok (.new 64, 3) := by decide +kernel
theorem dX4_value_35 : decode cX4_value 35 = .ok (.dup, 1) := by decide +kernel
theorem dX4_value_36 : decode cX4_value 36 = .ok (.ldc 162, 2) := by decide +kernel
theorem dX4_value_38 : decode cX4_value 38 = .ok (.invokespecial 68, 3) := by decide +kernel
theorem dX4_value_41 : decode cX4_value 41 = .ok (.athrow, 1) := by decide +kernel
theorem dX4_value_42 : decode cX4_value 42 = .ok (.aload 5, 2) := by decide +kernel
theorem dX4_value_44 : decode cX4_value 44 = .ok (.iload_n 2, 1) := by decide +kernel
theorem dX4_value_45 : decode cX4_value 45 = .ok (.iload_n 3, 1) := by decide +kernel
theorem dX4_value_46 : decode cX4_value 46 = .ok (.iload 4, 2) := by decide +kernel
theorem dX4_value_48 : decode cX4_value 48 = .ok (.invokevirtual 164, 3) := by decide +kernel
theorem dX4_value_51 : decode cX4_value 51 = .ok (.ireturn, 1) := by decide +kernel
theorem dX4_element_0 : decode cX4_element 0 = .ok (.aload_n 0, 1) := by decide +kernel
theorem dX4_element_1 : decode cX4_element 1 = .ok (.iload_n 1, 1) := by decide +kernel
theorem dX4_element_2 : decode cX4_element 2 = .ok (.invokevirtual 45, 3) := by decide +kernel
theorem dX4_element_5 : decode cX4_element 5 = .ok (.astore 5, 2) := by decide +kernel
theorem dX4_element_7 : decode cX4_element 7 = .ok (.aload 5, 2) := by decide +kernel
theorem dX4_element_9 : decode cX4_element 9 = .ok (.ifnonnull 7, 3) := by decide +kernel
theorem dX4_element_12 : decode cX4_element 12 = .ok (.aconst_null, 1) := by decide +kernel
theorem dX4_element_13 : decode cX4_element 13 = .ok (.goto 9, 3) := by decide +kernel
theorem dX4_element_16 : decode cX4_element 16 = .ok (.aload 5, 2) := by decide +kernel
theorem dX4_element_18 : decode cX4_element 18 = .ok (.iload_n 2, 1) := by decide +kernel
theorem dX4_element_19 : decode cX4_element 19 = .ok (.invokevirtual 110, 3) := by decide +kernel
theorem dX4_element_22 : decode cX4_element 22 = .ok (.astore 6, 2) := by decide +kernel
theorem dX4_element_24 : decode cX4_element 24 = .ok (.aload 6, 2) := by decide +kernel
theorem dX4_element_26 : decode cX4_element 26 = .ok (.ifnonnull 13, 3) := by decide +kernel
theorem dX4_element_29 : decode cX4_element 29 = .ok (.new 49, 3) := by decide +kernel
theorem dX4_element_32 : decode cX4_element 32 = .ok (.dup, 1) := by decide +kernel
theorem dX4_element_33 : decode cX4_element 33 = .ok (.ldc 168, 2) := by decide +kernel
theorem dX4_element_35 : decode cX4_element 35 = .ok (.invokespecial 53, 3) := by decide +kernel
theorem dX4_element_38 : decode cX4_element 38 = .ok (.athrow, 1) := by decide +kernel
theorem dX4_element_39 : decode cX4_element 39 = .ok (.aload_n 0, 1) := by decide +kernel
theorem dX4_element_40 : decode cX4_element 40 = .ok (.iload_n 3, 1) := by decide +kernel
theorem dX4_element_41 : decode cX4_element 41 = .ok (.invokevirtual 154, 3) := by decide +kernel
theorem dX4_element_44 : decode cX4_element 44 = .ok (.astore 7, 2) := by decide +kernel
theorem dX4_element_46 : decode cX4_element 46 = .ok (.aload 7, 2) := by decide +kernel
theorem dX4_element_48 : decode cX4_element 48 = .ok (.ifnull 14, 3) := by decide +kernel
theorem dX4_element_51 : decode cX4_element 51 = .ok (.iload 4, 2) := by decide +kernel
theorem dX4_element_53 : decode cX4_element 53 = .ok (.iconst 0, 1) := by decide +kernel
theorem dX4_element_54 : decode cX4_element 54 = .ok (.bipush 7, 2) := by decide +kernel
theorem dX4_element_56 : decode cX4_element 56 = .ok (.invokestatic 60, 3) := by decide +kernel
theorem dX4_element_59 : decode cX4_element 59 = .ok (.ifCond .ne 13, 3) := by decide +kernel
theorem dX4_element_62 : decode cX4_element 62 = .ok (.new 64, 3) := by decide +kernel
theorem dX4_element_65 : decode cX4_element 65 = .ok (.dup, 1) := by decide +kernel
theorem dX4_element_66 : decode cX4_element 66 = .ok (.ldc 170, 2) := by decide +kernel
theorem dX4_element_68 : decode cX4_element 68 = .ok (.invokespecial 68, 3) := by decide +kernel
theorem dX4_element_71 : decode cX4_element 71 = .ok (.athrow, 1) := by decide +kernel
theorem dX4_element_72 : decode cX4_element 72 = .ok (.iload 4, 2) := by decide +kernel
theorem dX4_element_74 : decode cX4_element 74 = .ok (.tableswitch 110 0 6 #[42, 48, 54, 60, 74, 88, 102], 42) := by decide +kernel
theorem dX4_element_116 : decode cX4_element 116 = .ok (.aload 6, 2) := by decide +kernel
theorem dX4_element_118 : decode cX4_element 118 = .ok (.getfield 118, 3) := by decide +kernel
theorem dX4_element_121 : decode cX4_element 121 = .ok (.ireturn, 1) := by decide +kernel
theorem dX4_element_122 : decode cX4_element 122 = .ok (.aload 6, 2) := by decide +kernel
theorem dX4_element_124 : decode cX4_element 124 = .ok (.getfield 172, 3) := by decide +kernel
theorem dX4_element_127 : decode cX4_element 127 = .ok (.ireturn, 1) := by decide +kernel
theorem dX4_element_128 : decode cX4_element 128 = .ok (.aload 6, 2) := by decide +kernel
theorem dX4_element_130 : decode cX4_element 130 = .ok (.invokevirtual 135, 3) := by decide +kernel
theorem dX4_element_133 : decode cX4_element 133 = .ok (.ireturn, 1) := by decide +kernel
theorem dX4_element_134 : decode cX4_element 134 = .ok (.aload 6, 2) := by decide +kernel
theorem dX4_element_136 : decode cX4_element 136 = .ok (.getfield 175, 3) := by decide +kernel
theorem dX4_element_139 : decode cX4_element 139 = .ok (.ifCond .eq 7, 3) := by decide +kernel
theorem dX4_element_142 : decode cX4_element 142 = .ok (.iconst 1, 1) := by decide +kernel
theorem dX4_element_143 : decode cX4_element 143 = .ok (.goto 4, 3) := by decide +kernel
theorem dX4_element_146 : decode cX4_element 146 = .ok (.iconst 0, 1) := by decide +kernel
theorem dX4_element_147 : decode cX4_element 147 = .ok (.ireturn, 1) := by decide +kernel
theorem dX4_element_148 : decode cX4_element 148 = .ok (.aload 6, 2) := by decide +kernel
theorem dX4_element_150 : decode cX4_element 150 = .ok (.getfield 178, 3) := by decide +kernel
theorem dX4_element_153 : decode cX4_element 153 = .ok (.ifCond .eq 7, 3) := by decide +kernel
theorem dX4_element_156 : decode cX4_element 156 = .ok (.iconst 1, 1) := by decide +kernel
theorem dX4_element_157 : decode cX4_element 157 = .ok (.goto 4, 3) := by decide +kernel
theorem dX4_element_160 : decode cX4_element 160 = .ok (.iconst 0, 1) := by decide +kernel
theorem dX4_element_161 : decode cX4_element 161 = .ok (.ireturn, 1) := by decide +kernel
theorem dX4_element_162 : decode cX4_element 162 = .ok (.aload 6, 2) := by decide +kernel
theorem dX4_element_164 : decode cX4_element 164 = .ok (.getfield 181, 3) := by decide +kernel
theorem dX4_element_167 : decode cX4_element 167 = .ok (.ifCond .eq 7, 3) := by decide +kernel
theorem dX4_element_170 : decode cX4_element 170 = .ok (.iconst 1, 1) := by decide +kernel
theorem dX4_element_171 : decode cX4_element 171 = .ok (.goto 4, 3) := by decide +kernel
theorem dX4_element_174 : decode cX4_element 174 = .ok (.iconst 0, 1) := by decide +kernel
theorem dX4_element_175 : decode cX4_element 175 = .ok (.ireturn, 1) := by decide +kernel
theorem dX4_element_176 : decode cX4_element 176 = .ok (.aload 6, 2) := by decide +kernel
theorem dX4_element_178 : decode cX4_element 178 = .ok (.aload 7, 2) := by decide +kernel
theorem dX4_element_180 : decode cX4_element 180 = .ok (.invokevirtual 184, 3) := by decide +kernel
theorem dX4_element_183 : decode cX4_element 183 = .ok (.ireturn, 1) := by decide +kernel
theorem dX4_element_184 : decode cX4_element 184 = .ok (.aload 6, 2) := by decide +kernel
theorem dX4_element_186 : decode cX4_element 186 = .ok (.aload 7, 2) := by decide +kernel
theorem dX4_element_188 : decode cX4_element 188 = .ok (.invokevirtual 188, 3) := by decide +kernel
theorem dX4_element_191 : decode cX4_element 191 = .ok (.ireturn, 1) := by decide +kernel
theorem dX4_programme_0 : decode cX4_programme 0 = .ok (.aload_n 0, 1) := by decide +kernel
theorem dX4_programme_1 : decode cX4_programme 1 = .ok (.iload_n 1, 1) := by decide +kernel
theorem dX4_programme_2 : decode cX4_programme 2 = .ok (.invokevirtual 45, 3) := by decide +kernel
theorem dX4_programme_5 : decode cX4_programme 5 = .ok (.astore 4, 2) := by decide +kernel
theorem dX4_programme_7 : decode cX4_programme 7 = .ok (.aload 4, 2) := by decide +kernel
theorem dX4_programme_9 : decode cX4_programme 9 = .ok (.ifnonnull 13, 3) := by decide +kernel
theorem dX4_programme_12 : decode cX4_programme 12 = .ok (.new 49, 3) := by decide +kernel
theorem dX4_programme_15 : decode cX4_programme 15 = .ok (.dup, 1) := by decide +kernel
theorem dX4_programme_16 : decode cX4_programme 16 = .ok (.ldc 51, 2) := by decide +kernel
theorem dX4_programme_18 : decode cX4_programme 18 = .ok (.invokespecial 53, 3) := by decide +kernel
theorem dX4_programme_21 : decode cX4_programme 21 = .ok (.athrow, 1) := by decide +kernel
theorem dX4_programme_22 : decode cX4_programme 22 = .ok (.aload_n 0, 1) := by decide +kernel
theorem dX4_programme_23 : decode cX4_programme 23 = .ok (.iload_n 2, 1) := by decide +kernel
theorem dX4_programme_24 : decode cX4_programme 24 = .ok (.invokevirtual 154, 3) := by decide +kernel
theorem dX4_programme_27 : decode cX4_programme 27 = .ok (.astore 5, 2) := by decide +kernel
theorem dX4_programme_29 : decode cX4_programme 29 = .ok (.aload 5, 2) := by decide +kernel
theorem dX4_programme_31 : decode cX4_programme 31 = .ok (.ifnull 12, 3) := by decide +kernel
theorem dX4_programme_34 : decode cX4_programme 34 = .ok (.iload_n 3, 1) := by decide +kernel
theorem dX4_programme_35 : decode cX4_programme 35 = .ok (.iconst 0, 1) := by decide +kernel
theorem dX4_programme_36 : decode cX4_programme 36 = .ok (.iconst 5, 1) := by decide +kernel
theorem dX4_programme_37 : decode cX4_programme 37 = .ok (.invokestatic 60, 3) := by decide +kernel
theorem dX4_programme_40 : decode cX4_programme 40 = .ok (.ifCond .ne 13, 3) := by decide +kernel
theorem dX4_programme_43 : decode cX4_programme 43 = .ok (.new 64, 3) := by decide +kernel
theorem dX4_programme_46 : decode cX4_programme 46 = .ok (.dup, 1) := by decide +kernel
theorem dX4_programme_47 : decode cX4_programme 47 = .ok (.ldc 170, 2) := by decide +kernel
theorem dX4_programme_49 : decode cX4_programme 49 = .ok (.invokespecial 68, 3) := by decide +kernel
theorem dX4_programme_52 : decode cX4_programme 52 = .ok (.athrow, 1) := by decide +kernel
theorem dX4_programme_53 : decode cX4_programme 53 = .ok (.iload_n 3, 1) := by decide +kernel
theorem dX4_programme_54 : decode cX4_programme 54 = .ok (.tableswitch 73 0 4 #[34, 42, 48, 54, 67], 34) := by decide +kernel
theorem dX4_programme_88 : decode cX4_programme 88 = .ok (.aload 4, 2) := by decide +kernel
theorem dX4_programme_90 : decode cX4_programme 90 = .ok (.aload 5, 2) := by decide +kernel
theorem dX4_programme_92 : decode cX4_programme 92 = .ok (.invokevirtual 191, 3) := by decide +kernel
theorem dX4_programme_95 : decode cX4_programme 95 = .ok (.ireturn, 1) := by decide +kernel
theorem dX4_programme_96 : decode cX4_programme 96 = .ok (.aload 4, 2) := by decide +kernel
theorem dX4_programme_98 : decode cX4_programme 98 = .ok (.invokevirtual 194, 3) := by decide +kernel
theorem dX4_programme_101 : decode cX4_programme 101 = .ok (.ireturn, 1) := by decide +kernel
theorem dX4_programme_102 : decode cX4_programme 102 = .ok (.aload 4, 2) := by decide +kernel
theorem dX4_programme_104 : decode cX4_programme 104 = .ok (.invokevirtual 197, 3) := by decide +kernel
theorem dX4_programme_107 : decode cX4_programme 107 = .ok (.ireturn, 1) := by decide +kernel
theorem dX4_programme_108 : decode cX4_programme 108 = .ok (.aload 4, 2) := by decide +kernel
theorem dX4_programme_110 : decode cX4_programme 110 = .ok (.aload 4, 2) := by decide +kernel
theorem dX4_programme_112 : decode cX4_programme 112 = .ok (.aload 5, 2) := by decide +kernel
theorem dX4_programme_114 : decode cX4_programme 114 = .ok (.invokevirtual 191, 3) := by decide +kernel
theorem dX4_programme_117 : decode cX4_programme 117 = .ok (.invokevirtual 200, 3) := by decide +kernel
theorem dX4_programme_120 : decode cX4_programme 120 = .ok (.ireturn, 1) := by decide +kernel
theorem dX4_programme_121 : decode cX4_programme 121 = .ok (.aload 4, 2) := by decide +kernel
theorem dX4_programme_123 : decode cX4_programme 123 = .ok (.getfield 203, 3) := by decide +kernel
theorem dX4_programme_126 : decode cX4_programme 126 = .ok (.ireturn, 1) := by decide +kernel
theorem dX4_programme_127 : decode cX4_programme 127 = .ok (.aload_n 0, 1) := by decide +kernel
theorem dX4_programme_128 : decode cX4_programme 128 = .ok (.aload 5, 2) := by decide +kernel
theorem dX4_programme_130 : decode cX4_programme 130 = .ok (.invokevirtual 206, 3) := by decide +kernel
theorem dX4_programme_133 : decode cX4_programme 133 = .ok (.aload_n 0, 1) := by decide +kernel
theorem dX4_programme_134 : decode cX4_programme 134 = .ok (.iload_n 1, 1) := by decide +kernel
theorem dX4_programme_135 : decode cX4_programme 135 = .ok (.invokevirtual 210, 3) := by decide +kernel
theorem dX4_programme_138 : decode cX4_programme 138 = .ok (.ireturn, 1) := by decide +kernel
theorem dX4_starts_0 : decode cX4_starts 0 = .ok (.aload_n 0, 1) := by decide +kernel
theorem dX4_starts_1 : decode cX4_starts 1 = .ok (.iload_n 1, 1) := by decide +kernel
theorem dX4_starts_2 : decode cX4_starts 2 = .ok (.invokevirtual 154, 3) := by decide +kernel
theorem dX4_starts_5 : decode cX4_starts 5 = .ok (.astore_n 3, 1) := by decide +kernel
theorem dX4_starts_6 : decode cX4_starts 6 = .ok (.aload_n 3, 1) := by decide +kernel
theorem dX4_starts_7 : decode cX4_starts 7 = .ok (.ifnull 13, 3) := by decide +kernel
theorem dX4_starts_10 : decode cX4_starts 10 = .ok (.iload_n 2, 1) := by decide +kernel
theorem dX4_starts_11 : decode cX4_starts 11 = .ok (.iconst 0, 1) := by decide +kernel
theorem dX4_starts_12 : decode cX4_starts 12 = .ok (.bipush 11, 2) := by decide +kernel
theorem dX4_starts_14 : decode cX4_starts 14 = .ok (.invokestatic 60, 3) := by decide +kernel
theorem dX4_starts_17 : decode cX4_starts 17 = .ok (.ifCond .ne 13, 3) := by decide +kernel
theorem dX4_starts_20 : decode cX4_starts 20 = .ok (.new 64, 3) := by decide +kernel
theorem dX4_starts_23 : decode cX4_starts 23 = .ok (.dup, 1) := by decide +kernel
theorem dX4_starts_24 : decode cX4_starts 24 = .ok (.ldc 213, 2) := by decide +kernel
theorem dX4_starts_26 : decode cX4_starts 26 = .ok (.invokespecial 68, 3) := by decide +kernel
theorem dX4_starts_29 : decode cX4_starts 29 = .ok (.athrow, 1) := by decide +kernel
theorem dX4_starts_30 : decode cX4_starts 30 = .ok (.aload_n 0, 1) := by decide +kernel
theorem dX4_starts_31 : decode cX4_starts 31 = .ok (.aload_n 3, 1) := by decide +kernel
theorem dX4_starts_32 : decode cX4_starts 32 = .ok (.invokevirtual 206, 3) := by decide +kernel
theorem dX4_starts_35 : decode cX4_starts 35 = .ok (.aload_n 0, 1) := by decide +kernel
theorem dX4_starts_36 : decode cX4_starts 36 = .ok (.invokevirtual 215, 3) := by decide +kernel
theorem dX4_starts_39 : decode cX4_starts 39 = .ok (.istore 4, 2) := by decide +kernel
theorem dX4_starts_41 : decode cX4_starts 41 = .ok (.iload_n 2, 1) := by decide +kernel
theorem dX4_starts_42 : decode cX4_starts 42 = .ok (.iload 4, 2) := by decide +kernel
theorem dX4_starts_44 : decode cX4_starts 44 = .ok (.if_icmp .ge 16, 3) := by decide +kernel
theorem dX4_starts_47 : decode cX4_starts 47 = .ok (.aload_n 0, 1) := by decide +kernel
theorem dX4_starts_48 : decode cX4_starts 48 = .ok (.iload 4, 2) := by decide +kernel
theorem dX4_starts_50 : decode cX4_starts 50 = .ok (.iconst 1, 1) := by decide +kernel
theorem dX4_starts_51 : decode cX4_starts 51 = .ok (.isub, 1) := by decide +kernel
theorem dX4_starts_52 : decode cX4_starts 52 = .ok (.iload_n 2, 1) := by decide +kernel
theorem dX4_starts_53 : decode cX4_starts 53 = .ok (.isub, 1) := by decide +kernel
theorem dX4_starts_54 : decode cX4_starts 54 = .ok (.invokevirtual 218, 3) := by decide +kernel
theorem dX4_starts_57 : decode cX4_starts 57 = .ok (.goto 11, 3) := by decide +kernel
theorem dX4_starts_60 : decode cX4_starts 60 = .ok (.aload_n 0, 1) := by decide +kernel
theorem dX4_starts_61 : decode cX4_starts 61 = .ok (.iload_n 2, 1) := by decide +kernel
theorem dX4_starts_62 : decode cX4_starts 62 = .ok (.iload 4, 2) := by decide +kernel
theorem dX4_starts_64 : decode cX4_starts 64 = .ok (.isub, 1) := by decide +kernel
theorem dX4_starts_65 : decode cX4_starts 65 = .ok (.invokevirtual 221, 3) := by decide +kernel
theorem dX4_starts_68 : decode cX4_starts 68 = .ok (.ireturn, 1) := by decide +kernel
theorem dX4_addsUp_0 : decode cX4_addsUp 0 = .ok (.aload_n 0, 1) := by decide +kernel
theorem dX4_addsUp_1 : decode cX4_addsUp 1 = .ok (.getfield 11, 3) := by decide +kernel
theorem dX4_addsUp_4 : decode cX4_addsUp 4 = .ok (.astore_n 1, 1) := by decide +kernel
theorem dX4_addsUp_5 : decode cX4_addsUp 5 = .ok (.aload_n 1, 1) := by decide +kernel
theorem dX4_addsUp_6 : decode cX4_addsUp 6 = .ok (.arraylength, 1) := by decide +kernel
theorem dX4_addsUp_7 : decode cX4_addsUp 7 = .ok (.istore_n 2, 1) := by decide +kernel
theorem dX4_addsUp_8 : decode cX4_addsUp 8 = .ok (.iconst 0, 1) := by decide +kernel
theorem dX4_addsUp_9 : decode cX4_addsUp 9 = .ok (.istore_n 3, 1) := by decide +kernel
theorem dX4_addsUp_10 : decode cX4_addsUp 10 = .ok (.iload_n 3, 1) := by decide +kernel
theorem dX4_addsUp_11 : decode cX4_addsUp 11 = .ok (.iload_n 2, 1) := by decide +kernel
theorem dX4_addsUp_12 : decode cX4_addsUp 12 = .ok (.if_icmp .ge 70, 3) := by decide +kernel
theorem dX4_addsUp_15 : decode cX4_addsUp 15 = .ok (.aload_n 1, 1) := by decide +kernel
theorem dX4_addsUp_16 : decode cX4_addsUp 16 = .ok (.iload_n 3, 1) := by decide +kernel
theorem dX4_addsUp_17 : decode cX4_addsUp 17 = .ok (.aaload, 1) := by decide +kernel
theorem dX4_addsUp_18 : decode cX4_addsUp 18 = .ok (.astore 4, 2) := by decide +kernel
theorem dX4_addsUp_20 : decode cX4_addsUp 20 = .ok (.aload_n 0, 1) := by decide +kernel
theorem dX4_addsUp_21 : decode cX4_addsUp 21 = .ok (.getfield 17, 3) := by decide +kernel
theorem dX4_addsUp_24 : decode cX4_addsUp 24 = .ok (.astore 5, 2) := by decide +kernel
theorem dX4_addsUp_26 : decode cX4_addsUp 26 = .ok (.aload 5, 2) := by decide +kernel
theorem dX4_addsUp_28 : decode cX4_addsUp 28 = .ok (.arraylength, 1) := by decide +kernel
theorem dX4_addsUp_29 : decode cX4_addsUp 29 = .ok (.istore 6, 2) := by decide +kernel
theorem dX4_addsUp_31 : decode cX4_addsUp 31 = .ok (.iconst 0, 1) := by decide +kernel
theorem dX4_addsUp_32 : decode cX4_addsUp 32 = .ok (.istore 7, 2) := by decide +kernel
theorem dX4_addsUp_34 : decode cX4_addsUp 34 = .ok (.iload 7, 2) := by decide +kernel
theorem dX4_addsUp_36 : decode cX4_addsUp 36 = .ok (.iload 6, 2) := by decide +kernel
theorem dX4_addsUp_38 : decode cX4_addsUp 38 = .ok (.if_icmp .ge 38, 3) := by decide +kernel
theorem dX4_addsUp_41 : decode cX4_addsUp 41 = .ok (.aload 5, 2) := by decide +kernel
theorem dX4_addsUp_43 : decode cX4_addsUp 43 = .ok (.iload 7, 2) := by decide +kernel
theorem dX4_addsUp_45 : decode cX4_addsUp 45 = .ok (.aaload, 1) := by decide +kernel
theorem dX4_addsUp_46 : decode cX4_addsUp 46 = .ok (.astore 8, 2) := by decide +kernel
theorem dX4_addsUp_48 : decode cX4_addsUp 48 = .ok (.aload 4, 2) := by decide +kernel
theorem dX4_addsUp_50 : decode cX4_addsUp 50 = .ok (.ifnull 20, 3) := by decide +kernel
theorem dX4_addsUp_53 : decode cX4_addsUp 53 = .ok (.aload 8, 2) := by decide +kernel
theorem dX4_addsUp_55 : decode cX4_addsUp 55 = .ok (.ifnull 15, 3) := by decide +kernel
theorem dX4_addsUp_58 : decode cX4_addsUp 58 = .ok (.aload 4, 2) := by decide +kernel
theorem dX4_addsUp_60 : decode cX4_addsUp 60 = .ok (.aload 8, 2) := by decide +kernel
theorem dX4_addsUp_62 : decode cX4_addsUp 62 = .ok (.invokevirtual 236, 3) := by decide +kernel
theorem dX4_addsUp_65 : decode cX4_addsUp 65 = .ok (.ifCond .ne 5, 3) := by decide +kernel
theorem dX4_addsUp_68 : decode cX4_addsUp 68 = .ok (.iconst 0, 1) := by decide +kernel
theorem dX4_addsUp_69 : decode cX4_addsUp 69 = .ok (.ireturn, 1) := by decide +kernel
theorem dX4_addsUp_70 : decode cX4_addsUp 70 = .ok (.iinc 7 1, 3) := by decide +kernel
theorem dX4_addsUp_73 : decode cX4_addsUp 73 = .ok (.goto (-39), 3) := by decide +kernel
theorem dX4_addsUp_76 : decode cX4_addsUp 76 = .ok (.iinc 3 1, 3) := by decide +kernel
theorem dX4_addsUp_79 : decode cX4_addsUp 79 = .ok (.goto (-69), 3) := by decide +kernel
theorem dX4_addsUp_82 : decode cX4_addsUp 82 = .ok (.iconst 1, 1) := by decide +kernel
theorem dX4_addsUp_83 : decode cX4_addsUp 83 = .ok (.ireturn, 1) := by decide +kernel
theorem dX4_isIn_0 : decode cX4_isIn 0 = .ok (.iload_n 0, 1) := by decide +kernel
theorem dX4_isIn_1 : decode cX4_isIn 1 = .ok (.iload_n 1, 1) := by decide +kernel
theorem dX4_isIn_2 : decode cX4_isIn 2 = .ok (.if_icmp .lt 12, 3) := by decide +kernel
theorem dX4_isIn_5 : decode cX4_isIn 5 = .ok (.iload_n 0, 1) := by decide +kernel
theorem dX4_isIn_6 : decode cX4_isIn 6 = .ok (.iload_n 2, 1) := by decide +kernel
theorem dX4_isIn_7 : decode cX4_isIn 7 = .ok (.if_icmp .gt 7, 3) := by decide +kernel
theorem dX4_isIn_10 : decode cX4_isIn 10 = .ok (.iconst 1, 1) := by decide +kernel
theorem dX4_isIn_11 : decode cX4_isIn 11 = .ok (.goto 4, 3) := by decide +kernel
theorem dX4_isIn_14 : decode cX4_isIn 14 = .ok (.iconst 0, 1) := by decide +kernel
theorem dX4_isIn_15 : decode cX4_isIn 15 = .ok (.ireturn, 1) := by decide +kernel
theorem dX4_nearest_0 : decode cX4_nearest 0 = .ok (.dload_n 0, 1) := by decide +kernel
theorem dX4_nearest_1 : decode cX4_nearest 1 = .ok (.d2i, 1) := by decide +kernel
theorem dX4_nearest_2 : decode cX4_nearest 2 = .ok (.istore_n 2, 1) := by decide +kernel
theorem dX4_nearest_3 : decode cX4_nearest 3 = .ok (.dload_n 0, 1) := by decide +kernel
theorem dX4_nearest_4 : decode cX4_nearest 4 = .ok (.iload_n 2, 1) := by decide +kernel
theorem dX4_nearest_5 : decode cX4_nearest 5 = .ok (.i2d, 1) := by decide +kernel
theorem dX4_nearest_6 : decode cX4_nearest 6 = .ok (.dsub, 1) := by decide +kernel
theorem dX4_nearest_7 : decode cX4_nearest 7 = .ok (.dstore_n 3, 1) := by decide +kernel
theorem dX4_nearest_8 : decode cX4_nearest 8 = .ok (.iload_n 2, 1) := by decide +kernel
theorem dX4_nearest_9 : decode cX4_nearest 9 = .ok (.iconst 1, 1) := by decide +kernel
theorem dX4_nearest_10 : decode cX4_nearest 10 = .ok (.iand, 1) := by decide +kernel
theorem dX4_nearest_11 : decode cX4_nearest 11 = .ok (.ifCond .eq 7, 3) := by decide +kernel
theorem dX4_nearest_14 : decode cX4_nearest 14 = .ok (.iconst 1, 1) := by decide +kernel
theorem dX4_nearest_15 : decode cX4_nearest 15 = .ok (.goto 4, 3) := by decide +kernel
theorem dX4_nearest_18 : decode cX4_nearest 18 = .ok (.iconst 0, 1) := by decide +kernel
theorem dX4_nearest_19 : decode cX4_nearest 19 = .ok (.istore 5, 2) := by decide +kernel
theorem dX4_nearest_21 : decode cX4_nearest 21 = .ok (.dload_n 3, 1) := by decide +kernel
theorem dX4_nearest_22 : decode cX4_nearest 22 = .ok (.ldc2_w 240, 3) := by decide +kernel
theorem dX4_nearest_25 : decode cX4_nearest 25 = .ok (.dcmp .l, 1) := by decide +kernel
theorem dX4_nearest_26 : decode cX4_nearest 26 = .ok (.ifCond .gt 16, 3) := by decide +kernel
theorem dX4_nearest_29 : decode cX4_nearest 29 = .ok (.dload_n 3, 1) := by decide +kernel
theorem dX4_nearest_30 : decode cX4_nearest 30 = .ok (.ldc2_w 240, 3) := by decide +kernel
theorem dX4_nearest_33 : decode cX4_nearest 33 = .ok (.dcmp .l, 1) := by decide +kernel
theorem dX4_nearest_34 : decode cX4_nearest 34 = .ok (.ifCond .ne 12, 3) := by decide +kernel
theorem dX4_nearest_37 : decode cX4_nearest 37 = .ok (.iload 5, 2) := by decide +kernel
theorem dX4_nearest_39 : decode cX4_nearest 39 = .ok (.ifCond .eq 7, 3) := by decide +kernel
theorem dX4_nearest_42 : decode cX4_nearest 42 = .ok (.iload_n 2, 1) := by decide +kernel
theorem dX4_nearest_43 : decode cX4_nearest 43 = .ok (.iconst 1, 1) := by decide +kernel
theorem dX4_nearest_44 : decode cX4_nearest 44 = .ok (.iadd, 1) := by decide +kernel
theorem dX4_nearest_45 : decode cX4_nearest 45 = .ok (.ireturn, 1) := by decide +kernel
theorem dX4_nearest_46 : decode cX4_nearest 46 = .ok (.dload_n 3, 1) := by decide +kernel
theorem dX4_nearest_47 : decode cX4_nearest 47 = .ok (.ldc2_w 242, 3) := by decide +kernel
theorem dX4_nearest_50 : decode cX4_nearest 50 = .ok (.dcmp .g, 1) := by decide +kernel
theorem dX4_nearest_51 : decode cX4_nearest 51 = .ok (.ifCond .lt 16, 3) := by decide +kernel
theorem dX4_nearest_54 : decode cX4_nearest 54 = .ok (.dload_n 3, 1) := by decide +kernel
theorem dX4_nearest_55 : decode cX4_nearest 55 = .ok (.ldc2_w 242, 3) := by decide +kernel
theorem dX4_nearest_58 : decode cX4_nearest 58 = .ok (.dcmp .l, 1) := by decide +kernel
theorem dX4_nearest_59 : decode cX4_nearest 59 = .ok (.ifCond .ne 12, 3) := by decide +kernel
theorem dX4_nearest_62 : decode cX4_nearest 62 = .ok (.iload 5, 2) := by decide +kernel
theorem dX4_nearest_64 : decode cX4_nearest 64 = .ok (.ifCond .eq 7, 3) := by decide +kernel
theorem dX4_nearest_67 : decode cX4_nearest 67 = .ok (.iload_n 2, 1) := by decide +kernel
theorem dX4_nearest_68 : decode cX4_nearest 68 = .ok (.iconst 1, 1) := by decide +kernel
theorem dX4_nearest_69 : decode cX4_nearest 69 = .ok (.isub, 1) := by decide +kernel
theorem dX4_nearest_70 : decode cX4_nearest 70 = .ok (.ireturn, 1) := by decide +kernel
theorem dX4_nearest_71 : decode cX4_nearest 71 = .ok (.iload_n 2, 1) := by decide +kernel
theorem dX4_nearest_72 : decode cX4_nearest 72 = .ok (.ireturn, 1) := by decide +kernel
theorem dX4_programmeOf_0 : decode cX4_programmeOf 0 = .ok (.iload_n 1, 1) := by decide +kernel
theorem dX4_programmeOf_1 : decode cX4_programmeOf 1 = .ok (.ifCond .lt 21, 3) := by decide +kernel
theorem dX4_programmeOf_4 : decode cX4_programmeOf 4 = .ok (.iload_n 1, 1) := by decide +kernel
theorem dX4_programmeOf_5 : decode cX4_programmeOf 5 = .ok (.aload_n 0, 1) := by decide +kernel
theorem dX4_programmeOf_6 : decode cX4_programmeOf 6 = .ok (.getfield 11, 3) := by decide +kernel
theorem dX4_programmeOf_9 : decode cX4_programmeOf 9 = .ok (.arraylength, 1) := by decide +kernel
theorem dX4_programmeOf_10 : decode cX4_programmeOf 10 = .ok (.if_icmp .ge 12, 3) := by decide +kernel
theorem dX4_programmeOf_13 : decode cX4_programmeOf 13 = .ok (.aload_n 0, 1) := by decide +kernel
theorem dX4_programmeOf_14 : decode cX4_programmeOf 14 = .ok (.getfield 11, 3) := by decide +kernel
theorem dX4_programmeOf_17 : decode cX4_programmeOf 17 = .ok (.iload_n 1, 1) := by decide +kernel
theorem dX4_programmeOf_18 : decode cX4_programmeOf 18 = .ok (.aaload, 1) := by decide +kernel
theorem dX4_programmeOf_19 : decode cX4_programmeOf 19 = .ok (.goto 4, 3) := by decide +kernel
theorem dX4_programmeOf_22 : decode cX4_programmeOf 22 = .ok (.aconst_null, 1) := by decide +kernel
theorem dX4_programmeOf_23 : decode cX4_programmeOf 23 = .ok (.areturn, 1) := by decide +kernel
theorem dX4_editionAt_0 : decode cX4_editionAt 0 = .ok (.iload_n 1, 1) := by decide +kernel
theorem dX4_editionAt_1 : decode cX4_editionAt 1 = .ok (.ifCond .lt 21, 3) := by decide +kernel
theorem dX4_editionAt_4 : decode cX4_editionAt 4 = .ok (.iload_n 1, 1) := by decide +kernel
theorem dX4_editionAt_5 : decode cX4_editionAt 5 = .ok (.aload_n 0, 1) := by decide +kernel
theorem dX4_editionAt_6 : decode cX4_editionAt 6 = .ok (.getfield 17, 3) := by decide +kernel
theorem dX4_editionAt_9 : decode cX4_editionAt 9 = .ok (.arraylength, 1) := by decide +kernel
theorem dX4_editionAt_10 : decode cX4_editionAt 10 = .ok (.if_icmp .ge 12, 3) := by decide +kernel
theorem dX4_editionAt_13 : decode cX4_editionAt 13 = .ok (.aload_n 0, 1) := by decide +kernel
theorem dX4_editionAt_14 : decode cX4_editionAt 14 = .ok (.getfield 17, 3) := by decide +kernel
theorem dX4_editionAt_17 : decode cX4_editionAt 17 = .ok (.iload_n 1, 1) := by decide +kernel
theorem dX4_editionAt_18 : decode cX4_editionAt 18 = .ok (.aaload, 1) := by decide +kernel
theorem dX4_editionAt_19 : decode cX4_editionAt 19 = .ok (.goto 4, 3) := by decide +kernel
theorem dX4_editionAt_22 : decode cX4_editionAt 22 = .ok (.aconst_null, 1) := by decide +kernel
theorem dX4_editionAt_23 : decode cX4_editionAt 23 = .ok (.areturn, 1) := by decide +kernel
theorem dX4_fillRanking_0 : decode cX4_fillRanking 0 = .ok (.iconst 0, 1) := by decide +kernel
theorem dX4_fillRanking_1 : decode cX4_fillRanking 1 = .ok (.istore_n 2, 1) := by decide +kernel
theorem dX4_fillRanking_2 : decode cX4_fillRanking 2 = .ok (.iload_n 2, 1) := by decide +kernel
theorem dX4_fillRanking_3 : decode cX4_fillRanking 3 = .ok (.aload_n 0, 1) := by decide +kernel
theorem dX4_fillRanking_4 : decode cX4_fillRanking 4 = .ok (.getfield 21, 3) := by decide +kernel
theorem dX4_fillRanking_7 : decode cX4_fillRanking 7 = .ok (.arraylength, 1) := by decide +kernel
theorem dX4_fillRanking_8 : decode cX4_fillRanking 8 = .ok (.if_icmp .ge 79, 3) := by decide +kernel
theorem dX4_fillRanking_11 : decode cX4_fillRanking 11 = .ok (.iload_n 2, 1) := by decide +kernel
theorem dX4_fillRanking_12 : decode cX4_fillRanking 12 = .ok (.aload_n 0, 1) := by decide +kernel
theorem dX4_fillRanking_13 : decode cX4_fillRanking 13 = .ok (.getfield 25, 3) := by decide +kernel
theorem dX4_fillRanking_16 : decode cX4_fillRanking 16 = .ok (.arraylength, 1) := by decide +kernel
theorem dX4_fillRanking_17 : decode cX4_fillRanking 17 = .ok (.if_icmp .ge 70, 3) := by decide +kernel
theorem dX4_fillRanking_20 : decode cX4_fillRanking 20 = .ok (.aload_n 0, 1) := by decide +kernel
theorem dX4_fillRanking_21 : decode cX4_fillRanking 21 = .ok (.iload_n 2, 1) := by decide +kernel
theorem dX4_fillRanking_22 : decode cX4_fillRanking 22 = .ok (.invokevirtual 45, 3) := by decide +kernel
theorem dX4_fillRanking_25 : decode cX4_fillRanking 25 = .ok (.astore_n 3, 1) := by decide +kernel
theorem dX4_fillRanking_26 : decode cX4_fillRanking 26 = .ok (.aload_n 3, 1) := by decide +kernel
theorem dX4_fillRanking_27 : decode cX4_fillRanking 27 = .ok (.ifnull 40, 3) := by decide +kernel
theorem dX4_fillRanking_30 : decode cX4_fillRanking 30 = .ok (.aload_n 3, 1) := by decide +kernel
theorem dX4_fillRanking_31 : decode cX4_fillRanking 31 = .ok (.getfield 104, 3) := by decide +kernel
theorem dX4_fillRanking_34 : decode cX4_fillRanking 34 = .ok (.ifCond .eq 33, 3) := by decide +kernel
theorem dX4_fillRanking_37 : decode cX4_fillRanking 37 = .ok (.aload_n 0, 1) := by decide +kernel
theorem dX4_fillRanking_38 : decode cX4_fillRanking 38 = .ok (.getfield 25, 3) := by decide +kernel
theorem dX4_fillRanking_41 : decode cX4_fillRanking 41 = .ok (.iload_n 2, 1) := by decide +kernel
theorem dX4_fillRanking_42 : decode cX4_fillRanking 42 = .ok (.aload_n 3, 1) := by decide +kernel
theorem dX4_fillRanking_43 : decode cX4_fillRanking 43 = .ok (.aload_n 1, 1) := by decide +kernel
theorem dX4_fillRanking_44 : decode cX4_fillRanking 44 = .ok (.invokevirtual 191, 3) := by decide +kernel
theorem dX4_fillRanking_47 : decode cX4_fillRanking 47 = .ok (.iastore, 1) := by decide +kernel
theorem dX4_fillRanking_48 : decode cX4_fillRanking 48 = .ok (.aload_n 0, 1) := by decide +kernel
theorem dX4_fillRanking_49 : decode cX4_fillRanking 49 = .ok (.getfield 21, 3) := by decide +kernel
theorem dX4_fillRanking_52 : decode cX4_fillRanking 52 = .ok (.iload_n 2, 1) := by decide +kernel
theorem dX4_fillRanking_53 : decode cX4_fillRanking 53 = .ok (.aload_n 3, 1) := by decide +kernel
theorem dX4_fillRanking_54 : decode cX4_fillRanking 54 = .ok (.aload_n 0, 1) := by decide +kernel
theorem dX4_fillRanking_55 : decode cX4_fillRanking 55 = .ok (.getfield 25, 3) := by decide +kernel
theorem dX4_fillRanking_58 : decode cX4_fillRanking 58 = .ok (.iload_n 2, 1) := by decide +kernel
theorem dX4_fillRanking_59 : decode cX4_fillRanking 59 = .ok (.iaload, 1) := by decide +kernel
theorem dX4_fillRanking_60 : decode cX4_fillRanking 60 = .ok (.invokevirtual 200, 3) := by decide +kernel
theorem dX4_fillRanking_63 : decode cX4_fillRanking 63 = .ok (.iastore, 1) := by decide +kernel
theorem dX4_fillRanking_64 : decode cX4_fillRanking 64 = .ok (.goto 17, 3) := by decide +kernel
theorem dX4_fillRanking_67 : decode cX4_fillRanking 67 = .ok (.aload_n 0, 1) := by decide +kernel
theorem dX4_fillRanking_68 : decode cX4_fillRanking 68 = .ok (.getfield 21, 3) := by decide +kernel
theorem dX4_fillRanking_71 : decode cX4_fillRanking 71 = .ok (.iload_n 2, 1) := by decide +kernel
theorem dX4_fillRanking_72 : decode cX4_fillRanking 72 = .ok (.iconst (-1), 1) := by decide +kernel
theorem dX4_fillRanking_73 : decode cX4_fillRanking 73 = .ok (.iastore, 1) := by decide +kernel
theorem dX4_fillRanking_74 : decode cX4_fillRanking 74 = .ok (.aload_n 0, 1) := by decide +kernel
theorem dX4_fillRanking_75 : decode cX4_fillRanking 75 = .ok (.getfield 25, 3) := by decide +kernel
theorem dX4_fillRanking_78 : decode cX4_fillRanking 78 = .ok (.iload_n 2, 1) := by decide +kernel
theorem dX4_fillRanking_79 : decode cX4_fillRanking 79 = .ok (.iconst 0, 1) := by decide +kernel
theorem dX4_fillRanking_80 : decode cX4_fillRanking 80 = .ok (.iastore, 1) := by decide +kernel
theorem dX4_fillRanking_81 : decode cX4_fillRanking 81 = .ok (.iinc 2 1, 3) := by decide +kernel
theorem dX4_fillRanking_84 : decode cX4_fillRanking 84 = .ok (.goto (-82), 3) := by decide +kernel
theorem dX4_fillRanking_87 : decode cX4_fillRanking 87 = .ok (.return_, 1) := by decide +kernel
theorem dX4_isRankPlace_0 : decode cX4_isRankPlace 0 = .ok (.iload_n 1, 1) := by decide +kernel
theorem dX4_isRankPlace_1 : decode cX4_isRankPlace 1 = .ok (.ifCond .lt 25, 3) := by decide +kernel
theorem dX4_isRankPlace_4 : decode cX4_isRankPlace 4 = .ok (.iload_n 1, 1) := by decide +kernel
theorem dX4_isRankPlace_5 : decode cX4_isRankPlace 5 = .ok (.aload_n 0, 1) := by decide +kernel
theorem dX4_isRankPlace_6 : decode cX4_isRankPlace 6 = .ok (.getfield 21, 3) := by decide +kernel
theorem dX4_isRankPlace_9 : decode cX4_isRankPlace 9 = .ok (.arraylength, 1) := by decide +kernel
theorem dX4_isRankPlace_10 : decode cX4_isRankPlace 10 = .ok (.if_icmp .ge 16, 3) := by decide +kernel
theorem dX4_isRankPlace_13 : decode cX4_isRankPlace 13 = .ok (.iload_n 1, 1) := by decide +kernel
theorem dX4_isRankPlace_14 : decode cX4_isRankPlace 14 = .ok (.aload_n 0, 1) := by decide +kernel
theorem dX4_isRankPlace_15 : decode cX4_isRankPlace 15 = .ok (.getfield 25, 3) := by decide +kernel
theorem dX4_isRankPlace_18 : decode cX4_isRankPlace 18 = .ok (.arraylength, 1) := by decide +kernel
theorem dX4_isRankPlace_19 : decode cX4_isRankPlace 19 = .ok (.if_icmp .ge 7, 3) := by decide +kernel
theorem dX4_isRankPlace_22 : decode cX4_isRankPlace 22 = .ok (.iconst 1, 1) := by decide +kernel
theorem dX4_isRankPlace_23 : decode cX4_isRankPlace 23 = .ok (.goto 4, 3) := by decide +kernel
theorem dX4_isRankPlace_26 : decode cX4_isRankPlace 26 = .ok (.iconst 0, 1) := by decide +kernel
theorem dX4_isRankPlace_27 : decode cX4_isRankPlace 27 = .ok (.ireturn, 1) := by decide +kernel
theorem dX4_isRanked_0 : decode cX4_isRanked 0 = .ok (.aload_n 0, 1) := by decide +kernel
theorem dX4_isRanked_1 : decode cX4_isRanked 1 = .ok (.iload_n 1, 1) := by decide +kernel
theorem dX4_isRanked_2 : decode cX4_isRanked 2 = .ok (.invokevirtual 244, 3) := by decide +kernel
theorem dX4_isRanked_5 : decode cX4_isRanked 5 = .ok (.ifCond .eq 17, 3) := by decide +kernel
theorem dX4_isRanked_8 : decode cX4_isRanked 8 = .ok (.aload_n 0, 1) := by decide +kernel
theorem dX4_isRanked_9 : decode cX4_isRanked 9 = .ok (.getfield 21, 3) := by decide +kernel
theorem dX4_isRanked_12 : decode cX4_isRanked 12 = .ok (.iload_n 1, 1) := by decide +kernel
theorem dX4_isRanked_13 : decode cX4_isRanked 13 = .ok (.iaload, 1) := by decide +kernel
theorem dX4_isRanked_14 : decode cX4_isRanked 14 = .ok (.iconst (-1), 1) := by decide +kernel
theorem dX4_isRanked_15 : decode cX4_isRanked 15 = .ok (.if_icmp .eq 7, 3) := by decide +kernel
theorem dX4_isRanked_18 : decode cX4_isRanked 18 = .ok (.iconst 1, 1) := by decide +kernel
theorem dX4_isRanked_19 : decode cX4_isRanked 19 = .ok (.goto 4, 3) := by decide +kernel
theorem dX4_isRanked_22 : decode cX4_isRanked 22 = .ok (.iconst 0, 1) := by decide +kernel
theorem dX4_isRanked_23 : decode cX4_isRanked 23 = .ok (.ireturn, 1) := by decide +kernel
theorem dX4_isAhead_0 : decode cX4_isAhead 0 = .ok (.aload_n 0, 1) := by decide +kernel
theorem dX4_isAhead_1 : decode cX4_isAhead 1 = .ok (.iload_n 1, 1) := by decide +kernel
theorem dX4_isAhead_2 : decode cX4_isAhead 2 = .ok (.invokevirtual 247, 3) := by decide +kernel
theorem dX4_isAhead_5 : decode cX4_isAhead 5 = .ok (.ifCond .eq 11, 3) := by decide +kernel
theorem dX4_isAhead_8 : decode cX4_isAhead 8 = .ok (.aload_n 0, 1) := by decide +kernel
theorem dX4_isAhead_9 : decode cX4_isAhead 9 = .ok (.iload_n 2, 1) := by decide +kernel
theorem dX4_isAhead_10 : decode cX4_isAhead 10 = .ok (.invokevirtual 247, 3) := by decide +kernel
theorem dX4_isAhead_13 : decode cX4_isAhead 13 = .ok (.ifCond .ne 5, 3) := by decide +kernel
theorem dX4_isAhead_16 : decode cX4_isAhead 16 = .ok (.iconst 0, 1) := by decide +kernel
theorem dX4_isAhead_17 : decode cX4_isAhead 17 = .ok (.ireturn, 1) := by decide +kernel
theorem dX4_isAhead_18 : decode cX4_isAhead 18 = .ok (.aload_n 0, 1) := by decide +kernel
theorem dX4_isAhead_19 : decode cX4_isAhead 19 = .ok (.getfield 21, 3) := by decide +kernel
theorem dX4_isAhead_22 : decode cX4_isAhead 22 = .ok (.iload_n 1, 1) := by decide +kernel
theorem dX4_isAhead_23 : decode cX4_isAhead 23 = .ok (.iaload, 1) := by decide +kernel
theorem dX4_isAhead_24 : decode cX4_isAhead 24 = .ok (.aload_n 0, 1) := by decide +kernel
theorem dX4_isAhead_25 : decode cX4_isAhead 25 = .ok (.getfield 21, 3) := by decide +kernel
theorem dX4_isAhead_28 : decode cX4_isAhead 28 = .ok (.iload_n 2, 1) := by decide +kernel
theorem dX4_isAhead_29 : decode cX4_isAhead 29 = .ok (.iaload, 1) := by decide +kernel
theorem dX4_isAhead_30 : decode cX4_isAhead 30 = .ok (.if_icmp .eq 24, 3) := by decide +kernel
theorem dX4_isAhead_33 : decode cX4_isAhead 33 = .ok (.aload_n 0, 1) := by decide +kernel
theorem dX4_isAhead_34 : decode cX4_isAhead 34 = .ok (.getfield 21, 3) := by decide +kernel
theorem dX4_isAhead_37 : decode cX4_isAhead 37 = .ok (.iload_n 1, 1) := by decide +kernel
theorem dX4_isAhead_38 : decode cX4_isAhead 38 = .ok (.iaload, 1) := by decide +kernel
theorem dX4_isAhead_39 : decode cX4_isAhead 39 = .ok (.aload_n 0, 1) := by decide +kernel
theorem dX4_isAhead_40 : decode cX4_isAhead 40 = .ok (.getfield 21, 3) := by decide +kernel
theorem dX4_isAhead_43 : decode cX4_isAhead 43 = .ok (.iload_n 2, 1) := by decide +kernel
theorem dX4_isAhead_44 : decode cX4_isAhead 44 = .ok (.iaload, 1) := by decide +kernel
theorem dX4_isAhead_45 : decode cX4_isAhead 45 = .ok (.if_icmp .le 7, 3) := by decide +kernel
theorem dX4_isAhead_48 : decode cX4_isAhead 48 = .ok (.iconst 1, 1) := by decide +kernel
theorem dX4_isAhead_49 : decode cX4_isAhead 49 = .ok (.goto 4, 3) := by decide +kernel
theorem dX4_isAhead_52 : decode cX4_isAhead 52 = .ok (.iconst 0, 1) := by decide +kernel
theorem dX4_isAhead_53 : decode cX4_isAhead 53 = .ok (.ireturn, 1) := by decide +kernel
theorem dX4_isAhead_54 : decode cX4_isAhead 54 = .ok (.aload_n 0, 1) := by decide +kernel
theorem dX4_isAhead_55 : decode cX4_isAhead 55 = .ok (.getfield 25, 3) := by decide +kernel
theorem dX4_isAhead_58 : decode cX4_isAhead 58 = .ok (.iload_n 1, 1) := by decide +kernel
theorem dX4_isAhead_59 : decode cX4_isAhead 59 = .ok (.iaload, 1) := by decide +kernel
theorem dX4_isAhead_60 : decode cX4_isAhead 60 = .ok (.aload_n 0, 1) := by decide +kernel
theorem dX4_isAhead_61 : decode cX4_isAhead 61 = .ok (.getfield 25, 3) := by decide +kernel
theorem dX4_isAhead_64 : decode cX4_isAhead 64 = .ok (.iload_n 2, 1) := by decide +kernel
theorem dX4_isAhead_65 : decode cX4_isAhead 65 = .ok (.iaload, 1) := by decide +kernel
theorem dX4_isAhead_66 : decode cX4_isAhead 66 = .ok (.if_icmp .eq 24, 3) := by decide +kernel
theorem dX4_isAhead_69 : decode cX4_isAhead 69 = .ok (.aload_n 0, 1) := by decide +kernel
theorem dX4_isAhead_70 : decode cX4_isAhead 70 = .ok (.getfield 25, 3) := by decide +kernel
theorem dX4_isAhead_73 : decode cX4_isAhead 73 = .ok (.iload_n 1, 1) := by decide +kernel
theorem dX4_isAhead_74 : decode cX4_isAhead 74 = .ok (.iaload, 1) := by decide +kernel
theorem dX4_isAhead_75 : decode cX4_isAhead 75 = .ok (.aload_n 0, 1) := by decide +kernel
theorem dX4_isAhead_76 : decode cX4_isAhead 76 = .ok (.getfield 25, 3) := by decide +kernel
theorem dX4_isAhead_79 : decode cX4_isAhead 79 = .ok (.iload_n 2, 1) := by decide +kernel
theorem dX4_isAhead_80 : decode cX4_isAhead 80 = .ok (.iaload, 1) := by decide +kernel
theorem dX4_isAhead_81 : decode cX4_isAhead 81 = .ok (.if_icmp .le 7, 3) := by decide +kernel
theorem dX4_isAhead_84 : decode cX4_isAhead 84 = .ok (.iconst 1, 1) := by decide +kernel
theorem dX4_isAhead_85 : decode cX4_isAhead 85 = .ok (.goto 4, 3) := by decide +kernel
theorem dX4_isAhead_88 : decode cX4_isAhead 88 = .ok (.iconst 0, 1) := by decide +kernel
theorem dX4_isAhead_89 : decode cX4_isAhead 89 = .ok (.ireturn, 1) := by decide +kernel
theorem dX4_isAhead_90 : decode cX4_isAhead 90 = .ok (.iload_n 1, 1) := by decide +kernel
theorem dX4_isAhead_91 : decode cX4_isAhead 91 = .ok (.iload_n 2, 1) := by decide +kernel
theorem dX4_isAhead_92 : decode cX4_isAhead 92 = .ok (.if_icmp .ge 7, 3) := by decide +kernel
theorem dX4_isAhead_95 : decode cX4_isAhead 95 = .ok (.iconst 1, 1) := by decide +kernel
theorem dX4_isAhead_96 : decode cX4_isAhead 96 = .ok (.goto 4, 3) := by decide +kernel
theorem dX4_isAhead_99 : decode cX4_isAhead 99 = .ok (.iconst 0, 1) := by decide +kernel
theorem dX4_isAhead_100 : decode cX4_isAhead 100 = .ok (.ireturn, 1) := by decide +kernel
theorem dX4_rankOf_0 : decode cX4_rankOf 0 = .ok (.aload_n 0, 1) := by decide +kernel
theorem dX4_rankOf_1 : decode cX4_rankOf 1 = .ok (.iload_n 1, 1) := by decide +kernel
theorem dX4_rankOf_2 : decode cX4_rankOf 2 = .ok (.invokevirtual 247, 3) := by decide +kernel
theorem dX4_rankOf_5 : decode cX4_rankOf 5 = .ok (.ifCond .ne 5, 3) := by decide +kernel
theorem dX4_rankOf_8 : decode cX4_rankOf 8 = .ok (.iconst (-1), 1) := by decide +kernel
theorem dX4_rankOf_9 : decode cX4_rankOf 9 = .ok (.ireturn, 1) := by decide +kernel
theorem dX4_rankOf_10 : decode cX4_rankOf 10 = .ok (.iconst 0, 1) := by decide +kernel
theorem dX4_rankOf_11 : decode cX4_rankOf 11 = .ok (.istore_n 2, 1) := by decide +kernel
theorem dX4_rankOf_12 : decode cX4_rankOf 12 = .ok (.iconst 0, 1) := by decide +kernel
theorem dX4_rankOf_13 : decode cX4_rankOf 13 = .ok (.istore_n 3, 1) := by decide +kernel
theorem dX4_rankOf_14 : decode cX4_rankOf 14 = .ok (.iload_n 3, 1) := by decide +kernel
theorem dX4_rankOf_15 : decode cX4_rankOf 15 = .ok (.bipush 12, 2) := by decide +kernel
theorem dX4_rankOf_17 : decode cX4_rankOf 17 = .ok (.if_icmp .ge 21, 3) := by decide +kernel
theorem dX4_rankOf_20 : decode cX4_rankOf 20 = .ok (.aload_n 0, 1) := by decide +kernel
theorem dX4_rankOf_21 : decode cX4_rankOf 21 = .ok (.iload_n 3, 1) := by decide +kernel
theorem dX4_rankOf_22 : decode cX4_rankOf 22 = .ok (.iload_n 1, 1) := by decide +kernel
