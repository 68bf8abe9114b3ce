theorem dX0_init_0 : decode cX0_init 0 = .ok (.aload_n 0, 1) := by decide +kernel
theorem dX0_init_1 : decode cX0_init 1 = .ok (.invokespecial 1, 3) := by decide +kernel
theorem dX0_init_4 : decode cX0_init 4 = .ok (.aload_n 0, 1) := by decide +kernel
theorem dX0_init_5 : decode cX0_init 5 = .ok (.new 7, 3) := by decide +kernel
theorem dX0_init_8 : decode cX0_init 8 = .ok (.dup, 1) := by decide +kernel
theorem dX0_init_9 : decode cX0_init 9 = .ok (.invokespecial 9, 3) := by decide +kernel
theorem dX0_init_12 : decode cX0_init 12 = .ok (.putfield 10, 3) := by decide +kernel
theorem dX0_init_15 : decode cX0_init 15 = .ok (.aload_n 0, 1) := by decide +kernel
theorem dX0_init_16 : decode cX0_init 16 = .ok (.new 16, 3) := by decide +kernel
theorem dX0_init_19 : decode cX0_init 19 = .ok (.dup, 1) := by decide +kernel
theorem dX0_init_20 : decode cX0_init 20 = .ok (.invokespecial 18, 3) := by decide +kernel
theorem dX0_init_23 : decode cX0_init 23 = .ok (.putfield 19, 3) := by decide +kernel
theorem dX0_init_26 : decode cX0_init 26 = .ok (.aload_n 0, 1) := by decide +kernel
theorem dX0_init_27 : decode cX0_init 27 = .ok (.new 16, 3) := by decide +kernel
theorem dX0_init_30 : decode cX0_init 30 = .ok (.dup, 1) := by decide +kernel
theorem dX0_init_31 : decode cX0_init 31 = .ok (.invokespecial 18, 3) := by decide +kernel
theorem dX0_init_34 : decode cX0_init 34 = .ok (.putfield 23, 3) := by decide +kernel
theorem dX0_init_37 : decode cX0_init 37 = .ok (.return_, 1) := by decide +kernel
theorem dX0_end_0 : decode cX0_end 0 = .ok (.aload_n 0, 1) := by decide +kernel
theorem dX0_end_1 : decode cX0_end 1 = .ok (.iconst 0, 1) := by decide +kernel
theorem dX0_end_2 : decode cX0_end 2 = .ok (.putfield 26, 3) := by decide +kernel
theorem dX0_end_5 : decode cX0_end 5 = .ok (.aload_n 0, 1) := by decide +kernel
theorem dX0_end_6 : decode cX0_end 6 = .ok (.getfield 23, 3) := by decide +kernel
theorem dX0_end_9 : decode cX0_end 9 = .ok (.iconst 0, 1) := by decide +kernel
theorem dX0_end_10 : decode cX0_end 10 = .ok (.putfield 30, 3) := by decide +kernel
theorem dX0_end_13 : decode cX0_end 13 = .ok (.return_, 1) := by decide +kernel
theorem dX1_init_0 : decode cX1_init 0 = .ok (.aload_n 0, 1) := by decide +kernel
theorem dX1_init_1 : decode cX1_init 1 = .ok (.invokespecial 3, 3) := by decide +kernel
theorem dX1_init_4 : decode cX1_init 4 = .ok (.aload_n 0, 1) := by decide +kernel
theorem dX1_init_5 : decode cX1_init 5 = .ok (.new 9, 3) := by decide +kernel
theorem dX1_init_8 : decode cX1_init 8 = .ok (.dup, 1) := by decide +kernel
theorem dX1_init_9 : decode cX1_init 9 = .ok (.invokespecial 11, 3) := by decide +kernel
theorem dX1_init_12 : decode cX1_init 12 = .ok (.putfield 12, 3) := by decide +kernel
theorem dX1_init_15 : decode cX1_init 15 = .ok (.aload_n 0, 1) := by decide +kernel
theorem dX1_init_16 : decode cX1_init 16 = .ok (.new 18, 3) := by decide +kernel
theorem dX1_init_19 : decode cX1_init 19 = .ok (.dup, 1) := by decide +kernel
theorem dX1_init_20 : decode cX1_init 20 = .ok (.invokespecial 20, 3) := by decide +kernel
theorem dX1_init_23 : decode cX1_init 23 = .ok (.putfield 21, 3) := by decide +kernel
theorem dX1_init_26 : decode cX1_init 26 = .ok (.aload_n 0, 1) := by decide +kernel
theorem dX1_init_27 : decode cX1_init 27 = .ok (.new 25, 3) := by decide +kernel
theorem dX1_init_30 : decode cX1_init 30 = .ok (.dup, 1) := by decide +kernel
theorem dX1_init_31 : decode cX1_init 31 = .ok (.invokespecial 27, 3) := by decide +kernel
theorem dX1_init_34 : decode cX1_init 34 = .ok (.putfield 28, 3) := by decide +kernel
theorem dX1_init_37 : decode cX1_init 37 = .ok (.aload_n 0, 1) := by decide +kernel
theorem dX1_init_38 : decode cX1_init 38 = .ok (.new 32, 3) := by decide +kernel
theorem dX1_init_41 : decode cX1_init 41 = .ok (.dup, 1) := by decide +kernel
theorem dX1_init_42 : decode cX1_init 42 = .ok (.invokespecial 34, 3) := by decide +kernel
theorem dX1_init_45 : decode cX1_init 45 = .ok (.putfield 35, 3) := by decide +kernel
theorem dX1_init_48 : decode cX1_init 48 = .ok (.aload_n 0, 1) := by decide +kernel
theorem dX1_init_49 : decode cX1_init 49 = .ok (.bipush 6, 2) := by decide +kernel
theorem dX1_init_51 : decode cX1_init 51 = .ok (.newarray .int, 2) := by decide +kernel
theorem dX1_init_53 : decode cX1_init 53 = .ok (.putfield 39, 3) := by decide +kernel
theorem dX1_init_56 : decode cX1_init 56 = .ok (.aload_n 0, 1) := by decide +kernel
theorem dX1_init_57 : decode cX1_init 57 = .ok (.iconst 1, 1) := by decide +kernel
theorem dX1_init_58 : decode cX1_init 58 = .ok (.putfield 43, 3) := by decide +kernel
theorem dX1_init_61 : decode cX1_init 61 = .ok (.aload_n 0, 1) := by decide +kernel
theorem dX1_init_62 : decode cX1_init 62 = .ok (.sipush 255, 3) := by decide +kernel
theorem dX1_init_65 : decode cX1_init 65 = .ok (.putfield 47, 3) := by decide +kernel
theorem dX1_init_68 : decode cX1_init 68 = .ok (.aload_n 0, 1) := by decide +kernel
theorem dX1_init_69 : decode cX1_init 69 = .ok (.iconst (-1), 1) := by decide +kernel
theorem dX1_init_70 : decode cX1_init 70 = .ok (.putfield 50, 3) := by decide +kernel
theorem dX1_init_73 : decode cX1_init 73 = .ok (.aload_n 0, 1) := by decide +kernel
theorem dX1_init_74 : decode cX1_init 74 = .ok (.iload_n 1, 1) := by decide +kernel
theorem dX1_init_75 : decode cX1_init 75 = .ok (.putfield 53, 3) := by decide +kernel
theorem dX1_init_78 : decode cX1_init 78 = .ok (.aload_n 0, 1) := by decide +kernel
theorem dX1_init_79 : decode cX1_init 79 = .ok (.aload_n 2, 1) := by decide +kernel
theorem dX1_init_80 : decode cX1_init 80 = .ok (.putfield 56, 3) := by decide +kernel
theorem dX1_init_83 : decode cX1_init 83 = .ok (.aload_n 0, 1) := by decide +kernel
theorem dX1_init_84 : decode cX1_init 84 = .ok (.iload_n 3, 1) := by decide +kernel
theorem dX1_init_85 : decode cX1_init 85 = .ok (.putfield 60, 3) := by decide +kernel
theorem dX1_init_88 : decode cX1_init 88 = .ok (.aload_n 0, 1) := by decide +kernel
theorem dX1_init_89 : decode cX1_init 89 = .ok (.iload 4, 2) := by decide +kernel
theorem dX1_init_91 : decode cX1_init 91 = .ok (.putfield 63, 3) := by decide +kernel
theorem dX1_init_94 : decode cX1_init 94 = .ok (.return_, 1) := by decide +kernel
theorem dX1_isDead_0 : decode cX1_isDead 0 = .ok (.aload_n 0, 1) := by decide +kernel
theorem dX1_isDead_1 : decode cX1_isDead 1 = .ok (.getfield 21, 3) := by decide +kernel
theorem dX1_isDead_4 : decode cX1_isDead 4 = .ok (.getfield 67, 3) := by decide +kernel
theorem dX1_isDead_7 : decode cX1_isDead 7 = .ok (.getfield 71, 3) := by decide +kernel
theorem dX1_isDead_10 : decode cX1_isDead 10 = .ok (.iconst 3, 1) := by decide +kernel
theorem dX1_isDead_11 : decode cX1_isDead 11 = .ok (.if_icmp .ne 7, 3) := by decide +kernel
theorem dX1_isDead_14 : decode cX1_isDead 14 = .ok (.iconst 1, 1) := by decide +kernel
theorem dX1_isDead_15 : decode cX1_isDead 15 = .ok (.goto 4, 3) := by decide +kernel
theorem dX1_isDead_18 : decode cX1_isDead 18 = .ok (.iconst 0, 1) := by decide +kernel
theorem dX1_isDead_19 : decode cX1_isDead 19 = .ok (.ireturn, 1) := by decide +kernel
theorem dX1_isMoving_0 : decode cX1_isMoving 0 = .ok (.aload_n 0, 1) := by decide +kernel
theorem dX1_isMoving_1 : decode cX1_isMoving 1 = .ok (.getfield 50, 3) := by decide +kernel
theorem dX1_isMoving_4 : decode cX1_isMoving 4 = .ok (.iconst (-1), 1) := by decide +kernel
theorem dX1_isMoving_5 : decode cX1_isMoving 5 = .ok (.if_icmp .eq 7, 3) := by decide +kernel
theorem dX1_isMoving_8 : decode cX1_isMoving 8 = .ok (.iconst 1, 1) := by decide +kernel
theorem dX1_isMoving_9 : decode cX1_isMoving 9 = .ok (.goto 4, 3) := by decide +kernel
theorem dX1_isMoving_12 : decode cX1_isMoving 12 = .ok (.iconst 0, 1) := by decide +kernel
theorem dX1_isMoving_13 : decode cX1_isMoving 13 = .ok (.ireturn, 1) := by decide +kernel
theorem dX1_isBare_0 : decode cX1_isBare 0 = .ok (.aload_n 0, 1) := by decide +kernel
theorem dX1_isBare_1 : decode cX1_isBare 1 = .ok (.getfield 47, 3) := by decide +kernel
theorem dX1_isBare_4 : decode cX1_isBare 4 = .ok (.iconst 1, 1) := by decide +kernel
theorem dX1_isBare_5 : decode cX1_isBare 5 = .ok (.iload_n 1, 1) := by decide +kernel
theorem dX1_isBare_6 : decode cX1_isBare 6 = .ok (.ishl, 1) := by decide +kernel
theorem dX1_isBare_7 : decode cX1_isBare 7 = .ok (.iand, 1) := by decide +kernel
theorem dX1_isBare_8 : decode cX1_isBare 8 = .ok (.ifCond .eq 7, 3) := by decide +kernel
theorem dX1_isBare_11 : decode cX1_isBare 11 = .ok (.iconst 1, 1) := by decide +kernel
theorem dX1_isBare_12 : decode cX1_isBare 12 = .ok (.goto 4, 3) := by decide +kernel
theorem dX1_isBare_15 : decode cX1_isBare 15 = .ok (.iconst 0, 1) := by decide +kernel
theorem dX1_isBare_16 : decode cX1_isBare 16 = .ok (.ireturn, 1) := by decide +kernel
theorem dX1_frameFor_0 : decode cX1_frameFor 0 = .ok (.aload_n 0, 1) := by decide +kernel
theorem dX1_frameFor_1 : decode cX1_frameFor 1 = .ok (.getfield 56, 3) := by decide +kernel
theorem dX1_frameFor_4 : decode cX1_frameFor 4 = .ok (.getfield 76, 3) := by decide +kernel
theorem dX1_frameFor_7 : decode cX1_frameFor 7 = .ok (.aload_n 0, 1) := by decide +kernel
theorem dX1_frameFor_8 : decode cX1_frameFor 8 = .ok (.iload_n 1, 1) := by decide +kernel
theorem dX1_frameFor_9 : decode cX1_frameFor 9 = .ok (.invokevirtual 81, 3) := by decide +kernel
theorem dX1_frameFor_12 : decode cX1_frameFor 12 = .ok (.iaload, 1) := by decide +kernel
theorem dX1_frameFor_13 : decode cX1_frameFor 13 = .ok (.ireturn, 1) := by decide +kernel
theorem dX1_keyOf_0 : decode cX1_keyOf 0 = .ok (.aload_n 0, 1) := by decide +kernel
theorem dX1_keyOf_1 : decode cX1_keyOf 1 = .ok (.getfield 53, 3) := by decide +kernel
theorem dX1_keyOf_4 : decode cX1_keyOf 4 = .ok (.bipush 8, 2) := by decide +kernel
theorem dX1_keyOf_6 : decode cX1_keyOf 6 = .ok (.imul, 1) := by decide +kernel
theorem dX1_keyOf_7 : decode cX1_keyOf 7 = .ok (.iload_n 1, 1) := by decide +kernel
theorem dX1_keyOf_8 : decode cX1_keyOf 8 = .ok (.iadd, 1) := by decide +kernel
theorem dX1_keyOf_9 : decode cX1_keyOf 9 = .ok (.ireturn, 1) := by decide +kernel
theorem dX1_canRunOn_0 : decode cX1_canRunOn 0 = .ok (.aload_n 0, 1) := by decide +kernel
theorem dX1_canRunOn_1 : decode cX1_canRunOn 1 = .ok (.getfield 56, 3) := by decide +kernel
theorem dX1_canRunOn_4 : decode cX1_canRunOn 4 = .ok (.aload_n 1, 1) := by decide +kernel
theorem dX1_canRunOn_5 : decode cX1_canRunOn 5 = .ok (.if_acmp .ne 27, 3) := by decide +kernel
theorem dX1_canRunOn_8 : decode cX1_canRunOn 8 = .ok (.aload_n 0, 1) := by decide +kernel
theorem dX1_canRunOn_9 : decode cX1_canRunOn 9 = .ok (.getfield 85, 3) := by decide +kernel
theorem dX1_canRunOn_12 : decode cX1_canRunOn 12 = .ok (.ifCond .ne 20, 3) := by decide +kernel
theorem dX1_canRunOn_15 : decode cX1_canRunOn 15 = .ok (.aload_n 0, 1) := by decide +kernel
theorem dX1_canRunOn_16 : decode cX1_canRunOn 16 = .ok (.getfield 21, 3) := by decide +kernel
theorem dX1_canRunOn_19 : decode cX1_canRunOn 19 = .ok (.getfield 67, 3) := by decide +kernel
theorem dX1_canRunOn_22 : decode cX1_canRunOn 22 = .ok (.getfield 71, 3) := by decide +kernel
theorem dX1_canRunOn_25 : decode cX1_canRunOn 25 = .ok (.ifCond .ne 7, 3) := by decide +kernel
theorem dX1_canRunOn_28 : decode cX1_canRunOn 28 = .ok (.iconst 1, 1) := by decide +kernel
theorem dX1_canRunOn_29 : decode cX1_canRunOn 29 = .ok (.goto 4, 3) := by decide +kernel
theorem dX1_canRunOn_32 : decode cX1_canRunOn 32 = .ok (.iconst 0, 1) := by decide +kernel
theorem dX1_canRunOn_33 : decode cX1_canRunOn 33 = .ok (.ireturn, 1) := by decide +kernel
theorem dX1_runTick_0 : decode cX1_runTick 0 = .ok (.aload_n 0, 1) := by decide +kernel
theorem dX1_runTick_1 : decode cX1_runTick 1 = .ok (.getfield 21, 3) := by decide +kernel
theorem dX1_runTick_4 : decode cX1_runTick 4 = .ok (.invokevirtual 88, 3) := by decide +kernel
theorem dX1_runTick_7 : decode cX1_runTick 7 = .ok (.ifCond .eq 8, 3) := by decide +kernel
theorem dX1_runTick_10 : decode cX1_runTick 10 = .ok (.aload_n 0, 1) := by decide +kernel
theorem dX1_runTick_11 : decode cX1_runTick 11 = .ok (.iconst 5, 1) := by decide +kernel
theorem dX1_runTick_12 : decode cX1_runTick 12 = .ok (.invokevirtual 92, 3) := by decide +kernel
theorem dX1_runTick_15 : decode cX1_runTick 15 = .ok (.aload_n 0, 1) := by decide +kernel
theorem dX1_runTick_16 : decode cX1_runTick 16 = .ok (.getfield 21, 3) := by decide +kernel
theorem dX1_runTick_19 : decode cX1_runTick 19 = .ok (.getfield 67, 3) := by decide +kernel
theorem dX1_runTick_22 : decode cX1_runTick 22 = .ok (.aload_n 0, 1) := by decide +kernel
theorem dX1_runTick_23 : decode cX1_runTick 23 = .ok (.getfield 12, 3) := by decide +kernel
theorem dX1_runTick_26 : decode cX1_runTick 26 = .ok (.aload_n 0, 1) := by decide +kernel
theorem dX1_runTick_27 : decode cX1_runTick 27 = .ok (.invokevirtual 96, 3) := by decide +kernel
theorem dX1_runTick_30 : decode cX1_runTick 30 = .ok (.aload_n 0, 1) := by decide +kernel
theorem dX1_runTick_31 : decode cX1_runTick 31 = .ok (.getfield 21, 3) := by decide +kernel
theorem dX1_runTick_34 : decode cX1_runTick 34 = .ok (.dup, 1) := by decide +kernel
theorem dX1_runTick_35 : decode cX1_runTick 35 = .ok (.getfield 100, 3) := by decide +kernel
theorem dX1_runTick_38 : decode cX1_runTick 38 = .ok (.iconst 1, 1) := by decide +kernel
theorem dX1_runTick_39 : decode cX1_runTick 39 = .ok (.iadd, 1) := by decide +kernel
theorem dX1_runTick_40 : decode cX1_runTick 40 = .ok (.putfield 100, 3) := by decide +kernel
theorem dX1_runTick_43 : decode cX1_runTick 43 = .ok (.aload_n 0, 1) := by decide +kernel
theorem dX1_runTick_44 : decode cX1_runTick 44 = .ok (.dup, 1) := by decide +kernel
theorem dX1_runTick_45 : decode cX1_runTick 45 = .ok (.getfield 103, 3) := by decide +kernel
theorem dX1_runTick_48 : decode cX1_runTick 48 = .ok (.iconst 1, 1) := by decide +kernel
theorem dX1_runTick_49 : decode cX1_runTick 49 = .ok (.iadd, 1) := by decide +kernel
theorem dX1_runTick_50 : decode cX1_runTick 50 = .ok (.putfield 103, 3) := by decide +kernel
theorem dX1_runTick_53 : decode cX1_runTick 53 = .ok (.return_, 1) := by decide +kernel
theorem dX1_advanceClock_0 : decode cX1_advanceClock 0 = .ok (.aload_n 0, 1) := by decide +kernel
theorem dX1_advanceClock_1 : decode cX1_advanceClock 1 = .ok (.getfield 21, 3) := by decide +kernel
theorem dX1_advanceClock_4 : decode cX1_advanceClock 4 = .ok (.aload_n 0, 1) := by decide +kernel
theorem dX1_advanceClock_5 : decode cX1_advanceClock 5 = .ok (.getfield 21, 3) := by decide +kernel
theorem dX1_advanceClock_8 : decode cX1_advanceClock 8 = .ok (.getfield 106, 3) := by decide +kernel
theorem dX1_advanceClock_11 : decode cX1_advanceClock 11 = .ok (.aload_n 0, 1) := by decide +kernel
theorem dX1_advanceClock_12 : decode cX1_advanceClock 12 = .ok (.getfield 43, 3) := by decide +kernel
theorem dX1_advanceClock_15 : decode cX1_advanceClock 15 = .ok (.iadd, 1) := by decide +kernel
theorem dX1_advanceClock_16 : decode cX1_advanceClock 16 = .ok (.sipush 10000, 3) := by decide +kernel
theorem dX1_advanceClock_19 : decode cX1_advanceClock 19 = .ok (.irem, 1) := by decide +kernel
theorem dX1_advanceClock_20 : decode cX1_advanceClock 20 = .ok (.putfield 106, 3) := by decide +kernel
theorem dX1_advanceClock_23 : decode cX1_advanceClock 23 = .ok (.return_, 1) := by decide +kernel
theorem dX1_reach_0 : decode cX1_reach 0 = .ok (.aload_n 0, 1) := by decide +kernel
theorem dX1_reach_1 : decode cX1_reach 1 = .ok (.iload_n 1, 1) := by decide +kernel
theorem dX1_reach_2 : decode cX1_reach 2 = .ok (.invokevirtual 81, 3) := by decide +kernel
theorem dX1_reach_5 : decode cX1_reach 5 = .ok (.istore_n 3, 1) := by decide +kernel
theorem dX1_reach_6 : decode cX1_reach 6 = .ok (.aload_n 0, 1) := by decide +kernel
theorem dX1_reach_7 : decode cX1_reach 7 = .ok (.getfield 56, 3) := by decide +kernel
theorem dX1_reach_10 : decode cX1_reach 10 = .ok (.getfield 76, 3) := by decide +kernel
theorem dX1_reach_13 : decode cX1_reach 13 = .ok (.iload_n 3, 1) := by decide +kernel
theorem dX1_reach_14 : decode cX1_reach 14 = .ok (.iaload, 1) := by decide +kernel
theorem dX1_reach_15 : decode cX1_reach 15 = .ok (.istore 4, 2) := by decide +kernel
theorem dX1_reach_17 : decode cX1_reach 17 = .ok (.iload 4, 2) := by decide +kernel
theorem dX1_reach_19 : decode cX1_reach 19 = .ok (.iconst (-1), 1) := by decide +kernel
theorem dX1_reach_20 : decode cX1_reach 20 = .ok (.if_icmp .ne 46, 3) := by decide +kernel
theorem dX1_reach_23 : decode cX1_reach 23 = .ok (.aload_n 0, 1) := by decide +kernel
theorem dX1_reach_24 : decode cX1_reach 24 = .ok (.aload_n 0, 1) := by decide +kernel
theorem dX1_reach_25 : decode cX1_reach 25 = .ok (.iload_n 1, 1) := by decide +kernel
theorem dX1_reach_26 : decode cX1_reach 26 = .ok (.invokevirtual 109, 3) := by decide +kernel
theorem dX1_reach_29 : decode cX1_reach 29 = .ok (.ifCond .eq 7, 3) := by decide +kernel
theorem dX1_reach_32 : decode cX1_reach 32 = .ok (.iconst 0, 1) := by decide +kernel
theorem dX1_reach_33 : decode cX1_reach 33 = .ok (.goto 4, 3) := by decide +kernel
theorem dX1_reach_36 : decode cX1_reach 36 = .ok (.iconst 1, 1) := by decide +kernel
theorem dX1_reach_37 : decode cX1_reach 37 = .ok (.invokevirtual 92, 3) := by decide +kernel
theorem dX1_reach_40 : decode cX1_reach 40 = .ok (.aload_n 0, 1) := by decide +kernel
theorem dX1_reach_41 : decode cX1_reach 41 = .ok (.dup, 1) := by decide +kernel
theorem dX1_reach_42 : decode cX1_reach 42 = .ok (.getfield 47, 3) := by decide +kernel
theorem dX1_reach_45 : decode cX1_reach 45 = .ok (.iconst 1, 1) := by decide +kernel
theorem dX1_reach_46 : decode cX1_reach 46 = .ok (.iload_n 1, 1) := by decide +kernel
theorem dX1_reach_47 : decode cX1_reach 47 = .ok (.ishl, 1) := by decide +kernel
theorem dX1_reach_48 : decode cX1_reach 48 = .ok (.iconst (-1), 1) := by decide +kernel
theorem dX1_reach_49 : decode cX1_reach 49 = .ok (.ixor, 1) := by decide +kernel
theorem dX1_reach_50 : decode cX1_reach 50 = .ok (.iand, 1) := by decide +kernel
theorem dX1_reach_51 : decode cX1_reach 51 = .ok (.putfield 47, 3) := by decide +kernel
theorem dX1_reach_54 : decode cX1_reach 54 = .ok (.aload_n 0, 1) := by decide +kernel
theorem dX1_reach_55 : decode cX1_reach 55 = .ok (.getfield 56, 3) := by decide +kernel
theorem dX1_reach_58 : decode cX1_reach 58 = .ok (.iload_n 3, 1) := by decide +kernel
theorem dX1_reach_59 : decode cX1_reach 59 = .ok (.iconst (-1), 1) := by decide +kernel
theorem dX1_reach_60 : decode cX1_reach 60 = .ok (.invokevirtual 113, 3) := by decide +kernel
theorem dX1_reach_63 : decode cX1_reach 63 = .ok (.goto 64, 3) := by decide +kernel
theorem dX1_reach_66 : decode cX1_reach 66 = .ok (.iload_n 2, 1) := by decide +kernel
theorem dX1_reach_67 : decode cX1_reach 67 = .ok (.ifCond .eq 43, 3) := by decide +kernel
theorem dX1_reach_70 : decode cX1_reach 70 = .ok (.aload_n 0, 1) := by decide +kernel
theorem dX1_reach_71 : decode cX1_reach 71 = .ok (.getfield 56, 3) := by decide +kernel
theorem dX1_reach_74 : decode cX1_reach 74 = .ok (.getfield 117, 3) := by decide +kernel
theorem dX1_reach_77 : decode cX1_reach 77 = .ok (.iload 4, 2) := by decide +kernel
theorem dX1_reach_79 : decode cX1_reach 79 = .ok (.iaload, 1) := by decide +kernel
theorem dX1_reach_80 : decode cX1_reach 80 = .ok (.iconst 1, 1) := by decide +kernel
theorem dX1_reach_81 : decode cX1_reach 81 = .ok (.if_icmp .le 29, 3) := by decide +kernel
theorem dX1_reach_84 : decode cX1_reach 84 = .ok (.aload_n 0, 1) := by decide +kernel
theorem dX1_reach_85 : decode cX1_reach 85 = .ok (.iconst 2, 1) := by decide +kernel
theorem dX1_reach_86 : decode cX1_reach 86 = .ok (.invokevirtual 92, 3) := by decide +kernel
theorem dX1_reach_89 : decode cX1_reach 89 = .ok (.aload_n 0, 1) := by decide +kernel
theorem dX1_reach_90 : decode cX1_reach 90 = .ok (.getfield 56, 3) := by decide +kernel
theorem dX1_reach_93 : decode cX1_reach 93 = .ok (.iload_n 3, 1) := by decide +kernel
theorem dX1_reach_94 : decode cX1_reach 94 = .ok (.invokevirtual 120, 3) := by decide +kernel
theorem dX1_reach_97 : decode cX1_reach 97 = .ok (.aload_n 0, 1) := by decide +kernel
theorem dX1_reach_98 : decode cX1_reach 98 = .ok (.getfield 56, 3) := by decide +kernel
theorem dX1_reach_101 : decode cX1_reach 101 = .ok (.iload_n 3, 1) := by decide +kernel
theorem dX1_reach_102 : decode cX1_reach 102 = .ok (.iload 4, 2) := by decide +kernel
theorem dX1_reach_104 : decode cX1_reach 104 = .ok (.invokevirtual 113, 3) := by decide +kernel
theorem dX1_reach_107 : decode cX1_reach 107 = .ok (.goto 20, 3) := by decide +kernel
theorem dX1_reach_110 : decode cX1_reach 110 = .ok (.aload_n 0, 1) := by decide +kernel
theorem dX1_reach_111 : decode cX1_reach 111 = .ok (.getfield 56, 3) := by decide +kernel
theorem dX1_reach_114 : decode cX1_reach 114 = .ok (.getfield 123, 3) := by decide +kernel
theorem dX1_reach_117 : decode cX1_reach 117 = .ok (.iload 4, 2) := by decide +kernel
theorem dX1_reach_119 : decode cX1_reach 119 = .ok (.aload_n 0, 1) := by decide +kernel
theorem dX1_reach_120 : decode cX1_reach 120 = .ok (.getfield 56, 3) := by decide +kernel
theorem dX1_reach_123 : decode cX1_reach 123 = .ok (.getfield 126, 3) := by decide +kernel
theorem dX1_reach_126 : decode cX1_reach 126 = .ok (.iastore, 1) := by decide +kernel
theorem dX1_reach_127 : decode cX1_reach 127 = .ok (.iload_n 2, 1) := by decide +kernel
theorem dX1_reach_128 : decode cX1_reach 128 = .ok (.ifCond .eq 8, 3) := by decide +kernel
theorem dX1_reach_131 : decode cX1_reach 131 = .ok (.aload_n 0, 1) := by decide +kernel
theorem dX1_reach_132 : decode cX1_reach 132 = .ok (.iload_n 1, 1) := by decide +kernel
theorem dX1_reach_133 : decode cX1_reach 133 = .ok (.invokevirtual 129, 3) := by decide +kernel
theorem dX1_reach_136 : decode cX1_reach 136 = .ok (.return_, 1) := by decide +kernel
theorem dX1_giveBack_0 : decode cX1_giveBack 0 = .ok (.aload_n 0, 1) := by decide +kernel
theorem dX1_giveBack_1 : decode cX1_giveBack 1 = .ok (.getfield 56, 3) := by decide +kernel
theorem dX1_giveBack_4 : decode cX1_giveBack 4 = .ok (.aload_n 0, 1) := by decide +kernel
theorem dX1_giveBack_5 : decode cX1_giveBack 5 = .ok (.iload_n 1, 1) := by decide +kernel
theorem dX1_giveBack_6 : decode cX1_giveBack 6 = .ok (.invokevirtual 81, 3) := by decide +kernel
theorem dX1_giveBack_9 : decode cX1_giveBack 9 = .ok (.invokevirtual 120, 3) := by decide +kernel
theorem dX1_giveBack_12 : decode cX1_giveBack 12 = .ok (.aload_n 0, 1) := by decide +kernel
theorem dX1_giveBack_13 : decode cX1_giveBack 13 = .ok (.dup, 1) := by decide +kernel
theorem dX1_giveBack_14 : decode cX1_giveBack 14 = .ok (.getfield 47, 3) := by decide +kernel
theorem dX1_giveBack_17 : decode cX1_giveBack 17 = .ok (.iconst 1, 1) := by decide +kernel
theorem dX1_giveBack_18 : decode cX1_giveBack 18 = .ok (.iload_n 1, 1) := by decide +kernel
theorem dX1_giveBack_19 : decode cX1_giveBack 19 = .ok (.ishl, 1) := by decide +kernel
theorem dX1_giveBack_20 : decode cX1_giveBack 20 = .ok (.ior, 1) := by decide +kernel
theorem dX1_giveBack_21 : decode cX1_giveBack 21 = .ok (.putfield 47, 3) := by decide +kernel
theorem dX1_giveBack_24 : decode cX1_giveBack 24 = .ok (.aload_n 0, 1) := by decide +kernel
theorem dX1_giveBack_25 : decode cX1_giveBack 25 = .ok (.iload_n 1, 1) := by decide +kernel
theorem dX1_giveBack_26 : decode cX1_giveBack 26 = .ok (.invokevirtual 129, 3) := by decide +kernel
theorem dX1_giveBack_29 : decode cX1_giveBack 29 = .ok (.return_, 1) := by decide +kernel
theorem dX1_sendAgain_0 : decode cX1_sendAgain 0 = .ok (.aload_n 0, 1) := by decide +kernel
theorem dX1_sendAgain_1 : decode cX1_sendAgain 1 = .ok (.invokevirtual 132, 3) := by decide +kernel
theorem dX1_sendAgain_4 : decode cX1_sendAgain 4 = .ok (.ifCond .eq 15, 3) := by decide +kernel
theorem dX1_sendAgain_7 : decode cX1_sendAgain 7 = .ok (.aload_n 0, 1) := by decide +kernel
theorem dX1_sendAgain_8 : decode cX1_sendAgain 8 = .ok (.dup, 1) := by decide +kernel
theorem dX1_sendAgain_9 : decode cX1_sendAgain 9 = .ok (.getfield 50, 3) := by decide +kernel
theorem dX1_sendAgain_12 : decode cX1_sendAgain 12 = .ok (.iconst 1, 1) := by decide +kernel
theorem dX1_sendAgain_13 : decode cX1_sendAgain 13 = .ok (.iload_n 1, 1) := by decide +kernel
theorem dX1_sendAgain_14 : decode cX1_sendAgain 14 = .ok (.ishl, 1) := by decide +kernel
theorem dX1_sendAgain_15 : decode cX1_sendAgain 15 = .ok (.ior, 1) := by decide +kernel
theorem dX1_sendAgain_16 : decode cX1_sendAgain 16 = .ok (.putfield 50, 3) := by decide +kernel
theorem dX1_sendAgain_19 : decode cX1_sendAgain 19 = .ok (.return_, 1) := by decide +kernel
theorem dX1_takeFrom_0 : decode cX1_takeFrom 0 = .ok (.iload_n 1, 1) := by decide +kernel
theorem dX1_takeFrom_1 : decode cX1_takeFrom 1 = .ok (.ifCond .ne 16, 3) := by decide +kernel
theorem dX1_takeFrom_4 : decode cX1_takeFrom 4 = .ok (.aload_n 0, 1) := by decide +kernel
theorem dX1_takeFrom_5 : decode cX1_takeFrom 5 = .ok (.getfield 21, 3) := by decide +kernel
theorem dX1_takeFrom_8 : decode cX1_takeFrom 8 = .ok (.getfield 135, 3) := by decide +kernel
theorem dX1_takeFrom_11 : decode cX1_takeFrom 11 = .ok (.invokevirtual 138, 3) := by decide +kernel
theorem dX1_takeFrom_14 : decode cX1_takeFrom 14 = .ok (.goto 10, 3) := by decide +kernel
theorem dX1_takeFrom_17 : decode cX1_takeFrom 17 = .ok (.aload_n 0, 1) := by decide +kernel
theorem dX1_takeFrom_18 : decode cX1_takeFrom 18 = .ok (.getfield 21, 3) := by decide +kernel
theorem dX1_takeFrom_21 : decode cX1_takeFrom 21 = .ok (.getfield 106, 3) := by decide +kernel
theorem dX1_takeFrom_24 : decode cX1_takeFrom 24 = .ok (.istore_n 2, 1) := by decide +kernel
theorem dX1_takeFrom_25 : decode cX1_takeFrom 25 = .ok (.aload_n 0, 1) := by decide +kernel
theorem dX1_takeFrom_26 : decode cX1_takeFrom 26 = .ok (.getfield 21, 3) := by decide +kernel
theorem dX1_takeFrom_29 : decode cX1_takeFrom 29 = .ok (.getfield 142, 3) := by decide +kernel
theorem dX1_takeFrom_32 : decode cX1_takeFrom 32 = .ok (.iload_n 2, 1) := by decide +kernel
theorem dX1_takeFrom_33 : decode cX1_takeFrom 33 = .ok (.invokevirtual 145, 3) := by decide +kernel
theorem dX1_takeFrom_36 : decode cX1_takeFrom 36 = .ok (.iload_n 2, 1) := by decide +kernel
theorem dX1_takeFrom_37 : decode cX1_takeFrom 37 = .ok (.ireturn, 1) := by decide +kernel
theorem dX1_tell_0 : decode cX1_tell 0 = .ok (.iload_n 1, 1) := by decide +kernel
theorem dX1_tell_1 : decode cX1_tell 1 = .ok (.ifCond .eq 12, 3) := by decide +kernel
theorem dX1_tell_4 : decode cX1_tell 4 = .ok (.aload_n 0, 1) := by decide +kernel
theorem dX1_tell_5 : decode cX1_tell 5 = .ok (.getfield 21, 3) := by decide +kernel
theorem dX1_tell_8 : decode cX1_tell 8 = .ok (.iload_n 2, 1) := by decide +kernel
theorem dX1_tell_9 : decode cX1_tell 9 = .ok (.putfield 148, 3) := by decide +kernel
theorem dX1_tell_12 : decode cX1_tell 12 = .ok (.return_, 1) := by decide +kernel
theorem dX1_tell_13 : decode cX1_tell 13 = .ok (.aload_n 0, 1) := by decide +kernel
theorem dX1_tell_14 : decode cX1_tell 14 = .ok (.getfield 21, 3) := by decide +kernel
theorem dX1_tell_17 : decode cX1_tell 17 = .ok (.getfield 151, 3) := by decide +kernel
theorem dX1_tell_20 : decode cX1_tell 20 = .ok (.iload_n 2, 1) := by decide +kernel
theorem dX1_tell_21 : decode cX1_tell 21 = .ok (.invokevirtual 145, 3) := by decide +kernel
theorem dX1_tell_24 : decode cX1_tell 24 = .ok (.aload_n 0, 1) := by decide +kernel
theorem dX1_tell_25 : decode cX1_tell 25 = .ok (.getfield 28, 3) := by decide +kernel
theorem dX1_tell_28 : decode cX1_tell 28 = .ok (.getfield 154, 3) := by decide +kernel
theorem dX1_tell_31 : decode cX1_tell 31 = .ok (.ifCond .eq 17, 3) := by decide +kernel
theorem dX1_tell_34 : decode cX1_tell 34 = .ok (.aload_n 0, 1) := by decide +kernel
theorem dX1_tell_35 : decode cX1_tell 35 = .ok (.getfield 28, 3) := by decide +kernel
theorem dX1_tell_38 : decode cX1_tell 38 = .ok (.getfield 157, 3) := by decide +kernel
theorem dX1_tell_41 : decode cX1_tell 41 = .ok (.iload_n 2, 1) := by decide +kernel
theorem dX1_tell_42 : decode cX1_tell 42 = .ok (.invokevirtual 145, 3) := by decide +kernel
theorem dX1_tell_45 : decode cX1_tell 45 = .ok (.goto 11, 3) := by decide +kernel
theorem dX1_tell_48 : decode cX1_tell 48 = .ok (.aload_n 0, 1) := by decide +kernel
theorem dX1_tell_49 : decode cX1_tell 49 = .ok (.getfield 35, 3) := by decide +kernel
theorem dX1_tell_52 : decode cX1_tell 52 = .ok (.iload_n 2, 1) := by decide +kernel
theorem dX1_tell_53 : decode cX1_tell 53 = .ok (.invokevirtual 145, 3) := by decide +kernel
theorem dX1_tell_56 : decode cX1_tell 56 = .ok (.return_, 1) := by decide +kernel
theorem dX1_isInterruptPending_0 : decode cX1_isInterruptPending 0 = .ok (.aload_n 0, 1) := by decide +kernel
theorem dX1_isInterruptPending_1 : decode cX1_isInterruptPending 1 = .ok (.getfield 21, 3) := by decide +kernel
theorem dX1_isInterruptPending_4 : decode cX1_isInterruptPending 4 = .ok (.invokevirtual 160, 3) := by decide +kernel
theorem dX1_isInterruptPending_7 : decode cX1_isInterruptPending 7 = .ok (.ireturn, 1) := by decide +kernel
theorem dX1_countExit_0 : decode cX1_countExit 0 = .ok (.aload_n 0, 1) := by decide +kernel
theorem dX1_countExit_1 : decode cX1_countExit 1 = .ok (.getfield 39, 3) := by decide +kernel
theorem dX1_countExit_4 : decode cX1_countExit 4 = .ok (.iload_n 1, 1) := by decide +kernel
theorem dX1_countExit_5 : decode cX1_countExit 5 = .ok (.dup2, 1) := by decide +kernel
theorem dX1_countExit_6 : decode cX1_countExit 6 = .ok (.iaload, 1) := by decide +kernel
theorem dX1_countExit_7 : decode cX1_countExit 7 = .ok (.iconst 1, 1) := by decide +kernel
theorem dX1_countExit_8 : decode cX1_countExit 8 = .ok (.iadd, 1) := by decide +kernel
theorem dX1_countExit_9 : decode cX1_countExit 9 = .ok (.iastore, 1) := by decide +kernel
theorem dX1_countExit_10 : decode cX1_countExit 10 = .ok (.return_, 1) := by decide +kernel
theorem dX1_sendPages_0 : decode cX1_sendPages 0 = .ok (.iload_n 1, 1) := by decide +kernel
theorem dX1_sendPages_1 : decode cX1_sendPages 1 = .ok (.istore_n 2, 1) := by decide +kernel
theorem dX1_sendPages_2 : decode cX1_sendPages 2 = .ok (.iconst 0, 1) := by decide +kernel
theorem dX1_sendPages_3 : decode cX1_sendPages 3 = .ok (.istore_n 3, 1) := by decide +kernel
theorem dX1_sendPages_4 : decode cX1_sendPages 4 = .ok (.iload_n 3, 1) := by decide +kernel
theorem dX1_sendPages_5 : decode cX1_sendPages 5 = .ok (.bipush 8, 2) := by decide +kernel
theorem dX1_sendPages_7 : decode cX1_sendPages 7 = .ok (.if_icmp .ge 51, 3) := by decide +kernel
theorem dX1_sendPages_10 : decode cX1_sendPages 10 = .ok (.iload_n 2, 1) := by decide +kernel
theorem dX1_sendPages_11 : decode cX1_sendPages 11 = .ok (.ifCond .le 47, 3) := by decide +kernel
theorem dX1_sendPages_14 : decode cX1_sendPages 14 = .ok (.aload_n 0, 1) := by decide +kernel
theorem dX1_sendPages_15 : decode cX1_sendPages 15 = .ok (.getfield 50, 3) := by decide +kernel
theorem dX1_sendPages_18 : decode cX1_sendPages 18 = .ok (.iconst 1, 1) := by decide +kernel
theorem dX1_sendPages_19 : decode cX1_sendPages 19 = .ok (.iload_n 3, 1) := by decide +kernel
theorem dX1_sendPages_20 : decode cX1_sendPages 20 = .ok (.ishl, 1) := by decide +kernel
theorem dX1_sendPages_21 : decode cX1_sendPages 21 = .ok (.iand, 1) := by decide +kernel
theorem dX1_sendPages_22 : decode cX1_sendPages 22 = .ok (.ifCond .eq 30, 3) := by decide +kernel
theorem dX1_sendPages_25 : decode cX1_sendPages 25 = .ok (.aload_n 0, 1) := by decide +kernel
theorem dX1_sendPages_26 : decode cX1_sendPages 26 = .ok (.dup, 1) := by decide +kernel
theorem dX1_sendPages_27 : decode cX1_sendPages 27 = .ok (.getfield 50, 3) := by decide +kernel
theorem dX1_sendPages_30 : decode cX1_sendPages 30 = .ok (.iconst 1, 1) := by decide +kernel
theorem dX1_sendPages_31 : decode cX1_sendPages 31 = .ok (.iload_n 3, 1) := by decide +kernel
theorem dX1_sendPages_32 : decode cX1_sendPages 32 = .ok (.ishl, 1) := by decide +kernel
theorem dX1_sendPages_33 : decode cX1_sendPages 33 = .ok (.iconst (-1), 1) := by decide +kernel
theorem dX1_sendPages_34 : decode cX1_sendPages 34 = .ok (.ixor, 1) := by decide +kernel
theorem dX1_sendPages_35 : decode cX1_sendPages 35 = .ok (.iand, 1) := by decide +kernel
theorem dX1_sendPages_36 : decode cX1_sendPages 36 = .ok (.putfield 50, 3) := by decide +kernel
theorem dX1_sendPages_39 : decode cX1_sendPages 39 = .ok (.aload_n 0, 1) := by decide +kernel
theorem dX1_sendPages_40 : decode cX1_sendPages 40 = .ok (.dup, 1) := by decide +kernel
theorem dX1_sendPages_41 : decode cX1_sendPages 41 = .ok (.getfield 163, 3) := by decide +kernel
theorem dX1_sendPages_44 : decode cX1_sendPages 44 = .ok (.iconst 1, 1) := by decide +kernel
theorem dX1_sendPages_45 : decode cX1_sendPages 45 = .ok (.iadd, 1) := by decide +kernel
theorem dX1_sendPages_46 : decode cX1_sendPages 46 = .ok (.putfield 163, 3) := by decide +kernel
theorem dX1_sendPages_49 : decode cX1_sendPages 49 = .ok (.iinc 2 (-1), 3) := by decide +kernel
theorem dX1_sendPages_52 : decode cX1_sendPages 52 = .ok (.iinc 3 1, 3) := by decide +kernel
theorem dX1_sendPages_55 : decode cX1_sendPages 55 = .ok (.goto (-51), 3) := by decide +kernel
theorem dX1_sendPages_58 : decode cX1_sendPages 58 = .ok (.return_, 1) := by decide +kernel
theorem dX1_leaveFrames_0 : decode cX1_leaveFrames 0 = .ok (.iconst 0, 1) := by decide +kernel
theorem dX1_leaveFrames_1 : decode cX1_leaveFrames 1 = .ok (.istore_n 1, 1) := by decide +kernel
theorem dX1_leaveFrames_2 : decode cX1_leaveFrames 2 = .ok (.iload_n 1, 1) := by decide +kernel
theorem dX1_leaveFrames_3 : decode cX1_leaveFrames 3 = .ok (.bipush 8, 2) := by decide +kernel
theorem dX1_leaveFrames_5 : decode cX1_leaveFrames 5 = .ok (.if_icmp .ge 21, 3) := by decide +kernel
theorem dX1_leaveFrames_8 : decode cX1_leaveFrames 8 = .ok (.aload_n 0, 1) := by decide +kernel
theorem dX1_leaveFrames_9 : decode cX1_leaveFrames 9 = .ok (.getfield 56, 3) := by decide +kernel
theorem dX1_leaveFrames_12 : decode cX1_leaveFrames 12 = .ok (.aload_n 0, 1) := by decide +kernel
theorem dX1_leaveFrames_13 : decode cX1_leaveFrames 13 = .ok (.iload_n 1, 1) := by decide +kernel
theorem dX1_leaveFrames_14 : decode cX1_leaveFrames 14 = .ok (.invokevirtual 81, 3) := by decide +kernel
theorem dX1_leaveFrames_17 : decode cX1_leaveFrames 17 = .ok (.invokevirtual 120, 3) := by decide +kernel
theorem dX1_leaveFrames_20 : decode cX1_leaveFrames 20 = .ok (.iinc 1 1, 3) := by decide +kernel
theorem dX1_leaveFrames_23 : decode cX1_leaveFrames 23 = .ok (.goto (-21), 3) := by decide +kernel
theorem dX1_leaveFrames_26 : decode cX1_leaveFrames 26 = .ok (.return_, 1) := by decide +kernel
theorem dX1_goBackTo_0 : decode cX1_goBackTo 0 = .ok (.aload_n 0, 1) := by decide +kernel
theorem dX1_goBackTo_1 : decode cX1_goBackTo 1 = .ok (.invokevirtual 166, 3) := by decide +kernel
theorem dX1_goBackTo_4 : decode cX1_goBackTo 4 = .ok (.aload_n 0, 1) := by decide +kernel
theorem dX1_goBackTo_5 : decode cX1_goBackTo 5 = .ok (.getfield 21, 3) := by decide +kernel
theorem dX1_goBackTo_8 : decode cX1_goBackTo 8 = .ok (.aload_n 1, 1) := by decide +kernel
theorem dX1_goBackTo_9 : decode cX1_goBackTo 9 = .ok (.invokevirtual 169, 3) := by decide +kernel
theorem dX1_goBackTo_12 : decode cX1_goBackTo 12 = .ok (.aload_n 0, 1) := by decide +kernel
theorem dX1_goBackTo_13 : decode cX1_goBackTo 13 = .ok (.iconst 0, 1) := by decide +kernel
theorem dX1_goBackTo_14 : decode cX1_goBackTo 14 = .ok (.putfield 47, 3) := by decide +kernel
theorem dX1_goBackTo_17 : decode cX1_goBackTo 17 = .ok (.iconst 0, 1) := by decide +kernel
theorem dX1_goBackTo_18 : decode cX1_goBackTo 18 = .ok (.istore_n 2, 1) := by decide +kernel
theorem dX1_goBackTo_19 : decode cX1_goBackTo 19 = .ok (.iload_n 2, 1) := by decide +kernel
theorem dX1_goBackTo_20 : decode cX1_goBackTo 20 = .ok (.bipush 8, 2) := by decide +kernel
theorem dX1_goBackTo_22 : decode cX1_goBackTo 22 = .ok (.if_icmp .ge 32, 3) := by decide +kernel
theorem dX1_goBackTo_25 : decode cX1_goBackTo 25 = .ok (.aload_n 0, 1) := by decide +kernel
theorem dX1_goBackTo_26 : decode cX1_goBackTo 26 = .ok (.getfield 21, 3) := by decide +kernel
theorem dX1_goBackTo_29 : decode cX1_goBackTo 29 = .ok (.iload_n 2, 1) := by decide +kernel
theorem dX1_goBackTo_30 : decode cX1_goBackTo 30 = .ok (.invokevirtual 173, 3) := by decide +kernel
theorem dX1_goBackTo_33 : decode cX1_goBackTo 33 = .ok (.ifCond .eq 15, 3) := by decide +kernel
theorem dX1_goBackTo_36 : decode cX1_goBackTo 36 = .ok (.aload_n 0, 1) := by decide +kernel
theorem dX1_goBackTo_37 : decode cX1_goBackTo 37 = .ok (.dup, 1) := by decide +kernel
theorem dX1_goBackTo_38 : decode cX1_goBackTo 38 = .ok (.getfield 47, 3) := by decide +kernel
theorem dX1_goBackTo_41 : decode cX1_goBackTo 41 = .ok (.iconst 1, 1) := by decide +kernel
theorem dX1_goBackTo_42 : decode cX1_goBackTo 42 = .ok (.iload_n 2, 1) := by decide +kernel
theorem dX1_goBackTo_43 : decode cX1_goBackTo 43 = .ok (.ishl, 1) := by decide +kernel
theorem dX1_goBackTo_44 : decode cX1_goBackTo 44 = .ok (.ior, 1) := by decide +kernel
theorem dX1_goBackTo_45 : decode cX1_goBackTo 45 = .ok (.putfield 47, 3) := by decide +kernel
theorem dX1_goBackTo_48 : decode cX1_goBackTo 48 = .ok (.iinc 2 1, 3) := by decide +kernel
theorem dX1_goBackTo_51 : decode cX1_goBackTo 51 = .ok (.goto (-32), 3) := by decide +kernel
theorem dX1_goBackTo_54 : decode cX1_goBackTo 54 = .ok (.aload_n 0, 1) := by decide +kernel
theorem dX1_goBackTo_55 : decode cX1_goBackTo 55 = .ok (.iconst (-1), 1) := by decide +kernel
theorem dX1_goBackTo_56 : decode cX1_goBackTo 56 = .ok (.putfield 50, 3) := by decide +kernel
theorem dX1_goBackTo_59 : decode cX1_goBackTo 59 = .ok (.aload_n 0, 1) := by decide +kernel
theorem dX1_goBackTo_60 : decode cX1_goBackTo 60 = .ok (.iconst 1, 1) := by decide +kernel
theorem dX1_goBackTo_61 : decode cX1_goBackTo 61 = .ok (.putfield 176, 3) := by decide +kernel
theorem dX1_goBackTo_64 : decode cX1_goBackTo 64 = .ok (.aload_n 0, 1) := by decide +kernel
theorem dX1_goBackTo_65 : decode cX1_goBackTo 65 = .ok (.iconst 0, 1) := by decide +kernel
theorem dX1_goBackTo_66 : decode cX1_goBackTo 66 = .ok (.putfield 179, 3) := by decide +kernel
theorem dX1_goBackTo_69 : decode cX1_goBackTo 69 = .ok (.bipush 8, 2) := by decide +kernel
theorem dX1_goBackTo_71 : decode cX1_goBackTo 71 = .ok (.aload_n 0, 1) := by decide +kernel
theorem dX1_goBackTo_72 : decode cX1_goBackTo 72 = .ok (.getfield 47, 3) := by decide +kernel
theorem dX1_goBackTo_75 : decode cX1_goBackTo 75 = .ok (.invokestatic 182, 3) := by decide +kernel
theorem dX1_goBackTo_78 : decode cX1_goBackTo 78 = .ok (.isub, 1) := by decide +kernel
theorem dX1_goBackTo_79 : decode cX1_goBackTo 79 = .ok (.ireturn, 1) := by decide +kernel
theorem dX1_keepStep_0 : decode cX1_keepStep 0 = .ok (.aload_n 0, 1) := by decide +kernel
theorem dX1_keepStep_1 : decode cX1_keepStep 1 = .ok (.getfield 28, 3) := by decide +kernel
theorem dX1_keepStep_4 : decode cX1_keepStep 4 = .ok (.getfield 187, 3) := by decide +kernel
theorem dX1_keepStep_7 : decode cX1_keepStep 7 = .ok (.aload_n 0, 1) := by decide +kernel
theorem dX1_keepStep_8 : decode cX1_keepStep 8 = .ok (.getfield 21, 3) := by decide +kernel
theorem dX1_keepStep_11 : decode cX1_keepStep 11 = .ok (.invokevirtual 169, 3) := by decide +kernel
theorem dX1_keepStep_14 : decode cX1_keepStep 14 = .ok (.aload_n 0, 1) := by decide +kernel
theorem dX1_keepStep_15 : decode cX1_keepStep 15 = .ok (.getfield 28, 3) := by decide +kernel
theorem dX1_keepStep_18 : decode cX1_keepStep 18 = .ok (.getfield 190, 3) := by decide +kernel
theorem dX1_keepStep_21 : decode cX1_keepStep 21 = .ok (.iconst 0, 1) := by decide +kernel
theorem dX1_keepStep_22 : decode cX1_keepStep 22 = .ok (.putfield 193, 3) := by decide +kernel
theorem dX1_keepStep_25 : decode cX1_keepStep 25 = .ok (.aload_n 0, 1) := by decide +kernel
theorem dX1_keepStep_26 : decode cX1_keepStep 26 = .ok (.invokevirtual 196, 3) := by decide +kernel
theorem dX1_keepStep_29 : decode cX1_keepStep 29 = .ok (.ireturn, 1) := by decide +kernel
theorem dX1_letHeldOut_0 : decode cX1_letHeldOut 0 = .ok (.aload_n 0, 1) := by decide +kernel
theorem dX1_letHeldOut_1 : decode cX1_letHeldOut 1 = .ok (.getfield 28, 3) := by decide +kernel
theorem dX1_letHeldOut_4 : decode cX1_letHeldOut 4 = .ok (.getfield 157, 3) := by decide +kernel
theorem dX1_letHeldOut_7 : decode cX1_letHeldOut 7 = .ok (.getfield 193, 3) := by decide +kernel
theorem dX1_letHeldOut_10 : decode cX1_letHeldOut 10 = .ok (.istore_n 1, 1) := by decide +kernel
theorem dX1_letHeldOut_11 : decode cX1_letHeldOut 11 = .ok (.aload_n 0, 1) := by decide +kernel
theorem dX1_letHeldOut_12 : decode cX1_letHeldOut 12 = .ok (.getfield 35, 3) := by decide +kernel
theorem dX1_letHeldOut_15 : decode cX1_letHeldOut 15 = .ok (.aload_n 0, 1) := by decide +kernel
theorem dX1_letHeldOut_16 : decode cX1_letHeldOut 16 = .ok (.getfield 28, 3) := by decide +kernel
theorem dX1_letHeldOut_19 : decode cX1_letHeldOut 19 = .ok (.getfield 157, 3) := by decide +kernel
theorem dX1_letHeldOut_22 : decode cX1_letHeldOut 22 = .ok (.invokevirtual 199, 3) := by decide +kernel
theorem dX1_letHeldOut_25 : decode cX1_letHeldOut 25 = .ok (.aload_n 0, 1) := by decide +kernel
theorem dX1_letHeldOut_26 : decode cX1_letHeldOut 26 = .ok (.getfield 28, 3) := by decide +kernel
theorem dX1_letHeldOut_29 : decode cX1_letHeldOut 29 = .ok (.getfield 157, 3) := by decide +kernel
theorem dX1_letHeldOut_32 : decode cX1_letHeldOut 32 = .ok (.iconst 0, 1) := by decide +kernel
theorem dX1_letHeldOut_33 : decode cX1_letHeldOut 33 = .ok (.putfield 193, 3) := by decide +kernel
theorem dX1_letHeldOut_36 : decode cX1_letHeldOut 36 = .ok (.iload_n 1, 1) := by decide +kernel
theorem dX1_letHeldOut_37 : decode cX1_letHeldOut 37 = .ok (.ireturn, 1) := by decide +kernel
theorem dX1_goOnUpon_0 : decode cX1_goOnUpon 0 = .ok (.aload_n 0, 1) := by decide +kernel
theorem dX1_goOnUpon_1 : decode cX1_goOnUpon 1 = .ok (.aload_n 1, 1) := by decide +kernel
theorem dX1_goOnUpon_2 : decode cX1_goOnUpon 2 = .ok (.putfield 56, 3) := by decide +kernel
theorem dX1_goOnUpon_5 : decode cX1_goOnUpon 5 = .ok (.aload_n 0, 1) := by decide +kernel
theorem dX1_goOnUpon_6 : decode cX1_goOnUpon 6 = .ok (.aload_n 0, 1) := by decide +kernel
theorem dX1_goOnUpon_7 : decode cX1_goOnUpon 7 = .ok (.getfield 28, 3) := by decide +kernel
theorem dX1_goOnUpon_10 : decode cX1_goOnUpon 10 = .ok (.getfield 187, 3) := by decide +kernel
theorem dX1_goOnUpon_13 : decode cX1_goOnUpon 13 = .ok (.invokevirtual 203, 3) := by decide +kernel
theorem dX1_goOnUpon_16 : decode cX1_goOnUpon 16 = .ok (.pop, 1) := by decide +kernel
theorem dX1_goOnUpon_17 : decode cX1_goOnUpon 17 = .ok (.aload_n 0, 1) := by decide +kernel
theorem dX1_goOnUpon_18 : decode cX1_goOnUpon 18 = .ok (.getfield 21, 3) := by decide +kernel
theorem dX1_goOnUpon_21 : decode cX1_goOnUpon 21 = .ok (.getfield 135, 3) := by decide +kernel
theorem dX1_goOnUpon_24 : decode cX1_goOnUpon 24 = .ok (.aload_n 0, 1) := by decide +kernel
theorem dX1_goOnUpon_25 : decode cX1_goOnUpon 25 = .ok (.getfield 28, 3) := by decide +kernel
theorem dX1_goOnUpon_28 : decode cX1_goOnUpon 28 = .ok (.getfield 190, 3) := by decide +kernel
theorem dX1_goOnUpon_31 : decode cX1_goOnUpon 31 = .ok (.invokevirtual 199, 3) := by decide +kernel
theorem dX1_goOnUpon_34 : decode cX1_goOnUpon 34 = .ok (.aload_n 0, 1) := by decide +kernel
theorem dX1_goOnUpon_35 : decode cX1_goOnUpon 35 = .ok (.getfield 28, 3) := by decide +kernel
theorem dX1_goOnUpon_38 : decode cX1_goOnUpon 38 = .ok (.invokevirtual 207, 3) := by decide +kernel
theorem dX1_goOnUpon_41 : decode cX1_goOnUpon 41 = .ok (.return_, 1) := by decide +kernel
theorem dX1_dieWithHost_0 : decode cX1_dieWithHost 0 = .ok (.aload_n 0, 1) := by decide +kernel
theorem dX1_dieWithHost_1 : decode cX1_dieWithHost 1 = .ok (.getfield 21, 3) := by decide +kernel
theorem dX1_dieWithHost_4 : decode cX1_dieWithHost 4 = .ok (.getfield 67, 3) := by decide +kernel
theorem dX1_dieWithHost_7 : decode cX1_dieWithHost 7 = .ok (.iconst 3, 1) := by decide +kernel
theorem dX1_dieWithHost_8 : decode cX1_dieWithHost 8 = .ok (.putfield 71, 3) := by decide +kernel
theorem dX1_dieWithHost_11 : decode cX1_dieWithHost 11 = .ok (.aload_n 0, 1) := by decide +kernel
theorem dX1_dieWithHost_12 : decode cX1_dieWithHost 12 = .ok (.getfield 21, 3) := by decide +kernel
theorem dX1_dieWithHost_15 : decode cX1_dieWithHost 15 = .ok (.getfield 67, 3) := by decide +kernel
theorem dX1_dieWithHost_18 : decode cX1_dieWithHost 18 = .ok (.getfield 210, 3) := by decide +kernel
theorem dX1_dieWithHost_21 : decode cX1_dieWithHost 21 = .ok (.iconst 0, 1) := by decide +kernel
theorem dX1_dieWithHost_22 : decode cX1_dieWithHost 22 = .ok (.invokestatic 213, 3) := by decide +kernel
theorem dX1_dieWithHost_25 : decode cX1_dieWithHost 25 = .ok (.aload_n 0, 1) := by decide +kernel
theorem dX1_dieWithHost_26 : decode cX1_dieWithHost 26 = .ok (.sipush 255, 3) := by decide +kernel
theorem dX1_dieWithHost_29 : decode cX1_dieWithHost 29 = .ok (.putfield 47, 3) := by decide +kernel
theorem dX1_dieWithHost_32 : decode cX1_dieWithHost 32 = .ok (.aload_n 0, 1) := by decide +kernel
theorem dX1_dieWithHost_33 : decode cX1_dieWithHost 33 = .ok (.getfield 28, 3) := by decide +kernel
theorem dX1_dieWithHost_36 : decode cX1_dieWithHost 36 = .ok (.invokevirtual 207, 3) := by decide +kernel
theorem dX1_dieWithHost_39 : decode cX1_dieWithHost 39 = .ok (.aload_n 0, 1) := by decide +kernel
theorem dX1_dieWithHost_40 : decode cX1_dieWithHost 40 = .ok (.iconst 1, 1) := by decide +kernel
theorem dX1_dieWithHost_41 : decode cX1_dieWithHost 41 = .ok (.putfield 179, 3) := by decide +kernel
theorem dX1_dieWithHost_44 : decode cX1_dieWithHost 44 = .ok (.return_, 1) := by decide +kernel
theorem dX2_init_0 : decode cX2_init 0 = .ok (.aload_n 0, 1) := by decide +kernel
theorem dX2_init_1 : decode cX2_init 1 = .ok (.invokespecial 3, 3) := by decide +kernel
theorem dX2_init_4 : decode cX2_init 4 = .ok (.aload_n 0, 1) := by decide +kernel
theorem dX2_init_5 : decode cX2_init 5 = .ok (.bipush 40, 2) := by decide +kernel
theorem dX2_init_7 : decode cX2_init 7 = .ok (.newarray .int, 2) := by decide +kernel
theorem dX2_init_9 : decode cX2_init 9 = .ok (.putfield 9, 3) := by decide +kernel
theorem dX2_init_12 : decode cX2_init 12 = .ok (.aload_n 0, 1) := by decide +kernel
theorem dX2_init_13 : decode cX2_init 13 = .ok (.bipush 16, 2) := by decide +kernel
theorem dX2_init_15 : decode cX2_init 15 = .ok (.newarray .int, 2) := by decide +kernel
theorem dX2_init_17 : decode cX2_init 17 = .ok (.putfield 15, 3) := by decide +kernel
theorem dX2_init_20 : decode cX2_init 20 = .ok (.aload_n 0, 1) := by decide +kernel
theorem dX2_init_21 : decode cX2_init 21 = .ok (.bipush 16, 2) := by decide +kernel
theorem dX2_init_23 : decode cX2_init 23 = .ok (.newarray .int, 2) := by decide +kernel
theorem dX2_init_25 : decode cX2_init 25 = .ok (.putfield 18, 3) := by decide +kernel
theorem dX2_init_28 : decode cX2_init 28 = .ok (.aload_n 0, 1) := by decide +kernel
theorem dX2_init_29 : decode cX2_init 29 = .ok (.iload_n 1, 1) := by decide +kernel
theorem dX2_init_30 : decode cX2_init 30 = .ok (.putfield 21, 3) := by decide +kernel
theorem dX2_init_33 : decode cX2_init 33 = .ok (.aload_n 0, 1) := by decide +kernel
theorem dX2_init_34 : decode cX2_init 34 = .ok (.getfield 9, 3) := by decide +kernel
theorem dX2_init_37 : decode cX2_init 37 = .ok (.iconst (-1), 1) := by decide +kernel
theorem dX2_init_38 : decode cX2_init 38 = .ok (.invokestatic 25, 3) := by decide +kernel
theorem dX2_init_41 : decode cX2_init 41 = .ok (.return_, 1) := by decide +kernel
theorem dX2_countUsed_0 : decode cX2_countUsed 0 = .ok (.iconst 0, 1) := by decide +kernel
theorem dX2_countUsed_1 : decode cX2_countUsed 1 = .ok (.istore_n 1, 1) := by decide +kernel
theorem dX2_countUsed_2 : decode cX2_countUsed 2 = .ok (.iconst 0, 1) := by decide +kernel
theorem dX2_countUsed_3 : decode cX2_countUsed 3 = .ok (.istore_n 2, 1) := by decide +kernel
theorem dX2_countUsed_4 : decode cX2_countUsed 4 = .ok (.iload_n 2, 1) := by decide +kernel
theorem dX2_countUsed_5 : decode cX2_countUsed 5 = .ok (.bipush 16, 2) := by decide +kernel
theorem dX2_countUsed_7 : decode cX2_countUsed 7 = .ok (.if_icmp .ge 21, 3) := by decide +kernel
theorem dX2_countUsed_10 : decode cX2_countUsed 10 = .ok (.aload_n 0, 1) := by decide +kernel
theorem dX2_countUsed_11 : decode cX2_countUsed 11 = .ok (.getfield 15, 3) := by decide +kernel
theorem dX2_countUsed_14 : decode cX2_countUsed 14 = .ok (.iload_n 2, 1) := by decide +kernel
theorem dX2_countUsed_15 : decode cX2_countUsed 15 = .ok (.iaload, 1) := by decide +kernel
theorem dX2_countUsed_16 : decode cX2_countUsed 16 = .ok (.ifCond .le 6, 3) := by decide +kernel
theorem dX2_countUsed_19 : decode cX2_countUsed 19 = .ok (.iinc 1 1, 3) := by decide +kernel
theorem dX2_countUsed_22 : decode cX2_countUsed 22 = .ok (.iinc 2 1, 3) := by decide +kernel
theorem dX2_countUsed_25 : decode cX2_countUsed 25 = .ok (.goto (-21), 3) := by decide +kernel
theorem dX2_countUsed_28 : decode cX2_countUsed 28 = .ok (.iload_n 1, 1) := by decide +kernel
theorem dX2_countUsed_29 : decode cX2_countUsed 29 = .ok (.ireturn, 1) := by decide +kernel
theorem dX2_keyIn_0 : decode cX2_keyIn 0 = .ok (.iconst 0, 1) := by decide +kernel
theorem dX2_keyIn_1 : decode cX2_keyIn 1 = .ok (.istore_n 2, 1) := by decide +kernel
theorem dX2_keyIn_2 : decode cX2_keyIn 2 = .ok (.iload_n 2, 1) := by decide +kernel
theorem dX2_keyIn_3 : decode cX2_keyIn 3 = .ok (.aload_n 0, 1) := by decide +kernel
theorem dX2_keyIn_4 : decode cX2_keyIn 4 = .ok (.getfield 9, 3) := by decide +kernel
theorem dX2_keyIn_7 : decode cX2_keyIn 7 = .ok (.arraylength, 1) := by decide +kernel
theorem dX2_keyIn_8 : decode cX2_keyIn 8 = .ok (.if_icmp .ge 21, 3) := by decide +kernel
theorem dX2_keyIn_11 : decode cX2_keyIn 11 = .ok (.aload_n 0, 1) := by decide +kernel
theorem dX2_keyIn_12 : decode cX2_keyIn 12 = .ok (.getfield 9, 3) := by decide +kernel
theorem dX2_keyIn_15 : decode cX2_keyIn 15 = .ok (.iload_n 2, 1) := by decide +kernel
theorem dX2_keyIn_16 : decode cX2_keyIn 16 = .ok (.iaload, 1) := by decide +kernel
theorem dX2_keyIn_17 : decode cX2_keyIn 17 = .ok (.iload_n 1, 1) := by decide +kernel
theorem dX2_keyIn_18 : decode cX2_keyIn 18 = .ok (.if_icmp .ne 5, 3) := by decide +kernel
theorem dX2_keyIn_21 : decode cX2_keyIn 21 = .ok (.iload_n 2, 1) := by decide +kernel
theorem dX2_keyIn_22 : decode cX2_keyIn 22 = .ok (.ireturn, 1) := by decide +kernel
theorem dX2_keyIn_23 : decode cX2_keyIn 23 = .ok (.iinc 2 1, 3) := by decide +kernel
theorem dX2_keyIn_26 : decode cX2_keyIn 26 = .ok (.goto (-24), 3) := by decide +kernel
theorem dX2_keyIn_29 : decode cX2_keyIn 29 = .ok (.iconst (-1), 1) := by decide +kernel
theorem dX2_keyIn_30 : decode cX2_keyIn 30 = .ok (.ireturn, 1) := by decide +kernel
theorem dX2_hold_0 : decode cX2_hold 0 = .ok (.aload_n 0, 1) := by decide +kernel
theorem dX2_hold_1 : decode cX2_hold 1 = .ok (.invokevirtual 31, 3) := by decide +kernel
theorem dX2_hold_4 : decode cX2_hold 4 = .ok (.istore_n 3, 1) := by decide +kernel
theorem dX2_hold_5 : decode cX2_hold 5 = .ok (.iload_n 3, 1) := by decide +kernel
theorem dX2_hold_6 : decode cX2_hold 6 = .ok (.iconst (-1), 1) := by decide +kernel
theorem dX2_hold_7 : decode cX2_hold 7 = .ok (.if_icmp .ne 15, 3) := by decide +kernel
theorem dX2_hold_10 : decode cX2_hold 10 = .ok (.aload_n 0, 1) := by decide +kernel
theorem dX2_hold_11 : decode cX2_hold 11 = .ok (.iload_n 2, 1) := by decide +kernel
theorem dX2_hold_12 : decode cX2_hold 12 = .ok (.invokevirtual 35, 3) := by decide +kernel
theorem dX2_hold_15 : decode cX2_hold 15 = .ok (.istore_n 3, 1) := by decide +kernel
theorem dX2_hold_16 : decode cX2_hold 16 = .ok (.aload_n 0, 1) := by decide +kernel
theorem dX2_hold_17 : decode cX2_hold 17 = .ok (.iload_n 3, 1) := by decide +kernel
theorem dX2_hold_18 : decode cX2_hold 18 = .ok (.iconst (-1), 1) := by decide +kernel
theorem dX2_hold_19 : decode cX2_hold 19 = .ok (.invokevirtual 39, 3) := by decide +kernel
theorem dX2_hold_22 : decode cX2_hold 22 = .ok (.aload_n 0, 1) := by decide +kernel
theorem dX2_hold_23 : decode cX2_hold 23 = .ok (.getfield 9, 3) := by decide +kernel
theorem dX2_hold_26 : decode cX2_hold 26 = .ok (.iload_n 1, 1) := by decide +kernel
theorem dX2_hold_27 : decode cX2_hold 27 = .ok (.iload_n 3, 1) := by decide +kernel
theorem dX2_hold_28 : decode cX2_hold 28 = .ok (.iastore, 1) := by decide +kernel
theorem dX2_hold_29 : decode cX2_hold 29 = .ok (.aload_n 0, 1) := by decide +kernel
theorem dX2_hold_30 : decode cX2_hold 30 = .ok (.getfield 15, 3) := by decide +kernel
theorem dX2_hold_33 : decode cX2_hold 33 = .ok (.iload_n 3, 1) := by decide +kernel
theorem dX2_hold_34 : decode cX2_hold 34 = .ok (.dup2, 1) := by decide +kernel
theorem dX2_hold_35 : decode cX2_hold 35 = .ok (.iaload, 1) := by decide +kernel
theorem dX2_hold_36 : decode cX2_hold 36 = .ok (.iconst 1, 1) := by decide +kernel
theorem dX2_hold_37 : decode cX2_hold 37 = .ok (.iadd, 1) := by decide +kernel
theorem dX2_hold_38 : decode cX2_hold 38 = .ok (.iastore, 1) := by decide +kernel
theorem dX2_hold_39 : decode cX2_hold 39 = .ok (.aload_n 0, 1) := by decide +kernel
theorem dX2_hold_40 : decode cX2_hold 40 = .ok (.getfield 18, 3) := by decide +kernel
theorem dX2_hold_43 : decode cX2_hold 43 = .ok (.iload_n 3, 1) := by decide +kernel
theorem dX2_hold_44 : decode cX2_hold 44 = .ok (.aload_n 0, 1) := by decide +kernel
theorem dX2_hold_45 : decode cX2_hold 45 = .ok (.getfield 43, 3) := by decide +kernel
theorem dX2_hold_48 : decode cX2_hold 48 = .ok (.iastore, 1) := by decide +kernel
theorem dX2_hold_49 : decode cX2_hold 49 = .ok (.return_, 1) := by decide +kernel
theorem dX2_leave_0 : decode cX2_leave 0 = .ok (.aload_n 0, 1) := by decide +kernel
theorem dX2_leave_1 : decode cX2_leave 1 = .ok (.getfield 9, 3) := by decide +kernel
theorem dX2_leave_4 : decode cX2_leave 4 = .ok (.iload_n 1, 1) := by decide +kernel
theorem dX2_leave_5 : decode cX2_leave 5 = .ok (.iaload, 1) := by decide +kernel
theorem dX2_leave_6 : decode cX2_leave 6 = .ok (.istore_n 2, 1) := by decide +kernel
theorem dX2_leave_7 : decode cX2_leave 7 = .ok (.iload_n 2, 1) := by decide +kernel
theorem dX2_leave_8 : decode cX2_leave 8 = .ok (.iconst (-1), 1) := by decide +kernel
theorem dX2_leave_9 : decode cX2_leave 9 = .ok (.if_icmp .eq 20, 3) := by decide +kernel
theorem dX2_leave_12 : decode cX2_leave 12 = .ok (.aload_n 0, 1) := by decide +kernel
theorem dX2_leave_13 : decode cX2_leave 13 = .ok (.getfield 15, 3) := by decide +kernel
theorem dX2_leave_16 : decode cX2_leave 16 = .ok (.iload_n 2, 1) := by decide +kernel
theorem dX2_leave_17 : decode cX2_leave 17 = .ok (.dup2, 1) := by decide +kernel
theorem dX2_leave_18 : decode cX2_leave 18 = .ok (.iaload, 1) := by decide +kernel
theorem dX2_leave_19 : decode cX2_leave 19 = .ok (.iconst 1, 1) := by decide +kernel
theorem dX2_leave_20 : decode cX2_leave 20 = .ok (.isub, 1) := by decide +kernel
theorem dX2_leave_21 : decode cX2_leave 21 = .ok (.iastore, 1) := by decide +kernel
theorem dX2_leave_22 : decode cX2_leave 22 = .ok (.aload_n 0, 1) := by decide +kernel
theorem dX2_leave_23 : decode cX2_leave 23 = .ok (.getfield 9, 3) := by decide +kernel
theorem dX2_leave_26 : decode cX2_leave 26 = .ok (.iload_n 1, 1) := by decide +kernel
theorem dX2_leave_27 : decode cX2_leave 27 = .ok (.iconst (-1), 1) := by decide +kernel
theorem dX2_leave_28 : decode cX2_leave 28 = .ok (.iastore, 1) := by decide +kernel
theorem dX2_leave_29 : decode cX2_leave 29 = .ok (.return_, 1) := by decide +kernel
theorem dX2_merge_0 : decode cX2_merge 0 = .ok (.aload_n 0, 1) := by decide +kernel
theorem dX2_merge_1 : decode cX2_merge 1 = .ok (.getfield 15, 3) := by decide +kernel
theorem dX2_merge_4 : decode cX2_merge 4 = .ok (.iload_n 1, 1) := by decide +kernel
theorem dX2_merge_5 : decode cX2_merge 5 = .ok (.dup2, 1) := by decide +kernel
theorem dX2_merge_6 : decode cX2_merge 6 = .ok (.iaload, 1) := by decide +kernel
theorem dX2_merge_7 : decode cX2_merge 7 = .ok (.aload_n 0, 1) := by decide +kernel
theorem dX2_merge_8 : decode cX2_merge 8 = .ok (.getfield 15, 3) := by decide +kernel
theorem dX2_merge_11 : decode cX2_merge 11 = .ok (.iload_n 2, 1) := by decide +kernel
theorem dX2_merge_12 : decode cX2_merge 12 = .ok (.iaload, 1) := by decide +kernel
theorem dX2_merge_13 : decode cX2_merge 13 = .ok (.iadd, 1) := by decide +kernel
theorem dX2_merge_14 : decode cX2_merge 14 = .ok (.iastore, 1) := by decide +kernel
theorem dX2_merge_15 : decode cX2_merge 15 = .ok (.aload_n 0, 1) := by decide +kernel
theorem dX2_merge_16 : decode cX2_merge 16 = .ok (.getfield 18, 3) := by decide +kernel
theorem dX2_merge_19 : decode cX2_merge 19 = .ok (.iload_n 1, 1) := by decide +kernel
theorem dX2_merge_20 : decode cX2_merge 20 = .ok (.aload_n 0, 1) := by decide +kernel
theorem dX2_merge_21 : decode cX2_merge 21 = .ok (.getfield 18, 3) := by decide +kernel
theorem dX2_merge_24 : decode cX2_merge 24 = .ok (.iload_n 1, 1) := by decide +kernel
theorem dX2_merge_25 : decode cX2_merge 25 = .ok (.iaload, 1) := by decide +kernel
theorem dX2_merge_26 : decode cX2_merge 26 = .ok (.aload_n 0, 1) := by decide +kernel
theorem dX2_merge_27 : decode cX2_merge 27 = .ok (.getfield 18, 3) := by decide +kernel
theorem dX2_merge_30 : decode cX2_merge 30 = .ok (.iload_n 2, 1) := by decide +kernel
theorem dX2_merge_31 : decode cX2_merge 31 = .ok (.iaload, 1) := by decide +kernel
theorem dX2_merge_32 : decode cX2_merge 32 = .ok (.invokestatic 46, 3) := by decide +kernel
theorem dX2_merge_35 : decode cX2_merge 35 = .ok (.iastore, 1) := by decide +kernel
theorem dX2_merge_36 : decode cX2_merge 36 = .ok (.aload_n 0, 1) := by decide +kernel
theorem dX2_merge_37 : decode cX2_merge 37 = .ok (.iload_n 2, 1) := by decide +kernel
theorem dX2_merge_38 : decode cX2_merge 38 = .ok (.iload_n 1, 1) := by decide +kernel
theorem dX2_merge_39 : decode cX2_merge 39 = .ok (.invokevirtual 39, 3) := by decide +kernel
theorem dX2_merge_42 : decode cX2_merge 42 = .ok (.return_, 1) := by decide +kernel
theorem dX2_lowestFree_0 : decode cX2_lowestFree 0 = .ok (.iconst 0, 1) := by decide +kernel
theorem dX2_lowestFree_1 : decode cX2_lowestFree 1 = .ok (.istore_n 1, 1) := by decide +kernel
theorem dX2_lowestFree_2 : decode cX2_lowestFree 2 = .ok (.iload_n 1, 1) := by decide +kernel
theorem dX2_lowestFree_3 : decode cX2_lowestFree 3 = .ok (.bipush 16, 2) := by decide +kernel
theorem dX2_lowestFree_5 : decode cX2_lowestFree 5 = .ok (.if_icmp .ge 20, 3) := by decide +kernel
theorem dX2_lowestFree_8 : decode cX2_lowestFree 8 = .ok (.aload_n 0, 1) := by decide +kernel
theorem dX2_lowestFree_9 : decode cX2_lowestFree 9 = .ok (.getfield 15, 3) := by decide +kernel
theorem dX2_lowestFree_12 : decode cX2_lowestFree 12 = .ok (.iload_n 1, 1) := by decide +kernel
theorem dX2_lowestFree_13 : decode cX2_lowestFree 13 = .ok (.iaload, 1) := by decide +kernel
theorem dX2_lowestFree_14 : decode cX2_lowestFree 14 = .ok (.ifCond .ne 5, 3) := by decide +kernel
theorem dX2_lowestFree_17 : decode cX2_lowestFree 17 = .ok (.iload_n 1, 1) := by decide +kernel
theorem dX2_lowestFree_18 : decode cX2_lowestFree 18 = .ok (.ireturn, 1) := by decide +kernel
theorem dX2_lowestFree_19 : decode cX2_lowestFree 19 = .ok (.iinc 1 1, 3) := by decide +kernel
theorem dX2_lowestFree_22 : decode cX2_lowestFree 22 = .ok (.goto (-20), 3) := by decide +kernel
theorem dX2_lowestFree_25 : decode cX2_lowestFree 25 = .ok (.iconst (-1), 1) := by decide +kernel
theorem dX2_lowestFree_26 : decode cX2_lowestFree 26 = .ok (.ireturn, 1) := by decide +kernel
theorem dX2_oldestBut_0 : decode cX2_oldestBut 0 = .ok (.iload_n 1, 1) := by decide +kernel
theorem dX2_oldestBut_1 : decode cX2_oldestBut 1 = .ok (.ifCond .ne 7, 3) := by decide +kernel
theorem dX2_oldestBut_4 : decode cX2_oldestBut 4 = .ok (.iconst 1, 1) := by decide +kernel
theorem dX2_oldestBut_5 : decode cX2_oldestBut 5 = .ok (.goto 4, 3) := by decide +kernel
theorem dX2_oldestBut_8 : decode cX2_oldestBut 8 = .ok (.iconst 0, 1) := by decide +kernel
theorem dX2_oldestBut_9 : decode cX2_oldestBut 9 = .ok (.istore_n 2, 1) := by decide +kernel
theorem dX2_oldestBut_10 : decode cX2_oldestBut 10 = .ok (.iconst 0, 1) := by decide +kernel
theorem dX2_oldestBut_11 : decode cX2_oldestBut 11 = .ok (.istore_n 3, 1) := by decide +kernel
theorem dX2_oldestBut_12 : decode cX2_oldestBut 12 = .ok (.iload_n 3, 1) := by decide +kernel
theorem dX2_oldestBut_13 : decode cX2_oldestBut 13 = .ok (.bipush 16, 2) := by decide +kernel
theorem dX2_oldestBut_15 : decode cX2_oldestBut 15 = .ok (.if_icmp .ge 31, 3) := by decide +kernel
theorem dX2_oldestBut_18 : decode cX2_oldestBut 18 = .ok (.iload_n 3, 1) := by decide +kernel
theorem dX2_oldestBut_19 : decode cX2_oldestBut 19 = .ok (.iload_n 1, 1) := by decide +kernel
theorem dX2_oldestBut_20 : decode cX2_oldestBut 20 = .ok (.if_icmp .eq 20, 3) := by decide +kernel
theorem dX2_oldestBut_23 : decode cX2_oldestBut 23 = .ok (.aload_n 0, 1) := by decide +kernel
theorem dX2_oldestBut_24 : decode cX2_oldestBut 24 = .ok (.getfield 18, 3) := by decide +kernel
theorem dX2_oldestBut_27 : decode cX2_oldestBut 27 = .ok (.iload_n 3, 1) := by decide +kernel
theorem dX2_oldestBut_28 : decode cX2_oldestBut 28 = .ok (.iaload, 1) := by decide +kernel
theorem dX2_oldestBut_29 : decode cX2_oldestBut 29 = .ok (.aload_n 0, 1) := by decide +kernel
theorem dX2_oldestBut_30 : decode cX2_oldestBut 30 = .ok (.getfield 18, 3) := by decide +kernel
theorem dX2_oldestBut_33 : decode cX2_oldestBut 33 = .ok (.iload_n 2, 1) := by decide +kernel
theorem dX2_oldestBut_34 : decode cX2_oldestBut 34 = .ok (.iaload, 1) := by decide +kernel
theorem dX2_oldestBut_35 : decode cX2_oldestBut 35 = .ok (.if_icmp .ge 5, 3) := by decide +kernel
theorem dX2_oldestBut_38 : decode cX2_oldestBut 38 = .ok (.iload_n 3, 1) := by decide +kernel
theorem dX2_oldestBut_39 : decode cX2_oldestBut 39 = .ok (.istore_n 2, 1) := by decide +kernel
theorem dX2_oldestBut_40 : decode cX2_oldestBut 40 = .ok (.iinc 3 1, 3) := by decide +kernel
theorem dX2_oldestBut_43 : decode cX2_oldestBut 43 = .ok (.goto (-31), 3) := by decide +kernel
theorem dX2_oldestBut_46 : decode cX2_oldestBut 46 = .ok (.iload_n 2, 1) := by decide +kernel
theorem dX2_oldestBut_47 : decode cX2_oldestBut 47 = .ok (.ireturn, 1) := by decide +kernel
theorem dX2_moveAll_0 : decode cX2_moveAll 0 = .ok (.iconst 0, 1) := by decide +kernel
theorem dX2_moveAll_1 : decode cX2_moveAll 1 = .ok (.istore_n 3, 1) := by decide +kernel
theorem dX2_moveAll_2 : decode cX2_moveAll 2 = .ok (.iload_n 3, 1) := by decide +kernel
theorem dX2_moveAll_3 : decode cX2_moveAll 3 = .ok (.aload_n 0, 1) := by decide +kernel
theorem dX2_moveAll_4 : decode cX2_moveAll 4 = .ok (.getfield 9, 3) := by decide +kernel
theorem dX2_moveAll_7 : decode cX2_moveAll 7 = .ok (.arraylength, 1) := by decide +kernel
theorem dX2_moveAll_8 : decode cX2_moveAll 8 = .ok (.if_icmp .ge 26, 3) := by decide +kernel
theorem dX2_moveAll_11 : decode cX2_moveAll 11 = .ok (.aload_n 0, 1) := by decide +kernel
theorem dX2_moveAll_12 : decode cX2_moveAll 12 = .ok (.getfield 9, 3) := by decide +kernel
theorem dX2_moveAll_15 : decode cX2_moveAll 15 = .ok (.iload_n 3, 1) := by decide +kernel
theorem dX2_moveAll_16 : decode cX2_moveAll 16 = .ok (.iaload, 1) := by decide +kernel
theorem dX2_moveAll_17 : decode cX2_moveAll 17 = .ok (.iload_n 1, 1) := by decide +kernel
theorem dX2_moveAll_18 : decode cX2_moveAll 18 = .ok (.if_icmp .ne 10, 3) := by decide +kernel
theorem dX2_moveAll_21 : decode cX2_moveAll 21 = .ok (.aload_n 0, 1) := by decide +kernel
theorem dX2_moveAll_22 : decode cX2_moveAll 22 = .ok (.getfield 9, 3) := by decide +kernel
theorem dX2_moveAll_25 : decode cX2_moveAll 25 = .ok (.iload_n 3, 1) := by decide +kernel
theorem dX2_moveAll_26 : decode cX2_moveAll 26 = .ok (.iload_n 2, 1) := by decide +kernel
theorem dX2_moveAll_27 : decode cX2_moveAll 27 = .ok (.iastore, 1) := by decide +kernel
theorem dX2_moveAll_28 : decode cX2_moveAll 28 = .ok (.iinc 3 1, 3) := by decide +kernel
theorem dX2_moveAll_31 : decode cX2_moveAll 31 = .ok (.goto (-29), 3) := by decide +kernel
theorem dX2_moveAll_34 : decode cX2_moveAll 34 = .ok (.aload_n 0, 1) := by decide +kernel
theorem dX2_moveAll_35 : decode cX2_moveAll 35 = .ok (.getfield 15, 3) := by decide +kernel
theorem dX2_moveAll_38 : decode cX2_moveAll 38 = .ok (.iload_n 1, 1) := by decide +kernel
theorem dX2_moveAll_39 : decode cX2_moveAll 39 = .ok (.iconst 0, 1) := by decide +kernel
theorem dX2_moveAll_40 : decode cX2_moveAll 40 = .ok (.iastore, 1) := by decide +kernel
theorem dX2_moveAll_41 : decode cX2_moveAll 41 = .ok (.return_, 1) := by decide +kernel
theorem dX3_init_0 : decode cX3_init 0 = .ok (.aload_n 0, 1) := by decide +kernel
theorem dX3_init_1 : decode cX3_init 1 = .ok (.invokespecial 3, 3) := by decide +kernel
theorem dX3_init_4 : decode cX3_init 4 = .ok (.aload_n 0, 1) := by decide +kernel
theorem dX3_init_5 : decode cX3_init 5 = .ok (.iconst 4, 1) := by decide +kernel
theorem dX3_init_6 : decode cX3_init 6 = .ok (.newarray .int, 2) := by decide +kernel
theorem dX3_init_8 : decode cX3_init 8 = .ok (.putfield 9, 3) := by decide +kernel
theorem dX3_init_11 : decode cX3_init 11 = .ok (.aload_n 0, 1) := by decide +kernel
theorem dX3_init_12 : decode cX3_init 12 = .ok (.bipush 8, 2) := by decide +kernel
theorem dX3_init_14 : decode cX3_init 14 = .ok (.newarray .int, 2) := by decide +kernel
theorem dX3_init_16 : decode cX3_init 16 = .ok (.dup, 1) := by decide +kernel
theorem dX3_init_17 : decode cX3_init 17 = .ok (.iconst 0, 1) := by decide +kernel
theorem dX3_init_18 : decode cX3_init 18 = .ok (.iconst 0, 1) := by decide +kernel
theorem dX3_init_19 : decode cX3_init 19 = .ok (.iastore, 1) := by decide +kernel
theorem dX3_init_20 : decode cX3_init 20 = .ok (.dup, 1) := by decide +kernel
theorem dX3_init_21 : decode cX3_init 21 = .ok (.iconst 1, 1) := by decide +kernel
theorem dX3_init_22 : decode cX3_init 22 = .ok (.iconst 1, 1) := by decide +kernel
theorem dX3_init_23 : decode cX3_init 23 = .ok (.iastore, 1) := by decide +kernel
theorem dX3_init_24 : decode cX3_init 24 = .ok (.dup, 1) := by decide +kernel
theorem dX3_init_25 : decode cX3_init 25 = .ok (.iconst 2, 1) := by decide +kernel
theorem dX3_init_26 : decode cX3_init 26 = .ok (.iconst 2, 1) := by decide +kernel
theorem dX3_init_27 : decode cX3_init 27 = .ok (.iastore, 1) := by decide +kernel
theorem dX3_init_28 : decode cX3_init 28 = .ok (.dup, 1) := by decide +kernel
theorem dX3_init_29 : decode cX3_init 29 = .ok (.iconst 3, 1) := by decide +kernel
theorem dX3_init_30 : decode cX3_init 30 = .ok (.iconst 3, 1) := by decide +kernel
theorem dX3_init_31 : decode cX3_init 31 = .ok (.iastore, 1) := by decide +kernel
theorem dX3_init_32 : decode cX3_init 32 = .ok (.dup, 1) := by decide +kernel
theorem dX3_init_33 : decode cX3_init 33 = .ok (.iconst 4, 1) := by decide +kernel
theorem dX3_init_34 : decode cX3_init 34 = .ok (.iconst 4, 1) := by decide +kernel
theorem dX3_init_35 : decode cX3_init 35 = .ok (.iastore, 1) := by decide +kernel
theorem dX3_init_36 : decode cX3_init 36 = .ok (.dup, 1) := by decide +kernel
theorem dX3_init_37 : decode cX3_init 37 = .ok (.iconst 5, 1) := by decide +kernel
theorem dX3_init_38 : decode cX3_init 38 = .ok (.iconst 5, 1) := by decide +kernel
theorem dX3_init_39 : decode cX3_init 39 = .ok (.iastore, 1) := by decide +kernel
theorem dX3_init_40 : decode cX3_init 40 = .ok (.dup, 1) := by decide +kernel
theorem dX3_init_41 : decode cX3_init 41 = .ok (.bipush 6, 2) := by decide +kernel
theorem dX3_init_43 : decode cX3_init 43 = .ok (.bipush 6, 2) := by decide +kernel
theorem dX3_init_45 : decode cX3_init 45 = .ok (.iastore, 1) := by decide +kernel
theorem dX3_init_46 : decode cX3_init 46 = .ok (.dup, 1) := by decide +kernel
theorem dX3_init_47 : decode cX3_init 47 = .ok (.bipush 7, 2) := by decide +kernel
theorem dX3_init_49 : decode cX3_init 49 = .ok (.bipush 7, 2) := by decide +kernel
theorem dX3_init_51 : decode cX3_init 51 = .ok (.iastore, 1) := by decide +kernel
theorem dX3_init_52 : decode cX3_init 52 = .ok (.putfield 15, 3) := by decide +kernel
theorem dX3_init_55 : decode cX3_init 55 = .ok (.aload_n 0, 1) := by decide +kernel
theorem dX3_init_56 : decode cX3_init 56 = .ok (.bipush 32, 2) := by decide +kernel
theorem dX3_init_58 : decode cX3_init 58 = .ok (.newarray .int, 2) := by decide +kernel
theorem dX3_init_60 : decode cX3_init 60 = .ok (.putfield 18, 3) := by decide +kernel
theorem dX3_init_63 : decode cX3_init 63 = .ok (.aload_n 0, 1) := by decide +kernel
theorem dX3_init_64 : decode cX3_init 64 = .ok (.iconst (-1), 1) := by decide +kernel
theorem dX3_init_65 : decode cX3_init 65 = .ok (.putfield 21, 3) := by decide +kernel
theorem dX3_init_68 : decode cX3_init 68 = .ok (.aload_n 0, 1) := by decide +kernel
theorem dX3_init_69 : decode cX3_init 69 = .ok (.iconst 0, 1) := by decide +kernel
theorem dX3_init_70 : decode cX3_init 70 = .ok (.putfield 25, 3) := by decide +kernel
theorem dX3_init_73 : decode cX3_init 73 = .ok (.return_, 1) := by decide +kernel
theorem dX3_hasEnded_0 : decode cX3_hasEnded 0 = .ok (.aload_n 0, 1) := by decide +kernel
theorem dX3_hasEnded_1 : decode cX3_hasEnded 1 = .ok (.getfield 25, 3) := by decide +kernel
theorem dX3_hasEnded_4 : decode cX3_hasEnded 4 = .ok (.iconst 2, 1) := by decide +kernel
theorem dX3_hasEnded_5 : decode cX3_hasEnded 5 = .ok (.if_icmp .eq 11, 3) := by decide +kernel
theorem dX3_hasEnded_8 : decode cX3_hasEnded 8 = .ok (.aload_n 0, 1) := by decide +kernel
theorem dX3_hasEnded_9 : decode cX3_hasEnded 9 = .ok (.getfield 25, 3) := by decide +kernel
theorem dX3_hasEnded_12 : decode cX3_hasEnded 12 = .ok (.iconst 3, 1) := by decide +kernel
theorem dX3_hasEnded_13 : decode cX3_hasEnded 13 = .ok (.if_icmp .ne 7, 3) := by decide +kernel
theorem dX3_hasEnded_16 : decode cX3_hasEnded 16 = .ok (.iconst 1, 1) := by decide +kernel
theorem dX3_hasEnded_17 : decode cX3_hasEnded 17 = .ok (.goto 4, 3) := by decide +kernel
theorem dX3_hasEnded_20 : decode cX3_hasEnded 20 = .ok (.iconst 0, 1) := by decide +kernel
theorem dX3_hasEnded_21 : decode cX3_hasEnded 21 = .ok (.ireturn, 1) := by decide +kernel
theorem dX3_doNext_0 : decode cX3_doNext 0 = .ok (.aload_n 0, 1) := by decide +kernel
theorem dX3_doNext_1 : decode cX3_doNext 1 = .ok (.getfield 28, 3) := by decide +kernel
theorem dX3_doNext_4 : decode cX3_doNext 4 = .ok (.ifCond .lt 14, 3) := by decide +kernel
theorem dX3_doNext_7 : decode cX3_doNext 7 = .ok (.aload_n 0, 1) := by decide +kernel
theorem dX3_doNext_8 : decode cX3_doNext 8 = .ok (.getfield 28, 3) := by decide +kernel
theorem dX3_doNext_11 : decode cX3_doNext 11 = .ok (.aload_n 1, 1) := by decide +kernel
theorem dX3_doNext_12 : decode cX3_doNext 12 = .ok (.getfield 31, 3) := by decide +kernel
theorem dX3_doNext_15 : decode cX3_doNext 15 = .ok (.if_icmp .lt 9, 3) := by decide +kernel
theorem dX3_doNext_18 : decode cX3_doNext 18 = .ok (.aload_n 0, 1) := by decide +kernel
theorem dX3_doNext_19 : decode cX3_doNext 19 = .ok (.iconst 2, 1) := by decide +kernel
theorem dX3_doNext_20 : decode cX3_doNext 20 = .ok (.putfield 25, 3) := by decide +kernel
theorem dX3_doNext_23 : decode cX3_doNext 23 = .ok (.return_, 1) := by decide +kernel
theorem dX3_doNext_24 : decode cX3_doNext 24 = .ok (.aload_n 1, 1) := by decide +kernel
theorem dX3_doNext_25 : decode cX3_doNext 25 = .ok (.getfield 36, 3) := by decide +kernel
theorem dX3_doNext_28 : decode cX3_doNext 28 = .ok (.aload_n 0, 1) := by decide +kernel
theorem dX3_doNext_29 : decode cX3_doNext 29 = .ok (.getfield 28, 3) := by decide +kernel
theorem dX3_doNext_32 : decode cX3_doNext 32 = .ok (.iaload, 1) := by decide +kernel
theorem dX3_doNext_33 : decode cX3_doNext 33 = .ok (.istore_n 3, 1) := by decide +kernel
theorem dX3_doNext_34 : decode cX3_doNext 34 = .ok (.aload_n 1, 1) := by decide +kernel
theorem dX3_doNext_35 : decode cX3_doNext 35 = .ok (.getfield 39, 3) := by decide +kernel
theorem dX3_doNext_38 : decode cX3_doNext 38 = .ok (.aload_n 0, 1) := by decide +kernel
theorem dX3_doNext_39 : decode cX3_doNext 39 = .ok (.getfield 28, 3) := by decide +kernel
theorem dX3_doNext_42 : decode cX3_doNext 42 = .ok (.iaload, 1) := by decide +kernel
theorem dX3_doNext_43 : decode cX3_doNext 43 = .ok (.istore 4, 2) := by decide +kernel
theorem dX3_doNext_45 : decode cX3_doNext 45 = .ok (.aload_n 1, 1) := by decide +kernel
theorem dX3_doNext_46 : decode cX3_doNext 46 = .ok (.getfield 42, 3) := by decide +kernel
theorem dX3_doNext_49 : decode cX3_doNext 49 = .ok (.aload_n 0, 1) := by decide +kernel
theorem dX3_doNext_50 : decode cX3_doNext 50 = .ok (.getfield 28, 3) := by decide +kernel
theorem dX3_doNext_53 : decode cX3_doNext 53 = .ok (.iaload, 1) := by decide +kernel
theorem dX3_doNext_54 : decode cX3_doNext 54 = .ok (.istore 5, 2) := by decide +kernel
theorem dX3_doNext_56 : decode cX3_doNext 56 = .ok (.iload 5, 2) := by decide +kernel
theorem dX3_doNext_58 : decode cX3_doNext 58 = .ok (.iconst 2, 1) := by decide +kernel
theorem dX3_doNext_59 : decode cX3_doNext 59 = .ok (.if_icmp .eq 9, 3) := by decide +kernel
theorem dX3_doNext_62 : decode cX3_doNext 62 = .ok (.iload 5, 2) := by decide +kernel
theorem dX3_doNext_64 : decode cX3_doNext 64 = .ok (.iconst 3, 1) := by decide +kernel
theorem dX3_doNext_65 : decode cX3_doNext 65 = .ok (.if_icmp .ne 34, 3) := by decide +kernel
theorem dX3_doNext_68 : decode cX3_doNext 68 = .ok (.aload_n 0, 1) := by decide +kernel
theorem dX3_doNext_69 : decode cX3_doNext 69 = .ok (.iload 5, 2) := by decide +kernel
theorem dX3_doNext_71 : decode cX3_doNext 71 = .ok (.iconst 3, 1) := by decide +kernel
theorem dX3_doNext_72 : decode cX3_doNext 72 = .ok (.if_icmp .ne 7, 3) := by decide +kernel
theorem dX3_doNext_75 : decode cX3_doNext 75 = .ok (.iconst 1, 1) := by decide +kernel
theorem dX3_doNext_76 : decode cX3_doNext 76 = .ok (.goto 4, 3) := by decide +kernel
theorem dX3_doNext_79 : decode cX3_doNext 79 = .ok (.iconst 0, 1) := by decide +kernel
theorem dX3_doNext_80 : decode cX3_doNext 80 = .ok (.iload_n 3, 1) := by decide +kernel
theorem dX3_doNext_81 : decode cX3_doNext 81 = .ok (.aload_n 0, 1) := by decide +kernel
theorem dX3_doNext_82 : decode cX3_doNext 82 = .ok (.aload_n 0, 1) := by decide +kernel
theorem dX3_doNext_83 : decode cX3_doNext 83 = .ok (.getfield 9, 3) := by decide +kernel
theorem dX3_doNext_86 : decode cX3_doNext 86 = .ok (.iload 4, 2) := by decide +kernel
theorem dX3_doNext_88 : decode cX3_doNext 88 = .ok (.iaload, 1) := by decide +kernel
theorem dX3_doNext_89 : decode cX3_doNext 89 = .ok (.invokevirtual 45, 3) := by decide +kernel
theorem dX3_doNext_92 : decode cX3_doNext 92 = .ok (.aload_n 2, 1) := by decide +kernel
theorem dX3_doNext_93 : decode cX3_doNext 93 = .ok (.invokevirtual 49, 3) := by decide +kernel
theorem dX3_doNext_96 : decode cX3_doNext 96 = .ok (.goto 84, 3) := by decide +kernel
theorem dX3_doNext_99 : decode cX3_doNext 99 = .ok (.iload 5, 2) := by decide +kernel
theorem dX3_doNext_101 : decode cX3_doNext 101 = .ok (.bipush 6, 2) := by decide +kernel
theorem dX3_doNext_103 : decode cX3_doNext 103 = .ok (.if_icmp .eq 10, 3) := by decide +kernel
theorem dX3_doNext_106 : decode cX3_doNext 106 = .ok (.iload 5, 2) := by decide +kernel
theorem dX3_doNext_108 : decode cX3_doNext 108 = .ok (.bipush 7, 2) := by decide +kernel
theorem dX3_doNext_110 : decode cX3_doNext 110 = .ok (.if_icmp .ne 26, 3) := by decide +kernel
theorem dX3_doNext_113 : decode cX3_doNext 113 = .ok (.aload_n 0, 1) := by decide +kernel
theorem dX3_doNext_114 : decode cX3_doNext 114 = .ok (.iload 5, 2) := by decide +kernel
theorem dX3_doNext_116 : decode cX3_doNext 116 = .ok (.bipush 6, 2) := by decide +kernel
theorem dX3_doNext_118 : decode cX3_doNext 118 = .ok (.if_icmp .ne 7, 3) := by decide +kernel
theorem dX3_doNext_121 : decode cX3_doNext 121 = .ok (.iconst 1, 1) := by decide +kernel
theorem dX3_doNext_122 : decode cX3_doNext 122 = .ok (.goto 4, 3) := by decide +kernel
theorem dX3_doNext_125 : decode cX3_doNext 125 = .ok (.iconst 0, 1) := by decide +kernel
theorem dX3_doNext_126 : decode cX3_doNext 126 = .ok (.iload_n 3, 1) := by decide +kernel
theorem dX3_doNext_127 : decode cX3_doNext 127 = .ok (.iload 4, 2) := by decide +kernel
theorem dX3_doNext_129 : decode cX3_doNext 129 = .ok (.aload_n 2, 1) := by decide +kernel
theorem dX3_doNext_130 : decode cX3_doNext 130 = .ok (.invokevirtual 53, 3) := by decide +kernel
theorem dX3_doNext_133 : decode cX3_doNext 133 = .ok (.goto 47, 3) := by decide +kernel
theorem dX3_doNext_136 : decode cX3_doNext 136 = .ok (.iload 5, 2) := by decide +kernel
theorem dX3_doNext_138 : decode cX3_doNext 138 = .ok (.bipush 8, 2) := by decide +kernel
theorem dX3_doNext_140 : decode cX3_doNext 140 = .ok (.if_icmp .eq 10, 3) := by decide +kernel
theorem dX3_doNext_143 : decode cX3_doNext 143 = .ok (.iload 5, 2) := by decide +kernel
theorem dX3_doNext_145 : decode cX3_doNext 145 = .ok (.bipush 13, 2) := by decide +kernel
theorem dX3_doNext_147 : decode cX3_doNext 147 = .ok (.if_icmp .ne 23, 3) := by decide +kernel
theorem dX3_doNext_150 : decode cX3_doNext 150 = .ok (.aload_n 0, 1) := by decide +kernel
theorem dX3_doNext_151 : decode cX3_doNext 151 = .ok (.iload 5, 2) := by decide +kernel
theorem dX3_doNext_153 : decode cX3_doNext 153 = .ok (.bipush 13, 2) := by decide +kernel
theorem dX3_doNext_155 : decode cX3_doNext 155 = .ok (.if_icmp .ne 7, 3) := by decide +kernel
theorem dX3_doNext_158 : decode cX3_doNext 158 = .ok (.iconst 1, 1) := by decide +kernel
theorem dX3_doNext_159 : decode cX3_doNext 159 = .ok (.goto 4, 3) := by decide +kernel
theorem dX3_doNext_162 : decode cX3_doNext 162 = .ok (.iconst 0, 1) := by decide +kernel
theorem dX3_doNext_163 : decode cX3_doNext 163 = .ok (.aload_n 2, 1) := by decide +kernel
theorem dX3_doNext_164 : decode cX3_doNext 164 = .ok (.invokevirtual 56, 3) := by decide +kernel
theorem dX3_doNext_167 : decode cX3_doNext 167 = .ok (.goto 13, 3) := by decide +kernel
theorem dX3_doNext_170 : decode cX3_doNext 170 = .ok (.aload_n 0, 1) := by decide +kernel
theorem dX3_doNext_171 : decode cX3_doNext 171 = .ok (.iload 5, 2) := by decide +kernel
theorem dX3_doNext_173 : decode cX3_doNext 173 = .ok (.iload_n 3, 1) := by decide +kernel
theorem dX3_doNext_174 : decode cX3_doNext 174 = .ok (.iload 4, 2) := by decide +kernel
theorem dX3_doNext_176 : decode cX3_doNext 176 = .ok (.aload_n 2, 1) := by decide +kernel
theorem dX3_doNext_177 : decode cX3_doNext 177 = .ok (.invokevirtual 60, 3) := by decide +kernel
theorem dX3_doNext_180 : decode cX3_doNext 180 = .ok (.return_, 1) := by decide +kernel
theorem dX3_change_0 : decode cX3_change 0 = .ok (.aload_n 0, 1) := by decide +kernel
theorem dX3_change_1 : decode cX3_change 1 = .ok (.getfield 28, 3) := by decide +kernel
theorem dX3_change_4 : decode cX3_change 4 = .ok (.iconst 1, 1) := by decide +kernel
theorem dX3_change_5 : decode cX3_change 5 = .ok (.iadd, 1) := by decide +kernel
theorem dX3_change_6 : decode cX3_change 6 = .ok (.istore 5, 2) := by decide +kernel
theorem dX3_change_8 : decode cX3_change 8 = .ok (.iload_n 1, 1) := by decide +kernel
theorem dX3_change_9 : decode cX3_change 9 = .ok (.tableswitch 168 0 11 #[63, 73, 168, 168, 99, 119, 168, 168, 168, 129, 137, 154], 63) := by decide +kernel
theorem dX3_change_72 : decode cX3_change 72 = .ok (.aload_n 0, 1) := by decide +kernel
theorem dX3_change_73 : decode cX3_change 73 = .ok (.getfield 9, 3) := by decide +kernel
theorem dX3_change_76 : decode cX3_change 76 = .ok (.iload_n 2, 1) := by decide +kernel
theorem dX3_change_77 : decode cX3_change 77 = .ok (.iload_n 3, 1) := by decide +kernel
theorem dX3_change_78 : decode cX3_change 78 = .ok (.iastore, 1) := by decide +kernel
theorem dX3_change_79 : decode cX3_change 79 = .ok (.goto 109, 3) := by decide +kernel
theorem dX3_change_82 : decode cX3_change 82 = .ok (.aload_n 0, 1) := by decide +kernel
theorem dX3_change_83 : decode cX3_change 83 = .ok (.getfield 9, 3) := by decide +kernel
theorem dX3_change_86 : decode cX3_change 86 = .ok (.iload_n 2, 1) := by decide +kernel
theorem dX3_change_87 : decode cX3_change 87 = .ok (.aload_n 0, 1) := by decide +kernel
theorem dX3_change_88 : decode cX3_change 88 = .ok (.getfield 9, 3) := by decide +kernel
theorem dX3_change_91 : decode cX3_change 91 = .ok (.iload_n 2, 1) := by decide +kernel
theorem dX3_change_92 : decode cX3_change 92 = .ok (.iaload, 1) := by decide +kernel
theorem dX3_change_93 : decode cX3_change 93 = .ok (.aload_n 0, 1) := by decide +kernel
theorem dX3_change_94 : decode cX3_change 94 = .ok (.getfield 9, 3) := by decide +kernel
theorem dX3_change_97 : decode cX3_change 97 = .ok (.iload_n 3, 1) := by decide +kernel
theorem dX3_change_98 : decode cX3_change 98 = .ok (.iaload, 1) := by decide +kernel
theorem dX3_change_99 : decode cX3_change 99 = .ok (.iadd, 1) := by decide +kernel
theorem dX3_change_100 : decode cX3_change 100 = .ok (.sipush 10000, 3) := by decide +kernel
theorem dX3_change_103 : decode cX3_change 103 = .ok (.irem, 1) := by decide +kernel
theorem dX3_change_104 : decode cX3_change 104 = .ok (.iastore, 1) := by decide +kernel
theorem dX3_change_105 : decode cX3_change 105 = .ok (.goto 83, 3) := by decide +kernel
theorem dX3_change_108 : decode cX3_change 108 = .ok (.aload_n 0, 1) := by decide +kernel
theorem dX3_change_109 : decode cX3_change 109 = .ok (.getfield 9, 3) := by decide +kernel
theorem dX3_change_112 : decode cX3_change 112 = .ok (.iload_n 2, 1) := by decide +kernel
theorem dX3_change_113 : decode cX3_change 113 = .ok (.iaload, 1) := by decide +kernel
theorem dX3_change_114 : decode cX3_change 114 = .ok (.ifCond .eq 7, 3) := by decide +kernel
theorem dX3_change_117 : decode cX3_change 117 = .ok (.iload_n 3, 1) := by decide +kernel
theorem dX3_change_118 : decode cX3_change 118 = .ok (.goto 5, 3) := by decide +kernel
theorem dX3_change_121 : decode cX3_change 121 = .ok (.iload 5, 2) := by decide +kernel
theorem dX3_change_123 : decode cX3_change 123 = .ok (.istore 5, 2) := by decide +kernel
theorem dX3_change_125 : decode cX3_change 125 = .ok (.goto 63, 3) := by decide +kernel
theorem dX3_change_128 : decode cX3_change 128 = .ok (.aload_n 0, 1) := by decide +kernel
theorem dX3_change_129 : decode cX3_change 129 = .ok (.getfield 15, 3) := by decide +kernel
theorem dX3_change_132 : decode cX3_change 132 = .ok (.iload_n 2, 1) := by decide +kernel
theorem dX3_change_133 : decode cX3_change 133 = .ok (.iload_n 3, 1) := by decide +kernel
theorem dX3_change_134 : decode cX3_change 134 = .ok (.iastore, 1) := by decide +kernel
theorem dX3_change_135 : decode cX3_change 135 = .ok (.goto 53, 3) := by decide +kernel
theorem dX3_change_138 : decode cX3_change 138 = .ok (.aload_n 0, 1) := by decide +kernel
theorem dX3_change_139 : decode cX3_change 139 = .ok (.iload_n 3, 1) := by decide +kernel
theorem dX3_change_140 : decode cX3_change 140 = .ok (.putfield 21, 3) := by decide +kernel
theorem dX3_change_143 : decode cX3_change 143 = .ok (.goto 45, 3) := by decide +kernel
theorem dX3_change_146 : decode cX3_change 146 = .ok (.aload_n 0, 1) := by decide +kernel
theorem dX3_change_147 : decode cX3_change 147 = .ok (.iload_n 3, 1) := by decide +kernel
theorem dX3_change_148 : decode cX3_change 148 = .ok (.iconst 1, 1) := by decide +kernel
theorem dX3_change_149 : decode cX3_change 149 = .ok (.if_icmp .ne 7, 3) := by decide +kernel
theorem dX3_change_152 : decode cX3_change 152 = .ok (.iconst 1, 1) := by decide +kernel
theorem dX3_change_153 : decode cX3_change 153 = .ok (.goto 4, 3) := by decide +kernel
theorem dX3_change_156 : decode cX3_change 156 = .ok (.iconst 0, 1) := by decide +kernel
theorem dX3_change_157 : decode cX3_change 157 = .ok (.putfield 64, 3) := by decide +kernel
theorem dX3_change_160 : decode cX3_change 160 = .ok (.goto 28, 3) := by decide +kernel
theorem dX3_change_163 : decode cX3_change 163 = .ok (.aload_n 0, 1) := by decide +kernel
theorem dX3_change_164 : decode cX3_change 164 = .ok (.getfield 68, 3) := by decide +kernel
theorem dX3_change_167 : decode cX3_change 167 = .ok (.istore 5, 2) := by decide +kernel
theorem dX3_change_169 : decode cX3_change 169 = .ok (.aload_n 0, 1) := by decide +kernel
theorem dX3_change_170 : decode cX3_change 170 = .ok (.iconst 0, 1) := by decide +kernel
theorem dX3_change_171 : decode cX3_change 171 = .ok (.putfield 64, 3) := by decide +kernel
theorem dX3_change_174 : decode cX3_change 174 = .ok (.goto 14, 3) := by decide +kernel
theorem dX3_change_177 : decode cX3_change 177 = .ok (.aload_n 0, 1) := by decide +kernel
theorem dX3_change_178 : decode cX3_change 178 = .ok (.iload_n 3, 1) := by decide +kernel
theorem dX3_change_179 : decode cX3_change 179 = .ok (.invokevirtual 71, 3) := by decide +kernel
theorem dX3_change_182 : decode cX3_change 182 = .ok (.aload 4, 2) := by decide +kernel
theorem dX3_change_184 : decode cX3_change 184 = .ok (.iload_n 3, 1) := by decide +kernel
theorem dX3_change_185 : decode cX3_change 185 = .ok (.invokevirtual 75, 3) := by decide +kernel
theorem dX3_change_188 : decode cX3_change 188 = .ok (.aload_n 0, 1) := by decide +kernel
theorem dX3_change_189 : decode cX3_change 189 = .ok (.iload 5, 2) := by decide +kernel
theorem dX3_change_191 : decode cX3_change 191 = .ok (.putfield 28, 3) := by decide +kernel
theorem dX3_change_194 : decode cX3_change 194 = .ok (.return_, 1) := by decide +kernel
theorem dX3_clear_0 : decode cX3_clear 0 = .ok (.iconst 0, 1) := by decide +kernel
theorem dX3_clear_1 : decode cX3_clear 1 = .ok (.istore_n 2, 1) := by decide +kernel
theorem dX3_clear_2 : decode cX3_clear 2 = .ok (.iload_n 2, 1) := by decide +kernel
theorem dX3_clear_3 : decode cX3_clear 3 = .ok (.iconst 4, 1) := by decide +kernel
theorem dX3_clear_4 : decode cX3_clear 4 = .ok (.if_icmp .ge 20, 3) := by decide +kernel
theorem dX3_clear_7 : decode cX3_clear 7 = .ok (.aload_n 0, 1) := by decide +kernel
theorem dX3_clear_8 : decode cX3_clear 8 = .ok (.getfield 18, 3) := by decide +kernel
theorem dX3_clear_11 : decode cX3_clear 11 = .ok (.iload_n 1, 1) := by decide +kernel
theorem dX3_clear_12 : decode cX3_clear 12 = .ok (.iconst 4, 1) := by decide +kernel
theorem dX3_clear_13 : decode cX3_clear 13 = .ok (.imul, 1) := by decide +kernel
theorem dX3_clear_14 : decode cX3_clear 14 = .ok (.iload_n 2, 1) := by decide +kernel
theorem dX3_clear_15 : decode cX3_clear 15 = .ok (.iadd, 1) := by decide +kernel
theorem dX3_clear_16 : decode cX3_clear 16 = .ok (.iconst 0, 1) := by decide +kernel
theorem dX3_clear_17 : decode cX3_clear 17 = .ok (.iastore, 1) := by decide +kernel
theorem dX3_clear_18 : decode cX3_clear 18 = .ok (.iinc 2 1, 3) := by decide +kernel
theorem dX3_clear_21 : decode cX3_clear 21 = .ok (.goto (-19), 3) := by decide +kernel
theorem dX3_clear_24 : decode cX3_clear 24 = .ok (.return_, 1) := by decide +kernel
theorem dX3_access_0 : decode cX3_access 0 = .ok (.iload_n 3, 1) := by decide +kernel
theorem dX3_access_1 : decode cX3_access 1 = .ok (.iconst (-1), 1) := by decide +kernel
theorem dX3_access_2 : decode cX3_access 2 = .ok (.if_icmp .ne 8, 3) := by decide +kernel
theorem dX3_access_5 : decode cX3_access 5 = .ok (.aload_n 0, 1) := by decide +kernel
theorem dX3_access_6 : decode cX3_access 6 = .ok (.invokevirtual 80, 3) := by decide +kernel
theorem dX3_access_9 : decode cX3_access 9 = .ok (.return_, 1) := by decide +kernel
theorem dX3_access_10 : decode cX3_access 10 = .ok (.aload 4, 2) := by decide +kernel
theorem dX3_access_12 : decode cX3_access 12 = .ok (.iload_n 3, 1) := by decide +kernel
theorem dX3_access_13 : decode cX3_access 13 = .ok (.iconst 4, 1) := by decide +kernel
theorem dX3_access_14 : decode cX3_access 14 = .ok (.idiv, 1) := by decide +kernel
theorem dX3_access_15 : decode cX3_access 15 = .ok (.iload_n 1, 1) := by decide +kernel
theorem dX3_access_16 : decode cX3_access 16 = .ok (.invokevirtual 83, 3) := by decide +kernel
theorem dX3_access_19 : decode cX3_access 19 = .ok (.iload_n 1, 1) := by decide +kernel
theorem dX3_access_20 : decode cX3_access 20 = .ok (.ifCond .eq 18, 3) := by decide +kernel
theorem dX3_access_23 : decode cX3_access 23 = .ok (.aload_n 0, 1) := by decide +kernel
theorem dX3_access_24 : decode cX3_access 24 = .ok (.getfield 18, 3) := by decide +kernel
theorem dX3_access_27 : decode cX3_access 27 = .ok (.iload_n 3, 1) := by decide +kernel
theorem dX3_access_28 : decode cX3_access 28 = .ok (.aload_n 0, 1) := by decide +kernel
theorem dX3_access_29 : decode cX3_access 29 = .ok (.getfield 9, 3) := by decide +kernel
theorem dX3_access_32 : decode cX3_access 32 = .ok (.iload_n 2, 1) := by decide +kernel
theorem dX3_access_33 : decode cX3_access 33 = .ok (.iaload, 1) := by decide +kernel
theorem dX3_access_34 : decode cX3_access 34 = .ok (.iastore, 1) := by decide +kernel
theorem dX3_access_35 : decode cX3_access 35 = .ok (.goto 15, 3) := by decide +kernel
theorem dX3_access_38 : decode cX3_access 38 = .ok (.aload_n 0, 1) := by decide +kernel
theorem dX3_access_39 : decode cX3_access 39 = .ok (.getfield 9, 3) := by decide +kernel
theorem dX3_access_42 : decode cX3_access 42 = .ok (.iload_n 2, 1) := by decide +kernel
theorem dX3_access_43 : decode cX3_access 43 = .ok (.aload_n 0, 1) := by decide +kernel
theorem dX3_access_44 : decode cX3_access 44 = .ok (.getfield 18, 3) := by decide +kernel
theorem dX3_access_47 : decode cX3_access 47 = .ok (.iload_n 3, 1) := by decide +kernel
theorem dX3_access_48 : decode cX3_access 48 = .ok (.iaload, 1) := by decide +kernel
theorem dX3_access_49 : decode cX3_access 49 = .ok (.iastore, 1) := by decide +kernel
theorem dX3_access_50 : decode cX3_access 50 = .ok (.aload_n 0, 1) := by decide +kernel
theorem dX3_access_51 : decode cX3_access 51 = .ok (.dup, 1) := by decide +kernel
theorem dX3_access_52 : decode cX3_access 52 = .ok (.getfield 28, 3) := by decide +kernel
theorem dX3_access_55 : decode cX3_access 55 = .ok (.iconst 1, 1) := by decide +kernel
theorem dX3_access_56 : decode cX3_access 56 = .ok (.iadd, 1) := by decide +kernel
theorem dX3_access_57 : decode cX3_access 57 = .ok (.putfield 28, 3) := by decide +kernel
theorem dX3_access_60 : decode cX3_access 60 = .ok (.return_, 1) := by decide +kernel
theorem dX3_wordAt_0 : decode cX3_wordAt 0 = .ok (.iload_n 1, 1) := by decide +kernel
theorem dX3_wordAt_1 : decode cX3_wordAt 1 = .ok (.ifCond .lt 9, 3) := by decide +kernel
theorem dX3_wordAt_4 : decode cX3_wordAt 4 = .ok (.iload_n 1, 1) := by decide +kernel
theorem dX3_wordAt_5 : decode cX3_wordAt 5 = .ok (.bipush 32, 2) := by decide +kernel
theorem dX3_wordAt_7 : decode cX3_wordAt 7 = .ok (.if_icmp .lt 5, 3) := by decide +kernel
theorem dX3_wordAt_10 : decode cX3_wordAt 10 = .ok (.iconst (-1), 1) := by decide +kernel
theorem dX3_wordAt_11 : decode cX3_wordAt 11 = .ok (.ireturn, 1) := by decide +kernel
theorem dX3_wordAt_12 : decode cX3_wordAt 12 = .ok (.aload_n 0, 1) := by decide +kernel
theorem dX3_wordAt_13 : decode cX3_wordAt 13 = .ok (.getfield 15, 3) := by decide +kernel
theorem dX3_wordAt_16 : decode cX3_wordAt 16 = .ok (.iload_n 1, 1) := by decide +kernel
theorem dX3_wordAt_17 : decode cX3_wordAt 17 = .ok (.iconst 4, 1) := by decide +kernel
theorem dX3_wordAt_18 : decode cX3_wordAt 18 = .ok (.idiv, 1) := by decide +kernel
theorem dX3_wordAt_19 : decode cX3_wordAt 19 = .ok (.iaload, 1) := by decide +kernel
theorem dX3_wordAt_20 : decode cX3_wordAt 20 = .ok (.istore_n 2, 1) := by decide +kernel
theorem dX3_wordAt_21 : decode cX3_wordAt 21 = .ok (.iload_n 2, 1) := by decide +kernel
theorem dX3_wordAt_22 : decode cX3_wordAt 22 = .ok (.bipush 8, 2) := by decide +kernel
theorem dX3_wordAt_24 : decode cX3_wordAt 24 = .ok (.if_icmp .lt 7, 3) := by decide +kernel
theorem dX3_wordAt_27 : decode cX3_wordAt 27 = .ok (.iconst (-1), 1) := by decide +kernel
theorem dX3_wordAt_28 : decode cX3_wordAt 28 = .ok (.goto 10, 3) := by decide +kernel
theorem dX3_wordAt_31 : decode cX3_wordAt 31 = .ok (.iload_n 2, 1) := by decide +kernel
theorem dX3_wordAt_32 : decode cX3_wordAt 32 = .ok (.iconst 4, 1) := by decide +kernel
theorem dX3_wordAt_33 : decode cX3_wordAt 33 = .ok (.imul, 1) := by decide +kernel
theorem dX3_wordAt_34 : decode cX3_wordAt 34 = .ok (.iload_n 1, 1) := by decide +kernel
theorem dX3_wordAt_35 : decode cX3_wordAt 35 = .ok (.iconst 4, 1) := by decide +kernel
theorem dX3_wordAt_36 : decode cX3_wordAt 36 = .ok (.irem, 1) := by decide +kernel
theorem dX3_wordAt_37 : decode cX3_wordAt 37 = .ok (.iadd, 1) := by decide +kernel
theorem dX3_wordAt_38 : decode cX3_wordAt 38 = .ok (.ireturn, 1) := by decide +kernel
theorem dX3_tellOrTake_0 : decode cX3_tellOrTake 0 = .ok (.aload 4, 2) := by decide +kernel
theorem dX3_tellOrTake_2 : decode cX3_tellOrTake 2 = .ok (.iconst 3, 1) := by decide +kernel
theorem dX3_tellOrTake_3 : decode cX3_tellOrTake 3 = .ok (.invokevirtual 87, 3) := by decide +kernel
theorem dX3_tellOrTake_6 : decode cX3_tellOrTake 6 = .ok (.iload_n 1, 1) := by decide +kernel
theorem dX3_tellOrTake_7 : decode cX3_tellOrTake 7 = .ok (.ifCond .eq 18, 3) := by decide +kernel
theorem dX3_tellOrTake_10 : decode cX3_tellOrTake 10 = .ok (.aload 4, 2) := by decide +kernel
theorem dX3_tellOrTake_12 : decode cX3_tellOrTake 12 = .ok (.iload_n 3, 1) := by decide +kernel
theorem dX3_tellOrTake_13 : decode cX3_tellOrTake 13 = .ok (.aload_n 0, 1) := by decide +kernel
theorem dX3_tellOrTake_14 : decode cX3_tellOrTake 14 = .ok (.getfield 9, 3) := by decide +kernel
theorem dX3_tellOrTake_17 : decode cX3_tellOrTake 17 = .ok (.iload_n 2, 1) := by decide +kernel
theorem dX3_tellOrTake_18 : decode cX3_tellOrTake 18 = .ok (.iaload, 1) := by decide +kernel
theorem dX3_tellOrTake_19 : decode cX3_tellOrTake 19 = .ok (.invokevirtual 90, 3) := by decide +kernel
theorem dX3_tellOrTake_22 : decode cX3_tellOrTake 22 = .ok (.goto 27, 3) := by decide +kernel
theorem dX3_tellOrTake_25 : decode cX3_tellOrTake 25 = .ok (.aload_n 0, 1) := by decide +kernel
theorem dX3_tellOrTake_26 : decode cX3_tellOrTake 26 = .ok (.getfield 9, 3) := by decide +kernel
theorem dX3_tellOrTake_29 : decode cX3_tellOrTake 29 = .ok (.iload_n 2, 1) := by decide +kernel
theorem dX3_tellOrTake_30 : decode cX3_tellOrTake 30 = .ok (.iload_n 3, 1) := by decide +kernel
theorem dX3_tellOrTake_31 : decode cX3_tellOrTake 31 = .ok (.iconst 2, 1) := by decide +kernel
theorem dX3_tellOrTake_32 : decode cX3_tellOrTake 32 = .ok (.if_icmp .ne 10, 3) := by decide +kernel
theorem dX3_tellOrTake_35 : decode cX3_tellOrTake 35 = .ok (.aload_n 0, 1) := by decide +kernel
theorem dX3_tellOrTake_36 : decode cX3_tellOrTake 36 = .ok (.getfield 94, 3) := by decide +kernel
theorem dX3_tellOrTake_39 : decode cX3_tellOrTake 39 = .ok (.goto 9, 3) := by decide +kernel
theorem dX3_tellOrTake_42 : decode cX3_tellOrTake 42 = .ok (.aload 4, 2) := by decide +kernel
theorem dX3_tellOrTake_44 : decode cX3_tellOrTake 44 = .ok (.iload_n 3, 1) := by decide +kernel
theorem dX3_tellOrTake_45 : decode cX3_tellOrTake 45 = .ok (.invokevirtual 97, 3) := by decide +kernel
theorem dX3_tellOrTake_48 : decode cX3_tellOrTake 48 = .ok (.iastore, 1) := by decide +kernel
theorem dX3_tellOrTake_49 : decode cX3_tellOrTake 49 = .ok (.aload_n 0, 1) := by decide +kernel
theorem dX3_tellOrTake_50 : decode cX3_tellOrTake 50 = .ok (.dup, 1) := by decide +kernel
theorem dX3_tellOrTake_51 : decode cX3_tellOrTake 51 = .ok (.getfield 28, 3) := by decide +kernel
theorem dX3_tellOrTake_54 : decode cX3_tellOrTake 54 = .ok (.iconst 1, 1) := by decide +kernel
theorem dX3_tellOrTake_55 : decode cX3_tellOrTake 55 = .ok (.iadd, 1) := by decide +kernel
theorem dX3_tellOrTake_56 : decode cX3_tellOrTake 56 = .ok (.putfield 28, 3) := by decide +kernel
theorem dX3_tellOrTake_59 : decode cX3_tellOrTake 59 = .ok (.return_, 1) := by decide +kernel
theorem dX3_rest_0 : decode cX3_rest 0 = .ok (.aload_n 2, 1) := by decide +kernel
theorem dX3_rest_1 : decode cX3_rest 1 = .ok (.iconst 4, 1) := by decide +kernel
theorem dX3_rest_2 : decode cX3_rest 2 = .ok (.invokevirtual 87, 3) := by decide +kernel
theorem dX3_rest_5 : decode cX3_rest 5 = .ok (.iload_n 1, 1) := by decide +kernel
theorem dX3_rest_6 : decode cX3_rest 6 = .ok (.ifCond .eq 11, 3) := by decide +kernel
theorem dX3_rest_9 : decode cX3_rest 9 = .ok (.aload_n 0, 1) := by decide +kernel
theorem dX3_rest_10 : decode cX3_rest 10 = .ok (.iconst 2, 1) := by decide +kernel
theorem dX3_rest_11 : decode cX3_rest 11 = .ok (.putfield 25, 3) := by decide +kernel
theorem dX3_rest_14 : decode cX3_rest 14 = .ok (.goto 15, 3) := by decide +kernel
theorem dX3_rest_17 : decode cX3_rest 17 = .ok (.aload_n 2, 1) := by decide +kernel
theorem dX3_rest_18 : decode cX3_rest 18 = .ok (.invokevirtual 100, 3) := by decide +kernel
theorem dX3_rest_21 : decode cX3_rest 21 = .ok (.ifCond .ne 8, 3) := by decide +kernel
theorem dX3_rest_24 : decode cX3_rest 24 = .ok (.aload_n 0, 1) := by decide +kernel
theorem dX3_rest_25 : decode cX3_rest 25 = .ok (.iconst 1, 1) := by decide +kernel
theorem dX3_rest_26 : decode cX3_rest 26 = .ok (.putfield 25, 3) := by decide +kernel
theorem dX3_rest_29 : decode cX3_rest 29 = .ok (.aload_n 0, 1) := by decide +kernel
theorem dX3_rest_30 : decode cX3_rest 30 = .ok (.dup, 1) := by decide +kernel
theorem dX3_rest_31 : decode cX3_rest 31 = .ok (.getfield 28, 3) := by decide +kernel
theorem dX3_rest_34 : decode cX3_rest 34 = .ok (.iconst 1, 1) := by decide +kernel
theorem dX3_rest_35 : decode cX3_rest 35 = .ok (.iadd, 1) := by decide +kernel
theorem dX3_rest_36 : decode cX3_rest 36 = .ok (.putfield 28, 3) := by decide +kernel
theorem dX3_rest_39 : decode cX3_rest 39 = .ok (.return_, 1) := by decide +kernel
theorem dX3_fault_0 : decode cX3_fault 0 = .ok (.aload_n 0, 1) := by decide +kernel
theorem dX3_fault_1 : decode cX3_fault 1 = .ok (.getfield 21, 3) := by decide +kernel
theorem dX3_fault_4 : decode cX3_fault 4 = .ok (.iconst (-1), 1) := by decide +kernel
theorem dX3_fault_5 : decode cX3_fault 5 = .ok (.if_icmp .eq 10, 3) := by decide +kernel
theorem dX3_fault_8 : decode cX3_fault 8 = .ok (.aload_n 0, 1) := by decide +kernel
theorem dX3_fault_9 : decode cX3_fault 9 = .ok (.getfield 64, 3) := by decide +kernel
theorem dX3_fault_12 : decode cX3_fault 12 = .ok (.ifCond .eq 11, 3) := by decide +kernel
theorem dX3_fault_15 : decode cX3_fault 15 = .ok (.aload_n 0, 1) := by decide +kernel
theorem dX3_fault_16 : decode cX3_fault 16 = .ok (.iconst 3, 1) := by decide +kernel
theorem dX3_fault_17 : decode cX3_fault 17 = .ok (.putfield 25, 3) := by decide +kernel
theorem dX3_fault_20 : decode cX3_fault 20 = .ok (.goto 8, 3) := by decide +kernel
theorem dX3_fault_23 : decode cX3_fault 23 = .ok (.aload_n 0, 1) := by decide +kernel
theorem dX3_fault_24 : decode cX3_fault 24 = .ok (.iconst 1, 1) := by decide +kernel
theorem dX3_fault_25 : decode cX3_fault 25 = .ok (.invokevirtual 104, 3) := by decide +kernel
theorem dX3_fault_28 : decode cX3_fault 28 = .ok (.return_, 1) := by decide +kernel
theorem dX3_enterHandler_0 : decode cX3_enterHandler 0 = .ok (.aload_n 0, 1) := by decide +kernel
theorem dX3_enterHandler_1 : decode cX3_enterHandler 1 = .ok (.aload_n 0, 1) := by decide +kernel
theorem dX3_enterHandler_2 : decode cX3_enterHandler 2 = .ok (.getfield 28, 3) := by decide +kernel
theorem dX3_enterHandler_5 : decode cX3_enterHandler 5 = .ok (.putfield 68, 3) := by decide +kernel
theorem dX3_enterHandler_8 : decode cX3_enterHandler 8 = .ok (.aload_n 0, 1) := by decide +kernel
theorem dX3_enterHandler_9 : decode cX3_enterHandler 9 = .ok (.aload_n 0, 1) := by decide +kernel
theorem dX3_enterHandler_10 : decode cX3_enterHandler 10 = .ok (.getfield 21, 3) := by decide +kernel
theorem dX3_enterHandler_13 : decode cX3_enterHandler 13 = .ok (.putfield 28, 3) := by decide +kernel
theorem dX3_enterHandler_16 : decode cX3_enterHandler 16 = .ok (.aload_n 0, 1) := by decide +kernel
theorem dX3_enterHandler_17 : decode cX3_enterHandler 17 = .ok (.iconst 1, 1) := by decide +kernel
theorem dX3_enterHandler_18 : decode cX3_enterHandler 18 = .ok (.putfield 64, 3) := by decide +kernel
theorem dX3_enterHandler_21 : decode cX3_enterHandler 21 = .ok (.aload_n 0, 1) := by decide +kernel
theorem dX3_enterHandler_22 : decode cX3_enterHandler 22 = .ok (.iload_n 1, 1) := by decide +kernel
theorem dX3_enterHandler_23 : decode cX3_enterHandler 23 = .ok (.putfield 94, 3) := by decide +kernel
theorem dX3_enterHandler_26 : decode cX3_enterHandler 26 = .ok (.return_, 1) := by decide +kernel
theorem dX3_copyFrom_0 : decode cX3_copyFrom 0 = .ok (.aload_n 1, 1) := by decide +kernel
theorem dX3_copyFrom_1 : decode cX3_copyFrom 1 = .ok (.getfield 9, 3) := by decide +kernel
theorem dX3_copyFrom_4 : decode cX3_copyFrom 4 = .ok (.iconst 0, 1) := by decide +kernel
theorem dX3_copyFrom_5 : decode cX3_copyFrom 5 = .ok (.aload_n 0, 1) := by decide +kernel
theorem dX3_copyFrom_6 : decode cX3_copyFrom 6 = .ok (.getfield 9, 3) := by decide +kernel
theorem dX3_copyFrom_9 : decode cX3_copyFrom 9 = .ok (.iconst 0, 1) := by decide +kernel
theorem dX3_copyFrom_10 : decode cX3_copyFrom 10 = .ok (.iconst 4, 1) := by decide +kernel
theorem dX3_copyFrom_11 : decode cX3_copyFrom 11 = .ok (.invokestatic 107, 3) := by decide +kernel
theorem dX3_copyFrom_14 : decode cX3_copyFrom 14 = .ok (.aload_n 1, 1) := by decide +kernel
theorem dX3_copyFrom_15 : decode cX3_copyFrom 15 = .ok (.getfield 15, 3) := by decide +kernel
theorem dX3_copyFrom_18 : decode cX3_copyFrom 18 = .ok (.iconst 0, 1) := by decide +kernel
theorem dX3_copyFrom_19 : decode cX3_copyFrom 19 = .ok (.aload_n 0, 1) := by decide +kernel
theorem dX3_copyFrom_20 : decode cX3_copyFrom 20 = .ok (.getfield 15, 3) := by decide +kernel
theorem dX3_copyFrom_23 : decode cX3_copyFrom 23 = .ok (.iconst 0, 1) := by decide +kernel
theorem dX3_copyFrom_24 : decode cX3_copyFrom 24 = .ok (.bipush 8, 2) := by decide +kernel
theorem dX3_copyFrom_26 : decode cX3_copyFrom 26 = .ok (.invokestatic 107, 3) := by decide +kernel
theorem dX3_copyFrom_29 : decode cX3_copyFrom 29 = .ok (.aload_n 1, 1) := by decide +kernel
theorem dX3_copyFrom_30 : decode cX3_copyFrom 30 = .ok (.getfield 18, 3) := by decide +kernel
theorem dX3_copyFrom_33 : decode cX3_copyFrom 33 = .ok (.iconst 0, 1) := by decide +kernel
theorem dX3_copyFrom_34 : decode cX3_copyFrom 34 = .ok (.aload_n 0, 1) := by decide +kernel
theorem dX3_copyFrom_35 : decode cX3_copyFrom 35 = .ok (.getfield 18, 3) := by decide +kernel
theorem dX3_copyFrom_38 : decode cX3_copyFrom 38 = .ok (.iconst 0, 1) := by decide +kernel
theorem dX3_copyFrom_39 : decode cX3_copyFrom 39 = .ok (.bipush 32, 2) := by decide +kernel
theorem dX3_copyFrom_41 : decode cX3_copyFrom 41 = .ok (.invokestatic 107, 3) := by decide +kernel
theorem dX3_copyFrom_44 : decode cX3_copyFrom 44 = .ok (.aload_n 0, 1) := by decide +kernel
theorem dX3_copyFrom_45 : decode cX3_copyFrom 45 = .ok (.aload_n 1, 1) := by decide +kernel
theorem dX3_copyFrom_46 : decode cX3_copyFrom 46 = .ok (.getfield 28, 3) := by decide +kernel
theorem dX3_copyFrom_49 : decode cX3_copyFrom 49 = .ok (.putfield 28, 3) := by decide +kernel
theorem dX3_copyFrom_52 : decode cX3_copyFrom 52 = .ok (.aload_n 0, 1) := by decide +kernel
theorem dX3_copyFrom_53 : decode cX3_copyFrom 53 = .ok (.aload_n 1, 1) := by decide +kernel
theorem dX3_copyFrom_54 : decode cX3_copyFrom 54 = .ok (.getfield 21, 3) := by decide +kernel
theorem dX3_copyFrom_57 : decode cX3_copyFrom 57 = .ok (.putfield 21, 3) := by decide +kernel
theorem dX3_copyFrom_60 : decode cX3_copyFrom 60 = .ok (.aload_n 0, 1) := by decide +kernel
theorem dX3_copyFrom_61 : decode cX3_copyFrom 61 = .ok (.aload_n 1, 1) := by decide +kernel
theorem dX3_copyFrom_62 : decode cX3_copyFrom 62 = .ok (.getfield 68, 3) := by decide +kernel
theorem dX3_copyFrom_65 : decode cX3_copyFrom 65 = .ok (.putfield 68, 3) := by decide +kernel
theorem dX3_copyFrom_68 : decode cX3_copyFrom 68 = .ok (.aload_n 0, 1) := by decide +kernel
theorem dX3_copyFrom_69 : decode cX3_copyFrom 69 = .ok (.aload_n 1, 1) := by decide +kernel
theorem dX3_copyFrom_70 : decode cX3_copyFrom 70 = .ok (.getfield 94, 3) := by decide +kernel
theorem dX3_copyFrom_73 : decode cX3_copyFrom 73 = .ok (.putfield 94, 3) := by decide +kernel
theorem dX3_copyFrom_76 : decode cX3_copyFrom 76 = .ok (.aload_n 0, 1) := by decide +kernel
theorem dX3_copyFrom_77 : decode cX3_copyFrom 77 = .ok (.aload_n 1, 1) := by decide +kernel
theorem dX3_copyFrom_78 : decode cX3_copyFrom 78 = .ok (.getfield 64, 3) := by decide +kernel
theorem dX3_copyFrom_81 : decode cX3_copyFrom 81 = .ok (.putfield 64, 3) := by decide +kernel
theorem dX3_copyFrom_84 : decode cX3_copyFrom 84 = .ok (.aload_n 0, 1) := by decide +kernel
theorem dX3_copyFrom_85 : decode cX3_copyFrom 85 = .ok (.aload_n 1, 1) := by decide +kernel
theorem dX3_copyFrom_86 : decode cX3_copyFrom 86 = .ok (.getfield 25, 3) := by decide +kernel
theorem dX3_copyFrom_89 : decode cX3_copyFrom 89 = .ok (.putfield 25, 3) := by decide +kernel
theorem dX3_copyFrom_92 : decode cX3_copyFrom 92 = .ok (.return_, 1) := by decide +kernel
theorem dX3_isAs_0 : decode cX3_isAs 0 = .ok (.aload_n 0, 1) := by decide +kernel
theorem dX3_isAs_1 : decode cX3_isAs 1 = .ok (.getfield 9, 3) := by decide +kernel
theorem dX3_isAs_4 : decode cX3_isAs 4 = .ok (.aload_n 1, 1) := by decide +kernel
theorem dX3_isAs_5 : decode cX3_isAs 5 = .ok (.getfield 9, 3) := by decide +kernel
theorem dX3_isAs_8 : decode cX3_isAs 8 = .ok (.invokestatic 113, 3) := by decide +kernel
theorem dX3_isAs_11 : decode cX3_isAs 11 = .ok (.ifCond .eq 115, 3) := by decide +kernel
theorem dX3_isAs_14 : decode cX3_isAs 14 = .ok (.aload_n 0, 1) := by decide +kernel
theorem dX3_isAs_15 : decode cX3_isAs 15 = .ok (.getfield 15, 3) := by decide +kernel
theorem dX3_isAs_18 : decode cX3_isAs 18 = .ok (.aload_n 1, 1) := by decide +kernel
theorem dX3_isAs_19 : decode cX3_isAs 19 = .ok (.getfield 15, 3) := by decide +kernel
theorem dX3_isAs_22 : decode cX3_isAs 22 = .ok (.invokestatic 113, 3) := by decide +kernel
theorem dX3_isAs_25 : decode cX3_isAs 25 = .ok (.ifCond .eq 101, 3) := by decide +kernel
theorem dX3_isAs_28 : decode cX3_isAs 28 = .ok (.aload_n 0, 1) := by decide +kernel
theorem dX3_isAs_29 : decode cX3_isAs 29 = .ok (.getfield 18, 3) := by decide +kernel
theorem dX3_isAs_32 : decode cX3_isAs 32 = .ok (.aload_n 1, 1) := by decide +kernel
theorem dX3_isAs_33 : decode cX3_isAs 33 = .ok (.getfield 18, 3) := by decide +kernel
theorem dX3_isAs_36 : decode cX3_isAs 36 = .ok (.invokestatic 113, 3) := by decide +kernel
theorem dX3_isAs_39 : decode cX3_isAs 39 = .ok (.ifCond .eq 87, 3) := by decide +kernel
theorem dX3_isAs_42 : decode cX3_isAs 42 = .ok (.aload_n 0, 1) := by decide +kernel
theorem dX3_isAs_43 : decode cX3_isAs 43 = .ok (.getfield 28, 3) := by decide +kernel
theorem dX3_isAs_46 : decode cX3_isAs 46 = .ok (.aload_n 1, 1) := by decide +kernel
theorem dX3_isAs_47 : decode cX3_isAs 47 = .ok (.getfield 28, 3) := by decide +kernel
theorem dX3_isAs_50 : decode cX3_isAs 50 = .ok (.if_icmp .ne 76, 3) := by decide +kernel
theorem dX3_isAs_53 : decode cX3_isAs 53 = .ok (.aload_n 0, 1) := by decide +kernel
theorem dX3_isAs_54 : decode cX3_isAs 54 = .ok (.getfield 21, 3) := by decide +kernel
theorem dX3_isAs_57 : decode cX3_isAs 57 = .ok (.aload_n 1, 1) := by decide +kernel
theorem dX3_isAs_58 : decode cX3_isAs 58 = .ok (.getfield 21, 3) := by decide +kernel
theorem dX3_isAs_61 : decode cX3_isAs 61 = .ok (.if_icmp .ne 65, 3) := by decide +kernel
theorem dX3_isAs_64 : decode cX3_isAs 64 = .ok (.aload_n 0, 1) := by decide +kernel
theorem dX3_isAs_65 : decode cX3_isAs 65 = .ok (.getfield 68, 3) := by decide +kernel
theorem dX3_isAs_68 : decode cX3_isAs 68 = .ok (.aload_n 1, 1) := by decide +kernel
theorem dX3_isAs_69 : decode cX3_isAs 69 = .ok (.getfield 68, 3) := by decide +kernel
theorem dX3_isAs_72 : decode cX3_isAs 72 = .ok (.if_icmp .ne 54, 3) := by decide +kernel
theorem dX3_isAs_75 : decode cX3_isAs 75 = .ok (.aload_n 0, 1) := by decide +kernel
theorem dX3_isAs_76 : decode cX3_isAs 76 = .ok (.getfield 94, 3) := by decide +kernel
theorem dX3_isAs_79 : decode cX3_isAs 79 = .ok (.aload_n 1, 1) := by decide +kernel
theorem dX3_isAs_80 : decode cX3_isAs 80 = .ok (.getfield 94, 3) := by decide +kernel
theorem dX3_isAs_83 : decode cX3_isAs 83 = .ok (.if_icmp .ne 43, 3) := by decide +kernel
theorem dX3_isAs_86 : decode cX3_isAs 86 = .ok (.aload_n 0, 1) := by decide +kernel
theorem dX3_isAs_87 : decode cX3_isAs 87 = .ok (.getfield 64, 3) := by decide +kernel
theorem dX3_isAs_90 : decode cX3_isAs 90 = .ok (.aload_n 1, 1) := by decide +kernel
theorem dX3_isAs_91 : decode cX3_isAs 91 = .ok (.getfield 64, 3) := by decide +kernel
theorem dX3_isAs_94 : decode cX3_isAs 94 = .ok (.if_icmp .ne 32, 3) := by decide +kernel
theorem dX3_isAs_97 : decode cX3_isAs 97 = .ok (.aload_n 0, 1) := by decide +kernel
theorem dX3_isAs_98 : decode cX3_isAs 98 = .ok (.getfield 25, 3) := by decide +kernel
theorem dX3_isAs_101 : decode cX3_isAs 101 = .ok (.aload_n 1, 1) := by decide +kernel
theorem dX3_isAs_102 : decode cX3_isAs 102 = .ok (.getfield 25, 3) := by decide +kernel
theorem dX3_isAs_105 : decode cX3_isAs 105 = .ok (.if_icmp .eq 17, 3) := by decide +kernel
theorem dX3_isAs_108 : decode cX3_isAs 108 = .ok (.aload_n 0, 1) := by decide +kernel
theorem dX3_isAs_109 : decode cX3_isAs 109 = .ok (.invokevirtual 117, 3) := by decide +kernel
theorem dX3_isAs_112 : decode cX3_isAs 112 = .ok (.ifCond .ne 14, 3) := by decide +kernel
theorem dX3_isAs_115 : decode cX3_isAs 115 = .ok (.aload_n 1, 1) := by decide +kernel
theorem dX3_isAs_116 : decode cX3_isAs 116 = .ok (.invokevirtual 117, 3) := by decide +kernel
theorem dX3_isAs_119 : decode cX3_isAs 119 = .ok (.ifCond .ne 7, 3) := by decide +kernel
theorem dX3_isAs_122 : decode cX3_isAs 122 = .ok (.iconst 1, 1) := by decide +kernel
theorem dX3_isAs_123 : decode cX3_isAs 123 = .ok (.goto 4, 3) := by decide +kernel
theorem dX3_isAs_126 : decode cX3_isAs 126 = .ok (.iconst 0, 1) := by decide +kernel
theorem dX3_isAs_127 : decode cX3_isAs 127 = .ok (.ireturn, 1) := by decide +kernel
theorem dX4_init_0 : decode cX4_init 0 = .ok (.aload_n 0, 1) := by decide +kernel
theorem dX4_init_1 : decode cX4_init 1 = .ok (.invokespecial 1, 3) := by decide +kernel
theorem dX4_init_4 : decode cX4_init 4 = .ok (.aload_n 0, 1) := by decide +kernel
theorem dX4_init_5 : decode cX4_init 5 = .ok (.bipush 8, 2) := by decide +kernel
theorem dX4_init_7 : decode cX4_init 7 = .ok (.newarray .int, 2) := by decide +kernel
theorem dX4_init_9 : decode cX4_init 9 = .ok (.putfield 7, 3) := by decide +kernel
theorem dX4_init_12 : decode cX4_init 12 = .ok (.return_, 1) := by decide +kernel
theorem dX4_add_0 : decode cX4_add 0 = .ok (.aload_n 0, 1) := by decide +kernel
theorem dX4_add_1 : decode cX4_add 1 = .ok (.getfield 13, 3) := by decide +kernel
theorem dX4_add_4 : decode cX4_add 4 = .ok (.aload_n 0, 1) := by decide +kernel
theorem dX4_add_5 : decode cX4_add 5 = .ok (.getfield 7, 3) := by decide +kernel
theorem dX4_add_8 : decode cX4_add 8 = .ok (.arraylength, 1) := by decide +kernel
theorem dX4_add_9 : decode cX4_add 9 = .ok (.if_icmp .lt 21, 3) := by decide +kernel
theorem dX4_add_12 : decode cX4_add 12 = .ok (.aload_n 0, 1) := by decide +kernel
theorem dX4_add_13 : decode cX4_add 13 = .ok (.aload_n 0, 1) := by decide +kernel
theorem dX4_add_14 : decode cX4_add 14 = .ok (.getfield 7, 3) := by decide +kernel
theorem dX4_add_17 : decode cX4_add 17 = .ok (.iconst 2, 1) := by decide +kernel
theorem dX4_add_18 : decode cX4_add 18 = .ok (.aload_n 0, 1) := by decide +kernel
theorem dX4_add_19 : decode cX4_add 19 = .ok (.getfield 7, 3) := by decide +kernel
theorem dX4_add_22 : decode cX4_add 22 = .ok (.arraylength, 1) := by decide +kernel
theorem dX4_add_23 : decode cX4_add 23 = .ok (.imul, 1) := by decide +kernel
theorem dX4_add_24 : decode cX4_add 24 = .ok (.invokestatic 17, 3) := by decide +kernel
theorem dX4_add_27 : decode cX4_add 27 = .ok (.putfield 7, 3) := by decide +kernel
theorem dX4_add_30 : decode cX4_add 30 = .ok (.aload_n 0, 1) := by decide +kernel
theorem dX4_add_31 : decode cX4_add 31 = .ok (.getfield 7, 3) := by decide +kernel
theorem dX4_add_34 : decode cX4_add 34 = .ok (.aload_n 0, 1) := by decide +kernel
theorem dX4_add_35 : decode cX4_add 35 = .ok (.getfield 13, 3) := by decide +kernel
theorem dX4_add_38 : decode cX4_add 38 = .ok (.iload_n 1, 1) := by decide +kernel
theorem dX4_add_39 : decode cX4_add 39 = .ok (.iastore, 1) := by decide +kernel
theorem dX4_add_40 : decode cX4_add 40 = .ok (.aload_n 0, 1) := by decide +kernel
theorem dX4_add_41 : decode cX4_add 41 = .ok (.dup, 1) := by decide +kernel
theorem dX4_add_42 : decode cX4_add 42 = .ok (.getfield 13, 3) := by decide +kernel
theorem dX4_add_45 : decode cX4_add 45 = .ok (.iconst 1, 1) := by decide +kernel
theorem dX4_add_46 : decode cX4_add 46 = .ok (.iadd, 1) := by decide +kernel
theorem dX4_add_47 : decode cX4_add 47 = .ok (.putfield 13, 3) := by decide +kernel
theorem dX4_add_50 : decode cX4_add 50 = .ok (.return_, 1) := by decide +kernel
theorem dX4_addAll_0 : decode cX4_addAll 0 = .ok (.iconst 0, 1) := by decide +kernel
theorem dX4_addAll_1 : decode cX4_addAll 1 = .ok (.istore_n 2, 1) := by decide +kernel
theorem dX4_addAll_2 : decode cX4_addAll 2 = .ok (.iload_n 2, 1) := by decide +kernel
theorem dX4_addAll_3 : decode cX4_addAll 3 = .ok (.aload_n 1, 1) := by decide +kernel
theorem dX4_addAll_4 : decode cX4_addAll 4 = .ok (.getfield 13, 3) := by decide +kernel
theorem dX4_addAll_7 : decode cX4_addAll 7 = .ok (.if_icmp .ge 19, 3) := by decide +kernel
theorem dX4_addAll_10 : decode cX4_addAll 10 = .ok (.aload_n 0, 1) := by decide +kernel
theorem dX4_addAll_11 : decode cX4_addAll 11 = .ok (.aload_n 1, 1) := by decide +kernel
theorem dX4_addAll_12 : decode cX4_addAll 12 = .ok (.getfield 7, 3) := by decide +kernel
theorem dX4_addAll_15 : decode cX4_addAll 15 = .ok (.iload_n 2, 1) := by decide +kernel
theorem dX4_addAll_16 : decode cX4_addAll 16 = .ok (.iaload, 1) := by decide +kernel
theorem dX4_addAll_17 : decode cX4_addAll 17 = .ok (.invokevirtual 23, 3) := by decide +kernel
theorem dX4_addAll_20 : decode cX4_addAll 20 = .ok (.iinc 2 1, 3) := by decide +kernel
theorem dX4_addAll_23 : decode cX4_addAll 23 = .ok (.goto (-21), 3) := by decide +kernel
theorem dX4_addAll_26 : decode cX4_addAll 26 = .ok (.return_, 1) := by decide +kernel
theorem dX4_takeFirst_0 : decode cX4_takeFirst 0 = .ok (.aload_n 0, 1) := by decide +kernel
theorem dX4_takeFirst_1 : decode cX4_takeFirst 1 = .ok (.getfield 13, 3) := by decide +kernel
theorem dX4_takeFirst_4 : decode cX4_takeFirst 4 = .ok (.ifCond .ne 5, 3) := by decide +kernel
theorem dX4_takeFirst_7 : decode cX4_takeFirst 7 = .ok (.iconst 0, 1) := by decide +kernel
theorem dX4_takeFirst_8 : decode cX4_takeFirst 8 = .ok (.ireturn, 1) := by decide +kernel
theorem dX4_takeFirst_9 : decode cX4_takeFirst 9 = .ok (.aload_n 0, 1) := by decide +kernel
theorem dX4_takeFirst_10 : decode cX4_takeFirst 10 = .ok (.getfield 7, 3) := by decide +kernel
theorem dX4_takeFirst_13 : decode cX4_takeFirst 13 = .ok (.iconst 0, 1) := by decide +kernel
theorem dX4_takeFirst_14 : decode cX4_takeFirst 14 = .ok (.iaload, 1) := by decide +kernel
theorem dX4_takeFirst_15 : decode cX4_takeFirst 15 = .ok (.istore_n 1, 1) := by decide +kernel
theorem dX4_takeFirst_16 : decode cX4_takeFirst 16 = .ok (.aload_n 0, 1) := by decide +kernel
theorem dX4_takeFirst_17 : decode cX4_takeFirst 17 = .ok (.dup, 1) := by decide +kernel
theorem dX4_takeFirst_18 : decode cX4_takeFirst 18 = .ok (.getfield 13, 3) := by decide +kernel
theorem dX4_takeFirst_21 : decode cX4_takeFirst 21 = .ok (.iconst 1, 1) := by decide +kernel
theorem dX4_takeFirst_22 : decode cX4_takeFirst 22 = .ok (.isub, 1) := by decide +kernel
theorem dX4_takeFirst_23 : decode cX4_takeFirst 23 = .ok (.putfield 13, 3) := by decide +kernel
theorem dX4_takeFirst_26 : decode cX4_takeFirst 26 = .ok (.aload_n 0, 1) := by decide +kernel
theorem dX4_takeFirst_27 : decode cX4_takeFirst 27 = .ok (.getfield 7, 3) := by decide +kernel
theorem dX4_takeFirst_30 : decode cX4_takeFirst 30 = .ok (.iconst 1, 1) := by decide +kernel
theorem dX4_takeFirst_31 : decode cX4_takeFirst 31 = .ok (.aload_n 0, 1) := by decide +kernel
theorem dX4_takeFirst_32 : decode cX4_takeFirst 32 = .ok (.getfield 7, 3) := by decide +kernel
theorem dX4_takeFirst_35 : decode cX4_takeFirst 35 = .ok (.iconst 0, 1) := by decide +kernel
theorem dX4_takeFirst_36 : decode cX4_takeFirst 36 = .ok (.aload_n 0, 1) := by decide +kernel
theorem dX4_takeFirst_37 : decode cX4_takeFirst 37 = .ok (.getfield 13, 3) := by decide +kernel
theorem dX4_takeFirst_40 : decode cX4_takeFirst 40 = .ok (.invokestatic 27, 3) := by decide +kernel
theorem dX4_takeFirst_43 : decode cX4_takeFirst 43 = .ok (.iload_n 1, 1) := by decide +kernel
theorem dX4_takeFirst_44 : decode cX4_takeFirst 44 = .ok (.ireturn, 1) := by decide +kernel
theorem dX4_copyFrom_0 : decode cX4_copyFrom 0 = .ok (.aload_n 0, 1) := by decide +kernel
theorem dX4_copyFrom_1 : decode cX4_copyFrom 1 = .ok (.getfield 7, 3) := by decide +kernel
theorem dX4_copyFrom_4 : decode cX4_copyFrom 4 = .ok (.arraylength, 1) := by decide +kernel
theorem dX4_copyFrom_5 : decode cX4_copyFrom 5 = .ok (.aload_n 1, 1) := by decide +kernel
theorem dX4_copyFrom_6 : decode cX4_copyFrom 6 = .ok (.getfield 13, 3) := by decide +kernel
theorem dX4_copyFrom_9 : decode cX4_copyFrom 9 = .ok (.if_icmp .ge 14, 3) := by decide +kernel
theorem dX4_copyFrom_12 : decode cX4_copyFrom 12 = .ok (.aload_n 0, 1) := by decide +kernel
theorem dX4_copyFrom_13 : decode cX4_copyFrom 13 = .ok (.aload_n 1, 1) := by decide +kernel
theorem dX4_copyFrom_14 : decode cX4_copyFrom 14 = .ok (.getfield 7, 3) := by decide +kernel
theorem dX4_copyFrom_17 : decode cX4_copyFrom 17 = .ok (.arraylength, 1) := by decide +kernel
theorem dX4_copyFrom_18 : decode cX4_copyFrom 18 = .ok (.newarray .int, 2) := by decide +kernel
theorem dX4_copyFrom_20 : decode cX4_copyFrom 20 = .ok (.putfield 7, 3) := by decide +kernel
theorem dX4_copyFrom_23 : decode cX4_copyFrom 23 = .ok (.aload_n 1, 1) := by decide +kernel
theorem dX4_copyFrom_24 : decode cX4_copyFrom 24 = .ok (.getfield 7, 3) := by decide +kernel
theorem dX4_copyFrom_27 : decode cX4_copyFrom 27 = .ok (.iconst 0, 1) := by decide +kernel
theorem dX4_copyFrom_28 : decode cX4_copyFrom 28 = .ok (.aload_n 0, 1) := by decide +kernel
theorem dX4_copyFrom_29 : decode cX4_copyFrom 29 = .ok (.getfield 7, 3) := by decide +kernel
theorem dX4_copyFrom_32 : decode cX4_copyFrom 32 = .ok (.iconst 0, 1) := by decide +kernel
theorem dX4_copyFrom_33 : decode cX4_copyFrom 33 = .ok (.aload_n 1, 1) := by decide +kernel
theorem dX4_copyFrom_34 : decode cX4_copyFrom 34 = .ok (.getfield 13, 3) := by decide +kernel
theorem dX4_copyFrom_37 : decode cX4_copyFrom 37 = .ok (.invokestatic 27, 3) := by decide +kernel
theorem dX4_copyFrom_40 : decode cX4_copyFrom 40 = .ok (.aload_n 0, 1) := by decide +kernel
theorem dX4_copyFrom_41 : decode cX4_copyFrom 41 = .ok (.aload_n 1, 1) := by decide +kernel
theorem dX4_copyFrom_42 : decode cX4_copyFrom 42 = .ok (.getfield 13, 3) := by decide +kernel
theorem dX4_copyFrom_45 : decode cX4_copyFrom 45 = .ok (.putfield 13, 3) := by decide +kernel
theorem dX4_copyFrom_48 : decode cX4_copyFrom 48 = .ok (.return_, 1) := by decide +kernel
theorem dX5_init_0 : decode cX5_init 0 = .ok (.aload_n 0, 1) := by decide +kernel
theorem dX5_init_1 : decode cX5_init 1 = .ok (.invokespecial 3, 3) := by decide +kernel
theorem dX5_init_4 : decode cX5_init 4 = .ok (.aload_n 0, 1) := by decide +kernel
theorem dX5_init_5 : decode cX5_init 5 = .ok (.bipush 24, 2) := by decide +kernel
theorem dX5_init_7 : decode cX5_init 7 = .ok (.newarray .int, 2) := by decide +kernel
theorem dX5_init_9 : decode cX5_init 9 = .ok (.putfield 9, 3) := by decide +kernel
theorem dX5_init_12 : decode cX5_init 12 = .ok (.aload_n 0, 1) := by decide +kernel
theorem dX5_init_13 : decode cX5_init 13 = .ok (.bipush 24, 2) := by decide +kernel
theorem dX5_init_15 : decode cX5_init 15 = .ok (.newarray .int, 2) := by decide +kernel
theorem dX5_init_17 : decode cX5_init 17 = .ok (.putfield 15, 3) := by decide +kernel
theorem dX5_init_20 : decode cX5_init 20 = .ok (.aload_n 0, 1) := by decide +kernel
theorem dX5_init_21 : decode cX5_init 21 = .ok (.bipush 24, 2) := by decide +kernel
theorem dX5_init_23 : decode cX5_init 23 = .ok (.newarray .int, 2) := by decide +kernel
theorem dX5_init_25 : decode cX5_init 25 = .ok (.putfield 18, 3) := by decide +kernel
theorem dX5_init_28 : decode cX5_init 28 = .ok (.return_, 1) := by decide +kernel
theorem dX5_append_0 : decode cX5_append 0 = .ok (.aload_n 0, 1) := by decide +kernel
theorem dX5_append_1 : decode cX5_append 1 = .ok (.getfield 21, 3) := by decide +kernel
theorem dX5_append_4 : decode cX5_append 4 = .ok (.bipush 24, 2) := by decide +kernel
theorem dX5_append_6 : decode cX5_append 6 = .ok (.if_icmp .lt 5, 3) := by decide +kernel
theorem dX5_append_9 : decode cX5_append 9 = .ok (.iconst (-1), 1) := by decide +kernel
theorem dX5_append_10 : decode cX5_append 10 = .ok (.ireturn, 1) := by decide +kernel
theorem dX5_append_11 : decode cX5_append 11 = .ok (.aload_n 0, 1) := by decide +kernel
theorem dX5_append_12 : decode cX5_append 12 = .ok (.getfield 9, 3) := by decide +kernel
theorem dX5_append_15 : decode cX5_append 15 = .ok (.aload_n 0, 1) := by decide +kernel
theorem dX5_append_16 : decode cX5_append 16 = .ok (.getfield 21, 3) := by decide +kernel
theorem dX5_append_19 : decode cX5_append 19 = .ok (.iload_n 1, 1) := by decide +kernel
theorem dX5_append_20 : decode cX5_append 20 = .ok (.iastore, 1) := by decide +kernel
theorem dX5_append_21 : decode cX5_append 21 = .ok (.aload_n 0, 1) := by decide +kernel
theorem dX5_append_22 : decode cX5_append 22 = .ok (.getfield 15, 3) := by decide +kernel
theorem dX5_append_25 : decode cX5_append 25 = .ok (.aload_n 0, 1) := by decide +kernel
theorem dX5_append_26 : decode cX5_append 26 = .ok (.getfield 21, 3) := by decide +kernel
theorem dX5_append_29 : decode cX5_append 29 = .ok (.iload_n 2, 1) := by decide +kernel
theorem dX5_append_30 : decode cX5_append 30 = .ok (.iastore, 1) := by decide +kernel
theorem dX5_append_31 : decode cX5_append 31 = .ok (.aload_n 0, 1) := by decide +kernel
theorem dX5_append_32 : decode cX5_append 32 = .ok (.getfield 18, 3) := by decide +kernel
theorem dX5_append_35 : decode cX5_append 35 = .ok (.aload_n 0, 1) := by decide +kernel
theorem dX5_append_36 : decode cX5_append 36 = .ok (.getfield 21, 3) := by decide +kernel
theorem dX5_append_39 : decode cX5_append 39 = .ok (.iload_n 3, 1) := by decide +kernel
theorem dX5_append_40 : decode cX5_append 40 = .ok (.iastore, 1) := by decide +kernel
theorem dX5_append_41 : decode cX5_append 41 = .ok (.aload_n 0, 1) := by decide +kernel
theorem dX5_append_42 : decode cX5_append 42 = .ok (.dup, 1) := by decide +kernel
theorem dX5_append_43 : decode cX5_append 43 = .ok (.getfield 21, 3) := by decide +kernel
theorem dX5_append_46 : decode cX5_append 46 = .ok (.iconst 1, 1) := by decide +kernel
theorem dX5_append_47 : decode cX5_append 47 = .ok (.iadd, 1) := by decide +kernel
theorem dX5_append_48 : decode cX5_append 48 = .ok (.putfield 21, 3) := by decide +kernel
theorem dX5_append_51 : decode cX5_append 51 = .ok (.aload_n 0, 1) := by decide +kernel
theorem dX5_append_52 : decode cX5_append 52 = .ok (.getfield 21, 3) := by decide +kernel
theorem dX5_append_55 : decode cX5_append 55 = .ok (.iconst 1, 1) := by decide +kernel
theorem dX5_append_56 : decode cX5_append 56 = .ok (.isub, 1) := by decide +kernel
theorem dX5_append_57 : decode cX5_append 57 = .ok (.ireturn, 1) := by decide +kernel
theorem dX6_init_0 : decode cX6_init 0 = .ok (.aload_n 0, 1) := by decide +kernel
theorem dX6_init_1 : decode cX6_init 1 = .ok (.invokespecial 3, 3) := by decide +kernel
theorem dX6_init_4 : decode cX6_init 4 = .ok (.aload_n 0, 1) := by decide +kernel
theorem dX6_init_5 : decode cX6_init 5 = .ok (.new 9, 3) := by decide +kernel
theorem dX6_init_8 : decode cX6_init 8 = .ok (.dup, 1) := by decide +kernel
theorem dX6_init_9 : decode cX6_init 9 = .ok (.invokespecial 11, 3) := by decide +kernel
theorem dX6_init_12 : decode cX6_init 12 = .ok (.putfield 12, 3) := by decide +kernel
theorem dX6_init_15 : decode cX6_init 15 = .ok (.aload_n 0, 1) := by decide +kernel
theorem dX6_init_16 : decode cX6_init 16 = .ok (.iconst 1, 1) := by decide +kernel
theorem dX6_init_17 : decode cX6_init 17 = .ok (.putfield 18, 3) := by decide +kernel
theorem dX6_init_20 : decode cX6_init 20 = .ok (.aload_n 0, 1) := by decide +kernel
theorem dX6_init_21 : decode cX6_init 21 = .ok (.aload_n 1, 1) := by decide +kernel
theorem dX6_init_22 : decode cX6_init 22 = .ok (.putfield 22, 3) := by decide +kernel
theorem dX6_init_25 : decode cX6_init 25 = .ok (.return_, 1) := by decide +kernel
theorem dX6_agrees_0 : decode cX6_agrees 0 = .ok (.iconst 0, 1) := by decide +kernel
theorem dX6_agrees_1 : decode cX6_agrees 1 = .ok (.istore_n 2, 1) := by decide +kernel
theorem dX6_agrees_2 : decode cX6_agrees 2 = .ok (.iconst 0, 1) := by decide +kernel
theorem dX6_agrees_3 : decode cX6_agrees 3 = .ok (.istore_n 3, 1) := by decide +kernel
theorem dX6_agrees_4 : decode cX6_agrees 4 = .ok (.iload_n 3, 1) := by decide +kernel
theorem dX6_agrees_5 : decode cX6_agrees 5 = .ok (.aload_n 0, 1) := by decide +kernel
theorem dX6_agrees_6 : decode cX6_agrees 6 = .ok (.getfield 22, 3) := by decide +kernel
theorem dX6_agrees_9 : decode cX6_agrees 9 = .ok (.getfield 26, 3) := by decide +kernel
theorem dX6_agrees_12 : decode cX6_agrees 12 = .ok (.if_icmp .ge 86, 3) := by decide +kernel
theorem dX6_agrees_15 : decode cX6_agrees 15 = .ok (.aload_n 0, 1) := by decide +kernel
theorem dX6_agrees_16 : decode cX6_agrees 16 = .ok (.getfield 12, 3) := by decide +kernel
theorem dX6_agrees_19 : decode cX6_agrees 19 = .ok (.invokevirtual 32, 3) := by decide +kernel
theorem dX6_agrees_22 : decode cX6_agrees 22 = .ok (.ifCond .eq 5, 3) := by decide +kernel
theorem dX6_agrees_25 : decode cX6_agrees 25 = .ok (.iconst 0, 1) := by decide +kernel
theorem dX6_agrees_26 : decode cX6_agrees 26 = .ok (.ireturn, 1) := by decide +kernel
theorem dX6_agrees_27 : decode cX6_agrees 27 = .ok (.iload_n 2, 1) := by decide +kernel
theorem dX6_agrees_28 : decode cX6_agrees 28 = .ok (.aload_n 0, 1) := by decide +kernel
theorem dX6_agrees_29 : decode cX6_agrees 29 = .ok (.getfield 22, 3) := by decide +kernel
theorem dX6_agrees_32 : decode cX6_agrees 32 = .ok (.getfield 36, 3) := by decide +kernel
theorem dX6_agrees_35 : decode cX6_agrees 35 = .ok (.getfield 40, 3) := by decide +kernel
theorem dX6_agrees_38 : decode cX6_agrees 38 = .ok (.if_icmp .ge 45, 3) := by decide +kernel
theorem dX6_agrees_41 : decode cX6_agrees 41 = .ok (.aload_n 0, 1) := by decide +kernel
theorem dX6_agrees_42 : decode cX6_agrees 42 = .ok (.getfield 22, 3) := by decide +kernel
theorem dX6_agrees_45 : decode cX6_agrees 45 = .ok (.getfield 36, 3) := by decide +kernel
theorem dX6_agrees_48 : decode cX6_agrees 48 = .ok (.getfield 45, 3) := by decide +kernel
theorem dX6_agrees_51 : decode cX6_agrees 51 = .ok (.iload_n 2, 1) := by decide +kernel
theorem dX6_agrees_52 : decode cX6_agrees 52 = .ok (.iaload, 1) := by decide +kernel
theorem dX6_agrees_53 : decode cX6_agrees 53 = .ok (.iconst 4, 1) := by decide +kernel
theorem dX6_agrees_54 : decode cX6_agrees 54 = .ok (.idiv, 1) := by decide +kernel
theorem dX6_agrees_55 : decode cX6_agrees 55 = .ok (.iload_n 3, 1) := by decide +kernel
theorem dX6_agrees_56 : decode cX6_agrees 56 = .ok (.if_icmp .ne 27, 3) := by decide +kernel
theorem dX6_agrees_59 : decode cX6_agrees 59 = .ok (.aload_n 0, 1) := by decide +kernel
theorem dX6_agrees_60 : decode cX6_agrees 60 = .ok (.getfield 12, 3) := by decide +kernel
theorem dX6_agrees_63 : decode cX6_agrees 63 = .ok (.aload_n 0, 1) := by decide +kernel
theorem dX6_agrees_64 : decode cX6_agrees 64 = .ok (.getfield 22, 3) := by decide +kernel
theorem dX6_agrees_67 : decode cX6_agrees 67 = .ok (.getfield 36, 3) := by decide +kernel
theorem dX6_agrees_70 : decode cX6_agrees 70 = .ok (.getfield 45, 3) := by decide +kernel
theorem dX6_agrees_73 : decode cX6_agrees 73 = .ok (.iload_n 2, 1) := by decide +kernel
theorem dX6_agrees_74 : decode cX6_agrees 74 = .ok (.iaload, 1) := by decide +kernel
theorem dX6_agrees_75 : decode cX6_agrees 75 = .ok (.iconst 4, 1) := by decide +kernel
theorem dX6_agrees_76 : decode cX6_agrees 76 = .ok (.irem, 1) := by decide +kernel
theorem dX6_agrees_77 : decode cX6_agrees 77 = .ok (.invokevirtual 49, 3) := by decide +kernel
theorem dX6_agrees_80 : decode cX6_agrees 80 = .ok (.iinc 2 1, 3) := by decide +kernel
theorem dX6_agrees_83 : decode cX6_agrees 83 = .ok (.aload_n 0, 1) := by decide +kernel
theorem dX6_agrees_84 : decode cX6_agrees 84 = .ok (.getfield 12, 3) := by decide +kernel
theorem dX6_agrees_87 : decode cX6_agrees 87 = .ok (.aload_n 1, 1) := by decide +kernel
theorem dX6_agrees_88 : decode cX6_agrees 88 = .ok (.aload_n 0, 1) := by decide +kernel
theorem dX6_agrees_89 : decode cX6_agrees 89 = .ok (.invokevirtual 53, 3) := by decide +kernel
theorem dX6_agrees_92 : decode cX6_agrees 92 = .ok (.iinc 3 1, 3) := by decide +kernel
theorem dX6_agrees_95 : decode cX6_agrees 95 = .ok (.goto (-91), 3) := by decide +kernel
theorem dX6_agrees_98 : decode cX6_agrees 98 = .ok (.aload_n 0, 1) := by decide +kernel
theorem dX6_agrees_99 : decode cX6_agrees 99 = .ok (.getfield 18, 3) := by decide +kernel
theorem dX6_agrees_102 : decode cX6_agrees 102 = .ok (.ifCond .eq 72, 3) := by decide +kernel
theorem dX6_agrees_105 : decode cX6_agrees 105 = .ok (.iload_n 2, 1) := by decide +kernel
theorem dX6_agrees_106 : decode cX6_agrees 106 = .ok (.aload_n 0, 1) := by decide +kernel
theorem dX6_agrees_107 : decode cX6_agrees 107 = .ok (.getfield 22, 3) := by decide +kernel
theorem dX6_agrees_110 : decode cX6_agrees 110 = .ok (.getfield 36, 3) := by decide +kernel
theorem dX6_agrees_113 : decode cX6_agrees 113 = .ok (.getfield 40, 3) := by decide +kernel
theorem dX6_agrees_116 : decode cX6_agrees 116 = .ok (.if_icmp .ne 58, 3) := by decide +kernel
theorem dX6_agrees_119 : decode cX6_agrees 119 = .ok (.aload_n 0, 1) := by decide +kernel
theorem dX6_agrees_120 : decode cX6_agrees 120 = .ok (.getfield 57, 3) := by decide +kernel
theorem dX6_agrees_123 : decode cX6_agrees 123 = .ok (.aload_n 0, 1) := by decide +kernel
theorem dX6_agrees_124 : decode cX6_agrees 124 = .ok (.getfield 22, 3) := by decide +kernel
theorem dX6_agrees_127 : decode cX6_agrees 127 = .ok (.getfield 60, 3) := by decide +kernel
theorem dX6_agrees_130 : decode cX6_agrees 130 = .ok (.getfield 40, 3) := by decide +kernel
theorem dX6_agrees_133 : decode cX6_agrees 133 = .ok (.if_icmp .ne 41, 3) := by decide +kernel
theorem dX6_agrees_136 : decode cX6_agrees 136 = .ok (.aload_n 0, 1) := by decide +kernel
theorem dX6_agrees_137 : decode cX6_agrees 137 = .ok (.getfield 63, 3) := by decide +kernel
theorem dX6_agrees_140 : decode cX6_agrees 140 = .ok (.aload_n 0, 1) := by decide +kernel
theorem dX6_agrees_141 : decode cX6_agrees 141 = .ok (.getfield 22, 3) := by decide +kernel
theorem dX6_agrees_144 : decode cX6_agrees 144 = .ok (.getfield 66, 3) := by decide +kernel
theorem dX6_agrees_147 : decode cX6_agrees 147 = .ok (.getfield 40, 3) := by decide +kernel
theorem dX6_agrees_150 : decode cX6_agrees 150 = .ok (.if_icmp .ne 24, 3) := by decide +kernel
theorem dX6_agrees_153 : decode cX6_agrees 153 = .ok (.aload_n 0, 1) := by decide +kernel
theorem dX6_agrees_154 : decode cX6_agrees 154 = .ok (.getfield 12, 3) := by decide +kernel
theorem dX6_agrees_157 : decode cX6_agrees 157 = .ok (.aload_n 0, 1) := by decide +kernel
theorem dX6_agrees_158 : decode cX6_agrees 158 = .ok (.getfield 22, 3) := by decide +kernel
theorem dX6_agrees_161 : decode cX6_agrees 161 = .ok (.getfield 69, 3) := by decide +kernel
theorem dX6_agrees_164 : decode cX6_agrees 164 = .ok (.invokevirtual 70, 3) := by decide +kernel
theorem dX6_agrees_167 : decode cX6_agrees 167 = .ok (.ifCond .eq 7, 3) := by decide +kernel
theorem dX6_agrees_170 : decode cX6_agrees 170 = .ok (.iconst 1, 1) := by decide +kernel
theorem dX6_agrees_171 : decode cX6_agrees 171 = .ok (.goto 4, 3) := by decide +kernel
theorem dX6_agrees_174 : decode cX6_agrees 174 = .ok (.iconst 0, 1) := by decide +kernel
theorem dX6_agrees_175 : decode cX6_agrees 175 = .ok (.ireturn, 1) := by decide +kernel
theorem dX6_takeFrom_0 : decode cX6_takeFrom 0 = .ok (.aload_n 0, 1) := by decide +kernel
theorem dX6_takeFrom_1 : decode cX6_takeFrom 1 = .ok (.getfield 57, 3) := by decide +kernel
theorem dX6_takeFrom_4 : decode cX6_takeFrom 4 = .ok (.aload_n 0, 1) := by decide +kernel
theorem dX6_takeFrom_5 : decode cX6_takeFrom 5 = .ok (.getfield 22, 3) := by decide +kernel
theorem dX6_takeFrom_8 : decode cX6_takeFrom 8 = .ok (.getfield 60, 3) := by decide +kernel
theorem dX6_takeFrom_11 : decode cX6_takeFrom 11 = .ok (.getfield 40, 3) := by decide +kernel
theorem dX6_takeFrom_14 : decode cX6_takeFrom 14 = .ok (.if_icmp .lt 10, 3) := by decide +kernel
theorem dX6_takeFrom_17 : decode cX6_takeFrom 17 = .ok (.aload_n 0, 1) := by decide +kernel
theorem dX6_takeFrom_18 : decode cX6_takeFrom 18 = .ok (.iconst 0, 1) := by decide +kernel
theorem dX6_takeFrom_19 : decode cX6_takeFrom 19 = .ok (.putfield 18, 3) := by decide +kernel
theorem dX6_takeFrom_22 : decode cX6_takeFrom 22 = .ok (.iconst 0, 1) := by decide +kernel
theorem dX6_takeFrom_23 : decode cX6_takeFrom 23 = .ok (.ireturn, 1) := by decide +kernel
theorem dX6_takeFrom_24 : decode cX6_takeFrom 24 = .ok (.aload_n 0, 1) := by decide +kernel
theorem dX6_takeFrom_25 : decode cX6_takeFrom 25 = .ok (.dup, 1) := by decide +kernel
theorem dX6_takeFrom_26 : decode cX6_takeFrom 26 = .ok (.getfield 57, 3) := by decide +kernel
theorem dX6_takeFrom_29 : decode cX6_takeFrom 29 = .ok (.iconst 1, 1) := by decide +kernel
theorem dX6_takeFrom_30 : decode cX6_takeFrom 30 = .ok (.iadd, 1) := by decide +kernel
theorem dX6_takeFrom_31 : decode cX6_takeFrom 31 = .ok (.putfield 57, 3) := by decide +kernel
theorem dX6_takeFrom_34 : decode cX6_takeFrom 34 = .ok (.aload_n 0, 1) := by decide +kernel
theorem dX6_takeFrom_35 : decode cX6_takeFrom 35 = .ok (.getfield 22, 3) := by decide +kernel
theorem dX6_takeFrom_38 : decode cX6_takeFrom 38 = .ok (.getfield 60, 3) := by decide +kernel
theorem dX6_takeFrom_41 : decode cX6_takeFrom 41 = .ok (.getfield 45, 3) := by decide +kernel
theorem dX6_takeFrom_44 : decode cX6_takeFrom 44 = .ok (.aload_n 0, 1) := by decide +kernel
theorem dX6_takeFrom_45 : decode cX6_takeFrom 45 = .ok (.getfield 57, 3) := by decide +kernel
theorem dX6_takeFrom_48 : decode cX6_takeFrom 48 = .ok (.iconst 1, 1) := by decide +kernel
theorem dX6_takeFrom_49 : decode cX6_takeFrom 49 = .ok (.isub, 1) := by decide +kernel
theorem dX6_takeFrom_50 : decode cX6_takeFrom 50 = .ok (.iaload, 1) := by decide +kernel
theorem dX6_takeFrom_51 : decode cX6_takeFrom 51 = .ok (.ireturn, 1) := by decide +kernel
theorem dX6_tell_0 : decode cX6_tell 0 = .ok (.iload_n 1, 1) := by decide +kernel
theorem dX6_tell_1 : decode cX6_tell 1 = .ok (.ifCond .eq 4, 3) := by decide +kernel
theorem dX6_tell_4 : decode cX6_tell 4 = .ok (.return_, 1) := by decide +kernel
theorem dX6_tell_5 : decode cX6_tell 5 = .ok (.aload_n 0, 1) := by decide +kernel
theorem dX6_tell_6 : decode cX6_tell 6 = .ok (.aload_n 0, 1) := by decide +kernel
theorem dX6_tell_7 : decode cX6_tell 7 = .ok (.getfield 18, 3) := by decide +kernel
theorem dX6_tell_10 : decode cX6_tell 10 = .ok (.ifCond .eq 43, 3) := by decide +kernel
theorem dX6_tell_13 : decode cX6_tell 13 = .ok (.aload_n 0, 1) := by decide +kernel
theorem dX6_tell_14 : decode cX6_tell 14 = .ok (.getfield 63, 3) := by decide +kernel
theorem dX6_tell_17 : decode cX6_tell 17 = .ok (.aload_n 0, 1) := by decide +kernel
theorem dX6_tell_18 : decode cX6_tell 18 = .ok (.getfield 22, 3) := by decide +kernel
theorem dX6_tell_21 : decode cX6_tell 21 = .ok (.getfield 66, 3) := by decide +kernel
theorem dX6_tell_24 : decode cX6_tell 24 = .ok (.getfield 40, 3) := by decide +kernel
theorem dX6_tell_27 : decode cX6_tell 27 = .ok (.if_icmp .ge 26, 3) := by decide +kernel
theorem dX6_tell_30 : decode cX6_tell 30 = .ok (.aload_n 0, 1) := by decide +kernel
theorem dX6_tell_31 : decode cX6_tell 31 = .ok (.getfield 22, 3) := by decide +kernel
theorem dX6_tell_34 : decode cX6_tell 34 = .ok (.getfield 66, 3) := by decide +kernel
theorem dX6_tell_37 : decode cX6_tell 37 = .ok (.getfield 45, 3) := by decide +kernel
theorem dX6_tell_40 : decode cX6_tell 40 = .ok (.aload_n 0, 1) := by decide +kernel
theorem dX6_tell_41 : decode cX6_tell 41 = .ok (.getfield 63, 3) := by decide +kernel
theorem dX6_tell_44 : decode cX6_tell 44 = .ok (.iaload, 1) := by decide +kernel
theorem dX6_tell_45 : decode cX6_tell 45 = .ok (.iload_n 2, 1) := by decide +kernel
theorem dX6_tell_46 : decode cX6_tell 46 = .ok (.if_icmp .ne 7, 3) := by decide +kernel
theorem dX6_tell_49 : decode cX6_tell 49 = .ok (.iconst 1, 1) := by decide +kernel
theorem dX6_tell_50 : decode cX6_tell 50 = .ok (.goto 4, 3) := by decide +kernel
theorem dX6_tell_53 : decode cX6_tell 53 = .ok (.iconst 0, 1) := by decide +kernel
theorem dX6_tell_54 : decode cX6_tell 54 = .ok (.putfield 18, 3) := by decide +kernel
theorem dX6_tell_57 : decode cX6_tell 57 = .ok (.aload_n 0, 1) := by decide +kernel
theorem dX6_tell_58 : decode cX6_tell 58 = .ok (.dup, 1) := by decide +kernel
theorem dX6_tell_59 : decode cX6_tell 59 = .ok (.getfield 63, 3) := by decide +kernel
theorem dX6_tell_62 : decode cX6_tell 62 = .ok (.iconst 1, 1) := by decide +kernel
theorem dX6_tell_63 : decode cX6_tell 63 = .ok (.iadd, 1) := by decide +kernel
theorem dX6_tell_64 : decode cX6_tell 64 = .ok (.putfield 63, 3) := by decide +kernel
theorem dX6_tell_67 : decode cX6_tell 67 = .ok (.return_, 1) := by decide +kernel
theorem dX6_isInterruptPending_0 : decode cX6_isInterruptPending 0 = .ok (.iconst 0, 1) := by decide +kernel
theorem dX6_isInterruptPending_1 : decode cX6_isInterruptPending 1 = .ok (.ireturn, 1) := by decide +kernel
theorem dX6_reach_0 : decode cX6_reach 0 = .ok (.return_, 1) := by decide +kernel
theorem dX6_giveBack_0 : decode cX6_giveBack 0 = .ok (.return_, 1) := by decide +kernel
theorem dX6_countExit_0 : decode cX6_countExit 0 = .ok (.return_, 1) := by decide +kernel
theorem dX7_init_0 : decode cX7_init 0 = .ok (.aload_n 0, 1) := by decide +kernel
theorem dX7_init_1 : decode cX7_init 1 = .ok (.invokespecial 1, 3) := by decide +kernel
theorem dX7_init_4 : decode cX7_init 4 = .ok (.aload_n 0, 1) := by decide +kernel
theorem dX7_init_5 : decode cX7_init 5 = .ok (.new 7, 3) := by decide +kernel
theorem dX7_init_8 : decode cX7_init 8 = .ok (.dup, 1) := by decide +kernel
theorem dX7_init_9 : decode cX7_init 9 = .ok (.invokespecial 9, 3) := by decide +kernel
theorem dX7_init_12 : decode cX7_init 12 = .ok (.putfield 10, 3) := by decide +kernel
theorem dX7_init_15 : decode cX7_init 15 = .ok (.aload_n 0, 1) := by decide +kernel
theorem dX7_init_16 : decode cX7_init 16 = .ok (.aload_n 1, 1) := by decide +kernel
theorem dX7_init_17 : decode cX7_init 17 = .ok (.putfield 16, 3) := by decide +kernel
theorem dX7_init_20 : decode cX7_init 20 = .ok (.aload_n 0, 1) := by decide +kernel
theorem dX7_init_21 : decode cX7_init 21 = .ok (.getfield 10, 3) := by decide +kernel
theorem dX7_init_24 : decode cX7_init 24 = .ok (.aload_n 1, 1) := by decide +kernel
theorem dX7_init_25 : decode cX7_init 25 = .ok (.getfield 20, 3) := by decide +kernel
theorem dX7_init_28 : decode cX7_init 28 = .ok (.invokevirtual 23, 3) := by decide +kernel
theorem dX7_init_31 : decode cX7_init 31 = .ok (.aload_n 1, 1) := by decide +kernel
theorem dX7_init_32 : decode cX7_init 32 = .ok (.getfield 27, 3) := by decide +kernel
theorem dX7_init_35 : decode cX7_init 35 = .ok (.astore_n 2, 1) := by decide +kernel
theorem dX7_init_36 : decode cX7_init 36 = .ok (.aload_n 0, 1) := by decide +kernel
theorem dX7_init_37 : decode cX7_init 37 = .ok (.aload_n 0, 1) := by decide +kernel
theorem dX7_init_38 : decode cX7_init 38 = .ok (.getfield 10, 3) := by decide +kernel
theorem dX7_init_41 : decode cX7_init 41 = .ok (.aload_n 2, 1) := by decide +kernel
theorem dX7_init_42 : decode cX7_init 42 = .ok (.ifnonnull 7, 3) := by decide +kernel
theorem dX7_init_45 : decode cX7_init 45 = .ok (.aconst_null, 1) := by decide +kernel
theorem dX7_init_46 : decode cX7_init 46 = .ok (.goto 7, 3) := by decide +kernel
theorem dX7_init_49 : decode cX7_init 49 = .ok (.aload_n 2, 1) := by decide +kernel
theorem dX7_init_50 : decode cX7_init 50 = .ok (.getfield 10, 3) := by decide +kernel
theorem dX7_init_53 : decode cX7_init 53 = .ok (.invokevirtual 31, 3) := by decide +kernel
theorem dX7_init_56 : decode cX7_init 56 = .ok (.putfield 35, 3) := by decide +kernel
theorem dX7_init_59 : decode cX7_init 59 = .ok (.return_, 1) := by decide +kernel
theorem dX8_init_0 : decode cX8_init 0 = .ok (.aload_n 0, 1) := by decide +kernel
theorem dX8_init_1 : decode cX8_init 1 = .ok (.invokespecial 3, 3) := by decide +kernel
theorem dX8_init_4 : decode cX8_init 4 = .ok (.aload_n 0, 1) := by decide +kernel
theorem dX8_init_5 : decode cX8_init 5 = .ok (.new 9, 3) := by decide +kernel
theorem dX8_init_8 : decode cX8_init 8 = .ok (.dup, 1) := by decide +kernel
theorem dX8_init_9 : decode cX8_init 9 = .ok (.invokespecial 11, 3) := by decide +kernel
theorem dX8_init_12 : decode cX8_init 12 = .ok (.putfield 12, 3) := by decide +kernel
theorem dX8_init_15 : decode cX8_init 15 = .ok (.aload_n 0, 1) := by decide +kernel
theorem dX8_init_16 : decode cX8_init 16 = .ok (.new 18, 3) := by decide +kernel
theorem dX8_init_19 : decode cX8_init 19 = .ok (.dup, 1) := by decide +kernel
theorem dX8_init_20 : decode cX8_init 20 = .ok (.invokespecial 20, 3) := by decide +kernel
theorem dX8_init_23 : decode cX8_init 23 = .ok (.putfield 21, 3) := by decide +kernel
theorem dX8_init_26 : decode cX8_init 26 = .ok (.aload_n 0, 1) := by decide +kernel
theorem dX8_init_27 : decode cX8_init 27 = .ok (.new 18, 3) := by decide +kernel
theorem dX8_init_30 : decode cX8_init 30 = .ok (.dup, 1) := by decide +kernel
theorem dX8_init_31 : decode cX8_init 31 = .ok (.invokespecial 20, 3) := by decide +kernel
theorem dX8_init_34 : decode cX8_init 34 = .ok (.putfield 25, 3) := by decide +kernel
theorem dX8_init_37 : decode cX8_init 37 = .ok (.aload_n 0, 1) := by decide +kernel
theorem dX8_init_38 : decode cX8_init 38 = .ok (.new 18, 3) := by decide +kernel
theorem dX8_init_41 : decode cX8_init 41 = .ok (.dup, 1) := by decide +kernel
theorem dX8_init_42 : decode cX8_init 42 = .ok (.invokespecial 20, 3) := by decide +kernel
theorem dX8_init_45 : decode cX8_init 45 = .ok (.putfield 28, 3) := by decide +kernel
theorem dX8_init_48 : decode cX8_init 48 = .ok (.aload_n 0, 1) := by decide +kernel
theorem dX8_init_49 : decode cX8_init 49 = .ok (.new 18, 3) := by decide +kernel
theorem dX8_init_52 : decode cX8_init 52 = .ok (.dup, 1) := by decide +kernel
theorem dX8_init_53 : decode cX8_init 53 = .ok (.invokespecial 20, 3) := by decide +kernel
theorem dX8_init_56 : decode cX8_init 56 = .ok (.putfield 31, 3) := by decide +kernel
theorem dX8_init_59 : decode cX8_init 59 = .ok (.return_, 1) := by decide +kernel
theorem dX8_isInterruptPending_0 : decode cX8_isInterruptPending 0 = .ok (.aload_n 0, 1) := by decide +kernel
theorem dX8_isInterruptPending_1 : decode cX8_isInterruptPending 1 = .ok (.getfield 34, 3) := by decide +kernel
theorem dX8_isInterruptPending_4 : decode cX8_isInterruptPending 4 = .ok (.ifCond .ne 10, 3) := by decide +kernel
theorem dX8_isInterruptPending_7 : decode cX8_isInterruptPending 7 = .ok (.aload_n 0, 1) := by decide +kernel
theorem dX8_isInterruptPending_8 : decode cX8_isInterruptPending 8 = .ok (.getfield 38, 3) := by decide +kernel
theorem dX8_isInterruptPending_11 : decode cX8_isInterruptPending 11 = .ok (.ifCond .eq 7, 3) := by decide +kernel
theorem dX8_isInterruptPending_14 : decode cX8_isInterruptPending 14 = .ok (.iconst 1, 1) := by decide +kernel
theorem dX8_isInterruptPending_15 : decode cX8_isInterruptPending 15 = .ok (.goto 4, 3) := by decide +kernel
theorem dX8_isInterruptPending_18 : decode cX8_isInterruptPending 18 = .ok (.iconst 0, 1) := by decide +kernel
theorem dX8_isInterruptPending_19 : decode cX8_isInterruptPending 19 = .ok (.ireturn, 1) := by decide +kernel
theorem dX8_rouse_0 : decode cX8_rouse 0 = .ok (.aload_n 0, 1) := by decide +kernel
theorem dX8_rouse_1 : decode cX8_rouse 1 = .ok (.getfield 12, 3) := by decide +kernel
theorem dX8_rouse_4 : decode cX8_rouse 4 = .ok (.getfield 41, 3) := by decide +kernel
theorem dX8_rouse_7 : decode cX8_rouse 7 = .ok (.iconst 1, 1) := by decide +kernel
theorem dX8_rouse_8 : decode cX8_rouse 8 = .ok (.if_icmp .ne 18, 3) := by decide +kernel
theorem dX8_rouse_11 : decode cX8_rouse 11 = .ok (.aload_n 0, 1) := by decide +kernel
theorem dX8_rouse_12 : decode cX8_rouse 12 = .ok (.invokevirtual 45, 3) := by decide +kernel
theorem dX8_rouse_15 : decode cX8_rouse 15 = .ok (.ifCond .eq 11, 3) := by decide +kernel
theorem dX8_rouse_18 : decode cX8_rouse 18 = .ok (.aload_n 0, 1) := by decide +kernel
theorem dX8_rouse_19 : decode cX8_rouse 19 = .ok (.getfield 12, 3) := by decide +kernel
theorem dX8_rouse_22 : decode cX8_rouse 22 = .ok (.iconst 0, 1) := by decide +kernel
theorem dX8_rouse_23 : decode cX8_rouse 23 = .ok (.putfield 41, 3) := by decide +kernel
theorem dX8_rouse_26 : decode cX8_rouse 26 = .ok (.return_, 1) := by decide +kernel
theorem dX8_countTimerDown_0 : decode cX8_countTimerDown 0 = .ok (.aload_n 0, 1) := by decide +kernel
theorem dX8_countTimerDown_1 : decode cX8_countTimerDown 1 = .ok (.getfield 49, 3) := by decide +kernel
theorem dX8_countTimerDown_4 : decode cX8_countTimerDown 4 = .ok (.ifCond .le 36, 3) := by decide +kernel
theorem dX8_countTimerDown_7 : decode cX8_countTimerDown 7 = .ok (.aload_n 0, 1) := by decide +kernel
theorem dX8_countTimerDown_8 : decode cX8_countTimerDown 8 = .ok (.dup, 1) := by decide +kernel
theorem dX8_countTimerDown_9 : decode cX8_countTimerDown 9 = .ok (.getfield 49, 3) := by decide +kernel
theorem dX8_countTimerDown_12 : decode cX8_countTimerDown 12 = .ok (.iconst 1, 1) := by decide +kernel
theorem dX8_countTimerDown_13 : decode cX8_countTimerDown 13 = .ok (.isub, 1) := by decide +kernel
theorem dX8_countTimerDown_14 : decode cX8_countTimerDown 14 = .ok (.putfield 49, 3) := by decide +kernel
theorem dX8_countTimerDown_17 : decode cX8_countTimerDown 17 = .ok (.aload_n 0, 1) := by decide +kernel
theorem dX8_countTimerDown_18 : decode cX8_countTimerDown 18 = .ok (.aload_n 0, 1) := by decide +kernel
theorem dX8_countTimerDown_19 : decode cX8_countTimerDown 19 = .ok (.getfield 34, 3) := by decide +kernel
theorem dX8_countTimerDown_22 : decode cX8_countTimerDown 22 = .ok (.ifCond .ne 10, 3) := by decide +kernel
theorem dX8_countTimerDown_25 : decode cX8_countTimerDown 25 = .ok (.aload_n 0, 1) := by decide +kernel
theorem dX8_countTimerDown_26 : decode cX8_countTimerDown 26 = .ok (.getfield 49, 3) := by decide +kernel
theorem dX8_countTimerDown_29 : decode cX8_countTimerDown 29 = .ok (.ifCond .ne 7, 3) := by decide +kernel
theorem dX8_countTimerDown_32 : decode cX8_countTimerDown 32 = .ok (.iconst 1, 1) := by decide +kernel
theorem dX8_countTimerDown_33 : decode cX8_countTimerDown 33 = .ok (.goto 4, 3) := by decide +kernel
theorem dX8_countTimerDown_36 : decode cX8_countTimerDown 36 = .ok (.iconst 0, 1) := by decide +kernel
theorem dX8_countTimerDown_37 : decode cX8_countTimerDown 37 = .ok (.putfield 34, 3) := by decide +kernel
theorem dX8_countTimerDown_40 : decode cX8_countTimerDown 40 = .ok (.aload_n 0, 1) := by decide +kernel
theorem dX8_countTimerDown_41 : decode cX8_countTimerDown 41 = .ok (.invokevirtual 52, 3) := by decide +kernel
theorem dX8_countTimerDown_44 : decode cX8_countTimerDown 44 = .ok (.return_, 1) := by decide +kernel
theorem dX8_letInterruptIn_0 : decode cX8_letInterruptIn 0 = .ok (.aload_n 0, 1) := by decide +kernel
theorem dX8_letInterruptIn_1 : decode cX8_letInterruptIn 1 = .ok (.invokevirtual 45, 3) := by decide +kernel
theorem dX8_letInterruptIn_4 : decode cX8_letInterruptIn 4 = .ok (.ifCond .eq 24, 3) := by decide +kernel
theorem dX8_letInterruptIn_7 : decode cX8_letInterruptIn 7 = .ok (.aload_n 0, 1) := by decide +kernel
theorem dX8_letInterruptIn_8 : decode cX8_letInterruptIn 8 = .ok (.getfield 12, 3) := by decide +kernel
theorem dX8_letInterruptIn_11 : decode cX8_letInterruptIn 11 = .ok (.getfield 55, 3) := by decide +kernel
theorem dX8_letInterruptIn_14 : decode cX8_letInterruptIn 14 = .ok (.ifCond .ne 14, 3) := by decide +kernel
theorem dX8_letInterruptIn_17 : decode cX8_letInterruptIn 17 = .ok (.aload_n 0, 1) := by decide +kernel
theorem dX8_letInterruptIn_18 : decode cX8_letInterruptIn 18 = .ok (.getfield 12, 3) := by decide +kernel
theorem dX8_letInterruptIn_21 : decode cX8_letInterruptIn 21 = .ok (.getfield 58, 3) := by decide +kernel
theorem dX8_letInterruptIn_24 : decode cX8_letInterruptIn 24 = .ok (.iconst (-1), 1) := by decide +kernel
theorem dX8_letInterruptIn_25 : decode cX8_letInterruptIn 25 = .ok (.if_icmp .ne 5, 3) := by decide +kernel
theorem dX8_letInterruptIn_28 : decode cX8_letInterruptIn 28 = .ok (.iconst 0, 1) := by decide +kernel
theorem dX8_letInterruptIn_29 : decode cX8_letInterruptIn 29 = .ok (.ireturn, 1) := by decide +kernel
theorem dX8_letInterruptIn_30 : decode cX8_letInterruptIn 30 = .ok (.aload_n 0, 1) := by decide +kernel
theorem dX8_letInterruptIn_31 : decode cX8_letInterruptIn 31 = .ok (.getfield 34, 3) := by decide +kernel
theorem dX8_letInterruptIn_34 : decode cX8_letInterruptIn 34 = .ok (.ifCond .eq 7, 3) := by decide +kernel
theorem dX8_letInterruptIn_37 : decode cX8_letInterruptIn 37 = .ok (.iconst 2, 1) := by decide +kernel
theorem dX8_letInterruptIn_38 : decode cX8_letInterruptIn 38 = .ok (.goto 4, 3) := by decide +kernel
theorem dX8_letInterruptIn_41 : decode cX8_letInterruptIn 41 = .ok (.iconst 3, 1) := by decide +kernel
theorem dX8_letInterruptIn_42 : decode cX8_letInterruptIn 42 = .ok (.istore_n 1, 1) := by decide +kernel
theorem dX8_letInterruptIn_43 : decode cX8_letInterruptIn 43 = .ok (.aload_n 0, 1) := by decide +kernel
theorem dX8_letInterruptIn_44 : decode cX8_letInterruptIn 44 = .ok (.getfield 34, 3) := by decide +kernel
theorem dX8_letInterruptIn_47 : decode cX8_letInterruptIn 47 = .ok (.ifCond .eq 11, 3) := by decide +kernel
theorem dX8_letInterruptIn_50 : decode cX8_letInterruptIn 50 = .ok (.aload_n 0, 1) := by decide +kernel
theorem dX8_letInterruptIn_51 : decode cX8_letInterruptIn 51 = .ok (.iconst 0, 1) := by decide +kernel
theorem dX8_letInterruptIn_52 : decode cX8_letInterruptIn 52 = .ok (.putfield 34, 3) := by decide +kernel
theorem dX8_letInterruptIn_55 : decode cX8_letInterruptIn 55 = .ok (.goto 8, 3) := by decide +kernel
theorem dX8_letInterruptIn_58 : decode cX8_letInterruptIn 58 = .ok (.aload_n 0, 1) := by decide +kernel
theorem dX8_letInterruptIn_59 : decode cX8_letInterruptIn 59 = .ok (.iconst 0, 1) := by decide +kernel
theorem dX8_letInterruptIn_60 : decode cX8_letInterruptIn 60 = .ok (.putfield 38, 3) := by decide +kernel
theorem dX8_letInterruptIn_63 : decode cX8_letInterruptIn 63 = .ok (.aload_n 0, 1) := by decide +kernel
theorem dX8_letInterruptIn_64 : decode cX8_letInterruptIn 64 = .ok (.getfield 31, 3) := by decide +kernel
theorem dX8_letInterruptIn_67 : decode cX8_letInterruptIn 67 = .ok (.aload_n 0, 1) := by decide +kernel
theorem dX8_letInterruptIn_68 : decode cX8_letInterruptIn 68 = .ok (.getfield 61, 3) := by decide +kernel
theorem dX8_letInterruptIn_71 : decode cX8_letInterruptIn 71 = .ok (.iconst 4, 1) := by decide +kernel
theorem dX8_letInterruptIn_72 : decode cX8_letInterruptIn 72 = .ok (.imul, 1) := by decide +kernel
theorem dX8_letInterruptIn_73 : decode cX8_letInterruptIn 73 = .ok (.iload_n 1, 1) := by decide +kernel
theorem dX8_letInterruptIn_74 : decode cX8_letInterruptIn 74 = .ok (.iadd, 1) := by decide +kernel
theorem dX8_letInterruptIn_75 : decode cX8_letInterruptIn 75 = .ok (.invokevirtual 64, 3) := by decide +kernel
theorem dX8_letInterruptIn_78 : decode cX8_letInterruptIn 78 = .ok (.aload_n 0, 1) := by decide +kernel
theorem dX8_letInterruptIn_79 : decode cX8_letInterruptIn 79 = .ok (.getfield 12, 3) := by decide +kernel
theorem dX8_letInterruptIn_82 : decode cX8_letInterruptIn 82 = .ok (.iload_n 1, 1) := by decide +kernel
theorem dX8_letInterruptIn_83 : decode cX8_letInterruptIn 83 = .ok (.invokevirtual 68, 3) := by decide +kernel
theorem dX8_letInterruptIn_86 : decode cX8_letInterruptIn 86 = .ok (.iconst 1, 1) := by decide +kernel
theorem dX8_letInterruptIn_87 : decode cX8_letInterruptIn 87 = .ok (.ireturn, 1) := by decide +kernel
theorem dX8_copyFrom_0 : decode cX8_copyFrom 0 = .ok (.aload_n 0, 1) := by decide +kernel
theorem dX8_copyFrom_1 : decode cX8_copyFrom 1 = .ok (.getfield 12, 3) := by decide +kernel
theorem dX8_copyFrom_4 : decode cX8_copyFrom 4 = .ok (.aload_n 1, 1) := by decide +kernel
theorem dX8_copyFrom_5 : decode cX8_copyFrom 5 = .ok (.getfield 12, 3) := by decide +kernel
theorem dX8_copyFrom_8 : decode cX8_copyFrom 8 = .ok (.invokevirtual 71, 3) := by decide +kernel
theorem dX8_copyFrom_11 : decode cX8_copyFrom 11 = .ok (.aload_n 0, 1) := by decide +kernel
theorem dX8_copyFrom_12 : decode cX8_copyFrom 12 = .ok (.getfield 21, 3) := by decide +kernel
theorem dX8_copyFrom_15 : decode cX8_copyFrom 15 = .ok (.aload_n 1, 1) := by decide +kernel
theorem dX8_copyFrom_16 : decode cX8_copyFrom 16 = .ok (.getfield 21, 3) := by decide +kernel
theorem dX8_copyFrom_19 : decode cX8_copyFrom 19 = .ok (.invokevirtual 75, 3) := by decide +kernel
theorem dX8_copyFrom_22 : decode cX8_copyFrom 22 = .ok (.aload_n 0, 1) := by decide +kernel
theorem dX8_copyFrom_23 : decode cX8_copyFrom 23 = .ok (.getfield 25, 3) := by decide +kernel
theorem dX8_copyFrom_26 : decode cX8_copyFrom 26 = .ok (.aload_n 1, 1) := by decide +kernel
theorem dX8_copyFrom_27 : decode cX8_copyFrom 27 = .ok (.getfield 25, 3) := by decide +kernel
theorem dX8_copyFrom_30 : decode cX8_copyFrom 30 = .ok (.invokevirtual 75, 3) := by decide +kernel
theorem dX8_copyFrom_33 : decode cX8_copyFrom 33 = .ok (.aload_n 0, 1) := by decide +kernel
theorem dX8_copyFrom_34 : decode cX8_copyFrom 34 = .ok (.getfield 28, 3) := by decide +kernel
theorem dX8_copyFrom_37 : decode cX8_copyFrom 37 = .ok (.aload_n 1, 1) := by decide +kernel
theorem dX8_copyFrom_38 : decode cX8_copyFrom 38 = .ok (.getfield 28, 3) := by decide +kernel
theorem dX8_copyFrom_41 : decode cX8_copyFrom 41 = .ok (.invokevirtual 75, 3) := by decide +kernel
theorem dX8_copyFrom_44 : decode cX8_copyFrom 44 = .ok (.aload_n 0, 1) := by decide +kernel
theorem dX8_copyFrom_45 : decode cX8_copyFrom 45 = .ok (.getfield 31, 3) := by decide +kernel
theorem dX8_copyFrom_48 : decode cX8_copyFrom 48 = .ok (.aload_n 1, 1) := by decide +kernel
theorem dX8_copyFrom_49 : decode cX8_copyFrom 49 = .ok (.getfield 31, 3) := by decide +kernel
theorem dX8_copyFrom_52 : decode cX8_copyFrom 52 = .ok (.invokevirtual 75, 3) := by decide +kernel
theorem dX8_copyFrom_55 : decode cX8_copyFrom 55 = .ok (.aload_n 0, 1) := by decide +kernel
theorem dX8_copyFrom_56 : decode cX8_copyFrom 56 = .ok (.aload_n 1, 1) := by decide +kernel
theorem dX8_copyFrom_57 : decode cX8_copyFrom 57 = .ok (.getfield 61, 3) := by decide +kernel
theorem dX8_copyFrom_60 : decode cX8_copyFrom 60 = .ok (.putfield 61, 3) := by decide +kernel
theorem dX8_copyFrom_63 : decode cX8_copyFrom 63 = .ok (.aload_n 0, 1) := by decide +kernel
theorem dX8_copyFrom_64 : decode cX8_copyFrom 64 = .ok (.aload_n 1, 1) := by decide +kernel
theorem dX8_copyFrom_65 : decode cX8_copyFrom 65 = .ok (.getfield 49, 3) := by decide +kernel
theorem dX8_copyFrom_68 : decode cX8_copyFrom 68 = .ok (.putfield 49, 3) := by decide +kernel
theorem dX8_copyFrom_71 : decode cX8_copyFrom 71 = .ok (.aload_n 0, 1) := by decide +kernel
theorem dX8_copyFrom_72 : decode cX8_copyFrom 72 = .ok (.aload_n 1, 1) := by decide +kernel
theorem dX8_copyFrom_73 : decode cX8_copyFrom 73 = .ok (.getfield 34, 3) := by decide +kernel
theorem dX8_copyFrom_76 : decode cX8_copyFrom 76 = .ok (.putfield 34, 3) := by decide +kernel
theorem dX8_copyFrom_79 : decode cX8_copyFrom 79 = .ok (.aload_n 0, 1) := by decide +kernel
theorem dX8_copyFrom_80 : decode cX8_copyFrom 80 = .ok (.aload_n 1, 1) := by decide +kernel
theorem dX8_copyFrom_81 : decode cX8_copyFrom 81 = .ok (.getfield 38, 3) := by decide +kernel
theorem dX8_copyFrom_84 : decode cX8_copyFrom 84 = .ok (.putfield 38, 3) := by decide +kernel
theorem dX8_copyFrom_87 : decode cX8_copyFrom 87 = .ok (.aload_n 0, 1) := by decide +kernel
theorem dX8_copyFrom_88 : decode cX8_copyFrom 88 = .ok (.aload_n 1, 1) := by decide +kernel
theorem dX8_copyFrom_89 : decode cX8_copyFrom 89 = .ok (.getfield 78, 3) := by decide +kernel
theorem dX8_copyFrom_92 : decode cX8_copyFrom 92 = .ok (.putfield 78, 3) := by decide +kernel
theorem dX8_copyFrom_95 : decode cX8_copyFrom 95 = .ok (.return_, 1) := by decide +kernel
theorem dX8_countPagesUnlike_0 : decode cX8_countPagesUnlike 0 = .ok (.aload_n 0, 1) := by decide +kernel
theorem dX8_countPagesUnlike_1 : decode cX8_countPagesUnlike 1 = .ok (.getfield 12, 3) := by decide +kernel
theorem dX8_countPagesUnlike_4 : decode cX8_countPagesUnlike 4 = .ok (.getfield 81, 3) := by decide +kernel
theorem dX8_countPagesUnlike_7 : decode cX8_countPagesUnlike 7 = .ok (.astore_n 2, 1) := by decide +kernel
theorem dX8_countPagesUnlike_8 : decode cX8_countPagesUnlike 8 = .ok (.aload_n 1, 1) := by decide +kernel
theorem dX8_countPagesUnlike_9 : decode cX8_countPagesUnlike 9 = .ok (.ifnonnull 10, 3) := by decide +kernel
theorem dX8_countPagesUnlike_12 : decode cX8_countPagesUnlike 12 = .ok (.bipush 32, 2) := by decide +kernel
theorem dX8_countPagesUnlike_14 : decode cX8_countPagesUnlike 14 = .ok (.newarray .int, 2) := by decide +kernel
theorem dX8_countPagesUnlike_16 : decode cX8_countPagesUnlike 16 = .ok (.goto 10, 3) := by decide +kernel
theorem dX8_countPagesUnlike_19 : decode cX8_countPagesUnlike 19 = .ok (.aload_n 1, 1) := by decide +kernel
theorem dX8_countPagesUnlike_20 : decode cX8_countPagesUnlike 20 = .ok (.getfield 12, 3) := by decide +kernel
theorem dX8_countPagesUnlike_23 : decode cX8_countPagesUnlike 23 = .ok (.getfield 81, 3) := by decide +kernel
theorem dX8_countPagesUnlike_26 : decode cX8_countPagesUnlike 26 = .ok (.astore_n 3, 1) := by decide +kernel
theorem dX8_countPagesUnlike_27 : decode cX8_countPagesUnlike 27 = .ok (.iconst 0, 1) := by decide +kernel
theorem dX8_countPagesUnlike_28 : decode cX8_countPagesUnlike 28 = .ok (.istore 4, 2) := by decide +kernel
theorem dX8_countPagesUnlike_30 : decode cX8_countPagesUnlike 30 = .ok (.iconst 0, 1) := by decide +kernel
theorem dX8_countPagesUnlike_31 : decode cX8_countPagesUnlike 31 = .ok (.istore 5, 2) := by decide +kernel
theorem dX8_countPagesUnlike_33 : decode cX8_countPagesUnlike 33 = .ok (.iload 5, 2) := by decide +kernel
theorem dX8_countPagesUnlike_35 : decode cX8_countPagesUnlike 35 = .ok (.bipush 8, 2) := by decide +kernel
theorem dX8_countPagesUnlike_37 : decode cX8_countPagesUnlike 37 = .ok (.if_icmp .ge 24, 3) := by decide +kernel
theorem dX8_countPagesUnlike_40 : decode cX8_countPagesUnlike 40 = .ok (.aload_n 2, 1) := by decide +kernel
theorem dX8_countPagesUnlike_41 : decode cX8_countPagesUnlike 41 = .ok (.iload 5, 2) := by decide +kernel
theorem dX8_countPagesUnlike_43 : decode cX8_countPagesUnlike 43 = .ok (.aload_n 3, 1) := by decide +kernel
theorem dX8_countPagesUnlike_44 : decode cX8_countPagesUnlike 44 = .ok (.iload 5, 2) := by decide +kernel
theorem dX8_countPagesUnlike_46 : decode cX8_countPagesUnlike 46 = .ok (.invokestatic 85, 3) := by decide +kernel
theorem dX8_countPagesUnlike_49 : decode cX8_countPagesUnlike 49 = .ok (.ifCond .ne 6, 3) := by decide +kernel
theorem dX8_countPagesUnlike_52 : decode cX8_countPagesUnlike 52 = .ok (.iinc 4 1, 3) := by decide +kernel
theorem dX8_countPagesUnlike_55 : decode cX8_countPagesUnlike 55 = .ok (.iinc 5 1, 3) := by decide +kernel
theorem dX8_countPagesUnlike_58 : decode cX8_countPagesUnlike 58 = .ok (.goto (-25), 3) := by decide +kernel
theorem dX8_countPagesUnlike_61 : decode cX8_countPagesUnlike 61 = .ok (.iload 4, 2) := by decide +kernel
theorem dX8_countPagesUnlike_63 : decode cX8_countPagesUnlike 63 = .ok (.ireturn, 1) := by decide +kernel
theorem dX8_isZero_0 : decode cX8_isZero 0 = .ok (.iconst 0, 1) := by decide +kernel
theorem dX8_isZero_1 : decode cX8_isZero 1 = .ok (.istore_n 2, 1) := by decide +kernel
theorem dX8_isZero_2 : decode cX8_isZero 2 = .ok (.iload_n 2, 1) := by decide +kernel
theorem dX8_isZero_3 : decode cX8_isZero 3 = .ok (.iconst 4, 1) := by decide +kernel
theorem dX8_isZero_4 : decode cX8_isZero 4 = .ok (.if_icmp .ge 27, 3) := by decide +kernel
theorem dX8_isZero_7 : decode cX8_isZero 7 = .ok (.aload_n 0, 1) := by decide +kernel
theorem dX8_isZero_8 : decode cX8_isZero 8 = .ok (.getfield 12, 3) := by decide +kernel
theorem dX8_isZero_11 : decode cX8_isZero 11 = .ok (.getfield 81, 3) := by decide +kernel
theorem dX8_isZero_14 : decode cX8_isZero 14 = .ok (.iload_n 1, 1) := by decide +kernel
theorem dX8_isZero_15 : decode cX8_isZero 15 = .ok (.iconst 4, 1) := by decide +kernel
theorem dX8_isZero_16 : decode cX8_isZero 16 = .ok (.imul, 1) := by decide +kernel
theorem dX8_isZero_17 : decode cX8_isZero 17 = .ok (.iload_n 2, 1) := by decide +kernel
theorem dX8_isZero_18 : decode cX8_isZero 18 = .ok (.iadd, 1) := by decide +kernel
theorem dX8_isZero_19 : decode cX8_isZero 19 = .ok (.iaload, 1) := by decide +kernel
theorem dX8_isZero_20 : decode cX8_isZero 20 = .ok (.ifCond .eq 5, 3) := by decide +kernel
theorem dX8_isZero_23 : decode cX8_isZero 23 = .ok (.iconst 0, 1) := by decide +kernel
theorem dX8_isZero_24 : decode cX8_isZero 24 = .ok (.ireturn, 1) := by decide +kernel
theorem dX8_isZero_25 : decode cX8_isZero 25 = .ok (.iinc 2 1, 3) := by decide +kernel
theorem dX8_isZero_28 : decode cX8_isZero 28 = .ok (.goto (-26), 3) := by decide +kernel
theorem dX8_isZero_31 : decode cX8_isZero 31 = .ok (.iconst 1, 1) := by decide +kernel
theorem dX8_isZero_32 : decode cX8_isZero 32 = .ok (.ireturn, 1) := by decide +kernel
theorem dX9_init_0 : decode cX9_init 0 = .ok (.aload_n 0, 1) := by decide +kernel
theorem dX9_init_1 : decode cX9_init 1 = .ok (.invokespecial 1, 3) := by decide +kernel
theorem dX9_init_4 : decode cX9_init 4 = .ok (.return_, 1) := by decide +kernel
theorem dX10_init_0 : decode cX10_init 0 = .ok (.aload_n 0, 1) := by decide +kernel
theorem dX10_init_1 : decode cX10_init 1 = .ok (.invokespecial 3, 3) := by decide +kernel
theorem dX10_init_4 : decode cX10_init 4 = .ok (.aload_n 0, 1) := by decide +kernel
theorem dX10_init_5 : decode cX10_init 5 = .ok (.new 9, 3) := by decide +kernel
theorem dX10_init_8 : decode cX10_init 8 = .ok (.dup, 1) := by decide +kernel
theorem dX10_init_9 : decode cX10_init 9 = .ok (.invokespecial 11, 3) := by decide +kernel
theorem dX10_init_12 : decode cX10_init 12 = .ok (.putfield 12, 3) := by decide +kernel
theorem dX10_init_15 : decode cX10_init 15 = .ok (.aload_n 0, 1) := by decide +kernel
theorem dX10_init_16 : decode cX10_init 16 = .ok (.new 9, 3) := by decide +kernel
theorem dX10_init_19 : decode cX10_init 19 = .ok (.dup, 1) := by decide +kernel
theorem dX10_init_20 : decode cX10_init 20 = .ok (.invokespecial 11, 3) := by decide +kernel
theorem dX10_init_23 : decode cX10_init 23 = .ok (.putfield 16, 3) := by decide +kernel
theorem dX10_init_26 : decode cX10_init 26 = .ok (.aload_n 0, 1) := by decide +kernel
theorem dX10_init_27 : decode cX10_init 27 = .ok (.iconst 2, 1) := by decide +kernel
theorem dX10_init_28 : decode cX10_init 28 = .ok (.anewarray 19, 3) := by decide +kernel
theorem dX10_init_31 : decode cX10_init 31 = .ok (.dup, 1) := by decide +kernel
theorem dX10_init_32 : decode cX10_init 32 = .ok (.iconst 0, 1) := by decide +kernel
theorem dX10_init_33 : decode cX10_init 33 = .ok (.new 19, 3) := by decide +kernel
theorem dX10_init_36 : decode cX10_init 36 = .ok (.dup, 1) := by decide +kernel
theorem dX10_init_37 : decode cX10_init 37 = .ok (.iconst 0, 1) := by decide +kernel
theorem dX10_init_38 : decode cX10_init 38 = .ok (.invokespecial 21, 3) := by decide +kernel
theorem dX10_init_41 : decode cX10_init 41 = .ok (.aastore, 1) := by decide +kernel
theorem dX10_init_42 : decode cX10_init 42 = .ok (.dup, 1) := by decide +kernel
theorem dX10_init_43 : decode cX10_init 43 = .ok (.iconst 1, 1) := by decide +kernel
theorem dX10_init_44 : decode cX10_init 44 = .ok (.new 19, 3) := by decide +kernel
theorem dX10_init_47 : decode cX10_init 47 = .ok (.dup, 1) := by decide +kernel
theorem dX10_init_48 : decode cX10_init 48 = .ok (.iconst 1, 1) := by decide +kernel
theorem dX10_init_49 : decode cX10_init 49 = .ok (.invokespecial 21, 3) := by decide +kernel
theorem dX10_init_52 : decode cX10_init 52 = .ok (.aastore, 1) := by decide +kernel
theorem dX10_init_53 : decode cX10_init 53 = .ok (.putfield 24, 3) := by decide +kernel
theorem dX10_init_56 : decode cX10_init 56 = .ok (.return_, 1) := by decide +kernel
theorem dX10_guest_0 : decode cX10_guest 0 = .ok (.aload_n 0, 1) := by decide +kernel
theorem dX10_guest_1 : decode cX10_guest 1 = .ok (.iload_n 1, 1) := by decide +kernel
theorem dX10_guest_2 : decode cX10_guest 2 = .ok (.invokevirtual 28, 3) := by decide +kernel
theorem dX10_guest_5 : decode cX10_guest 5 = .ok (.astore 4, 2) := by decide +kernel
theorem dX10_guest_7 : decode cX10_guest 7 = .ok (.iload_n 2, 1) := by decide +kernel
theorem dX10_guest_8 : decode cX10_guest 8 = .ok (.iconst 1, 1) := by decide +kernel
theorem dX10_guest_9 : decode cX10_guest 9 = .ok (.if_icmp .lt 8, 3) := by decide +kernel
theorem dX10_guest_12 : decode cX10_guest 12 = .ok (.iload_n 2, 1) := by decide +kernel
theorem dX10_guest_13 : decode cX10_guest 13 = .ok (.iconst 4, 1) := by decide +kernel
theorem dX10_guest_14 : decode cX10_guest 14 = .ok (.if_icmp .le 13, 3) := by decide +kernel
theorem dX10_guest_17 : decode cX10_guest 17 = .ok (.new 32, 3) := by decide +kernel
theorem dX10_guest_20 : decode cX10_guest 20 = .ok (.dup, 1) := by decide +kernel
theorem dX10_guest_21 : decode cX10_guest 21 = .ok (.ldc 34, 2) := by decide +kernel
theorem dX10_guest_23 : decode cX10_guest 23 = .ok (.invokespecial 36, 3) := by decide +kernel
theorem dX10_guest_26 : decode cX10_guest 26 = .ok (.athrow, 1) := by decide +kernel
theorem dX10_guest_27 : decode cX10_guest 27 = .ok (.aload_n 0, 1) := by decide +kernel
theorem dX10_guest_28 : decode cX10_guest 28 = .ok (.getfield 12, 3) := by decide +kernel
theorem dX10_guest_31 : decode cX10_guest 31 = .ok (.invokevirtual 39, 3) := by decide +kernel
theorem dX10_guest_34 : decode cX10_guest 34 = .ok (.iconst 5, 1) := by decide +kernel
theorem dX10_guest_35 : decode cX10_guest 35 = .ok (.if_icmp .ge 11, 3) := by decide +kernel
theorem dX10_guest_38 : decode cX10_guest 38 = .ok (.aload 4, 2) := by decide +kernel
theorem dX10_guest_40 : decode cX10_guest 40 = .ok (.getfield 43, 3) := by decide +kernel
theorem dX10_guest_43 : decode cX10_guest 43 = .ok (.ifCond .eq 13, 3) := by decide +kernel
theorem dX10_guest_46 : decode cX10_guest 46 = .ok (.new 47, 3) := by decide +kernel
theorem dX10_guest_49 : decode cX10_guest 49 = .ok (.dup, 1) := by decide +kernel
theorem dX10_guest_50 : decode cX10_guest 50 = .ok (.ldc 49, 2) := by decide +kernel
theorem dX10_guest_52 : decode cX10_guest 52 = .ok (.invokespecial 51, 3) := by decide +kernel
theorem dX10_guest_55 : decode cX10_guest 55 = .ok (.athrow, 1) := by decide +kernel
theorem dX10_guest_56 : decode cX10_guest 56 = .ok (.aload_n 0, 1) := by decide +kernel
theorem dX10_guest_57 : decode cX10_guest 57 = .ok (.getfield 12, 3) := by decide +kernel
theorem dX10_guest_60 : decode cX10_guest 60 = .ok (.new 52, 3) := by decide +kernel
theorem dX10_guest_63 : decode cX10_guest 63 = .ok (.dup, 1) := by decide +kernel
theorem dX10_guest_64 : decode cX10_guest 64 = .ok (.aload_n 0, 1) := by decide +kernel
theorem dX10_guest_65 : decode cX10_guest 65 = .ok (.getfield 12, 3) := by decide +kernel
theorem dX10_guest_68 : decode cX10_guest 68 = .ok (.invokevirtual 39, 3) := by decide +kernel
theorem dX10_guest_71 : decode cX10_guest 71 = .ok (.aload 4, 2) := by decide +kernel
theorem dX10_guest_73 : decode cX10_guest 73 = .ok (.iload_n 2, 1) := by decide +kernel
theorem dX10_guest_74 : decode cX10_guest 74 = .ok (.iload_n 3, 1) := by decide +kernel
theorem dX10_guest_75 : decode cX10_guest 75 = .ok (.invokespecial 54, 3) := by decide +kernel
theorem dX10_guest_78 : decode cX10_guest 78 = .ok (.invokevirtual 57, 3) := by decide +kernel
theorem dX10_guest_81 : decode cX10_guest 81 = .ok (.pop, 1) := by decide +kernel
theorem dX10_guest_82 : decode cX10_guest 82 = .ok (.aload_n 0, 1) := by decide +kernel
theorem dX10_guest_83 : decode cX10_guest 83 = .ok (.getfield 12, 3) := by decide +kernel
theorem dX10_guest_86 : decode cX10_guest 86 = .ok (.invokevirtual 39, 3) := by decide +kernel
theorem dX10_guest_89 : decode cX10_guest 89 = .ok (.iconst 1, 1) := by decide +kernel
theorem dX10_guest_90 : decode cX10_guest 90 = .ok (.isub, 1) := by decide +kernel
theorem dX10_guest_91 : decode cX10_guest 91 = .ok (.ireturn, 1) := by decide +kernel
theorem dX10_instruct_0 : decode cX10_instruct 0 = .ok (.aload_n 0, 1) := by decide +kernel
theorem dX10_instruct_1 : decode cX10_instruct 1 = .ok (.iload_n 1, 1) := by decide +kernel
theorem dX10_instruct_2 : decode cX10_instruct 2 = .ok (.invokevirtual 61, 3) := by decide +kernel
theorem dX10_instruct_5 : decode cX10_instruct 5 = .ok (.astore 5, 2) := by decide +kernel
theorem dX10_instruct_7 : decode cX10_instruct 7 = .ok (.iload_n 2, 1) := by decide +kernel
theorem dX10_instruct_8 : decode cX10_instruct 8 = .ok (.ifCond .lt 34, 3) := by decide +kernel
theorem dX10_instruct_11 : decode cX10_instruct 11 = .ok (.iload_n 2, 1) := by decide +kernel
theorem dX10_instruct_12 : decode cX10_instruct 12 = .ok (.bipush 13, 2) := by decide +kernel
theorem dX10_instruct_14 : decode cX10_instruct 14 = .ok (.if_icmp .gt 28, 3) := by decide +kernel
theorem dX10_instruct_17 : decode cX10_instruct 17 = .ok (.iload_n 3, 1) := by decide +kernel
theorem dX10_instruct_18 : decode cX10_instruct 18 = .ok (.getstatic 65, 3) := by decide +kernel
theorem dX10_instruct_21 : decode cX10_instruct 21 = .ok (.iload_n 2, 1) := by decide +kernel
theorem dX10_instruct_22 : decode cX10_instruct 22 = .ok (.iaload, 1) := by decide +kernel
theorem dX10_instruct_23 : decode cX10_instruct 23 = .ok (.invokestatic 69, 3) := by decide +kernel
theorem dX10_instruct_26 : decode cX10_instruct 26 = .ok (.ifCond .eq 16, 3) := by decide +kernel
theorem dX10_instruct_29 : decode cX10_instruct 29 = .ok (.iload 4, 2) := by decide +kernel
theorem dX10_instruct_31 : decode cX10_instruct 31 = .ok (.getstatic 73, 3) := by decide +kernel
theorem dX10_instruct_34 : decode cX10_instruct 34 = .ok (.iload_n 2, 1) := by decide +kernel
theorem dX10_instruct_35 : decode cX10_instruct 35 = .ok (.iaload, 1) := by decide +kernel
theorem dX10_instruct_36 : decode cX10_instruct 36 = .ok (.invokestatic 69, 3) := by decide +kernel
theorem dX10_instruct_39 : decode cX10_instruct 39 = .ok (.ifCond .ne 13, 3) := by decide +kernel
theorem dX10_instruct_42 : decode cX10_instruct 42 = .ok (.new 32, 3) := by decide +kernel
theorem dX10_instruct_45 : decode cX10_instruct 45 = .ok (.dup, 1) := by decide +kernel
theorem dX10_instruct_46 : decode cX10_instruct 46 = .ok (.ldc 76, 2) := by decide +kernel
theorem dX10_instruct_48 : decode cX10_instruct 48 = .ok (.invokespecial 36, 3) := by decide +kernel
theorem dX10_instruct_51 : decode cX10_instruct 51 = .ok (.athrow, 1) := by decide +kernel
theorem dX10_instruct_52 : decode cX10_instruct 52 = .ok (.aload 5, 2) := by decide +kernel
theorem dX10_instruct_54 : decode cX10_instruct 54 = .ok (.getfield 78, 3) := by decide +kernel
theorem dX10_instruct_57 : decode cX10_instruct 57 = .ok (.getfield 82, 3) := by decide +kernel
theorem dX10_instruct_60 : decode cX10_instruct 60 = .ok (.bipush 24, 2) := by decide +kernel
theorem dX10_instruct_62 : decode cX10_instruct 62 = .ok (.if_icmp .ge 19, 3) := by decide +kernel
theorem dX10_instruct_65 : decode cX10_instruct 65 = .ok (.aload 5, 2) := by decide +kernel
theorem dX10_instruct_67 : decode cX10_instruct 67 = .ok (.getfield 87, 3) := by decide +kernel
theorem dX10_instruct_70 : decode cX10_instruct 70 = .ok (.ifCond .gt 11, 3) := by decide +kernel
theorem dX10_instruct_73 : decode cX10_instruct 73 = .ok (.aload 5, 2) := by decide +kernel
theorem dX10_instruct_75 : decode cX10_instruct 75 = .ok (.getfield 90, 3) := by decide +kernel
theorem dX10_instruct_78 : decode cX10_instruct 78 = .ok (.ifCond .eq 13, 3) := by decide +kernel
theorem dX10_instruct_81 : decode cX10_instruct 81 = .ok (.new 47, 3) := by decide +kernel
theorem dX10_instruct_84 : decode cX10_instruct 84 = .ok (.dup, 1) := by decide +kernel
theorem dX10_instruct_85 : decode cX10_instruct 85 = .ok (.ldc 93, 2) := by decide +kernel
theorem dX10_instruct_87 : decode cX10_instruct 87 = .ok (.invokespecial 51, 3) := by decide +kernel
theorem dX10_instruct_90 : decode cX10_instruct 90 = .ok (.athrow, 1) := by decide +kernel
theorem dX10_instruct_91 : decode cX10_instruct 91 = .ok (.aload 5, 2) := by decide +kernel
theorem dX10_instruct_93 : decode cX10_instruct 93 = .ok (.getfield 78, 3) := by decide +kernel
theorem dX10_instruct_96 : decode cX10_instruct 96 = .ok (.iload_n 2, 1) := by decide +kernel
theorem dX10_instruct_97 : decode cX10_instruct 97 = .ok (.iload_n 3, 1) := by decide +kernel
theorem dX10_instruct_98 : decode cX10_instruct 98 = .ok (.iload 4, 2) := by decide +kernel
theorem dX10_instruct_100 : decode cX10_instruct 100 = .ok (.invokevirtual 95, 3) := by decide +kernel
theorem dX10_instruct_103 : decode cX10_instruct 103 = .ok (.ireturn, 1) := by decide +kernel
theorem dX10_pause_0 : decode cX10_pause 0 = .ok (.aload_n 0, 1) := by decide +kernel
theorem dX10_pause_1 : decode cX10_pause 1 = .ok (.iload_n 1, 1) := by decide +kernel
theorem dX10_pause_2 : decode cX10_pause 2 = .ok (.invokevirtual 61, 3) := by decide +kernel
theorem dX10_pause_5 : decode cX10_pause 5 = .ok (.astore_n 3, 1) := by decide +kernel
theorem dX10_pause_6 : decode cX10_pause 6 = .ok (.aload_n 3, 1) := by decide +kernel
theorem dX10_pause_7 : decode cX10_pause 7 = .ok (.getfield 99, 3) := by decide +kernel
theorem dX10_pause_10 : decode cX10_pause 10 = .ok (.istore 4, 2) := by decide +kernel
theorem dX10_pause_12 : decode cX10_pause 12 = .ok (.aload_n 3, 1) := by decide +kernel
theorem dX10_pause_13 : decode cX10_pause 13 = .ok (.iload_n 2, 1) := by decide +kernel
theorem dX10_pause_14 : decode cX10_pause 14 = .ok (.putfield 99, 3) := by decide +kernel
theorem dX10_pause_17 : decode cX10_pause 17 = .ok (.iload 4, 2) := by decide +kernel
theorem dX10_pause_19 : decode cX10_pause 19 = .ok (.ireturn, 1) := by decide +kernel
theorem dX10_scale_0 : decode cX10_scale 0 = .ok (.aload_n 0, 1) := by decide +kernel
theorem dX10_scale_1 : decode cX10_scale 1 = .ok (.iload_n 1, 1) := by decide +kernel
theorem dX10_scale_2 : decode cX10_scale 2 = .ok (.invokevirtual 61, 3) := by decide +kernel
theorem dX10_scale_5 : decode cX10_scale 5 = .ok (.astore_n 3, 1) := by decide +kernel
theorem dX10_scale_6 : decode cX10_scale 6 = .ok (.iload_n 2, 1) := by decide +kernel
theorem dX10_scale_7 : decode cX10_scale 7 = .ok (.iconst 1, 1) := by decide +kernel
theorem dX10_scale_8 : decode cX10_scale 8 = .ok (.if_icmp .lt 8, 3) := by decide +kernel
theorem dX10_scale_11 : decode cX10_scale 11 = .ok (.iload_n 2, 1) := by decide +kernel
theorem dX10_scale_12 : decode cX10_scale 12 = .ok (.iconst 3, 1) := by decide +kernel
theorem dX10_scale_13 : decode cX10_scale 13 = .ok (.if_icmp .le 13, 3) := by decide +kernel
theorem dX10_scale_16 : decode cX10_scale 16 = .ok (.new 32, 3) := by decide +kernel
theorem dX10_scale_19 : decode cX10_scale 19 = .ok (.dup, 1) := by decide +kernel
theorem dX10_scale_20 : decode cX10_scale 20 = .ok (.ldc 102, 2) := by decide +kernel
theorem dX10_scale_22 : decode cX10_scale 22 = .ok (.invokespecial 36, 3) := by decide +kernel
theorem dX10_scale_25 : decode cX10_scale 25 = .ok (.athrow, 1) := by decide +kernel
theorem dX10_scale_26 : decode cX10_scale 26 = .ok (.aload_n 3, 1) := by decide +kernel
theorem dX10_scale_27 : decode cX10_scale 27 = .ok (.getfield 104, 3) := by decide +kernel
theorem dX10_scale_30 : decode cX10_scale 30 = .ok (.istore 4, 2) := by decide +kernel
theorem dX10_scale_32 : decode cX10_scale 32 = .ok (.aload_n 3, 1) := by decide +kernel
theorem dX10_scale_33 : decode cX10_scale 33 = .ok (.iload_n 2, 1) := by decide +kernel
theorem dX10_scale_34 : decode cX10_scale 34 = .ok (.putfield 104, 3) := by decide +kernel
theorem dX10_scale_37 : decode cX10_scale 37 = .ok (.iload 4, 2) := by decide +kernel
theorem dX10_scale_39 : decode cX10_scale 39 = .ok (.ireturn, 1) := by decide +kernel
theorem dX10_input_0 : decode cX10_input 0 = .ok (.aload_n 0, 1) := by decide +kernel
theorem dX10_input_1 : decode cX10_input 1 = .ok (.iload_n 1, 1) := by decide +kernel
theorem dX10_input_2 : decode cX10_input 2 = .ok (.invokevirtual 61, 3) := by decide +kernel
theorem dX10_input_5 : decode cX10_input 5 = .ok (.astore_n 3, 1) := by decide +kernel
theorem dX10_input_6 : decode cX10_input 6 = .ok (.iload_n 2, 1) := by decide +kernel
theorem dX10_input_7 : decode cX10_input 7 = .ok (.ifCond .lt 10, 3) := by decide +kernel
theorem dX10_input_10 : decode cX10_input 10 = .ok (.iload_n 2, 1) := by decide +kernel
theorem dX10_input_11 : decode cX10_input 11 = .ok (.sipush 10000, 3) := by decide +kernel
theorem dX10_input_14 : decode cX10_input 14 = .ok (.if_icmp .lt 13, 3) := by decide +kernel
theorem dX10_input_17 : decode cX10_input 17 = .ok (.new 32, 3) := by decide +kernel
theorem dX10_input_20 : decode cX10_input 20 = .ok (.dup, 1) := by decide +kernel
theorem dX10_input_21 : decode cX10_input 21 = .ok (.ldc 106, 2) := by decide +kernel
theorem dX10_input_23 : decode cX10_input 23 = .ok (.invokespecial 36, 3) := by decide +kernel
theorem dX10_input_26 : decode cX10_input 26 = .ok (.athrow, 1) := by decide +kernel
theorem dX10_input_27 : decode cX10_input 27 = .ok (.aload_n 3, 1) := by decide +kernel
theorem dX10_input_28 : decode cX10_input 28 = .ok (.getfield 108, 3) := by decide +kernel
theorem dX10_input_31 : decode cX10_input 31 = .ok (.getfield 112, 3) := by decide +kernel
theorem dX10_input_34 : decode cX10_input 34 = .ok (.getfield 118, 3) := by decide +kernel
theorem dX10_input_37 : decode cX10_input 37 = .ok (.bipush 20, 2) := by decide +kernel
theorem dX10_input_39 : decode cX10_input 39 = .ok (.if_icmp .lt 13, 3) := by decide +kernel
theorem dX10_input_42 : decode cX10_input 42 = .ok (.new 47, 3) := by decide +kernel
theorem dX10_input_45 : decode cX10_input 45 = .ok (.dup, 1) := by decide +kernel
theorem dX10_input_46 : decode cX10_input 46 = .ok (.ldc 121, 2) := by decide +kernel
theorem dX10_input_48 : decode cX10_input 48 = .ok (.invokespecial 51, 3) := by decide +kernel
theorem dX10_input_51 : decode cX10_input 51 = .ok (.athrow, 1) := by decide +kernel
theorem dX10_input_52 : decode cX10_input 52 = .ok (.aload_n 3, 1) := by decide +kernel
theorem dX10_input_53 : decode cX10_input 53 = .ok (.getfield 108, 3) := by decide +kernel
theorem dX10_input_56 : decode cX10_input 56 = .ok (.getfield 112, 3) := by decide +kernel
theorem dX10_input_59 : decode cX10_input 59 = .ok (.iload_n 2, 1) := by decide +kernel
theorem dX10_input_60 : decode cX10_input 60 = .ok (.invokevirtual 123, 3) := by decide +kernel
theorem dX10_input_63 : decode cX10_input 63 = .ok (.aload_n 3, 1) := by decide +kernel
theorem dX10_input_64 : decode cX10_input 64 = .ok (.getfield 125, 3) := by decide +kernel
theorem dX10_input_67 : decode cX10_input 67 = .ok (.getfield 129, 3) := by decide +kernel
theorem dX10_input_70 : decode cX10_input 70 = .ok (.ifCond .eq 14, 3) := by decide +kernel
theorem dX10_input_73 : decode cX10_input 73 = .ok (.aload_n 3, 1) := by decide +kernel
theorem dX10_input_74 : decode cX10_input 74 = .ok (.getfield 125, 3) := by decide +kernel
theorem dX10_input_77 : decode cX10_input 77 = .ok (.getfield 134, 3) := by decide +kernel
theorem dX10_input_80 : decode cX10_input 80 = .ok (.iload_n 2, 1) := by decide +kernel
theorem dX10_input_81 : decode cX10_input 81 = .ok (.invokevirtual 123, 3) := by decide +kernel
theorem dX10_input_84 : decode cX10_input 84 = .ok (.aload_n 3, 1) := by decide +kernel
theorem dX10_input_85 : decode cX10_input 85 = .ok (.getfield 108, 3) := by decide +kernel
theorem dX10_input_88 : decode cX10_input 88 = .ok (.getfield 112, 3) := by decide +kernel
theorem dX10_input_91 : decode cX10_input 91 = .ok (.getfield 118, 3) := by decide +kernel
theorem dX10_input_94 : decode cX10_input 94 = .ok (.ireturn, 1) := by decide +kernel
theorem dX10_send_0 : decode cX10_send 0 = .ok (.aload_n 0, 1) := by decide +kernel
theorem dX10_send_1 : decode cX10_send 1 = .ok (.iload_n 1, 1) := by decide +kernel
theorem dX10_send_2 : decode cX10_send 2 = .ok (.invokevirtual 61, 3) := by decide +kernel
theorem dX10_send_5 : decode cX10_send 5 = .ok (.getfield 108, 3) := by decide +kernel
theorem dX10_send_8 : decode cX10_send 8 = .ok (.astore_n 2, 1) := by decide +kernel
theorem dX10_send_9 : decode cX10_send 9 = .ok (.aload_n 2, 1) := by decide +kernel
theorem dX10_send_10 : decode cX10_send 10 = .ok (.getfield 137, 3) := by decide +kernel
theorem dX10_send_13 : decode cX10_send 13 = .ok (.invokevirtual 141, 3) := by decide +kernel
theorem dX10_send_16 : decode cX10_send 16 = .ok (.ifCond .eq 13, 3) := by decide +kernel
theorem dX10_send_19 : decode cX10_send 19 = .ok (.new 47, 3) := by decide +kernel
theorem dX10_send_22 : decode cX10_send 22 = .ok (.dup, 1) := by decide +kernel
theorem dX10_send_23 : decode cX10_send 23 = .ok (.ldc 147, 2) := by decide +kernel
theorem dX10_send_25 : decode cX10_send 25 = .ok (.invokespecial 51, 3) := by decide +kernel
theorem dX10_send_28 : decode cX10_send 28 = .ok (.athrow, 1) := by decide +kernel
theorem dX10_send_29 : decode cX10_send 29 = .ok (.aload_n 2, 1) := by decide +kernel
theorem dX10_send_30 : decode cX10_send 30 = .ok (.getfield 149, 3) := by decide +kernel
theorem dX10_send_33 : decode cX10_send 33 = .ok (.istore_n 3, 1) := by decide +kernel
theorem dX10_send_34 : decode cX10_send 34 = .ok (.aload_n 2, 1) := by decide +kernel
theorem dX10_send_35 : decode cX10_send 35 = .ok (.iconst 1, 1) := by decide +kernel
theorem dX10_send_36 : decode cX10_send 36 = .ok (.putfield 149, 3) := by decide +kernel
theorem dX10_send_39 : decode cX10_send 39 = .ok (.aload_n 2, 1) := by decide +kernel
theorem dX10_send_40 : decode cX10_send 40 = .ok (.invokevirtual 152, 3) := by decide +kernel
theorem dX10_send_43 : decode cX10_send 43 = .ok (.iload_n 3, 1) := by decide +kernel
theorem dX10_send_44 : decode cX10_send 44 = .ok (.ireturn, 1) := by decide +kernel
theorem dX10_tick_0 : decode cX10_tick 0 = .ok (.iload_n 1, 1) := by decide +kernel
theorem dX10_tick_1 : decode cX10_tick 1 = .ok (.iconst 1, 1) := by decide +kernel
theorem dX10_tick_2 : decode cX10_tick 2 = .ok (.if_icmp .lt 9, 3) := by decide +kernel
theorem dX10_tick_5 : decode cX10_tick 5 = .ok (.iload_n 1, 1) := by decide +kernel
theorem dX10_tick_6 : decode cX10_tick 6 = .ok (.bipush 100, 2) := by decide +kernel
theorem dX10_tick_8 : decode cX10_tick 8 = .ok (.if_icmp .le 13, 3) := by decide +kernel
theorem dX10_tick_11 : decode cX10_tick 11 = .ok (.new 32, 3) := by decide +kernel
theorem dX10_tick_14 : decode cX10_tick 14 = .ok (.dup, 1) := by decide +kernel
theorem dX10_tick_15 : decode cX10_tick 15 = .ok (.ldc 155, 2) := by decide +kernel
theorem dX10_tick_17 : decode cX10_tick 17 = .ok (.invokespecial 36, 3) := by decide +kernel
theorem dX10_tick_20 : decode cX10_tick 20 = .ok (.athrow, 1) := by decide +kernel
theorem dX10_tick_21 : decode cX10_tick 21 = .ok (.aload_n 0, 1) := by decide +kernel
theorem dX10_tick_22 : decode cX10_tick 22 = .ok (.getfield 157, 3) := by decide +kernel
theorem dX10_tick_25 : decode cX10_tick 25 = .ok (.iload_n 1, 1) := by decide +kernel
theorem dX10_tick_26 : decode cX10_tick 26 = .ok (.iadd, 1) := by decide +kernel
theorem dX10_tick_27 : decode cX10_tick 27 = .ok (.sipush 3000, 3) := by decide +kernel
theorem dX10_tick_30 : decode cX10_tick 30 = .ok (.if_icmp .le 13, 3) := by decide +kernel
theorem dX10_tick_33 : decode cX10_tick 33 = .ok (.new 47, 3) := by decide +kernel
theorem dX10_tick_36 : decode cX10_tick 36 = .ok (.dup, 1) := by decide +kernel
theorem dX10_tick_37 : decode cX10_tick 37 = .ok (.ldc 160, 2) := by decide +kernel
theorem dX10_tick_39 : decode cX10_tick 39 = .ok (.invokespecial 51, 3) := by decide +kernel
theorem dX10_tick_42 : decode cX10_tick 42 = .ok (.athrow, 1) := by decide +kernel
theorem dX10_tick_43 : decode cX10_tick 43 = .ok (.iconst 0, 1) := by decide +kernel
theorem dX10_tick_44 : decode cX10_tick 44 = .ok (.istore_n 2, 1) := by decide +kernel
theorem dX10_tick_45 : decode cX10_tick 45 = .ok (.iload_n 2, 1) := by decide +kernel
theorem dX10_tick_46 : decode cX10_tick 46 = .ok (.iload_n 1, 1) := by decide +kernel
theorem dX10_tick_47 : decode cX10_tick 47 = .ok (.if_icmp .ge 54, 3) := by decide +kernel
theorem dX10_tick_50 : decode cX10_tick 50 = .ok (.aload_n 0, 1) := by decide +kernel
theorem dX10_tick_51 : decode cX10_tick 51 = .ok (.invokevirtual 162, 3) := by decide +kernel
theorem dX10_tick_54 : decode cX10_tick 54 = .ok (.aload_n 0, 1) := by decide +kernel
theorem dX10_tick_55 : decode cX10_tick 55 = .ok (.getfield 24, 3) := by decide +kernel
theorem dX10_tick_58 : decode cX10_tick 58 = .ok (.astore_n 3, 1) := by decide +kernel
theorem dX10_tick_59 : decode cX10_tick 59 = .ok (.aload_n 3, 1) := by decide +kernel
theorem dX10_tick_60 : decode cX10_tick 60 = .ok (.arraylength, 1) := by decide +kernel
theorem dX10_tick_61 : decode cX10_tick 61 = .ok (.istore 4, 2) := by decide +kernel
theorem dX10_tick_63 : decode cX10_tick 63 = .ok (.iconst 0, 1) := by decide +kernel
theorem dX10_tick_64 : decode cX10_tick 64 = .ok (.istore 5, 2) := by decide +kernel
theorem dX10_tick_66 : decode cX10_tick 66 = .ok (.iload 5, 2) := by decide +kernel
theorem dX10_tick_68 : decode cX10_tick 68 = .ok (.iload 4, 2) := by decide +kernel
theorem dX10_tick_70 : decode cX10_tick 70 = .ok (.if_icmp .ge 21, 3) := by decide +kernel
theorem dX10_tick_73 : decode cX10_tick 73 = .ok (.aload_n 3, 1) := by decide +kernel
theorem dX10_tick_74 : decode cX10_tick 74 = .ok (.iload 5, 2) := by decide +kernel
theorem dX10_tick_76 : decode cX10_tick 76 = .ok (.aaload, 1) := by decide +kernel
theorem dX10_tick_77 : decode cX10_tick 77 = .ok (.astore 6, 2) := by decide +kernel
theorem dX10_tick_79 : decode cX10_tick 79 = .ok (.aload_n 0, 1) := by decide +kernel
theorem dX10_tick_80 : decode cX10_tick 80 = .ok (.aload 6, 2) := by decide +kernel
theorem dX10_tick_82 : decode cX10_tick 82 = .ok (.invokevirtual 165, 3) := by decide +kernel
theorem dX10_tick_85 : decode cX10_tick 85 = .ok (.iinc 5 1, 3) := by decide +kernel
theorem dX10_tick_88 : decode cX10_tick 88 = .ok (.goto (-22), 3) := by decide +kernel
theorem dX10_tick_91 : decode cX10_tick 91 = .ok (.aload_n 0, 1) := by decide +kernel
theorem dX10_tick_92 : decode cX10_tick 92 = .ok (.invokevirtual 169, 3) := by decide +kernel
theorem dX10_tick_95 : decode cX10_tick 95 = .ok (.iinc 2 1, 3) := by decide +kernel
theorem dX10_tick_98 : decode cX10_tick 98 = .ok (.goto (-53), 3) := by decide +kernel
theorem dX10_tick_101 : decode cX10_tick 101 = .ok (.aload_n 0, 1) := by decide +kernel
theorem dX10_tick_102 : decode cX10_tick 102 = .ok (.getfield 157, 3) := by decide +kernel
theorem dX10_tick_105 : decode cX10_tick 105 = .ok (.ireturn, 1) := by decide +kernel
theorem dX10_share_0 : decode cX10_share 0 = .ok (.aload_n 0, 1) := by decide +kernel
theorem dX10_share_1 : decode cX10_share 1 = .ok (.iload_n 1, 1) := by decide +kernel
theorem dX10_share_2 : decode cX10_share 2 = .ok (.invokevirtual 28, 3) := by decide +kernel
theorem dX10_share_5 : decode cX10_share 5 = .ok (.astore_n 2, 1) := by decide +kernel
theorem dX10_share_6 : decode cX10_share 6 = .ok (.iconst 0, 1) := by decide +kernel
theorem dX10_share_7 : decode cX10_share 7 = .ok (.istore_n 3, 1) := by decide +kernel
theorem dX10_share_8 : decode cX10_share 8 = .ok (.iconst 0, 1) := by decide +kernel
theorem dX10_share_9 : decode cX10_share 9 = .ok (.istore 4, 2) := by decide +kernel
theorem dX10_share_11 : decode cX10_share 11 = .ok (.iload 4, 2) := by decide +kernel
theorem dX10_share_13 : decode cX10_share 13 = .ok (.bipush 16, 2) := by decide +kernel
theorem dX10_share_15 : decode cX10_share 15 = .ok (.if_icmp .ge 58, 3) := by decide +kernel
theorem dX10_share_18 : decode cX10_share 18 = .ok (.iload 4, 2) := by decide +kernel
theorem dX10_share_20 : decode cX10_share 20 = .ok (.iconst 1, 1) := by decide +kernel
theorem dX10_share_21 : decode cX10_share 21 = .ok (.iadd, 1) := by decide +kernel
theorem dX10_share_22 : decode cX10_share 22 = .ok (.istore 5, 2) := by decide +kernel
theorem dX10_share_24 : decode cX10_share 24 = .ok (.iload 5, 2) := by decide +kernel
theorem dX10_share_26 : decode cX10_share 26 = .ok (.bipush 16, 2) := by decide +kernel
theorem dX10_share_28 : decode cX10_share 28 = .ok (.if_icmp .ge 39, 3) := by decide +kernel
theorem dX10_share_31 : decode cX10_share 31 = .ok (.aload_n 0, 1) := by decide +kernel
theorem dX10_share_32 : decode cX10_share 32 = .ok (.aload_n 2, 1) := by decide +kernel
theorem dX10_share_33 : decode cX10_share 33 = .ok (.iload 4, 2) := by decide +kernel
theorem dX10_share_35 : decode cX10_share 35 = .ok (.invokevirtual 172, 3) := by decide +kernel
theorem dX10_share_38 : decode cX10_share 38 = .ok (.aload_n 2, 1) := by decide +kernel
theorem dX10_share_39 : decode cX10_share 39 = .ok (.iload 5, 2) := by decide +kernel
theorem dX10_share_41 : decode cX10_share 41 = .ok (.invokevirtual 172, 3) := by decide +kernel
theorem dX10_share_44 : decode cX10_share 44 = .ok (.invokevirtual 176, 3) := by decide +kernel
theorem dX10_share_47 : decode cX10_share 47 = .ok (.ifCond .eq 14, 3) := by decide +kernel
theorem dX10_share_50 : decode cX10_share 50 = .ok (.aload_n 2, 1) := by decide +kernel
theorem dX10_share_51 : decode cX10_share 51 = .ok (.iload 4, 2) := by decide +kernel
theorem dX10_share_53 : decode cX10_share 53 = .ok (.iload 5, 2) := by decide +kernel
theorem dX10_share_55 : decode cX10_share 55 = .ok (.invokevirtual 179, 3) := by decide +kernel
theorem dX10_share_58 : decode cX10_share 58 = .ok (.iinc 3 1, 3) := by decide +kernel
theorem dX10_share_61 : decode cX10_share 61 = .ok (.iinc 5 1, 3) := by decide +kernel
theorem dX10_share_64 : decode cX10_share 64 = .ok (.goto (-40), 3) := by decide +kernel
theorem dX10_share_67 : decode cX10_share 67 = .ok (.iinc 4 1, 3) := by decide +kernel
theorem dX10_share_70 : decode cX10_share 70 = .ok (.goto (-59), 3) := by decide +kernel
theorem dX10_share_73 : decode cX10_share 73 = .ok (.iload_n 3, 1) := by decide +kernel
theorem dX10_share_74 : decode cX10_share 74 = .ok (.ireturn, 1) := by decide +kernel
theorem dX10_move_0 : decode cX10_move 0 = .ok (.aload_n 0, 1) := by decide +kernel
theorem dX10_move_1 : decode cX10_move 1 = .ok (.iload_n 1, 1) := by decide +kernel
theorem dX10_move_2 : decode cX10_move 2 = .ok (.invokevirtual 61, 3) := by decide +kernel
theorem dX10_move_5 : decode cX10_move 5 = .ok (.astore_n 2, 1) := by decide +kernel
theorem dX10_move_6 : decode cX10_move 6 = .ok (.aload_n 2, 1) := by decide +kernel
theorem dX10_move_7 : decode cX10_move 7 = .ok (.invokevirtual 183, 3) := by decide +kernel
theorem dX10_move_10 : decode cX10_move 10 = .ok (.ifCond .ne 24, 3) := by decide +kernel
theorem dX10_move_13 : decode cX10_move 13 = .ok (.aload_n 2, 1) := by decide +kernel
theorem dX10_move_14 : decode cX10_move 14 = .ok (.invokevirtual 186, 3) := by decide +kernel
theorem dX10_move_17 : decode cX10_move 17 = .ok (.ifCond .ne 17, 3) := by decide +kernel
theorem dX10_move_20 : decode cX10_move 20 = .ok (.aload_n 0, 1) := by decide +kernel
theorem dX10_move_21 : decode cX10_move 21 = .ok (.aload_n 2, 1) := by decide +kernel
theorem dX10_move_22 : decode cX10_move 22 = .ok (.getfield 189, 3) := by decide +kernel
theorem dX10_move_25 : decode cX10_move 25 = .ok (.invokevirtual 193, 3) := by decide +kernel
theorem dX10_move_28 : decode cX10_move 28 = .ok (.getfield 43, 3) := by decide +kernel
theorem dX10_move_31 : decode cX10_move 31 = .ok (.ifCond .eq 13, 3) := by decide +kernel
theorem dX10_move_34 : decode cX10_move 34 = .ok (.new 47, 3) := by decide +kernel
theorem dX10_move_37 : decode cX10_move 37 = .ok (.dup, 1) := by decide +kernel
theorem dX10_move_38 : decode cX10_move 38 = .ok (.ldc 197, 2) := by decide +kernel
theorem dX10_move_40 : decode cX10_move 40 = .ok (.invokespecial 51, 3) := by decide +kernel
theorem dX10_move_43 : decode cX10_move 43 = .ok (.athrow, 1) := by decide +kernel
theorem dX10_move_44 : decode cX10_move 44 = .ok (.aload_n 2, 1) := by decide +kernel
theorem dX10_move_45 : decode cX10_move 45 = .ok (.sipush 255, 3) := by decide +kernel
theorem dX10_move_48 : decode cX10_move 48 = .ok (.aload_n 2, 1) := by decide +kernel
theorem dX10_move_49 : decode cX10_move 49 = .ok (.getfield 199, 3) := by decide +kernel
theorem dX10_move_52 : decode cX10_move 52 = .ok (.iconst (-1), 1) := by decide +kernel
theorem dX10_move_53 : decode cX10_move 53 = .ok (.ixor, 1) := by decide +kernel
theorem dX10_move_54 : decode cX10_move 54 = .ok (.iand, 1) := by decide +kernel
theorem dX10_move_55 : decode cX10_move 55 = .ok (.putfield 202, 3) := by decide +kernel
theorem dX10_move_58 : decode cX10_move 58 = .ok (.aload_n 2, 1) := by decide +kernel
theorem dX10_move_59 : decode cX10_move 59 = .ok (.getfield 202, 3) := by decide +kernel
theorem dX10_move_62 : decode cX10_move 62 = .ok (.invokestatic 205, 3) := by decide +kernel
theorem dX10_move_65 : decode cX10_move 65 = .ok (.ireturn, 1) := by decide +kernel
theorem dX10_round_0 : decode cX10_round 0 = .ok (.aload_n 0, 1) := by decide +kernel
theorem dX10_round_1 : decode cX10_round 1 = .ok (.iload_n 1, 1) := by decide +kernel
theorem dX10_round_2 : decode cX10_round 2 = .ok (.invokevirtual 61, 3) := by decide +kernel
theorem dX10_round_5 : decode cX10_round 5 = .ok (.astore_n 3, 1) := by decide +kernel
theorem dX10_round_6 : decode cX10_round 6 = .ok (.iload_n 2, 1) := by decide +kernel
theorem dX10_round_7 : decode cX10_round 7 = .ok (.iconst 1, 1) := by decide +kernel
theorem dX10_round_8 : decode cX10_round 8 = .ok (.if_icmp .lt 9, 3) := by decide +kernel
theorem dX10_round_11 : decode cX10_round 11 = .ok (.iload_n 2, 1) := by decide +kernel
theorem dX10_round_12 : decode cX10_round 12 = .ok (.bipush 8, 2) := by decide +kernel
theorem dX10_round_14 : decode cX10_round 14 = .ok (.if_icmp .le 13, 3) := by decide +kernel
theorem dX10_round_17 : decode cX10_round 17 = .ok (.new 32, 3) := by decide +kernel
theorem dX10_round_20 : decode cX10_round 20 = .ok (.dup, 1) := by decide +kernel
theorem dX10_round_21 : decode cX10_round 21 = .ok (.ldc 210, 2) := by decide +kernel
theorem dX10_round_23 : decode cX10_round 23 = .ok (.invokespecial 36, 3) := by decide +kernel
theorem dX10_round_26 : decode cX10_round 26 = .ok (.athrow, 1) := by decide +kernel
theorem dX10_round_27 : decode cX10_round 27 = .ok (.aload_n 3, 1) := by decide +kernel
theorem dX10_round_28 : decode cX10_round 28 = .ok (.invokevirtual 183, 3) := by decide +kernel
theorem dX10_round_31 : decode cX10_round 31 = .ok (.ifCond .ne 13, 3) := by decide +kernel
theorem dX10_round_34 : decode cX10_round 34 = .ok (.new 47, 3) := by decide +kernel
theorem dX10_round_37 : decode cX10_round 37 = .ok (.dup, 1) := by decide +kernel
theorem dX10_round_38 : decode cX10_round 38 = .ok (.ldc 212, 2) := by decide +kernel
theorem dX10_round_40 : decode cX10_round 40 = .ok (.invokespecial 51, 3) := by decide +kernel
theorem dX10_round_43 : decode cX10_round 43 = .ok (.athrow, 1) := by decide +kernel
theorem dX10_round_44 : decode cX10_round 44 = .ok (.aload_n 3, 1) := by decide +kernel
theorem dX10_round_45 : decode cX10_round 45 = .ok (.iload_n 2, 1) := by decide +kernel
theorem dX10_round_46 : decode cX10_round 46 = .ok (.invokevirtual 214, 3) := by decide +kernel
theorem dX10_round_49 : decode cX10_round 49 = .ok (.aload_n 3, 1) := by decide +kernel
theorem dX10_round_50 : decode cX10_round 50 = .ok (.getfield 202, 3) := by decide +kernel
theorem dX10_round_53 : decode cX10_round 53 = .ok (.invokestatic 205, 3) := by decide +kernel
theorem dX10_round_56 : decode cX10_round 56 = .ok (.ireturn, 1) := by decide +kernel
theorem dX10_land_0 : decode cX10_land 0 = .ok (.aload_n 0, 1) := by decide +kernel
theorem dX10_land_1 : decode cX10_land 1 = .ok (.iload_n 1, 1) := by decide +kernel
theorem dX10_land_2 : decode cX10_land 2 = .ok (.invokevirtual 61, 3) := by decide +kernel
theorem dX10_land_5 : decode cX10_land 5 = .ok (.astore_n 3, 1) := by decide +kernel
theorem dX10_land_6 : decode cX10_land 6 = .ok (.aload_n 3, 1) := by decide +kernel
theorem dX10_land_7 : decode cX10_land 7 = .ok (.invokevirtual 183, 3) := by decide +kernel
theorem dX10_land_10 : decode cX10_land 10 = .ok (.ifCond .ne 13, 3) := by decide +kernel
theorem dX10_land_13 : decode cX10_land 13 = .ok (.new 47, 3) := by decide +kernel
theorem dX10_land_16 : decode cX10_land 16 = .ok (.dup, 1) := by decide +kernel
theorem dX10_land_17 : decode cX10_land 17 = .ok (.ldc 212, 2) := by decide +kernel
theorem dX10_land_19 : decode cX10_land 19 = .ok (.invokespecial 51, 3) := by decide +kernel
theorem dX10_land_22 : decode cX10_land 22 = .ok (.athrow, 1) := by decide +kernel
theorem dX10_land_23 : decode cX10_land 23 = .ok (.aload_n 3, 1) := by decide +kernel
theorem dX10_land_24 : decode cX10_land 24 = .ok (.getfield 217, 3) := by decide +kernel
theorem dX10_land_27 : decode cX10_land 27 = .ok (.istore 4, 2) := by decide +kernel
theorem dX10_land_29 : decode cX10_land 29 = .ok (.iload_n 2, 1) := by decide +kernel
theorem dX10_land_30 : decode cX10_land 30 = .ok (.ifCond .eq 25, 3) := by decide +kernel
theorem dX10_land_33 : decode cX10_land 33 = .ok (.aload_n 3, 1) := by decide +kernel
theorem dX10_land_34 : decode cX10_land 34 = .ok (.bipush 8, 2) := by decide +kernel
theorem dX10_land_36 : decode cX10_land 36 = .ok (.invokevirtual 214, 3) := by decide +kernel
theorem dX10_land_39 : decode cX10_land 39 = .ok (.aload_n 3, 1) := by decide +kernel
theorem dX10_land_40 : decode cX10_land 40 = .ok (.invokevirtual 220, 3) := by decide +kernel
theorem dX10_land_43 : decode cX10_land 43 = .ok (.aload_n 3, 1) := by decide +kernel
theorem dX10_land_44 : decode cX10_land 44 = .ok (.aload_n 0, 1) := by decide +kernel
theorem dX10_land_45 : decode cX10_land 45 = .ok (.aload_n 3, 1) := by decide +kernel
theorem dX10_land_46 : decode cX10_land 46 = .ok (.getfield 189, 3) := by decide +kernel
theorem dX10_land_49 : decode cX10_land 49 = .ok (.invokevirtual 193, 3) := by decide +kernel
theorem dX10_land_52 : decode cX10_land 52 = .ok (.putfield 189, 3) := by decide +kernel
theorem dX10_land_55 : decode cX10_land 55 = .ok (.aload_n 3, 1) := by decide +kernel
theorem dX10_land_56 : decode cX10_land 56 = .ok (.iconst (-1), 1) := by decide +kernel
theorem dX10_land_57 : decode cX10_land 57 = .ok (.putfield 202, 3) := by decide +kernel
theorem dX10_land_60 : decode cX10_land 60 = .ok (.aload_n 3, 1) := by decide +kernel
theorem dX10_land_61 : decode cX10_land 61 = .ok (.getfield 217, 3) := by decide +kernel
theorem dX10_land_64 : decode cX10_land 64 = .ok (.iload 4, 2) := by decide +kernel
theorem dX10_land_66 : decode cX10_land 66 = .ok (.isub, 1) := by decide +kernel
theorem dX10_land_67 : decode cX10_land 67 = .ok (.ireturn, 1) := by decide +kernel
theorem dX10_snapshot_0 : decode cX10_snapshot 0 = .ok (.aload_n 0, 1) := by decide +kernel
theorem dX10_snapshot_1 : decode cX10_snapshot 1 = .ok (.iload_n 1, 1) := by decide +kernel
theorem dX10_snapshot_2 : decode cX10_snapshot 2 = .ok (.invokevirtual 61, 3) := by decide +kernel
theorem dX10_snapshot_5 : decode cX10_snapshot 5 = .ok (.astore_n 2, 1) := by decide +kernel
theorem dX10_snapshot_6 : decode cX10_snapshot 6 = .ok (.aload_n 2, 1) := by decide +kernel
theorem dX10_snapshot_7 : decode cX10_snapshot 7 = .ok (.invokevirtual 186, 3) := by decide +kernel
theorem dX10_snapshot_10 : decode cX10_snapshot 10 = .ok (.ifCond .ne 15, 3) := by decide +kernel
theorem dX10_snapshot_13 : decode cX10_snapshot 13 = .ok (.aload_n 0, 1) := by decide +kernel
theorem dX10_snapshot_14 : decode cX10_snapshot 14 = .ok (.getfield 16, 3) := by decide +kernel
theorem dX10_snapshot_17 : decode cX10_snapshot 17 = .ok (.invokevirtual 39, 3) := by decide +kernel
theorem dX10_snapshot_20 : decode cX10_snapshot 20 = .ok (.bipush 10, 2) := by decide +kernel
theorem dX10_snapshot_22 : decode cX10_snapshot 22 = .ok (.if_icmp .lt 13, 3) := by decide +kernel
theorem dX10_snapshot_25 : decode cX10_snapshot 25 = .ok (.new 47, 3) := by decide +kernel
theorem dX10_snapshot_28 : decode cX10_snapshot 28 = .ok (.dup, 1) := by decide +kernel
theorem dX10_snapshot_29 : decode cX10_snapshot 29 = .ok (.ldc 223, 2) := by decide +kernel
theorem dX10_snapshot_31 : decode cX10_snapshot 31 = .ok (.invokespecial 51, 3) := by decide +kernel
theorem dX10_snapshot_34 : decode cX10_snapshot 34 = .ok (.athrow, 1) := by decide +kernel
theorem dX10_snapshot_35 : decode cX10_snapshot 35 = .ok (.new 225, 3) := by decide +kernel
theorem dX10_snapshot_38 : decode cX10_snapshot 38 = .ok (.dup, 1) := by decide +kernel
theorem dX10_snapshot_39 : decode cX10_snapshot 39 = .ok (.aload_n 2, 1) := by decide +kernel
theorem dX10_snapshot_40 : decode cX10_snapshot 40 = .ok (.invokespecial 227, 3) := by decide +kernel
theorem dX10_snapshot_43 : decode cX10_snapshot 43 = .ok (.astore_n 3, 1) := by decide +kernel
theorem dX10_snapshot_44 : decode cX10_snapshot 44 = .ok (.aload_n 2, 1) := by decide +kernel
theorem dX10_snapshot_45 : decode cX10_snapshot 45 = .ok (.aload_n 3, 1) := by decide +kernel
theorem dX10_snapshot_46 : decode cX10_snapshot 46 = .ok (.putfield 230, 3) := by decide +kernel
theorem dX10_snapshot_49 : decode cX10_snapshot 49 = .ok (.aload_n 0, 1) := by decide +kernel
theorem dX10_snapshot_50 : decode cX10_snapshot 50 = .ok (.getfield 16, 3) := by decide +kernel
theorem dX10_snapshot_53 : decode cX10_snapshot 53 = .ok (.aload_n 3, 1) := by decide +kernel
theorem dX10_snapshot_54 : decode cX10_snapshot 54 = .ok (.invokevirtual 57, 3) := by decide +kernel
theorem dX10_snapshot_57 : decode cX10_snapshot 57 = .ok (.pop, 1) := by decide +kernel
theorem dX10_snapshot_58 : decode cX10_snapshot 58 = .ok (.aload_n 0, 1) := by decide +kernel
theorem dX10_snapshot_59 : decode cX10_snapshot 59 = .ok (.getfield 16, 3) := by decide +kernel
theorem dX10_snapshot_62 : decode cX10_snapshot 62 = .ok (.invokevirtual 39, 3) := by decide +kernel
theorem dX10_snapshot_65 : decode cX10_snapshot 65 = .ok (.iconst 1, 1) := by decide +kernel
theorem dX10_snapshot_66 : decode cX10_snapshot 66 = .ok (.isub, 1) := by decide +kernel
theorem dX10_snapshot_67 : decode cX10_snapshot 67 = .ok (.ireturn, 1) := by decide +kernel
theorem dX10_restore_0 : decode cX10_restore 0 = .ok (.aload_n 0, 1) := by decide +kernel
theorem dX10_restore_1 : decode cX10_restore 1 = .ok (.iload_n 1, 1) := by decide +kernel
theorem dX10_restore_2 : decode cX10_restore 2 = .ok (.invokevirtual 61, 3) := by decide +kernel
theorem dX10_restore_5 : decode cX10_restore 5 = .ok (.astore_n 3, 1) := by decide +kernel
theorem dX10_restore_6 : decode cX10_restore 6 = .ok (.aload_n 0, 1) := by decide +kernel
theorem dX10_restore_7 : decode cX10_restore 7 = .ok (.iload_n 2, 1) := by decide +kernel
theorem dX10_restore_8 : decode cX10_restore 8 = .ok (.invokevirtual 234, 3) := by decide +kernel
theorem dX10_restore_11 : decode cX10_restore 11 = .ok (.astore 4, 2) := by decide +kernel
theorem dX10_restore_13 : decode cX10_restore 13 = .ok (.aload 4, 2) := by decide +kernel
theorem dX10_restore_15 : decode cX10_restore 15 = .ok (.getfield 238, 3) := by decide +kernel
theorem dX10_restore_18 : decode cX10_restore 18 = .ok (.aload_n 3, 1) := by decide +kernel
theorem dX10_restore_19 : decode cX10_restore 19 = .ok (.if_acmp .ne 23, 3) := by decide +kernel
theorem dX10_restore_22 : decode cX10_restore 22 = .ok (.aload_n 3, 1) := by decide +kernel
theorem dX10_restore_23 : decode cX10_restore 23 = .ok (.getfield 125, 3) := by decide +kernel
theorem dX10_restore_26 : decode cX10_restore 26 = .ok (.getfield 129, 3) := by decide +kernel
theorem dX10_restore_29 : decode cX10_restore 29 = .ok (.ifCond .ne 13, 3) := by decide +kernel
theorem dX10_restore_32 : decode cX10_restore 32 = .ok (.aload_n 3, 1) := by decide +kernel
theorem dX10_restore_33 : decode cX10_restore 33 = .ok (.getfield 189, 3) := by decide +kernel
theorem dX10_restore_36 : decode cX10_restore 36 = .ok (.getfield 43, 3) := by decide +kernel
theorem dX10_restore_39 : decode cX10_restore 39 = .ok (.ifCond .eq 13, 3) := by decide +kernel
theorem dX10_restore_42 : decode cX10_restore 42 = .ok (.new 47, 3) := by decide +kernel
theorem dX10_restore_45 : decode cX10_restore 45 = .ok (.dup, 1) := by decide +kernel
theorem dX10_restore_46 : decode cX10_restore 46 = .ok (.ldc 242, 2) := by decide +kernel
theorem dX10_restore_48 : decode cX10_restore 48 = .ok (.invokespecial 51, 3) := by decide +kernel
theorem dX10_restore_51 : decode cX10_restore 51 = .ok (.athrow, 1) := by decide +kernel
theorem dX10_restore_52 : decode cX10_restore 52 = .ok (.aload_n 3, 1) := by decide +kernel
theorem dX10_restore_53 : decode cX10_restore 53 = .ok (.aload 4, 2) := by decide +kernel
theorem dX10_restore_55 : decode cX10_restore 55 = .ok (.putfield 230, 3) := by decide +kernel
theorem dX10_restore_58 : decode cX10_restore 58 = .ok (.aload_n 3, 1) := by decide +kernel
theorem dX10_restore_59 : decode cX10_restore 59 = .ok (.aload 4, 2) := by decide +kernel
theorem dX10_restore_61 : decode cX10_restore 61 = .ok (.getfield 244, 3) := by decide +kernel
theorem dX10_restore_64 : decode cX10_restore 64 = .ok (.invokevirtual 245, 3) := by decide +kernel
theorem dX10_restore_67 : decode cX10_restore 67 = .ok (.ireturn, 1) := by decide +kernel
theorem dX10_follow_0 : decode cX10_follow 0 = .ok (.aload_n 0, 1) := by decide +kernel
theorem dX10_follow_1 : decode cX10_follow 1 = .ok (.iload_n 1, 1) := by decide +kernel
theorem dX10_follow_2 : decode cX10_follow 2 = .ok (.invokevirtual 61, 3) := by decide +kernel
theorem dX10_follow_5 : decode cX10_follow 5 = .ok (.astore_n 3, 1) := by decide +kernel
theorem dX10_follow_6 : decode cX10_follow 6 = .ok (.aload_n 3, 1) := by decide +kernel
theorem dX10_follow_7 : decode cX10_follow 7 = .ok (.invokevirtual 186, 3) := by decide +kernel
theorem dX10_follow_10 : decode cX10_follow 10 = .ok (.ifCond .eq 13, 3) := by decide +kernel
theorem dX10_follow_13 : decode cX10_follow 13 = .ok (.new 47, 3) := by decide +kernel
theorem dX10_follow_16 : decode cX10_follow 16 = .ok (.dup, 1) := by decide +kernel
theorem dX10_follow_17 : decode cX10_follow 17 = .ok (.ldc 249, 2) := by decide +kernel
theorem dX10_follow_19 : decode cX10_follow 19 = .ok (.invokespecial 51, 3) := by decide +kernel
theorem dX10_follow_22 : decode cX10_follow 22 = .ok (.athrow, 1) := by decide +kernel
theorem dX10_follow_23 : decode cX10_follow 23 = .ok (.aload_n 3, 1) := by decide +kernel
theorem dX10_follow_24 : decode cX10_follow 24 = .ok (.getfield 125, 3) := by decide +kernel
theorem dX10_follow_27 : decode cX10_follow 27 = .ok (.getfield 129, 3) := by decide +kernel
theorem dX10_follow_30 : decode cX10_follow 30 = .ok (.istore 4, 2) := by decide +kernel
theorem dX10_follow_32 : decode cX10_follow 32 = .ok (.aload_n 3, 1) := by decide +kernel
theorem dX10_follow_33 : decode cX10_follow 33 = .ok (.getfield 125, 3) := by decide +kernel
theorem dX10_follow_36 : decode cX10_follow 36 = .ok (.iload_n 2, 1) := by decide +kernel
theorem dX10_follow_37 : decode cX10_follow 37 = .ok (.putfield 129, 3) := by decide +kernel
theorem dX10_follow_40 : decode cX10_follow 40 = .ok (.iload_n 2, 1) := by decide +kernel
theorem dX10_follow_41 : decode cX10_follow 41 = .ok (.ifCond .eq 11, 3) := by decide +kernel
theorem dX10_follow_44 : decode cX10_follow 44 = .ok (.aload_n 3, 1) := by decide +kernel
theorem dX10_follow_45 : decode cX10_follow 45 = .ok (.invokevirtual 251, 3) := by decide +kernel
theorem dX10_follow_48 : decode cX10_follow 48 = .ok (.pop, 1) := by decide +kernel
theorem dX10_follow_49 : decode cX10_follow 49 = .ok (.goto 8, 3) := by decide +kernel
theorem dX10_follow_52 : decode cX10_follow 52 = .ok (.aload_n 3, 1) := by decide +kernel
theorem dX10_follow_53 : decode cX10_follow 53 = .ok (.invokevirtual 254, 3) := by decide +kernel
theorem dX10_follow_56 : decode cX10_follow 56 = .ok (.pop, 1) := by decide +kernel
theorem dX10_follow_57 : decode cX10_follow 57 = .ok (.iload 4, 2) := by decide +kernel
theorem dX10_follow_59 : decode cX10_follow 59 = .ok (.ireturn, 1) := by decide +kernel
theorem dX10_step_0 : decode cX10_step 0 = .ok (.aload_n 0, 1) := by decide +kernel
theorem dX10_step_1 : decode cX10_step 1 = .ok (.iload_n 1, 1) := by decide +kernel
theorem dX10_step_2 : decode cX10_step 2 = .ok (.invokevirtual 61, 3) := by decide +kernel
theorem dX10_step_5 : decode cX10_step 5 = .ok (.astore_n 2, 1) := by decide +kernel
theorem dX10_step_6 : decode cX10_step 6 = .ok (.aload_n 2, 1) := by decide +kernel
theorem dX10_step_7 : decode cX10_step 7 = .ok (.getfield 125, 3) := by decide +kernel
theorem dX10_step_10 : decode cX10_step 10 = .ok (.getfield 129, 3) := by decide +kernel
theorem dX10_step_13 : decode cX10_step 13 = .ok (.ifCond .ne 14, 3) := by decide +kernel
theorem dX10_step_16 : decode cX10_step 16 = .ok (.new 47, 3) := by decide +kernel
theorem dX10_step_19 : decode cX10_step 19 = .ok (.dup, 1) := by decide +kernel
theorem dX10_step_20 : decode cX10_step 20 = .ok (.ldc_w 257, 3) := by decide +kernel
theorem dX10_step_23 : decode cX10_step 23 = .ok (.invokespecial 51, 3) := by decide +kernel
theorem dX10_step_26 : decode cX10_step 26 = .ok (.athrow, 1) := by decide +kernel
theorem dX10_step_27 : decode cX10_step 27 = .ok (.aload_n 2, 1) := by decide +kernel
theorem dX10_step_28 : decode cX10_step 28 = .ok (.invokevirtual 251, 3) := by decide +kernel
theorem dX10_step_31 : decode cX10_step 31 = .ok (.ireturn, 1) := by decide +kernel
theorem dX10_fail_0 : decode cX10_fail 0 = .ok (.aload_n 0, 1) := by decide +kernel
theorem dX10_fail_1 : decode cX10_fail 1 = .ok (.iload_n 1, 1) := by decide +kernel
theorem dX10_fail_2 : decode cX10_fail 2 = .ok (.invokevirtual 28, 3) := by decide +kernel
theorem dX10_fail_5 : decode cX10_fail 5 = .ok (.astore_n 2, 1) := by decide +kernel
theorem dX10_fail_6 : decode cX10_fail 6 = .ok (.aload_n 2, 1) := by decide +kernel
theorem dX10_fail_7 : decode cX10_fail 7 = .ok (.getfield 43, 3) := by decide +kernel
theorem dX10_fail_10 : decode cX10_fail 10 = .ok (.ifCond .eq 14, 3) := by decide +kernel
theorem dX10_fail_13 : decode cX10_fail 13 = .ok (.new 47, 3) := by decide +kernel
theorem dX10_fail_16 : decode cX10_fail 16 = .ok (.dup, 1) := by decide +kernel
theorem dX10_fail_17 : decode cX10_fail 17 = .ok (.ldc_w 259, 3) := by decide +kernel
theorem dX10_fail_20 : decode cX10_fail 20 = .ok (.invokespecial 51, 3) := by decide +kernel
theorem dX10_fail_23 : decode cX10_fail 23 = .ok (.athrow, 1) := by decide +kernel
theorem dX10_fail_24 : decode cX10_fail 24 = .ok (.aload_n 2, 1) := by decide +kernel
theorem dX10_fail_25 : decode cX10_fail 25 = .ok (.iconst 1, 1) := by decide +kernel
theorem dX10_fail_26 : decode cX10_fail 26 = .ok (.putfield 43, 3) := by decide +kernel
theorem dX10_fail_29 : decode cX10_fail 29 = .ok (.aload_n 0, 1) := by decide +kernel
theorem dX10_fail_30 : decode cX10_fail 30 = .ok (.aload_n 2, 1) := by decide +kernel
theorem dX10_fail_31 : decode cX10_fail 31 = .ok (.invokevirtual 193, 3) := by decide +kernel
theorem dX10_fail_34 : decode cX10_fail 34 = .ok (.astore_n 3, 1) := by decide +kernel
theorem dX10_fail_35 : decode cX10_fail 35 = .ok (.iconst 0, 1) := by decide +kernel
theorem dX10_fail_36 : decode cX10_fail 36 = .ok (.istore 4, 2) := by decide +kernel
theorem dX10_fail_38 : decode cX10_fail 38 = .ok (.iconst 0, 1) := by decide +kernel
theorem dX10_fail_39 : decode cX10_fail 39 = .ok (.istore 5, 2) := by decide +kernel
theorem dX10_fail_41 : decode cX10_fail 41 = .ok (.iload 5, 2) := by decide +kernel
theorem dX10_fail_43 : decode cX10_fail 43 = .ok (.aload_n 0, 1) := by decide +kernel
theorem dX10_fail_44 : decode cX10_fail 44 = .ok (.getfield 12, 3) := by decide +kernel
theorem dX10_fail_47 : decode cX10_fail 47 = .ok (.invokevirtual 39, 3) := by decide +kernel
theorem dX10_fail_50 : decode cX10_fail 50 = .ok (.if_icmp .ge 78, 3) := by decide +kernel
theorem dX10_fail_53 : decode cX10_fail 53 = .ok (.aload_n 0, 1) := by decide +kernel
theorem dX10_fail_54 : decode cX10_fail 54 = .ok (.getfield 12, 3) := by decide +kernel
theorem dX10_fail_57 : decode cX10_fail 57 = .ok (.iload 5, 2) := by decide +kernel
theorem dX10_fail_59 : decode cX10_fail 59 = .ok (.invokevirtual 261, 3) := by decide +kernel
theorem dX10_fail_62 : decode cX10_fail 62 = .ok (.checkcast 52, 3) := by decide +kernel
theorem dX10_fail_65 : decode cX10_fail 65 = .ok (.astore 6, 2) := by decide +kernel
theorem dX10_fail_67 : decode cX10_fail 67 = .ok (.aload 6, 2) := by decide +kernel
theorem dX10_fail_69 : decode cX10_fail 69 = .ok (.iconst (-1), 1) := by decide +kernel
theorem dX10_fail_70 : decode cX10_fail 70 = .ok (.putfield 202, 3) := by decide +kernel
theorem dX10_fail_73 : decode cX10_fail 73 = .ok (.aload 6, 2) := by decide +kernel
theorem dX10_fail_75 : decode cX10_fail 75 = .ok (.getfield 189, 3) := by decide +kernel
theorem dX10_fail_78 : decode cX10_fail 78 = .ok (.aload_n 2, 1) := by decide +kernel
theorem dX10_fail_79 : decode cX10_fail 79 = .ok (.if_acmp .ne 43, 3) := by decide +kernel
theorem dX10_fail_82 : decode cX10_fail 82 = .ok (.aload 6, 2) := by decide +kernel
theorem dX10_fail_84 : decode cX10_fail 84 = .ok (.invokevirtual 220, 3) := by decide +kernel
theorem dX10_fail_87 : decode cX10_fail 87 = .ok (.aload 6, 2) := by decide +kernel
theorem dX10_fail_89 : decode cX10_fail 89 = .ok (.getfield 125, 3) := by decide +kernel
theorem dX10_fail_92 : decode cX10_fail 92 = .ok (.getfield 129, 3) := by decide +kernel
theorem dX10_fail_95 : decode cX10_fail 95 = .ok (.ifCond .eq 22, 3) := by decide +kernel
theorem dX10_fail_98 : decode cX10_fail 98 = .ok (.aload_n 3, 1) := by decide +kernel
theorem dX10_fail_99 : decode cX10_fail 99 = .ok (.getfield 43, 3) := by decide +kernel
theorem dX10_fail_102 : decode cX10_fail 102 = .ok (.ifCond .ne 15, 3) := by decide +kernel
theorem dX10_fail_105 : decode cX10_fail 105 = .ok (.aload 6, 2) := by decide +kernel
theorem dX10_fail_107 : decode cX10_fail 107 = .ok (.aload_n 3, 1) := by decide +kernel
theorem dX10_fail_108 : decode cX10_fail 108 = .ok (.invokevirtual 265, 3) := by decide +kernel
theorem dX10_fail_111 : decode cX10_fail 111 = .ok (.iinc 4 1, 3) := by decide +kernel
theorem dX10_fail_114 : decode cX10_fail 114 = .ok (.goto 8, 3) := by decide +kernel
theorem dX10_fail_117 : decode cX10_fail 117 = .ok (.aload 6, 2) := by decide +kernel
theorem dX10_fail_119 : decode cX10_fail 119 = .ok (.invokevirtual 268, 3) := by decide +kernel
theorem dX10_fail_122 : decode cX10_fail 122 = .ok (.iinc 5 1, 3) := by decide +kernel
theorem dX10_fail_125 : decode cX10_fail 125 = .ok (.goto (-84), 3) := by decide +kernel
theorem dX10_fail_128 : decode cX10_fail 128 = .ok (.iload 4, 2) := by decide +kernel
theorem dX10_fail_130 : decode cX10_fail 130 = .ok (.ireturn, 1) := by decide +kernel
theorem dX10_mend_0 : decode cX10_mend 0 = .ok (.aload_n 0, 1) := by decide +kernel
theorem dX10_mend_1 : decode cX10_mend 1 = .ok (.iload_n 1, 1) := by decide +kernel
theorem dX10_mend_2 : decode cX10_mend 2 = .ok (.invokevirtual 28, 3) := by decide +kernel
theorem dX10_mend_5 : decode cX10_mend 5 = .ok (.astore_n 2, 1) := by decide +kernel
theorem dX10_mend_6 : decode cX10_mend 6 = .ok (.aload_n 2, 1) := by decide +kernel
theorem dX10_mend_7 : decode cX10_mend 7 = .ok (.getfield 43, 3) := by decide +kernel
theorem dX10_mend_10 : decode cX10_mend 10 = .ok (.ifCond .ne 14, 3) := by decide +kernel
theorem dX10_mend_13 : decode cX10_mend 13 = .ok (.new 47, 3) := by decide +kernel
theorem dX10_mend_16 : decode cX10_mend 16 = .ok (.dup, 1) := by decide +kernel
theorem dX10_mend_17 : decode cX10_mend 17 = .ok (.ldc_w 271, 3) := by decide +kernel
theorem dX10_mend_20 : decode cX10_mend 20 = .ok (.invokespecial 51, 3) := by decide +kernel
theorem dX10_mend_23 : decode cX10_mend 23 = .ok (.athrow, 1) := by decide +kernel
theorem dX10_mend_24 : decode cX10_mend 24 = .ok (.aload_n 2, 1) := by decide +kernel
theorem dX10_mend_25 : decode cX10_mend 25 = .ok (.iconst 0, 1) := by decide +kernel
theorem dX10_mend_26 : decode cX10_mend 26 = .ok (.putfield 43, 3) := by decide +kernel
theorem dX10_mend_29 : decode cX10_mend 29 = .ok (.return_, 1) := by decide +kernel
theorem dX10_time_0 : decode cX10_time 0 = .ok (.aload_n 0, 1) := by decide +kernel
theorem dX10_time_1 : decode cX10_time 1 = .ok (.getfield 157, 3) := by decide +kernel
theorem dX10_time_4 : decode cX10_time 4 = .ok (.ireturn, 1) := by decide +kernel
theorem dX10_of_0 : decode cX10_of 0 = .ok (.aload_n 0, 1) := by decide +kernel
theorem dX10_of_1 : decode cX10_of 1 = .ok (.iload_n 1, 1) := by decide +kernel
theorem dX10_of_2 : decode cX10_of 2 = .ok (.invokevirtual 61, 3) := by decide +kernel
theorem dX10_of_5 : decode cX10_of 5 = .ok (.astore_n 3, 1) := by decide +kernel
theorem dX10_of_6 : decode cX10_of 6 = .ok (.aload_n 3, 1) := by decide +kernel
theorem dX10_of_7 : decode cX10_of 7 = .ok (.getfield 108, 3) := by decide +kernel
theorem dX10_of_10 : decode cX10_of 10 = .ok (.getfield 137, 3) := by decide +kernel
theorem dX10_of_13 : decode cX10_of 13 = .ok (.astore 4, 2) := by decide +kernel
theorem dX10_of_15 : decode cX10_of 15 = .ok (.iload_n 2, 1) := by decide +kernel
theorem dX10_of_16 : decode cX10_of 16 = .ok (.tableswitch 153 0 10 #[60, 66, 74, 80, 86, 100, 108, 113, 118, 129, 148], 60) := by decide +kernel
theorem dX10_of_76 : decode cX10_of 76 = .ok (.aload 4, 2) := by decide +kernel
theorem dX10_of_78 : decode cX10_of 78 = .ok (.getfield 273, 3) := by decide +kernel
theorem dX10_of_81 : decode cX10_of 81 = .ok (.ireturn, 1) := by decide +kernel
theorem dX10_of_82 : decode cX10_of 82 = .ok (.aload_n 3, 1) := by decide +kernel
theorem dX10_of_83 : decode cX10_of 83 = .ok (.getfield 189, 3) := by decide +kernel
theorem dX10_of_86 : decode cX10_of 86 = .ok (.getfield 276, 3) := by decide +kernel
theorem dX10_of_89 : decode cX10_of 89 = .ok (.ireturn, 1) := by decide +kernel
theorem dX10_of_90 : decode cX10_of 90 = .ok (.aload 4, 2) := by decide +kernel
theorem dX10_of_92 : decode cX10_of 92 = .ok (.getfield 279, 3) := by decide +kernel
theorem dX10_of_95 : decode cX10_of 95 = .ok (.ireturn, 1) := by decide +kernel
theorem dX10_of_96 : decode cX10_of 96 = .ok (.aload 4, 2) := by decide +kernel
theorem dX10_of_98 : decode cX10_of 98 = .ok (.getfield 282, 3) := by decide +kernel
theorem dX10_of_101 : decode cX10_of 101 = .ok (.ireturn, 1) := by decide +kernel
theorem dX10_of_102 : decode cX10_of 102 = .ok (.aload 4, 2) := by decide +kernel
theorem dX10_of_104 : decode cX10_of 104 = .ok (.getfield 285, 3) := by decide +kernel
theorem dX10_of_107 : decode cX10_of 107 = .ok (.ifCond .eq 7, 3) := by decide +kernel
theorem dX10_of_110 : decode cX10_of 110 = .ok (.iconst 1, 1) := by decide +kernel
theorem dX10_of_111 : decode cX10_of 111 = .ok (.goto 4, 3) := by decide +kernel
theorem dX10_of_114 : decode cX10_of 114 = .ok (.iconst 0, 1) := by decide +kernel
theorem dX10_of_115 : decode cX10_of 115 = .ok (.ireturn, 1) := by decide +kernel
theorem dX10_of_116 : decode cX10_of 116 = .ok (.aload_n 3, 1) := by decide +kernel
theorem dX10_of_117 : decode cX10_of 117 = .ok (.getfield 108, 3) := by decide +kernel
theorem dX10_of_120 : decode cX10_of 120 = .ok (.getfield 288, 3) := by decide +kernel
theorem dX10_of_123 : decode cX10_of 123 = .ok (.ireturn, 1) := by decide +kernel
theorem dX10_of_124 : decode cX10_of 124 = .ok (.aload_n 3, 1) := by decide +kernel
theorem dX10_of_125 : decode cX10_of 125 = .ok (.getfield 291, 3) := by decide +kernel
theorem dX10_of_128 : decode cX10_of 128 = .ok (.ireturn, 1) := by decide +kernel
theorem dX10_of_129 : decode cX10_of 129 = .ok (.aload_n 3, 1) := by decide +kernel
theorem dX10_of_130 : decode cX10_of 130 = .ok (.getfield 87, 3) := by decide +kernel
theorem dX10_of_133 : decode cX10_of 133 = .ok (.ireturn, 1) := by decide +kernel
theorem dX10_of_134 : decode cX10_of 134 = .ok (.aload_n 3, 1) := by decide +kernel
theorem dX10_of_135 : decode cX10_of 135 = .ok (.getfield 108, 3) := by decide +kernel
theorem dX10_of_138 : decode cX10_of 138 = .ok (.getfield 112, 3) := by decide +kernel
theorem dX10_of_141 : decode cX10_of 141 = .ok (.getfield 118, 3) := by decide +kernel
theorem dX10_of_144 : decode cX10_of 144 = .ok (.ireturn, 1) := by decide +kernel
theorem dX10_of_145 : decode cX10_of 145 = .ok (.aload_n 3, 1) := by decide +kernel
theorem dX10_of_146 : decode cX10_of 146 = .ok (.invokevirtual 183, 3) := by decide +kernel
theorem dX10_of_149 : decode cX10_of 149 = .ok (.ifCond .eq 13, 3) := by decide +kernel
theorem dX10_of_152 : decode cX10_of 152 = .ok (.aload_n 3, 1) := by decide +kernel
theorem dX10_of_153 : decode cX10_of 153 = .ok (.getfield 202, 3) := by decide +kernel
theorem dX10_of_156 : decode cX10_of 156 = .ok (.invokestatic 205, 3) := by decide +kernel
theorem dX10_of_159 : decode cX10_of 159 = .ok (.goto 4, 3) := by decide +kernel
theorem dX10_of_162 : decode cX10_of 162 = .ok (.iconst (-1), 1) := by decide +kernel
theorem dX10_of_163 : decode cX10_of 163 = .ok (.ireturn, 1) := by decide +kernel
theorem dX10_of_164 : decode cX10_of 164 = .ok (.aload_n 3, 1) := by decide +kernel
theorem dX10_of_165 : decode cX10_of 165 = .ok (.getfield 217, 3) := by decide +kernel
theorem dX10_of_168 : decode cX10_of 168 = .ok (.ireturn, 1) := by decide +kernel
theorem dX10_of_169 : decode cX10_of 169 = .ok (.new 32, 3) := by decide +kernel
theorem dX10_of_172 : decode cX10_of 172 = .ok (.dup, 1) := by decide +kernel
theorem dX10_of_173 : decode cX10_of 173 = .ok (.ldc_w 294, 3) := by decide +kernel
theorem dX10_of_176 : decode cX10_of 176 = .ok (.invokespecial 36, 3) := by decide +kernel
theorem dX10_of_179 : decode cX10_of 179 = .ok (.athrow, 1) := by decide +kernel
theorem dX10_register_0 : decode cX10_register 0 = .ok (.aload_n 0, 1) := by decide +kernel
theorem dX10_register_1 : decode cX10_register 1 = .ok (.iload_n 1, 1) := by decide +kernel
theorem dX10_register_2 : decode cX10_register 2 = .ok (.invokevirtual 61, 3) := by decide +kernel
theorem dX10_register_5 : decode cX10_register 5 = .ok (.astore_n 3, 1) := by decide +kernel
theorem dX10_register_6 : decode cX10_register 6 = .ok (.iload_n 2, 1) := by decide +kernel
theorem dX10_register_7 : decode cX10_register 7 = .ok (.iconst 4, 1) := by decide +kernel
theorem dX10_register_8 : decode cX10_register 8 = .ok (.invokestatic 296, 3) := by decide +kernel
theorem dX10_register_11 : decode cX10_register 11 = .ok (.aload_n 3, 1) := by decide +kernel
theorem dX10_register_12 : decode cX10_register 12 = .ok (.getfield 299, 3) := by decide +kernel
theorem dX10_register_15 : decode cX10_register 15 = .ok (.ifCond .eq 7, 3) := by decide +kernel
theorem dX10_register_18 : decode cX10_register 18 = .ok (.iconst (-1), 1) := by decide +kernel
theorem dX10_register_19 : decode cX10_register 19 = .ok (.goto 15, 3) := by decide +kernel
theorem dX10_register_22 : decode cX10_register 22 = .ok (.aload_n 3, 1) := by decide +kernel
theorem dX10_register_23 : decode cX10_register 23 = .ok (.getfield 108, 3) := by decide +kernel
theorem dX10_register_26 : decode cX10_register 26 = .ok (.getfield 137, 3) := by decide +kernel
theorem dX10_register_29 : decode cX10_register 29 = .ok (.getfield 302, 3) := by decide +kernel
theorem dX10_register_32 : decode cX10_register 32 = .ok (.iload_n 2, 1) := by decide +kernel
theorem dX10_register_33 : decode cX10_register 33 = .ok (.iaload, 1) := by decide +kernel
theorem dX10_register_34 : decode cX10_register 34 = .ok (.ireturn, 1) := by decide +kernel
theorem dX10_word_0 : decode cX10_word 0 = .ok (.aload_n 0, 1) := by decide +kernel
theorem dX10_word_1 : decode cX10_word 1 = .ok (.iload_n 1, 1) := by decide +kernel
theorem dX10_word_2 : decode cX10_word 2 = .ok (.invokevirtual 61, 3) := by decide +kernel
theorem dX10_word_5 : decode cX10_word 5 = .ok (.astore 4, 2) := by decide +kernel
theorem dX10_word_7 : decode cX10_word 7 = .ok (.iload_n 2, 1) := by decide +kernel
theorem dX10_word_8 : decode cX10_word 8 = .ok (.bipush 8, 2) := by decide +kernel
theorem dX10_word_10 : decode cX10_word 10 = .ok (.invokestatic 296, 3) := by decide +kernel
theorem dX10_word_13 : decode cX10_word 13 = .ok (.iload_n 3, 1) := by decide +kernel
theorem dX10_word_14 : decode cX10_word 14 = .ok (.iconst 4, 1) := by decide +kernel
theorem dX10_word_15 : decode cX10_word 15 = .ok (.invokestatic 296, 3) := by decide +kernel
theorem dX10_word_18 : decode cX10_word 18 = .ok (.aload 4, 2) := by decide +kernel
theorem dX10_word_20 : decode cX10_word 20 = .ok (.getfield 299, 3) := by decide +kernel
theorem dX10_word_23 : decode cX10_word 23 = .ok (.ifCond .eq 7, 3) := by decide +kernel
theorem dX10_word_26 : decode cX10_word 26 = .ok (.iconst (-1), 1) := by decide +kernel
theorem dX10_word_27 : decode cX10_word 27 = .ok (.goto 20, 3) := by decide +kernel
theorem dX10_word_30 : decode cX10_word 30 = .ok (.aload 4, 2) := by decide +kernel
theorem dX10_word_32 : decode cX10_word 32 = .ok (.getfield 108, 3) := by decide +kernel
theorem dX10_word_35 : decode cX10_word 35 = .ok (.getfield 137, 3) := by decide +kernel
theorem dX10_word_38 : decode cX10_word 38 = .ok (.getfield 305, 3) := by decide +kernel
theorem dX10_word_41 : decode cX10_word 41 = .ok (.iload_n 2, 1) := by decide +kernel
theorem dX10_word_42 : decode cX10_word 42 = .ok (.iconst 4, 1) := by decide +kernel
theorem dX10_word_43 : decode cX10_word 43 = .ok (.imul, 1) := by decide +kernel
theorem dX10_word_44 : decode cX10_word 44 = .ok (.iload_n 3, 1) := by decide +kernel
theorem dX10_word_45 : decode cX10_word 45 = .ok (.iadd, 1) := by decide +kernel
theorem dX10_word_46 : decode cX10_word 46 = .ok (.iaload, 1) := by decide +kernel
theorem dX10_word_47 : decode cX10_word 47 = .ok (.ireturn, 1) := by decide +kernel
theorem dX10_pageOf_0 : decode cX10_pageOf 0 = .ok (.aload_n 0, 1) := by decide +kernel
theorem dX10_pageOf_1 : decode cX10_pageOf 1 = .ok (.iload_n 1, 1) := by decide +kernel
theorem dX10_pageOf_2 : decode cX10_pageOf 2 = .ok (.invokevirtual 61, 3) := by decide +kernel
theorem dX10_pageOf_5 : decode cX10_pageOf 5 = .ok (.astore_n 3, 1) := by decide +kernel
theorem dX10_pageOf_6 : decode cX10_pageOf 6 = .ok (.iload_n 2, 1) := by decide +kernel
theorem dX10_pageOf_7 : decode cX10_pageOf 7 = .ok (.bipush 8, 2) := by decide +kernel
theorem dX10_pageOf_9 : decode cX10_pageOf 9 = .ok (.invokestatic 296, 3) := by decide +kernel
theorem dX10_pageOf_12 : decode cX10_pageOf 12 = .ok (.aload_n 3, 1) := by decide +kernel
theorem dX10_pageOf_13 : decode cX10_pageOf 13 = .ok (.iload_n 2, 1) := by decide +kernel
theorem dX10_pageOf_14 : decode cX10_pageOf 14 = .ok (.invokevirtual 308, 3) := by decide +kernel
theorem dX10_pageOf_17 : decode cX10_pageOf 17 = .ok (.ifCond .eq 5, 3) := by decide +kernel
theorem dX10_pageOf_20 : decode cX10_pageOf 20 = .ok (.iconst 0, 1) := by decide +kernel
theorem dX10_pageOf_21 : decode cX10_pageOf 21 = .ok (.ireturn, 1) := by decide +kernel
theorem dX10_pageOf_22 : decode cX10_pageOf 22 = .ok (.aload_n 3, 1) := by decide +kernel
theorem dX10_pageOf_23 : decode cX10_pageOf 23 = .ok (.iload_n 2, 1) := by decide +kernel
theorem dX10_pageOf_24 : decode cX10_pageOf 24 = .ok (.invokevirtual 312, 3) := by decide +kernel
theorem dX10_pageOf_27 : decode cX10_pageOf 27 = .ok (.iconst (-1), 1) := by decide +kernel
theorem dX10_pageOf_28 : decode cX10_pageOf 28 = .ok (.if_icmp .ne 7, 3) := by decide +kernel
theorem dX10_pageOf_31 : decode cX10_pageOf 31 = .ok (.iconst 2, 1) := by decide +kernel
theorem dX10_pageOf_32 : decode cX10_pageOf 32 = .ok (.goto 4, 3) := by decide +kernel
theorem dX10_pageOf_35 : decode cX10_pageOf 35 = .ok (.iconst 1, 1) := by decide +kernel
theorem dX10_pageOf_36 : decode cX10_pageOf 36 = .ok (.ireturn, 1) := by decide +kernel
theorem dX10_frameOf_0 : decode cX10_frameOf 0 = .ok (.aload_n 0, 1) := by decide +kernel
theorem dX10_frameOf_1 : decode cX10_frameOf 1 = .ok (.iload_n 1, 1) := by decide +kernel
theorem dX10_frameOf_2 : decode cX10_frameOf 2 = .ok (.invokevirtual 61, 3) := by decide +kernel
theorem dX10_frameOf_5 : decode cX10_frameOf 5 = .ok (.astore_n 3, 1) := by decide +kernel
theorem dX10_frameOf_6 : decode cX10_frameOf 6 = .ok (.iload_n 2, 1) := by decide +kernel
theorem dX10_frameOf_7 : decode cX10_frameOf 7 = .ok (.bipush 8, 2) := by decide +kernel
theorem dX10_frameOf_9 : decode cX10_frameOf 9 = .ok (.invokestatic 296, 3) := by decide +kernel
theorem dX10_frameOf_12 : decode cX10_frameOf 12 = .ok (.aload_n 3, 1) := by decide +kernel
theorem dX10_frameOf_13 : decode cX10_frameOf 13 = .ok (.iload_n 2, 1) := by decide +kernel
theorem dX10_frameOf_14 : decode cX10_frameOf 14 = .ok (.invokevirtual 312, 3) := by decide +kernel
theorem dX10_frameOf_17 : decode cX10_frameOf 17 = .ok (.ireturn, 1) := by decide +kernel
theorem dX10_used_0 : decode cX10_used 0 = .ok (.aload_n 0, 1) := by decide +kernel
theorem dX10_used_1 : decode cX10_used 1 = .ok (.iload_n 1, 1) := by decide +kernel
theorem dX10_used_2 : decode cX10_used 2 = .ok (.invokevirtual 28, 3) := by decide +kernel
theorem dX10_used_5 : decode cX10_used 5 = .ok (.invokevirtual 315, 3) := by decide +kernel
theorem dX10_used_8 : decode cX10_used 8 = .ok (.ireturn, 1) := by decide +kernel
theorem dX10_exits_0 : decode cX10_exits 0 = .ok (.aload_n 0, 1) := by decide +kernel
theorem dX10_exits_1 : decode cX10_exits 1 = .ok (.iload_n 1, 1) := by decide +kernel
theorem dX10_exits_2 : decode cX10_exits 2 = .ok (.invokevirtual 61, 3) := by decide +kernel
theorem dX10_exits_5 : decode cX10_exits 5 = .ok (.astore_n 3, 1) := by decide +kernel
theorem dX10_exits_6 : decode cX10_exits 6 = .ok (.iload_n 2, 1) := by decide +kernel
theorem dX10_exits_7 : decode cX10_exits 7 = .ok (.ifCond .lt 8, 3) := by decide +kernel
theorem dX10_exits_10 : decode cX10_exits 10 = .ok (.iload_n 2, 1) := by decide +kernel
theorem dX10_exits_11 : decode cX10_exits 11 = .ok (.iconst 5, 1) := by decide +kernel
theorem dX10_exits_12 : decode cX10_exits 12 = .ok (.if_icmp .le 14, 3) := by decide +kernel
theorem dX10_exits_15 : decode cX10_exits 15 = .ok (.new 32, 3) := by decide +kernel
theorem dX10_exits_18 : decode cX10_exits 18 = .ok (.dup, 1) := by decide +kernel
theorem dX10_exits_19 : decode cX10_exits 19 = .ok (.ldc_w 318, 3) := by decide +kernel
theorem dX10_exits_22 : decode cX10_exits 22 = .ok (.invokespecial 36, 3) := by decide +kernel
theorem dX10_exits_25 : decode cX10_exits 25 = .ok (.athrow, 1) := by decide +kernel
theorem dX10_exits_26 : decode cX10_exits 26 = .ok (.aload_n 3, 1) := by decide +kernel
theorem dX10_exits_27 : decode cX10_exits 27 = .ok (.getfield 320, 3) := by decide +kernel
theorem dX10_exits_30 : decode cX10_exits 30 = .ok (.iload_n 2, 1) := by decide +kernel
theorem dX10_exits_31 : decode cX10_exits 31 = .ok (.iaload, 1) := by decide +kernel
theorem dX10_exits_32 : decode cX10_exits 32 = .ok (.ireturn, 1) := by decide +kernel
theorem dX10_out_0 : decode cX10_out 0 = .ok (.aload_n 0, 1) := by decide +kernel
theorem dX10_out_1 : decode cX10_out 1 = .ok (.iload_n 1, 1) := by decide +kernel
theorem dX10_out_2 : decode cX10_out 2 = .ok (.invokevirtual 61, 3) := by decide +kernel
theorem dX10_out_5 : decode cX10_out 5 = .ok (.getfield 323, 3) := by decide +kernel
theorem dX10_out_8 : decode cX10_out 8 = .ok (.getfield 118, 3) := by decide +kernel
theorem dX10_out_11 : decode cX10_out 11 = .ok (.ireturn, 1) := by decide +kernel
theorem dX10_outAt_0 : decode cX10_outAt 0 = .ok (.aload_n 0, 1) := by decide +kernel
theorem dX10_outAt_1 : decode cX10_outAt 1 = .ok (.iload_n 1, 1) := by decide +kernel
theorem dX10_outAt_2 : decode cX10_outAt 2 = .ok (.invokevirtual 61, 3) := by decide +kernel
theorem dX10_outAt_5 : decode cX10_outAt 5 = .ok (.astore_n 3, 1) := by decide +kernel
theorem dX10_outAt_6 : decode cX10_outAt 6 = .ok (.iload_n 2, 1) := by decide +kernel
theorem dX10_outAt_7 : decode cX10_outAt 7 = .ok (.aload_n 3, 1) := by decide +kernel
theorem dX10_outAt_8 : decode cX10_outAt 8 = .ok (.getfield 323, 3) := by decide +kernel
theorem dX10_outAt_11 : decode cX10_outAt 11 = .ok (.getfield 118, 3) := by decide +kernel
theorem dX10_outAt_14 : decode cX10_outAt 14 = .ok (.invokestatic 296, 3) := by decide +kernel
theorem dX10_outAt_17 : decode cX10_outAt 17 = .ok (.aload_n 3, 1) := by decide +kernel
theorem dX10_outAt_18 : decode cX10_outAt 18 = .ok (.getfield 323, 3) := by decide +kernel
theorem dX10_outAt_21 : decode cX10_outAt 21 = .ok (.getfield 326, 3) := by decide +kernel
theorem dX10_outAt_24 : decode cX10_outAt 24 = .ok (.iload_n 2, 1) := by decide +kernel
theorem dX10_outAt_25 : decode cX10_outAt 25 = .ok (.iaload, 1) := by decide +kernel
theorem dX10_outAt_26 : decode cX10_outAt 26 = .ok (.ireturn, 1) := by decide +kernel
theorem dX10_held_0 : decode cX10_held 0 = .ok (.aload_n 0, 1) := by decide +kernel
theorem dX10_held_1 : decode cX10_held 1 = .ok (.iload_n 1, 1) := by decide +kernel
theorem dX10_held_2 : decode cX10_held 2 = .ok (.invokevirtual 61, 3) := by decide +kernel
theorem dX10_held_5 : decode cX10_held 5 = .ok (.getfield 125, 3) := by decide +kernel
theorem dX10_held_8 : decode cX10_held 8 = .ok (.getfield 329, 3) := by decide +kernel
theorem dX10_held_11 : decode cX10_held 11 = .ok (.getfield 118, 3) := by decide +kernel
theorem dX10_held_14 : decode cX10_held 14 = .ok (.ireturn, 1) := by decide +kernel
theorem dX10_stored_0 : decode cX10_stored 0 = .ok (.aload_n 0, 1) := by decide +kernel
theorem dX10_stored_1 : decode cX10_stored 1 = .ok (.iload_n 1, 1) := by decide +kernel
theorem dX10_stored_2 : decode cX10_stored 2 = .ok (.invokevirtual 234, 3) := by decide +kernel
theorem dX10_stored_5 : decode cX10_stored 5 = .ok (.getfield 332, 3) := by decide +kernel
theorem dX10_stored_8 : decode cX10_stored 8 = .ok (.ireturn, 1) := by decide +kernel
theorem dX10_isAsPlain_0 : decode cX10_isAsPlain 0 = .ok (.aload_n 0, 1) := by decide +kernel
theorem dX10_isAsPlain_1 : decode cX10_isAsPlain 1 = .ok (.iload_n 1, 1) := by decide +kernel
theorem dX10_isAsPlain_2 : decode cX10_isAsPlain 2 = .ok (.invokevirtual 61, 3) := by decide +kernel
theorem dX10_isAsPlain_5 : decode cX10_isAsPlain 5 = .ok (.astore_n 2, 1) := by decide +kernel
theorem dX10_isAsPlain_6 : decode cX10_isAsPlain 6 = .ok (.aload_n 2, 1) := by decide +kernel
theorem dX10_isAsPlain_7 : decode cX10_isAsPlain 7 = .ok (.getfield 335, 3) := by decide +kernel
theorem dX10_isAsPlain_10 : decode cX10_isAsPlain 10 = .ok (.ifCond .ne 24, 3) := by decide +kernel
theorem dX10_isAsPlain_13 : decode cX10_isAsPlain 13 = .ok (.new 338, 3) := by decide +kernel
theorem dX10_isAsPlain_16 : decode cX10_isAsPlain 16 = .ok (.dup, 1) := by decide +kernel
theorem dX10_isAsPlain_17 : decode cX10_isAsPlain 17 = .ok (.aload_n 2, 1) := by decide +kernel
theorem dX10_isAsPlain_18 : decode cX10_isAsPlain 18 = .ok (.getfield 108, 3) := by decide +kernel
theorem dX10_isAsPlain_21 : decode cX10_isAsPlain 21 = .ok (.invokespecial 340, 3) := by decide +kernel
theorem dX10_isAsPlain_24 : decode cX10_isAsPlain 24 = .ok (.aload_n 2, 1) := by decide +kernel
theorem dX10_isAsPlain_25 : decode cX10_isAsPlain 25 = .ok (.getfield 78, 3) := by decide +kernel
theorem dX10_isAsPlain_28 : decode cX10_isAsPlain 28 = .ok (.invokevirtual 343, 3) := by decide +kernel
theorem dX10_isAsPlain_31 : decode cX10_isAsPlain 31 = .ok (.ifCond .eq 7, 3) := by decide +kernel
theorem dX10_isAsPlain_34 : decode cX10_isAsPlain 34 = .ok (.iconst 1, 1) := by decide +kernel
theorem dX10_isAsPlain_35 : decode cX10_isAsPlain 35 = .ok (.goto 4, 3) := by decide +kernel
theorem dX10_isAsPlain_38 : decode cX10_isAsPlain 38 = .ok (.iconst 0, 1) := by decide +kernel
theorem dX10_isAsPlain_39 : decode cX10_isAsPlain 39 = .ok (.ireturn, 1) := by decide +kernel
theorem dX10_guestAt_0 : decode cX10_guestAt 0 = .ok (.iload_n 1, 1) := by decide +kernel
theorem dX10_guestAt_1 : decode cX10_guestAt 1 = .ok (.aload_n 0, 1) := by decide +kernel
theorem dX10_guestAt_2 : decode cX10_guestAt 2 = .ok (.getfield 12, 3) := by decide +kernel
theorem dX10_guestAt_5 : decode cX10_guestAt 5 = .ok (.invokevirtual 39, 3) := by decide +kernel
theorem dX10_guestAt_8 : decode cX10_guestAt 8 = .ok (.invokestatic 296, 3) := by decide +kernel
theorem dX10_guestAt_11 : decode cX10_guestAt 11 = .ok (.aload_n 0, 1) := by decide +kernel
theorem dX10_guestAt_12 : decode cX10_guestAt 12 = .ok (.getfield 12, 3) := by decide +kernel
theorem dX10_guestAt_15 : decode cX10_guestAt 15 = .ok (.iload_n 1, 1) := by decide +kernel
theorem dX10_guestAt_16 : decode cX10_guestAt 16 = .ok (.invokevirtual 261, 3) := by decide +kernel
theorem dX10_guestAt_19 : decode cX10_guestAt 19 = .ok (.checkcast 52, 3) := by decide +kernel
theorem dX10_guestAt_22 : decode cX10_guestAt 22 = .ok (.areturn, 1) := by decide +kernel
theorem dX10_hostAt_0 : decode cX10_hostAt 0 = .ok (.iload_n 1, 1) := by decide +kernel
theorem dX10_hostAt_1 : decode cX10_hostAt 1 = .ok (.iconst 2, 1) := by decide +kernel
theorem dX10_hostAt_2 : decode cX10_hostAt 2 = .ok (.invokestatic 296, 3) := by decide +kernel
theorem dX10_hostAt_5 : decode cX10_hostAt 5 = .ok (.aload_n 0, 1) := by decide +kernel
theorem dX10_hostAt_6 : decode cX10_hostAt 6 = .ok (.getfield 24, 3) := by decide +kernel
theorem dX10_hostAt_9 : decode cX10_hostAt 9 = .ok (.iload_n 1, 1) := by decide +kernel
theorem dX10_hostAt_10 : decode cX10_hostAt 10 = .ok (.aaload, 1) := by decide +kernel
theorem dX10_hostAt_11 : decode cX10_hostAt 11 = .ok (.areturn, 1) := by decide +kernel
theorem dX10_snapshotAt_0 : decode cX10_snapshotAt 0 = .ok (.iload_n 1, 1) := by decide +kernel
theorem dX10_snapshotAt_1 : decode cX10_snapshotAt 1 = .ok (.aload_n 0, 1) := by decide +kernel
theorem dX10_snapshotAt_2 : decode cX10_snapshotAt 2 = .ok (.getfield 16, 3) := by decide +kernel
theorem dX10_snapshotAt_5 : decode cX10_snapshotAt 5 = .ok (.invokevirtual 39, 3) := by decide +kernel
theorem dX10_snapshotAt_8 : decode cX10_snapshotAt 8 = .ok (.invokestatic 296, 3) := by decide +kernel
theorem dX10_snapshotAt_11 : decode cX10_snapshotAt 11 = .ok (.aload_n 0, 1) := by decide +kernel
theorem dX10_snapshotAt_12 : decode cX10_snapshotAt 12 = .ok (.getfield 16, 3) := by decide +kernel
theorem dX10_snapshotAt_15 : decode cX10_snapshotAt 15 = .ok (.iload_n 1, 1) := by decide +kernel
theorem dX10_snapshotAt_16 : decode cX10_snapshotAt 16 = .ok (.invokevirtual 261, 3) := by decide +kernel
theorem dX10_snapshotAt_19 : decode cX10_snapshotAt 19 = .ok (.checkcast 225, 3) := by decide +kernel
theorem dX10_snapshotAt_22 : decode cX10_snapshotAt 22 = .ok (.areturn, 1) := by decide +kernel
theorem dX10_checkPlace_0 : decode cX10_checkPlace 0 = .ok (.iload_n 0, 1) := by decide +kernel
theorem dX10_checkPlace_1 : decode cX10_checkPlace 1 = .ok (.ifCond .lt 8, 3) := by decide +kernel
theorem dX10_checkPlace_4 : decode cX10_checkPlace 4 = .ok (.iload_n 0, 1) := by decide +kernel
theorem dX10_checkPlace_5 : decode cX10_checkPlace 5 = .ok (.iload_n 1, 1) := by decide +kernel
theorem dX10_checkPlace_6 : decode cX10_checkPlace 6 = .ok (.if_icmp .lt 14, 3) := by decide +kernel
theorem dX10_checkPlace_9 : decode cX10_checkPlace 9 = .ok (.new 347, 3) := by decide +kernel
theorem dX10_checkPlace_12 : decode cX10_checkPlace 12 = .ok (.dup, 1) := by decide +kernel
theorem dX10_checkPlace_13 : decode cX10_checkPlace 13 = .ok (.ldc_w 349, 3) := by decide +kernel
theorem dX10_checkPlace_16 : decode cX10_checkPlace 16 = .ok (.invokespecial 351, 3) := by decide +kernel
theorem dX10_checkPlace_19 : decode cX10_checkPlace 19 = .ok (.athrow, 1) := by decide +kernel
theorem dX10_checkPlace_20 : decode cX10_checkPlace 20 = .ok (.return_, 1) := by decide +kernel
theorem dX10_isOneOf_0 : decode cX10_isOneOf 0 = .ok (.iload_n 1, 1) := by decide +kernel
theorem dX10_isOneOf_1 : decode cX10_isOneOf 1 = .ok (.ifCond .eq 12, 3) := by decide +kernel
theorem dX10_isOneOf_4 : decode cX10_isOneOf 4 = .ok (.iload_n 0, 1) := by decide +kernel
theorem dX10_isOneOf_5 : decode cX10_isOneOf 5 = .ok (.ifCond .lt 12, 3) := by decide +kernel
theorem dX10_isOneOf_8 : decode cX10_isOneOf 8 = .ok (.iload_n 0, 1) := by decide +kernel
theorem dX10_isOneOf_9 : decode cX10_isOneOf 9 = .ok (.iload_n 1, 1) := by decide +kernel
theorem dX10_isOneOf_10 : decode cX10_isOneOf 10 = .ok (.if_icmp .ge 7, 3) := by decide +kernel
theorem dX10_isOneOf_13 : decode cX10_isOneOf 13 = .ok (.iconst 1, 1) := by decide +kernel
theorem dX10_isOneOf_14 : decode cX10_isOneOf 14 = .ok (.goto 4, 3) := by decide +kernel
theorem dX10_isOneOf_17 : decode cX10_isOneOf 17 = .ok (.iconst 0, 1) := by decide +kernel
theorem dX10_isOneOf_18 : decode cX10_isOneOf 18 = .ok (.ireturn, 1) := by decide +kernel
theorem dX10_otherOf_0 : decode cX10_otherOf 0 = .ok (.aload_n 1, 1) := by decide +kernel
theorem dX10_otherOf_1 : decode cX10_otherOf 1 = .ok (.aload_n 0, 1) := by decide +kernel
theorem dX10_otherOf_2 : decode cX10_otherOf 2 = .ok (.getfield 24, 3) := by decide +kernel
theorem dX10_otherOf_5 : decode cX10_otherOf 5 = .ok (.iconst 0, 1) := by decide +kernel
theorem dX10_otherOf_6 : decode cX10_otherOf 6 = .ok (.aaload, 1) := by decide +kernel
theorem dX10_otherOf_7 : decode cX10_otherOf 7 = .ok (.if_acmp .ne 12, 3) := by decide +kernel
theorem dX10_otherOf_10 : decode cX10_otherOf 10 = .ok (.aload_n 0, 1) := by decide +kernel
theorem dX10_otherOf_11 : decode cX10_otherOf 11 = .ok (.getfield 24, 3) := by decide +kernel
theorem dX10_otherOf_14 : decode cX10_otherOf 14 = .ok (.iconst 1, 1) := by decide +kernel
theorem dX10_otherOf_15 : decode cX10_otherOf 15 = .ok (.aaload, 1) := by decide +kernel
theorem dX10_otherOf_16 : decode cX10_otherOf 16 = .ok (.goto 9, 3) := by decide +kernel
theorem dX10_otherOf_19 : decode cX10_otherOf 19 = .ok (.aload_n 0, 1) := by decide +kernel
theorem dX10_otherOf_20 : decode cX10_otherOf 20 = .ok (.getfield 24, 3) := by decide +kernel
theorem dX10_otherOf_23 : decode cX10_otherOf 23 = .ok (.iconst 0, 1) := by decide +kernel
theorem dX10_otherOf_24 : decode cX10_otherOf 24 = .ok (.aaload, 1) := by decide +kernel
theorem dX10_otherOf_25 : decode cX10_otherOf 25 = .ok (.areturn, 1) := by decide +kernel
theorem dX10_countTimersDown_0 : decode cX10_countTimersDown 0 = .ok (.iconst 0, 1) := by decide +kernel
theorem dX10_countTimersDown_1 : decode cX10_countTimersDown 1 = .ok (.istore_n 1, 1) := by decide +kernel
theorem dX10_countTimersDown_2 : decode cX10_countTimersDown 2 = .ok (.iload_n 1, 1) := by decide +kernel
theorem dX10_countTimersDown_3 : decode cX10_countTimersDown 3 = .ok (.aload_n 0, 1) := by decide +kernel
theorem dX10_countTimersDown_4 : decode cX10_countTimersDown 4 = .ok (.getfield 12, 3) := by decide +kernel
theorem dX10_countTimersDown_7 : decode cX10_countTimersDown 7 = .ok (.invokevirtual 39, 3) := by decide +kernel
theorem dX10_countTimersDown_10 : decode cX10_countTimersDown 10 = .ok (.if_icmp .ge 26, 3) := by decide +kernel
theorem dX10_countTimersDown_13 : decode cX10_countTimersDown 13 = .ok (.aload_n 0, 1) := by decide +kernel
theorem dX10_countTimersDown_14 : decode cX10_countTimersDown 14 = .ok (.getfield 12, 3) := by decide +kernel
theorem dX10_countTimersDown_17 : decode cX10_countTimersDown 17 = .ok (.iload_n 1, 1) := by decide +kernel
theorem dX10_countTimersDown_18 : decode cX10_countTimersDown 18 = .ok (.invokevirtual 261, 3) := by decide +kernel
theorem dX10_countTimersDown_21 : decode cX10_countTimersDown 21 = .ok (.checkcast 52, 3) := by decide +kernel
theorem dX10_countTimersDown_24 : decode cX10_countTimersDown 24 = .ok (.getfield 108, 3) := by decide +kernel
theorem dX10_countTimersDown_27 : decode cX10_countTimersDown 27 = .ok (.invokevirtual 352, 3) := by decide +kernel
theorem dX10_countTimersDown_30 : decode cX10_countTimersDown 30 = .ok (.iinc 1 1, 3) := by decide +kernel
theorem dX10_countTimersDown_33 : decode cX10_countTimersDown 33 = .ok (.goto (-31), 3) := by decide +kernel
theorem dX10_countTimersDown_36 : decode cX10_countTimersDown 36 = .ok (.return_, 1) := by decide +kernel
theorem dX10_endTick_0 : decode cX10_endTick 0 = .ok (.iconst 0, 1) := by decide +kernel
theorem dX10_endTick_1 : decode cX10_endTick 1 = .ok (.istore_n 1, 1) := by decide +kernel
theorem dX10_endTick_2 : decode cX10_endTick 2 = .ok (.iload_n 1, 1) := by decide +kernel
theorem dX10_endTick_3 : decode cX10_endTick 3 = .ok (.aload_n 0, 1) := by decide +kernel
theorem dX10_endTick_4 : decode cX10_endTick 4 = .ok (.getfield 12, 3) := by decide +kernel
theorem dX10_endTick_7 : decode cX10_endTick 7 = .ok (.invokevirtual 39, 3) := by decide +kernel
theorem dX10_endTick_10 : decode cX10_endTick 10 = .ok (.if_icmp .ge 23, 3) := by decide +kernel
theorem dX10_endTick_13 : decode cX10_endTick 13 = .ok (.aload_n 0, 1) := by decide +kernel
theorem dX10_endTick_14 : decode cX10_endTick 14 = .ok (.getfield 12, 3) := by decide +kernel
theorem dX10_endTick_17 : decode cX10_endTick 17 = .ok (.iload_n 1, 1) := by decide +kernel
theorem dX10_endTick_18 : decode cX10_endTick 18 = .ok (.invokevirtual 261, 3) := by decide +kernel
theorem dX10_endTick_21 : decode cX10_endTick 21 = .ok (.checkcast 52, 3) := by decide +kernel
theorem dX10_endTick_24 : decode cX10_endTick 24 = .ok (.invokevirtual 355, 3) := by decide +kernel
theorem dX10_endTick_27 : decode cX10_endTick 27 = .ok (.iinc 1 1, 3) := by decide +kernel
theorem dX10_endTick_30 : decode cX10_endTick 30 = .ok (.goto (-28), 3) := by decide +kernel
theorem dX10_endTick_33 : decode cX10_endTick 33 = .ok (.aload_n 0, 1) := by decide +kernel
theorem dX10_endTick_34 : decode cX10_endTick 34 = .ok (.dup, 1) := by decide +kernel
theorem dX10_endTick_35 : decode cX10_endTick 35 = .ok (.getfield 157, 3) := by decide +kernel
theorem dX10_endTick_38 : decode cX10_endTick 38 = .ok (.iconst 1, 1) := by decide +kernel
theorem dX10_endTick_39 : decode cX10_endTick 39 = .ok (.iadd, 1) := by decide +kernel
theorem dX10_endTick_40 : decode cX10_endTick 40 = .ok (.putfield 157, 3) := by decide +kernel
theorem dX10_endTick_43 : decode cX10_endTick 43 = .ok (.return_, 1) := by decide +kernel
theorem dX10_giveTurn_0 : decode cX10_giveTurn 0 = .ok (.aload_n 1, 1) := by decide +kernel
theorem dX10_giveTurn_1 : decode cX10_giveTurn 1 = .ok (.getfield 43, 3) := by decide +kernel
theorem dX10_giveTurn_4 : decode cX10_giveTurn 4 = .ok (.ifCond .eq 7, 3) := by decide +kernel
theorem dX10_giveTurn_7 : decode cX10_giveTurn 7 = .ok (.aconst_null, 1) := by decide +kernel
theorem dX10_giveTurn_8 : decode cX10_giveTurn 8 = .ok (.goto 8, 3) := by decide +kernel
theorem dX10_giveTurn_11 : decode cX10_giveTurn 11 = .ok (.aload_n 0, 1) := by decide +kernel
theorem dX10_giveTurn_12 : decode cX10_giveTurn 12 = .ok (.aload_n 1, 1) := by decide +kernel
theorem dX10_giveTurn_13 : decode cX10_giveTurn 13 = .ok (.invokevirtual 358, 3) := by decide +kernel
theorem dX10_giveTurn_16 : decode cX10_giveTurn 16 = .ok (.astore_n 2, 1) := by decide +kernel
theorem dX10_giveTurn_17 : decode cX10_giveTurn 17 = .ok (.aload_n 2, 1) := by decide +kernel
theorem dX10_giveTurn_18 : decode cX10_giveTurn 18 = .ok (.ifnonnull 4, 3) := by decide +kernel
theorem dX10_giveTurn_21 : decode cX10_giveTurn 21 = .ok (.return_, 1) := by decide +kernel
theorem dX10_giveTurn_22 : decode cX10_giveTurn 22 = .ok (.aload_n 1, 1) := by decide +kernel
theorem dX10_giveTurn_23 : decode cX10_giveTurn 23 = .ok (.aload_n 0, 1) := by decide +kernel
theorem dX10_giveTurn_24 : decode cX10_giveTurn 24 = .ok (.getfield 157, 3) := by decide +kernel
theorem dX10_giveTurn_27 : decode cX10_giveTurn 27 = .ok (.iconst 1, 1) := by decide +kernel
theorem dX10_giveTurn_28 : decode cX10_giveTurn 28 = .ok (.iadd, 1) := by decide +kernel
theorem dX10_giveTurn_29 : decode cX10_giveTurn 29 = .ok (.putfield 362, 3) := by decide +kernel
theorem dX10_giveTurn_32 : decode cX10_giveTurn 32 = .ok (.iconst 0, 1) := by decide +kernel
theorem dX10_giveTurn_33 : decode cX10_giveTurn 33 = .ok (.istore_n 3, 1) := by decide +kernel
theorem dX10_giveTurn_34 : decode cX10_giveTurn 34 = .ok (.iload_n 3, 1) := by decide +kernel
theorem dX10_giveTurn_35 : decode cX10_giveTurn 35 = .ok (.aload_n 0, 1) := by decide +kernel
theorem dX10_giveTurn_36 : decode cX10_giveTurn 36 = .ok (.getfield 12, 3) := by decide +kernel
theorem dX10_giveTurn_39 : decode cX10_giveTurn 39 = .ok (.invokevirtual 39, 3) := by decide +kernel
theorem dX10_giveTurn_42 : decode cX10_giveTurn 42 = .ok (.if_icmp .ge 48, 3) := by decide +kernel
theorem dX10_giveTurn_45 : decode cX10_giveTurn 45 = .ok (.aload_n 0, 1) := by decide +kernel
theorem dX10_giveTurn_46 : decode cX10_giveTurn 46 = .ok (.getfield 12, 3) := by decide +kernel
theorem dX10_giveTurn_49 : decode cX10_giveTurn 49 = .ok (.iload_n 3, 1) := by decide +kernel
theorem dX10_giveTurn_50 : decode cX10_giveTurn 50 = .ok (.invokevirtual 261, 3) := by decide +kernel
theorem dX10_giveTurn_53 : decode cX10_giveTurn 53 = .ok (.checkcast 52, 3) := by decide +kernel
theorem dX10_giveTurn_56 : decode cX10_giveTurn 56 = .ok (.astore 4, 2) := by decide +kernel
theorem dX10_giveTurn_58 : decode cX10_giveTurn 58 = .ok (.aload 4, 2) := by decide +kernel
theorem dX10_giveTurn_60 : decode cX10_giveTurn 60 = .ok (.aload_n 2, 1) := by decide +kernel
theorem dX10_giveTurn_61 : decode cX10_giveTurn 61 = .ok (.if_acmp .eq 23, 3) := by decide +kernel
theorem dX10_giveTurn_64 : decode cX10_giveTurn 64 = .ok (.aload 4, 2) := by decide +kernel
theorem dX10_giveTurn_66 : decode cX10_giveTurn 66 = .ok (.aload_n 1, 1) := by decide +kernel
theorem dX10_giveTurn_67 : decode cX10_giveTurn 67 = .ok (.invokevirtual 365, 3) := by decide +kernel
theorem dX10_giveTurn_70 : decode cX10_giveTurn 70 = .ok (.ifCond .eq 14, 3) := by decide +kernel
theorem dX10_giveTurn_73 : decode cX10_giveTurn 73 = .ok (.aload 4, 2) := by decide +kernel
theorem dX10_giveTurn_75 : decode cX10_giveTurn 75 = .ok (.dup, 1) := by decide +kernel
theorem dX10_giveTurn_76 : decode cX10_giveTurn 76 = .ok (.getfield 291, 3) := by decide +kernel
theorem dX10_giveTurn_79 : decode cX10_giveTurn 79 = .ok (.iconst 1, 1) := by decide +kernel
theorem dX10_giveTurn_80 : decode cX10_giveTurn 80 = .ok (.iadd, 1) := by decide +kernel
theorem dX10_giveTurn_81 : decode cX10_giveTurn 81 = .ok (.putfield 291, 3) := by decide +kernel
theorem dX10_giveTurn_84 : decode cX10_giveTurn 84 = .ok (.iinc 3 1, 3) := by decide +kernel
theorem dX10_giveTurn_87 : decode cX10_giveTurn 87 = .ok (.goto (-53), 3) := by decide +kernel
theorem dX10_giveTurn_90 : decode cX10_giveTurn 90 = .ok (.aload_n 2, 1) := by decide +kernel
theorem dX10_giveTurn_91 : decode cX10_giveTurn 91 = .ok (.invokevirtual 369, 3) := by decide +kernel
theorem dX10_giveTurn_94 : decode cX10_giveTurn 94 = .ok (.return_, 1) := by decide +kernel
theorem dX10_chooseFor_0 : decode cX10_chooseFor 0 = .ok (.aload_n 1, 1) := by decide +kernel
theorem dX10_chooseFor_1 : decode cX10_chooseFor 1 = .ok (.getfield 372, 3) := by decide +kernel
theorem dX10_chooseFor_4 : decode cX10_chooseFor 4 = .ok (.astore_n 2, 1) := by decide +kernel
theorem dX10_chooseFor_5 : decode cX10_chooseFor 5 = .ok (.aload_n 2, 1) := by decide +kernel
theorem dX10_chooseFor_6 : decode cX10_chooseFor 6 = .ok (.ifnull 34, 3) := by decide +kernel
theorem dX10_chooseFor_9 : decode cX10_chooseFor 9 = .ok (.aload_n 1, 1) := by decide +kernel
theorem dX10_chooseFor_10 : decode cX10_chooseFor 10 = .ok (.getfield 375, 3) := by decide +kernel
theorem dX10_chooseFor_13 : decode cX10_chooseFor 13 = .ok (.aload_n 2, 1) := by decide +kernel
theorem dX10_chooseFor_14 : decode cX10_chooseFor 14 = .ok (.getfield 377, 3) := by decide +kernel
theorem dX10_chooseFor_17 : decode cX10_chooseFor 17 = .ok (.if_icmp .ge 23, 3) := by decide +kernel
theorem dX10_chooseFor_20 : decode cX10_chooseFor 20 = .ok (.aload_n 2, 1) := by decide +kernel
theorem dX10_chooseFor_21 : decode cX10_chooseFor 21 = .ok (.aload_n 1, 1) := by decide +kernel
theorem dX10_chooseFor_22 : decode cX10_chooseFor 22 = .ok (.invokevirtual 365, 3) := by decide +kernel
theorem dX10_chooseFor_25 : decode cX10_chooseFor 25 = .ok (.ifCond .eq 15, 3) := by decide +kernel
theorem dX10_chooseFor_28 : decode cX10_chooseFor 28 = .ok (.aload_n 1, 1) := by decide +kernel
theorem dX10_chooseFor_29 : decode cX10_chooseFor 29 = .ok (.dup, 1) := by decide +kernel
theorem dX10_chooseFor_30 : decode cX10_chooseFor 30 = .ok (.getfield 375, 3) := by decide +kernel
theorem dX10_chooseFor_33 : decode cX10_chooseFor 33 = .ok (.iconst 1, 1) := by decide +kernel
theorem dX10_chooseFor_34 : decode cX10_chooseFor 34 = .ok (.iadd, 1) := by decide +kernel
theorem dX10_chooseFor_35 : decode cX10_chooseFor 35 = .ok (.putfield 375, 3) := by decide +kernel
theorem dX10_chooseFor_38 : decode cX10_chooseFor 38 = .ok (.aload_n 2, 1) := by decide +kernel
theorem dX10_chooseFor_39 : decode cX10_chooseFor 39 = .ok (.areturn, 1) := by decide +kernel
theorem dX10_chooseFor_40 : decode cX10_chooseFor 40 = .ok (.aload_n 0, 1) := by decide +kernel
theorem dX10_chooseFor_41 : decode cX10_chooseFor 41 = .ok (.getfield 12, 3) := by decide +kernel
theorem dX10_chooseFor_44 : decode cX10_chooseFor 44 = .ok (.invokevirtual 39, 3) := by decide +kernel
theorem dX10_chooseFor_47 : decode cX10_chooseFor 47 = .ok (.istore_n 3, 1) := by decide +kernel
theorem dX10_chooseFor_48 : decode cX10_chooseFor 48 = .ok (.aload_n 2, 1) := by decide +kernel
theorem dX10_chooseFor_49 : decode cX10_chooseFor 49 = .ok (.ifnonnull 7, 3) := by decide +kernel
theorem dX10_chooseFor_52 : decode cX10_chooseFor 52 = .ok (.iconst 0, 1) := by decide +kernel
theorem dX10_chooseFor_53 : decode cX10_chooseFor 53 = .ok (.goto 9, 3) := by decide +kernel
theorem dX10_chooseFor_56 : decode cX10_chooseFor 56 = .ok (.aload_n 2, 1) := by decide +kernel
theorem dX10_chooseFor_57 : decode cX10_chooseFor 57 = .ok (.getfield 379, 3) := by decide +kernel
theorem dX10_chooseFor_60 : decode cX10_chooseFor 60 = .ok (.iconst 1, 1) := by decide +kernel
theorem dX10_chooseFor_61 : decode cX10_chooseFor 61 = .ok (.iadd, 1) := by decide +kernel
theorem dX10_chooseFor_62 : decode cX10_chooseFor 62 = .ok (.istore 4, 2) := by decide +kernel
theorem dX10_chooseFor_64 : decode cX10_chooseFor 64 = .ok (.iconst 0, 1) := by decide +kernel
theorem dX10_chooseFor_65 : decode cX10_chooseFor 65 = .ok (.istore 5, 2) := by decide +kernel
theorem dX10_chooseFor_67 : decode cX10_chooseFor 67 = .ok (.iload 5, 2) := by decide +kernel
theorem dX10_chooseFor_69 : decode cX10_chooseFor 69 = .ok (.iload_n 3, 1) := by decide +kernel
theorem dX10_chooseFor_70 : decode cX10_chooseFor 70 = .ok (.if_icmp .ge 51, 3) := by decide +kernel
theorem dX10_chooseFor_73 : decode cX10_chooseFor 73 = .ok (.aload_n 0, 1) := by decide +kernel
theorem dX10_chooseFor_74 : decode cX10_chooseFor 74 = .ok (.getfield 12, 3) := by decide +kernel
theorem dX10_chooseFor_77 : decode cX10_chooseFor 77 = .ok (.iload 4, 2) := by decide +kernel
theorem dX10_chooseFor_79 : decode cX10_chooseFor 79 = .ok (.iload 5, 2) := by decide +kernel
theorem dX10_chooseFor_81 : decode cX10_chooseFor 81 = .ok (.iadd, 1) := by decide +kernel
theorem dX10_chooseFor_82 : decode cX10_chooseFor 82 = .ok (.iload_n 3, 1) := by decide +kernel
theorem dX10_chooseFor_83 : decode cX10_chooseFor 83 = .ok (.irem, 1) := by decide +kernel
theorem dX10_chooseFor_84 : decode cX10_chooseFor 84 = .ok (.invokevirtual 261, 3) := by decide +kernel
theorem dX10_chooseFor_87 : decode cX10_chooseFor 87 = .ok (.checkcast 52, 3) := by decide +kernel
theorem dX10_chooseFor_90 : decode cX10_chooseFor 90 = .ok (.astore 6, 2) := by decide +kernel
theorem dX10_chooseFor_92 : decode cX10_chooseFor 92 = .ok (.aload 6, 2) := by decide +kernel
theorem dX10_chooseFor_94 : decode cX10_chooseFor 94 = .ok (.aload_n 1, 1) := by decide +kernel
theorem dX10_chooseFor_95 : decode cX10_chooseFor 95 = .ok (.invokevirtual 365, 3) := by decide +kernel
theorem dX10_chooseFor_98 : decode cX10_chooseFor 98 = .ok (.ifCond .eq 17, 3) := by decide +kernel
theorem dX10_chooseFor_101 : decode cX10_chooseFor 101 = .ok (.aload_n 1, 1) := by decide +kernel
theorem dX10_chooseFor_102 : decode cX10_chooseFor 102 = .ok (.aload 6, 2) := by decide +kernel
theorem dX10_chooseFor_104 : decode cX10_chooseFor 104 = .ok (.putfield 372, 3) := by decide +kernel
theorem dX10_chooseFor_107 : decode cX10_chooseFor 107 = .ok (.aload_n 1, 1) := by decide +kernel
theorem dX10_chooseFor_108 : decode cX10_chooseFor 108 = .ok (.iconst 1, 1) := by decide +kernel
theorem dX10_chooseFor_109 : decode cX10_chooseFor 109 = .ok (.putfield 375, 3) := by decide +kernel
theorem dX10_chooseFor_112 : decode cX10_chooseFor 112 = .ok (.aload 6, 2) := by decide +kernel
theorem dX10_chooseFor_114 : decode cX10_chooseFor 114 = .ok (.areturn, 1) := by decide +kernel
theorem dX10_chooseFor_115 : decode cX10_chooseFor 115 = .ok (.iinc 5 1, 3) := by decide +kernel
theorem dX10_chooseFor_118 : decode cX10_chooseFor 118 = .ok (.goto (-51), 3) := by decide +kernel
theorem dX10_chooseFor_121 : decode cX10_chooseFor 121 = .ok (.aconst_null, 1) := by decide +kernel
theorem dX10_chooseFor_122 : decode cX10_chooseFor 122 = .ok (.areturn, 1) := by decide +kernel
theorem dX10_areAlike_0 : decode cX10_areAlike 0 = .ok (.iload_n 1, 1) := by decide +kernel
theorem dX10_areAlike_1 : decode cX10_areAlike 1 = .ok (.iconst (-1), 1) := by decide +kernel
theorem dX10_areAlike_2 : decode cX10_areAlike 2 = .ok (.if_icmp .eq 8, 3) := by decide +kernel
theorem dX10_areAlike_5 : decode cX10_areAlike 5 = .ok (.iload_n 2, 1) := by decide +kernel
theorem dX10_areAlike_6 : decode cX10_areAlike 6 = .ok (.iconst (-1), 1) := by decide +kernel
theorem dX10_areAlike_7 : decode cX10_areAlike 7 = .ok (.if_icmp .ne 5, 3) := by decide +kernel
theorem dX10_areAlike_10 : decode cX10_areAlike 10 = .ok (.iconst 0, 1) := by decide +kernel
theorem dX10_areAlike_11 : decode cX10_areAlike 11 = .ok (.ireturn, 1) := by decide +kernel
theorem dX10_areAlike_12 : decode cX10_areAlike 12 = .ok (.aload_n 0, 1) := by decide +kernel
theorem dX10_areAlike_13 : decode cX10_areAlike 13 = .ok (.getfield 12, 3) := by decide +kernel
theorem dX10_areAlike_16 : decode cX10_areAlike 16 = .ok (.iload_n 1, 1) := by decide +kernel
theorem dX10_areAlike_17 : decode cX10_areAlike 17 = .ok (.bipush 8, 2) := by decide +kernel
theorem dX10_areAlike_19 : decode cX10_areAlike 19 = .ok (.idiv, 1) := by decide +kernel
theorem dX10_areAlike_20 : decode cX10_areAlike 20 = .ok (.invokevirtual 261, 3) := by decide +kernel
theorem dX10_areAlike_23 : decode cX10_areAlike 23 = .ok (.checkcast 52, 3) := by decide +kernel
theorem dX10_areAlike_26 : decode cX10_areAlike 26 = .ok (.astore_n 3, 1) := by decide +kernel
theorem dX10_areAlike_27 : decode cX10_areAlike 27 = .ok (.aload_n 0, 1) := by decide +kernel
theorem dX10_areAlike_28 : decode cX10_areAlike 28 = .ok (.getfield 12, 3) := by decide +kernel
theorem dX10_areAlike_31 : decode cX10_areAlike 31 = .ok (.iload_n 2, 1) := by decide +kernel
theorem dX10_areAlike_32 : decode cX10_areAlike 32 = .ok (.bipush 8, 2) := by decide +kernel
theorem dX10_areAlike_34 : decode cX10_areAlike 34 = .ok (.idiv, 1) := by decide +kernel
theorem dX10_areAlike_35 : decode cX10_areAlike 35 = .ok (.invokevirtual 261, 3) := by decide +kernel
theorem dX10_areAlike_38 : decode cX10_areAlike 38 = .ok (.checkcast 52, 3) := by decide +kernel
theorem dX10_areAlike_41 : decode cX10_areAlike 41 = .ok (.astore 4, 2) := by decide +kernel
theorem dX10_areAlike_43 : decode cX10_areAlike 43 = .ok (.aload_n 3, 1) := by decide +kernel
theorem dX10_areAlike_44 : decode cX10_areAlike 44 = .ok (.getfield 299, 3) := by decide +kernel
theorem dX10_areAlike_47 : decode cX10_areAlike 47 = .ok (.ifCond .ne 50, 3) := by decide +kernel
theorem dX10_areAlike_50 : decode cX10_areAlike 50 = .ok (.aload 4, 2) := by decide +kernel
theorem dX10_areAlike_52 : decode cX10_areAlike 52 = .ok (.getfield 299, 3) := by decide +kernel
theorem dX10_areAlike_55 : decode cX10_areAlike 55 = .ok (.ifCond .ne 42, 3) := by decide +kernel
theorem dX10_areAlike_58 : decode cX10_areAlike 58 = .ok (.aload_n 3, 1) := by decide +kernel
theorem dX10_areAlike_59 : decode cX10_areAlike 59 = .ok (.getfield 108, 3) := by decide +kernel
theorem dX10_areAlike_62 : decode cX10_areAlike 62 = .ok (.getfield 137, 3) := by decide +kernel
theorem dX10_areAlike_65 : decode cX10_areAlike 65 = .ok (.getfield 305, 3) := by decide +kernel
theorem dX10_areAlike_68 : decode cX10_areAlike 68 = .ok (.iload_n 1, 1) := by decide +kernel
theorem dX10_areAlike_69 : decode cX10_areAlike 69 = .ok (.bipush 8, 2) := by decide +kernel
theorem dX10_areAlike_71 : decode cX10_areAlike 71 = .ok (.irem, 1) := by decide +kernel
theorem dX10_areAlike_72 : decode cX10_areAlike 72 = .ok (.aload 4, 2) := by decide +kernel
theorem dX10_areAlike_74 : decode cX10_areAlike 74 = .ok (.getfield 108, 3) := by decide +kernel
theorem dX10_areAlike_77 : decode cX10_areAlike 77 = .ok (.getfield 137, 3) := by decide +kernel
theorem dX10_areAlike_80 : decode cX10_areAlike 80 = .ok (.getfield 305, 3) := by decide +kernel
theorem dX10_areAlike_83 : decode cX10_areAlike 83 = .ok (.iload_n 2, 1) := by decide +kernel
theorem dX10_areAlike_84 : decode cX10_areAlike 84 = .ok (.bipush 8, 2) := by decide +kernel
theorem dX10_areAlike_86 : decode cX10_areAlike 86 = .ok (.irem, 1) := by decide +kernel
theorem dX10_areAlike_87 : decode cX10_areAlike 87 = .ok (.invokestatic 380, 3) := by decide +kernel
theorem dX10_areAlike_90 : decode cX10_areAlike 90 = .ok (.ifCond .eq 7, 3) := by decide +kernel
theorem dX10_areAlike_93 : decode cX10_areAlike 93 = .ok (.iconst 1, 1) := by decide +kernel
theorem dX10_areAlike_94 : decode cX10_areAlike 94 = .ok (.goto 4, 3) := by decide +kernel
theorem dX10_areAlike_97 : decode cX10_areAlike 97 = .ok (.iconst 0, 1) := by decide +kernel
theorem dX10_areAlike_98 : decode cX10_areAlike 98 = .ok (.ireturn, 1) := by decide +kernel
theorem dX10_arePagesAlike_0 : decode cX10_arePagesAlike 0 = .ok (.iconst 0, 1) := by decide +kernel
theorem dX10_arePagesAlike_1 : decode cX10_arePagesAlike 1 = .ok (.istore 4, 2) := by decide +kernel
theorem dX10_arePagesAlike_3 : decode cX10_arePagesAlike 3 = .ok (.iload 4, 2) := by decide +kernel
theorem dX10_arePagesAlike_5 : decode cX10_arePagesAlike 5 = .ok (.iconst 4, 1) := by decide +kernel
theorem dX10_arePagesAlike_6 : decode cX10_arePagesAlike 6 = .ok (.if_icmp .ge 30, 3) := by decide +kernel
theorem dX10_arePagesAlike_9 : decode cX10_arePagesAlike 9 = .ok (.aload_n 0, 1) := by decide +kernel
theorem dX10_arePagesAlike_10 : decode cX10_arePagesAlike 10 = .ok (.iload_n 1, 1) := by decide +kernel
theorem dX10_arePagesAlike_11 : decode cX10_arePagesAlike 11 = .ok (.iconst 4, 1) := by decide +kernel
theorem dX10_arePagesAlike_12 : decode cX10_arePagesAlike 12 = .ok (.imul, 1) := by decide +kernel
theorem dX10_arePagesAlike_13 : decode cX10_arePagesAlike 13 = .ok (.iload 4, 2) := by decide +kernel
theorem dX10_arePagesAlike_15 : decode cX10_arePagesAlike 15 = .ok (.iadd, 1) := by decide +kernel
theorem dX10_arePagesAlike_16 : decode cX10_arePagesAlike 16 = .ok (.iaload, 1) := by decide +kernel
theorem dX10_arePagesAlike_17 : decode cX10_arePagesAlike 17 = .ok (.aload_n 2, 1) := by decide +kernel
theorem dX10_arePagesAlike_18 : decode cX10_arePagesAlike 18 = .ok (.iload_n 3, 1) := by decide +kernel
theorem dX10_arePagesAlike_19 : decode cX10_arePagesAlike 19 = .ok (.iconst 4, 1) := by decide +kernel
theorem dX10_arePagesAlike_20 : decode cX10_arePagesAlike 20 = .ok (.imul, 1) := by decide +kernel
theorem dX10_arePagesAlike_21 : decode cX10_arePagesAlike 21 = .ok (.iload 4, 2) := by decide +kernel
theorem dX10_arePagesAlike_23 : decode cX10_arePagesAlike 23 = .ok (.iadd, 1) := by decide +kernel
theorem dX10_arePagesAlike_24 : decode cX10_arePagesAlike 24 = .ok (.iaload, 1) := by decide +kernel
theorem dX10_arePagesAlike_25 : decode cX10_arePagesAlike 25 = .ok (.if_icmp .eq 5, 3) := by decide +kernel
theorem dX10_arePagesAlike_28 : decode cX10_arePagesAlike 28 = .ok (.iconst 0, 1) := by decide +kernel
theorem dX10_arePagesAlike_29 : decode cX10_arePagesAlike 29 = .ok (.ireturn, 1) := by decide +kernel
theorem dX10_arePagesAlike_30 : decode cX10_arePagesAlike 30 = .ok (.iinc 4 1, 3) := by decide +kernel
theorem dX10_arePagesAlike_33 : decode cX10_arePagesAlike 33 = .ok (.goto (-30), 3) := by decide +kernel
theorem dX10_arePagesAlike_36 : decode cX10_arePagesAlike 36 = .ok (.iconst 1, 1) := by decide +kernel
theorem dX10_arePagesAlike_37 : decode cX10_arePagesAlike 37 = .ok (.ireturn, 1) := by decide +kernel
theorem dX10_areRowsAlike_0 : decode cX10_areRowsAlike 0 = .ok (.aload_n 0, 1) := by decide +kernel
theorem dX10_areRowsAlike_1 : decode cX10_areRowsAlike 1 = .ok (.arraylength, 1) := by decide +kernel
theorem dX10_areRowsAlike_2 : decode cX10_areRowsAlike 2 = .ok (.aload_n 1, 1) := by decide +kernel
theorem dX10_areRowsAlike_3 : decode cX10_areRowsAlike 3 = .ok (.arraylength, 1) := by decide +kernel
theorem dX10_areRowsAlike_4 : decode cX10_areRowsAlike 4 = .ok (.if_icmp .eq 5, 3) := by decide +kernel
theorem dX10_areRowsAlike_7 : decode cX10_areRowsAlike 7 = .ok (.iconst 0, 1) := by decide +kernel
theorem dX10_areRowsAlike_8 : decode cX10_areRowsAlike 8 = .ok (.ireturn, 1) := by decide +kernel
theorem dX10_areRowsAlike_9 : decode cX10_areRowsAlike 9 = .ok (.iconst 0, 1) := by decide +kernel
theorem dX10_areRowsAlike_10 : decode cX10_areRowsAlike 10 = .ok (.istore_n 2, 1) := by decide +kernel
theorem dX10_areRowsAlike_11 : decode cX10_areRowsAlike 11 = .ok (.iload_n 2, 1) := by decide +kernel
theorem dX10_areRowsAlike_12 : decode cX10_areRowsAlike 12 = .ok (.aload_n 0, 1) := by decide +kernel
theorem dX10_areRowsAlike_13 : decode cX10_areRowsAlike 13 = .ok (.arraylength, 1) := by decide +kernel
theorem dX10_areRowsAlike_14 : decode cX10_areRowsAlike 14 = .ok (.if_icmp .ge 20, 3) := by decide +kernel
theorem dX10_areRowsAlike_17 : decode cX10_areRowsAlike 17 = .ok (.aload_n 0, 1) := by decide +kernel
theorem dX10_areRowsAlike_18 : decode cX10_areRowsAlike 18 = .ok (.iload_n 2, 1) := by decide +kernel
theorem dX10_areRowsAlike_19 : decode cX10_areRowsAlike 19 = .ok (.iaload, 1) := by decide +kernel
theorem dX10_areRowsAlike_20 : decode cX10_areRowsAlike 20 = .ok (.aload_n 1, 1) := by decide +kernel
theorem dX10_areRowsAlike_21 : decode cX10_areRowsAlike 21 = .ok (.iload_n 2, 1) := by decide +kernel
theorem dX10_areRowsAlike_22 : decode cX10_areRowsAlike 22 = .ok (.iaload, 1) := by decide +kernel
theorem dX10_areRowsAlike_23 : decode cX10_areRowsAlike 23 = .ok (.if_icmp .eq 5, 3) := by decide +kernel
theorem dX10_areRowsAlike_26 : decode cX10_areRowsAlike 26 = .ok (.iconst 0, 1) := by decide +kernel
theorem dX10_areRowsAlike_27 : decode cX10_areRowsAlike 27 = .ok (.ireturn, 1) := by decide +kernel
theorem dX10_areRowsAlike_28 : decode cX10_areRowsAlike 28 = .ok (.iinc 2 1, 3) := by decide +kernel
theorem dX10_areRowsAlike_31 : decode cX10_areRowsAlike 31 = .ok (.goto (-20), 3) := by decide +kernel
theorem dX10_areRowsAlike_34 : decode cX10_areRowsAlike 34 = .ok (.iconst 1, 1) := by decide +kernel
theorem dX10_areRowsAlike_35 : decode cX10_areRowsAlike 35 = .ok (.ireturn, 1) := by decide +kernel
