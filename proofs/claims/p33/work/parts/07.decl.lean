theorem dL_guest_0 : decode cL_guest 0 = .ok (.aload_n 0, 1) := by decide +kernel
theorem dL_guest_1 : decode cL_guest 1 = .ok (.iload_n 1, 1) := by decide +kernel
theorem dL_guest_2 : decode cL_guest 2 = .ok (.iload_n 2, 1) := by decide +kernel
theorem dL_guest_3 : decode cL_guest 3 = .ok (.iload_n 3, 1) := by decide +kernel
theorem dL_guest_4 : decode cL_guest 4 = .ok (.invokevirtual 7, 3) := by decide +kernel
theorem dL_guest_7 : decode cL_guest 7 = .ok (.ireturn, 1) := by decide +kernel
theorem dL_guest_8 : decode cL_guest 8 = .ok (.astore 4, 2) := by decide +kernel
theorem dL_guest_10 : decode cL_guest 10 = .ok (.ldc 15, 2) := by decide +kernel
theorem dL_guest_12 : decode cL_guest 12 = .ok (.ireturn, 1) := by decide +kernel
theorem dL_guest_13 : decode cL_guest 13 = .ok (.astore 4, 2) := by decide +kernel
theorem dL_guest_15 : decode cL_guest 15 = .ok (.ldc 18, 2) := by decide +kernel
theorem dL_guest_17 : decode cL_guest 17 = .ok (.ireturn, 1) := by decide +kernel
theorem dL_guest_18 : decode cL_guest 18 = .ok (.astore 4, 2) := by decide +kernel
theorem dL_guest_20 : decode cL_guest 20 = .ok (.ldc 21, 2) := by decide +kernel
theorem dL_guest_22 : decode cL_guest 22 = .ok (.ireturn, 1) := by decide +kernel
theorem dL_op_0 : decode cL_op 0 = .ok (.aload_n 0, 1) := by decide +kernel
theorem dL_op_1 : decode cL_op 1 = .ok (.iload_n 1, 1) := by decide +kernel
theorem dL_op_2 : decode cL_op 2 = .ok (.iload_n 2, 1) := by decide +kernel
theorem dL_op_3 : decode cL_op 3 = .ok (.iload_n 3, 1) := by decide +kernel
theorem dL_op_4 : decode cL_op 4 = .ok (.iload 4, 2) := by decide +kernel
theorem dL_op_6 : decode cL_op 6 = .ok (.invokevirtual 22, 3) := by decide +kernel
theorem dL_op_9 : decode cL_op 9 = .ok (.ireturn, 1) := by decide +kernel
theorem dL_op_10 : decode cL_op 10 = .ok (.astore 5, 2) := by decide +kernel
theorem dL_op_12 : decode cL_op 12 = .ok (.ldc 15, 2) := by decide +kernel
theorem dL_op_14 : decode cL_op 14 = .ok (.ireturn, 1) := by decide +kernel
theorem dL_op_15 : decode cL_op 15 = .ok (.astore 5, 2) := by decide +kernel
theorem dL_op_17 : decode cL_op 17 = .ok (.ldc 18, 2) := by decide +kernel
theorem dL_op_19 : decode cL_op 19 = .ok (.ireturn, 1) := by decide +kernel
theorem dL_op_20 : decode cL_op 20 = .ok (.astore 5, 2) := by decide +kernel
theorem dL_op_22 : decode cL_op 22 = .ok (.ldc 21, 2) := by decide +kernel
theorem dL_op_24 : decode cL_op 24 = .ok (.ireturn, 1) := by decide +kernel
theorem dL_pause_0 : decode cL_pause 0 = .ok (.aload_n 0, 1) := by decide +kernel
theorem dL_pause_1 : decode cL_pause 1 = .ok (.iload_n 1, 1) := by decide +kernel
theorem dL_pause_2 : decode cL_pause 2 = .ok (.iload_n 2, 1) := by decide +kernel
theorem dL_pause_3 : decode cL_pause 3 = .ok (.invokevirtual 26, 3) := by decide +kernel
theorem dL_pause_6 : decode cL_pause 6 = .ok (.ifCond .eq 7, 3) := by decide +kernel
theorem dL_pause_9 : decode cL_pause 9 = .ok (.iconst 1, 1) := by decide +kernel
theorem dL_pause_10 : decode cL_pause 10 = .ok (.goto 4, 3) := by decide +kernel
theorem dL_pause_13 : decode cL_pause 13 = .ok (.iconst 0, 1) := by decide +kernel
theorem dL_pause_14 : decode cL_pause 14 = .ok (.ireturn, 1) := by decide +kernel
theorem dL_pause_15 : decode cL_pause 15 = .ok (.astore_n 3, 1) := by decide +kernel
theorem dL_pause_16 : decode cL_pause 16 = .ok (.ldc 15, 2) := by decide +kernel
theorem dL_pause_18 : decode cL_pause 18 = .ok (.ireturn, 1) := by decide +kernel
theorem dL_scale_0 : decode cL_scale 0 = .ok (.aload_n 0, 1) := by decide +kernel
theorem dL_scale_1 : decode cL_scale 1 = .ok (.iload_n 1, 1) := by decide +kernel
theorem dL_scale_2 : decode cL_scale 2 = .ok (.iload_n 2, 1) := by decide +kernel
theorem dL_scale_3 : decode cL_scale 3 = .ok (.invokevirtual 30, 3) := by decide +kernel
theorem dL_scale_6 : decode cL_scale 6 = .ok (.ireturn, 1) := by decide +kernel
theorem dL_scale_7 : decode cL_scale 7 = .ok (.astore_n 3, 1) := by decide +kernel
theorem dL_scale_8 : decode cL_scale 8 = .ok (.ldc 15, 2) := by decide +kernel
theorem dL_scale_10 : decode cL_scale 10 = .ok (.ireturn, 1) := by decide +kernel
theorem dL_scale_11 : decode cL_scale 11 = .ok (.astore_n 3, 1) := by decide +kernel
theorem dL_scale_12 : decode cL_scale 12 = .ok (.ldc 18, 2) := by decide +kernel
theorem dL_scale_14 : decode cL_scale 14 = .ok (.ireturn, 1) := by decide +kernel
theorem dL_input_0 : decode cL_input 0 = .ok (.aload_n 0, 1) := by decide +kernel
theorem dL_input_1 : decode cL_input 1 = .ok (.iload_n 1, 1) := by decide +kernel
theorem dL_input_2 : decode cL_input 2 = .ok (.iload_n 2, 1) := by decide +kernel
theorem dL_input_3 : decode cL_input 3 = .ok (.invokevirtual 34, 3) := by decide +kernel
theorem dL_input_6 : decode cL_input 6 = .ok (.ireturn, 1) := by decide +kernel
theorem dL_input_7 : decode cL_input 7 = .ok (.astore_n 3, 1) := by decide +kernel
theorem dL_input_8 : decode cL_input 8 = .ok (.ldc 15, 2) := by decide +kernel
theorem dL_input_10 : decode cL_input 10 = .ok (.ireturn, 1) := by decide +kernel
theorem dL_input_11 : decode cL_input 11 = .ok (.astore_n 3, 1) := by decide +kernel
theorem dL_input_12 : decode cL_input 12 = .ok (.ldc 18, 2) := by decide +kernel
theorem dL_input_14 : decode cL_input 14 = .ok (.ireturn, 1) := by decide +kernel
theorem dL_input_15 : decode cL_input 15 = .ok (.astore_n 3, 1) := by decide +kernel
theorem dL_input_16 : decode cL_input 16 = .ok (.ldc 21, 2) := by decide +kernel
theorem dL_input_18 : decode cL_input 18 = .ok (.ireturn, 1) := by decide +kernel
theorem dL_send_0 : decode cL_send 0 = .ok (.aload_n 0, 1) := by decide +kernel
theorem dL_send_1 : decode cL_send 1 = .ok (.iload_n 1, 1) := by decide +kernel
theorem dL_send_2 : decode cL_send 2 = .ok (.invokevirtual 37, 3) := by decide +kernel
theorem dL_send_5 : decode cL_send 5 = .ok (.ifCond .eq 7, 3) := by decide +kernel
theorem dL_send_8 : decode cL_send 8 = .ok (.iconst 1, 1) := by decide +kernel
theorem dL_send_9 : decode cL_send 9 = .ok (.goto 4, 3) := by decide +kernel
theorem dL_send_12 : decode cL_send 12 = .ok (.iconst 0, 1) := by decide +kernel
theorem dL_send_13 : decode cL_send 13 = .ok (.ireturn, 1) := by decide +kernel
theorem dL_send_14 : decode cL_send 14 = .ok (.astore_n 2, 1) := by decide +kernel
theorem dL_send_15 : decode cL_send 15 = .ok (.ldc 15, 2) := by decide +kernel
theorem dL_send_17 : decode cL_send 17 = .ok (.ireturn, 1) := by decide +kernel
theorem dL_send_18 : decode cL_send 18 = .ok (.astore_n 2, 1) := by decide +kernel
theorem dL_send_19 : decode cL_send 19 = .ok (.ldc 21, 2) := by decide +kernel
theorem dL_send_21 : decode cL_send 21 = .ok (.ireturn, 1) := by decide +kernel
theorem dL_tick_0 : decode cL_tick 0 = .ok (.aload_n 0, 1) := by decide +kernel
theorem dL_tick_1 : decode cL_tick 1 = .ok (.iload_n 1, 1) := by decide +kernel
theorem dL_tick_2 : decode cL_tick 2 = .ok (.invokevirtual 41, 3) := by decide +kernel
theorem dL_tick_5 : decode cL_tick 5 = .ok (.ireturn, 1) := by decide +kernel
theorem dL_tick_6 : decode cL_tick 6 = .ok (.astore_n 2, 1) := by decide +kernel
theorem dL_tick_7 : decode cL_tick 7 = .ok (.ldc 18, 2) := by decide +kernel
theorem dL_tick_9 : decode cL_tick 9 = .ok (.ireturn, 1) := by decide +kernel
theorem dL_tick_10 : decode cL_tick 10 = .ok (.astore_n 2, 1) := by decide +kernel
theorem dL_tick_11 : decode cL_tick 11 = .ok (.ldc 21, 2) := by decide +kernel
theorem dL_tick_13 : decode cL_tick 13 = .ok (.ireturn, 1) := by decide +kernel
theorem dL_share_0 : decode cL_share 0 = .ok (.aload_n 0, 1) := by decide +kernel
theorem dL_share_1 : decode cL_share 1 = .ok (.iload_n 1, 1) := by decide +kernel
theorem dL_share_2 : decode cL_share 2 = .ok (.invokevirtual 45, 3) := by decide +kernel
theorem dL_share_5 : decode cL_share 5 = .ok (.ireturn, 1) := by decide +kernel
theorem dL_share_6 : decode cL_share 6 = .ok (.astore_n 2, 1) := by decide +kernel
theorem dL_share_7 : decode cL_share 7 = .ok (.ldc 15, 2) := by decide +kernel
theorem dL_share_9 : decode cL_share 9 = .ok (.ireturn, 1) := by decide +kernel
theorem dL_move_0 : decode cL_move 0 = .ok (.aload_n 0, 1) := by decide +kernel
theorem dL_move_1 : decode cL_move 1 = .ok (.iload_n 1, 1) := by decide +kernel
theorem dL_move_2 : decode cL_move 2 = .ok (.invokevirtual 48, 3) := by decide +kernel
theorem dL_move_5 : decode cL_move 5 = .ok (.ireturn, 1) := by decide +kernel
theorem dL_move_6 : decode cL_move 6 = .ok (.astore_n 2, 1) := by decide +kernel
theorem dL_move_7 : decode cL_move 7 = .ok (.ldc 15, 2) := by decide +kernel
theorem dL_move_9 : decode cL_move 9 = .ok (.ireturn, 1) := by decide +kernel
theorem dL_move_10 : decode cL_move 10 = .ok (.astore_n 2, 1) := by decide +kernel
theorem dL_move_11 : decode cL_move 11 = .ok (.ldc 21, 2) := by decide +kernel
theorem dL_move_13 : decode cL_move 13 = .ok (.ireturn, 1) := by decide +kernel
theorem dL_round_0 : decode cL_round 0 = .ok (.aload_n 0, 1) := by decide +kernel
theorem dL_round_1 : decode cL_round 1 = .ok (.iload_n 1, 1) := by decide +kernel
theorem dL_round_2 : decode cL_round 2 = .ok (.iload_n 2, 1) := by decide +kernel
theorem dL_round_3 : decode cL_round 3 = .ok (.invokevirtual 51, 3) := by decide +kernel
theorem dL_round_6 : decode cL_round 6 = .ok (.ireturn, 1) := by decide +kernel
theorem dL_round_7 : decode cL_round 7 = .ok (.astore_n 3, 1) := by decide +kernel
theorem dL_round_8 : decode cL_round 8 = .ok (.ldc 15, 2) := by decide +kernel
theorem dL_round_10 : decode cL_round 10 = .ok (.ireturn, 1) := by decide +kernel
theorem dL_round_11 : decode cL_round 11 = .ok (.astore_n 3, 1) := by decide +kernel
theorem dL_round_12 : decode cL_round 12 = .ok (.ldc 18, 2) := by decide +kernel
theorem dL_round_14 : decode cL_round 14 = .ok (.ireturn, 1) := by decide +kernel
theorem dL_round_15 : decode cL_round 15 = .ok (.astore_n 3, 1) := by decide +kernel
theorem dL_round_16 : decode cL_round 16 = .ok (.ldc 21, 2) := by decide +kernel
theorem dL_round_18 : decode cL_round 18 = .ok (.ireturn, 1) := by decide +kernel
theorem dL_land_0 : decode cL_land 0 = .ok (.aload_n 0, 1) := by decide +kernel
theorem dL_land_1 : decode cL_land 1 = .ok (.iload_n 1, 1) := by decide +kernel
theorem dL_land_2 : decode cL_land 2 = .ok (.iload_n 2, 1) := by decide +kernel
theorem dL_land_3 : decode cL_land 3 = .ok (.invokevirtual 54, 3) := by decide +kernel
theorem dL_land_6 : decode cL_land 6 = .ok (.ireturn, 1) := by decide +kernel
theorem dL_land_7 : decode cL_land 7 = .ok (.astore_n 3, 1) := by decide +kernel
theorem dL_land_8 : decode cL_land 8 = .ok (.ldc 15, 2) := by decide +kernel
theorem dL_land_10 : decode cL_land 10 = .ok (.ireturn, 1) := by decide +kernel
theorem dL_land_11 : decode cL_land 11 = .ok (.astore_n 3, 1) := by decide +kernel
theorem dL_land_12 : decode cL_land 12 = .ok (.ldc 21, 2) := by decide +kernel
theorem dL_land_14 : decode cL_land 14 = .ok (.ireturn, 1) := by decide +kernel
theorem dL_snapshot_0 : decode cL_snapshot 0 = .ok (.aload_n 0, 1) := by decide +kernel
theorem dL_snapshot_1 : decode cL_snapshot 1 = .ok (.iload_n 1, 1) := by decide +kernel
theorem dL_snapshot_2 : decode cL_snapshot 2 = .ok (.invokevirtual 58, 3) := by decide +kernel
theorem dL_snapshot_5 : decode cL_snapshot 5 = .ok (.ireturn, 1) := by decide +kernel
theorem dL_snapshot_6 : decode cL_snapshot 6 = .ok (.astore_n 2, 1) := by decide +kernel
theorem dL_snapshot_7 : decode cL_snapshot 7 = .ok (.ldc 15, 2) := by decide +kernel
theorem dL_snapshot_9 : decode cL_snapshot 9 = .ok (.ireturn, 1) := by decide +kernel
theorem dL_snapshot_10 : decode cL_snapshot 10 = .ok (.astore_n 2, 1) := by decide +kernel
theorem dL_snapshot_11 : decode cL_snapshot 11 = .ok (.ldc 21, 2) := by decide +kernel
theorem dL_snapshot_13 : decode cL_snapshot 13 = .ok (.ireturn, 1) := by decide +kernel
theorem dL_restore_0 : decode cL_restore 0 = .ok (.aload_n 0, 1) := by decide +kernel
theorem dL_restore_1 : decode cL_restore 1 = .ok (.iload_n 1, 1) := by decide +kernel
theorem dL_restore_2 : decode cL_restore 2 = .ok (.iload_n 2, 1) := by decide +kernel
theorem dL_restore_3 : decode cL_restore 3 = .ok (.invokevirtual 61, 3) := by decide +kernel
theorem dL_restore_6 : decode cL_restore 6 = .ok (.ireturn, 1) := by decide +kernel
theorem dL_restore_7 : decode cL_restore 7 = .ok (.astore_n 3, 1) := by decide +kernel
theorem dL_restore_8 : decode cL_restore 8 = .ok (.ldc 15, 2) := by decide +kernel
theorem dL_restore_10 : decode cL_restore 10 = .ok (.ireturn, 1) := by decide +kernel
theorem dL_restore_11 : decode cL_restore 11 = .ok (.astore_n 3, 1) := by decide +kernel
theorem dL_restore_12 : decode cL_restore 12 = .ok (.ldc 21, 2) := by decide +kernel
theorem dL_restore_14 : decode cL_restore 14 = .ok (.ireturn, 1) := by decide +kernel
theorem dL_follow_0 : decode cL_follow 0 = .ok (.aload_n 0, 1) := by decide +kernel
theorem dL_follow_1 : decode cL_follow 1 = .ok (.iload_n 1, 1) := by decide +kernel
theorem dL_follow_2 : decode cL_follow 2 = .ok (.iload_n 2, 1) := by decide +kernel
theorem dL_follow_3 : decode cL_follow 3 = .ok (.invokevirtual 64, 3) := by decide +kernel
theorem dL_follow_6 : decode cL_follow 6 = .ok (.ifCond .eq 7, 3) := by decide +kernel
theorem dL_follow_9 : decode cL_follow 9 = .ok (.iconst 1, 1) := by decide +kernel
theorem dL_follow_10 : decode cL_follow 10 = .ok (.goto 4, 3) := by decide +kernel
theorem dL_follow_13 : decode cL_follow 13 = .ok (.iconst 0, 1) := by decide +kernel
theorem dL_follow_14 : decode cL_follow 14 = .ok (.ireturn, 1) := by decide +kernel
theorem dL_follow_15 : decode cL_follow 15 = .ok (.astore_n 3, 1) := by decide +kernel
theorem dL_follow_16 : decode cL_follow 16 = .ok (.ldc 15, 2) := by decide +kernel
theorem dL_follow_18 : decode cL_follow 18 = .ok (.ireturn, 1) := by decide +kernel
theorem dL_follow_19 : decode cL_follow 19 = .ok (.astore_n 3, 1) := by decide +kernel
theorem dL_follow_20 : decode cL_follow 20 = .ok (.ldc 21, 2) := by decide +kernel
theorem dL_follow_22 : decode cL_follow 22 = .ok (.ireturn, 1) := by decide +kernel
theorem dL_step_0 : decode cL_step 0 = .ok (.aload_n 0, 1) := by decide +kernel
theorem dL_step_1 : decode cL_step 1 = .ok (.iload_n 1, 1) := by decide +kernel
theorem dL_step_2 : decode cL_step 2 = .ok (.invokevirtual 67, 3) := by decide +kernel
theorem dL_step_5 : decode cL_step 5 = .ok (.ireturn, 1) := by decide +kernel
theorem dL_step_6 : decode cL_step 6 = .ok (.astore_n 2, 1) := by decide +kernel
theorem dL_step_7 : decode cL_step 7 = .ok (.ldc 15, 2) := by decide +kernel
theorem dL_step_9 : decode cL_step 9 = .ok (.ireturn, 1) := by decide +kernel
theorem dL_step_10 : decode cL_step 10 = .ok (.astore_n 2, 1) := by decide +kernel
theorem dL_step_11 : decode cL_step 11 = .ok (.ldc 21, 2) := by decide +kernel
theorem dL_step_13 : decode cL_step 13 = .ok (.ireturn, 1) := by decide +kernel
theorem dL_fail_0 : decode cL_fail 0 = .ok (.aload_n 0, 1) := by decide +kernel
theorem dL_fail_1 : decode cL_fail 1 = .ok (.iload_n 1, 1) := by decide +kernel
theorem dL_fail_2 : decode cL_fail 2 = .ok (.invokevirtual 70, 3) := by decide +kernel
theorem dL_fail_5 : decode cL_fail 5 = .ok (.ireturn, 1) := by decide +kernel
theorem dL_fail_6 : decode cL_fail 6 = .ok (.astore_n 2, 1) := by decide +kernel
theorem dL_fail_7 : decode cL_fail 7 = .ok (.ldc 15, 2) := by decide +kernel
theorem dL_fail_9 : decode cL_fail 9 = .ok (.ireturn, 1) := by decide +kernel
theorem dL_fail_10 : decode cL_fail 10 = .ok (.astore_n 2, 1) := by decide +kernel
theorem dL_fail_11 : decode cL_fail 11 = .ok (.ldc 21, 2) := by decide +kernel
theorem dL_fail_13 : decode cL_fail 13 = .ok (.ireturn, 1) := by decide +kernel
theorem dL_mend_0 : decode cL_mend 0 = .ok (.aload_n 0, 1) := by decide +kernel
theorem dL_mend_1 : decode cL_mend 1 = .ok (.iload_n 1, 1) := by decide +kernel
theorem dL_mend_2 : decode cL_mend 2 = .ok (.invokevirtual 73, 3) := by decide +kernel
theorem dL_mend_5 : decode cL_mend 5 = .ok (.iconst 0, 1) := by decide +kernel
theorem dL_mend_6 : decode cL_mend 6 = .ok (.ireturn, 1) := by decide +kernel
theorem dL_mend_7 : decode cL_mend 7 = .ok (.astore_n 2, 1) := by decide +kernel
theorem dL_mend_8 : decode cL_mend 8 = .ok (.ldc 15, 2) := by decide +kernel
theorem dL_mend_10 : decode cL_mend 10 = .ok (.ireturn, 1) := by decide +kernel
theorem dL_mend_11 : decode cL_mend 11 = .ok (.astore_n 2, 1) := by decide +kernel
theorem dL_mend_12 : decode cL_mend 12 = .ok (.ldc 21, 2) := by decide +kernel
theorem dL_mend_14 : decode cL_mend 14 = .ok (.ireturn, 1) := by decide +kernel
theorem dL_of_0 : decode cL_of 0 = .ok (.aload_n 0, 1) := by decide +kernel
theorem dL_of_1 : decode cL_of 1 = .ok (.iload_n 1, 1) := by decide +kernel
theorem dL_of_2 : decode cL_of 2 = .ok (.iload_n 2, 1) := by decide +kernel
theorem dL_of_3 : decode cL_of 3 = .ok (.invokevirtual 77, 3) := by decide +kernel
theorem dL_of_6 : decode cL_of 6 = .ok (.ireturn, 1) := by decide +kernel
theorem dL_of_7 : decode cL_of 7 = .ok (.astore_n 3, 1) := by decide +kernel
theorem dL_of_8 : decode cL_of 8 = .ok (.ldc 15, 2) := by decide +kernel
theorem dL_of_10 : decode cL_of 10 = .ok (.ireturn, 1) := by decide +kernel
theorem dL_of_11 : decode cL_of 11 = .ok (.astore_n 3, 1) := by decide +kernel
theorem dL_of_12 : decode cL_of 12 = .ok (.ldc 18, 2) := by decide +kernel
theorem dL_of_14 : decode cL_of 14 = .ok (.ireturn, 1) := by decide +kernel
theorem dL_register_0 : decode cL_register 0 = .ok (.aload_n 0, 1) := by decide +kernel
theorem dL_register_1 : decode cL_register 1 = .ok (.iload_n 1, 1) := by decide +kernel
theorem dL_register_2 : decode cL_register 2 = .ok (.iload_n 2, 1) := by decide +kernel
theorem dL_register_3 : decode cL_register 3 = .ok (.invokevirtual 80, 3) := by decide +kernel
theorem dL_register_6 : decode cL_register 6 = .ok (.ireturn, 1) := by decide +kernel
theorem dL_register_7 : decode cL_register 7 = .ok (.astore_n 3, 1) := by decide +kernel
theorem dL_register_8 : decode cL_register 8 = .ok (.ldc 15, 2) := by decide +kernel
theorem dL_register_10 : decode cL_register 10 = .ok (.ireturn, 1) := by decide +kernel
theorem dL_word_0 : decode cL_word 0 = .ok (.aload_n 0, 1) := by decide +kernel
theorem dL_word_1 : decode cL_word 1 = .ok (.iload_n 1, 1) := by decide +kernel
theorem dL_word_2 : decode cL_word 2 = .ok (.iload_n 2, 1) := by decide +kernel
theorem dL_word_3 : decode cL_word 3 = .ok (.iload_n 3, 1) := by decide +kernel
theorem dL_word_4 : decode cL_word 4 = .ok (.invokevirtual 83, 3) := by decide +kernel
theorem dL_word_7 : decode cL_word 7 = .ok (.ireturn, 1) := by decide +kernel
theorem dL_word_8 : decode cL_word 8 = .ok (.astore 4, 2) := by decide +kernel
theorem dL_word_10 : decode cL_word 10 = .ok (.ldc 15, 2) := by decide +kernel
theorem dL_word_12 : decode cL_word 12 = .ok (.ireturn, 1) := by decide +kernel
theorem dL_pageOf_0 : decode cL_pageOf 0 = .ok (.aload_n 0, 1) := by decide +kernel
theorem dL_pageOf_1 : decode cL_pageOf 1 = .ok (.iload_n 1, 1) := by decide +kernel
theorem dL_pageOf_2 : decode cL_pageOf 2 = .ok (.iload_n 2, 1) := by decide +kernel
theorem dL_pageOf_3 : decode cL_pageOf 3 = .ok (.invokevirtual 87, 3) := by decide +kernel
theorem dL_pageOf_6 : decode cL_pageOf 6 = .ok (.ireturn, 1) := by decide +kernel
theorem dL_pageOf_7 : decode cL_pageOf 7 = .ok (.astore_n 3, 1) := by decide +kernel
theorem dL_pageOf_8 : decode cL_pageOf 8 = .ok (.ldc 15, 2) := by decide +kernel
theorem dL_pageOf_10 : decode cL_pageOf 10 = .ok (.ireturn, 1) := by decide +kernel
theorem dL_frameOf_0 : decode cL_frameOf 0 = .ok (.aload_n 0, 1) := by decide +kernel
theorem dL_frameOf_1 : decode cL_frameOf 1 = .ok (.iload_n 1, 1) := by decide +kernel
theorem dL_frameOf_2 : decode cL_frameOf 2 = .ok (.iload_n 2, 1) := by decide +kernel
theorem dL_frameOf_3 : decode cL_frameOf 3 = .ok (.invokevirtual 90, 3) := by decide +kernel
theorem dL_frameOf_6 : decode cL_frameOf 6 = .ok (.ireturn, 1) := by decide +kernel
theorem dL_frameOf_7 : decode cL_frameOf 7 = .ok (.astore_n 3, 1) := by decide +kernel
theorem dL_frameOf_8 : decode cL_frameOf 8 = .ok (.ldc 15, 2) := by decide +kernel
theorem dL_frameOf_10 : decode cL_frameOf 10 = .ok (.ireturn, 1) := by decide +kernel
theorem dL_used_0 : decode cL_used 0 = .ok (.aload_n 0, 1) := by decide +kernel
theorem dL_used_1 : decode cL_used 1 = .ok (.iload_n 1, 1) := by decide +kernel
theorem dL_used_2 : decode cL_used 2 = .ok (.invokevirtual 93, 3) := by decide +kernel
theorem dL_used_5 : decode cL_used 5 = .ok (.ireturn, 1) := by decide +kernel
theorem dL_used_6 : decode cL_used 6 = .ok (.astore_n 2, 1) := by decide +kernel
theorem dL_used_7 : decode cL_used 7 = .ok (.ldc 15, 2) := by decide +kernel
theorem dL_used_9 : decode cL_used 9 = .ok (.ireturn, 1) := by decide +kernel
theorem dL_exits_0 : decode cL_exits 0 = .ok (.aload_n 0, 1) := by decide +kernel
theorem dL_exits_1 : decode cL_exits 1 = .ok (.iload_n 1, 1) := by decide +kernel
theorem dL_exits_2 : decode cL_exits 2 = .ok (.iload_n 2, 1) := by decide +kernel
theorem dL_exits_3 : decode cL_exits 3 = .ok (.invokevirtual 96, 3) := by decide +kernel
theorem dL_exits_6 : decode cL_exits 6 = .ok (.ireturn, 1) := by decide +kernel
theorem dL_exits_7 : decode cL_exits 7 = .ok (.astore_n 3, 1) := by decide +kernel
theorem dL_exits_8 : decode cL_exits 8 = .ok (.ldc 15, 2) := by decide +kernel
theorem dL_exits_10 : decode cL_exits 10 = .ok (.ireturn, 1) := by decide +kernel
theorem dL_exits_11 : decode cL_exits 11 = .ok (.astore_n 3, 1) := by decide +kernel
theorem dL_exits_12 : decode cL_exits 12 = .ok (.ldc 18, 2) := by decide +kernel
theorem dL_exits_14 : decode cL_exits 14 = .ok (.ireturn, 1) := by decide +kernel
theorem dL_out_0 : decode cL_out 0 = .ok (.aload_n 0, 1) := by decide +kernel
theorem dL_out_1 : decode cL_out 1 = .ok (.iload_n 1, 1) := by decide +kernel
theorem dL_out_2 : decode cL_out 2 = .ok (.invokevirtual 99, 3) := by decide +kernel
theorem dL_out_5 : decode cL_out 5 = .ok (.ireturn, 1) := by decide +kernel
theorem dL_out_6 : decode cL_out 6 = .ok (.astore_n 2, 1) := by decide +kernel
theorem dL_out_7 : decode cL_out 7 = .ok (.ldc 15, 2) := by decide +kernel
theorem dL_out_9 : decode cL_out 9 = .ok (.ireturn, 1) := by decide +kernel
theorem dL_outAt_0 : decode cL_outAt 0 = .ok (.aload_n 0, 1) := by decide +kernel
theorem dL_outAt_1 : decode cL_outAt 1 = .ok (.iload_n 1, 1) := by decide +kernel
theorem dL_outAt_2 : decode cL_outAt 2 = .ok (.iload_n 2, 1) := by decide +kernel
theorem dL_outAt_3 : decode cL_outAt 3 = .ok (.invokevirtual 102, 3) := by decide +kernel
theorem dL_outAt_6 : decode cL_outAt 6 = .ok (.ireturn, 1) := by decide +kernel
theorem dL_outAt_7 : decode cL_outAt 7 = .ok (.astore_n 3, 1) := by decide +kernel
theorem dL_outAt_8 : decode cL_outAt 8 = .ok (.ldc 15, 2) := by decide +kernel
theorem dL_outAt_10 : decode cL_outAt 10 = .ok (.ireturn, 1) := by decide +kernel
theorem dL_held_0 : decode cL_held 0 = .ok (.aload_n 0, 1) := by decide +kernel
theorem dL_held_1 : decode cL_held 1 = .ok (.iload_n 1, 1) := by decide +kernel
theorem dL_held_2 : decode cL_held 2 = .ok (.invokevirtual 105, 3) := by decide +kernel
theorem dL_held_5 : decode cL_held 5 = .ok (.ireturn, 1) := by decide +kernel
theorem dL_held_6 : decode cL_held 6 = .ok (.astore_n 2, 1) := by decide +kernel
theorem dL_held_7 : decode cL_held 7 = .ok (.ldc 15, 2) := by decide +kernel
theorem dL_held_9 : decode cL_held 9 = .ok (.ireturn, 1) := by decide +kernel
theorem dL_stored_0 : decode cL_stored 0 = .ok (.aload_n 0, 1) := by decide +kernel
theorem dL_stored_1 : decode cL_stored 1 = .ok (.iload_n 1, 1) := by decide +kernel
theorem dL_stored_2 : decode cL_stored 2 = .ok (.invokevirtual 108, 3) := by decide +kernel
theorem dL_stored_5 : decode cL_stored 5 = .ok (.ireturn, 1) := by decide +kernel
theorem dL_stored_6 : decode cL_stored 6 = .ok (.astore_n 2, 1) := by decide +kernel
theorem dL_stored_7 : decode cL_stored 7 = .ok (.ldc 15, 2) := by decide +kernel
theorem dL_stored_9 : decode cL_stored 9 = .ok (.ireturn, 1) := by decide +kernel
theorem dL_plain_0 : decode cL_plain 0 = .ok (.aload_n 0, 1) := by decide +kernel
theorem dL_plain_1 : decode cL_plain 1 = .ok (.iload_n 1, 1) := by decide +kernel
theorem dL_plain_2 : decode cL_plain 2 = .ok (.invokevirtual 111, 3) := by decide +kernel
theorem dL_plain_5 : decode cL_plain 5 = .ok (.ifCond .eq 7, 3) := by decide +kernel
theorem dL_plain_8 : decode cL_plain 8 = .ok (.iconst 1, 1) := by decide +kernel
theorem dL_plain_9 : decode cL_plain 9 = .ok (.goto 4, 3) := by decide +kernel
theorem dL_plain_12 : decode cL_plain 12 = .ok (.iconst 0, 1) := by decide +kernel
theorem dL_plain_13 : decode cL_plain 13 = .ok (.ireturn, 1) := by decide +kernel
theorem dL_plain_14 : decode cL_plain 14 = .ok (.astore_n 2, 1) := by decide +kernel
theorem dL_plain_15 : decode cL_plain 15 = .ok (.ldc 15, 2) := by decide +kernel
theorem dL_plain_17 : decode cL_plain 17 = .ok (.ireturn, 1) := by decide +kernel
theorem dL_drawn_0 : decode cL_drawn 0 = .ok (.iload_n 1, 1) := by decide +kernel
theorem dL_drawn_1 : decode cL_drawn 1 = .ok (.aload_n 0, 1) := by decide +kernel
theorem dL_drawn_2 : decode cL_drawn 2 = .ok (.arraylength, 1) := by decide +kernel
theorem dL_drawn_3 : decode cL_drawn 3 = .ok (.if_icmp .ge 9, 3) := by decide +kernel
theorem dL_drawn_6 : decode cL_drawn 6 = .ok (.aload_n 0, 1) := by decide +kernel
theorem dL_drawn_7 : decode cL_drawn 7 = .ok (.iload_n 1, 1) := by decide +kernel
theorem dL_drawn_8 : decode cL_drawn 8 = .ok (.iaload, 1) := by decide +kernel
theorem dL_drawn_9 : decode cL_drawn 9 = .ok (.goto 13, 3) := by decide +kernel
theorem dL_drawn_12 : decode cL_drawn 12 = .ok (.ldc 114, 2) := by decide +kernel
theorem dL_drawn_14 : decode cL_drawn 14 = .ok (.iload_n 1, 1) := by decide +kernel
theorem dL_drawn_15 : decode cL_drawn 15 = .ok (.iconst 3, 1) := by decide +kernel
theorem dL_drawn_16 : decode cL_drawn 16 = .ok (.iadd, 1) := by decide +kernel
theorem dL_drawn_17 : decode cL_drawn 17 = .ok (.imul, 1) := by decide +kernel
theorem dL_drawn_18 : decode cL_drawn 18 = .ok (.sipush 14423, 3) := by decide +kernel
theorem dL_drawn_21 : decode cL_drawn 21 = .ok (.iadd, 1) := by decide +kernel
theorem dL_drawn_22 : decode cL_drawn 22 = .ok (.ldc 115, 2) := by decide +kernel
theorem dL_drawn_24 : decode cL_drawn 24 = .ok (.iand, 1) := by decide +kernel
theorem dL_drawn_25 : decode cL_drawn 25 = .ok (.ireturn, 1) := by decide +kernel
theorem dL_refuses_0 : decode cL_refuses 0 = .ok (.iload_n 2, 1) := by decide +kernel
theorem dL_refuses_1 : decode cL_refuses 1 = .ok (.iconst 2, 1) := by decide +kernel
theorem dL_refuses_2 : decode cL_refuses 2 = .ok (.irem, 1) := by decide +kernel
theorem dL_refuses_3 : decode cL_refuses 3 = .ok (.ifCond .ne 7, 3) := by decide +kernel
theorem dL_refuses_6 : decode cL_refuses 6 = .ok (.iconst 1, 1) := by decide +kernel
theorem dL_refuses_7 : decode cL_refuses 7 = .ok (.goto 4, 3) := by decide +kernel
theorem dL_refuses_10 : decode cL_refuses 10 = .ok (.iconst 0, 1) := by decide +kernel
theorem dL_refuses_11 : decode cL_refuses 11 = .ok (.istore_n 3, 1) := by decide +kernel
theorem dL_refuses_12 : decode cL_refuses 12 = .ok (.iload_n 3, 1) := by decide +kernel
theorem dL_refuses_13 : decode cL_refuses 13 = .ok (.ifCond .eq 9, 3) := by decide +kernel
theorem dL_refuses_16 : decode cL_refuses 16 = .ok (.iconst (-1), 1) := by decide +kernel
theorem dL_refuses_17 : decode cL_refuses 17 = .ok (.iload_n 2, 1) := by decide +kernel
theorem dL_refuses_18 : decode cL_refuses 18 = .ok (.isub, 1) := by decide +kernel
theorem dL_refuses_19 : decode cL_refuses 19 = .ok (.goto 8, 3) := by decide +kernel
theorem dL_refuses_22 : decode cL_refuses 22 = .ok (.aload_n 1, 1) := by decide +kernel
theorem dL_refuses_23 : decode cL_refuses 23 = .ok (.iconst 0, 1) := by decide +kernel
theorem dL_refuses_24 : decode cL_refuses 24 = .ok (.iaload, 1) := by decide +kernel
theorem dL_refuses_25 : decode cL_refuses 25 = .ok (.iload_n 2, 1) := by decide +kernel
theorem dL_refuses_26 : decode cL_refuses 26 = .ok (.iadd, 1) := by decide +kernel
theorem dL_refuses_27 : decode cL_refuses 27 = .ok (.istore 4, 2) := by decide +kernel
theorem dL_refuses_29 : decode cL_refuses 29 = .ok (.iload_n 3, 1) := by decide +kernel
theorem dL_refuses_30 : decode cL_refuses 30 = .ok (.ifCond .eq 9, 3) := by decide +kernel
theorem dL_refuses_33 : decode cL_refuses 33 = .ok (.iconst (-1), 1) := by decide +kernel
theorem dL_refuses_34 : decode cL_refuses 34 = .ok (.iload_n 2, 1) := by decide +kernel
theorem dL_refuses_35 : decode cL_refuses 35 = .ok (.isub, 1) := by decide +kernel
theorem dL_refuses_36 : decode cL_refuses 36 = .ok (.goto 6, 3) := by decide +kernel
theorem dL_refuses_39 : decode cL_refuses 39 = .ok (.iconst 2, 1) := by decide +kernel
theorem dL_refuses_40 : decode cL_refuses 40 = .ok (.iload_n 2, 1) := by decide +kernel
theorem dL_refuses_41 : decode cL_refuses 41 = .ok (.iadd, 1) := by decide +kernel
theorem dL_refuses_42 : decode cL_refuses 42 = .ok (.istore 5, 2) := by decide +kernel
theorem dL_refuses_44 : decode cL_refuses 44 = .ok (.aload_n 0, 1) := by decide +kernel
theorem dL_refuses_45 : decode cL_refuses 45 = .ok (.iload 5, 2) := by decide +kernel
theorem dL_refuses_47 : decode cL_refuses 47 = .ok (.iconst 1, 1) := by decide +kernel
theorem dL_refuses_48 : decode cL_refuses 48 = .ok (.iconst 1, 1) := by decide +kernel
theorem dL_refuses_49 : decode cL_refuses 49 = .ok (.invokestatic 116, 3) := by decide +kernel
theorem dL_refuses_52 : decode cL_refuses 52 = .ok (.ldc 15, 2) := by decide +kernel
theorem dL_refuses_54 : decode cL_refuses 54 = .ok (.if_icmp .ne 382, 3) := by decide +kernel
theorem dL_refuses_57 : decode cL_refuses 57 = .ok (.aload_n 0, 1) := by decide +kernel
theorem dL_refuses_58 : decode cL_refuses 58 = .ok (.iload_n 2, 1) := by decide +kernel
theorem dL_refuses_59 : decode cL_refuses 59 = .ok (.iconst 2, 1) := by decide +kernel
theorem dL_refuses_60 : decode cL_refuses 60 = .ok (.irem, 1) := by decide +kernel
theorem dL_refuses_61 : decode cL_refuses 61 = .ok (.iload_n 3, 1) := by decide +kernel
theorem dL_refuses_62 : decode cL_refuses 62 = .ok (.ifCond .eq 8, 3) := by decide +kernel
theorem dL_refuses_65 : decode cL_refuses 65 = .ok (.iload_n 2, 1) := by decide +kernel
theorem dL_refuses_66 : decode cL_refuses 66 = .ok (.ineg, 1) := by decide +kernel
theorem dL_refuses_67 : decode cL_refuses 67 = .ok (.goto 6, 3) := by decide +kernel
theorem dL_refuses_70 : decode cL_refuses 70 = .ok (.iconst 5, 1) := by decide +kernel
theorem dL_refuses_71 : decode cL_refuses 71 = .ok (.iload_n 2, 1) := by decide +kernel
theorem dL_refuses_72 : decode cL_refuses 72 = .ok (.iadd, 1) := by decide +kernel
theorem dL_refuses_73 : decode cL_refuses 73 = .ok (.iconst 1, 1) := by decide +kernel
theorem dL_refuses_74 : decode cL_refuses 74 = .ok (.invokestatic 116, 3) := by decide +kernel
theorem dL_refuses_77 : decode cL_refuses 77 = .ok (.ldc 18, 2) := by decide +kernel
theorem dL_refuses_79 : decode cL_refuses 79 = .ok (.if_icmp .ne 357, 3) := by decide +kernel
theorem dL_refuses_82 : decode cL_refuses 82 = .ok (.aload_n 0, 1) := by decide +kernel
theorem dL_refuses_83 : decode cL_refuses 83 = .ok (.iload 4, 2) := by decide +kernel
theorem dL_refuses_85 : decode cL_refuses 85 = .ok (.iconst 0, 1) := by decide +kernel
theorem dL_refuses_86 : decode cL_refuses 86 = .ok (.iconst 0, 1) := by decide +kernel
theorem dL_refuses_87 : decode cL_refuses 87 = .ok (.iconst 0, 1) := by decide +kernel
theorem dL_refuses_88 : decode cL_refuses 88 = .ok (.invokestatic 121, 3) := by decide +kernel
theorem dL_refuses_91 : decode cL_refuses 91 = .ok (.ldc 15, 2) := by decide +kernel
theorem dL_refuses_93 : decode cL_refuses 93 = .ok (.if_icmp .ne 343, 3) := by decide +kernel
theorem dL_refuses_96 : decode cL_refuses 96 = .ok (.aload_n 0, 1) := by decide +kernel
theorem dL_refuses_97 : decode cL_refuses 97 = .ok (.iload 4, 2) := by decide +kernel
theorem dL_refuses_99 : decode cL_refuses 99 = .ok (.iconst 1, 1) := by decide +kernel
theorem dL_refuses_100 : decode cL_refuses 100 = .ok (.invokestatic 125, 3) := by decide +kernel
theorem dL_refuses_103 : decode cL_refuses 103 = .ok (.ldc 15, 2) := by decide +kernel
theorem dL_refuses_105 : decode cL_refuses 105 = .ok (.if_icmp .ne 331, 3) := by decide +kernel
theorem dL_refuses_108 : decode cL_refuses 108 = .ok (.aload_n 0, 1) := by decide +kernel
theorem dL_refuses_109 : decode cL_refuses 109 = .ok (.iload 4, 2) := by decide +kernel
theorem dL_refuses_111 : decode cL_refuses 111 = .ok (.iconst 1, 1) := by decide +kernel
theorem dL_refuses_112 : decode cL_refuses 112 = .ok (.invokestatic 128, 3) := by decide +kernel
theorem dL_refuses_115 : decode cL_refuses 115 = .ok (.ldc 15, 2) := by decide +kernel
theorem dL_refuses_117 : decode cL_refuses 117 = .ok (.if_icmp .ne 319, 3) := by decide +kernel
theorem dL_refuses_120 : decode cL_refuses 120 = .ok (.aload_n 0, 1) := by decide +kernel
theorem dL_refuses_121 : decode cL_refuses 121 = .ok (.iload 4, 2) := by decide +kernel
theorem dL_refuses_123 : decode cL_refuses 123 = .ok (.iconst 0, 1) := by decide +kernel
theorem dL_refuses_124 : decode cL_refuses 124 = .ok (.invokestatic 131, 3) := by decide +kernel
theorem dL_refuses_127 : decode cL_refuses 127 = .ok (.ldc 15, 2) := by decide +kernel
theorem dL_refuses_129 : decode cL_refuses 129 = .ok (.if_icmp .ne 307, 3) := by decide +kernel
theorem dL_refuses_132 : decode cL_refuses 132 = .ok (.aload_n 0, 1) := by decide +kernel
theorem dL_refuses_133 : decode cL_refuses 133 = .ok (.iload 4, 2) := by decide +kernel
theorem dL_refuses_135 : decode cL_refuses 135 = .ok (.invokestatic 133, 3) := by decide +kernel
theorem dL_refuses_138 : decode cL_refuses 138 = .ok (.ldc 15, 2) := by decide +kernel
theorem dL_refuses_140 : decode cL_refuses 140 = .ok (.if_icmp .ne 296, 3) := by decide +kernel
theorem dL_refuses_143 : decode cL_refuses 143 = .ok (.aload_n 0, 1) := by decide +kernel
theorem dL_refuses_144 : decode cL_refuses 144 = .ok (.iload_n 3, 1) := by decide +kernel
theorem dL_refuses_145 : decode cL_refuses 145 = .ok (.ifCond .eq 8, 3) := by decide +kernel
theorem dL_refuses_148 : decode cL_refuses 148 = .ok (.iload_n 2, 1) := by decide +kernel
theorem dL_refuses_149 : decode cL_refuses 149 = .ok (.ineg, 1) := by decide +kernel
theorem dL_refuses_150 : decode cL_refuses 150 = .ok (.goto 7, 3) := by decide +kernel
theorem dL_refuses_153 : decode cL_refuses 153 = .ok (.bipush 101, 2) := by decide +kernel
theorem dL_refuses_155 : decode cL_refuses 155 = .ok (.iload_n 2, 1) := by decide +kernel
theorem dL_refuses_156 : decode cL_refuses 156 = .ok (.iadd, 1) := by decide +kernel
theorem dL_refuses_157 : decode cL_refuses 157 = .ok (.invokestatic 136, 3) := by decide +kernel
theorem dL_refuses_160 : decode cL_refuses 160 = .ok (.ldc 18, 2) := by decide +kernel
theorem dL_refuses_162 : decode cL_refuses 162 = .ok (.if_icmp .ne 274, 3) := by decide +kernel
theorem dL_refuses_165 : decode cL_refuses 165 = .ok (.aload_n 0, 1) := by decide +kernel
theorem dL_refuses_166 : decode cL_refuses 166 = .ok (.iload 5, 2) := by decide +kernel
theorem dL_refuses_168 : decode cL_refuses 168 = .ok (.invokestatic 138, 3) := by decide +kernel
theorem dL_refuses_171 : decode cL_refuses 171 = .ok (.ldc 15, 2) := by decide +kernel
theorem dL_refuses_173 : decode cL_refuses 173 = .ok (.if_icmp .ne 263, 3) := by decide +kernel
theorem dL_refuses_176 : decode cL_refuses 176 = .ok (.aload_n 0, 1) := by decide +kernel
theorem dL_refuses_177 : decode cL_refuses 177 = .ok (.iload 4, 2) := by decide +kernel
theorem dL_refuses_179 : decode cL_refuses 179 = .ok (.invokestatic 140, 3) := by decide +kernel
theorem dL_refuses_182 : decode cL_refuses 182 = .ok (.ldc 15, 2) := by decide +kernel
theorem dL_refuses_184 : decode cL_refuses 184 = .ok (.if_icmp .ne 252, 3) := by decide +kernel
theorem dL_refuses_187 : decode cL_refuses 187 = .ok (.aload_n 0, 1) := by decide +kernel
theorem dL_refuses_188 : decode cL_refuses 188 = .ok (.iload 4, 2) := by decide +kernel
theorem dL_refuses_190 : decode cL_refuses 190 = .ok (.iconst 1, 1) := by decide +kernel
theorem dL_refuses_191 : decode cL_refuses 191 = .ok (.invokestatic 142, 3) := by decide +kernel
theorem dL_refuses_194 : decode cL_refuses 194 = .ok (.ldc 15, 2) := by decide +kernel
theorem dL_refuses_196 : decode cL_refuses 196 = .ok (.if_icmp .ne 240, 3) := by decide +kernel
theorem dL_refuses_199 : decode cL_refuses 199 = .ok (.aload_n 0, 1) := by decide +kernel
theorem dL_refuses_200 : decode cL_refuses 200 = .ok (.iload 4, 2) := by decide +kernel
theorem dL_refuses_202 : decode cL_refuses 202 = .ok (.iconst 1, 1) := by decide +kernel
theorem dL_refuses_203 : decode cL_refuses 203 = .ok (.invokestatic 144, 3) := by decide +kernel
theorem dL_refuses_206 : decode cL_refuses 206 = .ok (.ldc 15, 2) := by decide +kernel
theorem dL_refuses_208 : decode cL_refuses 208 = .ok (.if_icmp .ne 228, 3) := by decide +kernel
theorem dL_refuses_211 : decode cL_refuses 211 = .ok (.aload_n 0, 1) := by decide +kernel
theorem dL_refuses_212 : decode cL_refuses 212 = .ok (.iload 4, 2) := by decide +kernel
theorem dL_refuses_214 : decode cL_refuses 214 = .ok (.invokestatic 146, 3) := by decide +kernel
theorem dL_refuses_217 : decode cL_refuses 217 = .ok (.ldc 15, 2) := by decide +kernel
theorem dL_refuses_219 : decode cL_refuses 219 = .ok (.if_icmp .ne 217, 3) := by decide +kernel
theorem dL_refuses_222 : decode cL_refuses 222 = .ok (.aload_n 0, 1) := by decide +kernel
theorem dL_refuses_223 : decode cL_refuses 223 = .ok (.iload 4, 2) := by decide +kernel
theorem dL_refuses_225 : decode cL_refuses 225 = .ok (.iconst 0, 1) := by decide +kernel
theorem dL_refuses_226 : decode cL_refuses 226 = .ok (.invokestatic 148, 3) := by decide +kernel
theorem dL_refuses_229 : decode cL_refuses 229 = .ok (.ldc 15, 2) := by decide +kernel
theorem dL_refuses_231 : decode cL_refuses 231 = .ok (.if_icmp .ne 205, 3) := by decide +kernel
theorem dL_refuses_234 : decode cL_refuses 234 = .ok (.aload_n 0, 1) := by decide +kernel
theorem dL_refuses_235 : decode cL_refuses 235 = .ok (.iload 4, 2) := by decide +kernel
theorem dL_refuses_237 : decode cL_refuses 237 = .ok (.iconst 0, 1) := by decide +kernel
theorem dL_refuses_238 : decode cL_refuses 238 = .ok (.invokestatic 150, 3) := by decide +kernel
theorem dL_refuses_241 : decode cL_refuses 241 = .ok (.ldc 15, 2) := by decide +kernel
theorem dL_refuses_243 : decode cL_refuses 243 = .ok (.if_icmp .ne 193, 3) := by decide +kernel
theorem dL_refuses_246 : decode cL_refuses 246 = .ok (.aload_n 0, 1) := by decide +kernel
theorem dL_refuses_247 : decode cL_refuses 247 = .ok (.iload 4, 2) := by decide +kernel
theorem dL_refuses_249 : decode cL_refuses 249 = .ok (.invokestatic 152, 3) := by decide +kernel
theorem dL_refuses_252 : decode cL_refuses 252 = .ok (.ldc 15, 2) := by decide +kernel
theorem dL_refuses_254 : decode cL_refuses 254 = .ok (.if_icmp .ne 182, 3) := by decide +kernel
theorem dL_refuses_257 : decode cL_refuses 257 = .ok (.aload_n 0, 1) := by decide +kernel
theorem dL_refuses_258 : decode cL_refuses 258 = .ok (.iload 5, 2) := by decide +kernel
theorem dL_refuses_260 : decode cL_refuses 260 = .ok (.invokestatic 154, 3) := by decide +kernel
theorem dL_refuses_263 : decode cL_refuses 263 = .ok (.ldc 15, 2) := by decide +kernel
theorem dL_refuses_265 : decode cL_refuses 265 = .ok (.if_icmp .ne 171, 3) := by decide +kernel
theorem dL_refuses_268 : decode cL_refuses 268 = .ok (.aload_n 0, 1) := by decide +kernel
theorem dL_refuses_269 : decode cL_refuses 269 = .ok (.iload 5, 2) := by decide +kernel
theorem dL_refuses_271 : decode cL_refuses 271 = .ok (.invokestatic 156, 3) := by decide +kernel
theorem dL_refuses_274 : decode cL_refuses 274 = .ok (.ldc 15, 2) := by decide +kernel
theorem dL_refuses_276 : decode cL_refuses 276 = .ok (.if_icmp .ne 160, 3) := by decide +kernel
theorem dL_refuses_279 : decode cL_refuses 279 = .ok (.aload_n 0, 1) := by decide +kernel
theorem dL_refuses_280 : decode cL_refuses 280 = .ok (.iload 4, 2) := by decide +kernel
theorem dL_refuses_282 : decode cL_refuses 282 = .ok (.iconst 0, 1) := by decide +kernel
theorem dL_refuses_283 : decode cL_refuses 283 = .ok (.invokestatic 158, 3) := by decide +kernel
theorem dL_refuses_286 : decode cL_refuses 286 = .ok (.ldc 15, 2) := by decide +kernel
theorem dL_refuses_288 : decode cL_refuses 288 = .ok (.if_icmp .ne 148, 3) := by decide +kernel
theorem dL_refuses_291 : decode cL_refuses 291 = .ok (.aload_n 0, 1) := by decide +kernel
theorem dL_refuses_292 : decode cL_refuses 292 = .ok (.iload 4, 2) := by decide +kernel
theorem dL_refuses_294 : decode cL_refuses 294 = .ok (.iconst 0, 1) := by decide +kernel
theorem dL_refuses_295 : decode cL_refuses 295 = .ok (.invokestatic 160, 3) := by decide +kernel
theorem dL_refuses_298 : decode cL_refuses 298 = .ok (.ldc 15, 2) := by decide +kernel
theorem dL_refuses_300 : decode cL_refuses 300 = .ok (.if_icmp .ne 136, 3) := by decide +kernel
theorem dL_refuses_303 : decode cL_refuses 303 = .ok (.aload_n 0, 1) := by decide +kernel
theorem dL_refuses_304 : decode cL_refuses 304 = .ok (.iload 4, 2) := by decide +kernel
theorem dL_refuses_306 : decode cL_refuses 306 = .ok (.iconst 0, 1) := by decide +kernel
theorem dL_refuses_307 : decode cL_refuses 307 = .ok (.iconst 0, 1) := by decide +kernel
theorem dL_refuses_308 : decode cL_refuses 308 = .ok (.invokestatic 162, 3) := by decide +kernel
theorem dL_refuses_311 : decode cL_refuses 311 = .ok (.ldc 15, 2) := by decide +kernel
theorem dL_refuses_313 : decode cL_refuses 313 = .ok (.if_icmp .ne 123, 3) := by decide +kernel
theorem dL_refuses_316 : decode cL_refuses 316 = .ok (.aload_n 0, 1) := by decide +kernel
theorem dL_refuses_317 : decode cL_refuses 317 = .ok (.iload 4, 2) := by decide +kernel
theorem dL_refuses_319 : decode cL_refuses 319 = .ok (.iconst 0, 1) := by decide +kernel
theorem dL_refuses_320 : decode cL_refuses 320 = .ok (.invokestatic 165, 3) := by decide +kernel
theorem dL_refuses_323 : decode cL_refuses 323 = .ok (.ldc 15, 2) := by decide +kernel
theorem dL_refuses_325 : decode cL_refuses 325 = .ok (.if_icmp .ne 111, 3) := by decide +kernel
theorem dL_refuses_328 : decode cL_refuses 328 = .ok (.aload_n 0, 1) := by decide +kernel
theorem dL_refuses_329 : decode cL_refuses 329 = .ok (.iload 4, 2) := by decide +kernel
theorem dL_refuses_331 : decode cL_refuses 331 = .ok (.iconst 0, 1) := by decide +kernel
theorem dL_refuses_332 : decode cL_refuses 332 = .ok (.invokestatic 167, 3) := by decide +kernel
theorem dL_refuses_335 : decode cL_refuses 335 = .ok (.ldc 15, 2) := by decide +kernel
theorem dL_refuses_337 : decode cL_refuses 337 = .ok (.if_icmp .ne 99, 3) := by decide +kernel
theorem dL_refuses_340 : decode cL_refuses 340 = .ok (.aload_n 0, 1) := by decide +kernel
theorem dL_refuses_341 : decode cL_refuses 341 = .ok (.iload 5, 2) := by decide +kernel
theorem dL_refuses_343 : decode cL_refuses 343 = .ok (.invokestatic 169, 3) := by decide +kernel
theorem dL_refuses_346 : decode cL_refuses 346 = .ok (.ldc 15, 2) := by decide +kernel
theorem dL_refuses_348 : decode cL_refuses 348 = .ok (.if_icmp .ne 88, 3) := by decide +kernel
theorem dL_refuses_351 : decode cL_refuses 351 = .ok (.aload_n 0, 1) := by decide +kernel
theorem dL_refuses_352 : decode cL_refuses 352 = .ok (.iload 4, 2) := by decide +kernel
theorem dL_refuses_354 : decode cL_refuses 354 = .ok (.iconst 0, 1) := by decide +kernel
theorem dL_refuses_355 : decode cL_refuses 355 = .ok (.invokestatic 171, 3) := by decide +kernel
theorem dL_refuses_358 : decode cL_refuses 358 = .ok (.ldc 15, 2) := by decide +kernel
theorem dL_refuses_360 : decode cL_refuses 360 = .ok (.if_icmp .ne 76, 3) := by decide +kernel
theorem dL_refuses_363 : decode cL_refuses 363 = .ok (.aload_n 0, 1) := by decide +kernel
theorem dL_refuses_364 : decode cL_refuses 364 = .ok (.iload 4, 2) := by decide +kernel
theorem dL_refuses_366 : decode cL_refuses 366 = .ok (.invokestatic 173, 3) := by decide +kernel
theorem dL_refuses_369 : decode cL_refuses 369 = .ok (.ldc 15, 2) := by decide +kernel
theorem dL_refuses_371 : decode cL_refuses 371 = .ok (.if_icmp .ne 65, 3) := by decide +kernel
theorem dL_refuses_374 : decode cL_refuses 374 = .ok (.aload_n 0, 1) := by decide +kernel
theorem dL_refuses_375 : decode cL_refuses 375 = .ok (.iload 4, 2) := by decide +kernel
theorem dL_refuses_377 : decode cL_refuses 377 = .ok (.iconst 0, 1) := by decide +kernel
theorem dL_refuses_378 : decode cL_refuses 378 = .ok (.invokestatic 175, 3) := by decide +kernel
theorem dL_refuses_381 : decode cL_refuses 381 = .ok (.ldc 15, 2) := by decide +kernel
theorem dL_refuses_383 : decode cL_refuses 383 = .ok (.if_icmp .ne 53, 3) := by decide +kernel
theorem dL_refuses_386 : decode cL_refuses 386 = .ok (.aload_n 0, 1) := by decide +kernel
theorem dL_refuses_387 : decode cL_refuses 387 = .ok (.iload 4, 2) := by decide +kernel
theorem dL_refuses_389 : decode cL_refuses 389 = .ok (.invokestatic 177, 3) := by decide +kernel
theorem dL_refuses_392 : decode cL_refuses 392 = .ok (.ldc 15, 2) := by decide +kernel
theorem dL_refuses_394 : decode cL_refuses 394 = .ok (.if_icmp .ne 42, 3) := by decide +kernel
theorem dL_refuses_397 : decode cL_refuses 397 = .ok (.aload_n 0, 1) := by decide +kernel
theorem dL_refuses_398 : decode cL_refuses 398 = .ok (.iload_n 3, 1) := by decide +kernel
theorem dL_refuses_399 : decode cL_refuses 399 = .ok (.ifCond .eq 9, 3) := by decide +kernel
theorem dL_refuses_402 : decode cL_refuses 402 = .ok (.iconst (-1), 1) := by decide +kernel
theorem dL_refuses_403 : decode cL_refuses 403 = .ok (.iload_n 2, 1) := by decide +kernel
theorem dL_refuses_404 : decode cL_refuses 404 = .ok (.isub, 1) := by decide +kernel
theorem dL_refuses_405 : decode cL_refuses 405 = .ok (.goto 8, 3) := by decide +kernel
theorem dL_refuses_408 : decode cL_refuses 408 = .ok (.aload_n 1, 1) := by decide +kernel
theorem dL_refuses_409 : decode cL_refuses 409 = .ok (.iconst 1, 1) := by decide +kernel
theorem dL_refuses_410 : decode cL_refuses 410 = .ok (.iaload, 1) := by decide +kernel
theorem dL_refuses_411 : decode cL_refuses 411 = .ok (.iload_n 2, 1) := by decide +kernel
theorem dL_refuses_412 : decode cL_refuses 412 = .ok (.iadd, 1) := by decide +kernel
theorem dL_refuses_413 : decode cL_refuses 413 = .ok (.invokestatic 179, 3) := by decide +kernel
theorem dL_refuses_416 : decode cL_refuses 416 = .ok (.ldc 15, 2) := by decide +kernel
theorem dL_refuses_418 : decode cL_refuses 418 = .ok (.if_icmp .ne 18, 3) := by decide +kernel
theorem dL_refuses_421 : decode cL_refuses 421 = .ok (.aload_n 0, 1) := by decide +kernel
theorem dL_refuses_422 : decode cL_refuses 422 = .ok (.iload 4, 2) := by decide +kernel
theorem dL_refuses_424 : decode cL_refuses 424 = .ok (.invokestatic 181, 3) := by decide +kernel
theorem dL_refuses_427 : decode cL_refuses 427 = .ok (.ldc 15, 2) := by decide +kernel
theorem dL_refuses_429 : decode cL_refuses 429 = .ok (.if_icmp .ne 7, 3) := by decide +kernel
theorem dL_refuses_432 : decode cL_refuses 432 = .ok (.iconst 1, 1) := by decide +kernel
theorem dL_refuses_433 : decode cL_refuses 433 = .ok (.goto 4, 3) := by decide +kernel
theorem dL_refuses_436 : decode cL_refuses 436 = .ok (.iconst 0, 1) := by decide +kernel
theorem dL_refuses_437 : decode cL_refuses 437 = .ok (.istore 6, 2) := by decide +kernel
theorem dL_refuses_439 : decode cL_refuses 439 = .ok (.aload_n 1, 1) := by decide +kernel
theorem dL_refuses_440 : decode cL_refuses 440 = .ok (.iconst 0, 1) := by decide +kernel
theorem dL_refuses_441 : decode cL_refuses 441 = .ok (.iaload, 1) := by decide +kernel
theorem dL_refuses_442 : decode cL_refuses 442 = .ok (.ifCond .ne 6, 3) := by decide +kernel
theorem dL_refuses_445 : decode cL_refuses 445 = .ok (.iload 6, 2) := by decide +kernel
theorem dL_refuses_447 : decode cL_refuses 447 = .ok (.ireturn, 1) := by decide +kernel
theorem dL_refuses_448 : decode cL_refuses 448 = .ok (.iload_n 2, 1) := by decide +kernel
theorem dL_refuses_449 : decode cL_refuses 449 = .ok (.iconst 3, 1) := by decide +kernel
theorem dL_refuses_450 : decode cL_refuses 450 = .ok (.idiv, 1) := by decide +kernel
theorem dL_refuses_451 : decode cL_refuses 451 = .ok (.aload_n 1, 1) := by decide +kernel
theorem dL_refuses_452 : decode cL_refuses 452 = .ok (.iconst 0, 1) := by decide +kernel
theorem dL_refuses_453 : decode cL_refuses 453 = .ok (.iaload, 1) := by decide +kernel
theorem dL_refuses_454 : decode cL_refuses 454 = .ok (.irem, 1) := by decide +kernel
theorem dL_refuses_455 : decode cL_refuses 455 = .ok (.istore 7, 2) := by decide +kernel
theorem dL_refuses_457 : decode cL_refuses 457 = .ok (.aload_n 0, 1) := by decide +kernel
theorem dL_refuses_458 : decode cL_refuses 458 = .ok (.iload 7, 2) := by decide +kernel
theorem dL_refuses_460 : decode cL_refuses 460 = .ok (.bipush 9, 2) := by decide +kernel
theorem dL_refuses_462 : decode cL_refuses 462 = .ok (.invokestatic 158, 3) := by decide +kernel
theorem dL_refuses_465 : decode cL_refuses 465 = .ok (.ifCond .lt 7, 3) := by decide +kernel
theorem dL_refuses_468 : decode cL_refuses 468 = .ok (.iconst 1, 1) := by decide +kernel
theorem dL_refuses_469 : decode cL_refuses 469 = .ok (.goto 4, 3) := by decide +kernel
theorem dL_refuses_472 : decode cL_refuses 472 = .ok (.iconst 0, 1) := by decide +kernel
theorem dL_refuses_473 : decode cL_refuses 473 = .ok (.istore 8, 2) := by decide +kernel
theorem dL_refuses_475 : decode cL_refuses 475 = .ok (.aload_n 0, 1) := by decide +kernel
theorem dL_refuses_476 : decode cL_refuses 476 = .ok (.iload 7, 2) := by decide +kernel
theorem dL_refuses_478 : decode cL_refuses 478 = .ok (.iconst 0, 1) := by decide +kernel
theorem dL_refuses_479 : decode cL_refuses 479 = .ok (.invokestatic 158, 3) := by decide +kernel
theorem dL_refuses_482 : decode cL_refuses 482 = .ok (.istore 9, 2) := by decide +kernel
theorem dL_refuses_484 : decode cL_refuses 484 = .ok (.iload 6, 2) := by decide +kernel
theorem dL_refuses_486 : decode cL_refuses 486 = .ok (.ifCond .eq 506, 3) := by decide +kernel
theorem dL_refuses_489 : decode cL_refuses 489 = .ok (.aload_n 0, 1) := by decide +kernel
theorem dL_refuses_490 : decode cL_refuses 490 = .ok (.iload 7, 2) := by decide +kernel
theorem dL_refuses_492 : decode cL_refuses 492 = .ok (.iload_n 3, 1) := by decide +kernel
theorem dL_refuses_493 : decode cL_refuses 493 = .ok (.ifCond .eq 9, 3) := by decide +kernel
theorem dL_refuses_496 : decode cL_refuses 496 = .ok (.iconst (-1), 1) := by decide +kernel
theorem dL_refuses_497 : decode cL_refuses 497 = .ok (.iload_n 2, 1) := by decide +kernel
theorem dL_refuses_498 : decode cL_refuses 498 = .ok (.isub, 1) := by decide +kernel
theorem dL_refuses_499 : decode cL_refuses 499 = .ok (.goto 7, 3) := by decide +kernel
theorem dL_refuses_502 : decode cL_refuses 502 = .ok (.bipush 14, 2) := by decide +kernel
theorem dL_refuses_504 : decode cL_refuses 504 = .ok (.iload_n 2, 1) := by decide +kernel
theorem dL_refuses_505 : decode cL_refuses 505 = .ok (.iadd, 1) := by decide +kernel
theorem dL_refuses_506 : decode cL_refuses 506 = .ok (.iconst 0, 1) := by decide +kernel
theorem dL_refuses_507 : decode cL_refuses 507 = .ok (.iconst 0, 1) := by decide +kernel
theorem dL_refuses_508 : decode cL_refuses 508 = .ok (.invokestatic 121, 3) := by decide +kernel
theorem dL_refuses_511 : decode cL_refuses 511 = .ok (.ldc 18, 2) := by decide +kernel
theorem dL_refuses_513 : decode cL_refuses 513 = .ok (.if_icmp .ne 479, 3) := by decide +kernel
theorem dL_refuses_516 : decode cL_refuses 516 = .ok (.aload_n 0, 1) := by decide +kernel
theorem dL_refuses_517 : decode cL_refuses 517 = .ok (.iload 7, 2) := by decide +kernel
theorem dL_refuses_519 : decode cL_refuses 519 = .ok (.iconst 0, 1) := by decide +kernel
theorem dL_refuses_520 : decode cL_refuses 520 = .ok (.iload_n 3, 1) := by decide +kernel
theorem dL_refuses_521 : decode cL_refuses 521 = .ok (.ifCond .eq 9, 3) := by decide +kernel
theorem dL_refuses_524 : decode cL_refuses 524 = .ok (.iconst (-1), 1) := by decide +kernel
theorem dL_refuses_525 : decode cL_refuses 525 = .ok (.iload_n 2, 1) := by decide +kernel
theorem dL_refuses_526 : decode cL_refuses 526 = .ok (.isub, 1) := by decide +kernel
theorem dL_refuses_527 : decode cL_refuses 527 = .ok (.goto 6, 3) := by decide +kernel
theorem dL_refuses_530 : decode cL_refuses 530 = .ok (.iconst 4, 1) := by decide +kernel
theorem dL_refuses_531 : decode cL_refuses 531 = .ok (.iload_n 2, 1) := by decide +kernel
theorem dL_refuses_532 : decode cL_refuses 532 = .ok (.iadd, 1) := by decide +kernel
theorem dL_refuses_533 : decode cL_refuses 533 = .ok (.iconst 0, 1) := by decide +kernel
theorem dL_refuses_534 : decode cL_refuses 534 = .ok (.invokestatic 121, 3) := by decide +kernel
theorem dL_refuses_537 : decode cL_refuses 537 = .ok (.ldc 18, 2) := by decide +kernel
theorem dL_refuses_539 : decode cL_refuses 539 = .ok (.if_icmp .ne 453, 3) := by decide +kernel
theorem dL_refuses_542 : decode cL_refuses 542 = .ok (.aload_n 0, 1) := by decide +kernel
theorem dL_refuses_543 : decode cL_refuses 543 = .ok (.iload 7, 2) := by decide +kernel
theorem dL_refuses_545 : decode cL_refuses 545 = .ok (.iconst 0, 1) := by decide +kernel
theorem dL_refuses_546 : decode cL_refuses 546 = .ok (.iconst 0, 1) := by decide +kernel
theorem dL_refuses_547 : decode cL_refuses 547 = .ok (.iload_n 3, 1) := by decide +kernel
theorem dL_refuses_548 : decode cL_refuses 548 = .ok (.ifCond .eq 9, 3) := by decide +kernel
theorem dL_refuses_551 : decode cL_refuses 551 = .ok (.iconst (-1), 1) := by decide +kernel
theorem dL_refuses_552 : decode cL_refuses 552 = .ok (.iload_n 2, 1) := by decide +kernel
theorem dL_refuses_553 : decode cL_refuses 553 = .ok (.isub, 1) := by decide +kernel
theorem dL_refuses_554 : decode cL_refuses 554 = .ok (.goto 8, 3) := by decide +kernel
theorem dL_refuses_557 : decode cL_refuses 557 = .ok (.sipush 10000, 3) := by decide +kernel
theorem dL_refuses_560 : decode cL_refuses 560 = .ok (.iload_n 2, 1) := by decide +kernel
theorem dL_refuses_561 : decode cL_refuses 561 = .ok (.iadd, 1) := by decide +kernel
theorem dL_refuses_562 : decode cL_refuses 562 = .ok (.invokestatic 121, 3) := by decide +kernel
theorem dL_refuses_565 : decode cL_refuses 565 = .ok (.ldc 18, 2) := by decide +kernel
theorem dL_refuses_567 : decode cL_refuses 567 = .ok (.if_icmp .ne 425, 3) := by decide +kernel
theorem dL_refuses_570 : decode cL_refuses 570 = .ok (.aload_n 0, 1) := by decide +kernel
theorem dL_refuses_571 : decode cL_refuses 571 = .ok (.iload 7, 2) := by decide +kernel
theorem dL_refuses_573 : decode cL_refuses 573 = .ok (.bipush 7, 2) := by decide +kernel
theorem dL_refuses_575 : decode cL_refuses 575 = .ok (.invokestatic 158, 3) := by decide +kernel
theorem dL_refuses_578 : decode cL_refuses 578 = .ok (.ifCond .eq 18, 3) := by decide +kernel
theorem dL_refuses_581 : decode cL_refuses 581 = .ok (.aload_n 0, 1) := by decide +kernel
theorem dL_refuses_582 : decode cL_refuses 582 = .ok (.iload 7, 2) := by decide +kernel
theorem dL_refuses_584 : decode cL_refuses 584 = .ok (.bipush 13, 2) := by decide +kernel
theorem dL_refuses_586 : decode cL_refuses 586 = .ok (.iconst 0, 1) := by decide +kernel
theorem dL_refuses_587 : decode cL_refuses 587 = .ok (.iconst 0, 1) := by decide +kernel
theorem dL_refuses_588 : decode cL_refuses 588 = .ok (.invokestatic 121, 3) := by decide +kernel
theorem dL_refuses_591 : decode cL_refuses 591 = .ok (.ldc 21, 2) := by decide +kernel
theorem dL_refuses_593 : decode cL_refuses 593 = .ok (.if_icmp .ne 399, 3) := by decide +kernel
theorem dL_refuses_596 : decode cL_refuses 596 = .ok (.aload_n 0, 1) := by decide +kernel
theorem dL_refuses_597 : decode cL_refuses 597 = .ok (.iload 7, 2) := by decide +kernel
theorem dL_refuses_599 : decode cL_refuses 599 = .ok (.iload_n 3, 1) := by decide +kernel
theorem dL_refuses_600 : decode cL_refuses 600 = .ok (.ifCond .eq 8, 3) := by decide +kernel
theorem dL_refuses_603 : decode cL_refuses 603 = .ok (.iload_n 2, 1) := by decide +kernel
theorem dL_refuses_604 : decode cL_refuses 604 = .ok (.ineg, 1) := by decide +kernel
theorem dL_refuses_605 : decode cL_refuses 605 = .ok (.goto 6, 3) := by decide +kernel
theorem dL_refuses_608 : decode cL_refuses 608 = .ok (.iconst 4, 1) := by decide +kernel
theorem dL_refuses_609 : decode cL_refuses 609 = .ok (.iload_n 2, 1) := by decide +kernel
theorem dL_refuses_610 : decode cL_refuses 610 = .ok (.iadd, 1) := by decide +kernel
theorem dL_refuses_611 : decode cL_refuses 611 = .ok (.invokestatic 128, 3) := by decide +kernel
theorem dL_refuses_614 : decode cL_refuses 614 = .ok (.ldc 18, 2) := by decide +kernel
theorem dL_refuses_616 : decode cL_refuses 616 = .ok (.if_icmp .ne 376, 3) := by decide +kernel
theorem dL_refuses_619 : decode cL_refuses 619 = .ok (.aload_n 0, 1) := by decide +kernel
theorem dL_refuses_620 : decode cL_refuses 620 = .ok (.iload 7, 2) := by decide +kernel
theorem dL_refuses_622 : decode cL_refuses 622 = .ok (.iload_n 3, 1) := by decide +kernel
theorem dL_refuses_623 : decode cL_refuses 623 = .ok (.ifCond .eq 9, 3) := by decide +kernel
theorem dL_refuses_626 : decode cL_refuses 626 = .ok (.iconst (-1), 1) := by decide +kernel
theorem dL_refuses_627 : decode cL_refuses 627 = .ok (.iload_n 2, 1) := by decide +kernel
theorem dL_refuses_628 : decode cL_refuses 628 = .ok (.isub, 1) := by decide +kernel
theorem dL_refuses_629 : decode cL_refuses 629 = .ok (.goto 8, 3) := by decide +kernel
theorem dL_refuses_632 : decode cL_refuses 632 = .ok (.sipush 10000, 3) := by decide +kernel
theorem dL_refuses_635 : decode cL_refuses 635 = .ok (.iload_n 2, 1) := by decide +kernel
theorem dL_refuses_636 : decode cL_refuses 636 = .ok (.iadd, 1) := by decide +kernel
theorem dL_refuses_637 : decode cL_refuses 637 = .ok (.invokestatic 131, 3) := by decide +kernel
theorem dL_refuses_640 : decode cL_refuses 640 = .ok (.ldc 18, 2) := by decide +kernel
theorem dL_refuses_642 : decode cL_refuses 642 = .ok (.if_icmp .ne 350, 3) := by decide +kernel
theorem dL_refuses_645 : decode cL_refuses 645 = .ok (.iload 9, 2) := by decide +kernel
theorem dL_refuses_647 : decode cL_refuses 647 = .ok (.iconst 2, 1) := by decide +kernel
theorem dL_refuses_648 : decode cL_refuses 648 = .ok (.if_icmp .lt 14, 3) := by decide +kernel
theorem dL_refuses_651 : decode cL_refuses 651 = .ok (.aload_n 0, 1) := by decide +kernel
theorem dL_refuses_652 : decode cL_refuses 652 = .ok (.iload 7, 2) := by decide +kernel
theorem dL_refuses_654 : decode cL_refuses 654 = .ok (.invokestatic 133, 3) := by decide +kernel
theorem dL_refuses_657 : decode cL_refuses 657 = .ok (.ldc 21, 2) := by decide +kernel
theorem dL_refuses_659 : decode cL_refuses 659 = .ok (.if_icmp .ne 333, 3) := by decide +kernel
theorem dL_refuses_662 : decode cL_refuses 662 = .ok (.iload 8, 2) := by decide +kernel
theorem dL_refuses_664 : decode cL_refuses 664 = .ok (.ifCond .eq 41, 3) := by decide +kernel
theorem dL_refuses_667 : decode cL_refuses 667 = .ok (.aload_n 0, 1) := by decide +kernel
theorem dL_refuses_668 : decode cL_refuses 668 = .ok (.iload 7, 2) := by decide +kernel
theorem dL_refuses_670 : decode cL_refuses 670 = .ok (.invokestatic 140, 3) := by decide +kernel
theorem dL_refuses_673 : decode cL_refuses 673 = .ok (.ldc 21, 2) := by decide +kernel
theorem dL_refuses_675 : decode cL_refuses 675 = .ok (.if_icmp .ne 317, 3) := by decide +kernel
theorem dL_refuses_678 : decode cL_refuses 678 = .ok (.aload_n 0, 1) := by decide +kernel
theorem dL_refuses_679 : decode cL_refuses 679 = .ok (.iload 7, 2) := by decide +kernel
theorem dL_refuses_681 : decode cL_refuses 681 = .ok (.iload_n 3, 1) := by decide +kernel
theorem dL_refuses_682 : decode cL_refuses 682 = .ok (.ifCond .eq 8, 3) := by decide +kernel
theorem dL_refuses_685 : decode cL_refuses 685 = .ok (.iload_n 2, 1) := by decide +kernel
theorem dL_refuses_686 : decode cL_refuses 686 = .ok (.ineg, 1) := by decide +kernel
theorem dL_refuses_687 : decode cL_refuses 687 = .ok (.goto 7, 3) := by decide +kernel
theorem dL_refuses_690 : decode cL_refuses 690 = .ok (.bipush 9, 2) := by decide +kernel
theorem dL_refuses_692 : decode cL_refuses 692 = .ok (.iload_n 2, 1) := by decide +kernel
theorem dL_refuses_693 : decode cL_refuses 693 = .ok (.iadd, 1) := by decide +kernel
theorem dL_refuses_694 : decode cL_refuses 694 = .ok (.invokestatic 142, 3) := by decide +kernel
theorem dL_refuses_697 : decode cL_refuses 697 = .ok (.ldc 18, 2) := by decide +kernel
theorem dL_refuses_699 : decode cL_refuses 699 = .ok (.if_icmp .ne 293, 3) := by decide +kernel
theorem dL_refuses_702 : decode cL_refuses 702 = .ok (.goto 27, 3) := by decide +kernel
theorem dL_refuses_705 : decode cL_refuses 705 = .ok (.aload_n 0, 1) := by decide +kernel
theorem dL_refuses_706 : decode cL_refuses 706 = .ok (.iload 7, 2) := by decide +kernel
theorem dL_refuses_708 : decode cL_refuses 708 = .ok (.iconst 1, 1) := by decide +kernel
theorem dL_refuses_709 : decode cL_refuses 709 = .ok (.invokestatic 142, 3) := by decide +kernel
theorem dL_refuses_712 : decode cL_refuses 712 = .ok (.ldc 21, 2) := by decide +kernel
theorem dL_refuses_714 : decode cL_refuses 714 = .ok (.if_icmp .ne 278, 3) := by decide +kernel
theorem dL_refuses_717 : decode cL_refuses 717 = .ok (.aload_n 0, 1) := by decide +kernel
theorem dL_refuses_718 : decode cL_refuses 718 = .ok (.iload 7, 2) := by decide +kernel
theorem dL_refuses_720 : decode cL_refuses 720 = .ok (.iload_n 3, 1) := by decide +kernel
theorem dL_refuses_721 : decode cL_refuses 721 = .ok (.invokestatic 144, 3) := by decide +kernel
theorem dL_refuses_724 : decode cL_refuses 724 = .ok (.ldc 21, 2) := by decide +kernel
theorem dL_refuses_726 : decode cL_refuses 726 = .ok (.if_icmp .ne 266, 3) := by decide +kernel
theorem dL_refuses_729 : decode cL_refuses 729 = .ok (.iload 9, 2) := by decide +kernel
theorem dL_refuses_731 : decode cL_refuses 731 = .ok (.iconst 3, 1) := by decide +kernel
theorem dL_refuses_732 : decode cL_refuses 732 = .ok (.if_icmp .ne 26, 3) := by decide +kernel
theorem dL_refuses_735 : decode cL_refuses 735 = .ok (.aload_n 0, 1) := by decide +kernel
theorem dL_refuses_736 : decode cL_refuses 736 = .ok (.iload 7, 2) := by decide +kernel
theorem dL_refuses_738 : decode cL_refuses 738 = .ok (.invokestatic 146, 3) := by decide +kernel
theorem dL_refuses_741 : decode cL_refuses 741 = .ok (.ldc 21, 2) := by decide +kernel
theorem dL_refuses_743 : decode cL_refuses 743 = .ok (.if_icmp .ne 249, 3) := by decide +kernel
theorem dL_refuses_746 : decode cL_refuses 746 = .ok (.aload_n 0, 1) := by decide +kernel
theorem dL_refuses_747 : decode cL_refuses 747 = .ok (.iload 7, 2) := by decide +kernel
theorem dL_refuses_749 : decode cL_refuses 749 = .ok (.iload_n 3, 1) := by decide +kernel
theorem dL_refuses_750 : decode cL_refuses 750 = .ok (.invokestatic 150, 3) := by decide +kernel
theorem dL_refuses_753 : decode cL_refuses 753 = .ok (.ldc 21, 2) := by decide +kernel
theorem dL_refuses_755 : decode cL_refuses 755 = .ok (.if_icmp .ne 237, 3) := by decide +kernel
theorem dL_refuses_758 : decode cL_refuses 758 = .ok (.aload_n 0, 1) := by decide +kernel
theorem dL_refuses_759 : decode cL_refuses 759 = .ok (.iload 7, 2) := by decide +kernel
theorem dL_refuses_761 : decode cL_refuses 761 = .ok (.iload_n 3, 1) := by decide +kernel
theorem dL_refuses_762 : decode cL_refuses 762 = .ok (.ifCond .eq 9, 3) := by decide +kernel
theorem dL_refuses_765 : decode cL_refuses 765 = .ok (.iconst (-1), 1) := by decide +kernel
theorem dL_refuses_766 : decode cL_refuses 766 = .ok (.iload_n 2, 1) := by decide +kernel
theorem dL_refuses_767 : decode cL_refuses 767 = .ok (.isub, 1) := by decide +kernel
theorem dL_refuses_768 : decode cL_refuses 768 = .ok (.goto 8, 3) := by decide +kernel
theorem dL_refuses_771 : decode cL_refuses 771 = .ok (.aload_n 1, 1) := by decide +kernel
theorem dL_refuses_772 : decode cL_refuses 772 = .ok (.iconst 1, 1) := by decide +kernel
theorem dL_refuses_773 : decode cL_refuses 773 = .ok (.iaload, 1) := by decide +kernel
theorem dL_refuses_774 : decode cL_refuses 774 = .ok (.iload_n 2, 1) := by decide +kernel
theorem dL_refuses_775 : decode cL_refuses 775 = .ok (.iadd, 1) := by decide +kernel
theorem dL_refuses_776 : decode cL_refuses 776 = .ok (.invokestatic 148, 3) := by decide +kernel
theorem dL_refuses_779 : decode cL_refuses 779 = .ok (.ldc 15, 2) := by decide +kernel
theorem dL_refuses_781 : decode cL_refuses 781 = .ok (.if_icmp .ne 211, 3) := by decide +kernel
theorem dL_refuses_784 : decode cL_refuses 784 = .ok (.aload_n 0, 1) := by decide +kernel
theorem dL_refuses_785 : decode cL_refuses 785 = .ok (.iload 7, 2) := by decide +kernel
theorem dL_refuses_787 : decode cL_refuses 787 = .ok (.iload_n 3, 1) := by decide +kernel
theorem dL_refuses_788 : decode cL_refuses 788 = .ok (.ifCond .eq 9, 3) := by decide +kernel
theorem dL_refuses_791 : decode cL_refuses 791 = .ok (.iconst (-1), 1) := by decide +kernel
theorem dL_refuses_792 : decode cL_refuses 792 = .ok (.iload_n 2, 1) := by decide +kernel
theorem dL_refuses_793 : decode cL_refuses 793 = .ok (.isub, 1) := by decide +kernel
theorem dL_refuses_794 : decode cL_refuses 794 = .ok (.goto 7, 3) := by decide +kernel
theorem dL_refuses_797 : decode cL_refuses 797 = .ok (.bipush 11, 2) := by decide +kernel
theorem dL_refuses_799 : decode cL_refuses 799 = .ok (.iload_n 2, 1) := by decide +kernel
theorem dL_refuses_800 : decode cL_refuses 800 = .ok (.iadd, 1) := by decide +kernel
theorem dL_refuses_801 : decode cL_refuses 801 = .ok (.invokestatic 158, 3) := by decide +kernel
theorem dL_refuses_804 : decode cL_refuses 804 = .ok (.ldc 18, 2) := by decide +kernel
theorem dL_refuses_806 : decode cL_refuses 806 = .ok (.if_icmp .ne 186, 3) := by decide +kernel
theorem dL_refuses_809 : decode cL_refuses 809 = .ok (.aload_n 0, 1) := by decide +kernel
theorem dL_refuses_810 : decode cL_refuses 810 = .ok (.iload 7, 2) := by decide +kernel
theorem dL_refuses_812 : decode cL_refuses 812 = .ok (.iload_n 3, 1) := by decide +kernel
theorem dL_refuses_813 : decode cL_refuses 813 = .ok (.ifCond .eq 9, 3) := by decide +kernel
theorem dL_refuses_816 : decode cL_refuses 816 = .ok (.iconst (-1), 1) := by decide +kernel
theorem dL_refuses_817 : decode cL_refuses 817 = .ok (.iload_n 2, 1) := by decide +kernel
theorem dL_refuses_818 : decode cL_refuses 818 = .ok (.isub, 1) := by decide +kernel
theorem dL_refuses_819 : decode cL_refuses 819 = .ok (.goto 6, 3) := by decide +kernel
theorem dL_refuses_822 : decode cL_refuses 822 = .ok (.iconst 4, 1) := by decide +kernel
theorem dL_refuses_823 : decode cL_refuses 823 = .ok (.iload_n 2, 1) := by decide +kernel
theorem dL_refuses_824 : decode cL_refuses 824 = .ok (.iadd, 1) := by decide +kernel
theorem dL_refuses_825 : decode cL_refuses 825 = .ok (.invokestatic 160, 3) := by decide +kernel
theorem dL_refuses_828 : decode cL_refuses 828 = .ok (.ldc 15, 2) := by decide +kernel
theorem dL_refuses_830 : decode cL_refuses 830 = .ok (.if_icmp .ne 162, 3) := by decide +kernel
theorem dL_refuses_833 : decode cL_refuses 833 = .ok (.aload_n 0, 1) := by decide +kernel
theorem dL_refuses_834 : decode cL_refuses 834 = .ok (.iload 7, 2) := by decide +kernel
theorem dL_refuses_836 : decode cL_refuses 836 = .ok (.iload_n 3, 1) := by decide +kernel
theorem dL_refuses_837 : decode cL_refuses 837 = .ok (.ifCond .eq 9, 3) := by decide +kernel
theorem dL_refuses_840 : decode cL_refuses 840 = .ok (.iconst (-1), 1) := by decide +kernel
theorem dL_refuses_841 : decode cL_refuses 841 = .ok (.iload_n 2, 1) := by decide +kernel
theorem dL_refuses_842 : decode cL_refuses 842 = .ok (.isub, 1) := by decide +kernel
theorem dL_refuses_843 : decode cL_refuses 843 = .ok (.goto 7, 3) := by decide +kernel
theorem dL_refuses_846 : decode cL_refuses 846 = .ok (.bipush 8, 2) := by decide +kernel
theorem dL_refuses_848 : decode cL_refuses 848 = .ok (.iload_n 2, 1) := by decide +kernel
theorem dL_refuses_849 : decode cL_refuses 849 = .ok (.iadd, 1) := by decide +kernel
theorem dL_refuses_850 : decode cL_refuses 850 = .ok (.iconst 0, 1) := by decide +kernel
theorem dL_refuses_851 : decode cL_refuses 851 = .ok (.invokestatic 162, 3) := by decide +kernel
theorem dL_refuses_854 : decode cL_refuses 854 = .ok (.ldc 15, 2) := by decide +kernel
theorem dL_refuses_856 : decode cL_refuses 856 = .ok (.if_icmp .ne 136, 3) := by decide +kernel
theorem dL_refuses_859 : decode cL_refuses 859 = .ok (.aload_n 0, 1) := by decide +kernel
theorem dL_refuses_860 : decode cL_refuses 860 = .ok (.iload 7, 2) := by decide +kernel
theorem dL_refuses_862 : decode cL_refuses 862 = .ok (.iconst 0, 1) := by decide +kernel
theorem dL_refuses_863 : decode cL_refuses 863 = .ok (.iload_n 3, 1) := by decide +kernel
theorem dL_refuses_864 : decode cL_refuses 864 = .ok (.ifCond .eq 9, 3) := by decide +kernel
theorem dL_refuses_867 : decode cL_refuses 867 = .ok (.iconst (-1), 1) := by decide +kernel
theorem dL_refuses_868 : decode cL_refuses 868 = .ok (.iload_n 2, 1) := by decide +kernel
theorem dL_refuses_869 : decode cL_refuses 869 = .ok (.isub, 1) := by decide +kernel
theorem dL_refuses_870 : decode cL_refuses 870 = .ok (.goto 6, 3) := by decide +kernel
theorem dL_refuses_873 : decode cL_refuses 873 = .ok (.iconst 4, 1) := by decide +kernel
theorem dL_refuses_874 : decode cL_refuses 874 = .ok (.iload_n 2, 1) := by decide +kernel
theorem dL_refuses_875 : decode cL_refuses 875 = .ok (.iadd, 1) := by decide +kernel
theorem dL_refuses_876 : decode cL_refuses 876 = .ok (.invokestatic 162, 3) := by decide +kernel
theorem dL_refuses_879 : decode cL_refuses 879 = .ok (.ldc 15, 2) := by decide +kernel
theorem dL_refuses_881 : decode cL_refuses 881 = .ok (.if_icmp .ne 111, 3) := by decide +kernel
theorem dL_refuses_884 : decode cL_refuses 884 = .ok (.aload_n 0, 1) := by decide +kernel
theorem dL_refuses_885 : decode cL_refuses 885 = .ok (.iload 7, 2) := by decide +kernel
theorem dL_refuses_887 : decode cL_refuses 887 = .ok (.iload_n 3, 1) := by decide +kernel
theorem dL_refuses_888 : decode cL_refuses 888 = .ok (.ifCond .eq 9, 3) := by decide +kernel
theorem dL_refuses_891 : decode cL_refuses 891 = .ok (.iconst (-1), 1) := by decide +kernel
theorem dL_refuses_892 : decode cL_refuses 892 = .ok (.iload_n 2, 1) := by decide +kernel
theorem dL_refuses_893 : decode cL_refuses 893 = .ok (.isub, 1) := by decide +kernel
theorem dL_refuses_894 : decode cL_refuses 894 = .ok (.goto 7, 3) := by decide +kernel
theorem dL_refuses_897 : decode cL_refuses 897 = .ok (.bipush 8, 2) := by decide +kernel
theorem dL_refuses_899 : decode cL_refuses 899 = .ok (.iload_n 2, 1) := by decide +kernel
theorem dL_refuses_900 : decode cL_refuses 900 = .ok (.iadd, 1) := by decide +kernel
theorem dL_refuses_901 : decode cL_refuses 901 = .ok (.invokestatic 165, 3) := by decide +kernel
theorem dL_refuses_904 : decode cL_refuses 904 = .ok (.ldc 15, 2) := by decide +kernel
theorem dL_refuses_906 : decode cL_refuses 906 = .ok (.if_icmp .ne 86, 3) := by decide +kernel
theorem dL_refuses_909 : decode cL_refuses 909 = .ok (.aload_n 0, 1) := by decide +kernel
theorem dL_refuses_910 : decode cL_refuses 910 = .ok (.iload 7, 2) := by decide +kernel
theorem dL_refuses_912 : decode cL_refuses 912 = .ok (.iload_n 3, 1) := by decide +kernel
theorem dL_refuses_913 : decode cL_refuses 913 = .ok (.ifCond .eq 9, 3) := by decide +kernel
theorem dL_refuses_916 : decode cL_refuses 916 = .ok (.iconst (-1), 1) := by decide +kernel
theorem dL_refuses_917 : decode cL_refuses 917 = .ok (.iload_n 2, 1) := by decide +kernel
theorem dL_refuses_918 : decode cL_refuses 918 = .ok (.isub, 1) := by decide +kernel
theorem dL_refuses_919 : decode cL_refuses 919 = .ok (.goto 7, 3) := by decide +kernel
theorem dL_refuses_922 : decode cL_refuses 922 = .ok (.bipush 8, 2) := by decide +kernel
theorem dL_refuses_924 : decode cL_refuses 924 = .ok (.iload_n 2, 1) := by decide +kernel
theorem dL_refuses_925 : decode cL_refuses 925 = .ok (.iadd, 1) := by decide +kernel
theorem dL_refuses_926 : decode cL_refuses 926 = .ok (.invokestatic 167, 3) := by decide +kernel
theorem dL_refuses_929 : decode cL_refuses 929 = .ok (.ldc 15, 2) := by decide +kernel
theorem dL_refuses_931 : decode cL_refuses 931 = .ok (.if_icmp .ne 61, 3) := by decide +kernel
theorem dL_refuses_934 : decode cL_refuses 934 = .ok (.aload_n 0, 1) := by decide +kernel
theorem dL_refuses_935 : decode cL_refuses 935 = .ok (.iload 7, 2) := by decide +kernel
theorem dL_refuses_937 : decode cL_refuses 937 = .ok (.iload_n 3, 1) := by decide +kernel
theorem dL_refuses_938 : decode cL_refuses 938 = .ok (.ifCond .eq 9, 3) := by decide +kernel
theorem dL_refuses_941 : decode cL_refuses 941 = .ok (.iconst (-1), 1) := by decide +kernel
theorem dL_refuses_942 : decode cL_refuses 942 = .ok (.iload_n 2, 1) := by decide +kernel
theorem dL_refuses_943 : decode cL_refuses 943 = .ok (.isub, 1) := by decide +kernel
theorem dL_refuses_944 : decode cL_refuses 944 = .ok (.goto 7, 3) := by decide +kernel
theorem dL_refuses_947 : decode cL_refuses 947 = .ok (.bipush 6, 2) := by decide +kernel
theorem dL_refuses_949 : decode cL_refuses 949 = .ok (.iload_n 2, 1) := by decide +kernel
theorem dL_refuses_950 : decode cL_refuses 950 = .ok (.iadd, 1) := by decide +kernel
theorem dL_refuses_951 : decode cL_refuses 951 = .ok (.invokestatic 171, 3) := by decide +kernel
theorem dL_refuses_954 : decode cL_refuses 954 = .ok (.ldc 18, 2) := by decide +kernel
theorem dL_refuses_956 : decode cL_refuses 956 = .ok (.if_icmp .ne 36, 3) := by decide +kernel
theorem dL_refuses_959 : decode cL_refuses 959 = .ok (.aload_n 0, 1) := by decide +kernel
theorem dL_refuses_960 : decode cL_refuses 960 = .ok (.iload 7, 2) := by decide +kernel
theorem dL_refuses_962 : decode cL_refuses 962 = .ok (.iload_n 3, 1) := by decide +kernel
theorem dL_refuses_963 : decode cL_refuses 963 = .ok (.ifCond .eq 9, 3) := by decide +kernel
theorem dL_refuses_966 : decode cL_refuses 966 = .ok (.iconst (-1), 1) := by decide +kernel
theorem dL_refuses_967 : decode cL_refuses 967 = .ok (.iload_n 2, 1) := by decide +kernel
theorem dL_refuses_968 : decode cL_refuses 968 = .ok (.isub, 1) := by decide +kernel
theorem dL_refuses_969 : decode cL_refuses 969 = .ok (.goto 11, 3) := by decide +kernel
theorem dL_refuses_972 : decode cL_refuses 972 = .ok (.aload_n 0, 1) := by decide +kernel
theorem dL_refuses_973 : decode cL_refuses 973 = .ok (.iload 7, 2) := by decide +kernel
theorem dL_refuses_975 : decode cL_refuses 975 = .ok (.invokestatic 173, 3) := by decide +kernel
theorem dL_refuses_978 : decode cL_refuses 978 = .ok (.iload_n 2, 1) := by decide +kernel
theorem dL_refuses_979 : decode cL_refuses 979 = .ok (.iadd, 1) := by decide +kernel
theorem dL_refuses_980 : decode cL_refuses 980 = .ok (.invokestatic 175, 3) := by decide +kernel
theorem dL_refuses_983 : decode cL_refuses 983 = .ok (.ldc 15, 2) := by decide +kernel
theorem dL_refuses_985 : decode cL_refuses 985 = .ok (.if_icmp .ne 7, 3) := by decide +kernel
theorem dL_refuses_988 : decode cL_refuses 988 = .ok (.iconst 1, 1) := by decide +kernel
theorem dL_refuses_989 : decode cL_refuses 989 = .ok (.goto 4, 3) := by decide +kernel
theorem dL_refuses_992 : decode cL_refuses 992 = .ok (.iconst 0, 1) := by decide +kernel
theorem dL_refuses_993 : decode cL_refuses 993 = .ok (.ireturn, 1) := by decide +kernel
theorem dL_opBy_0 : decode cL_opBy 0 = .ok (.iload_n 2, 1) := by decide +kernel
theorem dL_opBy_1 : decode cL_opBy 1 = .ok (.bipush 7, 2) := by decide +kernel
theorem dL_opBy_3 : decode cL_opBy 3 = .ok (.irem, 1) := by decide +kernel
theorem dL_opBy_4 : decode cL_opBy 4 = .ok (.ifCond .ne 13, 3) := by decide +kernel
theorem dL_opBy_7 : decode cL_opBy 7 = .ok (.iload_n 2, 1) := by decide +kernel
theorem dL_opBy_8 : decode cL_opBy 8 = .ok (.bipush 7, 2) := by decide +kernel
theorem dL_opBy_10 : decode cL_opBy 10 = .ok (.idiv, 1) := by decide +kernel
theorem dL_opBy_11 : decode cL_opBy 11 = .ok (.bipush 14, 2) := by decide +kernel
theorem dL_opBy_13 : decode cL_opBy 13 = .ok (.irem, 1) := by decide +kernel
theorem dL_opBy_14 : decode cL_opBy 14 = .ok (.goto 53, 3) := by decide +kernel
theorem dL_opBy_17 : decode cL_opBy 17 = .ok (.iload_n 2, 1) := by decide +kernel
theorem dL_opBy_18 : decode cL_opBy 18 = .ok (.bipush 7, 2) := by decide +kernel
theorem dL_opBy_20 : decode cL_opBy 20 = .ok (.irem, 1) := by decide +kernel
theorem dL_opBy_21 : decode cL_opBy 21 = .ok (.iconst 3, 1) := by decide +kernel
theorem dL_opBy_22 : decode cL_opBy 22 = .ok (.if_icmp .ge 7, 3) := by decide +kernel
theorem dL_opBy_25 : decode cL_opBy 25 = .ok (.iconst 0, 1) := by decide +kernel
theorem dL_opBy_26 : decode cL_opBy 26 = .ok (.goto 41, 3) := by decide +kernel
theorem dL_opBy_29 : decode cL_opBy 29 = .ok (.iload_n 2, 1) := by decide +kernel
theorem dL_opBy_30 : decode cL_opBy 30 = .ok (.bipush 7, 2) := by decide +kernel
theorem dL_opBy_32 : decode cL_opBy 32 = .ok (.irem, 1) := by decide +kernel
theorem dL_opBy_33 : decode cL_opBy 33 = .ok (.iconst 3, 1) := by decide +kernel
theorem dL_opBy_34 : decode cL_opBy 34 = .ok (.if_icmp .ne 7, 3) := by decide +kernel
theorem dL_opBy_37 : decode cL_opBy 37 = .ok (.iconst 3, 1) := by decide +kernel
theorem dL_opBy_38 : decode cL_opBy 38 = .ok (.goto 29, 3) := by decide +kernel
theorem dL_opBy_41 : decode cL_opBy 41 = .ok (.iload_n 2, 1) := by decide +kernel
theorem dL_opBy_42 : decode cL_opBy 42 = .ok (.bipush 7, 2) := by decide +kernel
theorem dL_opBy_44 : decode cL_opBy 44 = .ok (.irem, 1) := by decide +kernel
theorem dL_opBy_45 : decode cL_opBy 45 = .ok (.iconst 4, 1) := by decide +kernel
theorem dL_opBy_46 : decode cL_opBy 46 = .ok (.if_icmp .ne 7, 3) := by decide +kernel
theorem dL_opBy_49 : decode cL_opBy 49 = .ok (.iconst 2, 1) := by decide +kernel
theorem dL_opBy_50 : decode cL_opBy 50 = .ok (.goto 17, 3) := by decide +kernel
theorem dL_opBy_53 : decode cL_opBy 53 = .ok (.iload_n 2, 1) := by decide +kernel
theorem dL_opBy_54 : decode cL_opBy 54 = .ok (.bipush 7, 2) := by decide +kernel
theorem dL_opBy_56 : decode cL_opBy 56 = .ok (.irem, 1) := by decide +kernel
theorem dL_opBy_57 : decode cL_opBy 57 = .ok (.iconst 5, 1) := by decide +kernel
theorem dL_opBy_58 : decode cL_opBy 58 = .ok (.if_icmp .ne 7, 3) := by decide +kernel
theorem dL_opBy_61 : decode cL_opBy 61 = .ok (.iconst 4, 1) := by decide +kernel
theorem dL_opBy_62 : decode cL_opBy 62 = .ok (.goto 5, 3) := by decide +kernel
theorem dL_opBy_65 : decode cL_opBy 65 = .ok (.bipush 6, 2) := by decide +kernel
theorem dL_opBy_67 : decode cL_opBy 67 = .ok (.istore_n 3, 1) := by decide +kernel
theorem dL_opBy_68 : decode cL_opBy 68 = .ok (.iload_n 2, 1) := by decide +kernel
theorem dL_opBy_69 : decode cL_opBy 69 = .ok (.bipush 98, 2) := by decide +kernel
theorem dL_opBy_71 : decode cL_opBy 71 = .ok (.idiv, 1) := by decide +kernel
theorem dL_opBy_72 : decode cL_opBy 72 = .ok (.istore 4, 2) := by decide +kernel
theorem dL_opBy_74 : decode cL_opBy 74 = .ok (.iload_n 3, 1) := by decide +kernel
theorem dL_opBy_75 : decode cL_opBy 75 = .ok (.ifCond .ne 11, 3) := by decide +kernel
theorem dL_opBy_78 : decode cL_opBy 78 = .ok (.iload 4, 2) := by decide +kernel
theorem dL_opBy_80 : decode cL_opBy 80 = .ok (.bipush 33, 2) := by decide +kernel
theorem dL_opBy_82 : decode cL_opBy 82 = .ok (.irem, 1) := by decide +kernel
theorem dL_opBy_83 : decode cL_opBy 83 = .ok (.goto 86, 3) := by decide +kernel
theorem dL_opBy_86 : decode cL_opBy 86 = .ok (.iload_n 3, 1) := by decide +kernel
theorem dL_opBy_87 : decode cL_opBy 87 = .ok (.iconst 3, 1) := by decide +kernel
theorem dL_opBy_88 : decode cL_opBy 88 = .ok (.if_icmp .gt 10, 3) := by decide +kernel
theorem dL_opBy_91 : decode cL_opBy 91 = .ok (.iload 4, 2) := by decide +kernel
theorem dL_opBy_93 : decode cL_opBy 93 = .ok (.iconst 4, 1) := by decide +kernel
theorem dL_opBy_94 : decode cL_opBy 94 = .ok (.irem, 1) := by decide +kernel
theorem dL_opBy_95 : decode cL_opBy 95 = .ok (.goto 74, 3) := by decide +kernel
theorem dL_opBy_98 : decode cL_opBy 98 = .ok (.iload_n 3, 1) := by decide +kernel
theorem dL_opBy_99 : decode cL_opBy 99 = .ok (.iconst 4, 1) := by decide +kernel
theorem dL_opBy_100 : decode cL_opBy 100 = .ok (.if_icmp .eq 9, 3) := by decide +kernel
theorem dL_opBy_103 : decode cL_opBy 103 = .ok (.iload_n 3, 1) := by decide +kernel
theorem dL_opBy_104 : decode cL_opBy 104 = .ok (.bipush 9, 2) := by decide +kernel
theorem dL_opBy_106 : decode cL_opBy 106 = .ok (.if_icmp .ne 11, 3) := by decide +kernel
theorem dL_opBy_109 : decode cL_opBy 109 = .ok (.iload 4, 2) := by decide +kernel
theorem dL_opBy_111 : decode cL_opBy 111 = .ok (.bipush 12, 2) := by decide +kernel
theorem dL_opBy_113 : decode cL_opBy 113 = .ok (.irem, 1) := by decide +kernel
theorem dL_opBy_114 : decode cL_opBy 114 = .ok (.goto 55, 3) := by decide +kernel
theorem dL_opBy_117 : decode cL_opBy 117 = .ok (.iload_n 3, 1) := by decide +kernel
theorem dL_opBy_118 : decode cL_opBy 118 = .ok (.iconst 5, 1) := by decide +kernel
theorem dL_opBy_119 : decode cL_opBy 119 = .ok (.if_icmp .ne 11, 3) := by decide +kernel
theorem dL_opBy_122 : decode cL_opBy 122 = .ok (.iload 4, 2) := by decide +kernel
theorem dL_opBy_124 : decode cL_opBy 124 = .ok (.bipush 9, 2) := by decide +kernel
theorem dL_opBy_126 : decode cL_opBy 126 = .ok (.irem, 1) := by decide +kernel
theorem dL_opBy_127 : decode cL_opBy 127 = .ok (.goto 42, 3) := by decide +kernel
theorem dL_opBy_130 : decode cL_opBy 130 = .ok (.iload_n 3, 1) := by decide +kernel
theorem dL_opBy_131 : decode cL_opBy 131 = .ok (.bipush 6, 2) := by decide +kernel
theorem dL_opBy_133 : decode cL_opBy 133 = .ok (.if_icmp .eq 9, 3) := by decide +kernel
theorem dL_opBy_136 : decode cL_opBy 136 = .ok (.iload_n 3, 1) := by decide +kernel
theorem dL_opBy_137 : decode cL_opBy 137 = .ok (.bipush 10, 2) := by decide +kernel
theorem dL_opBy_139 : decode cL_opBy 139 = .ok (.if_icmp .ne 12, 3) := by decide +kernel
theorem dL_opBy_142 : decode cL_opBy 142 = .ok (.iload 4, 2) := by decide +kernel
theorem dL_opBy_144 : decode cL_opBy 144 = .ok (.iconst 5, 1) := by decide +kernel
theorem dL_opBy_145 : decode cL_opBy 145 = .ok (.idiv, 1) := by decide +kernel
theorem dL_opBy_146 : decode cL_opBy 146 = .ok (.iconst 2, 1) := by decide +kernel
theorem dL_opBy_147 : decode cL_opBy 147 = .ok (.irem, 1) := by decide +kernel
theorem dL_opBy_148 : decode cL_opBy 148 = .ok (.goto 21, 3) := by decide +kernel
theorem dL_opBy_151 : decode cL_opBy 151 = .ok (.iload_n 3, 1) := by decide +kernel
theorem dL_opBy_152 : decode cL_opBy 152 = .ok (.bipush 7, 2) := by decide +kernel
theorem dL_opBy_154 : decode cL_opBy 154 = .ok (.if_icmp .ne 10, 3) := by decide +kernel
theorem dL_opBy_157 : decode cL_opBy 157 = .ok (.iload 4, 2) := by decide +kernel
theorem dL_opBy_159 : decode cL_opBy 159 = .ok (.iconst 3, 1) := by decide +kernel
theorem dL_opBy_160 : decode cL_opBy 160 = .ok (.irem, 1) := by decide +kernel
theorem dL_opBy_161 : decode cL_opBy 161 = .ok (.goto 8, 3) := by decide +kernel
theorem dL_opBy_164 : decode cL_opBy 164 = .ok (.iload 4, 2) := by decide +kernel
theorem dL_opBy_166 : decode cL_opBy 166 = .ok (.bipush 8, 2) := by decide +kernel
theorem dL_opBy_168 : decode cL_opBy 168 = .ok (.irem, 1) := by decide +kernel
theorem dL_opBy_169 : decode cL_opBy 169 = .ok (.istore 5, 2) := by decide +kernel
theorem dL_opBy_171 : decode cL_opBy 171 = .ok (.aload_n 0, 1) := by decide +kernel
theorem dL_opBy_172 : decode cL_opBy 172 = .ok (.iload_n 1, 1) := by decide +kernel
theorem dL_opBy_173 : decode cL_opBy 173 = .ok (.iload_n 3, 1) := by decide +kernel
theorem dL_opBy_174 : decode cL_opBy 174 = .ok (.iload_n 3, 1) := by decide +kernel
theorem dL_opBy_175 : decode cL_opBy 175 = .ok (.iconst 5, 1) := by decide +kernel
theorem dL_opBy_176 : decode cL_opBy 176 = .ok (.if_icmp .ne 13, 3) := by decide +kernel
theorem dL_opBy_179 : decode cL_opBy 179 = .ok (.iload_n 2, 1) := by decide +kernel
theorem dL_opBy_180 : decode cL_opBy 180 = .ok (.bipush 7, 2) := by decide +kernel
theorem dL_opBy_182 : decode cL_opBy 182 = .ok (.idiv, 1) := by decide +kernel
theorem dL_opBy_183 : decode cL_opBy 183 = .ok (.bipush 8, 2) := by decide +kernel
theorem dL_opBy_185 : decode cL_opBy 185 = .ok (.irem, 1) := by decide +kernel
theorem dL_opBy_186 : decode cL_opBy 186 = .ok (.goto 9, 3) := by decide +kernel
theorem dL_opBy_189 : decode cL_opBy 189 = .ok (.iload_n 2, 1) := by decide +kernel
theorem dL_opBy_190 : decode cL_opBy 190 = .ok (.bipush 14, 2) := by decide +kernel
theorem dL_opBy_192 : decode cL_opBy 192 = .ok (.idiv, 1) := by decide +kernel
theorem dL_opBy_193 : decode cL_opBy 193 = .ok (.iconst 4, 1) := by decide +kernel
theorem dL_opBy_194 : decode cL_opBy 194 = .ok (.irem, 1) := by decide +kernel
theorem dL_opBy_195 : decode cL_opBy 195 = .ok (.iload 5, 2) := by decide +kernel
theorem dL_opBy_197 : decode cL_opBy 197 = .ok (.invokestatic 121, 3) := by decide +kernel
theorem dL_opBy_200 : decode cL_opBy 200 = .ok (.ireturn, 1) := by decide +kernel
theorem dL_act_0 : decode cL_act 0 = .ok (.iload_n 1, 1) := by decide +kernel
theorem dL_act_1 : decode cL_act 1 = .ok (.bipush 20, 2) := by decide +kernel
theorem dL_act_3 : decode cL_act 3 = .ok (.idiv, 1) := by decide +kernel
theorem dL_act_4 : decode cL_act 4 = .ok (.istore_n 2, 1) := by decide +kernel
theorem dL_act_5 : decode cL_act 5 = .ok (.iload_n 2, 1) := by decide +kernel
theorem dL_act_6 : decode cL_act 6 = .ok (.iconst 4, 1) := by decide +kernel
theorem dL_act_7 : decode cL_act 7 = .ok (.irem, 1) := by decide +kernel
theorem dL_act_8 : decode cL_act 8 = .ok (.istore_n 3, 1) := by decide +kernel
theorem dL_act_9 : decode cL_act 9 = .ok (.iload_n 1, 1) := by decide +kernel
theorem dL_act_10 : decode cL_act 10 = .ok (.bipush 20, 2) := by decide +kernel
theorem dL_act_12 : decode cL_act 12 = .ok (.irem, 1) := by decide +kernel
theorem dL_act_13 : decode cL_act 13 = .ok (.tableswitch 345 0 18 #[91, 91, 162, 179, 192, 192, 205, 211, 211, 211, 232, 240, 246, 260, 279, 285, 296, 315, 321], 91) := by decide +kernel
theorem dL_act_104 : decode cL_act 104 = .ok (.aload_n 0, 1) := by decide +kernel
theorem dL_act_105 : decode cL_act 105 = .ok (.iload_n 2, 1) := by decide +kernel
theorem dL_act_106 : decode cL_act 106 = .ok (.iconst 2, 1) := by decide +kernel
theorem dL_act_107 : decode cL_act 107 = .ok (.irem, 1) := by decide +kernel
theorem dL_act_108 : decode cL_act 108 = .ok (.iconst 1, 1) := by decide +kernel
theorem dL_act_109 : decode cL_act 109 = .ok (.iload_n 2, 1) := by decide +kernel
theorem dL_act_110 : decode cL_act 110 = .ok (.iconst 2, 1) := by decide +kernel
theorem dL_act_111 : decode cL_act 111 = .ok (.idiv, 1) := by decide +kernel
theorem dL_act_112 : decode cL_act 112 = .ok (.iconst 4, 1) := by decide +kernel
theorem dL_act_113 : decode cL_act 113 = .ok (.irem, 1) := by decide +kernel
theorem dL_act_114 : decode cL_act 114 = .ok (.iadd, 1) := by decide +kernel
theorem dL_act_115 : decode cL_act 115 = .ok (.iload_n 2, 1) := by decide +kernel
theorem dL_act_116 : decode cL_act 116 = .ok (.bipush 7, 2) := by decide +kernel
theorem dL_act_118 : decode cL_act 118 = .ok (.irem, 1) := by decide +kernel
theorem dL_act_119 : decode cL_act 119 = .ok (.ifCond .ne 7, 3) := by decide +kernel
theorem dL_act_122 : decode cL_act 122 = .ok (.iconst 1, 1) := by decide +kernel
theorem dL_act_123 : decode cL_act 123 = .ok (.goto 4, 3) := by decide +kernel
theorem dL_act_126 : decode cL_act 126 = .ok (.iconst 0, 1) := by decide +kernel
theorem dL_act_127 : decode cL_act 127 = .ok (.invokestatic 116, 3) := by decide +kernel
theorem dL_act_130 : decode cL_act 130 = .ok (.istore 4, 2) := by decide +kernel
theorem dL_act_132 : decode cL_act 132 = .ok (.iconst 0, 1) := by decide +kernel
theorem dL_act_133 : decode cL_act 133 = .ok (.istore 5, 2) := by decide +kernel
theorem dL_act_135 : decode cL_act 135 = .ok (.iload 5, 2) := by decide +kernel
theorem dL_act_137 : decode cL_act 137 = .ok (.bipush 12, 2) := by decide +kernel
theorem dL_act_139 : decode cL_act 139 = .ok (.if_icmp .ge 33, 3) := by decide +kernel
theorem dL_act_142 : decode cL_act 142 = .ok (.iload 4, 2) := by decide +kernel
theorem dL_act_144 : decode cL_act 144 = .ok (.ifCond .lt 28, 3) := by decide +kernel
theorem dL_act_147 : decode cL_act 147 = .ok (.aload_n 0, 1) := by decide +kernel
theorem dL_act_148 : decode cL_act 148 = .ok (.iload 4, 2) := by decide +kernel
theorem dL_act_150 : decode cL_act 150 = .ok (.iload_n 2, 1) := by decide +kernel
theorem dL_act_151 : decode cL_act 151 = .ok (.iload 5, 2) := by decide +kernel
theorem dL_act_153 : decode cL_act 153 = .ok (.iconst 1, 1) := by decide +kernel
theorem dL_act_154 : decode cL_act 154 = .ok (.iadd, 1) := by decide +kernel
theorem dL_act_155 : decode cL_act 155 = .ok (.idiv, 1) := by decide +kernel
theorem dL_act_156 : decode cL_act 156 = .ok (.bipush 31, 2) := by decide +kernel
theorem dL_act_158 : decode cL_act 158 = .ok (.iload 5, 2) := by decide +kernel
theorem dL_act_160 : decode cL_act 160 = .ok (.imul, 1) := by decide +kernel
theorem dL_act_161 : decode cL_act 161 = .ok (.iadd, 1) := by decide +kernel
theorem dL_act_162 : decode cL_act 162 = .ok (.invokestatic 184, 3) := by decide +kernel
theorem dL_act_165 : decode cL_act 165 = .ok (.pop, 1) := by decide +kernel
theorem dL_act_166 : decode cL_act 166 = .ok (.iinc 5 1, 3) := by decide +kernel
theorem dL_act_169 : decode cL_act 169 = .ok (.goto (-34), 3) := by decide +kernel
theorem dL_act_172 : decode cL_act 172 = .ok (.iload 4, 2) := by decide +kernel
theorem dL_act_174 : decode cL_act 174 = .ok (.ireturn, 1) := by decide +kernel
theorem dL_act_175 : decode cL_act 175 = .ok (.aload_n 0, 1) := by decide +kernel
theorem dL_act_176 : decode cL_act 176 = .ok (.iload_n 3, 1) := by decide +kernel
theorem dL_act_177 : decode cL_act 177 = .ok (.iload_n 2, 1) := by decide +kernel
theorem dL_act_178 : decode cL_act 178 = .ok (.iconst 3, 1) := by decide +kernel
theorem dL_act_179 : decode cL_act 179 = .ok (.irem, 1) := by decide +kernel
theorem dL_act_180 : decode cL_act 180 = .ok (.ifCond .ne 7, 3) := by decide +kernel
theorem dL_act_183 : decode cL_act 183 = .ok (.iconst 1, 1) := by decide +kernel
theorem dL_act_184 : decode cL_act 184 = .ok (.goto 4, 3) := by decide +kernel
theorem dL_act_187 : decode cL_act 187 = .ok (.iconst 0, 1) := by decide +kernel
theorem dL_act_188 : decode cL_act 188 = .ok (.invokestatic 125, 3) := by decide +kernel
theorem dL_act_191 : decode cL_act 191 = .ok (.ireturn, 1) := by decide +kernel
theorem dL_act_192 : decode cL_act 192 = .ok (.aload_n 0, 1) := by decide +kernel
theorem dL_act_193 : decode cL_act 193 = .ok (.iload_n 3, 1) := by decide +kernel
theorem dL_act_194 : decode cL_act 194 = .ok (.iconst 1, 1) := by decide +kernel
theorem dL_act_195 : decode cL_act 195 = .ok (.iload_n 2, 1) := by decide +kernel
theorem dL_act_196 : decode cL_act 196 = .ok (.iconst 4, 1) := by decide +kernel
theorem dL_act_197 : decode cL_act 197 = .ok (.idiv, 1) := by decide +kernel
theorem dL_act_198 : decode cL_act 198 = .ok (.iconst 3, 1) := by decide +kernel
theorem dL_act_199 : decode cL_act 199 = .ok (.irem, 1) := by decide +kernel
theorem dL_act_200 : decode cL_act 200 = .ok (.iadd, 1) := by decide +kernel
theorem dL_act_201 : decode cL_act 201 = .ok (.invokestatic 128, 3) := by decide +kernel
theorem dL_act_204 : decode cL_act 204 = .ok (.ireturn, 1) := by decide +kernel
theorem dL_act_205 : decode cL_act 205 = .ok (.aload_n 0, 1) := by decide +kernel
theorem dL_act_206 : decode cL_act 206 = .ok (.iload_n 3, 1) := by decide +kernel
theorem dL_act_207 : decode cL_act 207 = .ok (.iload_n 2, 1) := by decide +kernel
theorem dL_act_208 : decode cL_act 208 = .ok (.iconst 4, 1) := by decide +kernel
theorem dL_act_209 : decode cL_act 209 = .ok (.idiv, 1) := by decide +kernel
theorem dL_act_210 : decode cL_act 210 = .ok (.sipush 10000, 3) := by decide +kernel
theorem dL_act_213 : decode cL_act 213 = .ok (.irem, 1) := by decide +kernel
theorem dL_act_214 : decode cL_act 214 = .ok (.invokestatic 131, 3) := by decide +kernel
theorem dL_act_217 : decode cL_act 217 = .ok (.ireturn, 1) := by decide +kernel
theorem dL_act_218 : decode cL_act 218 = .ok (.aload_n 0, 1) := by decide +kernel
theorem dL_act_219 : decode cL_act 219 = .ok (.iload_n 3, 1) := by decide +kernel
theorem dL_act_220 : decode cL_act 220 = .ok (.invokestatic 133, 3) := by decide +kernel
theorem dL_act_223 : decode cL_act 223 = .ok (.ireturn, 1) := by decide +kernel
theorem dL_act_224 : decode cL_act 224 = .ok (.aload_n 0, 1) := by decide +kernel
theorem dL_act_225 : decode cL_act 225 = .ok (.iconst 1, 1) := by decide +kernel
theorem dL_act_226 : decode cL_act 226 = .ok (.iload_n 2, 1) := by decide +kernel
theorem dL_act_227 : decode cL_act 227 = .ok (.iload_n 2, 1) := by decide +kernel
theorem dL_act_228 : decode cL_act 228 = .ok (.iconst 3, 1) := by decide +kernel
theorem dL_act_229 : decode cL_act 229 = .ok (.irem, 1) := by decide +kernel
theorem dL_act_230 : decode cL_act 230 = .ok (.ifCond .ne 8, 3) := by decide +kernel
theorem dL_act_233 : decode cL_act 233 = .ok (.bipush 20, 2) := by decide +kernel
theorem dL_act_235 : decode cL_act 235 = .ok (.goto 4, 3) := by decide +kernel
theorem dL_act_238 : decode cL_act 238 = .ok (.iconst 4, 1) := by decide +kernel
theorem dL_act_239 : decode cL_act 239 = .ok (.irem, 1) := by decide +kernel
theorem dL_act_240 : decode cL_act 240 = .ok (.iadd, 1) := by decide +kernel
theorem dL_act_241 : decode cL_act 241 = .ok (.invokestatic 136, 3) := by decide +kernel
theorem dL_act_244 : decode cL_act 244 = .ok (.ireturn, 1) := by decide +kernel
theorem dL_act_245 : decode cL_act 245 = .ok (.aload_n 0, 1) := by decide +kernel
theorem dL_act_246 : decode cL_act 246 = .ok (.iload_n 2, 1) := by decide +kernel
theorem dL_act_247 : decode cL_act 247 = .ok (.iconst 2, 1) := by decide +kernel
theorem dL_act_248 : decode cL_act 248 = .ok (.irem, 1) := by decide +kernel
theorem dL_act_249 : decode cL_act 249 = .ok (.invokestatic 138, 3) := by decide +kernel
theorem dL_act_252 : decode cL_act 252 = .ok (.ireturn, 1) := by decide +kernel
theorem dL_act_253 : decode cL_act 253 = .ok (.aload_n 0, 1) := by decide +kernel
theorem dL_act_254 : decode cL_act 254 = .ok (.iload_n 3, 1) := by decide +kernel
theorem dL_act_255 : decode cL_act 255 = .ok (.invokestatic 140, 3) := by decide +kernel
theorem dL_act_258 : decode cL_act 258 = .ok (.ireturn, 1) := by decide +kernel
theorem dL_act_259 : decode cL_act 259 = .ok (.aload_n 0, 1) := by decide +kernel
theorem dL_act_260 : decode cL_act 260 = .ok (.iload_n 3, 1) := by decide +kernel
theorem dL_act_261 : decode cL_act 261 = .ok (.iconst 1, 1) := by decide +kernel
theorem dL_act_262 : decode cL_act 262 = .ok (.iload_n 2, 1) := by decide +kernel
theorem dL_act_263 : decode cL_act 263 = .ok (.iconst 4, 1) := by decide +kernel
theorem dL_act_264 : decode cL_act 264 = .ok (.idiv, 1) := by decide +kernel
theorem dL_act_265 : decode cL_act 265 = .ok (.bipush 8, 2) := by decide +kernel
theorem dL_act_267 : decode cL_act 267 = .ok (.irem, 1) := by decide +kernel
theorem dL_act_268 : decode cL_act 268 = .ok (.iadd, 1) := by decide +kernel
theorem dL_act_269 : decode cL_act 269 = .ok (.invokestatic 142, 3) := by decide +kernel
theorem dL_act_272 : decode cL_act 272 = .ok (.ireturn, 1) := by decide +kernel
theorem dL_act_273 : decode cL_act 273 = .ok (.aload_n 0, 1) := by decide +kernel
theorem dL_act_274 : decode cL_act 274 = .ok (.iload_n 3, 1) := by decide +kernel
theorem dL_act_275 : decode cL_act 275 = .ok (.iload_n 2, 1) := by decide +kernel
theorem dL_act_276 : decode cL_act 276 = .ok (.iconst 4, 1) := by decide +kernel
theorem dL_act_277 : decode cL_act 277 = .ok (.idiv, 1) := by decide +kernel
theorem dL_act_278 : decode cL_act 278 = .ok (.iconst 4, 1) := by decide +kernel
theorem dL_act_279 : decode cL_act 279 = .ok (.irem, 1) := by decide +kernel
theorem dL_act_280 : decode cL_act 280 = .ok (.ifCond .le 7, 3) := by decide +kernel
theorem dL_act_283 : decode cL_act 283 = .ok (.iconst 1, 1) := by decide +kernel
theorem dL_act_284 : decode cL_act 284 = .ok (.goto 4, 3) := by decide +kernel
theorem dL_act_287 : decode cL_act 287 = .ok (.iconst 0, 1) := by decide +kernel
theorem dL_act_288 : decode cL_act 288 = .ok (.invokestatic 144, 3) := by decide +kernel
theorem dL_act_291 : decode cL_act 291 = .ok (.ireturn, 1) := by decide +kernel
theorem dL_act_292 : decode cL_act 292 = .ok (.aload_n 0, 1) := by decide +kernel
theorem dL_act_293 : decode cL_act 293 = .ok (.iload_n 3, 1) := by decide +kernel
theorem dL_act_294 : decode cL_act 294 = .ok (.invokestatic 146, 3) := by decide +kernel
theorem dL_act_297 : decode cL_act 297 = .ok (.ireturn, 1) := by decide +kernel
theorem dL_act_298 : decode cL_act 298 = .ok (.aload_n 0, 1) := by decide +kernel
theorem dL_act_299 : decode cL_act 299 = .ok (.iload_n 3, 1) := by decide +kernel
theorem dL_act_300 : decode cL_act 300 = .ok (.iload_n 2, 1) := by decide +kernel
theorem dL_act_301 : decode cL_act 301 = .ok (.iconst 4, 1) := by decide +kernel
theorem dL_act_302 : decode cL_act 302 = .ok (.idiv, 1) := by decide +kernel
theorem dL_act_303 : decode cL_act 303 = .ok (.iconst 5, 1) := by decide +kernel
theorem dL_act_304 : decode cL_act 304 = .ok (.irem, 1) := by decide +kernel
theorem dL_act_305 : decode cL_act 305 = .ok (.invokestatic 148, 3) := by decide +kernel
theorem dL_act_308 : decode cL_act 308 = .ok (.ireturn, 1) := by decide +kernel
theorem dL_act_309 : decode cL_act 309 = .ok (.aload_n 0, 1) := by decide +kernel
theorem dL_act_310 : decode cL_act 310 = .ok (.iload_n 3, 1) := by decide +kernel
theorem dL_act_311 : decode cL_act 311 = .ok (.iload_n 2, 1) := by decide +kernel
theorem dL_act_312 : decode cL_act 312 = .ok (.iconst 4, 1) := by decide +kernel
theorem dL_act_313 : decode cL_act 313 = .ok (.idiv, 1) := by decide +kernel
theorem dL_act_314 : decode cL_act 314 = .ok (.iconst 3, 1) := by decide +kernel
theorem dL_act_315 : decode cL_act 315 = .ok (.irem, 1) := by decide +kernel
theorem dL_act_316 : decode cL_act 316 = .ok (.ifCond .le 7, 3) := by decide +kernel
theorem dL_act_319 : decode cL_act 319 = .ok (.iconst 1, 1) := by decide +kernel
theorem dL_act_320 : decode cL_act 320 = .ok (.goto 4, 3) := by decide +kernel
theorem dL_act_323 : decode cL_act 323 = .ok (.iconst 0, 1) := by decide +kernel
theorem dL_act_324 : decode cL_act 324 = .ok (.invokestatic 150, 3) := by decide +kernel
theorem dL_act_327 : decode cL_act 327 = .ok (.ireturn, 1) := by decide +kernel
theorem dL_act_328 : decode cL_act 328 = .ok (.aload_n 0, 1) := by decide +kernel
theorem dL_act_329 : decode cL_act 329 = .ok (.iload_n 3, 1) := by decide +kernel
theorem dL_act_330 : decode cL_act 330 = .ok (.invokestatic 152, 3) := by decide +kernel
theorem dL_act_333 : decode cL_act 333 = .ok (.ireturn, 1) := by decide +kernel
theorem dL_act_334 : decode cL_act 334 = .ok (.iload_n 2, 1) := by decide +kernel
theorem dL_act_335 : decode cL_act 335 = .ok (.iconst 3, 1) := by decide +kernel
theorem dL_act_336 : decode cL_act 336 = .ok (.irem, 1) := by decide +kernel
theorem dL_act_337 : decode cL_act 337 = .ok (.ifCond .ne 15, 3) := by decide +kernel
theorem dL_act_340 : decode cL_act 340 = .ok (.aload_n 0, 1) := by decide +kernel
theorem dL_act_341 : decode cL_act 341 = .ok (.iload_n 2, 1) := by decide +kernel
theorem dL_act_342 : decode cL_act 342 = .ok (.iconst 3, 1) := by decide +kernel
theorem dL_act_343 : decode cL_act 343 = .ok (.idiv, 1) := by decide +kernel
theorem dL_act_344 : decode cL_act 344 = .ok (.iconst 2, 1) := by decide +kernel
theorem dL_act_345 : decode cL_act 345 = .ok (.irem, 1) := by decide +kernel
theorem dL_act_346 : decode cL_act 346 = .ok (.invokestatic 154, 3) := by decide +kernel
theorem dL_act_349 : decode cL_act 349 = .ok (.goto 8, 3) := by decide +kernel
theorem dL_act_352 : decode cL_act 352 = .ok (.aload_n 0, 1) := by decide +kernel
theorem dL_act_353 : decode cL_act 353 = .ok (.iconst 3, 1) := by decide +kernel
theorem dL_act_354 : decode cL_act 354 = .ok (.invokestatic 136, 3) := by decide +kernel
theorem dL_act_357 : decode cL_act 357 = .ok (.ireturn, 1) := by decide +kernel
theorem dL_act_358 : decode cL_act 358 = .ok (.aload_n 0, 1) := by decide +kernel
theorem dL_act_359 : decode cL_act 359 = .ok (.iload_n 2, 1) := by decide +kernel
theorem dL_act_360 : decode cL_act 360 = .ok (.iconst 2, 1) := by decide +kernel
theorem dL_act_361 : decode cL_act 361 = .ok (.irem, 1) := by decide +kernel
theorem dL_act_362 : decode cL_act 362 = .ok (.invokestatic 156, 3) := by decide +kernel
theorem dL_act_365 : decode cL_act 365 = .ok (.ireturn, 1) := by decide +kernel
theorem dL_isAlike_0 : decode cL_isAlike 0 = .ok (.iload_n 2, 1) := by decide +kernel
theorem dL_isAlike_1 : decode cL_isAlike 1 = .ok (.iconst 4, 1) := by decide +kernel
theorem dL_isAlike_2 : decode cL_isAlike 2 = .ok (.irem, 1) := by decide +kernel
theorem dL_isAlike_3 : decode cL_isAlike 3 = .ok (.istore_n 3, 1) := by decide +kernel
theorem dL_isAlike_4 : decode cL_isAlike 4 = .ok (.aload_n 0, 1) := by decide +kernel
theorem dL_isAlike_5 : decode cL_isAlike 5 = .ok (.invokevirtual 187, 3) := by decide +kernel
theorem dL_isAlike_8 : decode cL_isAlike 8 = .ok (.aload_n 1, 1) := by decide +kernel
theorem dL_isAlike_9 : decode cL_isAlike 9 = .ok (.invokevirtual 187, 3) := by decide +kernel
theorem dL_isAlike_12 : decode cL_isAlike 12 = .ok (.if_icmp .ne 144, 3) := by decide +kernel
theorem dL_isAlike_15 : decode cL_isAlike 15 = .ok (.aload_n 0, 1) := by decide +kernel
theorem dL_isAlike_16 : decode cL_isAlike 16 = .ok (.iload_n 2, 1) := by decide +kernel
theorem dL_isAlike_17 : decode cL_isAlike 17 = .ok (.iconst 2, 1) := by decide +kernel
theorem dL_isAlike_18 : decode cL_isAlike 18 = .ok (.irem, 1) := by decide +kernel
theorem dL_isAlike_19 : decode cL_isAlike 19 = .ok (.invokestatic 169, 3) := by decide +kernel
theorem dL_isAlike_22 : decode cL_isAlike 22 = .ok (.aload_n 1, 1) := by decide +kernel
theorem dL_isAlike_23 : decode cL_isAlike 23 = .ok (.iload_n 2, 1) := by decide +kernel
theorem dL_isAlike_24 : decode cL_isAlike 24 = .ok (.iconst 2, 1) := by decide +kernel
theorem dL_isAlike_25 : decode cL_isAlike 25 = .ok (.irem, 1) := by decide +kernel
theorem dL_isAlike_26 : decode cL_isAlike 26 = .ok (.invokestatic 169, 3) := by decide +kernel
theorem dL_isAlike_29 : decode cL_isAlike 29 = .ok (.if_icmp .ne 127, 3) := by decide +kernel
theorem dL_isAlike_32 : decode cL_isAlike 32 = .ok (.aload_n 0, 1) := by decide +kernel
theorem dL_isAlike_33 : decode cL_isAlike 33 = .ok (.iload_n 3, 1) := by decide +kernel
theorem dL_isAlike_34 : decode cL_isAlike 34 = .ok (.invokestatic 173, 3) := by decide +kernel
theorem dL_isAlike_37 : decode cL_isAlike 37 = .ok (.aload_n 1, 1) := by decide +kernel
theorem dL_isAlike_38 : decode cL_isAlike 38 = .ok (.iload_n 3, 1) := by decide +kernel
theorem dL_isAlike_39 : decode cL_isAlike 39 = .ok (.invokestatic 173, 3) := by decide +kernel
theorem dL_isAlike_42 : decode cL_isAlike 42 = .ok (.if_icmp .ne 114, 3) := by decide +kernel
theorem dL_isAlike_45 : decode cL_isAlike 45 = .ok (.aload_n 0, 1) := by decide +kernel
theorem dL_isAlike_46 : decode cL_isAlike 46 = .ok (.iload_n 3, 1) := by decide +kernel
theorem dL_isAlike_47 : decode cL_isAlike 47 = .ok (.invokestatic 177, 3) := by decide +kernel
theorem dL_isAlike_50 : decode cL_isAlike 50 = .ok (.aload_n 1, 1) := by decide +kernel
theorem dL_isAlike_51 : decode cL_isAlike 51 = .ok (.iload_n 3, 1) := by decide +kernel
theorem dL_isAlike_52 : decode cL_isAlike 52 = .ok (.invokestatic 177, 3) := by decide +kernel
theorem dL_isAlike_55 : decode cL_isAlike 55 = .ok (.if_icmp .ne 101, 3) := by decide +kernel
theorem dL_isAlike_58 : decode cL_isAlike 58 = .ok (.aload_n 0, 1) := by decide +kernel
theorem dL_isAlike_59 : decode cL_isAlike 59 = .ok (.iload_n 3, 1) := by decide +kernel
theorem dL_isAlike_60 : decode cL_isAlike 60 = .ok (.iload_n 2, 1) := by decide +kernel
theorem dL_isAlike_61 : decode cL_isAlike 61 = .ok (.bipush 6, 2) := by decide +kernel
theorem dL_isAlike_63 : decode cL_isAlike 63 = .ok (.irem, 1) := by decide +kernel
theorem dL_isAlike_64 : decode cL_isAlike 64 = .ok (.invokestatic 171, 3) := by decide +kernel
theorem dL_isAlike_67 : decode cL_isAlike 67 = .ok (.aload_n 1, 1) := by decide +kernel
theorem dL_isAlike_68 : decode cL_isAlike 68 = .ok (.iload_n 3, 1) := by decide +kernel
theorem dL_isAlike_69 : decode cL_isAlike 69 = .ok (.iload_n 2, 1) := by decide +kernel
theorem dL_isAlike_70 : decode cL_isAlike 70 = .ok (.bipush 6, 2) := by decide +kernel
theorem dL_isAlike_72 : decode cL_isAlike 72 = .ok (.irem, 1) := by decide +kernel
theorem dL_isAlike_73 : decode cL_isAlike 73 = .ok (.invokestatic 171, 3) := by decide +kernel
theorem dL_isAlike_76 : decode cL_isAlike 76 = .ok (.if_icmp .ne 80, 3) := by decide +kernel
theorem dL_isAlike_79 : decode cL_isAlike 79 = .ok (.aload_n 0, 1) := by decide +kernel
theorem dL_isAlike_80 : decode cL_isAlike 80 = .ok (.iload_n 3, 1) := by decide +kernel
theorem dL_isAlike_81 : decode cL_isAlike 81 = .ok (.iload_n 2, 1) := by decide +kernel
theorem dL_isAlike_82 : decode cL_isAlike 82 = .ok (.iconst 4, 1) := by decide +kernel
theorem dL_isAlike_83 : decode cL_isAlike 83 = .ok (.irem, 1) := by decide +kernel
theorem dL_isAlike_84 : decode cL_isAlike 84 = .ok (.invokestatic 160, 3) := by decide +kernel
theorem dL_isAlike_87 : decode cL_isAlike 87 = .ok (.aload_n 1, 1) := by decide +kernel
theorem dL_isAlike_88 : decode cL_isAlike 88 = .ok (.iload_n 3, 1) := by decide +kernel
theorem dL_isAlike_89 : decode cL_isAlike 89 = .ok (.iload_n 2, 1) := by decide +kernel
theorem dL_isAlike_90 : decode cL_isAlike 90 = .ok (.iconst 4, 1) := by decide +kernel
theorem dL_isAlike_91 : decode cL_isAlike 91 = .ok (.irem, 1) := by decide +kernel
theorem dL_isAlike_92 : decode cL_isAlike 92 = .ok (.invokestatic 160, 3) := by decide +kernel
theorem dL_isAlike_95 : decode cL_isAlike 95 = .ok (.if_icmp .ne 61, 3) := by decide +kernel
theorem dL_isAlike_98 : decode cL_isAlike 98 = .ok (.aload_n 0, 1) := by decide +kernel
theorem dL_isAlike_99 : decode cL_isAlike 99 = .ok (.iload_n 3, 1) := by decide +kernel
theorem dL_isAlike_100 : decode cL_isAlike 100 = .ok (.iload_n 2, 1) := by decide +kernel
theorem dL_isAlike_101 : decode cL_isAlike 101 = .ok (.iconst 4, 1) := by decide +kernel
theorem dL_isAlike_102 : decode cL_isAlike 102 = .ok (.idiv, 1) := by decide +kernel
theorem dL_isAlike_103 : decode cL_isAlike 103 = .ok (.bipush 8, 2) := by decide +kernel
theorem dL_isAlike_105 : decode cL_isAlike 105 = .ok (.irem, 1) := by decide +kernel
theorem dL_isAlike_106 : decode cL_isAlike 106 = .ok (.iload_n 2, 1) := by decide +kernel
theorem dL_isAlike_107 : decode cL_isAlike 107 = .ok (.bipush 32, 2) := by decide +kernel
theorem dL_isAlike_109 : decode cL_isAlike 109 = .ok (.idiv, 1) := by decide +kernel
theorem dL_isAlike_110 : decode cL_isAlike 110 = .ok (.iconst 4, 1) := by decide +kernel
theorem dL_isAlike_111 : decode cL_isAlike 111 = .ok (.irem, 1) := by decide +kernel
theorem dL_isAlike_112 : decode cL_isAlike 112 = .ok (.invokestatic 162, 3) := by decide +kernel
theorem dL_isAlike_115 : decode cL_isAlike 115 = .ok (.aload_n 1, 1) := by decide +kernel
theorem dL_isAlike_116 : decode cL_isAlike 116 = .ok (.iload_n 3, 1) := by decide +kernel
theorem dL_isAlike_117 : decode cL_isAlike 117 = .ok (.iload_n 2, 1) := by decide +kernel
theorem dL_isAlike_118 : decode cL_isAlike 118 = .ok (.iconst 4, 1) := by decide +kernel
theorem dL_isAlike_119 : decode cL_isAlike 119 = .ok (.idiv, 1) := by decide +kernel
theorem dL_isAlike_120 : decode cL_isAlike 120 = .ok (.bipush 8, 2) := by decide +kernel
theorem dL_isAlike_122 : decode cL_isAlike 122 = .ok (.irem, 1) := by decide +kernel
theorem dL_isAlike_123 : decode cL_isAlike 123 = .ok (.iload_n 2, 1) := by decide +kernel
theorem dL_isAlike_124 : decode cL_isAlike 124 = .ok (.bipush 32, 2) := by decide +kernel
theorem dL_isAlike_126 : decode cL_isAlike 126 = .ok (.idiv, 1) := by decide +kernel
theorem dL_isAlike_127 : decode cL_isAlike 127 = .ok (.iconst 4, 1) := by decide +kernel
theorem dL_isAlike_128 : decode cL_isAlike 128 = .ok (.irem, 1) := by decide +kernel
theorem dL_isAlike_129 : decode cL_isAlike 129 = .ok (.invokestatic 162, 3) := by decide +kernel
theorem dL_isAlike_132 : decode cL_isAlike 132 = .ok (.if_icmp .ne 24, 3) := by decide +kernel
theorem dL_isAlike_135 : decode cL_isAlike 135 = .ok (.aload_n 0, 1) := by decide +kernel
theorem dL_isAlike_136 : decode cL_isAlike 136 = .ok (.iload_n 2, 1) := by decide +kernel
theorem dL_isAlike_137 : decode cL_isAlike 137 = .ok (.iconst 3, 1) := by decide +kernel
theorem dL_isAlike_138 : decode cL_isAlike 138 = .ok (.irem, 1) := by decide +kernel
theorem dL_isAlike_139 : decode cL_isAlike 139 = .ok (.invokestatic 179, 3) := by decide +kernel
theorem dL_isAlike_142 : decode cL_isAlike 142 = .ok (.aload_n 1, 1) := by decide +kernel
theorem dL_isAlike_143 : decode cL_isAlike 143 = .ok (.iload_n 2, 1) := by decide +kernel
theorem dL_isAlike_144 : decode cL_isAlike 144 = .ok (.iconst 3, 1) := by decide +kernel
theorem dL_isAlike_145 : decode cL_isAlike 145 = .ok (.irem, 1) := by decide +kernel
theorem dL_isAlike_146 : decode cL_isAlike 146 = .ok (.invokestatic 179, 3) := by decide +kernel
theorem dL_isAlike_149 : decode cL_isAlike 149 = .ok (.if_icmp .ne 7, 3) := by decide +kernel
theorem dL_isAlike_152 : decode cL_isAlike 152 = .ok (.iconst 1, 1) := by decide +kernel
theorem dL_isAlike_153 : decode cL_isAlike 153 = .ok (.goto 4, 3) := by decide +kernel
theorem dL_isAlike_156 : decode cL_isAlike 156 = .ok (.iconst 0, 1) := by decide +kernel
theorem dL_isAlike_157 : decode cL_isAlike 157 = .ok (.istore 4, 2) := by decide +kernel
theorem dL_isAlike_159 : decode cL_isAlike 159 = .ok (.iconst 0, 1) := by decide +kernel
theorem dL_isAlike_160 : decode cL_isAlike 160 = .ok (.istore 5, 2) := by decide +kernel
theorem dL_isAlike_162 : decode cL_isAlike 162 = .ok (.iload 5, 2) := by decide +kernel
theorem dL_isAlike_164 : decode cL_isAlike 164 = .ok (.bipush 11, 2) := by decide +kernel
theorem dL_isAlike_166 : decode cL_isAlike 166 = .ok (.if_icmp .ge 38, 3) := by decide +kernel
theorem dL_isAlike_169 : decode cL_isAlike 169 = .ok (.iload 4, 2) := by decide +kernel
theorem dL_isAlike_171 : decode cL_isAlike 171 = .ok (.ifCond .eq 33, 3) := by decide +kernel
theorem dL_isAlike_174 : decode cL_isAlike 174 = .ok (.aload_n 0, 1) := by decide +kernel
theorem dL_isAlike_175 : decode cL_isAlike 175 = .ok (.iload_n 3, 1) := by decide +kernel
theorem dL_isAlike_176 : decode cL_isAlike 176 = .ok (.iload 5, 2) := by decide +kernel
theorem dL_isAlike_178 : decode cL_isAlike 178 = .ok (.invokestatic 158, 3) := by decide +kernel
theorem dL_isAlike_181 : decode cL_isAlike 181 = .ok (.aload_n 1, 1) := by decide +kernel
theorem dL_isAlike_182 : decode cL_isAlike 182 = .ok (.iload_n 3, 1) := by decide +kernel
theorem dL_isAlike_183 : decode cL_isAlike 183 = .ok (.iload 5, 2) := by decide +kernel
theorem dL_isAlike_185 : decode cL_isAlike 185 = .ok (.invokestatic 158, 3) := by decide +kernel
theorem dL_isAlike_188 : decode cL_isAlike 188 = .ok (.if_icmp .ne 7, 3) := by decide +kernel
theorem dL_isAlike_191 : decode cL_isAlike 191 = .ok (.iconst 1, 1) := by decide +kernel
theorem dL_isAlike_192 : decode cL_isAlike 192 = .ok (.goto 4, 3) := by decide +kernel
theorem dL_isAlike_195 : decode cL_isAlike 195 = .ok (.iconst 0, 1) := by decide +kernel
theorem dL_isAlike_196 : decode cL_isAlike 196 = .ok (.istore 4, 2) := by decide +kernel
theorem dL_isAlike_198 : decode cL_isAlike 198 = .ok (.iinc 5 1, 3) := by decide +kernel
theorem dL_isAlike_201 : decode cL_isAlike 201 = .ok (.goto (-39), 3) := by decide +kernel
theorem dL_isAlike_204 : decode cL_isAlike 204 = .ok (.iconst 0, 1) := by decide +kernel
theorem dL_isAlike_205 : decode cL_isAlike 205 = .ok (.istore 5, 2) := by decide +kernel
theorem dL_isAlike_207 : decode cL_isAlike 207 = .ok (.iload 5, 2) := by decide +kernel
theorem dL_isAlike_209 : decode cL_isAlike 209 = .ok (.bipush 8, 2) := by decide +kernel
theorem dL_isAlike_211 : decode cL_isAlike 211 = .ok (.if_icmp .ge 55, 3) := by decide +kernel
theorem dL_isAlike_214 : decode cL_isAlike 214 = .ok (.iload 4, 2) := by decide +kernel
theorem dL_isAlike_216 : decode cL_isAlike 216 = .ok (.ifCond .eq 50, 3) := by decide +kernel
theorem dL_isAlike_219 : decode cL_isAlike 219 = .ok (.aload_n 0, 1) := by decide +kernel
theorem dL_isAlike_220 : decode cL_isAlike 220 = .ok (.iload_n 3, 1) := by decide +kernel
theorem dL_isAlike_221 : decode cL_isAlike 221 = .ok (.iload 5, 2) := by decide +kernel
theorem dL_isAlike_223 : decode cL_isAlike 223 = .ok (.invokestatic 167, 3) := by decide +kernel
theorem dL_isAlike_226 : decode cL_isAlike 226 = .ok (.aload_n 1, 1) := by decide +kernel
theorem dL_isAlike_227 : decode cL_isAlike 227 = .ok (.iload_n 3, 1) := by decide +kernel
theorem dL_isAlike_228 : decode cL_isAlike 228 = .ok (.iload 5, 2) := by decide +kernel
theorem dL_isAlike_230 : decode cL_isAlike 230 = .ok (.invokestatic 167, 3) := by decide +kernel
theorem dL_isAlike_233 : decode cL_isAlike 233 = .ok (.if_icmp .ne 24, 3) := by decide +kernel
theorem dL_isAlike_236 : decode cL_isAlike 236 = .ok (.aload_n 0, 1) := by decide +kernel
theorem dL_isAlike_237 : decode cL_isAlike 237 = .ok (.iload_n 3, 1) := by decide +kernel
theorem dL_isAlike_238 : decode cL_isAlike 238 = .ok (.iload 5, 2) := by decide +kernel
theorem dL_isAlike_240 : decode cL_isAlike 240 = .ok (.invokestatic 165, 3) := by decide +kernel
theorem dL_isAlike_243 : decode cL_isAlike 243 = .ok (.aload_n 1, 1) := by decide +kernel
theorem dL_isAlike_244 : decode cL_isAlike 244 = .ok (.iload_n 3, 1) := by decide +kernel
theorem dL_isAlike_245 : decode cL_isAlike 245 = .ok (.iload 5, 2) := by decide +kernel
theorem dL_isAlike_247 : decode cL_isAlike 247 = .ok (.invokestatic 165, 3) := by decide +kernel
theorem dL_isAlike_250 : decode cL_isAlike 250 = .ok (.if_icmp .ne 7, 3) := by decide +kernel
theorem dL_isAlike_253 : decode cL_isAlike 253 = .ok (.iconst 1, 1) := by decide +kernel
theorem dL_isAlike_254 : decode cL_isAlike 254 = .ok (.goto 4, 3) := by decide +kernel
theorem dL_isAlike_257 : decode cL_isAlike 257 = .ok (.iconst 0, 1) := by decide +kernel
theorem dL_isAlike_258 : decode cL_isAlike 258 = .ok (.istore 4, 2) := by decide +kernel
theorem dL_isAlike_260 : decode cL_isAlike 260 = .ok (.iinc 5 1, 3) := by decide +kernel
theorem dL_isAlike_263 : decode cL_isAlike 263 = .ok (.goto (-56), 3) := by decide +kernel
theorem dL_isAlike_266 : decode cL_isAlike 266 = .ok (.iload 4, 2) := by decide +kernel
theorem dL_isAlike_268 : decode cL_isAlike 268 = .ok (.ireturn, 1) := by decide +kernel
theorem dL_isWhole_0 : decode cL_isWhole 0 = .ok (.aload_n 0, 1) := by decide +kernel
theorem dL_isWhole_1 : decode cL_isWhole 1 = .ok (.invokevirtual 187, 3) := by decide +kernel
theorem dL_isWhole_4 : decode cL_isWhole 4 = .ok (.sipush 3000, 3) := by decide +kernel
theorem dL_isWhole_7 : decode cL_isWhole 7 = .ok (.if_icmp .gt 7, 3) := by decide +kernel
theorem dL_isWhole_10 : decode cL_isWhole 10 = .ok (.iconst 1, 1) := by decide +kernel
theorem dL_isWhole_11 : decode cL_isWhole 11 = .ok (.goto 4, 3) := by decide +kernel
theorem dL_isWhole_14 : decode cL_isWhole 14 = .ok (.iconst 0, 1) := by decide +kernel
theorem dL_isWhole_15 : decode cL_isWhole 15 = .ok (.istore_n 3, 1) := by decide +kernel
theorem dL_isWhole_16 : decode cL_isWhole 16 = .ok (.iconst 0, 1) := by decide +kernel
theorem dL_isWhole_17 : decode cL_isWhole 17 = .ok (.istore 4, 2) := by decide +kernel
theorem dL_isWhole_19 : decode cL_isWhole 19 = .ok (.iload 4, 2) := by decide +kernel
theorem dL_isWhole_21 : decode cL_isWhole 21 = .ok (.iconst 2, 1) := by decide +kernel
theorem dL_isWhole_22 : decode cL_isWhole 22 = .ok (.if_icmp .ge 207, 3) := by decide +kernel
theorem dL_isWhole_25 : decode cL_isWhole 25 = .ok (.iload_n 3, 1) := by decide +kernel
theorem dL_isWhole_26 : decode cL_isWhole 26 = .ok (.ifCond .eq 203, 3) := by decide +kernel
theorem dL_isWhole_29 : decode cL_isWhole 29 = .ok (.iconst 0, 1) := by decide +kernel
theorem dL_isWhole_30 : decode cL_isWhole 30 = .ok (.istore 5, 2) := by decide +kernel
theorem dL_isWhole_32 : decode cL_isWhole 32 = .ok (.iconst 0, 1) := by decide +kernel
theorem dL_isWhole_33 : decode cL_isWhole 33 = .ok (.istore 6, 2) := by decide +kernel
theorem dL_isWhole_35 : decode cL_isWhole 35 = .ok (.iload 6, 2) := by decide +kernel
theorem dL_isWhole_37 : decode cL_isWhole 37 = .ok (.aload_n 1, 1) := by decide +kernel
theorem dL_isWhole_38 : decode cL_isWhole 38 = .ok (.iconst 0, 1) := by decide +kernel
theorem dL_isWhole_39 : decode cL_isWhole 39 = .ok (.iaload, 1) := by decide +kernel
theorem dL_isWhole_40 : decode cL_isWhole 40 = .ok (.if_icmp .ge 131, 3) := by decide +kernel
theorem dL_isWhole_43 : decode cL_isWhole 43 = .ok (.iload_n 3, 1) := by decide +kernel
theorem dL_isWhole_44 : decode cL_isWhole 44 = .ok (.ifCond .eq 127, 3) := by decide +kernel
theorem dL_isWhole_47 : decode cL_isWhole 47 = .ok (.iconst 0, 1) := by decide +kernel
theorem dL_isWhole_48 : decode cL_isWhole 48 = .ok (.istore 7, 2) := by decide +kernel
theorem dL_isWhole_50 : decode cL_isWhole 50 = .ok (.iload 7, 2) := by decide +kernel
theorem dL_isWhole_52 : decode cL_isWhole 52 = .ok (.bipush 8, 2) := by decide +kernel
theorem dL_isWhole_54 : decode cL_isWhole 54 = .ok (.if_icmp .ge 111, 3) := by decide +kernel
theorem dL_isWhole_57 : decode cL_isWhole 57 = .ok (.iload_n 3, 1) := by decide +kernel
theorem dL_isWhole_58 : decode cL_isWhole 58 = .ok (.ifCond .eq 107, 3) := by decide +kernel
theorem dL_isWhole_61 : decode cL_isWhole 61 = .ok (.aload_n 0, 1) := by decide +kernel
theorem dL_isWhole_62 : decode cL_isWhole 62 = .ok (.iload 6, 2) := by decide +kernel
theorem dL_isWhole_64 : decode cL_isWhole 64 = .ok (.iload 7, 2) := by decide +kernel
theorem dL_isWhole_66 : decode cL_isWhole 66 = .ok (.invokestatic 167, 3) := by decide +kernel
theorem dL_isWhole_69 : decode cL_isWhole 69 = .ok (.istore 8, 2) := by decide +kernel
theorem dL_isWhole_71 : decode cL_isWhole 71 = .ok (.aload_n 0, 1) := by decide +kernel
theorem dL_isWhole_72 : decode cL_isWhole 72 = .ok (.iload 6, 2) := by decide +kernel
theorem dL_isWhole_74 : decode cL_isWhole 74 = .ok (.iload 7, 2) := by decide +kernel
theorem dL_isWhole_76 : decode cL_isWhole 76 = .ok (.invokestatic 165, 3) := by decide +kernel
theorem dL_isWhole_79 : decode cL_isWhole 79 = .ok (.istore 9, 2) := by decide +kernel
theorem dL_isWhole_81 : decode cL_isWhole 81 = .ok (.iload 9, 2) := by decide +kernel
theorem dL_isWhole_83 : decode cL_isWhole 83 = .ok (.ifCond .lt 44, 3) := by decide +kernel
theorem dL_isWhole_86 : decode cL_isWhole 86 = .ok (.iload 9, 2) := by decide +kernel
theorem dL_isWhole_88 : decode cL_isWhole 88 = .ok (.iconst 2, 1) := by decide +kernel
theorem dL_isWhole_89 : decode cL_isWhole 89 = .ok (.if_icmp .gt 38, 3) := by decide +kernel
theorem dL_isWhole_92 : decode cL_isWhole 92 = .ok (.iload 9, 2) := by decide +kernel
theorem dL_isWhole_94 : decode cL_isWhole 94 = .ok (.iconst 1, 1) := by decide +kernel
theorem dL_isWhole_95 : decode cL_isWhole 95 = .ok (.if_icmp .ne 7, 3) := by decide +kernel
theorem dL_isWhole_98 : decode cL_isWhole 98 = .ok (.iconst 1, 1) := by decide +kernel
theorem dL_isWhole_99 : decode cL_isWhole 99 = .ok (.goto 4, 3) := by decide +kernel
theorem dL_isWhole_102 : decode cL_isWhole 102 = .ok (.iconst 0, 1) := by decide +kernel
theorem dL_isWhole_103 : decode cL_isWhole 103 = .ok (.iload 8, 2) := by decide +kernel
theorem dL_isWhole_105 : decode cL_isWhole 105 = .ok (.ifCond .lt 7, 3) := by decide +kernel
theorem dL_isWhole_108 : decode cL_isWhole 108 = .ok (.iconst 1, 1) := by decide +kernel
theorem dL_isWhole_109 : decode cL_isWhole 109 = .ok (.goto 4, 3) := by decide +kernel
theorem dL_isWhole_112 : decode cL_isWhole 112 = .ok (.iconst 0, 1) := by decide +kernel
theorem dL_isWhole_113 : decode cL_isWhole 113 = .ok (.if_icmp .ne 14, 3) := by decide +kernel
theorem dL_isWhole_116 : decode cL_isWhole 116 = .ok (.iload 8, 2) := by decide +kernel
theorem dL_isWhole_118 : decode cL_isWhole 118 = .ok (.bipush 16, 2) := by decide +kernel
theorem dL_isWhole_120 : decode cL_isWhole 120 = .ok (.if_icmp .ge 7, 3) := by decide +kernel
theorem dL_isWhole_123 : decode cL_isWhole 123 = .ok (.iconst 1, 1) := by decide +kernel
theorem dL_isWhole_124 : decode cL_isWhole 124 = .ok (.goto 4, 3) := by decide +kernel
theorem dL_isWhole_127 : decode cL_isWhole 127 = .ok (.iconst 0, 1) := by decide +kernel
theorem dL_isWhole_128 : decode cL_isWhole 128 = .ok (.istore_n 3, 1) := by decide +kernel
theorem dL_isWhole_129 : decode cL_isWhole 129 = .ok (.iload 5, 2) := by decide +kernel
theorem dL_isWhole_131 : decode cL_isWhole 131 = .ok (.iload 8, 2) := by decide +kernel
theorem dL_isWhole_133 : decode cL_isWhole 133 = .ok (.ifCond .lt 22, 3) := by decide +kernel
theorem dL_isWhole_136 : decode cL_isWhole 136 = .ok (.aload_n 0, 1) := by decide +kernel
theorem dL_isWhole_137 : decode cL_isWhole 137 = .ok (.iload 6, 2) := by decide +kernel
theorem dL_isWhole_139 : decode cL_isWhole 139 = .ok (.iconst 1, 1) := by decide +kernel
theorem dL_isWhole_140 : decode cL_isWhole 140 = .ok (.invokestatic 158, 3) := by decide +kernel
theorem dL_isWhole_143 : decode cL_isWhole 143 = .ok (.iload 4, 2) := by decide +kernel
theorem dL_isWhole_145 : decode cL_isWhole 145 = .ok (.if_icmp .ne 10, 3) := by decide +kernel
theorem dL_isWhole_148 : decode cL_isWhole 148 = .ok (.iconst 1, 1) := by decide +kernel
theorem dL_isWhole_149 : decode cL_isWhole 149 = .ok (.iload 8, 2) := by decide +kernel
theorem dL_isWhole_151 : decode cL_isWhole 151 = .ok (.ishl, 1) := by decide +kernel
theorem dL_isWhole_152 : decode cL_isWhole 152 = .ok (.goto 4, 3) := by decide +kernel
theorem dL_isWhole_155 : decode cL_isWhole 155 = .ok (.iconst 0, 1) := by decide +kernel
theorem dL_isWhole_156 : decode cL_isWhole 156 = .ok (.ior, 1) := by decide +kernel
theorem dL_isWhole_157 : decode cL_isWhole 157 = .ok (.istore 5, 2) := by decide +kernel
theorem dL_isWhole_159 : decode cL_isWhole 159 = .ok (.iinc 7 1, 3) := by decide +kernel
theorem dL_isWhole_162 : decode cL_isWhole 162 = .ok (.goto (-112), 3) := by decide +kernel
theorem dL_isWhole_165 : decode cL_isWhole 165 = .ok (.iinc 6 1, 3) := by decide +kernel
theorem dL_isWhole_168 : decode cL_isWhole 168 = .ok (.goto (-133), 3) := by decide +kernel
theorem dL_isWhole_171 : decode cL_isWhole 171 = .ok (.iconst 0, 1) := by decide +kernel
theorem dL_isWhole_172 : decode cL_isWhole 172 = .ok (.istore 6, 2) := by decide +kernel
theorem dL_isWhole_174 : decode cL_isWhole 174 = .ok (.iconst 0, 1) := by decide +kernel
theorem dL_isWhole_175 : decode cL_isWhole 175 = .ok (.istore 7, 2) := by decide +kernel
theorem dL_isWhole_177 : decode cL_isWhole 177 = .ok (.iload 7, 2) := by decide +kernel
theorem dL_isWhole_179 : decode cL_isWhole 179 = .ok (.bipush 16, 2) := by decide +kernel
theorem dL_isWhole_181 : decode cL_isWhole 181 = .ok (.if_icmp .ge 21, 3) := by decide +kernel
theorem dL_isWhole_184 : decode cL_isWhole 184 = .ok (.iload 6, 2) := by decide +kernel
theorem dL_isWhole_186 : decode cL_isWhole 186 = .ok (.iload 5, 2) := by decide +kernel
theorem dL_isWhole_188 : decode cL_isWhole 188 = .ok (.iload 7, 2) := by decide +kernel
theorem dL_isWhole_190 : decode cL_isWhole 190 = .ok (.ishr, 1) := by decide +kernel
theorem dL_isWhole_191 : decode cL_isWhole 191 = .ok (.iconst 1, 1) := by decide +kernel
theorem dL_isWhole_192 : decode cL_isWhole 192 = .ok (.iand, 1) := by decide +kernel
theorem dL_isWhole_193 : decode cL_isWhole 193 = .ok (.iadd, 1) := by decide +kernel
theorem dL_isWhole_194 : decode cL_isWhole 194 = .ok (.istore 6, 2) := by decide +kernel
theorem dL_isWhole_196 : decode cL_isWhole 196 = .ok (.iinc 7 1, 3) := by decide +kernel
theorem dL_isWhole_199 : decode cL_isWhole 199 = .ok (.goto (-22), 3) := by decide +kernel
theorem dL_isWhole_202 : decode cL_isWhole 202 = .ok (.iload_n 3, 1) := by decide +kernel
theorem dL_isWhole_203 : decode cL_isWhole 203 = .ok (.ifCond .eq 18, 3) := by decide +kernel
theorem dL_isWhole_206 : decode cL_isWhole 206 = .ok (.aload_n 0, 1) := by decide +kernel
theorem dL_isWhole_207 : decode cL_isWhole 207 = .ok (.iload 4, 2) := by decide +kernel
theorem dL_isWhole_209 : decode cL_isWhole 209 = .ok (.invokestatic 169, 3) := by decide +kernel
theorem dL_isWhole_212 : decode cL_isWhole 212 = .ok (.iload 6, 2) := by decide +kernel
theorem dL_isWhole_214 : decode cL_isWhole 214 = .ok (.if_icmp .ne 7, 3) := by decide +kernel
theorem dL_isWhole_217 : decode cL_isWhole 217 = .ok (.iconst 1, 1) := by decide +kernel
theorem dL_isWhole_218 : decode cL_isWhole 218 = .ok (.goto 4, 3) := by decide +kernel
theorem dL_isWhole_221 : decode cL_isWhole 221 = .ok (.iconst 0, 1) := by decide +kernel
theorem dL_isWhole_222 : decode cL_isWhole 222 = .ok (.istore_n 3, 1) := by decide +kernel
theorem dL_isWhole_223 : decode cL_isWhole 223 = .ok (.iinc 4 1, 3) := by decide +kernel
theorem dL_isWhole_226 : decode cL_isWhole 226 = .ok (.goto (-207), 3) := by decide +kernel
theorem dL_isWhole_229 : decode cL_isWhole 229 = .ok (.iconst 0, 1) := by decide +kernel
theorem dL_isWhole_230 : decode cL_isWhole 230 = .ok (.istore 4, 2) := by decide +kernel
theorem dL_isWhole_232 : decode cL_isWhole 232 = .ok (.iload 4, 2) := by decide +kernel
theorem dL_isWhole_234 : decode cL_isWhole 234 = .ok (.aload_n 1, 1) := by decide +kernel
theorem dL_isWhole_235 : decode cL_isWhole 235 = .ok (.iconst 0, 1) := by decide +kernel
theorem dL_isWhole_236 : decode cL_isWhole 236 = .ok (.iaload, 1) := by decide +kernel
theorem dL_isWhole_237 : decode cL_isWhole 237 = .ok (.if_icmp .ge 262, 3) := by decide +kernel
theorem dL_isWhole_240 : decode cL_isWhole 240 = .ok (.iload_n 3, 1) := by decide +kernel
theorem dL_isWhole_241 : decode cL_isWhole 241 = .ok (.ifCond .eq 258, 3) := by decide +kernel
theorem dL_isWhole_244 : decode cL_isWhole 244 = .ok (.aload_n 0, 1) := by decide +kernel
theorem dL_isWhole_245 : decode cL_isWhole 245 = .ok (.iload 4, 2) := by decide +kernel
theorem dL_isWhole_247 : decode cL_isWhole 247 = .ok (.iconst 0, 1) := by decide +kernel
theorem dL_isWhole_248 : decode cL_isWhole 248 = .ok (.invokestatic 158, 3) := by decide +kernel
theorem dL_isWhole_251 : decode cL_isWhole 251 = .ok (.istore 5, 2) := by decide +kernel
theorem dL_isWhole_253 : decode cL_isWhole 253 = .ok (.iload 5, 2) := by decide +kernel
theorem dL_isWhole_255 : decode cL_isWhole 255 = .ok (.ifCond .lt 124, 3) := by decide +kernel
theorem dL_isWhole_258 : decode cL_isWhole 258 = .ok (.iload 5, 2) := by decide +kernel
theorem dL_isWhole_260 : decode cL_isWhole 260 = .ok (.iconst 3, 1) := by decide +kernel
theorem dL_isWhole_261 : decode cL_isWhole 261 = .ok (.if_icmp .gt 118, 3) := by decide +kernel
theorem dL_isWhole_264 : decode cL_isWhole 264 = .ok (.aload_n 0, 1) := by decide +kernel
theorem dL_isWhole_265 : decode cL_isWhole 265 = .ok (.iload 4, 2) := by decide +kernel
theorem dL_isWhole_267 : decode cL_isWhole 267 = .ok (.invokestatic 181, 3) := by decide +kernel
theorem dL_isWhole_270 : decode cL_isWhole 270 = .ok (.iconst 1, 1) := by decide +kernel
theorem dL_isWhole_271 : decode cL_isWhole 271 = .ok (.if_icmp .ne 108, 3) := by decide +kernel
theorem dL_isWhole_274 : decode cL_isWhole 274 = .ok (.aload_n 0, 1) := by decide +kernel
theorem dL_isWhole_275 : decode cL_isWhole 275 = .ok (.iload 4, 2) := by decide +kernel
theorem dL_isWhole_277 : decode cL_isWhole 277 = .ok (.iconst 5, 1) := by decide +kernel
theorem dL_isWhole_278 : decode cL_isWhole 278 = .ok (.invokestatic 158, 3) := by decide +kernel
theorem dL_isWhole_281 : decode cL_isWhole 281 = .ok (.ifCond .lt 98, 3) := by decide +kernel
theorem dL_isWhole_284 : decode cL_isWhole 284 = .ok (.aload_n 0, 1) := by decide +kernel
theorem dL_isWhole_285 : decode cL_isWhole 285 = .ok (.iload 4, 2) := by decide +kernel
theorem dL_isWhole_287 : decode cL_isWhole 287 = .ok (.iconst 5, 1) := by decide +kernel
theorem dL_isWhole_288 : decode cL_isWhole 288 = .ok (.invokestatic 158, 3) := by decide +kernel
theorem dL_isWhole_291 : decode cL_isWhole 291 = .ok (.sipush 10000, 3) := by decide +kernel
theorem dL_isWhole_294 : decode cL_isWhole 294 = .ok (.if_icmp .ge 85, 3) := by decide +kernel
theorem dL_isWhole_297 : decode cL_isWhole 297 = .ok (.aload_n 0, 1) := by decide +kernel
theorem dL_isWhole_298 : decode cL_isWhole 298 = .ok (.iload 4, 2) := by decide +kernel
theorem dL_isWhole_300 : decode cL_isWhole 300 = .ok (.bipush 6, 2) := by decide +kernel
theorem dL_isWhole_302 : decode cL_isWhole 302 = .ok (.invokestatic 158, 3) := by decide +kernel
theorem dL_isWhole_305 : decode cL_isWhole 305 = .ok (.aload_n 0, 1) := by decide +kernel
theorem dL_isWhole_306 : decode cL_isWhole 306 = .ok (.iload 4, 2) := by decide +kernel
theorem dL_isWhole_308 : decode cL_isWhole 308 = .ok (.bipush 7, 2) := by decide +kernel
theorem dL_isWhole_310 : decode cL_isWhole 310 = .ok (.invokestatic 158, 3) := by decide +kernel
theorem dL_isWhole_313 : decode cL_isWhole 313 = .ok (.iadd, 1) := by decide +kernel
theorem dL_isWhole_314 : decode cL_isWhole 314 = .ok (.aload_n 0, 1) := by decide +kernel
theorem dL_isWhole_315 : decode cL_isWhole 315 = .ok (.invokevirtual 187, 3) := by decide +kernel
theorem dL_isWhole_318 : decode cL_isWhole 318 = .ok (.if_icmp .gt 61, 3) := by decide +kernel
theorem dL_isWhole_321 : decode cL_isWhole 321 = .ok (.aload_n 0, 1) := by decide +kernel
theorem dL_isWhole_322 : decode cL_isWhole 322 = .ok (.iload 4, 2) := by decide +kernel
theorem dL_isWhole_324 : decode cL_isWhole 324 = .ok (.invokestatic 173, 3) := by decide +kernel
theorem dL_isWhole_327 : decode cL_isWhole 327 = .ok (.aload_n 1, 1) := by decide +kernel
theorem dL_isWhole_328 : decode cL_isWhole 328 = .ok (.iconst 4, 1) := by decide +kernel
theorem dL_isWhole_329 : decode cL_isWhole 329 = .ok (.iload 4, 2) := by decide +kernel
theorem dL_isWhole_331 : decode cL_isWhole 331 = .ok (.iadd, 1) := by decide +kernel
theorem dL_isWhole_332 : decode cL_isWhole 332 = .ok (.iaload, 1) := by decide +kernel
theorem dL_isWhole_333 : decode cL_isWhole 333 = .ok (.if_icmp .lt 46, 3) := by decide +kernel
theorem dL_isWhole_336 : decode cL_isWhole 336 = .ok (.aload_n 0, 1) := by decide +kernel
theorem dL_isWhole_337 : decode cL_isWhole 337 = .ok (.iload 4, 2) := by decide +kernel
theorem dL_isWhole_339 : decode cL_isWhole 339 = .ok (.invokestatic 177, 3) := by decide +kernel
theorem dL_isWhole_342 : decode cL_isWhole 342 = .ok (.ifCond .lt 37, 3) := by decide +kernel
theorem dL_isWhole_345 : decode cL_isWhole 345 = .ok (.aload_n 0, 1) := by decide +kernel
theorem dL_isWhole_346 : decode cL_isWhole 346 = .ok (.iload 4, 2) := by decide +kernel
theorem dL_isWhole_348 : decode cL_isWhole 348 = .ok (.bipush 9, 2) := by decide +kernel
theorem dL_isWhole_350 : decode cL_isWhole 350 = .ok (.invokestatic 158, 3) := by decide +kernel
theorem dL_isWhole_353 : decode cL_isWhole 353 = .ok (.bipush 8, 2) := by decide +kernel
theorem dL_isWhole_355 : decode cL_isWhole 355 = .ok (.if_icmp .gt 24, 3) := by decide +kernel
theorem dL_isWhole_358 : decode cL_isWhole 358 = .ok (.aload_n 0, 1) := by decide +kernel
theorem dL_isWhole_359 : decode cL_isWhole 359 = .ok (.iload 4, 2) := by decide +kernel
theorem dL_isWhole_361 : decode cL_isWhole 361 = .ok (.aload_n 0, 1) := by decide +kernel
theorem dL_isWhole_362 : decode cL_isWhole 362 = .ok (.iload 4, 2) := by decide +kernel
theorem dL_isWhole_364 : decode cL_isWhole 364 = .ok (.invokestatic 173, 3) := by decide +kernel
theorem dL_isWhole_367 : decode cL_isWhole 367 = .ok (.invokestatic 175, 3) := by decide +kernel
theorem dL_isWhole_370 : decode cL_isWhole 370 = .ok (.ldc 15, 2) := by decide +kernel
theorem dL_isWhole_372 : decode cL_isWhole 372 = .ok (.if_icmp .ne 7, 3) := by decide +kernel
theorem dL_isWhole_375 : decode cL_isWhole 375 = .ok (.iconst 1, 1) := by decide +kernel
theorem dL_isWhole_376 : decode cL_isWhole 376 = .ok (.goto 4, 3) := by decide +kernel
theorem dL_isWhole_379 : decode cL_isWhole 379 = .ok (.iconst 0, 1) := by decide +kernel
theorem dL_isWhole_380 : decode cL_isWhole 380 = .ok (.istore_n 3, 1) := by decide +kernel
theorem dL_isWhole_381 : decode cL_isWhole 381 = .ok (.aload_n 1, 1) := by decide +kernel
theorem dL_isWhole_382 : decode cL_isWhole 382 = .ok (.iconst 4, 1) := by decide +kernel
theorem dL_isWhole_383 : decode cL_isWhole 383 = .ok (.iload 4, 2) := by decide +kernel
theorem dL_isWhole_385 : decode cL_isWhole 385 = .ok (.iadd, 1) := by decide +kernel
theorem dL_isWhole_386 : decode cL_isWhole 386 = .ok (.aload_n 0, 1) := by decide +kernel
theorem dL_isWhole_387 : decode cL_isWhole 387 = .ok (.iload 4, 2) := by decide +kernel
theorem dL_isWhole_389 : decode cL_isWhole 389 = .ok (.invokestatic 173, 3) := by decide +kernel
theorem dL_isWhole_392 : decode cL_isWhole 392 = .ok (.iastore, 1) := by decide +kernel
theorem dL_isWhole_393 : decode cL_isWhole 393 = .ok (.iload_n 2, 1) := by decide +kernel
theorem dL_isWhole_394 : decode cL_isWhole 394 = .ok (.bipush 8, 2) := by decide +kernel
theorem dL_isWhole_396 : decode cL_isWhole 396 = .ok (.irem, 1) := by decide +kernel
theorem dL_isWhole_397 : decode cL_isWhole 397 = .ok (.istore 6, 2) := by decide +kernel
theorem dL_isWhole_399 : decode cL_isWhole 399 = .ok (.aload_n 0, 1) := by decide +kernel
theorem dL_isWhole_400 : decode cL_isWhole 400 = .ok (.iload 4, 2) := by decide +kernel
theorem dL_isWhole_402 : decode cL_isWhole 402 = .ok (.iload 6, 2) := by decide +kernel
theorem dL_isWhole_404 : decode cL_isWhole 404 = .ok (.invokestatic 165, 3) := by decide +kernel
theorem dL_isWhole_407 : decode cL_isWhole 407 = .ok (.ifCond .ne 7, 3) := by decide +kernel
theorem dL_isWhole_410 : decode cL_isWhole 410 = .ok (.iconst 1, 1) := by decide +kernel
theorem dL_isWhole_411 : decode cL_isWhole 411 = .ok (.goto 4, 3) := by decide +kernel
theorem dL_isWhole_414 : decode cL_isWhole 414 = .ok (.iconst 0, 1) := by decide +kernel
theorem dL_isWhole_415 : decode cL_isWhole 415 = .ok (.istore 7, 2) := by decide +kernel
theorem dL_isWhole_417 : decode cL_isWhole 417 = .ok (.aload_n 0, 1) := by decide +kernel
theorem dL_isWhole_418 : decode cL_isWhole 418 = .ok (.iload 4, 2) := by decide +kernel
theorem dL_isWhole_420 : decode cL_isWhole 420 = .ok (.iload 6, 2) := by decide +kernel
theorem dL_isWhole_422 : decode cL_isWhole 422 = .ok (.iload_n 2, 1) := by decide +kernel
theorem dL_isWhole_423 : decode cL_isWhole 423 = .ok (.bipush 8, 2) := by decide +kernel
theorem dL_isWhole_425 : decode cL_isWhole 425 = .ok (.idiv, 1) := by decide +kernel
theorem dL_isWhole_426 : decode cL_isWhole 426 = .ok (.iconst 4, 1) := by decide +kernel
theorem dL_isWhole_427 : decode cL_isWhole 427 = .ok (.irem, 1) := by decide +kernel
theorem dL_isWhole_428 : decode cL_isWhole 428 = .ok (.invokestatic 162, 3) := by decide +kernel
theorem dL_isWhole_431 : decode cL_isWhole 431 = .ok (.istore 8, 2) := by decide +kernel
theorem dL_isWhole_433 : decode cL_isWhole 433 = .ok (.iload_n 3, 1) := by decide +kernel
theorem dL_isWhole_434 : decode cL_isWhole 434 = .ok (.ifCond .eq 57, 3) := by decide +kernel
theorem dL_isWhole_437 : decode cL_isWhole 437 = .ok (.iload 8, 2) := by decide +kernel
theorem dL_isWhole_439 : decode cL_isWhole 439 = .ok (.iconst (-1), 1) := by decide +kernel
theorem dL_isWhole_440 : decode cL_isWhole 440 = .ok (.if_icmp .ne 7, 3) := by decide +kernel
theorem dL_isWhole_443 : decode cL_isWhole 443 = .ok (.iconst 1, 1) := by decide +kernel
theorem dL_isWhole_444 : decode cL_isWhole 444 = .ok (.goto 4, 3) := by decide +kernel
theorem dL_isWhole_447 : decode cL_isWhole 447 = .ok (.iconst 0, 1) := by decide +kernel
theorem dL_isWhole_448 : decode cL_isWhole 448 = .ok (.aload_n 0, 1) := by decide +kernel
theorem dL_isWhole_449 : decode cL_isWhole 449 = .ok (.iload 4, 2) := by decide +kernel
theorem dL_isWhole_451 : decode cL_isWhole 451 = .ok (.iload_n 2, 1) := by decide +kernel
theorem dL_isWhole_452 : decode cL_isWhole 452 = .ok (.iconst 4, 1) := by decide +kernel
theorem dL_isWhole_453 : decode cL_isWhole 453 = .ok (.irem, 1) := by decide +kernel
theorem dL_isWhole_454 : decode cL_isWhole 454 = .ok (.invokestatic 160, 3) := by decide +kernel
theorem dL_isWhole_457 : decode cL_isWhole 457 = .ok (.iconst (-1), 1) := by decide +kernel
theorem dL_isWhole_458 : decode cL_isWhole 458 = .ok (.if_icmp .ne 7, 3) := by decide +kernel
theorem dL_isWhole_461 : decode cL_isWhole 461 = .ok (.iconst 1, 1) := by decide +kernel
theorem dL_isWhole_462 : decode cL_isWhole 462 = .ok (.goto 4, 3) := by decide +kernel
theorem dL_isWhole_465 : decode cL_isWhole 465 = .ok (.iconst 0, 1) := by decide +kernel
theorem dL_isWhole_466 : decode cL_isWhole 466 = .ok (.if_icmp .ne 25, 3) := by decide +kernel
theorem dL_isWhole_469 : decode cL_isWhole 469 = .ok (.iload 7, 2) := by decide +kernel
theorem dL_isWhole_471 : decode cL_isWhole 471 = .ok (.ifCond .eq 8, 3) := by decide +kernel
theorem dL_isWhole_474 : decode cL_isWhole 474 = .ok (.iload 8, 2) := by decide +kernel
theorem dL_isWhole_476 : decode cL_isWhole 476 = .ok (.ifCond .gt 15, 3) := by decide +kernel
theorem dL_isWhole_479 : decode cL_isWhole 479 = .ok (.iload 8, 2) := by decide +kernel
theorem dL_isWhole_481 : decode cL_isWhole 481 = .ok (.sipush 9999, 3) := by decide +kernel
theorem dL_isWhole_484 : decode cL_isWhole 484 = .ok (.if_icmp .gt 7, 3) := by decide +kernel
theorem dL_isWhole_487 : decode cL_isWhole 487 = .ok (.iconst 1, 1) := by decide +kernel
theorem dL_isWhole_488 : decode cL_isWhole 488 = .ok (.goto 4, 3) := by decide +kernel
theorem dL_isWhole_491 : decode cL_isWhole 491 = .ok (.iconst 0, 1) := by decide +kernel
theorem dL_isWhole_492 : decode cL_isWhole 492 = .ok (.istore_n 3, 1) := by decide +kernel
theorem dL_isWhole_493 : decode cL_isWhole 493 = .ok (.iinc 4 1, 3) := by decide +kernel
theorem dL_isWhole_496 : decode cL_isWhole 496 = .ok (.goto (-264), 3) := by decide +kernel
theorem dL_isWhole_499 : decode cL_isWhole 499 = .ok (.iload_n 3, 1) := by decide +kernel
theorem dL_isWhole_500 : decode cL_isWhole 500 = .ok (.ireturn, 1) := by decide +kernel
theorem dL_law_0 : decode cL_law 0 = .ok (.new 8, 3) := by decide +kernel
theorem dL_law_3 : decode cL_law 3 = .ok (.dup, 1) := by decide +kernel
theorem dL_law_4 : decode cL_law 4 = .ok (.invokespecial 191, 3) := by decide +kernel
theorem dL_law_7 : decode cL_law 7 = .ok (.astore_n 1, 1) := by decide +kernel
theorem dL_law_8 : decode cL_law 8 = .ok (.new 8, 3) := by decide +kernel
theorem dL_law_11 : decode cL_law 11 = .ok (.dup, 1) := by decide +kernel
theorem dL_law_12 : decode cL_law 12 = .ok (.invokespecial 191, 3) := by decide +kernel
theorem dL_law_15 : decode cL_law 15 = .ok (.astore_n 2, 1) := by decide +kernel
theorem dL_law_16 : decode cL_law 16 = .ok (.bipush 12, 2) := by decide +kernel
theorem dL_law_18 : decode cL_law 18 = .ok (.newarray .int, 2) := by decide +kernel
theorem dL_law_20 : decode cL_law 20 = .ok (.astore_n 3, 1) := by decide +kernel
theorem dL_law_21 : decode cL_law 21 = .ok (.bipush 22, 2) := by decide +kernel
theorem dL_law_23 : decode cL_law 23 = .ok (.aload_n 0, 1) := by decide +kernel
theorem dL_law_24 : decode cL_law 24 = .ok (.iconst 0, 1) := by decide +kernel
theorem dL_law_25 : decode cL_law 25 = .ok (.invokestatic 192, 3) := by decide +kernel
theorem dL_law_28 : decode cL_law 28 = .ok (.bipush 27, 2) := by decide +kernel
theorem dL_law_30 : decode cL_law 30 = .ok (.irem, 1) := by decide +kernel
theorem dL_law_31 : decode cL_law 31 = .ok (.iadd, 1) := by decide +kernel
theorem dL_law_32 : decode cL_law 32 = .ok (.istore 4, 2) := by decide +kernel
theorem dL_law_34 : decode cL_law 34 = .ok (.iconst 1, 1) := by decide +kernel
theorem dL_law_35 : decode cL_law 35 = .ok (.istore 5, 2) := by decide +kernel
theorem dL_law_37 : decode cL_law 37 = .ok (.iconst 0, 1) := by decide +kernel
theorem dL_law_38 : decode cL_law 38 = .ok (.istore 6, 2) := by decide +kernel
theorem dL_law_40 : decode cL_law 40 = .ok (.iload 6, 2) := by decide +kernel
theorem dL_law_42 : decode cL_law 42 = .ok (.iload 4, 2) := by decide +kernel
theorem dL_law_44 : decode cL_law 44 = .ok (.if_icmp .ge 217, 3) := by decide +kernel
theorem dL_law_47 : decode cL_law 47 = .ok (.iload 5, 2) := by decide +kernel
theorem dL_law_49 : decode cL_law 49 = .ok (.ifCond .eq 212, 3) := by decide +kernel
theorem dL_law_52 : decode cL_law 52 = .ok (.aload_n 0, 1) := by decide +kernel
theorem dL_law_53 : decode cL_law 53 = .ok (.iconst 1, 1) := by decide +kernel
theorem dL_law_54 : decode cL_law 54 = .ok (.iload 6, 2) := by decide +kernel
theorem dL_law_56 : decode cL_law 56 = .ok (.iadd, 1) := by decide +kernel
theorem dL_law_57 : decode cL_law 57 = .ok (.invokestatic 192, 3) := by decide +kernel
theorem dL_law_60 : decode cL_law 60 = .ok (.istore 7, 2) := by decide +kernel
theorem dL_law_62 : decode cL_law 62 = .ok (.iload 6, 2) := by decide +kernel
theorem dL_law_64 : decode cL_law 64 = .ok (.bipush 11, 2) := by decide +kernel
theorem dL_law_66 : decode cL_law 66 = .ok (.irem, 1) := by decide +kernel
theorem dL_law_67 : decode cL_law 67 = .ok (.ifCond .ne 14, 3) := by decide +kernel
theorem dL_law_70 : decode cL_law 70 = .ok (.bipush 20, 2) := by decide +kernel
theorem dL_law_72 : decode cL_law 72 = .ok (.iload 7, 2) := by decide +kernel
theorem dL_law_74 : decode cL_law 74 = .ok (.bipush 20, 2) := by decide +kernel
theorem dL_law_76 : decode cL_law 76 = .ok (.idiv, 1) := by decide +kernel
theorem dL_law_77 : decode cL_law 77 = .ok (.imul, 1) := by decide +kernel
theorem dL_law_78 : decode cL_law 78 = .ok (.goto 27, 3) := by decide +kernel
theorem dL_law_81 : decode cL_law 81 = .ok (.iload 6, 2) := by decide +kernel
theorem dL_law_83 : decode cL_law 83 = .ok (.iconst 4, 1) := by decide +kernel
theorem dL_law_84 : decode cL_law 84 = .ok (.irem, 1) := by decide +kernel
theorem dL_law_85 : decode cL_law 85 = .ok (.iconst 1, 1) := by decide +kernel
theorem dL_law_86 : decode cL_law 86 = .ok (.if_icmp .ne 17, 3) := by decide +kernel
theorem dL_law_89 : decode cL_law 89 = .ok (.bipush 20, 2) := by decide +kernel
theorem dL_law_91 : decode cL_law 91 = .ok (.iload 7, 2) := by decide +kernel
theorem dL_law_93 : decode cL_law 93 = .ok (.bipush 20, 2) := by decide +kernel
theorem dL_law_95 : decode cL_law 95 = .ok (.idiv, 1) := by decide +kernel
theorem dL_law_96 : decode cL_law 96 = .ok (.imul, 1) := by decide +kernel
theorem dL_law_97 : decode cL_law 97 = .ok (.bipush 7, 2) := by decide +kernel
theorem dL_law_99 : decode cL_law 99 = .ok (.iadd, 1) := by decide +kernel
theorem dL_law_100 : decode cL_law 100 = .ok (.goto 5, 3) := by decide +kernel
theorem dL_law_103 : decode cL_law 103 = .ok (.iload 7, 2) := by decide +kernel
theorem dL_law_105 : decode cL_law 105 = .ok (.istore 7, 2) := by decide +kernel
theorem dL_law_107 : decode cL_law 107 = .ok (.aload_n 1, 1) := by decide +kernel
theorem dL_law_108 : decode cL_law 108 = .ok (.iload 7, 2) := by decide +kernel
theorem dL_law_110 : decode cL_law 110 = .ok (.invokestatic 196, 3) := by decide +kernel
theorem dL_law_113 : decode cL_law 113 = .ok (.istore 8, 2) := by decide +kernel
theorem dL_law_115 : decode cL_law 115 = .ok (.aload_n 2, 1) := by decide +kernel
theorem dL_law_116 : decode cL_law 116 = .ok (.aload_n 3, 1) := by decide +kernel
theorem dL_law_117 : decode cL_law 117 = .ok (.iload 7, 2) := by decide +kernel
theorem dL_law_119 : decode cL_law 119 = .ok (.sipush 9973, 3) := by decide +kernel
theorem dL_law_122 : decode cL_law 122 = .ok (.irem, 1) := by decide +kernel
theorem dL_law_123 : decode cL_law 123 = .ok (.invokestatic 199, 3) := by decide +kernel
theorem dL_law_126 : decode cL_law 126 = .ok (.ifCond .eq 18, 3) := by decide +kernel
theorem dL_law_129 : decode cL_law 129 = .ok (.aload_n 2, 1) := by decide +kernel
theorem dL_law_130 : decode cL_law 130 = .ok (.iload 7, 2) := by decide +kernel
theorem dL_law_132 : decode cL_law 132 = .ok (.invokestatic 196, 3) := by decide +kernel
theorem dL_law_135 : decode cL_law 135 = .ok (.iload 8, 2) := by decide +kernel
theorem dL_law_137 : decode cL_law 137 = .ok (.if_icmp .ne 7, 3) := by decide +kernel
theorem dL_law_140 : decode cL_law 140 = .ok (.iconst 1, 1) := by decide +kernel
theorem dL_law_141 : decode cL_law 141 = .ok (.goto 4, 3) := by decide +kernel
theorem dL_law_144 : decode cL_law 144 = .ok (.iconst 0, 1) := by decide +kernel
theorem dL_law_145 : decode cL_law 145 = .ok (.istore 5, 2) := by decide +kernel
theorem dL_law_147 : decode cL_law 147 = .ok (.aload_n 3, 1) := by decide +kernel
theorem dL_law_148 : decode cL_law 148 = .ok (.iconst 0, 1) := by decide +kernel
theorem dL_law_149 : decode cL_law 149 = .ok (.dup2, 1) := by decide +kernel
theorem dL_law_150 : decode cL_law 150 = .ok (.iaload, 1) := by decide +kernel
theorem dL_law_151 : decode cL_law 151 = .ok (.iload 7, 2) := by decide +kernel
theorem dL_law_153 : decode cL_law 153 = .ok (.bipush 20, 2) := by decide +kernel
theorem dL_law_155 : decode cL_law 155 = .ok (.irem, 1) := by decide +kernel
theorem dL_law_156 : decode cL_law 156 = .ok (.iconst 2, 1) := by decide +kernel
theorem dL_law_157 : decode cL_law 157 = .ok (.if_icmp .ge 12, 3) := by decide +kernel
theorem dL_law_160 : decode cL_law 160 = .ok (.iload 8, 2) := by decide +kernel
theorem dL_law_162 : decode cL_law 162 = .ok (.ifCond .lt 7, 3) := by decide +kernel
theorem dL_law_165 : decode cL_law 165 = .ok (.iconst 1, 1) := by decide +kernel
theorem dL_law_166 : decode cL_law 166 = .ok (.goto 4, 3) := by decide +kernel
theorem dL_law_169 : decode cL_law 169 = .ok (.iconst 0, 1) := by decide +kernel
theorem dL_law_170 : decode cL_law 170 = .ok (.iadd, 1) := by decide +kernel
theorem dL_law_171 : decode cL_law 171 = .ok (.iastore, 1) := by decide +kernel
theorem dL_law_172 : decode cL_law 172 = .ok (.aload_n 3, 1) := by decide +kernel
theorem dL_law_173 : decode cL_law 173 = .ok (.iconst 1, 1) := by decide +kernel
theorem dL_law_174 : decode cL_law 174 = .ok (.dup2, 1) := by decide +kernel
theorem dL_law_175 : decode cL_law 175 = .ok (.iaload, 1) := by decide +kernel
theorem dL_law_176 : decode cL_law 176 = .ok (.iload 7, 2) := by decide +kernel
theorem dL_law_178 : decode cL_law 178 = .ok (.bipush 20, 2) := by decide +kernel
theorem dL_law_180 : decode cL_law 180 = .ok (.irem, 1) := by decide +kernel
theorem dL_law_181 : decode cL_law 181 = .ok (.bipush 14, 2) := by decide +kernel
theorem dL_law_183 : decode cL_law 183 = .ok (.if_icmp .ne 12, 3) := by decide +kernel
theorem dL_law_186 : decode cL_law 186 = .ok (.iload 8, 2) := by decide +kernel
theorem dL_law_188 : decode cL_law 188 = .ok (.ifCond .lt 7, 3) := by decide +kernel
theorem dL_law_191 : decode cL_law 191 = .ok (.iconst 1, 1) := by decide +kernel
theorem dL_law_192 : decode cL_law 192 = .ok (.goto 4, 3) := by decide +kernel
theorem dL_law_195 : decode cL_law 195 = .ok (.iconst 0, 1) := by decide +kernel
theorem dL_law_196 : decode cL_law 196 = .ok (.iadd, 1) := by decide +kernel
theorem dL_law_197 : decode cL_law 197 = .ok (.iastore, 1) := by decide +kernel
theorem dL_law_198 : decode cL_law 198 = .ok (.iload 5, 2) := by decide +kernel
theorem dL_law_200 : decode cL_law 200 = .ok (.ifCond .eq 52, 3) := by decide +kernel
theorem dL_law_203 : decode cL_law 203 = .ok (.aload_n 2, 1) := by decide +kernel
theorem dL_law_204 : decode cL_law 204 = .ok (.aload_n 3, 1) := by decide +kernel
theorem dL_law_205 : decode cL_law 205 = .ok (.iload 7, 2) := by decide +kernel
theorem dL_law_207 : decode cL_law 207 = .ok (.sipush 499, 3) := by decide +kernel
theorem dL_law_210 : decode cL_law 210 = .ok (.irem, 1) := by decide +kernel
theorem dL_law_211 : decode cL_law 211 = .ok (.invokestatic 199, 3) := by decide +kernel
theorem dL_law_214 : decode cL_law 214 = .ok (.ifCond .eq 38, 3) := by decide +kernel
theorem dL_law_217 : decode cL_law 217 = .ok (.aload_n 1, 1) := by decide +kernel
theorem dL_law_218 : decode cL_law 218 = .ok (.aload_n 2, 1) := by decide +kernel
theorem dL_law_219 : decode cL_law 219 = .ok (.iload 7, 2) := by decide +kernel
theorem dL_law_221 : decode cL_law 221 = .ok (.iconst 3, 1) := by decide +kernel
theorem dL_law_222 : decode cL_law 222 = .ok (.idiv, 1) := by decide +kernel
theorem dL_law_223 : decode cL_law 223 = .ok (.invokestatic 203, 3) := by decide +kernel
theorem dL_law_226 : decode cL_law 226 = .ok (.ifCond .eq 26, 3) := by decide +kernel
theorem dL_law_229 : decode cL_law 229 = .ok (.iload 6, 2) := by decide +kernel
theorem dL_law_231 : decode cL_law 231 = .ok (.iconst 3, 1) := by decide +kernel
theorem dL_law_232 : decode cL_law 232 = .ok (.irem, 1) := by decide +kernel
theorem dL_law_233 : decode cL_law 233 = .ok (.ifCond .gt 15, 3) := by decide +kernel
theorem dL_law_236 : decode cL_law 236 = .ok (.aload_n 2, 1) := by decide +kernel
theorem dL_law_237 : decode cL_law 237 = .ok (.aload_n 3, 1) := by decide +kernel
theorem dL_law_238 : decode cL_law 238 = .ok (.iload 7, 2) := by decide +kernel
theorem dL_law_240 : decode cL_law 240 = .ok (.iconst 5, 1) := by decide +kernel
theorem dL_law_241 : decode cL_law 241 = .ok (.idiv, 1) := by decide +kernel
theorem dL_law_242 : decode cL_law 242 = .ok (.invokestatic 207, 3) := by decide +kernel
theorem dL_law_245 : decode cL_law 245 = .ok (.ifCond .eq 7, 3) := by decide +kernel
theorem dL_law_248 : decode cL_law 248 = .ok (.iconst 1, 1) := by decide +kernel
theorem dL_law_249 : decode cL_law 249 = .ok (.goto 4, 3) := by decide +kernel
theorem dL_law_252 : decode cL_law 252 = .ok (.iconst 0, 1) := by decide +kernel
theorem dL_law_253 : decode cL_law 253 = .ok (.istore 5, 2) := by decide +kernel
theorem dL_law_255 : decode cL_law 255 = .ok (.iinc 6 1, 3) := by decide +kernel
theorem dL_law_258 : decode cL_law 258 = .ok (.goto (-218), 3) := by decide +kernel
theorem dL_law_261 : decode cL_law 261 = .ok (.iload 5, 2) := by decide +kernel
theorem dL_law_263 : decode cL_law 263 = .ok (.ifCond .eq 55, 3) := by decide +kernel
theorem dL_law_266 : decode cL_law 266 = .ok (.aload_n 1, 1) := by decide +kernel
theorem dL_law_267 : decode cL_law 267 = .ok (.aload_n 3, 1) := by decide +kernel
theorem dL_law_268 : decode cL_law 268 = .ok (.aload_n 0, 1) := by decide +kernel
theorem dL_law_269 : decode cL_law 269 = .ok (.iconst 0, 1) := by decide +kernel
theorem dL_law_270 : decode cL_law 270 = .ok (.invokestatic 192, 3) := by decide +kernel
theorem dL_law_273 : decode cL_law 273 = .ok (.bipush 29, 2) := by decide +kernel
theorem dL_law_275 : decode cL_law 275 = .ok (.idiv, 1) := by decide +kernel
theorem dL_law_276 : decode cL_law 276 = .ok (.invokestatic 207, 3) := by decide +kernel
theorem dL_law_279 : decode cL_law 279 = .ok (.ifCond .eq 39, 3) := by decide +kernel
theorem dL_law_282 : decode cL_law 282 = .ok (.aload_n 2, 1) := by decide +kernel
theorem dL_law_283 : decode cL_law 283 = .ok (.aload_n 3, 1) := by decide +kernel
theorem dL_law_284 : decode cL_law 284 = .ok (.aload_n 0, 1) := by decide +kernel
theorem dL_law_285 : decode cL_law 285 = .ok (.iconst 0, 1) := by decide +kernel
theorem dL_law_286 : decode cL_law 286 = .ok (.invokestatic 192, 3) := by decide +kernel
theorem dL_law_289 : decode cL_law 289 = .ok (.bipush 31, 2) := by decide +kernel
theorem dL_law_291 : decode cL_law 291 = .ok (.idiv, 1) := by decide +kernel
theorem dL_law_292 : decode cL_law 292 = .ok (.invokestatic 207, 3) := by decide +kernel
theorem dL_law_295 : decode cL_law 295 = .ok (.ifCond .eq 23, 3) := by decide +kernel
theorem dL_law_298 : decode cL_law 298 = .ok (.aload_n 1, 1) := by decide +kernel
theorem dL_law_299 : decode cL_law 299 = .ok (.aload_n 2, 1) := by decide +kernel
theorem dL_law_300 : decode cL_law 300 = .ok (.aload_n 0, 1) := by decide +kernel
theorem dL_law_301 : decode cL_law 301 = .ok (.iconst 0, 1) := by decide +kernel
theorem dL_law_302 : decode cL_law 302 = .ok (.invokestatic 192, 3) := by decide +kernel
theorem dL_law_305 : decode cL_law 305 = .ok (.bipush 37, 2) := by decide +kernel
theorem dL_law_307 : decode cL_law 307 = .ok (.idiv, 1) := by decide +kernel
theorem dL_law_308 : decode cL_law 308 = .ok (.invokestatic 203, 3) := by decide +kernel
theorem dL_law_311 : decode cL_law 311 = .ok (.ifCond .eq 7, 3) := by decide +kernel
theorem dL_law_314 : decode cL_law 314 = .ok (.iconst 1, 1) := by decide +kernel
theorem dL_law_315 : decode cL_law 315 = .ok (.goto 4, 3) := by decide +kernel
theorem dL_law_318 : decode cL_law 318 = .ok (.iconst 0, 1) := by decide +kernel
theorem dL_law_319 : decode cL_law 319 = .ok (.ireturn, 1) := by decide +kernel
