theorem dL_cell_0 : decode cL_cell 0 = .ok (.iload_n 1, 1) := by decide +kernel
theorem dL_cell_1 : decode cL_cell 1 = .ok (.aload_n 0, 1) := by decide +kernel
theorem dL_cell_2 : decode cL_cell 2 = .ok (.arraylength, 1) := by decide +kernel
theorem dL_cell_3 : decode cL_cell 3 = .ok (.if_icmp .ge 9, 3) := by decide +kernel
theorem dL_cell_6 : decode cL_cell 6 = .ok (.aload_n 0, 1) := by decide +kernel
theorem dL_cell_7 : decode cL_cell 7 = .ok (.iload_n 1, 1) := by decide +kernel
theorem dL_cell_8 : decode cL_cell 8 = .ok (.iaload, 1) := by decide +kernel
theorem dL_cell_9 : decode cL_cell 9 = .ok (.goto 9, 3) := by decide +kernel
theorem dL_cell_12 : decode cL_cell 12 = .ok (.ldc 7, 2) := by decide +kernel
theorem dL_cell_14 : decode cL_cell 14 = .ok (.iload_n 1, 1) := by decide +kernel
theorem dL_cell_15 : decode cL_cell 15 = .ok (.iconst 1, 1) := by decide +kernel
theorem dL_cell_16 : decode cL_cell 16 = .ok (.iadd, 1) := by decide +kernel
theorem dL_cell_17 : decode cL_cell 17 = .ok (.imul, 1) := by decide +kernel
theorem dL_cell_18 : decode cL_cell 18 = .ok (.ireturn, 1) := by decide +kernel
theorem dL_low_0 : decode cL_low 0 = .ok (.iload_n 0, 1) := by decide +kernel
theorem dL_low_1 : decode cL_low 1 = .ok (.ldc 8, 2) := by decide +kernel
theorem dL_low_3 : decode cL_low 3 = .ok (.iand, 1) := by decide +kernel
theorem dL_low_4 : decode cL_low 4 = .ok (.iload_n 1, 1) := by decide +kernel
theorem dL_low_5 : decode cL_low 5 = .ok (.irem, 1) := by decide +kernel
theorem dL_low_6 : decode cL_low 6 = .ok (.ireturn, 1) := by decide +kernel
theorem dL_turn_0 : decode cL_turn 0 = .ok (.aload_n 0, 1) := by decide +kernel
theorem dL_turn_1 : decode cL_turn 1 = .ok (.iload_n 1, 1) := by decide +kernel
theorem dL_turn_2 : decode cL_turn 2 = .ok (.invokevirtual 9, 3) := by decide +kernel
theorem dL_turn_5 : decode cL_turn 5 = .ok (.istore_n 2, 1) := by decide +kernel
theorem dL_turn_6 : decode cL_turn 6 = .ok (.goto 11, 3) := by decide +kernel
theorem dL_turn_9 : decode cL_turn 9 = .ok (.astore_n 3, 1) := by decide +kernel
theorem dL_turn_10 : decode cL_turn 10 = .ok (.bipush (-31), 2) := by decide +kernel
theorem dL_turn_12 : decode cL_turn 12 = .ok (.ireturn, 1) := by decide +kernel
theorem dL_turn_13 : decode cL_turn 13 = .ok (.astore_n 3, 1) := by decide +kernel
theorem dL_turn_14 : decode cL_turn 14 = .ok (.bipush (-33), 2) := by decide +kernel
theorem dL_turn_16 : decode cL_turn 16 = .ok (.ireturn, 1) := by decide +kernel
theorem dL_turn_17 : decode cL_turn 17 = .ok (.iload_n 2, 1) := by decide +kernel
theorem dL_turn_18 : decode cL_turn 18 = .ok (.ireturn, 1) := by decide +kernel
theorem dL_back_0 : decode cL_back 0 = .ok (.aload_n 0, 1) := by decide +kernel
theorem dL_back_1 : decode cL_back 1 = .ok (.iload_n 1, 1) := by decide +kernel
theorem dL_back_2 : decode cL_back 2 = .ok (.invokevirtual 19, 3) := by decide +kernel
theorem dL_back_5 : decode cL_back 5 = .ok (.istore_n 2, 1) := by decide +kernel
theorem dL_back_6 : decode cL_back 6 = .ok (.goto 11, 3) := by decide +kernel
theorem dL_back_9 : decode cL_back 9 = .ok (.astore_n 3, 1) := by decide +kernel
theorem dL_back_10 : decode cL_back 10 = .ok (.bipush (-31), 2) := by decide +kernel
theorem dL_back_12 : decode cL_back 12 = .ok (.ireturn, 1) := by decide +kernel
theorem dL_back_13 : decode cL_back 13 = .ok (.astore_n 3, 1) := by decide +kernel
theorem dL_back_14 : decode cL_back 14 = .ok (.bipush (-33), 2) := by decide +kernel
theorem dL_back_16 : decode cL_back 16 = .ok (.ireturn, 1) := by decide +kernel
theorem dL_back_17 : decode cL_back 17 = .ok (.iload_n 2, 1) := by decide +kernel
theorem dL_back_18 : decode cL_back 18 = .ok (.ireturn, 1) := by decide +kernel
theorem dL_cut_0 : decode cL_cut 0 = .ok (.aload_n 0, 1) := by decide +kernel
theorem dL_cut_1 : decode cL_cut 1 = .ok (.iload_n 1, 1) := by decide +kernel
theorem dL_cut_2 : decode cL_cut 2 = .ok (.iload_n 2, 1) := by decide +kernel
theorem dL_cut_3 : decode cL_cut 3 = .ok (.iload_n 3, 1) := by decide +kernel
theorem dL_cut_4 : decode cL_cut 4 = .ok (.invokevirtual 22, 3) := by decide +kernel
theorem dL_cut_7 : decode cL_cut 7 = .ok (.istore 4, 2) := by decide +kernel
theorem dL_cut_9 : decode cL_cut 9 = .ok (.goto 13, 3) := by decide +kernel
theorem dL_cut_12 : decode cL_cut 12 = .ok (.astore 5, 2) := by decide +kernel
theorem dL_cut_14 : decode cL_cut 14 = .ok (.bipush (-31), 2) := by decide +kernel
theorem dL_cut_16 : decode cL_cut 16 = .ok (.ireturn, 1) := by decide +kernel
theorem dL_cut_17 : decode cL_cut 17 = .ok (.astore 5, 2) := by decide +kernel
theorem dL_cut_19 : decode cL_cut 19 = .ok (.bipush (-32), 2) := by decide +kernel
theorem dL_cut_21 : decode cL_cut 21 = .ok (.ireturn, 1) := by decide +kernel
theorem dL_cut_22 : decode cL_cut 22 = .ok (.iload 4, 2) := by decide +kernel
theorem dL_cut_24 : decode cL_cut 24 = .ok (.ireturn, 1) := by decide +kernel
theorem dL_stick_0 : decode cL_stick 0 = .ok (.aload_n 0, 1) := by decide +kernel
theorem dL_stick_1 : decode cL_stick 1 = .ok (.iload_n 1, 1) := by decide +kernel
theorem dL_stick_2 : decode cL_stick 2 = .ok (.invokevirtual 28, 3) := by decide +kernel
theorem dL_stick_5 : decode cL_stick 5 = .ok (.istore_n 2, 1) := by decide +kernel
theorem dL_stick_6 : decode cL_stick 6 = .ok (.goto 7, 3) := by decide +kernel
theorem dL_stick_9 : decode cL_stick 9 = .ok (.astore_n 3, 1) := by decide +kernel
theorem dL_stick_10 : decode cL_stick 10 = .ok (.bipush (-31), 2) := by decide +kernel
theorem dL_stick_12 : decode cL_stick 12 = .ok (.ireturn, 1) := by decide +kernel
theorem dL_stick_13 : decode cL_stick 13 = .ok (.iload_n 2, 1) := by decide +kernel
theorem dL_stick_14 : decode cL_stick 14 = .ok (.ireturn, 1) := by decide +kernel
theorem dL_undo_0 : decode cL_undo 0 = .ok (.aload_n 0, 1) := by decide +kernel
theorem dL_undo_1 : decode cL_undo 1 = .ok (.invokevirtual 31, 3) := by decide +kernel
theorem dL_undo_4 : decode cL_undo 4 = .ok (.istore_n 1, 1) := by decide +kernel
theorem dL_undo_5 : decode cL_undo 5 = .ok (.goto 7, 3) := by decide +kernel
theorem dL_undo_8 : decode cL_undo 8 = .ok (.astore_n 2, 1) := by decide +kernel
theorem dL_undo_9 : decode cL_undo 9 = .ok (.bipush (-33), 2) := by decide +kernel
theorem dL_undo_11 : decode cL_undo 11 = .ok (.ireturn, 1) := by decide +kernel
theorem dL_undo_12 : decode cL_undo 12 = .ok (.iload_n 1, 1) := by decide +kernel
theorem dL_undo_13 : decode cL_undo 13 = .ok (.ireturn, 1) := by decide +kernel
theorem dL_goBack_0 : decode cL_goBack 0 = .ok (.aload_n 0, 1) := by decide +kernel
theorem dL_goBack_1 : decode cL_goBack 1 = .ok (.invokevirtual 35, 3) := by decide +kernel
theorem dL_goBack_4 : decode cL_goBack 4 = .ok (.istore_n 1, 1) := by decide +kernel
theorem dL_goBack_5 : decode cL_goBack 5 = .ok (.goto 7, 3) := by decide +kernel
theorem dL_goBack_8 : decode cL_goBack 8 = .ok (.astore_n 2, 1) := by decide +kernel
theorem dL_goBack_9 : decode cL_goBack 9 = .ok (.bipush (-33), 2) := by decide +kernel
theorem dL_goBack_11 : decode cL_goBack 11 = .ok (.ireturn, 1) := by decide +kernel
theorem dL_goBack_12 : decode cL_goBack 12 = .ok (.iload_n 1, 1) := by decide +kernel
theorem dL_goBack_13 : decode cL_goBack 13 = .ok (.ireturn, 1) := by decide +kernel
theorem dL_at_0 : decode cL_at 0 = .ok (.aload_n 0, 1) := by decide +kernel
theorem dL_at_1 : decode cL_at 1 = .ok (.iload_n 1, 1) := by decide +kernel
theorem dL_at_2 : decode cL_at 2 = .ok (.iload_n 2, 1) := by decide +kernel
theorem dL_at_3 : decode cL_at 3 = .ok (.invokevirtual 38, 3) := by decide +kernel
theorem dL_at_6 : decode cL_at 6 = .ok (.istore_n 3, 1) := by decide +kernel
theorem dL_at_7 : decode cL_at 7 = .ok (.goto 13, 3) := by decide +kernel
theorem dL_at_10 : decode cL_at 10 = .ok (.astore 4, 2) := by decide +kernel
theorem dL_at_12 : decode cL_at 12 = .ok (.bipush (-31), 2) := by decide +kernel
theorem dL_at_14 : decode cL_at 14 = .ok (.ireturn, 1) := by decide +kernel
theorem dL_at_15 : decode cL_at 15 = .ok (.astore 4, 2) := by decide +kernel
theorem dL_at_17 : decode cL_at 17 = .ok (.bipush (-32), 2) := by decide +kernel
theorem dL_at_19 : decode cL_at 19 = .ok (.ireturn, 1) := by decide +kernel
theorem dL_at_20 : decode cL_at 20 = .ok (.iload_n 3, 1) := by decide +kernel
theorem dL_at_21 : decode cL_at 21 = .ok (.ireturn, 1) := by decide +kernel
theorem dL_key_0 : decode cL_key 0 = .ok (.aload_n 0, 1) := by decide +kernel
theorem dL_key_1 : decode cL_key 1 = .ok (.iload_n 1, 1) := by decide +kernel
theorem dL_key_2 : decode cL_key 2 = .ok (.iload_n 2, 1) := by decide +kernel
theorem dL_key_3 : decode cL_key 3 = .ok (.invokevirtual 42, 3) := by decide +kernel
theorem dL_key_6 : decode cL_key 6 = .ok (.istore_n 3, 1) := by decide +kernel
theorem dL_key_7 : decode cL_key 7 = .ok (.goto 13, 3) := by decide +kernel
theorem dL_key_10 : decode cL_key 10 = .ok (.astore 4, 2) := by decide +kernel
theorem dL_key_12 : decode cL_key 12 = .ok (.bipush (-31), 2) := by decide +kernel
theorem dL_key_14 : decode cL_key 14 = .ok (.ireturn, 1) := by decide +kernel
theorem dL_key_15 : decode cL_key 15 = .ok (.astore 4, 2) := by decide +kernel
theorem dL_key_17 : decode cL_key 17 = .ok (.bipush (-32), 2) := by decide +kernel
theorem dL_key_19 : decode cL_key 19 = .ok (.ireturn, 1) := by decide +kernel
theorem dL_key_20 : decode cL_key 20 = .ok (.iload_n 3, 1) := by decide +kernel
theorem dL_key_21 : decode cL_key 21 = .ok (.ireturn, 1) := by decide +kernel
theorem dL_pair_0 : decode cL_pair 0 = .ok (.aload_n 0, 1) := by decide +kernel
theorem dL_pair_1 : decode cL_pair 1 = .ok (.iload_n 1, 1) := by decide +kernel
theorem dL_pair_2 : decode cL_pair 2 = .ok (.iload_n 2, 1) := by decide +kernel
theorem dL_pair_3 : decode cL_pair 3 = .ok (.iload_n 3, 1) := by decide +kernel
theorem dL_pair_4 : decode cL_pair 4 = .ok (.invokevirtual 45, 3) := by decide +kernel
theorem dL_pair_7 : decode cL_pair 7 = .ok (.istore 4, 2) := by decide +kernel
theorem dL_pair_9 : decode cL_pair 9 = .ok (.goto 13, 3) := by decide +kernel
theorem dL_pair_12 : decode cL_pair 12 = .ok (.astore 5, 2) := by decide +kernel
theorem dL_pair_14 : decode cL_pair 14 = .ok (.bipush (-31), 2) := by decide +kernel
theorem dL_pair_16 : decode cL_pair 16 = .ok (.ireturn, 1) := by decide +kernel
theorem dL_pair_17 : decode cL_pair 17 = .ok (.astore 5, 2) := by decide +kernel
theorem dL_pair_19 : decode cL_pair 19 = .ok (.bipush (-32), 2) := by decide +kernel
theorem dL_pair_21 : decode cL_pair 21 = .ok (.ireturn, 1) := by decide +kernel
theorem dL_pair_22 : decode cL_pair 22 = .ok (.iload 4, 2) := by decide +kernel
theorem dL_pair_24 : decode cL_pair 24 = .ok (.ireturn, 1) := by decide +kernel
theorem dL_count_0 : decode cL_count 0 = .ok (.aload_n 0, 1) := by decide +kernel
theorem dL_count_1 : decode cL_count 1 = .ok (.iload_n 1, 1) := by decide +kernel
theorem dL_count_2 : decode cL_count 2 = .ok (.invokevirtual 48, 3) := by decide +kernel
theorem dL_count_5 : decode cL_count 5 = .ok (.istore_n 2, 1) := by decide +kernel
theorem dL_count_6 : decode cL_count 6 = .ok (.goto 7, 3) := by decide +kernel
theorem dL_count_9 : decode cL_count 9 = .ok (.astore_n 3, 1) := by decide +kernel
theorem dL_count_10 : decode cL_count 10 = .ok (.bipush (-32), 2) := by decide +kernel
theorem dL_count_12 : decode cL_count 12 = .ok (.ireturn, 1) := by decide +kernel
theorem dL_count_13 : decode cL_count 13 = .ok (.iload_n 2, 1) := by decide +kernel
theorem dL_count_14 : decode cL_count 14 = .ok (.ireturn, 1) := by decide +kernel
theorem dL_openIn_0 : decode cL_openIn 0 = .ok (.aload_n 0, 1) := by decide +kernel
theorem dL_openIn_1 : decode cL_openIn 1 = .ok (.iload_n 1, 1) := by decide +kernel
theorem dL_openIn_2 : decode cL_openIn 2 = .ok (.invokevirtual 51, 3) := by decide +kernel
theorem dL_openIn_5 : decode cL_openIn 5 = .ok (.istore_n 2, 1) := by decide +kernel
theorem dL_openIn_6 : decode cL_openIn 6 = .ok (.goto 7, 3) := by decide +kernel
theorem dL_openIn_9 : decode cL_openIn 9 = .ok (.astore_n 3, 1) := by decide +kernel
theorem dL_openIn_10 : decode cL_openIn 10 = .ok (.bipush (-32), 2) := by decide +kernel
theorem dL_openIn_12 : decode cL_openIn 12 = .ok (.ireturn, 1) := by decide +kernel
theorem dL_openIn_13 : decode cL_openIn 13 = .ok (.iload_n 2, 1) := by decide +kernel
theorem dL_openIn_14 : decode cL_openIn 14 = .ok (.ireturn, 1) := by decide +kernel
theorem dL_ifTurned_0 : decode cL_ifTurned 0 = .ok (.aload_n 0, 1) := by decide +kernel
theorem dL_ifTurned_1 : decode cL_ifTurned 1 = .ok (.iload_n 1, 1) := by decide +kernel
theorem dL_ifTurned_2 : decode cL_ifTurned 2 = .ok (.iload_n 2, 1) := by decide +kernel
theorem dL_ifTurned_3 : decode cL_ifTurned 3 = .ok (.invokevirtual 54, 3) := by decide +kernel
theorem dL_ifTurned_6 : decode cL_ifTurned 6 = .ok (.istore_n 3, 1) := by decide +kernel
theorem dL_ifTurned_7 : decode cL_ifTurned 7 = .ok (.goto 13, 3) := by decide +kernel
theorem dL_ifTurned_10 : decode cL_ifTurned 10 = .ok (.astore 4, 2) := by decide +kernel
theorem dL_ifTurned_12 : decode cL_ifTurned 12 = .ok (.bipush (-31), 2) := by decide +kernel
theorem dL_ifTurned_14 : decode cL_ifTurned 14 = .ok (.ireturn, 1) := by decide +kernel
theorem dL_ifTurned_15 : decode cL_ifTurned 15 = .ok (.astore 4, 2) := by decide +kernel
theorem dL_ifTurned_17 : decode cL_ifTurned 17 = .ok (.bipush (-32), 2) := by decide +kernel
theorem dL_ifTurned_19 : decode cL_ifTurned 19 = .ok (.ireturn, 1) := by decide +kernel
theorem dL_ifTurned_20 : decode cL_ifTurned 20 = .ok (.iload_n 3, 1) := by decide +kernel
theorem dL_ifTurned_21 : decode cL_ifTurned 21 = .ok (.ireturn, 1) := by decide +kernel
theorem dL_step_0 : decode cL_step 0 = .ok (.iload_n 1, 1) := by decide +kernel
theorem dL_step_1 : decode cL_step 1 = .ok (.iload_n 2, 1) := by decide +kernel
theorem dL_step_2 : decode cL_step 2 = .ok (.iadd, 1) := by decide +kernel
theorem dL_step_3 : decode cL_step 3 = .ok (.bipush 6, 2) := by decide +kernel
theorem dL_step_5 : decode cL_step 5 = .ok (.irem, 1) := by decide +kernel
theorem dL_step_6 : decode cL_step 6 = .ok (.istore_n 3, 1) := by decide +kernel
theorem dL_step_7 : decode cL_step 7 = .ok (.iload_n 0, 1) := by decide +kernel
theorem dL_step_8 : decode cL_step 8 = .ok (.iload_n 3, 1) := by decide +kernel
theorem dL_step_9 : decode cL_step 9 = .ok (.ishr, 1) := by decide +kernel
theorem dL_step_10 : decode cL_step 10 = .ok (.iconst 1, 1) := by decide +kernel
theorem dL_step_11 : decode cL_step 11 = .ok (.iand, 1) := by decide +kernel
theorem dL_step_12 : decode cL_step 12 = .ok (.ifCond .ne 13, 3) := by decide +kernel
theorem dL_step_15 : decode cL_step 15 = .ok (.iload_n 3, 1) := by decide +kernel
theorem dL_step_16 : decode cL_step 16 = .ok (.iload_n 2, 1) := by decide +kernel
theorem dL_step_17 : decode cL_step 17 = .ok (.iadd, 1) := by decide +kernel
theorem dL_step_18 : decode cL_step 18 = .ok (.bipush 6, 2) := by decide +kernel
theorem dL_step_20 : decode cL_step 20 = .ok (.irem, 1) := by decide +kernel
theorem dL_step_21 : decode cL_step 21 = .ok (.istore_n 3, 1) := by decide +kernel
theorem dL_step_22 : decode cL_step 22 = .ok (.goto (-15), 3) := by decide +kernel
theorem dL_step_25 : decode cL_step 25 = .ok (.iload_n 3, 1) := by decide +kernel
theorem dL_step_26 : decode cL_step 26 = .ok (.ireturn, 1) := by decide +kernel
theorem dL_doTurn_0 : decode cL_doTurn 0 = .ok (.aload_n 1, 1) := by decide +kernel
theorem dL_doTurn_1 : decode cL_doTurn 1 = .ok (.iload_n 2, 1) := by decide +kernel
theorem dL_doTurn_2 : decode cL_doTurn 2 = .ok (.iconst 5, 1) := by decide +kernel
theorem dL_doTurn_3 : decode cL_doTurn 3 = .ok (.irem, 1) := by decide +kernel
theorem dL_doTurn_4 : decode cL_doTurn 4 = .ok (.iaload, 1) := by decide +kernel
theorem dL_doTurn_5 : decode cL_doTurn 5 = .ok (.istore_n 3, 1) := by decide +kernel
theorem dL_doTurn_6 : decode cL_doTurn 6 = .ok (.aload_n 1, 1) := by decide +kernel
theorem dL_doTurn_7 : decode cL_doTurn 7 = .ok (.iconst 5, 1) := by decide +kernel
theorem dL_doTurn_8 : decode cL_doTurn 8 = .ok (.iload_n 2, 1) := by decide +kernel
theorem dL_doTurn_9 : decode cL_doTurn 9 = .ok (.iconst 5, 1) := by decide +kernel
theorem dL_doTurn_10 : decode cL_doTurn 10 = .ok (.irem, 1) := by decide +kernel
theorem dL_doTurn_11 : decode cL_doTurn 11 = .ok (.iadd, 1) := by decide +kernel
theorem dL_doTurn_12 : decode cL_doTurn 12 = .ok (.iaload, 1) := by decide +kernel
theorem dL_doTurn_13 : decode cL_doTurn 13 = .ok (.istore 4, 2) := by decide +kernel
theorem dL_doTurn_15 : decode cL_doTurn 15 = .ok (.iconst 0, 1) := by decide +kernel
theorem dL_doTurn_16 : decode cL_doTurn 16 = .ok (.istore 5, 2) := by decide +kernel
theorem dL_doTurn_18 : decode cL_doTurn 18 = .ok (.iload 5, 2) := by decide +kernel
theorem dL_doTurn_20 : decode cL_doTurn 20 = .ok (.bipush 6, 2) := by decide +kernel
theorem dL_doTurn_22 : decode cL_doTurn 22 = .ok (.if_icmp .ge 76, 3) := by decide +kernel
theorem dL_doTurn_25 : decode cL_doTurn 25 = .ok (.iload_n 3, 1) := by decide +kernel
theorem dL_doTurn_26 : decode cL_doTurn 26 = .ok (.aload_n 0, 1) := by decide +kernel
theorem dL_doTurn_27 : decode cL_doTurn 27 = .ok (.iload 5, 2) := by decide +kernel
theorem dL_doTurn_29 : decode cL_doTurn 29 = .ok (.iaload, 1) := by decide +kernel
theorem dL_doTurn_30 : decode cL_doTurn 30 = .ok (.ishr, 1) := by decide +kernel
theorem dL_doTurn_31 : decode cL_doTurn 31 = .ok (.iconst 1, 1) := by decide +kernel
theorem dL_doTurn_32 : decode cL_doTurn 32 = .ok (.iand, 1) := by decide +kernel
theorem dL_doTurn_33 : decode cL_doTurn 33 = .ok (.ifCond .ne 6, 3) := by decide +kernel
theorem dL_doTurn_36 : decode cL_doTurn 36 = .ok (.goto 56, 3) := by decide +kernel
theorem dL_doTurn_39 : decode cL_doTurn 39 = .ok (.aload_n 0, 1) := by decide +kernel
theorem dL_doTurn_40 : decode cL_doTurn 40 = .ok (.iload 5, 2) := by decide +kernel
theorem dL_doTurn_42 : decode cL_doTurn 42 = .ok (.iload_n 3, 1) := by decide +kernel
theorem dL_doTurn_43 : decode cL_doTurn 43 = .ok (.aload_n 0, 1) := by decide +kernel
theorem dL_doTurn_44 : decode cL_doTurn 44 = .ok (.iload 5, 2) := by decide +kernel
theorem dL_doTurn_46 : decode cL_doTurn 46 = .ok (.iaload, 1) := by decide +kernel
theorem dL_doTurn_47 : decode cL_doTurn 47 = .ok (.iload_n 2, 1) := by decide +kernel
theorem dL_doTurn_48 : decode cL_doTurn 48 = .ok (.iconst 5, 1) := by decide +kernel
theorem dL_doTurn_49 : decode cL_doTurn 49 = .ok (.if_icmp .ge 7, 3) := by decide +kernel
theorem dL_doTurn_52 : decode cL_doTurn 52 = .ok (.iconst 1, 1) := by decide +kernel
theorem dL_doTurn_53 : decode cL_doTurn 53 = .ok (.goto 4, 3) := by decide +kernel
theorem dL_doTurn_56 : decode cL_doTurn 56 = .ok (.iconst 5, 1) := by decide +kernel
theorem dL_doTurn_57 : decode cL_doTurn 57 = .ok (.invokestatic 57, 3) := by decide +kernel
theorem dL_doTurn_60 : decode cL_doTurn 60 = .ok (.iastore, 1) := by decide +kernel
theorem dL_doTurn_61 : decode cL_doTurn 61 = .ok (.aload_n 0, 1) := by decide +kernel
theorem dL_doTurn_62 : decode cL_doTurn 62 = .ok (.bipush 6, 2) := by decide +kernel
theorem dL_doTurn_64 : decode cL_doTurn 64 = .ok (.iload 5, 2) := by decide +kernel
theorem dL_doTurn_66 : decode cL_doTurn 66 = .ok (.iadd, 1) := by decide +kernel
theorem dL_doTurn_67 : decode cL_doTurn 67 = .ok (.aload_n 0, 1) := by decide +kernel
theorem dL_doTurn_68 : decode cL_doTurn 68 = .ok (.bipush 6, 2) := by decide +kernel
theorem dL_doTurn_70 : decode cL_doTurn 70 = .ok (.iload 5, 2) := by decide +kernel
theorem dL_doTurn_72 : decode cL_doTurn 72 = .ok (.iadd, 1) := by decide +kernel
theorem dL_doTurn_73 : decode cL_doTurn 73 = .ok (.iaload, 1) := by decide +kernel
theorem dL_doTurn_74 : decode cL_doTurn 74 = .ok (.iload_n 2, 1) := by decide +kernel
theorem dL_doTurn_75 : decode cL_doTurn 75 = .ok (.iconst 5, 1) := by decide +kernel
theorem dL_doTurn_76 : decode cL_doTurn 76 = .ok (.if_icmp .ge 8, 3) := by decide +kernel
theorem dL_doTurn_79 : decode cL_doTurn 79 = .ok (.iload 4, 2) := by decide +kernel
theorem dL_doTurn_81 : decode cL_doTurn 81 = .ok (.goto 7, 3) := by decide +kernel
theorem dL_doTurn_84 : decode cL_doTurn 84 = .ok (.iconst 5, 1) := by decide +kernel
theorem dL_doTurn_85 : decode cL_doTurn 85 = .ok (.iload 4, 2) := by decide +kernel
theorem dL_doTurn_87 : decode cL_doTurn 87 = .ok (.isub, 1) := by decide +kernel
theorem dL_doTurn_88 : decode cL_doTurn 88 = .ok (.iadd, 1) := by decide +kernel
theorem dL_doTurn_89 : decode cL_doTurn 89 = .ok (.iconst 5, 1) := by decide +kernel
theorem dL_doTurn_90 : decode cL_doTurn 90 = .ok (.irem, 1) := by decide +kernel
theorem dL_doTurn_91 : decode cL_doTurn 91 = .ok (.iastore, 1) := by decide +kernel
theorem dL_doTurn_92 : decode cL_doTurn 92 = .ok (.iinc 5 1, 3) := by decide +kernel
theorem dL_doTurn_95 : decode cL_doTurn 95 = .ok (.goto (-77), 3) := by decide +kernel
theorem dL_doTurn_98 : decode cL_doTurn 98 = .ok (.return_, 1) := by decide +kernel
theorem dL_first_0 : decode cL_first 0 = .ok (.iconst 0, 1) := by decide +kernel
theorem dL_first_1 : decode cL_first 1 = .ok (.istore_n 1, 1) := by decide +kernel
theorem dL_first_2 : decode cL_first 2 = .ok (.iload_n 1, 1) := by decide +kernel
theorem dL_first_3 : decode cL_first 3 = .ok (.bipush 6, 2) := by decide +kernel
theorem dL_first_5 : decode cL_first 5 = .ok (.if_icmp .ge 20, 3) := by decide +kernel
theorem dL_first_8 : decode cL_first 8 = .ok (.aload_n 0, 1) := by decide +kernel
theorem dL_first_9 : decode cL_first 9 = .ok (.iload_n 1, 1) := by decide +kernel
theorem dL_first_10 : decode cL_first 10 = .ok (.iload_n 1, 1) := by decide +kernel
theorem dL_first_11 : decode cL_first 11 = .ok (.iastore, 1) := by decide +kernel
theorem dL_first_12 : decode cL_first 12 = .ok (.aload_n 0, 1) := by decide +kernel
theorem dL_first_13 : decode cL_first 13 = .ok (.bipush 6, 2) := by decide +kernel
theorem dL_first_15 : decode cL_first 15 = .ok (.iload_n 1, 1) := by decide +kernel
theorem dL_first_16 : decode cL_first 16 = .ok (.iadd, 1) := by decide +kernel
theorem dL_first_17 : decode cL_first 17 = .ok (.iconst 0, 1) := by decide +kernel
theorem dL_first_18 : decode cL_first 18 = .ok (.iastore, 1) := by decide +kernel
theorem dL_first_19 : decode cL_first 19 = .ok (.iinc 1 1, 3) := by decide +kernel
theorem dL_first_22 : decode cL_first 22 = .ok (.goto (-20), 3) := by decide +kernel
theorem dL_first_25 : decode cL_first 25 = .ok (.return_, 1) := by decide +kernel
theorem dL_moved_0 : decode cL_moved 0 = .ok (.iconst 0, 1) := by decide +kernel
theorem dL_moved_1 : decode cL_moved 1 = .ok (.istore_n 1, 1) := by decide +kernel
theorem dL_moved_2 : decode cL_moved 2 = .ok (.iconst 0, 1) := by decide +kernel
theorem dL_moved_3 : decode cL_moved 3 = .ok (.istore_n 2, 1) := by decide +kernel
theorem dL_moved_4 : decode cL_moved 4 = .ok (.iload_n 2, 1) := by decide +kernel
theorem dL_moved_5 : decode cL_moved 5 = .ok (.bipush 6, 2) := by decide +kernel
theorem dL_moved_7 : decode cL_moved 7 = .ok (.if_icmp .ge 37, 3) := by decide +kernel
theorem dL_moved_10 : decode cL_moved 10 = .ok (.iload_n 1, 1) := by decide +kernel
theorem dL_moved_11 : decode cL_moved 11 = .ok (.aload_n 0, 1) := by decide +kernel
theorem dL_moved_12 : decode cL_moved 12 = .ok (.iload_n 2, 1) := by decide +kernel
theorem dL_moved_13 : decode cL_moved 13 = .ok (.iaload, 1) := by decide +kernel
theorem dL_moved_14 : decode cL_moved 14 = .ok (.iload_n 2, 1) := by decide +kernel
theorem dL_moved_15 : decode cL_moved 15 = .ok (.if_icmp .ne 12, 3) := by decide +kernel
theorem dL_moved_18 : decode cL_moved 18 = .ok (.aload_n 0, 1) := by decide +kernel
theorem dL_moved_19 : decode cL_moved 19 = .ok (.bipush 6, 2) := by decide +kernel
theorem dL_moved_21 : decode cL_moved 21 = .ok (.iload_n 2, 1) := by decide +kernel
theorem dL_moved_22 : decode cL_moved 22 = .ok (.iadd, 1) := by decide +kernel
theorem dL_moved_23 : decode cL_moved 23 = .ok (.iaload, 1) := by decide +kernel
theorem dL_moved_24 : decode cL_moved 24 = .ok (.ifCond .eq 11, 3) := by decide +kernel
theorem dL_moved_27 : decode cL_moved 27 = .ok (.iconst 1, 1) := by decide +kernel
theorem dL_moved_28 : decode cL_moved 28 = .ok (.aload_n 0, 1) := by decide +kernel
theorem dL_moved_29 : decode cL_moved 29 = .ok (.iload_n 2, 1) := by decide +kernel
theorem dL_moved_30 : decode cL_moved 30 = .ok (.iaload, 1) := by decide +kernel
theorem dL_moved_31 : decode cL_moved 31 = .ok (.ishl, 1) := by decide +kernel
theorem dL_moved_32 : decode cL_moved 32 = .ok (.goto 4, 3) := by decide +kernel
theorem dL_moved_35 : decode cL_moved 35 = .ok (.iconst 0, 1) := by decide +kernel
theorem dL_moved_36 : decode cL_moved 36 = .ok (.ior, 1) := by decide +kernel
theorem dL_moved_37 : decode cL_moved 37 = .ok (.istore_n 1, 1) := by decide +kernel
theorem dL_moved_38 : decode cL_moved 38 = .ok (.iinc 2 1, 3) := by decide +kernel
theorem dL_moved_41 : decode cL_moved 41 = .ok (.goto (-37), 3) := by decide +kernel
theorem dL_moved_44 : decode cL_moved 44 = .ok (.iload_n 1, 1) := by decide +kernel
theorem dL_moved_45 : decode cL_moved 45 = .ok (.ireturn, 1) := by decide +kernel
theorem dL_right_0 : decode cL_right 0 = .ok (.iconst 0, 1) := by decide +kernel
theorem dL_right_1 : decode cL_right 1 = .ok (.istore_n 3, 1) := by decide +kernel
theorem dL_right_2 : decode cL_right 2 = .ok (.iconst 0, 1) := by decide +kernel
theorem dL_right_3 : decode cL_right 3 = .ok (.istore 4, 2) := by decide +kernel
theorem dL_right_5 : decode cL_right 5 = .ok (.iload 4, 2) := by decide +kernel
theorem dL_right_7 : decode cL_right 7 = .ok (.bipush 6, 2) := by decide +kernel
theorem dL_right_9 : decode cL_right 9 = .ok (.if_icmp .ge 52, 3) := by decide +kernel
theorem dL_right_12 : decode cL_right 12 = .ok (.iload_n 3, 1) := by decide +kernel
theorem dL_right_13 : decode cL_right 13 = .ok (.aload_n 1, 1) := by decide +kernel
theorem dL_right_14 : decode cL_right 14 = .ok (.iconst 2, 1) := by decide +kernel
theorem dL_right_15 : decode cL_right 15 = .ok (.iaload, 1) := by decide +kernel
theorem dL_right_16 : decode cL_right 16 = .ok (.iconst 1, 1) := by decide +kernel
theorem dL_right_17 : decode cL_right 17 = .ok (.if_icmp .ne 35, 3) := by decide +kernel
theorem dL_right_20 : decode cL_right 20 = .ok (.aload_n 0, 1) := by decide +kernel
theorem dL_right_21 : decode cL_right 21 = .ok (.iload 4, 2) := by decide +kernel
theorem dL_right_23 : decode cL_right 23 = .ok (.iaload, 1) := by decide +kernel
theorem dL_right_24 : decode cL_right 24 = .ok (.aload_n 2, 1) := by decide +kernel
theorem dL_right_25 : decode cL_right 25 = .ok (.iload 4, 2) := by decide +kernel
theorem dL_right_27 : decode cL_right 27 = .ok (.iaload, 1) := by decide +kernel
theorem dL_right_28 : decode cL_right 28 = .ok (.if_icmp .ne 24, 3) := by decide +kernel
theorem dL_right_31 : decode cL_right 31 = .ok (.aload_n 0, 1) := by decide +kernel
theorem dL_right_32 : decode cL_right 32 = .ok (.bipush 6, 2) := by decide +kernel
theorem dL_right_34 : decode cL_right 34 = .ok (.iload 4, 2) := by decide +kernel
theorem dL_right_36 : decode cL_right 36 = .ok (.iadd, 1) := by decide +kernel
theorem dL_right_37 : decode cL_right 37 = .ok (.iaload, 1) := by decide +kernel
theorem dL_right_38 : decode cL_right 38 = .ok (.aload_n 2, 1) := by decide +kernel
theorem dL_right_39 : decode cL_right 39 = .ok (.bipush 6, 2) := by decide +kernel
theorem dL_right_41 : decode cL_right 41 = .ok (.iload 4, 2) := by decide +kernel
theorem dL_right_43 : decode cL_right 43 = .ok (.iadd, 1) := by decide +kernel
theorem dL_right_44 : decode cL_right 44 = .ok (.iaload, 1) := by decide +kernel
theorem dL_right_45 : decode cL_right 45 = .ok (.if_icmp .ne 7, 3) := by decide +kernel
theorem dL_right_48 : decode cL_right 48 = .ok (.iconst 1, 1) := by decide +kernel
theorem dL_right_49 : decode cL_right 49 = .ok (.goto 4, 3) := by decide +kernel
theorem dL_right_52 : decode cL_right 52 = .ok (.iconst 0, 1) := by decide +kernel
theorem dL_right_53 : decode cL_right 53 = .ok (.iadd, 1) := by decide +kernel
theorem dL_right_54 : decode cL_right 54 = .ok (.istore_n 3, 1) := by decide +kernel
theorem dL_right_55 : decode cL_right 55 = .ok (.iinc 4 1, 3) := by decide +kernel
theorem dL_right_58 : decode cL_right 58 = .ok (.goto (-53), 3) := by decide +kernel
theorem dL_right_61 : decode cL_right 61 = .ok (.iload_n 3, 1) := by decide +kernel
theorem dL_right_62 : decode cL_right 62 = .ok (.ireturn, 1) := by decide +kernel
theorem dL_period_0 : decode cL_period 0 = .ok (.bipush 12, 2) := by decide +kernel
theorem dL_period_2 : decode cL_period 2 = .ok (.newarray .int, 2) := by decide +kernel
theorem dL_period_4 : decode cL_period 4 = .ok (.astore_n 3, 1) := by decide +kernel
theorem dL_period_5 : decode cL_period 5 = .ok (.aload_n 3, 1) := by decide +kernel
theorem dL_period_6 : decode cL_period 6 = .ok (.invokestatic 62, 3) := by decide +kernel
theorem dL_period_9 : decode cL_period 9 = .ok (.iconst 0, 1) := by decide +kernel
theorem dL_period_10 : decode cL_period 10 = .ok (.istore 4, 2) := by decide +kernel
theorem dL_period_12 : decode cL_period 12 = .ok (.iload 4, 2) := by decide +kernel
theorem dL_period_14 : decode cL_period 14 = .ok (.ifCond .eq 10, 3) := by decide +kernel
theorem dL_period_17 : decode cL_period 17 = .ok (.aload_n 3, 1) := by decide +kernel
theorem dL_period_18 : decode cL_period 18 = .ok (.invokestatic 66, 3) := by decide +kernel
theorem dL_period_21 : decode cL_period 21 = .ok (.ifCond .eq 69, 3) := by decide +kernel
theorem dL_period_24 : decode cL_period 24 = .ok (.iload_n 2, 1) := by decide +kernel
theorem dL_period_25 : decode cL_period 25 = .ok (.iconst 1, 1) := by decide +kernel
theorem dL_period_26 : decode cL_period 26 = .ok (.isub, 1) := by decide +kernel
theorem dL_period_27 : decode cL_period 27 = .ok (.istore 5, 2) := by decide +kernel
theorem dL_period_29 : decode cL_period 29 = .ok (.iload 5, 2) := by decide +kernel
theorem dL_period_31 : decode cL_period 31 = .ok (.ifCond .lt 53, 3) := by decide +kernel
theorem dL_period_34 : decode cL_period 34 = .ok (.aload_n 3, 1) := by decide +kernel
theorem dL_period_35 : decode cL_period 35 = .ok (.aload_n 0, 1) := by decide +kernel
theorem dL_period_36 : decode cL_period 36 = .ok (.iload_n 1, 1) := by decide +kernel
theorem dL_period_37 : decode cL_period 37 = .ok (.iload 5, 2) := by decide +kernel
theorem dL_period_39 : decode cL_period 39 = .ok (.ifCond .ne 7, 3) := by decide +kernel
theorem dL_period_42 : decode cL_period 42 = .ok (.iconst 1, 1) := by decide +kernel
theorem dL_period_43 : decode cL_period 43 = .ok (.goto 28, 3) := by decide +kernel
theorem dL_period_46 : decode cL_period 46 = .ok (.iload 5, 2) := by decide +kernel
theorem dL_period_48 : decode cL_period 48 = .ok (.iconst 1, 1) := by decide +kernel
theorem dL_period_49 : decode cL_period 49 = .ok (.if_icmp .ne 8, 3) := by decide +kernel
theorem dL_period_52 : decode cL_period 52 = .ok (.bipush 10, 2) := by decide +kernel
theorem dL_period_54 : decode cL_period 54 = .ok (.goto 17, 3) := by decide +kernel
theorem dL_period_57 : decode cL_period 57 = .ok (.iload 5, 2) := by decide +kernel
theorem dL_period_59 : decode cL_period 59 = .ok (.iconst 2, 1) := by decide +kernel
theorem dL_period_60 : decode cL_period 60 = .ok (.if_icmp .ne 8, 3) := by decide +kernel
theorem dL_period_63 : decode cL_period 63 = .ok (.bipush 100, 2) := by decide +kernel
theorem dL_period_65 : decode cL_period 65 = .ok (.goto 6, 3) := by decide +kernel
theorem dL_period_68 : decode cL_period 68 = .ok (.sipush 1000, 3) := by decide +kernel
theorem dL_period_71 : decode cL_period 71 = .ok (.idiv, 1) := by decide +kernel
theorem dL_period_72 : decode cL_period 72 = .ok (.bipush 10, 2) := by decide +kernel
theorem dL_period_74 : decode cL_period 74 = .ok (.irem, 1) := by decide +kernel
theorem dL_period_75 : decode cL_period 75 = .ok (.invokestatic 70, 3) := by decide +kernel
theorem dL_period_78 : decode cL_period 78 = .ok (.iinc 5 (-1), 3) := by decide +kernel
theorem dL_period_81 : decode cL_period 81 = .ok (.goto (-52), 3) := by decide +kernel
theorem dL_period_84 : decode cL_period 84 = .ok (.iinc 4 1, 3) := by decide +kernel
theorem dL_period_87 : decode cL_period 87 = .ok (.goto (-75), 3) := by decide +kernel
theorem dL_period_90 : decode cL_period 90 = .ok (.iload 4, 2) := by decide +kernel
theorem dL_period_92 : decode cL_period 92 = .ok (.ireturn, 1) := by decide +kernel
theorem dL_ones_0 : decode cL_ones 0 = .ok (.iconst 0, 1) := by decide +kernel
theorem dL_ones_1 : decode cL_ones 1 = .ok (.istore_n 1, 1) := by decide +kernel
theorem dL_ones_2 : decode cL_ones 2 = .ok (.iload_n 0, 1) := by decide +kernel
theorem dL_ones_3 : decode cL_ones 3 = .ok (.istore_n 2, 1) := by decide +kernel
theorem dL_ones_4 : decode cL_ones 4 = .ok (.iload_n 2, 1) := by decide +kernel
theorem dL_ones_5 : decode cL_ones 5 = .ok (.ifCond .le 15, 3) := by decide +kernel
theorem dL_ones_8 : decode cL_ones 8 = .ok (.iinc 1 1, 3) := by decide +kernel
theorem dL_ones_11 : decode cL_ones 11 = .ok (.iload_n 2, 1) := by decide +kernel
theorem dL_ones_12 : decode cL_ones 12 = .ok (.iload_n 2, 1) := by decide +kernel
theorem dL_ones_13 : decode cL_ones 13 = .ok (.iconst 1, 1) := by decide +kernel
theorem dL_ones_14 : decode cL_ones 14 = .ok (.isub, 1) := by decide +kernel
theorem dL_ones_15 : decode cL_ones 15 = .ok (.iand, 1) := by decide +kernel
theorem dL_ones_16 : decode cL_ones 16 = .ok (.istore_n 2, 1) := by decide +kernel
theorem dL_ones_17 : decode cL_ones 17 = .ok (.goto (-13), 3) := by decide +kernel
theorem dL_ones_20 : decode cL_ones 20 = .ok (.iload_n 1, 1) := by decide +kernel
theorem dL_ones_21 : decode cL_ones 21 = .ok (.ireturn, 1) := by decide +kernel
theorem dL_areKeys_0 : decode cL_areKeys 0 = .ok (.iconst 0, 1) := by decide +kernel
theorem dL_areKeys_1 : decode cL_areKeys 1 = .ok (.istore_n 3, 1) := by decide +kernel
theorem dL_areKeys_2 : decode cL_areKeys 2 = .ok (.bipush 7, 2) := by decide +kernel
theorem dL_areKeys_4 : decode cL_areKeys 4 = .ok (.istore 4, 2) := by decide +kernel
theorem dL_areKeys_6 : decode cL_areKeys 6 = .ok (.iconst 0, 1) := by decide +kernel
theorem dL_areKeys_7 : decode cL_areKeys 7 = .ok (.istore 5, 2) := by decide +kernel
theorem dL_areKeys_9 : decode cL_areKeys 9 = .ok (.bipush 12, 2) := by decide +kernel
theorem dL_areKeys_11 : decode cL_areKeys 11 = .ok (.newarray .int, 2) := by decide +kernel
theorem dL_areKeys_13 : decode cL_areKeys 13 = .ok (.astore 6, 2) := by decide +kernel
theorem dL_areKeys_15 : decode cL_areKeys 15 = .ok (.iconst 0, 1) := by decide +kernel
theorem dL_areKeys_16 : decode cL_areKeys 16 = .ok (.istore 7, 2) := by decide +kernel
theorem dL_areKeys_18 : decode cL_areKeys 18 = .ok (.iload 7, 2) := by decide +kernel
theorem dL_areKeys_20 : decode cL_areKeys 20 = .ok (.iconst 5, 1) := by decide +kernel
theorem dL_areKeys_21 : decode cL_areKeys 21 = .ok (.if_icmp .ge 361, 3) := by decide +kernel
theorem dL_areKeys_24 : decode cL_areKeys 24 = .ok (.aload_n 1, 1) := by decide +kernel
theorem dL_areKeys_25 : decode cL_areKeys 25 = .ok (.iload 7, 2) := by decide +kernel
theorem dL_areKeys_27 : decode cL_areKeys 27 = .ok (.iconst 1, 1) := by decide +kernel
theorem dL_areKeys_28 : decode cL_areKeys 28 = .ok (.invokestatic 74, 3) := by decide +kernel
theorem dL_areKeys_31 : decode cL_areKeys 31 = .ok (.istore 8, 2) := by decide +kernel
theorem dL_areKeys_33 : decode cL_areKeys 33 = .ok (.aload_n 1, 1) := by decide +kernel
theorem dL_areKeys_34 : decode cL_areKeys 34 = .ok (.iload 7, 2) := by decide +kernel
theorem dL_areKeys_36 : decode cL_areKeys 36 = .ok (.iaload, 1) := by decide +kernel
theorem dL_areKeys_37 : decode cL_areKeys 37 = .ok (.aload_n 2, 1) := by decide +kernel
theorem dL_areKeys_38 : decode cL_areKeys 38 = .ok (.iconst 3, 1) := by decide +kernel
theorem dL_areKeys_39 : decode cL_areKeys 39 = .ok (.iaload, 1) := by decide +kernel
theorem dL_areKeys_40 : decode cL_areKeys 40 = .ok (.iand, 1) := by decide +kernel
theorem dL_areKeys_41 : decode cL_areKeys 41 = .ok (.ifCond .eq 7, 3) := by decide +kernel
theorem dL_areKeys_44 : decode cL_areKeys 44 = .ok (.iconst 1, 1) := by decide +kernel
theorem dL_areKeys_45 : decode cL_areKeys 45 = .ok (.goto 4, 3) := by decide +kernel
theorem dL_areKeys_48 : decode cL_areKeys 48 = .ok (.iconst 0, 1) := by decide +kernel
theorem dL_areKeys_49 : decode cL_areKeys 49 = .ok (.istore 9, 2) := by decide +kernel
theorem dL_areKeys_51 : decode cL_areKeys 51 = .ok (.iload 5, 2) := by decide +kernel
theorem dL_areKeys_53 : decode cL_areKeys 53 = .ok (.iload 9, 2) := by decide +kernel
theorem dL_areKeys_55 : decode cL_areKeys 55 = .ok (.ifCond .eq 7, 3) := by decide +kernel
theorem dL_areKeys_58 : decode cL_areKeys 58 = .ok (.iconst 1, 1) := by decide +kernel
theorem dL_areKeys_59 : decode cL_areKeys 59 = .ok (.goto 4, 3) := by decide +kernel
theorem dL_areKeys_62 : decode cL_areKeys 62 = .ok (.iconst 0, 1) := by decide +kernel
theorem dL_areKeys_63 : decode cL_areKeys 63 = .ok (.iadd, 1) := by decide +kernel
theorem dL_areKeys_64 : decode cL_areKeys 64 = .ok (.istore 5, 2) := by decide +kernel
theorem dL_areKeys_66 : decode cL_areKeys 66 = .ok (.aload_n 0, 1) := by decide +kernel
theorem dL_areKeys_67 : decode cL_areKeys 67 = .ok (.iload 7, 2) := by decide +kernel
theorem dL_areKeys_69 : decode cL_areKeys 69 = .ok (.iconst 0, 1) := by decide +kernel
theorem dL_areKeys_70 : decode cL_areKeys 70 = .ok (.invokevirtual 42, 3) := by decide +kernel
theorem dL_areKeys_73 : decode cL_areKeys 73 = .ok (.aload_n 1, 1) := by decide +kernel
theorem dL_areKeys_74 : decode cL_areKeys 74 = .ok (.iload 7, 2) := by decide +kernel
theorem dL_areKeys_76 : decode cL_areKeys 76 = .ok (.iaload, 1) := by decide +kernel
theorem dL_areKeys_77 : decode cL_areKeys 77 = .ok (.if_icmp .ne 80, 3) := by decide +kernel
theorem dL_areKeys_80 : decode cL_areKeys 80 = .ok (.aload_n 0, 1) := by decide +kernel
theorem dL_areKeys_81 : decode cL_areKeys 81 = .ok (.iload 7, 2) := by decide +kernel
theorem dL_areKeys_83 : decode cL_areKeys 83 = .ok (.iconst 1, 1) := by decide +kernel
theorem dL_areKeys_84 : decode cL_areKeys 84 = .ok (.invokevirtual 42, 3) := by decide +kernel
theorem dL_areKeys_87 : decode cL_areKeys 87 = .ok (.aload_n 1, 1) := by decide +kernel
theorem dL_areKeys_88 : decode cL_areKeys 88 = .ok (.iconst 5, 1) := by decide +kernel
theorem dL_areKeys_89 : decode cL_areKeys 89 = .ok (.iload 7, 2) := by decide +kernel
theorem dL_areKeys_91 : decode cL_areKeys 91 = .ok (.iadd, 1) := by decide +kernel
theorem dL_areKeys_92 : decode cL_areKeys 92 = .ok (.iaload, 1) := by decide +kernel
theorem dL_areKeys_93 : decode cL_areKeys 93 = .ok (.if_icmp .ne 64, 3) := by decide +kernel
theorem dL_areKeys_96 : decode cL_areKeys 96 = .ok (.aload_n 0, 1) := by decide +kernel
theorem dL_areKeys_97 : decode cL_areKeys 97 = .ok (.iload 7, 2) := by decide +kernel
theorem dL_areKeys_99 : decode cL_areKeys 99 = .ok (.iconst 2, 1) := by decide +kernel
theorem dL_areKeys_100 : decode cL_areKeys 100 = .ok (.invokevirtual 42, 3) := by decide +kernel
theorem dL_areKeys_103 : decode cL_areKeys 103 = .ok (.iload 8, 2) := by decide +kernel
theorem dL_areKeys_105 : decode cL_areKeys 105 = .ok (.if_icmp .ne 52, 3) := by decide +kernel
theorem dL_areKeys_108 : decode cL_areKeys 108 = .ok (.aload_n 0, 1) := by decide +kernel
theorem dL_areKeys_109 : decode cL_areKeys 109 = .ok (.iload 7, 2) := by decide +kernel
theorem dL_areKeys_111 : decode cL_areKeys 111 = .ok (.iconst 3, 1) := by decide +kernel
theorem dL_areKeys_112 : decode cL_areKeys 112 = .ok (.invokevirtual 42, 3) := by decide +kernel
theorem dL_areKeys_115 : decode cL_areKeys 115 = .ok (.iload 8, 2) := by decide +kernel
theorem dL_areKeys_117 : decode cL_areKeys 117 = .ok (.if_icmp .ne 40, 3) := by decide +kernel
theorem dL_areKeys_120 : decode cL_areKeys 120 = .ok (.aload_n 0, 1) := by decide +kernel
theorem dL_areKeys_121 : decode cL_areKeys 121 = .ok (.iload 7, 2) := by decide +kernel
theorem dL_areKeys_123 : decode cL_areKeys 123 = .ok (.iconst 4, 1) := by decide +kernel
theorem dL_areKeys_124 : decode cL_areKeys 124 = .ok (.invokevirtual 42, 3) := by decide +kernel
theorem dL_areKeys_127 : decode cL_areKeys 127 = .ok (.iload 9, 2) := by decide +kernel
theorem dL_areKeys_129 : decode cL_areKeys 129 = .ok (.ifCond .eq 7, 3) := by decide +kernel
theorem dL_areKeys_132 : decode cL_areKeys 132 = .ok (.iconst 1, 1) := by decide +kernel
theorem dL_areKeys_133 : decode cL_areKeys 133 = .ok (.goto 4, 3) := by decide +kernel
theorem dL_areKeys_136 : decode cL_areKeys 136 = .ok (.iconst 0, 1) := by decide +kernel
theorem dL_areKeys_137 : decode cL_areKeys 137 = .ok (.if_icmp .ne 20, 3) := by decide +kernel
theorem dL_areKeys_140 : decode cL_areKeys 140 = .ok (.aload_n 0, 1) := by decide +kernel
theorem dL_areKeys_141 : decode cL_areKeys 141 = .ok (.iload 7, 2) := by decide +kernel
theorem dL_areKeys_143 : decode cL_areKeys 143 = .ok (.iconst 5, 1) := by decide +kernel
theorem dL_areKeys_144 : decode cL_areKeys 144 = .ok (.invokevirtual 42, 3) := by decide +kernel
theorem dL_areKeys_147 : decode cL_areKeys 147 = .ok (.aload_n 1, 1) := by decide +kernel
theorem dL_areKeys_148 : decode cL_areKeys 148 = .ok (.bipush 10, 2) := by decide +kernel
theorem dL_areKeys_150 : decode cL_areKeys 150 = .ok (.iload 7, 2) := by decide +kernel
theorem dL_areKeys_152 : decode cL_areKeys 152 = .ok (.iadd, 1) := by decide +kernel
theorem dL_areKeys_153 : decode cL_areKeys 153 = .ok (.iaload, 1) := by decide +kernel
theorem dL_areKeys_154 : decode cL_areKeys 154 = .ok (.if_icmp .eq 5, 3) := by decide +kernel
theorem dL_areKeys_157 : decode cL_areKeys 157 = .ok (.iconst 0, 1) := by decide +kernel
theorem dL_areKeys_158 : decode cL_areKeys 158 = .ok (.ireturn, 1) := by decide +kernel
theorem dL_areKeys_159 : decode cL_areKeys 159 = .ok (.iconst 0, 1) := by decide +kernel
theorem dL_areKeys_160 : decode cL_areKeys 160 = .ok (.istore 10, 2) := by decide +kernel
theorem dL_areKeys_162 : decode cL_areKeys 162 = .ok (.iload 10, 2) := by decide +kernel
theorem dL_areKeys_164 : decode cL_areKeys 164 = .ok (.iconst 5, 1) := by decide +kernel
theorem dL_areKeys_165 : decode cL_areKeys 165 = .ok (.if_icmp .ge 211, 3) := by decide +kernel
theorem dL_areKeys_168 : decode cL_areKeys 168 = .ok (.sipush 1000, 3) := by decide +kernel
theorem dL_areKeys_171 : decode cL_areKeys 171 = .ok (.iload 7, 2) := by decide +kernel
theorem dL_areKeys_173 : decode cL_areKeys 173 = .ok (.imul, 1) := by decide +kernel
theorem dL_areKeys_174 : decode cL_areKeys 174 = .ok (.bipush 100, 2) := by decide +kernel
theorem dL_areKeys_176 : decode cL_areKeys 176 = .ok (.iload 10, 2) := by decide +kernel
theorem dL_areKeys_178 : decode cL_areKeys 178 = .ok (.imul, 1) := by decide +kernel
theorem dL_areKeys_179 : decode cL_areKeys 179 = .ok (.iadd, 1) := by decide +kernel
theorem dL_areKeys_180 : decode cL_areKeys 180 = .ok (.bipush 10, 2) := by decide +kernel
theorem dL_areKeys_182 : decode cL_areKeys 182 = .ok (.iconst 5, 1) := by decide +kernel
theorem dL_areKeys_183 : decode cL_areKeys 183 = .ok (.iload 7, 2) := by decide +kernel
theorem dL_areKeys_185 : decode cL_areKeys 185 = .ok (.iadd, 1) := by decide +kernel
theorem dL_areKeys_186 : decode cL_areKeys 186 = .ok (.imul, 1) := by decide +kernel
theorem dL_areKeys_187 : decode cL_areKeys 187 = .ok (.iadd, 1) := by decide +kernel
theorem dL_areKeys_188 : decode cL_areKeys 188 = .ok (.iconst 5, 1) := by decide +kernel
theorem dL_areKeys_189 : decode cL_areKeys 189 = .ok (.iadd, 1) := by decide +kernel
theorem dL_areKeys_190 : decode cL_areKeys 190 = .ok (.iload 10, 2) := by decide +kernel
theorem dL_areKeys_192 : decode cL_areKeys 192 = .ok (.iadd, 1) := by decide +kernel
theorem dL_areKeys_193 : decode cL_areKeys 193 = .ok (.istore 11, 2) := by decide +kernel
theorem dL_areKeys_195 : decode cL_areKeys 195 = .ok (.aload_n 1, 1) := by decide +kernel
theorem dL_areKeys_196 : decode cL_areKeys 196 = .ok (.iload 11, 2) := by decide +kernel
theorem dL_areKeys_198 : decode cL_areKeys 198 = .ok (.iconst 4, 1) := by decide +kernel
theorem dL_areKeys_199 : decode cL_areKeys 199 = .ok (.invokestatic 74, 3) := by decide +kernel
theorem dL_areKeys_202 : decode cL_areKeys 202 = .ok (.istore 12, 2) := by decide +kernel
theorem dL_areKeys_204 : decode cL_areKeys 204 = .ok (.aload 6, 2) := by decide +kernel
theorem dL_areKeys_206 : decode cL_areKeys 206 = .ok (.invokestatic 62, 3) := by decide +kernel
theorem dL_areKeys_209 : decode cL_areKeys 209 = .ok (.aload 6, 2) := by decide +kernel
theorem dL_areKeys_211 : decode cL_areKeys 211 = .ok (.aload_n 1, 1) := by decide +kernel
theorem dL_areKeys_212 : decode cL_areKeys 212 = .ok (.iload 7, 2) := by decide +kernel
theorem dL_areKeys_214 : decode cL_areKeys 214 = .ok (.invokestatic 70, 3) := by decide +kernel
theorem dL_areKeys_217 : decode cL_areKeys 217 = .ok (.aload 6, 2) := by decide +kernel
theorem dL_areKeys_219 : decode cL_areKeys 219 = .ok (.aload_n 1, 1) := by decide +kernel
theorem dL_areKeys_220 : decode cL_areKeys 220 = .ok (.iload 10, 2) := by decide +kernel
theorem dL_areKeys_222 : decode cL_areKeys 222 = .ok (.invokestatic 70, 3) := by decide +kernel
theorem dL_areKeys_225 : decode cL_areKeys 225 = .ok (.aload 6, 2) := by decide +kernel
theorem dL_areKeys_227 : decode cL_areKeys 227 = .ok (.aload_n 1, 1) := by decide +kernel
theorem dL_areKeys_228 : decode cL_areKeys 228 = .ok (.iconst 5, 1) := by decide +kernel
theorem dL_areKeys_229 : decode cL_areKeys 229 = .ok (.iload 7, 2) := by decide +kernel
theorem dL_areKeys_231 : decode cL_areKeys 231 = .ok (.iadd, 1) := by decide +kernel
theorem dL_areKeys_232 : decode cL_areKeys 232 = .ok (.invokestatic 70, 3) := by decide +kernel
theorem dL_areKeys_235 : decode cL_areKeys 235 = .ok (.aload 6, 2) := by decide +kernel
theorem dL_areKeys_237 : decode cL_areKeys 237 = .ok (.aload_n 1, 1) := by decide +kernel
theorem dL_areKeys_238 : decode cL_areKeys 238 = .ok (.iconst 5, 1) := by decide +kernel
theorem dL_areKeys_239 : decode cL_areKeys 239 = .ok (.iload 10, 2) := by decide +kernel
theorem dL_areKeys_241 : decode cL_areKeys 241 = .ok (.iadd, 1) := by decide +kernel
theorem dL_areKeys_242 : decode cL_areKeys 242 = .ok (.invokestatic 70, 3) := by decide +kernel
theorem dL_areKeys_245 : decode cL_areKeys 245 = .ok (.aload 6, 2) := by decide +kernel
theorem dL_areKeys_247 : decode cL_areKeys 247 = .ok (.invokestatic 66, 3) := by decide +kernel
theorem dL_areKeys_250 : decode cL_areKeys 250 = .ok (.istore 13, 2) := by decide +kernel
theorem dL_areKeys_252 : decode cL_areKeys 252 = .ok (.aload_n 0, 1) := by decide +kernel
theorem dL_areKeys_253 : decode cL_areKeys 253 = .ok (.iload 7, 2) := by decide +kernel
theorem dL_areKeys_255 : decode cL_areKeys 255 = .ok (.iload 10, 2) := by decide +kernel
theorem dL_areKeys_257 : decode cL_areKeys 257 = .ok (.iconst 0, 1) := by decide +kernel
theorem dL_areKeys_258 : decode cL_areKeys 258 = .ok (.invokevirtual 45, 3) := by decide +kernel
theorem dL_areKeys_261 : decode cL_areKeys 261 = .ok (.iload 13, 2) := by decide +kernel
theorem dL_areKeys_263 : decode cL_areKeys 263 = .ok (.if_icmp .ne 70, 3) := by decide +kernel
theorem dL_areKeys_266 : decode cL_areKeys 266 = .ok (.aload_n 0, 1) := by decide +kernel
theorem dL_areKeys_267 : decode cL_areKeys 267 = .ok (.iload 7, 2) := by decide +kernel
theorem dL_areKeys_269 : decode cL_areKeys 269 = .ok (.iload 10, 2) := by decide +kernel
theorem dL_areKeys_271 : decode cL_areKeys 271 = .ok (.iconst 1, 1) := by decide +kernel
theorem dL_areKeys_272 : decode cL_areKeys 272 = .ok (.invokevirtual 45, 3) := by decide +kernel
theorem dL_areKeys_275 : decode cL_areKeys 275 = .ok (.iload 13, 2) := by decide +kernel
theorem dL_areKeys_277 : decode cL_areKeys 277 = .ok (.invokestatic 78, 3) := by decide +kernel
theorem dL_areKeys_280 : decode cL_areKeys 280 = .ok (.if_icmp .ne 53, 3) := by decide +kernel
theorem dL_areKeys_283 : decode cL_areKeys 283 = .ok (.aload_n 0, 1) := by decide +kernel
theorem dL_areKeys_284 : decode cL_areKeys 284 = .ok (.iload 7, 2) := by decide +kernel
theorem dL_areKeys_286 : decode cL_areKeys 286 = .ok (.iload 10, 2) := by decide +kernel
theorem dL_areKeys_288 : decode cL_areKeys 288 = .ok (.iconst 2, 1) := by decide +kernel
theorem dL_areKeys_289 : decode cL_areKeys 289 = .ok (.invokevirtual 45, 3) := by decide +kernel
theorem dL_areKeys_292 : decode cL_areKeys 292 = .ok (.iload 12, 2) := by decide +kernel
theorem dL_areKeys_294 : decode cL_areKeys 294 = .ok (.if_icmp .ne 39, 3) := by decide +kernel
theorem dL_areKeys_297 : decode cL_areKeys 297 = .ok (.aload_n 0, 1) := by decide +kernel
theorem dL_areKeys_298 : decode cL_areKeys 298 = .ok (.iload 7, 2) := by decide +kernel
theorem dL_areKeys_300 : decode cL_areKeys 300 = .ok (.iload 10, 2) := by decide +kernel
theorem dL_areKeys_302 : decode cL_areKeys 302 = .ok (.iconst 3, 1) := by decide +kernel
theorem dL_areKeys_303 : decode cL_areKeys 303 = .ok (.invokevirtual 45, 3) := by decide +kernel
theorem dL_areKeys_306 : decode cL_areKeys 306 = .ok (.iload 12, 2) := by decide +kernel
theorem dL_areKeys_308 : decode cL_areKeys 308 = .ok (.if_icmp .ne 25, 3) := by decide +kernel
theorem dL_areKeys_311 : decode cL_areKeys 311 = .ok (.aload_n 0, 1) := by decide +kernel
theorem dL_areKeys_312 : decode cL_areKeys 312 = .ok (.iload 7, 2) := by decide +kernel
theorem dL_areKeys_314 : decode cL_areKeys 314 = .ok (.iload 10, 2) := by decide +kernel
theorem dL_areKeys_316 : decode cL_areKeys 316 = .ok (.iconst 4, 1) := by decide +kernel
theorem dL_areKeys_317 : decode cL_areKeys 317 = .ok (.invokevirtual 45, 3) := by decide +kernel
theorem dL_areKeys_320 : decode cL_areKeys 320 = .ok (.iload 13, 2) := by decide +kernel
theorem dL_areKeys_322 : decode cL_areKeys 322 = .ok (.ifCond .ne 7, 3) := by decide +kernel
theorem dL_areKeys_325 : decode cL_areKeys 325 = .ok (.iconst 1, 1) := by decide +kernel
theorem dL_areKeys_326 : decode cL_areKeys 326 = .ok (.goto 4, 3) := by decide +kernel
theorem dL_areKeys_329 : decode cL_areKeys 329 = .ok (.iconst 0, 1) := by decide +kernel
theorem dL_areKeys_330 : decode cL_areKeys 330 = .ok (.if_icmp .eq 5, 3) := by decide +kernel
theorem dL_areKeys_333 : decode cL_areKeys 333 = .ok (.iconst 0, 1) := by decide +kernel
theorem dL_areKeys_334 : decode cL_areKeys 334 = .ok (.ireturn, 1) := by decide +kernel
theorem dL_areKeys_335 : decode cL_areKeys 335 = .ok (.iload 7, 2) := by decide +kernel
theorem dL_areKeys_337 : decode cL_areKeys 337 = .ok (.iload 10, 2) := by decide +kernel
theorem dL_areKeys_339 : decode cL_areKeys 339 = .ok (.if_icmp .ge 31, 3) := by decide +kernel
theorem dL_areKeys_342 : decode cL_areKeys 342 = .ok (.iload 13, 2) := by decide +kernel
theorem dL_areKeys_344 : decode cL_areKeys 344 = .ok (.invokestatic 78, 3) := by decide +kernel
theorem dL_areKeys_347 : decode cL_areKeys 347 = .ok (.iload 4, 2) := by decide +kernel
theorem dL_areKeys_349 : decode cL_areKeys 349 = .ok (.if_icmp .lt 6, 3) := by decide +kernel
theorem dL_areKeys_352 : decode cL_areKeys 352 = .ok (.goto 18, 3) := by decide +kernel
theorem dL_areKeys_355 : decode cL_areKeys 355 = .ok (.iload 13, 2) := by decide +kernel
theorem dL_areKeys_357 : decode cL_areKeys 357 = .ok (.invokestatic 78, 3) := by decide +kernel
theorem dL_areKeys_360 : decode cL_areKeys 360 = .ok (.istore 4, 2) := by decide +kernel
theorem dL_areKeys_362 : decode cL_areKeys 362 = .ok (.iconst 5, 1) := by decide +kernel
theorem dL_areKeys_363 : decode cL_areKeys 363 = .ok (.iload 7, 2) := by decide +kernel
theorem dL_areKeys_365 : decode cL_areKeys 365 = .ok (.imul, 1) := by decide +kernel
theorem dL_areKeys_366 : decode cL_areKeys 366 = .ok (.iload 10, 2) := by decide +kernel
theorem dL_areKeys_368 : decode cL_areKeys 368 = .ok (.iadd, 1) := by decide +kernel
theorem dL_areKeys_369 : decode cL_areKeys 369 = .ok (.istore_n 3, 1) := by decide +kernel
theorem dL_areKeys_370 : decode cL_areKeys 370 = .ok (.iinc 10 1, 3) := by decide +kernel
theorem dL_areKeys_373 : decode cL_areKeys 373 = .ok (.goto (-211), 3) := by decide +kernel
theorem dL_areKeys_376 : decode cL_areKeys 376 = .ok (.iinc 7 1, 3) := by decide +kernel
theorem dL_areKeys_379 : decode cL_areKeys 379 = .ok (.goto (-361), 3) := by decide +kernel
theorem dL_areKeys_382 : decode cL_areKeys 382 = .ok (.aload_n 0, 1) := by decide +kernel
theorem dL_areKeys_383 : decode cL_areKeys 383 = .ok (.invokevirtual 81, 3) := by decide +kernel
theorem dL_areKeys_386 : decode cL_areKeys 386 = .ok (.iload_n 3, 1) := by decide +kernel
theorem dL_areKeys_387 : decode cL_areKeys 387 = .ok (.if_icmp .ne 18, 3) := by decide +kernel
theorem dL_areKeys_390 : decode cL_areKeys 390 = .ok (.aload_n 0, 1) := by decide +kernel
theorem dL_areKeys_391 : decode cL_areKeys 391 = .ok (.bipush 7, 2) := by decide +kernel
theorem dL_areKeys_393 : decode cL_areKeys 393 = .ok (.invokevirtual 48, 3) := by decide +kernel
theorem dL_areKeys_396 : decode cL_areKeys 396 = .ok (.iload 5, 2) := by decide +kernel
theorem dL_areKeys_398 : decode cL_areKeys 398 = .ok (.if_icmp .ne 7, 3) := by decide +kernel
theorem dL_areKeys_401 : decode cL_areKeys 401 = .ok (.iconst 1, 1) := by decide +kernel
theorem dL_areKeys_402 : decode cL_areKeys 402 = .ok (.goto 4, 3) := by decide +kernel
theorem dL_areKeys_405 : decode cL_areKeys 405 = .ok (.iconst 0, 1) := by decide +kernel
theorem dL_areKeys_406 : decode cL_areKeys 406 = .ok (.ireturn, 1) := by decide +kernel
theorem dL_isSo_0 : decode cL_isSo 0 = .ok (.iconst 0, 1) := by decide +kernel
theorem dL_isSo_1 : decode cL_isSo 1 = .ok (.istore 5, 2) := by decide +kernel
theorem dL_isSo_3 : decode cL_isSo 3 = .ok (.iconst 0, 1) := by decide +kernel
theorem dL_isSo_4 : decode cL_isSo 4 = .ok (.istore 6, 2) := by decide +kernel
theorem dL_isSo_6 : decode cL_isSo 6 = .ok (.iconst 0, 1) := by decide +kernel
theorem dL_isSo_7 : decode cL_isSo 7 = .ok (.istore 7, 2) := by decide +kernel
theorem dL_isSo_9 : decode cL_isSo 9 = .ok (.iconst 0, 1) := by decide +kernel
theorem dL_isSo_10 : decode cL_isSo 10 = .ok (.istore 8, 2) := by decide +kernel
theorem dL_isSo_12 : decode cL_isSo 12 = .ok (.iload 8, 2) := by decide +kernel
theorem dL_isSo_14 : decode cL_isSo 14 = .ok (.bipush 6, 2) := by decide +kernel
theorem dL_isSo_16 : decode cL_isSo 16 = .ok (.if_icmp .ge 227, 3) := by decide +kernel
theorem dL_isSo_19 : decode cL_isSo 19 = .ok (.aload_n 1, 1) := by decide +kernel
theorem dL_isSo_20 : decode cL_isSo 20 = .ok (.iload 8, 2) := by decide +kernel
theorem dL_isSo_22 : decode cL_isSo 22 = .ok (.iaload, 1) := by decide +kernel
theorem dL_isSo_23 : decode cL_isSo 23 = .ok (.istore 9, 2) := by decide +kernel
theorem dL_isSo_25 : decode cL_isSo 25 = .ok (.aload_n 3, 1) := by decide +kernel
theorem dL_isSo_26 : decode cL_isSo 26 = .ok (.iconst 2, 1) := by decide +kernel
theorem dL_isSo_27 : decode cL_isSo 27 = .ok (.iaload, 1) := by decide +kernel
theorem dL_isSo_28 : decode cL_isSo 28 = .ok (.iconst 1, 1) := by decide +kernel
theorem dL_isSo_29 : decode cL_isSo 29 = .ok (.if_icmp .ne 35, 3) := by decide +kernel
theorem dL_isSo_32 : decode cL_isSo 32 = .ok (.aload 4, 2) := by decide +kernel
theorem dL_isSo_34 : decode cL_isSo 34 = .ok (.iload 8, 2) := by decide +kernel
theorem dL_isSo_36 : decode cL_isSo 36 = .ok (.iaload, 1) := by decide +kernel
theorem dL_isSo_37 : decode cL_isSo 37 = .ok (.iload 9, 2) := by decide +kernel
theorem dL_isSo_39 : decode cL_isSo 39 = .ok (.if_icmp .ne 25, 3) := by decide +kernel
theorem dL_isSo_42 : decode cL_isSo 42 = .ok (.aload 4, 2) := by decide +kernel
theorem dL_isSo_44 : decode cL_isSo 44 = .ok (.bipush 6, 2) := by decide +kernel
theorem dL_isSo_46 : decode cL_isSo 46 = .ok (.iload 8, 2) := by decide +kernel
theorem dL_isSo_48 : decode cL_isSo 48 = .ok (.iadd, 1) := by decide +kernel
theorem dL_isSo_49 : decode cL_isSo 49 = .ok (.iaload, 1) := by decide +kernel
theorem dL_isSo_50 : decode cL_isSo 50 = .ok (.aload_n 1, 1) := by decide +kernel
theorem dL_isSo_51 : decode cL_isSo 51 = .ok (.bipush 6, 2) := by decide +kernel
theorem dL_isSo_53 : decode cL_isSo 53 = .ok (.iload 8, 2) := by decide +kernel
theorem dL_isSo_55 : decode cL_isSo 55 = .ok (.iadd, 1) := by decide +kernel
theorem dL_isSo_56 : decode cL_isSo 56 = .ok (.iaload, 1) := by decide +kernel
theorem dL_isSo_57 : decode cL_isSo 57 = .ok (.if_icmp .ne 7, 3) := by decide +kernel
theorem dL_isSo_60 : decode cL_isSo 60 = .ok (.iconst 1, 1) := by decide +kernel
theorem dL_isSo_61 : decode cL_isSo 61 = .ok (.goto 4, 3) := by decide +kernel
theorem dL_isSo_64 : decode cL_isSo 64 = .ok (.iconst 0, 1) := by decide +kernel
theorem dL_isSo_65 : decode cL_isSo 65 = .ok (.istore 10, 2) := by decide +kernel
theorem dL_isSo_67 : decode cL_isSo 67 = .ok (.aload_n 0, 1) := by decide +kernel
theorem dL_isSo_68 : decode cL_isSo 68 = .ok (.iload 9, 2) := by decide +kernel
theorem dL_isSo_70 : decode cL_isSo 70 = .ok (.iconst 0, 1) := by decide +kernel
theorem dL_isSo_71 : decode cL_isSo 71 = .ok (.invokevirtual 38, 3) := by decide +kernel
theorem dL_isSo_74 : decode cL_isSo 74 = .ok (.iload 8, 2) := by decide +kernel
theorem dL_isSo_76 : decode cL_isSo 76 = .ok (.if_icmp .ne 40, 3) := by decide +kernel
theorem dL_isSo_79 : decode cL_isSo 79 = .ok (.aload_n 0, 1) := by decide +kernel
theorem dL_isSo_80 : decode cL_isSo 80 = .ok (.iload 9, 2) := by decide +kernel
theorem dL_isSo_82 : decode cL_isSo 82 = .ok (.iconst 1, 1) := by decide +kernel
theorem dL_isSo_83 : decode cL_isSo 83 = .ok (.invokevirtual 38, 3) := by decide +kernel
theorem dL_isSo_86 : decode cL_isSo 86 = .ok (.aload_n 1, 1) := by decide +kernel
theorem dL_isSo_87 : decode cL_isSo 87 = .ok (.bipush 6, 2) := by decide +kernel
theorem dL_isSo_89 : decode cL_isSo 89 = .ok (.iload 8, 2) := by decide +kernel
theorem dL_isSo_91 : decode cL_isSo 91 = .ok (.iadd, 1) := by decide +kernel
theorem dL_isSo_92 : decode cL_isSo 92 = .ok (.iaload, 1) := by decide +kernel
theorem dL_isSo_93 : decode cL_isSo 93 = .ok (.if_icmp .ne 23, 3) := by decide +kernel
theorem dL_isSo_96 : decode cL_isSo 96 = .ok (.aload_n 0, 1) := by decide +kernel
theorem dL_isSo_97 : decode cL_isSo 97 = .ok (.iload 9, 2) := by decide +kernel
theorem dL_isSo_99 : decode cL_isSo 99 = .ok (.iconst 3, 1) := by decide +kernel
theorem dL_isSo_100 : decode cL_isSo 100 = .ok (.invokevirtual 38, 3) := by decide +kernel
theorem dL_isSo_103 : decode cL_isSo 103 = .ok (.iload 10, 2) := by decide +kernel
theorem dL_isSo_105 : decode cL_isSo 105 = .ok (.ifCond .eq 7, 3) := by decide +kernel
theorem dL_isSo_108 : decode cL_isSo 108 = .ok (.iconst 1, 1) := by decide +kernel
theorem dL_isSo_109 : decode cL_isSo 109 = .ok (.goto 4, 3) := by decide +kernel
theorem dL_isSo_112 : decode cL_isSo 112 = .ok (.iconst 0, 1) := by decide +kernel
theorem dL_isSo_113 : decode cL_isSo 113 = .ok (.if_icmp .eq 5, 3) := by decide +kernel
theorem dL_isSo_116 : decode cL_isSo 116 = .ok (.iconst 0, 1) := by decide +kernel
theorem dL_isSo_117 : decode cL_isSo 117 = .ok (.ireturn, 1) := by decide +kernel
theorem dL_isSo_118 : decode cL_isSo 118 = .ok (.iload 5, 2) := by decide +kernel
theorem dL_isSo_120 : decode cL_isSo 120 = .ok (.aload_n 1, 1) := by decide +kernel
theorem dL_isSo_121 : decode cL_isSo 121 = .ok (.bipush 6, 2) := by decide +kernel
theorem dL_isSo_123 : decode cL_isSo 123 = .ok (.iload 8, 2) := by decide +kernel
theorem dL_isSo_125 : decode cL_isSo 125 = .ok (.iadd, 1) := by decide +kernel
theorem dL_isSo_126 : decode cL_isSo 126 = .ok (.iaload, 1) := by decide +kernel
theorem dL_isSo_127 : decode cL_isSo 127 = .ok (.iadd, 1) := by decide +kernel
theorem dL_isSo_128 : decode cL_isSo 128 = .ok (.istore 5, 2) := by decide +kernel
theorem dL_isSo_130 : decode cL_isSo 130 = .ok (.iload 6, 2) := by decide +kernel
theorem dL_isSo_132 : decode cL_isSo 132 = .ok (.iload 9, 2) := by decide +kernel
theorem dL_isSo_134 : decode cL_isSo 134 = .ok (.iload 8, 2) := by decide +kernel
theorem dL_isSo_136 : decode cL_isSo 136 = .ok (.if_icmp .ne 17, 3) := by decide +kernel
theorem dL_isSo_139 : decode cL_isSo 139 = .ok (.aload_n 1, 1) := by decide +kernel
theorem dL_isSo_140 : decode cL_isSo 140 = .ok (.bipush 6, 2) := by decide +kernel
theorem dL_isSo_142 : decode cL_isSo 142 = .ok (.iload 8, 2) := by decide +kernel
theorem dL_isSo_144 : decode cL_isSo 144 = .ok (.iadd, 1) := by decide +kernel
theorem dL_isSo_145 : decode cL_isSo 145 = .ok (.iaload, 1) := by decide +kernel
theorem dL_isSo_146 : decode cL_isSo 146 = .ok (.ifCond .ne 7, 3) := by decide +kernel
theorem dL_isSo_149 : decode cL_isSo 149 = .ok (.iconst 1, 1) := by decide +kernel
theorem dL_isSo_150 : decode cL_isSo 150 = .ok (.goto 4, 3) := by decide +kernel
theorem dL_isSo_153 : decode cL_isSo 153 = .ok (.iconst 0, 1) := by decide +kernel
theorem dL_isSo_154 : decode cL_isSo 154 = .ok (.iadd, 1) := by decide +kernel
theorem dL_isSo_155 : decode cL_isSo 155 = .ok (.istore 6, 2) := by decide +kernel
theorem dL_isSo_157 : decode cL_isSo 157 = .ok (.iconst 0, 1) := by decide +kernel
theorem dL_isSo_158 : decode cL_isSo 158 = .ok (.istore 11, 2) := by decide +kernel
theorem dL_isSo_160 : decode cL_isSo 160 = .ok (.iconst 0, 1) := by decide +kernel
theorem dL_isSo_161 : decode cL_isSo 161 = .ok (.istore 12, 2) := by decide +kernel
theorem dL_isSo_163 : decode cL_isSo 163 = .ok (.iload 12, 2) := by decide +kernel
theorem dL_isSo_165 : decode cL_isSo 165 = .ok (.iconst 5, 1) := by decide +kernel
theorem dL_isSo_166 : decode cL_isSo 166 = .ok (.if_icmp .ge 26, 3) := by decide +kernel
theorem dL_isSo_169 : decode cL_isSo 169 = .ok (.iload 11, 2) := by decide +kernel
theorem dL_isSo_171 : decode cL_isSo 171 = .ok (.aload_n 2, 1) := by decide +kernel
theorem dL_isSo_172 : decode cL_isSo 172 = .ok (.iload 12, 2) := by decide +kernel
theorem dL_isSo_174 : decode cL_isSo 174 = .ok (.iaload, 1) := by decide +kernel
theorem dL_isSo_175 : decode cL_isSo 175 = .ok (.iload 8, 2) := by decide +kernel
theorem dL_isSo_177 : decode cL_isSo 177 = .ok (.ishr, 1) := by decide +kernel
theorem dL_isSo_178 : decode cL_isSo 178 = .ok (.iconst 1, 1) := by decide +kernel
theorem dL_isSo_179 : decode cL_isSo 179 = .ok (.iand, 1) := by decide +kernel
theorem dL_isSo_180 : decode cL_isSo 180 = .ok (.iload 12, 2) := by decide +kernel
theorem dL_isSo_182 : decode cL_isSo 182 = .ok (.ishl, 1) := by decide +kernel
theorem dL_isSo_183 : decode cL_isSo 183 = .ok (.ior, 1) := by decide +kernel
theorem dL_isSo_184 : decode cL_isSo 184 = .ok (.istore 11, 2) := by decide +kernel
theorem dL_isSo_186 : decode cL_isSo 186 = .ok (.iinc 12 1, 3) := by decide +kernel
theorem dL_isSo_189 : decode cL_isSo 189 = .ok (.goto (-26), 3) := by decide +kernel
theorem dL_isSo_192 : decode cL_isSo 192 = .ok (.aload_n 0, 1) := by decide +kernel
theorem dL_isSo_193 : decode cL_isSo 193 = .ok (.iload 8, 2) := by decide +kernel
theorem dL_isSo_195 : decode cL_isSo 195 = .ok (.iconst 2, 1) := by decide +kernel
theorem dL_isSo_196 : decode cL_isSo 196 = .ok (.invokevirtual 38, 3) := by decide +kernel
theorem dL_isSo_199 : decode cL_isSo 199 = .ok (.aload_n 3, 1) := by decide +kernel
theorem dL_isSo_200 : decode cL_isSo 200 = .ok (.iconst 3, 1) := by decide +kernel
theorem dL_isSo_201 : decode cL_isSo 201 = .ok (.iaload, 1) := by decide +kernel
theorem dL_isSo_202 : decode cL_isSo 202 = .ok (.iload 8, 2) := by decide +kernel
theorem dL_isSo_204 : decode cL_isSo 204 = .ok (.ishr, 1) := by decide +kernel
theorem dL_isSo_205 : decode cL_isSo 205 = .ok (.iconst 1, 1) := by decide +kernel
theorem dL_isSo_206 : decode cL_isSo 206 = .ok (.iand, 1) := by decide +kernel
theorem dL_isSo_207 : decode cL_isSo 207 = .ok (.if_icmp .ne 15, 3) := by decide +kernel
theorem dL_isSo_210 : decode cL_isSo 210 = .ok (.aload_n 0, 1) := by decide +kernel
theorem dL_isSo_211 : decode cL_isSo 211 = .ok (.iload 8, 2) := by decide +kernel
theorem dL_isSo_213 : decode cL_isSo 213 = .ok (.iconst 4, 1) := by decide +kernel
theorem dL_isSo_214 : decode cL_isSo 214 = .ok (.invokevirtual 38, 3) := by decide +kernel
theorem dL_isSo_217 : decode cL_isSo 217 = .ok (.iload 11, 2) := by decide +kernel
theorem dL_isSo_219 : decode cL_isSo 219 = .ok (.if_icmp .eq 5, 3) := by decide +kernel
theorem dL_isSo_222 : decode cL_isSo 222 = .ok (.iconst 0, 1) := by decide +kernel
theorem dL_isSo_223 : decode cL_isSo 223 = .ok (.ireturn, 1) := by decide +kernel
theorem dL_isSo_224 : decode cL_isSo 224 = .ok (.iload 7, 2) := by decide +kernel
theorem dL_isSo_226 : decode cL_isSo 226 = .ok (.aload_n 3, 1) := by decide +kernel
theorem dL_isSo_227 : decode cL_isSo 227 = .ok (.iconst 3, 1) := by decide +kernel
theorem dL_isSo_228 : decode cL_isSo 228 = .ok (.iaload, 1) := by decide +kernel
theorem dL_isSo_229 : decode cL_isSo 229 = .ok (.iload 8, 2) := by decide +kernel
theorem dL_isSo_231 : decode cL_isSo 231 = .ok (.ishr, 1) := by decide +kernel
theorem dL_isSo_232 : decode cL_isSo 232 = .ok (.iconst 1, 1) := by decide +kernel
theorem dL_isSo_233 : decode cL_isSo 233 = .ok (.iand, 1) := by decide +kernel
theorem dL_isSo_234 : decode cL_isSo 234 = .ok (.iadd, 1) := by decide +kernel
theorem dL_isSo_235 : decode cL_isSo 235 = .ok (.istore 7, 2) := by decide +kernel
theorem dL_isSo_237 : decode cL_isSo 237 = .ok (.iinc 8 1, 3) := by decide +kernel
theorem dL_isSo_240 : decode cL_isSo 240 = .ok (.goto (-228), 3) := by decide +kernel
theorem dL_isSo_243 : decode cL_isSo 243 = .ok (.aload_n 1, 1) := by decide +kernel
theorem dL_isSo_244 : decode cL_isSo 244 = .ok (.aload_n 3, 1) := by decide +kernel
theorem dL_isSo_245 : decode cL_isSo 245 = .ok (.aload 4, 2) := by decide +kernel
theorem dL_isSo_247 : decode cL_isSo 247 = .ok (.invokestatic 84, 3) := by decide +kernel
theorem dL_isSo_250 : decode cL_isSo 250 = .ok (.istore 8, 2) := by decide +kernel
theorem dL_isSo_252 : decode cL_isSo 252 = .ok (.aload_n 0, 1) := by decide +kernel
theorem dL_isSo_253 : decode cL_isSo 253 = .ok (.iconst 0, 1) := by decide +kernel
theorem dL_isSo_254 : decode cL_isSo 254 = .ok (.invokevirtual 48, 3) := by decide +kernel
theorem dL_isSo_257 : decode cL_isSo 257 = .ok (.aload_n 3, 1) := by decide +kernel
theorem dL_isSo_258 : decode cL_isSo 258 = .ok (.iconst 0, 1) := by decide +kernel
theorem dL_isSo_259 : decode cL_isSo 259 = .ok (.iaload, 1) := by decide +kernel
theorem dL_isSo_260 : decode cL_isSo 260 = .ok (.if_icmp .ne 94, 3) := by decide +kernel
theorem dL_isSo_263 : decode cL_isSo 263 = .ok (.aload_n 0, 1) := by decide +kernel
theorem dL_isSo_264 : decode cL_isSo 264 = .ok (.iconst 1, 1) := by decide +kernel
theorem dL_isSo_265 : decode cL_isSo 265 = .ok (.invokevirtual 48, 3) := by decide +kernel
theorem dL_isSo_268 : decode cL_isSo 268 = .ok (.iload 5, 2) := by decide +kernel
theorem dL_isSo_270 : decode cL_isSo 270 = .ok (.iconst 5, 1) := by decide +kernel
theorem dL_isSo_271 : decode cL_isSo 271 = .ok (.irem, 1) := by decide +kernel
theorem dL_isSo_272 : decode cL_isSo 272 = .ok (.if_icmp .ne 82, 3) := by decide +kernel
theorem dL_isSo_275 : decode cL_isSo 275 = .ok (.aload_n 0, 1) := by decide +kernel
theorem dL_isSo_276 : decode cL_isSo 276 = .ok (.iconst 2, 1) := by decide +kernel
theorem dL_isSo_277 : decode cL_isSo 277 = .ok (.invokevirtual 48, 3) := by decide +kernel
theorem dL_isSo_280 : decode cL_isSo 280 = .ok (.iload 5, 2) := by decide +kernel
theorem dL_isSo_282 : decode cL_isSo 282 = .ok (.iconst 5, 1) := by decide +kernel
theorem dL_isSo_283 : decode cL_isSo 283 = .ok (.irem, 1) := by decide +kernel
theorem dL_isSo_284 : decode cL_isSo 284 = .ok (.if_icmp .ne 70, 3) := by decide +kernel
theorem dL_isSo_287 : decode cL_isSo 287 = .ok (.aload_n 0, 1) := by decide +kernel
theorem dL_isSo_288 : decode cL_isSo 288 = .ok (.iconst 3, 1) := by decide +kernel
theorem dL_isSo_289 : decode cL_isSo 289 = .ok (.invokevirtual 48, 3) := by decide +kernel
theorem dL_isSo_292 : decode cL_isSo 292 = .ok (.iload 6, 2) := by decide +kernel
theorem dL_isSo_294 : decode cL_isSo 294 = .ok (.if_icmp .ne 60, 3) := by decide +kernel
theorem dL_isSo_297 : decode cL_isSo 297 = .ok (.aload_n 0, 1) := by decide +kernel
theorem dL_isSo_298 : decode cL_isSo 298 = .ok (.iconst 4, 1) := by decide +kernel
theorem dL_isSo_299 : decode cL_isSo 299 = .ok (.invokevirtual 48, 3) := by decide +kernel
theorem dL_isSo_302 : decode cL_isSo 302 = .ok (.iload 8, 2) := by decide +kernel
theorem dL_isSo_304 : decode cL_isSo 304 = .ok (.bipush 6, 2) := by decide +kernel
theorem dL_isSo_306 : decode cL_isSo 306 = .ok (.if_icmp .ne 7, 3) := by decide +kernel
theorem dL_isSo_309 : decode cL_isSo 309 = .ok (.iconst 1, 1) := by decide +kernel
theorem dL_isSo_310 : decode cL_isSo 310 = .ok (.goto 4, 3) := by decide +kernel
theorem dL_isSo_313 : decode cL_isSo 313 = .ok (.iconst 0, 1) := by decide +kernel
theorem dL_isSo_314 : decode cL_isSo 314 = .ok (.if_icmp .ne 40, 3) := by decide +kernel
theorem dL_isSo_317 : decode cL_isSo 317 = .ok (.aload_n 0, 1) := by decide +kernel
theorem dL_isSo_318 : decode cL_isSo 318 = .ok (.iconst 5, 1) := by decide +kernel
theorem dL_isSo_319 : decode cL_isSo 319 = .ok (.invokevirtual 48, 3) := by decide +kernel
theorem dL_isSo_322 : decode cL_isSo 322 = .ok (.iload 8, 2) := by decide +kernel
theorem dL_isSo_324 : decode cL_isSo 324 = .ok (.if_icmp .ne 30, 3) := by decide +kernel
theorem dL_isSo_327 : decode cL_isSo 327 = .ok (.aload_n 0, 1) := by decide +kernel
theorem dL_isSo_328 : decode cL_isSo 328 = .ok (.bipush 6, 2) := by decide +kernel
theorem dL_isSo_330 : decode cL_isSo 330 = .ok (.invokevirtual 48, 3) := by decide +kernel
theorem dL_isSo_333 : decode cL_isSo 333 = .ok (.iload 7, 2) := by decide +kernel
theorem dL_isSo_335 : decode cL_isSo 335 = .ok (.if_icmp .ne 19, 3) := by decide +kernel
theorem dL_isSo_338 : decode cL_isSo 338 = .ok (.aload_n 0, 1) := by decide +kernel
theorem dL_isSo_339 : decode cL_isSo 339 = .ok (.bipush 8, 2) := by decide +kernel
theorem dL_isSo_341 : decode cL_isSo 341 = .ok (.invokevirtual 48, 3) := by decide +kernel
theorem dL_isSo_344 : decode cL_isSo 344 = .ok (.aload_n 3, 1) := by decide +kernel
theorem dL_isSo_345 : decode cL_isSo 345 = .ok (.iconst 1, 1) := by decide +kernel
theorem dL_isSo_346 : decode cL_isSo 346 = .ok (.iaload, 1) := by decide +kernel
theorem dL_isSo_347 : decode cL_isSo 347 = .ok (.if_icmp .ne 7, 3) := by decide +kernel
theorem dL_isSo_350 : decode cL_isSo 350 = .ok (.iconst 1, 1) := by decide +kernel
theorem dL_isSo_351 : decode cL_isSo 351 = .ok (.goto 4, 3) := by decide +kernel
theorem dL_isSo_354 : decode cL_isSo 354 = .ok (.iconst 0, 1) := by decide +kernel
theorem dL_isSo_355 : decode cL_isSo 355 = .ok (.istore 9, 2) := by decide +kernel
theorem dL_isSo_357 : decode cL_isSo 357 = .ok (.iload 9, 2) := by decide +kernel
theorem dL_isSo_359 : decode cL_isSo 359 = .ok (.ifCond .eq 36, 3) := by decide +kernel
theorem dL_isSo_362 : decode cL_isSo 362 = .ok (.aload_n 0, 1) := by decide +kernel
theorem dL_isSo_363 : decode cL_isSo 363 = .ok (.invokevirtual 88, 3) := by decide +kernel
theorem dL_isSo_366 : decode cL_isSo 366 = .ok (.iload 8, 2) := by decide +kernel
theorem dL_isSo_368 : decode cL_isSo 368 = .ok (.i2d, 1) := by decide +kernel
theorem dL_isSo_369 : decode cL_isSo 369 = .ok (.ldc2_w 92, 3) := by decide +kernel
theorem dL_isSo_372 : decode cL_isSo 372 = .ok (.ddiv, 1) := by decide +kernel
theorem dL_isSo_373 : decode cL_isSo 373 = .ok (.dcmp .l, 1) := by decide +kernel
theorem dL_isSo_374 : decode cL_isSo 374 = .ok (.ifCond .ne 21, 3) := by decide +kernel
theorem dL_isSo_377 : decode cL_isSo 377 = .ok (.aload_n 0, 1) := by decide +kernel
theorem dL_isSo_378 : decode cL_isSo 378 = .ok (.invokevirtual 94, 3) := by decide +kernel
theorem dL_isSo_381 : decode cL_isSo 381 = .ok (.iload 5, 2) := by decide +kernel
theorem dL_isSo_383 : decode cL_isSo 383 = .ok (.i2f, 1) := by decide +kernel
theorem dL_isSo_384 : decode cL_isSo 384 = .ok (.ldc 98, 2) := by decide +kernel
theorem dL_isSo_386 : decode cL_isSo 386 = .ok (.fdiv, 1) := by decide +kernel
theorem dL_isSo_387 : decode cL_isSo 387 = .ok (.fcmp .l, 1) := by decide +kernel
theorem dL_isSo_388 : decode cL_isSo 388 = .ok (.ifCond .ne 7, 3) := by decide +kernel
theorem dL_isSo_391 : decode cL_isSo 391 = .ok (.iconst 1, 1) := by decide +kernel
theorem dL_isSo_392 : decode cL_isSo 392 = .ok (.goto 4, 3) := by decide +kernel
theorem dL_isSo_395 : decode cL_isSo 395 = .ok (.iconst 0, 1) := by decide +kernel
theorem dL_isSo_396 : decode cL_isSo 396 = .ok (.ireturn, 1) := by decide +kernel
theorem dL_copy_0 : decode cL_copy 0 = .ok (.iconst 0, 1) := by decide +kernel
theorem dL_copy_1 : decode cL_copy 1 = .ok (.istore_n 2, 1) := by decide +kernel
theorem dL_copy_2 : decode cL_copy 2 = .ok (.iload_n 2, 1) := by decide +kernel
theorem dL_copy_3 : decode cL_copy 3 = .ok (.aload_n 0, 1) := by decide +kernel
theorem dL_copy_4 : decode cL_copy 4 = .ok (.arraylength, 1) := by decide +kernel
theorem dL_copy_5 : decode cL_copy 5 = .ok (.if_icmp .ge 15, 3) := by decide +kernel
theorem dL_copy_8 : decode cL_copy 8 = .ok (.aload_n 1, 1) := by decide +kernel
theorem dL_copy_9 : decode cL_copy 9 = .ok (.iload_n 2, 1) := by decide +kernel
theorem dL_copy_10 : decode cL_copy 10 = .ok (.aload_n 0, 1) := by decide +kernel
theorem dL_copy_11 : decode cL_copy 11 = .ok (.iload_n 2, 1) := by decide +kernel
theorem dL_copy_12 : decode cL_copy 12 = .ok (.iaload, 1) := by decide +kernel
theorem dL_copy_13 : decode cL_copy 13 = .ok (.iastore, 1) := by decide +kernel
theorem dL_copy_14 : decode cL_copy 14 = .ok (.iinc 2 1, 3) := by decide +kernel
theorem dL_copy_17 : decode cL_copy 17 = .ok (.goto (-15), 3) := by decide +kernel
theorem dL_copy_20 : decode cL_copy 20 = .ok (.return_, 1) := by decide +kernel
theorem dL_isAhead_0 : decode cL_isAhead 0 = .ok (.bipush 12, 2) := by decide +kernel
theorem dL_isAhead_2 : decode cL_isAhead 2 = .ok (.newarray .int, 2) := by decide +kernel
theorem dL_isAhead_4 : decode cL_isAhead 4 = .ok (.astore 6, 2) := by decide +kernel
theorem dL_isAhead_6 : decode cL_isAhead 6 = .ok (.iconst 0, 1) := by decide +kernel
theorem dL_isAhead_7 : decode cL_isAhead 7 = .ok (.istore 7, 2) := by decide +kernel
theorem dL_isAhead_9 : decode cL_isAhead 9 = .ok (.iload 7, 2) := by decide +kernel
theorem dL_isAhead_11 : decode cL_isAhead 11 = .ok (.bipush 10, 2) := by decide +kernel
theorem dL_isAhead_13 : decode cL_isAhead 13 = .ok (.if_icmp .ge 48, 3) := by decide +kernel
theorem dL_isAhead_16 : decode cL_isAhead 16 = .ok (.aload_n 1, 1) := by decide +kernel
theorem dL_isAhead_17 : decode cL_isAhead 17 = .ok (.aload 6, 2) := by decide +kernel
theorem dL_isAhead_19 : decode cL_isAhead 19 = .ok (.invokestatic 99, 3) := by decide +kernel
theorem dL_isAhead_22 : decode cL_isAhead 22 = .ok (.aload 6, 2) := by decide +kernel
theorem dL_isAhead_24 : decode cL_isAhead 24 = .ok (.aload_n 2, 1) := by decide +kernel
theorem dL_isAhead_25 : decode cL_isAhead 25 = .ok (.iload 7, 2) := by decide +kernel
theorem dL_isAhead_27 : decode cL_isAhead 27 = .ok (.invokestatic 70, 3) := by decide +kernel
theorem dL_isAhead_30 : decode cL_isAhead 30 = .ok (.aload_n 0, 1) := by decide +kernel
theorem dL_isAhead_31 : decode cL_isAhead 31 = .ok (.iload 7, 2) := by decide +kernel
theorem dL_isAhead_33 : decode cL_isAhead 33 = .ok (.iconst 5, 1) := by decide +kernel
theorem dL_isAhead_34 : decode cL_isAhead 34 = .ok (.irem, 1) := by decide +kernel
theorem dL_isAhead_35 : decode cL_isAhead 35 = .ok (.iload 7, 2) := by decide +kernel
theorem dL_isAhead_37 : decode cL_isAhead 37 = .ok (.iconst 5, 1) := by decide +kernel
theorem dL_isAhead_38 : decode cL_isAhead 38 = .ok (.idiv, 1) := by decide +kernel
theorem dL_isAhead_39 : decode cL_isAhead 39 = .ok (.invokevirtual 54, 3) := by decide +kernel
theorem dL_isAhead_42 : decode cL_isAhead 42 = .ok (.aload 6, 2) := by decide +kernel
theorem dL_isAhead_44 : decode cL_isAhead 44 = .ok (.aload_n 3, 1) := by decide +kernel
theorem dL_isAhead_45 : decode cL_isAhead 45 = .ok (.aload 4, 2) := by decide +kernel
theorem dL_isAhead_47 : decode cL_isAhead 47 = .ok (.invokestatic 84, 3) := by decide +kernel
theorem dL_isAhead_50 : decode cL_isAhead 50 = .ok (.if_icmp .eq 5, 3) := by decide +kernel
theorem dL_isAhead_53 : decode cL_isAhead 53 = .ok (.iconst 0, 1) := by decide +kernel
theorem dL_isAhead_54 : decode cL_isAhead 54 = .ok (.ireturn, 1) := by decide +kernel
theorem dL_isAhead_55 : decode cL_isAhead 55 = .ok (.iinc 7 1, 3) := by decide +kernel
theorem dL_isAhead_58 : decode cL_isAhead 58 = .ok (.goto (-49), 3) := by decide +kernel
theorem dL_isAhead_61 : decode cL_isAhead 61 = .ok (.iconst (-1), 1) := by decide +kernel
theorem dL_isAhead_62 : decode cL_isAhead 62 = .ok (.istore 7, 2) := by decide +kernel
theorem dL_isAhead_64 : decode cL_isAhead 64 = .ok (.iconst (-1), 1) := by decide +kernel
theorem dL_isAhead_65 : decode cL_isAhead 65 = .ok (.istore 8, 2) := by decide +kernel
theorem dL_isAhead_67 : decode cL_isAhead 67 = .ok (.aload_n 3, 1) := by decide +kernel
theorem dL_isAhead_68 : decode cL_isAhead 68 = .ok (.iconst 2, 1) := by decide +kernel
theorem dL_isAhead_69 : decode cL_isAhead 69 = .ok (.iaload, 1) := by decide +kernel
theorem dL_isAhead_70 : decode cL_isAhead 70 = .ok (.iconst 1, 1) := by decide +kernel
theorem dL_isAhead_71 : decode cL_isAhead 71 = .ok (.if_icmp .ne 18, 3) := by decide +kernel
theorem dL_isAhead_74 : decode cL_isAhead 74 = .ok (.aload_n 1, 1) := by decide +kernel
theorem dL_isAhead_75 : decode cL_isAhead 75 = .ok (.aload_n 3, 1) := by decide +kernel
theorem dL_isAhead_76 : decode cL_isAhead 76 = .ok (.aload 4, 2) := by decide +kernel
theorem dL_isAhead_78 : decode cL_isAhead 78 = .ok (.invokestatic 84, 3) := by decide +kernel
theorem dL_isAhead_81 : decode cL_isAhead 81 = .ok (.bipush 6, 2) := by decide +kernel
theorem dL_isAhead_83 : decode cL_isAhead 83 = .ok (.if_icmp .ne 6, 3) := by decide +kernel
theorem dL_isAhead_86 : decode cL_isAhead 86 = .ok (.iconst 0, 1) := by decide +kernel
theorem dL_isAhead_87 : decode cL_isAhead 87 = .ok (.istore 7, 2) := by decide +kernel
theorem dL_isAhead_89 : decode cL_isAhead 89 = .ok (.iconst 1, 1) := by decide +kernel
theorem dL_isAhead_90 : decode cL_isAhead 90 = .ok (.istore 9, 2) := by decide +kernel
theorem dL_isAhead_92 : decode cL_isAhead 92 = .ok (.iconst 1, 1) := by decide +kernel
theorem dL_isAhead_93 : decode cL_isAhead 93 = .ok (.istore 10, 2) := by decide +kernel
theorem dL_isAhead_95 : decode cL_isAhead 95 = .ok (.iload 10, 2) := by decide +kernel
theorem dL_isAhead_97 : decode cL_isAhead 97 = .ok (.iload 5, 2) := by decide +kernel
theorem dL_isAhead_99 : decode cL_isAhead 99 = .ok (.if_icmp .gt 176, 3) := by decide +kernel
theorem dL_isAhead_102 : decode cL_isAhead 102 = .ok (.iload 7, 2) := by decide +kernel
theorem dL_isAhead_104 : decode cL_isAhead 104 = .ok (.ifCond .ge 171, 3) := by decide +kernel
theorem dL_isAhead_107 : decode cL_isAhead 107 = .ok (.aload_n 3, 1) := by decide +kernel
theorem dL_isAhead_108 : decode cL_isAhead 108 = .ok (.iconst 2, 1) := by decide +kernel
theorem dL_isAhead_109 : decode cL_isAhead 109 = .ok (.iaload, 1) := by decide +kernel
theorem dL_isAhead_110 : decode cL_isAhead 110 = .ok (.iconst 1, 1) := by decide +kernel
theorem dL_isAhead_111 : decode cL_isAhead 111 = .ok (.if_icmp .ne 164, 3) := by decide +kernel
theorem dL_isAhead_114 : decode cL_isAhead 114 = .ok (.iload 9, 2) := by decide +kernel
theorem dL_isAhead_116 : decode cL_isAhead 116 = .ok (.bipush 10, 2) := by decide +kernel
theorem dL_isAhead_118 : decode cL_isAhead 118 = .ok (.imul, 1) := by decide +kernel
theorem dL_isAhead_119 : decode cL_isAhead 119 = .ok (.istore 9, 2) := by decide +kernel
theorem dL_isAhead_121 : decode cL_isAhead 121 = .ok (.iconst 0, 1) := by decide +kernel
theorem dL_isAhead_122 : decode cL_isAhead 122 = .ok (.istore 11, 2) := by decide +kernel
theorem dL_isAhead_124 : decode cL_isAhead 124 = .ok (.iload 11, 2) := by decide +kernel
theorem dL_isAhead_126 : decode cL_isAhead 126 = .ok (.iload 9, 2) := by decide +kernel
theorem dL_isAhead_128 : decode cL_isAhead 128 = .ok (.if_icmp .ge 141, 3) := by decide +kernel
theorem dL_isAhead_131 : decode cL_isAhead 131 = .ok (.iload 7, 2) := by decide +kernel
theorem dL_isAhead_133 : decode cL_isAhead 133 = .ok (.ifCond .ge 136, 3) := by decide +kernel
theorem dL_isAhead_136 : decode cL_isAhead 136 = .ok (.aload_n 1, 1) := by decide +kernel
theorem dL_isAhead_137 : decode cL_isAhead 137 = .ok (.aload 6, 2) := by decide +kernel
theorem dL_isAhead_139 : decode cL_isAhead 139 = .ok (.invokestatic 99, 3) := by decide +kernel
theorem dL_isAhead_142 : decode cL_isAhead 142 = .ok (.iconst 1, 1) := by decide +kernel
theorem dL_isAhead_143 : decode cL_isAhead 143 = .ok (.istore 12, 2) := by decide +kernel
theorem dL_isAhead_145 : decode cL_isAhead 145 = .ok (.iload 9, 2) := by decide +kernel
theorem dL_isAhead_147 : decode cL_isAhead 147 = .ok (.bipush 10, 2) := by decide +kernel
theorem dL_isAhead_149 : decode cL_isAhead 149 = .ok (.idiv, 1) := by decide +kernel
theorem dL_isAhead_150 : decode cL_isAhead 150 = .ok (.istore 13, 2) := by decide +kernel
theorem dL_isAhead_152 : decode cL_isAhead 152 = .ok (.iconst 0, 1) := by decide +kernel
theorem dL_isAhead_153 : decode cL_isAhead 153 = .ok (.istore 14, 2) := by decide +kernel
theorem dL_isAhead_155 : decode cL_isAhead 155 = .ok (.iload 14, 2) := by decide +kernel
theorem dL_isAhead_157 : decode cL_isAhead 157 = .ok (.iload 10, 2) := by decide +kernel
theorem dL_isAhead_159 : decode cL_isAhead 159 = .ok (.if_icmp .ge 69, 3) := by decide +kernel
theorem dL_isAhead_162 : decode cL_isAhead 162 = .ok (.iload 11, 2) := by decide +kernel
theorem dL_isAhead_164 : decode cL_isAhead 164 = .ok (.iload 13, 2) := by decide +kernel
theorem dL_isAhead_166 : decode cL_isAhead 166 = .ok (.idiv, 1) := by decide +kernel
theorem dL_isAhead_167 : decode cL_isAhead 167 = .ok (.bipush 10, 2) := by decide +kernel
theorem dL_isAhead_169 : decode cL_isAhead 169 = .ok (.irem, 1) := by decide +kernel
theorem dL_isAhead_170 : decode cL_isAhead 170 = .ok (.istore 15, 2) := by decide +kernel
theorem dL_isAhead_172 : decode cL_isAhead 172 = .ok (.iload 12, 2) := by decide +kernel
theorem dL_isAhead_174 : decode cL_isAhead 174 = .ok (.ifCond .eq 20, 3) := by decide +kernel
theorem dL_isAhead_177 : decode cL_isAhead 177 = .ok (.aload_n 2, 1) := by decide +kernel
theorem dL_isAhead_178 : decode cL_isAhead 178 = .ok (.iload 15, 2) := by decide +kernel
theorem dL_isAhead_180 : decode cL_isAhead 180 = .ok (.iconst 5, 1) := by decide +kernel
theorem dL_isAhead_181 : decode cL_isAhead 181 = .ok (.irem, 1) := by decide +kernel
theorem dL_isAhead_182 : decode cL_isAhead 182 = .ok (.iaload, 1) := by decide +kernel
theorem dL_isAhead_183 : decode cL_isAhead 183 = .ok (.aload_n 3, 1) := by decide +kernel
theorem dL_isAhead_184 : decode cL_isAhead 184 = .ok (.iconst 3, 1) := by decide +kernel
theorem dL_isAhead_185 : decode cL_isAhead 185 = .ok (.iaload, 1) := by decide +kernel
theorem dL_isAhead_186 : decode cL_isAhead 186 = .ok (.iand, 1) := by decide +kernel
theorem dL_isAhead_187 : decode cL_isAhead 187 = .ok (.ifCond .ne 7, 3) := by decide +kernel
theorem dL_isAhead_190 : decode cL_isAhead 190 = .ok (.iconst 1, 1) := by decide +kernel
theorem dL_isAhead_191 : decode cL_isAhead 191 = .ok (.goto 4, 3) := by decide +kernel
theorem dL_isAhead_194 : decode cL_isAhead 194 = .ok (.iconst 0, 1) := by decide +kernel
theorem dL_isAhead_195 : decode cL_isAhead 195 = .ok (.istore 12, 2) := by decide +kernel
theorem dL_isAhead_197 : decode cL_isAhead 197 = .ok (.aload 6, 2) := by decide +kernel
theorem dL_isAhead_199 : decode cL_isAhead 199 = .ok (.aload_n 2, 1) := by decide +kernel
theorem dL_isAhead_200 : decode cL_isAhead 200 = .ok (.iload 15, 2) := by decide +kernel
theorem dL_isAhead_202 : decode cL_isAhead 202 = .ok (.invokestatic 70, 3) := by decide +kernel
theorem dL_isAhead_205 : decode cL_isAhead 205 = .ok (.iload 13, 2) := by decide +kernel
theorem dL_isAhead_207 : decode cL_isAhead 207 = .ok (.iconst 1, 1) := by decide +kernel
theorem dL_isAhead_208 : decode cL_isAhead 208 = .ok (.if_icmp .le 11, 3) := by decide +kernel
theorem dL_isAhead_211 : decode cL_isAhead 211 = .ok (.iload 13, 2) := by decide +kernel
theorem dL_isAhead_213 : decode cL_isAhead 213 = .ok (.bipush 10, 2) := by decide +kernel
theorem dL_isAhead_215 : decode cL_isAhead 215 = .ok (.idiv, 1) := by decide +kernel
theorem dL_isAhead_216 : decode cL_isAhead 216 = .ok (.goto 4, 3) := by decide +kernel
theorem dL_isAhead_219 : decode cL_isAhead 219 = .ok (.iconst 1, 1) := by decide +kernel
theorem dL_isAhead_220 : decode cL_isAhead 220 = .ok (.istore 13, 2) := by decide +kernel
theorem dL_isAhead_222 : decode cL_isAhead 222 = .ok (.iinc 14 1, 3) := by decide +kernel
theorem dL_isAhead_225 : decode cL_isAhead 225 = .ok (.goto (-70), 3) := by decide +kernel
theorem dL_isAhead_228 : decode cL_isAhead 228 = .ok (.iload 12, 2) := by decide +kernel
theorem dL_isAhead_230 : decode cL_isAhead 230 = .ok (.ifCond .eq 33, 3) := by decide +kernel
theorem dL_isAhead_233 : decode cL_isAhead 233 = .ok (.aload 6, 2) := by decide +kernel
theorem dL_isAhead_235 : decode cL_isAhead 235 = .ok (.aload_n 3, 1) := by decide +kernel
theorem dL_isAhead_236 : decode cL_isAhead 236 = .ok (.aload 4, 2) := by decide +kernel
theorem dL_isAhead_238 : decode cL_isAhead 238 = .ok (.invokestatic 84, 3) := by decide +kernel
theorem dL_isAhead_241 : decode cL_isAhead 241 = .ok (.bipush 6, 2) := by decide +kernel
theorem dL_isAhead_243 : decode cL_isAhead 243 = .ok (.if_icmp .ge 6, 3) := by decide +kernel
theorem dL_isAhead_246 : decode cL_isAhead 246 = .ok (.goto 17, 3) := by decide +kernel
theorem dL_isAhead_249 : decode cL_isAhead 249 = .ok (.iload 10, 2) := by decide +kernel
theorem dL_isAhead_251 : decode cL_isAhead 251 = .ok (.istore 7, 2) := by decide +kernel
theorem dL_isAhead_253 : decode cL_isAhead 253 = .ok (.iload 11, 2) := by decide +kernel
theorem dL_isAhead_255 : decode cL_isAhead 255 = .ok (.iload 9, 2) := by decide +kernel
theorem dL_isAhead_257 : decode cL_isAhead 257 = .ok (.bipush 10, 2) := by decide +kernel
theorem dL_isAhead_259 : decode cL_isAhead 259 = .ok (.idiv, 1) := by decide +kernel
theorem dL_isAhead_260 : decode cL_isAhead 260 = .ok (.idiv, 1) := by decide +kernel
theorem dL_isAhead_261 : decode cL_isAhead 261 = .ok (.istore 8, 2) := by decide +kernel
theorem dL_isAhead_263 : decode cL_isAhead 263 = .ok (.iinc 11 1, 3) := by decide +kernel
theorem dL_isAhead_266 : decode cL_isAhead 266 = .ok (.goto (-142), 3) := by decide +kernel
theorem dL_isAhead_269 : decode cL_isAhead 269 = .ok (.iinc 10 1, 3) := by decide +kernel
theorem dL_isAhead_272 : decode cL_isAhead 272 = .ok (.goto (-177), 3) := by decide +kernel
theorem dL_isAhead_275 : decode cL_isAhead 275 = .ok (.aload_n 0, 1) := by decide +kernel
theorem dL_isAhead_276 : decode cL_isAhead 276 = .ok (.iconst 0, 1) := by decide +kernel
theorem dL_isAhead_277 : decode cL_isAhead 277 = .ok (.invokevirtual 51, 3) := by decide +kernel
theorem dL_isAhead_280 : decode cL_isAhead 280 = .ok (.istore 10, 2) := by decide +kernel
theorem dL_isAhead_282 : decode cL_isAhead 282 = .ok (.iload 7, 2) := by decide +kernel
theorem dL_isAhead_284 : decode cL_isAhead 284 = .ok (.ifCond .ge 35, 3) := by decide +kernel
theorem dL_isAhead_287 : decode cL_isAhead 287 = .ok (.aload_n 3, 1) := by decide +kernel
theorem dL_isAhead_288 : decode cL_isAhead 288 = .ok (.iconst 2, 1) := by decide +kernel
theorem dL_isAhead_289 : decode cL_isAhead 289 = .ok (.iaload, 1) := by decide +kernel
theorem dL_isAhead_290 : decode cL_isAhead 290 = .ok (.iconst 1, 1) := by decide +kernel
theorem dL_isAhead_291 : decode cL_isAhead 291 = .ok (.if_icmp .ne 28, 3) := by decide +kernel
theorem dL_isAhead_294 : decode cL_isAhead 294 = .ok (.iload 5, 2) := by decide +kernel
theorem dL_isAhead_296 : decode cL_isAhead 296 = .ok (.iconst 4, 1) := by decide +kernel
theorem dL_isAhead_297 : decode cL_isAhead 297 = .ok (.if_icmp .ge 22, 3) := by decide +kernel
theorem dL_isAhead_300 : decode cL_isAhead 300 = .ok (.iload 10, 2) := by decide +kernel
theorem dL_isAhead_302 : decode cL_isAhead 302 = .ok (.iconst (-1), 1) := by decide +kernel
theorem dL_isAhead_303 : decode cL_isAhead 303 = .ok (.if_icmp .eq 10, 3) := by decide +kernel
theorem dL_isAhead_306 : decode cL_isAhead 306 = .ok (.iload 10, 2) := by decide +kernel
theorem dL_isAhead_308 : decode cL_isAhead 308 = .ok (.iload 5, 2) := by decide +kernel
theorem dL_isAhead_310 : decode cL_isAhead 310 = .ok (.if_icmp .le 7, 3) := by decide +kernel
theorem dL_isAhead_313 : decode cL_isAhead 313 = .ok (.iconst 1, 1) := by decide +kernel
theorem dL_isAhead_314 : decode cL_isAhead 314 = .ok (.goto 4, 3) := by decide +kernel
theorem dL_isAhead_317 : decode cL_isAhead 317 = .ok (.iconst 0, 1) := by decide +kernel
theorem dL_isAhead_318 : decode cL_isAhead 318 = .ok (.ireturn, 1) := by decide +kernel
theorem dL_isAhead_319 : decode cL_isAhead 319 = .ok (.iload 10, 2) := by decide +kernel
theorem dL_isAhead_321 : decode cL_isAhead 321 = .ok (.iload 7, 2) := by decide +kernel
theorem dL_isAhead_323 : decode cL_isAhead 323 = .ok (.if_icmp .ne 17, 3) := by decide +kernel
theorem dL_isAhead_326 : decode cL_isAhead 326 = .ok (.aload_n 0, 1) := by decide +kernel
theorem dL_isAhead_327 : decode cL_isAhead 327 = .ok (.iconst 1, 1) := by decide +kernel
theorem dL_isAhead_328 : decode cL_isAhead 328 = .ok (.invokevirtual 51, 3) := by decide +kernel
theorem dL_isAhead_331 : decode cL_isAhead 331 = .ok (.iload 8, 2) := by decide +kernel
theorem dL_isAhead_333 : decode cL_isAhead 333 = .ok (.if_icmp .ne 7, 3) := by decide +kernel
theorem dL_isAhead_336 : decode cL_isAhead 336 = .ok (.iconst 1, 1) := by decide +kernel
theorem dL_isAhead_337 : decode cL_isAhead 337 = .ok (.goto 4, 3) := by decide +kernel
theorem dL_isAhead_340 : decode cL_isAhead 340 = .ok (.iconst 0, 1) := by decide +kernel
theorem dL_isAhead_341 : decode cL_isAhead 341 = .ok (.ireturn, 1) := by decide +kernel
theorem dL_act_0 : decode cL_act 0 = .ok (.iload_n 1, 1) := by decide +kernel
theorem dL_act_1 : decode cL_act 1 = .ok (.bipush 16, 2) := by decide +kernel
theorem dL_act_3 : decode cL_act 3 = .ok (.invokestatic 103, 3) := by decide +kernel
theorem dL_act_6 : decode cL_act 6 = .ok (.istore 7, 2) := by decide +kernel
theorem dL_act_8 : decode cL_act 8 = .ok (.iload 7, 2) := by decide +kernel
theorem dL_act_10 : decode cL_act 10 = .ok (.bipush 10, 2) := by decide +kernel
theorem dL_act_12 : decode cL_act 12 = .ok (.if_icmp .ge 198, 3) := by decide +kernel
theorem dL_act_15 : decode cL_act 15 = .ok (.iload_n 2, 1) := by decide +kernel
theorem dL_act_16 : decode cL_act 16 = .ok (.bipush 10, 2) := by decide +kernel
theorem dL_act_18 : decode cL_act 18 = .ok (.invokestatic 103, 3) := by decide +kernel
theorem dL_act_21 : decode cL_act 21 = .ok (.istore 8, 2) := by decide +kernel
theorem dL_act_23 : decode cL_act 23 = .ok (.aload 4, 2) := by decide +kernel
theorem dL_act_25 : decode cL_act 25 = .ok (.iload 8, 2) := by decide +kernel
theorem dL_act_27 : decode cL_act 27 = .ok (.iconst 5, 1) := by decide +kernel
theorem dL_act_28 : decode cL_act 28 = .ok (.irem, 1) := by decide +kernel
theorem dL_act_29 : decode cL_act 29 = .ok (.iaload, 1) := by decide +kernel
theorem dL_act_30 : decode cL_act 30 = .ok (.aload 5, 2) := by decide +kernel
theorem dL_act_32 : decode cL_act 32 = .ok (.iconst 3, 1) := by decide +kernel
theorem dL_act_33 : decode cL_act 33 = .ok (.iaload, 1) := by decide +kernel
theorem dL_act_34 : decode cL_act 34 = .ok (.iand, 1) := by decide +kernel
theorem dL_act_35 : decode cL_act 35 = .ok (.ifCond .eq 57, 3) := by decide +kernel
theorem dL_act_38 : decode cL_act 38 = .ok (.iload 8, 2) := by decide +kernel
theorem dL_act_40 : decode cL_act 40 = .ok (.iconst 5, 1) := by decide +kernel
theorem dL_act_41 : decode cL_act 41 = .ok (.if_icmp .ge 12, 3) := by decide +kernel
theorem dL_act_44 : decode cL_act 44 = .ok (.aload_n 0, 1) := by decide +kernel
theorem dL_act_45 : decode cL_act 45 = .ok (.iload 8, 2) := by decide +kernel
theorem dL_act_47 : decode cL_act 47 = .ok (.invokestatic 106, 3) := by decide +kernel
theorem dL_act_50 : decode cL_act 50 = .ok (.goto 11, 3) := by decide +kernel
theorem dL_act_53 : decode cL_act 53 = .ok (.aload_n 0, 1) := by decide +kernel
theorem dL_act_54 : decode cL_act 54 = .ok (.iload 8, 2) := by decide +kernel
theorem dL_act_56 : decode cL_act 56 = .ok (.iconst 5, 1) := by decide +kernel
theorem dL_act_57 : decode cL_act 57 = .ok (.isub, 1) := by decide +kernel
theorem dL_act_58 : decode cL_act 58 = .ok (.invokestatic 109, 3) := by decide +kernel
theorem dL_act_61 : decode cL_act 61 = .ok (.bipush (-33), 2) := by decide +kernel
theorem dL_act_63 : decode cL_act 63 = .ok (.if_icmp .ne 27, 3) := by decide +kernel
theorem dL_act_66 : decode cL_act 66 = .ok (.aload_n 0, 1) := by decide +kernel
theorem dL_act_67 : decode cL_act 67 = .ok (.iconst 5, 1) := by decide +kernel
theorem dL_act_68 : decode cL_act 68 = .ok (.invokestatic 106, 3) := by decide +kernel
theorem dL_act_71 : decode cL_act 71 = .ok (.bipush (-31), 2) := by decide +kernel
theorem dL_act_73 : decode cL_act 73 = .ok (.if_icmp .ne 17, 3) := by decide +kernel
theorem dL_act_76 : decode cL_act 76 = .ok (.aload_n 0, 1) := by decide +kernel
theorem dL_act_77 : decode cL_act 77 = .ok (.iconst (-1), 1) := by decide +kernel
theorem dL_act_78 : decode cL_act 78 = .ok (.invokestatic 109, 3) := by decide +kernel
theorem dL_act_81 : decode cL_act 81 = .ok (.bipush (-31), 2) := by decide +kernel
theorem dL_act_83 : decode cL_act 83 = .ok (.if_icmp .ne 7, 3) := by decide +kernel
theorem dL_act_86 : decode cL_act 86 = .ok (.iconst 1, 1) := by decide +kernel
theorem dL_act_87 : decode cL_act 87 = .ok (.goto 4, 3) := by decide +kernel
theorem dL_act_90 : decode cL_act 90 = .ok (.iconst 0, 1) := by decide +kernel
theorem dL_act_91 : decode cL_act 91 = .ok (.ireturn, 1) := by decide +kernel
theorem dL_act_92 : decode cL_act 92 = .ok (.aload_n 3, 1) := by decide +kernel
theorem dL_act_93 : decode cL_act 93 = .ok (.aload 5, 2) := by decide +kernel
theorem dL_act_95 : decode cL_act 95 = .ok (.aload 6, 2) := by decide +kernel
theorem dL_act_97 : decode cL_act 97 = .ok (.invokestatic 84, 3) := by decide +kernel
theorem dL_act_100 : decode cL_act 100 = .ok (.bipush 6, 2) := by decide +kernel
theorem dL_act_102 : decode cL_act 102 = .ok (.if_icmp .ne 7, 3) := by decide +kernel
theorem dL_act_105 : decode cL_act 105 = .ok (.iconst 1, 1) := by decide +kernel
theorem dL_act_106 : decode cL_act 106 = .ok (.goto 4, 3) := by decide +kernel
theorem dL_act_109 : decode cL_act 109 = .ok (.iconst 0, 1) := by decide +kernel
theorem dL_act_110 : decode cL_act 110 = .ok (.istore 9, 2) := by decide +kernel
theorem dL_act_112 : decode cL_act 112 = .ok (.aload_n 3, 1) := by decide +kernel
theorem dL_act_113 : decode cL_act 113 = .ok (.aload 4, 2) := by decide +kernel
theorem dL_act_115 : decode cL_act 115 = .ok (.iload 8, 2) := by decide +kernel
theorem dL_act_117 : decode cL_act 117 = .ok (.invokestatic 70, 3) := by decide +kernel
theorem dL_act_120 : decode cL_act 120 = .ok (.aload_n 3, 1) := by decide +kernel
theorem dL_act_121 : decode cL_act 121 = .ok (.aload 5, 2) := by decide +kernel
theorem dL_act_123 : decode cL_act 123 = .ok (.aload 6, 2) := by decide +kernel
theorem dL_act_125 : decode cL_act 125 = .ok (.invokestatic 84, 3) := by decide +kernel
theorem dL_act_128 : decode cL_act 128 = .ok (.istore 10, 2) := by decide +kernel
theorem dL_act_130 : decode cL_act 130 = .ok (.aload 5, 2) := by decide +kernel
theorem dL_act_132 : decode cL_act 132 = .ok (.iconst 0, 1) := by decide +kernel
theorem dL_act_133 : decode cL_act 133 = .ok (.dup2, 1) := by decide +kernel
theorem dL_act_134 : decode cL_act 134 = .ok (.iaload, 1) := by decide +kernel
theorem dL_act_135 : decode cL_act 135 = .ok (.iconst 1, 1) := by decide +kernel
theorem dL_act_136 : decode cL_act 136 = .ok (.iadd, 1) := by decide +kernel
theorem dL_act_137 : decode cL_act 137 = .ok (.iastore, 1) := by decide +kernel
theorem dL_act_138 : decode cL_act 138 = .ok (.aload 4, 2) := by decide +kernel
theorem dL_act_140 : decode cL_act 140 = .ok (.bipush 10, 2) := by decide +kernel
theorem dL_act_142 : decode cL_act 142 = .ok (.iload 8, 2) := by decide +kernel
theorem dL_act_144 : decode cL_act 144 = .ok (.iconst 5, 1) := by decide +kernel
theorem dL_act_145 : decode cL_act 145 = .ok (.irem, 1) := by decide +kernel
theorem dL_act_146 : decode cL_act 146 = .ok (.iadd, 1) := by decide +kernel
theorem dL_act_147 : decode cL_act 147 = .ok (.dup2, 1) := by decide +kernel
theorem dL_act_148 : decode cL_act 148 = .ok (.iaload, 1) := by decide +kernel
theorem dL_act_149 : decode cL_act 149 = .ok (.iconst 1, 1) := by decide +kernel
theorem dL_act_150 : decode cL_act 150 = .ok (.iadd, 1) := by decide +kernel
theorem dL_act_151 : decode cL_act 151 = .ok (.iastore, 1) := by decide +kernel
theorem dL_act_152 : decode cL_act 152 = .ok (.aload 5, 2) := by decide +kernel
theorem dL_act_154 : decode cL_act 154 = .ok (.iconst 1, 1) := by decide +kernel
theorem dL_act_155 : decode cL_act 155 = .ok (.dup2, 1) := by decide +kernel
theorem dL_act_156 : decode cL_act 156 = .ok (.iaload, 1) := by decide +kernel
theorem dL_act_157 : decode cL_act 157 = .ok (.iload 9, 2) := by decide +kernel
theorem dL_act_159 : decode cL_act 159 = .ok (.ifCond .ne 14, 3) := by decide +kernel
theorem dL_act_162 : decode cL_act 162 = .ok (.iload 10, 2) := by decide +kernel
theorem dL_act_164 : decode cL_act 164 = .ok (.bipush 6, 2) := by decide +kernel
theorem dL_act_166 : decode cL_act 166 = .ok (.if_icmp .ne 7, 3) := by decide +kernel
theorem dL_act_169 : decode cL_act 169 = .ok (.iconst 1, 1) := by decide +kernel
theorem dL_act_170 : decode cL_act 170 = .ok (.goto 4, 3) := by decide +kernel
theorem dL_act_173 : decode cL_act 173 = .ok (.iconst 0, 1) := by decide +kernel
theorem dL_act_174 : decode cL_act 174 = .ok (.iadd, 1) := by decide +kernel
theorem dL_act_175 : decode cL_act 175 = .ok (.iastore, 1) := by decide +kernel
theorem dL_act_176 : decode cL_act 176 = .ok (.iload 8, 2) := by decide +kernel
theorem dL_act_178 : decode cL_act 178 = .ok (.iconst 5, 1) := by decide +kernel
theorem dL_act_179 : decode cL_act 179 = .ok (.if_icmp .ge 12, 3) := by decide +kernel
theorem dL_act_182 : decode cL_act 182 = .ok (.aload_n 0, 1) := by decide +kernel
theorem dL_act_183 : decode cL_act 183 = .ok (.iload 8, 2) := by decide +kernel
theorem dL_act_185 : decode cL_act 185 = .ok (.invokestatic 106, 3) := by decide +kernel
theorem dL_act_188 : decode cL_act 188 = .ok (.goto 11, 3) := by decide +kernel
theorem dL_act_191 : decode cL_act 191 = .ok (.aload_n 0, 1) := by decide +kernel
theorem dL_act_192 : decode cL_act 192 = .ok (.iload 8, 2) := by decide +kernel
theorem dL_act_194 : decode cL_act 194 = .ok (.iconst 5, 1) := by decide +kernel
theorem dL_act_195 : decode cL_act 195 = .ok (.isub, 1) := by decide +kernel
theorem dL_act_196 : decode cL_act 196 = .ok (.invokestatic 109, 3) := by decide +kernel
theorem dL_act_199 : decode cL_act 199 = .ok (.iload 10, 2) := by decide +kernel
theorem dL_act_201 : decode cL_act 201 = .ok (.if_icmp .ne 7, 3) := by decide +kernel
theorem dL_act_204 : decode cL_act 204 = .ok (.iconst 1, 1) := by decide +kernel
theorem dL_act_205 : decode cL_act 205 = .ok (.goto 4, 3) := by decide +kernel
theorem dL_act_208 : decode cL_act 208 = .ok (.iconst 0, 1) := by decide +kernel
theorem dL_act_209 : decode cL_act 209 = .ok (.ireturn, 1) := by decide +kernel
theorem dL_act_210 : decode cL_act 210 = .ok (.iload 7, 2) := by decide +kernel
theorem dL_act_212 : decode cL_act 212 = .ok (.bipush 10, 2) := by decide +kernel
theorem dL_act_214 : decode cL_act 214 = .ok (.if_icmp .ne 95, 3) := by decide +kernel
theorem dL_act_217 : decode cL_act 217 = .ok (.iconst 0, 1) := by decide +kernel
theorem dL_act_218 : decode cL_act 218 = .ok (.istore 8, 2) := by decide +kernel
theorem dL_act_220 : decode cL_act 220 = .ok (.iconst 0, 1) := by decide +kernel
theorem dL_act_221 : decode cL_act 221 = .ok (.istore 9, 2) := by decide +kernel
theorem dL_act_223 : decode cL_act 223 = .ok (.iload 9, 2) := by decide +kernel
theorem dL_act_225 : decode cL_act 225 = .ok (.bipush 6, 2) := by decide +kernel
theorem dL_act_227 : decode cL_act 227 = .ok (.if_icmp .ge 38, 3) := by decide +kernel
theorem dL_act_230 : decode cL_act 230 = .ok (.iload 8, 2) := by decide +kernel
theorem dL_act_232 : decode cL_act 232 = .ok (.aload_n 3, 1) := by decide +kernel
theorem dL_act_233 : decode cL_act 233 = .ok (.iload 9, 2) := by decide +kernel
theorem dL_act_235 : decode cL_act 235 = .ok (.iaload, 1) := by decide +kernel
theorem dL_act_236 : decode cL_act 236 = .ok (.iload 9, 2) := by decide +kernel
theorem dL_act_238 : decode cL_act 238 = .ok (.if_icmp .ne 13, 3) := by decide +kernel
theorem dL_act_241 : decode cL_act 241 = .ok (.aload_n 3, 1) := by decide +kernel
theorem dL_act_242 : decode cL_act 242 = .ok (.bipush 6, 2) := by decide +kernel
theorem dL_act_244 : decode cL_act 244 = .ok (.iload 9, 2) := by decide +kernel
theorem dL_act_246 : decode cL_act 246 = .ok (.iadd, 1) := by decide +kernel
theorem dL_act_247 : decode cL_act 247 = .ok (.iaload, 1) := by decide +kernel
theorem dL_act_248 : decode cL_act 248 = .ok (.ifCond .eq 7, 3) := by decide +kernel
theorem dL_act_251 : decode cL_act 251 = .ok (.iconst 1, 1) := by decide +kernel
theorem dL_act_252 : decode cL_act 252 = .ok (.goto 4, 3) := by decide +kernel
theorem dL_act_255 : decode cL_act 255 = .ok (.iconst 0, 1) := by decide +kernel
theorem dL_act_256 : decode cL_act 256 = .ok (.iadd, 1) := by decide +kernel
theorem dL_act_257 : decode cL_act 257 = .ok (.istore 8, 2) := by decide +kernel
theorem dL_act_259 : decode cL_act 259 = .ok (.iinc 9 1, 3) := by decide +kernel
theorem dL_act_262 : decode cL_act 262 = .ok (.goto (-39), 3) := by decide +kernel
theorem dL_act_265 : decode cL_act 265 = .ok (.iload_n 2, 1) := by decide +kernel
theorem dL_act_266 : decode cL_act 266 = .ok (.iconst 3, 1) := by decide +kernel
theorem dL_act_267 : decode cL_act 267 = .ok (.iand, 1) := by decide +kernel
theorem dL_act_268 : decode cL_act 268 = .ok (.ifCond .le 22, 3) := by decide +kernel
theorem dL_act_271 : decode cL_act 271 = .ok (.iload 8, 2) := by decide +kernel
theorem dL_act_273 : decode cL_act 273 = .ok (.bipush 6, 2) := by decide +kernel
theorem dL_act_275 : decode cL_act 275 = .ok (.aload_n 0, 1) := by decide +kernel
theorem dL_act_276 : decode cL_act 276 = .ok (.iconst 3, 1) := by decide +kernel
theorem dL_act_277 : decode cL_act 277 = .ok (.invokevirtual 48, 3) := by decide +kernel
theorem dL_act_280 : decode cL_act 280 = .ok (.isub, 1) := by decide +kernel
theorem dL_act_281 : decode cL_act 281 = .ok (.if_icmp .ne 7, 3) := by decide +kernel
theorem dL_act_284 : decode cL_act 284 = .ok (.iconst 1, 1) := by decide +kernel
theorem dL_act_285 : decode cL_act 285 = .ok (.goto 4, 3) := by decide +kernel
theorem dL_act_288 : decode cL_act 288 = .ok (.iconst 0, 1) := by decide +kernel
theorem dL_act_289 : decode cL_act 289 = .ok (.ireturn, 1) := by decide +kernel
theorem dL_act_290 : decode cL_act 290 = .ok (.aload_n 3, 1) := by decide +kernel
theorem dL_act_291 : decode cL_act 291 = .ok (.invokestatic 62, 3) := by decide +kernel
theorem dL_act_294 : decode cL_act 294 = .ok (.aload_n 0, 1) := by decide +kernel
theorem dL_act_295 : decode cL_act 295 = .ok (.invokevirtual 111, 3) := by decide +kernel
theorem dL_act_298 : decode cL_act 298 = .ok (.iload 8, 2) := by decide +kernel
theorem dL_act_300 : decode cL_act 300 = .ok (.if_icmp .ne 7, 3) := by decide +kernel
theorem dL_act_303 : decode cL_act 303 = .ok (.iconst 1, 1) := by decide +kernel
theorem dL_act_304 : decode cL_act 304 = .ok (.goto 4, 3) := by decide +kernel
theorem dL_act_307 : decode cL_act 307 = .ok (.iconst 0, 1) := by decide +kernel
theorem dL_act_308 : decode cL_act 308 = .ok (.ireturn, 1) := by decide +kernel
theorem dL_act_309 : decode cL_act 309 = .ok (.iload 7, 2) := by decide +kernel
theorem dL_act_311 : decode cL_act 311 = .ok (.bipush 13, 2) := by decide +kernel
theorem dL_act_313 : decode cL_act 313 = .ok (.if_icmp .ge 143, 3) := by decide +kernel
theorem dL_act_316 : decode cL_act 316 = .ok (.iload_n 2, 1) := by decide +kernel
theorem dL_act_317 : decode cL_act 317 = .ok (.iconst 5, 1) := by decide +kernel
theorem dL_act_318 : decode cL_act 318 = .ok (.invokestatic 103, 3) := by decide +kernel
theorem dL_act_321 : decode cL_act 321 = .ok (.istore 8, 2) := by decide +kernel
theorem dL_act_323 : decode cL_act 323 = .ok (.iload_n 2, 1) := by decide +kernel
theorem dL_act_324 : decode cL_act 324 = .ok (.iconst 3, 1) := by decide +kernel
theorem dL_act_325 : decode cL_act 325 = .ok (.ishr, 1) := by decide +kernel
theorem dL_act_326 : decode cL_act 326 = .ok (.bipush 63, 2) := by decide +kernel
theorem dL_act_328 : decode cL_act 328 = .ok (.iand, 1) := by decide +kernel
theorem dL_act_329 : decode cL_act 329 = .ok (.istore 9, 2) := by decide +kernel
theorem dL_act_331 : decode cL_act 331 = .ok (.iload_n 2, 1) := by decide +kernel
theorem dL_act_332 : decode cL_act 332 = .ok (.bipush 9, 2) := by decide +kernel
theorem dL_act_334 : decode cL_act 334 = .ok (.ishr, 1) := by decide +kernel
theorem dL_act_335 : decode cL_act 335 = .ok (.iconst 5, 1) := by decide +kernel
theorem dL_act_336 : decode cL_act 336 = .ok (.invokestatic 103, 3) := by decide +kernel
theorem dL_act_339 : decode cL_act 339 = .ok (.istore 10, 2) := by decide +kernel
theorem dL_act_341 : decode cL_act 341 = .ok (.iload 9, 2) := by decide +kernel
theorem dL_act_343 : decode cL_act 343 = .ok (.invokestatic 78, 3) := by decide +kernel
theorem dL_act_346 : decode cL_act 346 = .ok (.iconst 2, 1) := by decide +kernel
theorem dL_act_347 : decode cL_act 347 = .ok (.if_icmp .ge 65, 3) := by decide +kernel
theorem dL_act_350 : decode cL_act 350 = .ok (.aload_n 0, 1) := by decide +kernel
theorem dL_act_351 : decode cL_act 351 = .ok (.iload 8, 2) := by decide +kernel
theorem dL_act_353 : decode cL_act 353 = .ok (.iload 9, 2) := by decide +kernel
theorem dL_act_355 : decode cL_act 355 = .ok (.iload 10, 2) := by decide +kernel
theorem dL_act_357 : decode cL_act 357 = .ok (.invokestatic 114, 3) := by decide +kernel
theorem dL_act_360 : decode cL_act 360 = .ok (.bipush (-32), 2) := by decide +kernel
theorem dL_act_362 : decode cL_act 362 = .ok (.if_icmp .ne 48, 3) := by decide +kernel
theorem dL_act_365 : decode cL_act 365 = .ok (.aload_n 0, 1) := by decide +kernel
theorem dL_act_366 : decode cL_act 366 = .ok (.iconst 5, 1) := by decide +kernel
theorem dL_act_367 : decode cL_act 367 = .ok (.iload 9, 2) := by decide +kernel
theorem dL_act_369 : decode cL_act 369 = .ok (.iload 10, 2) := by decide +kernel
theorem dL_act_371 : decode cL_act 371 = .ok (.invokestatic 114, 3) := by decide +kernel
theorem dL_act_374 : decode cL_act 374 = .ok (.bipush (-31), 2) := by decide +kernel
theorem dL_act_376 : decode cL_act 376 = .ok (.if_icmp .ne 34, 3) := by decide +kernel
theorem dL_act_379 : decode cL_act 379 = .ok (.aload_n 0, 1) := by decide +kernel
theorem dL_act_380 : decode cL_act 380 = .ok (.iload 8, 2) := by decide +kernel
theorem dL_act_382 : decode cL_act 382 = .ok (.bipush 64, 2) := by decide +kernel
theorem dL_act_384 : decode cL_act 384 = .ok (.iconst 0, 1) := by decide +kernel
theorem dL_act_385 : decode cL_act 385 = .ok (.invokestatic 114, 3) := by decide +kernel
theorem dL_act_388 : decode cL_act 388 = .ok (.bipush (-32), 2) := by decide +kernel
theorem dL_act_390 : decode cL_act 390 = .ok (.if_icmp .ne 20, 3) := by decide +kernel
theorem dL_act_393 : decode cL_act 393 = .ok (.aload_n 0, 1) := by decide +kernel
theorem dL_act_394 : decode cL_act 394 = .ok (.iload 8, 2) := by decide +kernel
theorem dL_act_396 : decode cL_act 396 = .ok (.iconst 3, 1) := by decide +kernel
theorem dL_act_397 : decode cL_act 397 = .ok (.iconst 5, 1) := by decide +kernel
theorem dL_act_398 : decode cL_act 398 = .ok (.invokestatic 114, 3) := by decide +kernel
theorem dL_act_401 : decode cL_act 401 = .ok (.bipush (-32), 2) := by decide +kernel
theorem dL_act_403 : decode cL_act 403 = .ok (.if_icmp .ne 7, 3) := by decide +kernel
theorem dL_act_406 : decode cL_act 406 = .ok (.iconst 1, 1) := by decide +kernel
theorem dL_act_407 : decode cL_act 407 = .ok (.goto 4, 3) := by decide +kernel
theorem dL_act_410 : decode cL_act 410 = .ok (.iconst 0, 1) := by decide +kernel
theorem dL_act_411 : decode cL_act 411 = .ok (.ireturn, 1) := by decide +kernel
theorem dL_act_412 : decode cL_act 412 = .ok (.aload 4, 2) := by decide +kernel
theorem dL_act_414 : decode cL_act 414 = .ok (.iload 8, 2) := by decide +kernel
theorem dL_act_416 : decode cL_act 416 = .ok (.iaload, 1) := by decide +kernel
theorem dL_act_417 : decode cL_act 417 = .ok (.istore 11, 2) := by decide +kernel
theorem dL_act_419 : decode cL_act 419 = .ok (.aload 4, 2) := by decide +kernel
theorem dL_act_421 : decode cL_act 421 = .ok (.iload 8, 2) := by decide +kernel
theorem dL_act_423 : decode cL_act 423 = .ok (.iload 9, 2) := by decide +kernel
theorem dL_act_425 : decode cL_act 425 = .ok (.iastore, 1) := by decide +kernel
theorem dL_act_426 : decode cL_act 426 = .ok (.aload 4, 2) := by decide +kernel
theorem dL_act_428 : decode cL_act 428 = .ok (.iconst 5, 1) := by decide +kernel
theorem dL_act_429 : decode cL_act 429 = .ok (.iload 8, 2) := by decide +kernel
theorem dL_act_431 : decode cL_act 431 = .ok (.iadd, 1) := by decide +kernel
theorem dL_act_432 : decode cL_act 432 = .ok (.iload 10, 2) := by decide +kernel
theorem dL_act_434 : decode cL_act 434 = .ok (.iastore, 1) := by decide +kernel
theorem dL_act_435 : decode cL_act 435 = .ok (.aload_n 0, 1) := by decide +kernel
theorem dL_act_436 : decode cL_act 436 = .ok (.iload 8, 2) := by decide +kernel
theorem dL_act_438 : decode cL_act 438 = .ok (.iload 9, 2) := by decide +kernel
theorem dL_act_440 : decode cL_act 440 = .ok (.iload 10, 2) := by decide +kernel
theorem dL_act_442 : decode cL_act 442 = .ok (.invokestatic 114, 3) := by decide +kernel
theorem dL_act_445 : decode cL_act 445 = .ok (.iload 11, 2) := by decide +kernel
theorem dL_act_447 : decode cL_act 447 = .ok (.if_icmp .ne 7, 3) := by decide +kernel
theorem dL_act_450 : decode cL_act 450 = .ok (.iconst 1, 1) := by decide +kernel
theorem dL_act_451 : decode cL_act 451 = .ok (.goto 4, 3) := by decide +kernel
theorem dL_act_454 : decode cL_act 454 = .ok (.iconst 0, 1) := by decide +kernel
theorem dL_act_455 : decode cL_act 455 = .ok (.ireturn, 1) := by decide +kernel
theorem dL_act_456 : decode cL_act 456 = .ok (.iload 7, 2) := by decide +kernel
theorem dL_act_458 : decode cL_act 458 = .ok (.bipush 13, 2) := by decide +kernel
theorem dL_act_460 : decode cL_act 460 = .ok (.if_icmp .ne 91, 3) := by decide +kernel
theorem dL_act_463 : decode cL_act 463 = .ok (.aload 5, 2) := by decide +kernel
theorem dL_act_465 : decode cL_act 465 = .ok (.iconst 3, 1) := by decide +kernel
theorem dL_act_466 : decode cL_act 466 = .ok (.dup2, 1) := by decide +kernel
theorem dL_act_467 : decode cL_act 467 = .ok (.iaload, 1) := by decide +kernel
theorem dL_act_468 : decode cL_act 468 = .ok (.iconst 1, 1) := by decide +kernel
theorem dL_act_469 : decode cL_act 469 = .ok (.iload_n 2, 1) := by decide +kernel
theorem dL_act_470 : decode cL_act 470 = .ok (.bipush 6, 2) := by decide +kernel
theorem dL_act_472 : decode cL_act 472 = .ok (.invokestatic 103, 3) := by decide +kernel
theorem dL_act_475 : decode cL_act 475 = .ok (.ishl, 1) := by decide +kernel
theorem dL_act_476 : decode cL_act 476 = .ok (.ixor, 1) := by decide +kernel
theorem dL_act_477 : decode cL_act 477 = .ok (.iastore, 1) := by decide +kernel
theorem dL_act_478 : decode cL_act 478 = .ok (.iconst 0, 1) := by decide +kernel
theorem dL_act_479 : decode cL_act 479 = .ok (.istore 8, 2) := by decide +kernel
theorem dL_act_481 : decode cL_act 481 = .ok (.iconst 0, 1) := by decide +kernel
theorem dL_act_482 : decode cL_act 482 = .ok (.istore 9, 2) := by decide +kernel
theorem dL_act_484 : decode cL_act 484 = .ok (.iload 9, 2) := by decide +kernel
theorem dL_act_486 : decode cL_act 486 = .ok (.iconst 5, 1) := by decide +kernel
theorem dL_act_487 : decode cL_act 487 = .ok (.if_icmp .ge 32, 3) := by decide +kernel
theorem dL_act_490 : decode cL_act 490 = .ok (.iload 8, 2) := by decide +kernel
theorem dL_act_492 : decode cL_act 492 = .ok (.aload 4, 2) := by decide +kernel
theorem dL_act_494 : decode cL_act 494 = .ok (.iload 9, 2) := by decide +kernel
theorem dL_act_496 : decode cL_act 496 = .ok (.iaload, 1) := by decide +kernel
theorem dL_act_497 : decode cL_act 497 = .ok (.aload 5, 2) := by decide +kernel
theorem dL_act_499 : decode cL_act 499 = .ok (.iconst 3, 1) := by decide +kernel
theorem dL_act_500 : decode cL_act 500 = .ok (.iaload, 1) := by decide +kernel
theorem dL_act_501 : decode cL_act 501 = .ok (.iand, 1) := by decide +kernel
theorem dL_act_502 : decode cL_act 502 = .ok (.ifCond .eq 7, 3) := by decide +kernel
theorem dL_act_505 : decode cL_act 505 = .ok (.iconst 1, 1) := by decide +kernel
theorem dL_act_506 : decode cL_act 506 = .ok (.goto 4, 3) := by decide +kernel
theorem dL_act_509 : decode cL_act 509 = .ok (.iconst 0, 1) := by decide +kernel
theorem dL_act_510 : decode cL_act 510 = .ok (.iadd, 1) := by decide +kernel
theorem dL_act_511 : decode cL_act 511 = .ok (.istore 8, 2) := by decide +kernel
theorem dL_act_513 : decode cL_act 513 = .ok (.iinc 9 1, 3) := by decide +kernel
theorem dL_act_516 : decode cL_act 516 = .ok (.goto (-32), 3) := by decide +kernel
theorem dL_act_519 : decode cL_act 519 = .ok (.aload_n 0, 1) := by decide +kernel
theorem dL_act_520 : decode cL_act 520 = .ok (.iload_n 2, 1) := by decide +kernel
theorem dL_act_521 : decode cL_act 521 = .ok (.bipush 6, 2) := by decide +kernel
theorem dL_act_523 : decode cL_act 523 = .ok (.invokestatic 103, 3) := by decide +kernel
theorem dL_act_526 : decode cL_act 526 = .ok (.invokestatic 117, 3) := by decide +kernel
theorem dL_act_529 : decode cL_act 529 = .ok (.iload 8, 2) := by decide +kernel
theorem dL_act_531 : decode cL_act 531 = .ok (.if_icmp .ne 18, 3) := by decide +kernel
theorem dL_act_534 : decode cL_act 534 = .ok (.aload_n 0, 1) := by decide +kernel
theorem dL_act_535 : decode cL_act 535 = .ok (.bipush 6, 2) := by decide +kernel
theorem dL_act_537 : decode cL_act 537 = .ok (.invokestatic 117, 3) := by decide +kernel
theorem dL_act_540 : decode cL_act 540 = .ok (.bipush (-31), 2) := by decide +kernel
theorem dL_act_542 : decode cL_act 542 = .ok (.if_icmp .ne 7, 3) := by decide +kernel
theorem dL_act_545 : decode cL_act 545 = .ok (.iconst 1, 1) := by decide +kernel
theorem dL_act_546 : decode cL_act 546 = .ok (.goto 4, 3) := by decide +kernel
theorem dL_act_549 : decode cL_act 549 = .ok (.iconst 0, 1) := by decide +kernel
theorem dL_act_550 : decode cL_act 550 = .ok (.ireturn, 1) := by decide +kernel
theorem dL_act_551 : decode cL_act 551 = .ok (.aload 5, 2) := by decide +kernel
theorem dL_act_553 : decode cL_act 553 = .ok (.iconst 2, 1) := by decide +kernel
theorem dL_act_554 : decode cL_act 554 = .ok (.iaload, 1) := by decide +kernel
theorem dL_act_555 : decode cL_act 555 = .ok (.iconst 1, 1) := by decide +kernel
theorem dL_act_556 : decode cL_act 556 = .ok (.if_icmp .ne 11, 3) := by decide +kernel
theorem dL_act_559 : decode cL_act 559 = .ok (.iload_n 2, 1) := by decide +kernel
theorem dL_act_560 : decode cL_act 560 = .ok (.iconst 3, 1) := by decide +kernel
theorem dL_act_561 : decode cL_act 561 = .ok (.iand, 1) := by decide +kernel
theorem dL_act_562 : decode cL_act 562 = .ok (.ifCond .le 5, 3) := by decide +kernel
theorem dL_act_565 : decode cL_act 565 = .ok (.iconst 1, 1) := by decide +kernel
theorem dL_act_566 : decode cL_act 566 = .ok (.ireturn, 1) := by decide +kernel
theorem dL_act_567 : decode cL_act 567 = .ok (.iconst 0, 1) := by decide +kernel
theorem dL_act_568 : decode cL_act 568 = .ok (.istore 8, 2) := by decide +kernel
theorem dL_act_570 : decode cL_act 570 = .ok (.iconst 0, 1) := by decide +kernel
theorem dL_act_571 : decode cL_act 571 = .ok (.istore 9, 2) := by decide +kernel
theorem dL_act_573 : decode cL_act 573 = .ok (.iload 9, 2) := by decide +kernel
theorem dL_act_575 : decode cL_act 575 = .ok (.bipush 6, 2) := by decide +kernel
theorem dL_act_577 : decode cL_act 577 = .ok (.if_icmp .ge 21, 3) := by decide +kernel
theorem dL_act_580 : decode cL_act 580 = .ok (.iload 8, 2) := by decide +kernel
theorem dL_act_582 : decode cL_act 582 = .ok (.aload_n 3, 1) := by decide +kernel
theorem dL_act_583 : decode cL_act 583 = .ok (.bipush 6, 2) := by decide +kernel
theorem dL_act_585 : decode cL_act 585 = .ok (.iload 9, 2) := by decide +kernel
theorem dL_act_587 : decode cL_act 587 = .ok (.iadd, 1) := by decide +kernel
theorem dL_act_588 : decode cL_act 588 = .ok (.iaload, 1) := by decide +kernel
theorem dL_act_589 : decode cL_act 589 = .ok (.iadd, 1) := by decide +kernel
theorem dL_act_590 : decode cL_act 590 = .ok (.istore 8, 2) := by decide +kernel
theorem dL_act_592 : decode cL_act 592 = .ok (.iinc 9 1, 3) := by decide +kernel
theorem dL_act_595 : decode cL_act 595 = .ok (.goto (-22), 3) := by decide +kernel
theorem dL_act_598 : decode cL_act 598 = .ok (.aload_n 3, 1) := by decide +kernel
theorem dL_act_599 : decode cL_act 599 = .ok (.aload 6, 2) := by decide +kernel
theorem dL_act_601 : decode cL_act 601 = .ok (.invokestatic 99, 3) := by decide +kernel
theorem dL_act_604 : decode cL_act 604 = .ok (.aload 5, 2) := by decide +kernel
theorem dL_act_606 : decode cL_act 606 = .ok (.iconst 2, 1) := by decide +kernel
theorem dL_act_607 : decode cL_act 607 = .ok (.iconst 1, 1) := by decide +kernel
theorem dL_act_608 : decode cL_act 608 = .ok (.iastore, 1) := by decide +kernel
theorem dL_act_609 : decode cL_act 609 = .ok (.aload_n 0, 1) := by decide +kernel
theorem dL_act_610 : decode cL_act 610 = .ok (.invokevirtual 119, 3) := by decide +kernel
theorem dL_act_613 : decode cL_act 613 = .ok (.iload 8, 2) := by decide +kernel
theorem dL_act_615 : decode cL_act 615 = .ok (.if_icmp .ne 7, 3) := by decide +kernel
theorem dL_act_618 : decode cL_act 618 = .ok (.iconst 1, 1) := by decide +kernel
theorem dL_act_619 : decode cL_act 619 = .ok (.goto 4, 3) := by decide +kernel
theorem dL_act_622 : decode cL_act 622 = .ok (.iconst 0, 1) := by decide +kernel
theorem dL_act_623 : decode cL_act 623 = .ok (.ireturn, 1) := by decide +kernel
theorem dL_law_0 : decode cL_law 0 = .ok (.new 10, 3) := by decide +kernel
theorem dL_law_3 : decode cL_law 3 = .ok (.dup, 1) := by decide +kernel
theorem dL_law_4 : decode cL_law 4 = .ok (.invokespecial 122, 3) := by decide +kernel
theorem dL_law_7 : decode cL_law 7 = .ok (.astore_n 1, 1) := by decide +kernel
theorem dL_law_8 : decode cL_law 8 = .ok (.bipush 12, 2) := by decide +kernel
theorem dL_law_10 : decode cL_law 10 = .ok (.newarray .int, 2) := by decide +kernel
theorem dL_law_12 : decode cL_law 12 = .ok (.astore_n 2, 1) := by decide +kernel
theorem dL_law_13 : decode cL_law 13 = .ok (.bipush 15, 2) := by decide +kernel
theorem dL_law_15 : decode cL_law 15 = .ok (.newarray .int, 2) := by decide +kernel
theorem dL_law_17 : decode cL_law 17 = .ok (.astore_n 3, 1) := by decide +kernel
theorem dL_law_18 : decode cL_law 18 = .ok (.iconst 4, 1) := by decide +kernel
theorem dL_law_19 : decode cL_law 19 = .ok (.newarray .int, 2) := by decide +kernel
theorem dL_law_21 : decode cL_law 21 = .ok (.astore 4, 2) := by decide +kernel
theorem dL_law_23 : decode cL_law 23 = .ok (.bipush 12, 2) := by decide +kernel
theorem dL_law_25 : decode cL_law 25 = .ok (.newarray .int, 2) := by decide +kernel
theorem dL_law_27 : decode cL_law 27 = .ok (.astore 5, 2) := by decide +kernel
theorem dL_law_29 : decode cL_law 29 = .ok (.aload_n 2, 1) := by decide +kernel
theorem dL_law_30 : decode cL_law 30 = .ok (.invokestatic 62, 3) := by decide +kernel
theorem dL_law_33 : decode cL_law 33 = .ok (.iconst 0, 1) := by decide +kernel
theorem dL_law_34 : decode cL_law 34 = .ok (.istore 6, 2) := by decide +kernel
theorem dL_law_36 : decode cL_law 36 = .ok (.iload 6, 2) := by decide +kernel
theorem dL_law_38 : decode cL_law 38 = .ok (.iconst 5, 1) := by decide +kernel
theorem dL_law_39 : decode cL_law 39 = .ok (.if_icmp .ge 57, 3) := by decide +kernel
theorem dL_law_42 : decode cL_law 42 = .ok (.aload_n 3, 1) := by decide +kernel
theorem dL_law_43 : decode cL_law 43 = .ok (.iload 6, 2) := by decide +kernel
theorem dL_law_45 : decode cL_law 45 = .ok (.iconst 1, 1) := by decide +kernel
theorem dL_law_46 : decode cL_law 46 = .ok (.iload 6, 2) := by decide +kernel
theorem dL_law_48 : decode cL_law 48 = .ok (.ishl, 1) := by decide +kernel
theorem dL_law_49 : decode cL_law 49 = .ok (.iconst 1, 1) := by decide +kernel
theorem dL_law_50 : decode cL_law 50 = .ok (.iload 6, 2) := by decide +kernel
theorem dL_law_52 : decode cL_law 52 = .ok (.iconst 1, 1) := by decide +kernel
theorem dL_law_53 : decode cL_law 53 = .ok (.iadd, 1) := by decide +kernel
theorem dL_law_54 : decode cL_law 54 = .ok (.bipush 6, 2) := by decide +kernel
theorem dL_law_56 : decode cL_law 56 = .ok (.irem, 1) := by decide +kernel
theorem dL_law_57 : decode cL_law 57 = .ok (.ishl, 1) := by decide +kernel
theorem dL_law_58 : decode cL_law 58 = .ok (.ior, 1) := by decide +kernel
theorem dL_law_59 : decode cL_law 59 = .ok (.iconst 1, 1) := by decide +kernel
theorem dL_law_60 : decode cL_law 60 = .ok (.iload 6, 2) := by decide +kernel
theorem dL_law_62 : decode cL_law 62 = .ok (.iconst 3, 1) := by decide +kernel
theorem dL_law_63 : decode cL_law 63 = .ok (.iadd, 1) := by decide +kernel
theorem dL_law_64 : decode cL_law 64 = .ok (.bipush 6, 2) := by decide +kernel
theorem dL_law_66 : decode cL_law 66 = .ok (.irem, 1) := by decide +kernel
theorem dL_law_67 : decode cL_law 67 = .ok (.ishl, 1) := by decide +kernel
theorem dL_law_68 : decode cL_law 68 = .ok (.ior, 1) := by decide +kernel
theorem dL_law_69 : decode cL_law 69 = .ok (.iastore, 1) := by decide +kernel
theorem dL_law_70 : decode cL_law 70 = .ok (.aload_n 3, 1) := by decide +kernel
theorem dL_law_71 : decode cL_law 71 = .ok (.iconst 5, 1) := by decide +kernel
theorem dL_law_72 : decode cL_law 72 = .ok (.iload 6, 2) := by decide +kernel
theorem dL_law_74 : decode cL_law 74 = .ok (.iadd, 1) := by decide +kernel
theorem dL_law_75 : decode cL_law 75 = .ok (.iload 6, 2) := by decide +kernel
theorem dL_law_77 : decode cL_law 77 = .ok (.iconst 4, 1) := by decide +kernel
theorem dL_law_78 : decode cL_law 78 = .ok (.if_icmp .ne 7, 3) := by decide +kernel
theorem dL_law_81 : decode cL_law 81 = .ok (.iconst 1, 1) := by decide +kernel
theorem dL_law_82 : decode cL_law 82 = .ok (.goto 7, 3) := by decide +kernel
theorem dL_law_85 : decode cL_law 85 = .ok (.iconst 1, 1) := by decide +kernel
theorem dL_law_86 : decode cL_law 86 = .ok (.iload 6, 2) := by decide +kernel
theorem dL_law_88 : decode cL_law 88 = .ok (.iadd, 1) := by decide +kernel
theorem dL_law_89 : decode cL_law 89 = .ok (.iastore, 1) := by decide +kernel
theorem dL_law_90 : decode cL_law 90 = .ok (.iinc 6 1, 3) := by decide +kernel
theorem dL_law_93 : decode cL_law 93 = .ok (.goto (-57), 3) := by decide +kernel
theorem dL_law_96 : decode cL_law 96 = .ok (.aload_n 1, 1) := by decide +kernel
theorem dL_law_97 : decode cL_law 97 = .ok (.aload_n 2, 1) := by decide +kernel
theorem dL_law_98 : decode cL_law 98 = .ok (.aload_n 3, 1) := by decide +kernel
theorem dL_law_99 : decode cL_law 99 = .ok (.aload 4, 2) := by decide +kernel
theorem dL_law_101 : decode cL_law 101 = .ok (.aload 5, 2) := by decide +kernel
theorem dL_law_103 : decode cL_law 103 = .ok (.invokestatic 123, 3) := by decide +kernel
theorem dL_law_106 : decode cL_law 106 = .ok (.ifCond .eq 45, 3) := by decide +kernel
theorem dL_law_109 : decode cL_law 109 = .ok (.aload_n 1, 1) := by decide +kernel
theorem dL_law_110 : decode cL_law 110 = .ok (.aload_n 3, 1) := by decide +kernel
theorem dL_law_111 : decode cL_law 111 = .ok (.aload 4, 2) := by decide +kernel
theorem dL_law_113 : decode cL_law 113 = .ok (.invokestatic 127, 3) := by decide +kernel
theorem dL_law_116 : decode cL_law 116 = .ok (.ifCond .eq 35, 3) := by decide +kernel
theorem dL_law_119 : decode cL_law 119 = .ok (.aload_n 1, 1) := by decide +kernel
theorem dL_law_120 : decode cL_law 120 = .ok (.aload_n 2, 1) := by decide +kernel
theorem dL_law_121 : decode cL_law 121 = .ok (.aload_n 3, 1) := by decide +kernel
theorem dL_law_122 : decode cL_law 122 = .ok (.aload 4, 2) := by decide +kernel
theorem dL_law_124 : decode cL_law 124 = .ok (.aload 5, 2) := by decide +kernel
theorem dL_law_126 : decode cL_law 126 = .ok (.iconst 1, 1) := by decide +kernel
theorem dL_law_127 : decode cL_law 127 = .ok (.invokestatic 131, 3) := by decide +kernel
theorem dL_law_130 : decode cL_law 130 = .ok (.ifCond .eq 21, 3) := by decide +kernel
theorem dL_law_133 : decode cL_law 133 = .ok (.aload_n 1, 1) := by decide +kernel
theorem dL_law_134 : decode cL_law 134 = .ok (.invokestatic 135, 3) := by decide +kernel
theorem dL_law_137 : decode cL_law 137 = .ok (.bipush (-33), 2) := by decide +kernel
theorem dL_law_139 : decode cL_law 139 = .ok (.if_icmp .ne 12, 3) := by decide +kernel
theorem dL_law_142 : decode cL_law 142 = .ok (.aload_n 1, 1) := by decide +kernel
theorem dL_law_143 : decode cL_law 143 = .ok (.invokestatic 138, 3) := by decide +kernel
theorem dL_law_146 : decode cL_law 146 = .ok (.bipush (-33), 2) := by decide +kernel
theorem dL_law_148 : decode cL_law 148 = .ok (.if_icmp .eq 5, 3) := by decide +kernel
theorem dL_law_151 : decode cL_law 151 = .ok (.iconst 0, 1) := by decide +kernel
theorem dL_law_152 : decode cL_law 152 = .ok (.ireturn, 1) := by decide +kernel
theorem dL_law_153 : decode cL_law 153 = .ok (.iconst 0, 1) := by decide +kernel
theorem dL_law_154 : decode cL_law 154 = .ok (.istore 6, 2) := by decide +kernel
theorem dL_law_156 : decode cL_law 156 = .ok (.iload 6, 2) := by decide +kernel
theorem dL_law_158 : decode cL_law 158 = .ok (.bipush 44, 2) := by decide +kernel
theorem dL_law_160 : decode cL_law 160 = .ok (.if_icmp .ge 135, 3) := by decide +kernel
theorem dL_law_163 : decode cL_law 163 = .ok (.aload_n 0, 1) := by decide +kernel
theorem dL_law_164 : decode cL_law 164 = .ok (.iconst 2, 1) := by decide +kernel
theorem dL_law_165 : decode cL_law 165 = .ok (.iload 6, 2) := by decide +kernel
theorem dL_law_167 : decode cL_law 167 = .ok (.imul, 1) := by decide +kernel
theorem dL_law_168 : decode cL_law 168 = .ok (.invokestatic 140, 3) := by decide +kernel
theorem dL_law_171 : decode cL_law 171 = .ok (.istore 7, 2) := by decide +kernel
theorem dL_law_173 : decode cL_law 173 = .ok (.aload_n 0, 1) := by decide +kernel
theorem dL_law_174 : decode cL_law 174 = .ok (.iconst 2, 1) := by decide +kernel
theorem dL_law_175 : decode cL_law 175 = .ok (.iload 6, 2) := by decide +kernel
theorem dL_law_177 : decode cL_law 177 = .ok (.imul, 1) := by decide +kernel
theorem dL_law_178 : decode cL_law 178 = .ok (.iconst 1, 1) := by decide +kernel
theorem dL_law_179 : decode cL_law 179 = .ok (.iadd, 1) := by decide +kernel
theorem dL_law_180 : decode cL_law 180 = .ok (.invokestatic 140, 3) := by decide +kernel
theorem dL_law_183 : decode cL_law 183 = .ok (.istore 8, 2) := by decide +kernel
theorem dL_law_185 : decode cL_law 185 = .ok (.aload_n 1, 1) := by decide +kernel
theorem dL_law_186 : decode cL_law 186 = .ok (.iload 6, 2) := by decide +kernel
theorem dL_law_188 : decode cL_law 188 = .ok (.iconst 5, 1) := by decide +kernel
theorem dL_law_189 : decode cL_law 189 = .ok (.if_icmp .ne 8, 3) := by decide +kernel
theorem dL_law_192 : decode cL_law 192 = .ok (.bipush 14, 2) := by decide +kernel
theorem dL_law_194 : decode cL_law 194 = .ok (.goto 5, 3) := by decide +kernel
theorem dL_law_197 : decode cL_law 197 = .ok (.iload 7, 2) := by decide +kernel
theorem dL_law_199 : decode cL_law 199 = .ok (.iload 6, 2) := by decide +kernel
theorem dL_law_201 : decode cL_law 201 = .ok (.iconst 5, 1) := by decide +kernel
theorem dL_law_202 : decode cL_law 202 = .ok (.if_icmp .ne 7, 3) := by decide +kernel
theorem dL_law_205 : decode cL_law 205 = .ok (.iconst 4, 1) := by decide +kernel
theorem dL_law_206 : decode cL_law 206 = .ok (.goto 5, 3) := by decide +kernel
theorem dL_law_209 : decode cL_law 209 = .ok (.iload 8, 2) := by decide +kernel
theorem dL_law_211 : decode cL_law 211 = .ok (.aload_n 2, 1) := by decide +kernel
theorem dL_law_212 : decode cL_law 212 = .ok (.aload_n 3, 1) := by decide +kernel
theorem dL_law_213 : decode cL_law 213 = .ok (.aload 4, 2) := by decide +kernel
theorem dL_law_215 : decode cL_law 215 = .ok (.aload 5, 2) := by decide +kernel
theorem dL_law_217 : decode cL_law 217 = .ok (.invokestatic 144, 3) := by decide +kernel
theorem dL_law_220 : decode cL_law 220 = .ok (.ifCond .eq 67, 3) := by decide +kernel
theorem dL_law_223 : decode cL_law 223 = .ok (.aload_n 1, 1) := by decide +kernel
theorem dL_law_224 : decode cL_law 224 = .ok (.aload_n 2, 1) := by decide +kernel
theorem dL_law_225 : decode cL_law 225 = .ok (.aload_n 3, 1) := by decide +kernel
theorem dL_law_226 : decode cL_law 226 = .ok (.aload 4, 2) := by decide +kernel
theorem dL_law_228 : decode cL_law 228 = .ok (.aload 5, 2) := by decide +kernel
theorem dL_law_230 : decode cL_law 230 = .ok (.invokestatic 123, 3) := by decide +kernel
theorem dL_law_233 : decode cL_law 233 = .ok (.ifCond .eq 54, 3) := by decide +kernel
theorem dL_law_236 : decode cL_law 236 = .ok (.iload 6, 2) := by decide +kernel
theorem dL_law_238 : decode cL_law 238 = .ok (.iconst 4, 1) := by decide +kernel
theorem dL_law_239 : decode cL_law 239 = .ok (.irem, 1) := by decide +kernel
theorem dL_law_240 : decode cL_law 240 = .ok (.iconst 3, 1) := by decide +kernel
theorem dL_law_241 : decode cL_law 241 = .ok (.if_icmp .ne 13, 3) := by decide +kernel
theorem dL_law_244 : decode cL_law 244 = .ok (.aload_n 1, 1) := by decide +kernel
theorem dL_law_245 : decode cL_law 245 = .ok (.aload_n 3, 1) := by decide +kernel
theorem dL_law_246 : decode cL_law 246 = .ok (.aload 4, 2) := by decide +kernel
theorem dL_law_248 : decode cL_law 248 = .ok (.invokestatic 127, 3) := by decide +kernel
theorem dL_law_251 : decode cL_law 251 = .ok (.ifCond .eq 36, 3) := by decide +kernel
theorem dL_law_254 : decode cL_law 254 = .ok (.iload 6, 2) := by decide +kernel
theorem dL_law_256 : decode cL_law 256 = .ok (.iconst 3, 1) := by decide +kernel
theorem dL_law_257 : decode cL_law 257 = .ok (.irem, 1) := by decide +kernel
theorem dL_law_258 : decode cL_law 258 = .ok (.iconst 2, 1) := by decide +kernel
theorem dL_law_259 : decode cL_law 259 = .ok (.if_icmp .ne 30, 3) := by decide +kernel
theorem dL_law_262 : decode cL_law 262 = .ok (.aload_n 1, 1) := by decide +kernel
theorem dL_law_263 : decode cL_law 263 = .ok (.aload_n 2, 1) := by decide +kernel
theorem dL_law_264 : decode cL_law 264 = .ok (.aload_n 3, 1) := by decide +kernel
theorem dL_law_265 : decode cL_law 265 = .ok (.aload 4, 2) := by decide +kernel
theorem dL_law_267 : decode cL_law 267 = .ok (.aload 5, 2) := by decide +kernel
theorem dL_law_269 : decode cL_law 269 = .ok (.iload 6, 2) := by decide +kernel
theorem dL_law_271 : decode cL_law 271 = .ok (.bipush 8, 2) := by decide +kernel
theorem dL_law_273 : decode cL_law 273 = .ok (.if_icmp .ne 7, 3) := by decide +kernel
theorem dL_law_276 : decode cL_law 276 = .ok (.iconst 4, 1) := by decide +kernel
theorem dL_law_277 : decode cL_law 277 = .ok (.goto 4, 3) := by decide +kernel
theorem dL_law_280 : decode cL_law 280 = .ok (.iconst 2, 1) := by decide +kernel
theorem dL_law_281 : decode cL_law 281 = .ok (.invokestatic 131, 3) := by decide +kernel
theorem dL_law_284 : decode cL_law 284 = .ok (.ifCond .ne 5, 3) := by decide +kernel
theorem dL_law_287 : decode cL_law 287 = .ok (.iconst 0, 1) := by decide +kernel
theorem dL_law_288 : decode cL_law 288 = .ok (.ireturn, 1) := by decide +kernel
theorem dL_law_289 : decode cL_law 289 = .ok (.iinc 6 1, 3) := by decide +kernel
theorem dL_law_292 : decode cL_law 292 = .ok (.goto (-136), 3) := by decide +kernel
theorem dL_law_295 : decode cL_law 295 = .ok (.aload_n 1, 1) := by decide +kernel
theorem dL_law_296 : decode cL_law 296 = .ok (.bipush 6, 2) := by decide +kernel
theorem dL_law_298 : decode cL_law 298 = .ok (.iconst 5, 1) := by decide +kernel
theorem dL_law_299 : decode cL_law 299 = .ok (.invokestatic 148, 3) := by decide +kernel
theorem dL_law_302 : decode cL_law 302 = .ok (.bipush (-31), 2) := by decide +kernel
theorem dL_law_304 : decode cL_law 304 = .ok (.if_icmp .ne 109, 3) := by decide +kernel
theorem dL_law_307 : decode cL_law 307 = .ok (.aload_n 1, 1) := by decide +kernel
theorem dL_law_308 : decode cL_law 308 = .ok (.iconst 0, 1) := by decide +kernel
theorem dL_law_309 : decode cL_law 309 = .ok (.iconst 5, 1) := by decide +kernel
theorem dL_law_310 : decode cL_law 310 = .ok (.invokestatic 148, 3) := by decide +kernel
theorem dL_law_313 : decode cL_law 313 = .ok (.bipush (-32), 2) := by decide +kernel
theorem dL_law_315 : decode cL_law 315 = .ok (.if_icmp .ne 98, 3) := by decide +kernel
theorem dL_law_318 : decode cL_law 318 = .ok (.aload_n 1, 1) := by decide +kernel
theorem dL_law_319 : decode cL_law 319 = .ok (.iconst 5, 1) := by decide +kernel
theorem dL_law_320 : decode cL_law 320 = .ok (.bipush 6, 2) := by decide +kernel
theorem dL_law_322 : decode cL_law 322 = .ok (.invokestatic 151, 3) := by decide +kernel
theorem dL_law_325 : decode cL_law 325 = .ok (.bipush (-31), 2) := by decide +kernel
theorem dL_law_327 : decode cL_law 327 = .ok (.if_icmp .ne 86, 3) := by decide +kernel
theorem dL_law_330 : decode cL_law 330 = .ok (.aload_n 1, 1) := by decide +kernel
theorem dL_law_331 : decode cL_law 331 = .ok (.iconst 0, 1) := by decide +kernel
theorem dL_law_332 : decode cL_law 332 = .ok (.bipush 6, 2) := by decide +kernel
theorem dL_law_334 : decode cL_law 334 = .ok (.invokestatic 151, 3) := by decide +kernel
theorem dL_law_337 : decode cL_law 337 = .ok (.bipush (-32), 2) := by decide +kernel
theorem dL_law_339 : decode cL_law 339 = .ok (.if_icmp .ne 74, 3) := by decide +kernel
theorem dL_law_342 : decode cL_law 342 = .ok (.aload_n 1, 1) := by decide +kernel
theorem dL_law_343 : decode cL_law 343 = .ok (.iconst 0, 1) := by decide +kernel
theorem dL_law_344 : decode cL_law 344 = .ok (.iconst 5, 1) := by decide +kernel
theorem dL_law_345 : decode cL_law 345 = .ok (.iconst 5, 1) := by decide +kernel
theorem dL_law_346 : decode cL_law 346 = .ok (.invokestatic 153, 3) := by decide +kernel
theorem dL_law_349 : decode cL_law 349 = .ok (.bipush (-31), 2) := by decide +kernel
theorem dL_law_351 : decode cL_law 351 = .ok (.if_icmp .ne 62, 3) := by decide +kernel
theorem dL_law_354 : decode cL_law 354 = .ok (.aload_n 1, 1) := by decide +kernel
theorem dL_law_355 : decode cL_law 355 = .ok (.iconst 0, 1) := by decide +kernel
theorem dL_law_356 : decode cL_law 356 = .ok (.iconst 0, 1) := by decide +kernel
theorem dL_law_357 : decode cL_law 357 = .ok (.iconst 5, 1) := by decide +kernel
theorem dL_law_358 : decode cL_law 358 = .ok (.invokestatic 153, 3) := by decide +kernel
theorem dL_law_361 : decode cL_law 361 = .ok (.bipush (-32), 2) := by decide +kernel
theorem dL_law_363 : decode cL_law 363 = .ok (.if_icmp .ne 50, 3) := by decide +kernel
theorem dL_law_366 : decode cL_law 366 = .ok (.aload_n 1, 1) := by decide +kernel
theorem dL_law_367 : decode cL_law 367 = .ok (.bipush 10, 2) := by decide +kernel
theorem dL_law_369 : decode cL_law 369 = .ok (.invokestatic 155, 3) := by decide +kernel
theorem dL_law_372 : decode cL_law 372 = .ok (.bipush (-32), 2) := by decide +kernel
theorem dL_law_374 : decode cL_law 374 = .ok (.if_icmp .ne 39, 3) := by decide +kernel
theorem dL_law_377 : decode cL_law 377 = .ok (.aload_n 1, 1) := by decide +kernel
theorem dL_law_378 : decode cL_law 378 = .ok (.iconst 2, 1) := by decide +kernel
theorem dL_law_379 : decode cL_law 379 = .ok (.invokestatic 157, 3) := by decide +kernel
theorem dL_law_382 : decode cL_law 382 = .ok (.bipush (-32), 2) := by decide +kernel
theorem dL_law_384 : decode cL_law 384 = .ok (.if_icmp .ne 29, 3) := by decide +kernel
theorem dL_law_387 : decode cL_law 387 = .ok (.aload_n 1, 1) := by decide +kernel
theorem dL_law_388 : decode cL_law 388 = .ok (.iconst 5, 1) := by decide +kernel
theorem dL_law_389 : decode cL_law 389 = .ok (.iconst 2, 1) := by decide +kernel
theorem dL_law_390 : decode cL_law 390 = .ok (.invokestatic 159, 3) := by decide +kernel
theorem dL_law_393 : decode cL_law 393 = .ok (.bipush (-31), 2) := by decide +kernel
theorem dL_law_395 : decode cL_law 395 = .ok (.if_icmp .ne 18, 3) := by decide +kernel
theorem dL_law_398 : decode cL_law 398 = .ok (.aload_n 1, 1) := by decide +kernel
theorem dL_law_399 : decode cL_law 399 = .ok (.iconst 0, 1) := by decide +kernel
theorem dL_law_400 : decode cL_law 400 = .ok (.iconst 2, 1) := by decide +kernel
theorem dL_law_401 : decode cL_law 401 = .ok (.invokestatic 159, 3) := by decide +kernel
theorem dL_law_404 : decode cL_law 404 = .ok (.bipush (-32), 2) := by decide +kernel
theorem dL_law_406 : decode cL_law 406 = .ok (.if_icmp .ne 7, 3) := by decide +kernel
theorem dL_law_409 : decode cL_law 409 = .ok (.iconst 1, 1) := by decide +kernel
theorem dL_law_410 : decode cL_law 410 = .ok (.goto 4, 3) := by decide +kernel
theorem dL_law_413 : decode cL_law 413 = .ok (.iconst 0, 1) := by decide +kernel
theorem dL_law_414 : decode cL_law 414 = .ok (.ireturn, 1) := by decide +kernel
