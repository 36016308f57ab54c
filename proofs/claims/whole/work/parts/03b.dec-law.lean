theorem d_LW_cell_0 : decode b_LW_cell 0 = .ok (.iload_n 1, 1) := by decide +kernel
theorem d_LW_cell_1 : decode b_LW_cell 1 = .ok (.aload_n 0, 1) := by decide +kernel
theorem d_LW_cell_2 : decode b_LW_cell 2 = .ok (.arraylength, 1) := by decide +kernel
theorem d_LW_cell_3 : decode b_LW_cell 3 = .ok (.if_icmp .ge 9, 3) := by decide +kernel
theorem d_LW_cell_6 : decode b_LW_cell 6 = .ok (.aload_n 0, 1) := by decide +kernel
theorem d_LW_cell_7 : decode b_LW_cell 7 = .ok (.iload_n 1, 1) := by decide +kernel
theorem d_LW_cell_8 : decode b_LW_cell 8 = .ok (.iaload, 1) := by decide +kernel
theorem d_LW_cell_9 : decode b_LW_cell 9 = .ok (.goto 4, 3) := by decide +kernel
theorem d_LW_cell_12 : decode b_LW_cell 12 = .ok (.iconst 0, 1) := by decide +kernel
theorem d_LW_cell_13 : decode b_LW_cell 13 = .ok (.ireturn, 1) := by decide +kernel
theorem d_LW_key_0 : decode b_LW_key 0 = .ok (.aload_n 1, 1) := by decide +kernel
theorem d_LW_key_1 : decode b_LW_key 1 = .ok (.iconst 0, 1) := by decide +kernel
theorem d_LW_key_2 : decode b_LW_key 2 = .ok (.aload_n 0, 1) := by decide +kernel
theorem d_LW_key_3 : decode b_LW_key 3 = .ok (.invokevirtual 7, 3) := by decide +kernel
theorem d_LW_key_6 : decode b_LW_key 6 = .ok (.i2l, 1) := by decide +kernel
theorem d_LW_key_7 : decode b_LW_key 7 = .ok (.lastore, 1) := by decide +kernel
theorem d_LW_key_8 : decode b_LW_key 8 = .ok (.goto 6, 3) := by decide +kernel
theorem d_LW_key_11 : decode b_LW_key 11 = .ok (.astore_n 2, 1) := by decide +kernel
theorem d_LW_key_12 : decode b_LW_key 12 = .ok (.iconst 1, 1) := by decide +kernel
theorem d_LW_key_13 : decode b_LW_key 13 = .ok (.ireturn, 1) := by decide +kernel
theorem d_LW_key_14 : decode b_LW_key 14 = .ok (.iconst 0, 1) := by decide +kernel
theorem d_LW_key_15 : decode b_LW_key 15 = .ok (.ireturn, 1) := by decide +kernel
theorem d_LW_door_0 : decode b_LW_door 0 = .ok (.aload_n 1, 1) := by decide +kernel
theorem d_LW_door_1 : decode b_LW_door 1 = .ok (.iconst 0, 1) := by decide +kernel
theorem d_LW_door_2 : decode b_LW_door 2 = .ok (.aload_n 0, 1) := by decide +kernel
theorem d_LW_door_3 : decode b_LW_door 3 = .ok (.invokevirtual 15, 3) := by decide +kernel
theorem d_LW_door_6 : decode b_LW_door 6 = .ok (.i2l, 1) := by decide +kernel
theorem d_LW_door_7 : decode b_LW_door 7 = .ok (.lastore, 1) := by decide +kernel
theorem d_LW_door_8 : decode b_LW_door 8 = .ok (.goto 6, 3) := by decide +kernel
theorem d_LW_door_11 : decode b_LW_door 11 = .ok (.astore_n 2, 1) := by decide +kernel
theorem d_LW_door_12 : decode b_LW_door 12 = .ok (.iconst 1, 1) := by decide +kernel
theorem d_LW_door_13 : decode b_LW_door 13 = .ok (.ireturn, 1) := by decide +kernel
theorem d_LW_door_14 : decode b_LW_door 14 = .ok (.iconst 0, 1) := by decide +kernel
theorem d_LW_door_15 : decode b_LW_door 15 = .ok (.ireturn, 1) := by decide +kernel
theorem d_LW_must_0 : decode b_LW_must 0 = .ok (.aload 4, 2) := by decide +kernel
theorem d_LW_must_2 : decode b_LW_must 2 = .ok (.iconst 0, 1) := by decide +kernel
theorem d_LW_must_3 : decode b_LW_must 3 = .ok (.aload_n 0, 1) := by decide +kernel
theorem d_LW_must_4 : decode b_LW_must 4 = .ok (.iload_n 1, 1) := by decide +kernel
theorem d_LW_must_5 : decode b_LW_must 5 = .ok (.iload_n 2, 1) := by decide +kernel
theorem d_LW_must_6 : decode b_LW_must 6 = .ok (.iload_n 3, 1) := by decide +kernel
theorem d_LW_must_7 : decode b_LW_must 7 = .ok (.invokevirtual 18, 3) := by decide +kernel
theorem d_LW_must_10 : decode b_LW_must 10 = .ok (.ifCond .eq 7, 3) := by decide +kernel
theorem d_LW_must_13 : decode b_LW_must 13 = .ok (.lconst 1, 1) := by decide +kernel
theorem d_LW_must_14 : decode b_LW_must 14 = .ok (.goto 4, 3) := by decide +kernel
theorem d_LW_must_17 : decode b_LW_must 17 = .ok (.lconst 0, 1) := by decide +kernel
theorem d_LW_must_18 : decode b_LW_must 18 = .ok (.lastore, 1) := by decide +kernel
theorem d_LW_must_19 : decode b_LW_must 19 = .ok (.goto 7, 3) := by decide +kernel
theorem d_LW_must_22 : decode b_LW_must 22 = .ok (.astore 5, 2) := by decide +kernel
theorem d_LW_must_24 : decode b_LW_must 24 = .ok (.iconst 1, 1) := by decide +kernel
theorem d_LW_must_25 : decode b_LW_must 25 = .ok (.ireturn, 1) := by decide +kernel
theorem d_LW_must_26 : decode b_LW_must 26 = .ok (.iconst 0, 1) := by decide +kernel
theorem d_LW_must_27 : decode b_LW_must 27 = .ok (.ireturn, 1) := by decide +kernel
theorem d_LW_step_0 : decode b_LW_step 0 = .ok (.aload_n 2, 1) := by decide +kernel
theorem d_LW_step_1 : decode b_LW_step 1 = .ok (.iconst 0, 1) := by decide +kernel
theorem d_LW_step_2 : decode b_LW_step 2 = .ok (.aload_n 0, 1) := by decide +kernel
theorem d_LW_step_3 : decode b_LW_step 3 = .ok (.iload_n 1, 1) := by decide +kernel
theorem d_LW_step_4 : decode b_LW_step 4 = .ok (.invokevirtual 24, 3) := by decide +kernel
theorem d_LW_step_7 : decode b_LW_step 7 = .ok (.i2l, 1) := by decide +kernel
theorem d_LW_step_8 : decode b_LW_step 8 = .ok (.lastore, 1) := by decide +kernel
theorem d_LW_step_9 : decode b_LW_step 9 = .ok (.goto 6, 3) := by decide +kernel
theorem d_LW_step_12 : decode b_LW_step 12 = .ok (.astore_n 3, 1) := by decide +kernel
theorem d_LW_step_13 : decode b_LW_step 13 = .ok (.iconst 1, 1) := by decide +kernel
theorem d_LW_step_14 : decode b_LW_step 14 = .ok (.ireturn, 1) := by decide +kernel
theorem d_LW_step_15 : decode b_LW_step 15 = .ok (.iconst 0, 1) := by decide +kernel
theorem d_LW_step_16 : decode b_LW_step 16 = .ok (.ireturn, 1) := by decide +kernel
theorem d_LW_bar_0 : decode b_LW_bar 0 = .ok (.aload 4, 2) := by decide +kernel
theorem d_LW_bar_2 : decode b_LW_bar 2 = .ok (.iconst 0, 1) := by decide +kernel
theorem d_LW_bar_3 : decode b_LW_bar 3 = .ok (.aload_n 0, 1) := by decide +kernel
theorem d_LW_bar_4 : decode b_LW_bar 4 = .ok (.iload_n 1, 1) := by decide +kernel
theorem d_LW_bar_5 : decode b_LW_bar 5 = .ok (.iload_n 2, 1) := by decide +kernel
theorem d_LW_bar_6 : decode b_LW_bar 6 = .ok (.iload_n 3, 1) := by decide +kernel
theorem d_LW_bar_7 : decode b_LW_bar 7 = .ok (.invokevirtual 28, 3) := by decide +kernel
theorem d_LW_bar_10 : decode b_LW_bar 10 = .ok (.ifCond .eq 7, 3) := by decide +kernel
theorem d_LW_bar_13 : decode b_LW_bar 13 = .ok (.lconst 1, 1) := by decide +kernel
theorem d_LW_bar_14 : decode b_LW_bar 14 = .ok (.goto 4, 3) := by decide +kernel
theorem d_LW_bar_17 : decode b_LW_bar 17 = .ok (.lconst 0, 1) := by decide +kernel
theorem d_LW_bar_18 : decode b_LW_bar 18 = .ok (.lastore, 1) := by decide +kernel
theorem d_LW_bar_19 : decode b_LW_bar 19 = .ok (.goto 7, 3) := by decide +kernel
theorem d_LW_bar_22 : decode b_LW_bar 22 = .ok (.astore 5, 2) := by decide +kernel
theorem d_LW_bar_24 : decode b_LW_bar 24 = .ok (.iconst 1, 1) := by decide +kernel
theorem d_LW_bar_25 : decode b_LW_bar 25 = .ok (.ireturn, 1) := by decide +kernel
theorem d_LW_bar_26 : decode b_LW_bar 26 = .ok (.iconst 0, 1) := by decide +kernel
theorem d_LW_bar_27 : decode b_LW_bar 27 = .ok (.ireturn, 1) := by decide +kernel
theorem d_LW_top_0 : decode b_LW_top 0 = .ok (.aload_n 2, 1) := by decide +kernel
theorem d_LW_top_1 : decode b_LW_top 1 = .ok (.iconst 0, 1) := by decide +kernel
theorem d_LW_top_2 : decode b_LW_top 2 = .ok (.aload_n 0, 1) := by decide +kernel
theorem d_LW_top_3 : decode b_LW_top 3 = .ok (.iload_n 1, 1) := by decide +kernel
theorem d_LW_top_4 : decode b_LW_top 4 = .ok (.invokevirtual 31, 3) := by decide +kernel
theorem d_LW_top_7 : decode b_LW_top 7 = .ok (.i2l, 1) := by decide +kernel
theorem d_LW_top_8 : decode b_LW_top 8 = .ok (.lastore, 1) := by decide +kernel
theorem d_LW_top_9 : decode b_LW_top 9 = .ok (.goto 6, 3) := by decide +kernel
theorem d_LW_top_12 : decode b_LW_top 12 = .ok (.astore_n 3, 1) := by decide +kernel
theorem d_LW_top_13 : decode b_LW_top 13 = .ok (.iconst 1, 1) := by decide +kernel
theorem d_LW_top_14 : decode b_LW_top 14 = .ok (.ireturn, 1) := by decide +kernel
theorem d_LW_top_15 : decode b_LW_top 15 = .ok (.iconst 0, 1) := by decide +kernel
theorem d_LW_top_16 : decode b_LW_top 16 = .ok (.ireturn, 1) := by decide +kernel
theorem d_LW_run_0 : decode b_LW_run 0 = .ok (.aload_n 2, 1) := by decide +kernel
theorem d_LW_run_1 : decode b_LW_run 1 = .ok (.iconst 0, 1) := by decide +kernel
theorem d_LW_run_2 : decode b_LW_run 2 = .ok (.aload_n 0, 1) := by decide +kernel
theorem d_LW_run_3 : decode b_LW_run 3 = .ok (.iload_n 1, 1) := by decide +kernel
theorem d_LW_run_4 : decode b_LW_run 4 = .ok (.invokevirtual 34, 3) := by decide +kernel
theorem d_LW_run_7 : decode b_LW_run 7 = .ok (.i2l, 1) := by decide +kernel
theorem d_LW_run_8 : decode b_LW_run 8 = .ok (.lastore, 1) := by decide +kernel
theorem d_LW_run_9 : decode b_LW_run 9 = .ok (.goto 9, 3) := by decide +kernel
theorem d_LW_run_12 : decode b_LW_run 12 = .ok (.astore_n 3, 1) := by decide +kernel
theorem d_LW_run_13 : decode b_LW_run 13 = .ok (.iconst 1, 1) := by decide +kernel
theorem d_LW_run_14 : decode b_LW_run 14 = .ok (.ireturn, 1) := by decide +kernel
theorem d_LW_run_15 : decode b_LW_run 15 = .ok (.astore_n 3, 1) := by decide +kernel
theorem d_LW_run_16 : decode b_LW_run 16 = .ok (.iconst 2, 1) := by decide +kernel
theorem d_LW_run_17 : decode b_LW_run 17 = .ok (.ireturn, 1) := by decide +kernel
theorem d_LW_run_18 : decode b_LW_run 18 = .ok (.iconst 0, 1) := by decide +kernel
theorem d_LW_run_19 : decode b_LW_run 19 = .ok (.ireturn, 1) := by decide +kernel
theorem d_LW_cut_0 : decode b_LW_cut 0 = .ok (.aload_n 3, 1) := by decide +kernel
theorem d_LW_cut_1 : decode b_LW_cut 1 = .ok (.iconst 0, 1) := by decide +kernel
theorem d_LW_cut_2 : decode b_LW_cut 2 = .ok (.aload_n 0, 1) := by decide +kernel
theorem d_LW_cut_3 : decode b_LW_cut 3 = .ok (.iload_n 1, 1) := by decide +kernel
theorem d_LW_cut_4 : decode b_LW_cut 4 = .ok (.iload_n 2, 1) := by decide +kernel
theorem d_LW_cut_5 : decode b_LW_cut 5 = .ok (.invokevirtual 37, 3) := by decide +kernel
theorem d_LW_cut_8 : decode b_LW_cut 8 = .ok (.i2l, 1) := by decide +kernel
theorem d_LW_cut_9 : decode b_LW_cut 9 = .ok (.lastore, 1) := by decide +kernel
theorem d_LW_cut_10 : decode b_LW_cut 10 = .ok (.goto 7, 3) := by decide +kernel
theorem d_LW_cut_13 : decode b_LW_cut 13 = .ok (.astore 4, 2) := by decide +kernel
theorem d_LW_cut_15 : decode b_LW_cut 15 = .ok (.iconst 1, 1) := by decide +kernel
theorem d_LW_cut_16 : decode b_LW_cut 16 = .ok (.ireturn, 1) := by decide +kernel
theorem d_LW_cut_17 : decode b_LW_cut 17 = .ok (.iconst 0, 1) := by decide +kernel
theorem d_LW_cut_18 : decode b_LW_cut 18 = .ok (.ireturn, 1) := by decide +kernel
theorem d_LW_holds_0 : decode b_LW_holds 0 = .ok (.aload 4, 2) := by decide +kernel
theorem d_LW_holds_2 : decode b_LW_holds 2 = .ok (.iconst 0, 1) := by decide +kernel
theorem d_LW_holds_3 : decode b_LW_holds 3 = .ok (.aload_n 0, 1) := by decide +kernel
theorem d_LW_holds_4 : decode b_LW_holds 4 = .ok (.iload_n 1, 1) := by decide +kernel
theorem d_LW_holds_5 : decode b_LW_holds 5 = .ok (.iload_n 2, 1) := by decide +kernel
theorem d_LW_holds_6 : decode b_LW_holds 6 = .ok (.iload_n 3, 1) := by decide +kernel
theorem d_LW_holds_7 : decode b_LW_holds 7 = .ok (.invokevirtual 41, 3) := by decide +kernel
theorem d_LW_holds_10 : decode b_LW_holds 10 = .ok (.ifCond .eq 7, 3) := by decide +kernel
theorem d_LW_holds_13 : decode b_LW_holds 13 = .ok (.lconst 1, 1) := by decide +kernel
theorem d_LW_holds_14 : decode b_LW_holds 14 = .ok (.goto 4, 3) := by decide +kernel
theorem d_LW_holds_17 : decode b_LW_holds 17 = .ok (.lconst 0, 1) := by decide +kernel
theorem d_LW_holds_18 : decode b_LW_holds 18 = .ok (.lastore, 1) := by decide +kernel
theorem d_LW_holds_19 : decode b_LW_holds 19 = .ok (.goto 7, 3) := by decide +kernel
theorem d_LW_holds_22 : decode b_LW_holds 22 = .ok (.astore 5, 2) := by decide +kernel
theorem d_LW_holds_24 : decode b_LW_holds 24 = .ok (.iconst 1, 1) := by decide +kernel
theorem d_LW_holds_25 : decode b_LW_holds 25 = .ok (.ireturn, 1) := by decide +kernel
theorem d_LW_holds_26 : decode b_LW_holds 26 = .ok (.iconst 0, 1) := by decide +kernel
theorem d_LW_holds_27 : decode b_LW_holds 27 = .ok (.ireturn, 1) := by decide +kernel
theorem d_LW_fits_0 : decode b_LW_fits 0 = .ok (.aload_n 3, 1) := by decide +kernel
theorem d_LW_fits_1 : decode b_LW_fits 1 = .ok (.iconst 0, 1) := by decide +kernel
theorem d_LW_fits_2 : decode b_LW_fits 2 = .ok (.aload_n 0, 1) := by decide +kernel
theorem d_LW_fits_3 : decode b_LW_fits 3 = .ok (.iload_n 1, 1) := by decide +kernel
theorem d_LW_fits_4 : decode b_LW_fits 4 = .ok (.iload_n 2, 1) := by decide +kernel
theorem d_LW_fits_5 : decode b_LW_fits 5 = .ok (.invokevirtual 45, 3) := by decide +kernel
theorem d_LW_fits_8 : decode b_LW_fits 8 = .ok (.ifCond .eq 7, 3) := by decide +kernel
theorem d_LW_fits_11 : decode b_LW_fits 11 = .ok (.lconst 1, 1) := by decide +kernel
theorem d_LW_fits_12 : decode b_LW_fits 12 = .ok (.goto 4, 3) := by decide +kernel
theorem d_LW_fits_15 : decode b_LW_fits 15 = .ok (.lconst 0, 1) := by decide +kernel
theorem d_LW_fits_16 : decode b_LW_fits 16 = .ok (.lastore, 1) := by decide +kernel
theorem d_LW_fits_17 : decode b_LW_fits 17 = .ok (.goto 7, 3) := by decide +kernel
theorem d_LW_fits_20 : decode b_LW_fits 20 = .ok (.astore 4, 2) := by decide +kernel
theorem d_LW_fits_22 : decode b_LW_fits 22 = .ok (.iconst 1, 1) := by decide +kernel
theorem d_LW_fits_23 : decode b_LW_fits 23 = .ok (.ireturn, 1) := by decide +kernel
theorem d_LW_fits_24 : decode b_LW_fits 24 = .ok (.iconst 0, 1) := by decide +kernel
theorem d_LW_fits_25 : decode b_LW_fits 25 = .ok (.ireturn, 1) := by decide +kernel
theorem d_LW_left_0 : decode b_LW_left 0 = .ok (.aload_n 1, 1) := by decide +kernel
theorem d_LW_left_1 : decode b_LW_left 1 = .ok (.iconst 0, 1) := by decide +kernel
theorem d_LW_left_2 : decode b_LW_left 2 = .ok (.aload_n 0, 1) := by decide +kernel
theorem d_LW_left_3 : decode b_LW_left 3 = .ok (.invokevirtual 49, 3) := by decide +kernel
theorem d_LW_left_6 : decode b_LW_left 6 = .ok (.i2l, 1) := by decide +kernel
theorem d_LW_left_7 : decode b_LW_left 7 = .ok (.lastore, 1) := by decide +kernel
theorem d_LW_left_8 : decode b_LW_left 8 = .ok (.goto 6, 3) := by decide +kernel
theorem d_LW_left_11 : decode b_LW_left 11 = .ok (.astore_n 2, 1) := by decide +kernel
theorem d_LW_left_12 : decode b_LW_left 12 = .ok (.iconst 1, 1) := by decide +kernel
theorem d_LW_left_13 : decode b_LW_left 13 = .ok (.ireturn, 1) := by decide +kernel
theorem d_LW_left_14 : decode b_LW_left 14 = .ok (.iconst 0, 1) := by decide +kernel
theorem d_LW_left_15 : decode b_LW_left 15 = .ok (.ireturn, 1) := by decide +kernel
theorem d_LW_add_0 : decode b_LW_add 0 = .ok (.aload_n 2, 1) := by decide +kernel
theorem d_LW_add_1 : decode b_LW_add 1 = .ok (.iconst 0, 1) := by decide +kernel
theorem d_LW_add_2 : decode b_LW_add 2 = .ok (.aload_n 0, 1) := by decide +kernel
theorem d_LW_add_3 : decode b_LW_add 3 = .ok (.iload_n 1, 1) := by decide +kernel
theorem d_LW_add_4 : decode b_LW_add 4 = .ok (.invokevirtual 52, 3) := by decide +kernel
theorem d_LW_add_7 : decode b_LW_add 7 = .ok (.i2l, 1) := by decide +kernel
theorem d_LW_add_8 : decode b_LW_add 8 = .ok (.lastore, 1) := by decide +kernel
theorem d_LW_add_9 : decode b_LW_add 9 = .ok (.goto 9, 3) := by decide +kernel
theorem d_LW_add_12 : decode b_LW_add 12 = .ok (.astore_n 3, 1) := by decide +kernel
theorem d_LW_add_13 : decode b_LW_add 13 = .ok (.iconst 1, 1) := by decide +kernel
theorem d_LW_add_14 : decode b_LW_add 14 = .ok (.ireturn, 1) := by decide +kernel
theorem d_LW_add_15 : decode b_LW_add 15 = .ok (.astore_n 3, 1) := by decide +kernel
theorem d_LW_add_16 : decode b_LW_add 16 = .ok (.iconst 2, 1) := by decide +kernel
theorem d_LW_add_17 : decode b_LW_add 17 = .ok (.ireturn, 1) := by decide +kernel
theorem d_LW_add_18 : decode b_LW_add 18 = .ok (.iconst 0, 1) := by decide +kernel
theorem d_LW_add_19 : decode b_LW_add 19 = .ok (.ireturn, 1) := by decide +kernel
theorem d_LW_heirs_0 : decode b_LW_heirs 0 = .ok (.aload_n 2, 1) := by decide +kernel
theorem d_LW_heirs_1 : decode b_LW_heirs 1 = .ok (.iconst 0, 1) := by decide +kernel
theorem d_LW_heirs_2 : decode b_LW_heirs 2 = .ok (.aload_n 0, 1) := by decide +kernel
theorem d_LW_heirs_3 : decode b_LW_heirs 3 = .ok (.iload_n 1, 1) := by decide +kernel
theorem d_LW_heirs_4 : decode b_LW_heirs 4 = .ok (.invokevirtual 55, 3) := by decide +kernel
theorem d_LW_heirs_7 : decode b_LW_heirs 7 = .ok (.i2l, 1) := by decide +kernel
theorem d_LW_heirs_8 : decode b_LW_heirs 8 = .ok (.lastore, 1) := by decide +kernel
theorem d_LW_heirs_9 : decode b_LW_heirs 9 = .ok (.goto 9, 3) := by decide +kernel
theorem d_LW_heirs_12 : decode b_LW_heirs 12 = .ok (.astore_n 3, 1) := by decide +kernel
theorem d_LW_heirs_13 : decode b_LW_heirs 13 = .ok (.iconst 1, 1) := by decide +kernel
theorem d_LW_heirs_14 : decode b_LW_heirs 14 = .ok (.ireturn, 1) := by decide +kernel
theorem d_LW_heirs_15 : decode b_LW_heirs 15 = .ok (.astore_n 3, 1) := by decide +kernel
theorem d_LW_heirs_16 : decode b_LW_heirs 16 = .ok (.iconst 2, 1) := by decide +kernel
theorem d_LW_heirs_17 : decode b_LW_heirs 17 = .ok (.ireturn, 1) := by decide +kernel
theorem d_LW_heirs_18 : decode b_LW_heirs 18 = .ok (.iconst 0, 1) := by decide +kernel
theorem d_LW_heirs_19 : decode b_LW_heirs 19 = .ok (.ireturn, 1) := by decide +kernel
