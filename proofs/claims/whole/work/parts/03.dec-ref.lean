theorem d_RM_init_0 : decode b_RM_init 0 = .ok (.aload_n 0, 1) := by decide +kernel
theorem d_RM_init_1 : decode b_RM_init 1 = .ok (.invokespecial 1, 3) := by decide +kernel
theorem d_RM_init_4 : decode b_RM_init 4 = .ok (.aload_n 0, 1) := by decide +kernel
theorem d_RM_init_5 : decode b_RM_init 5 = .ok (.bipush 48, 2) := by decide +kernel
theorem d_RM_init_7 : decode b_RM_init 7 = .ok (.newarray .boolean, 2) := by decide +kernel
theorem d_RM_init_9 : decode b_RM_init 9 = .ok (.putfield 7, 3) := by decide +kernel
theorem d_RM_init_12 : decode b_RM_init 12 = .ok (.aload_n 0, 1) := by decide +kernel
theorem d_RM_init_13 : decode b_RM_init 13 = .ok (.bipush 7, 2) := by decide +kernel
theorem d_RM_init_15 : decode b_RM_init 15 = .ok (.putfield 13, 3) := by decide +kernel
theorem d_RM_init_18 : decode b_RM_init 18 = .ok (.aload_n 0, 1) := by decide +kernel
theorem d_RM_init_19 : decode b_RM_init 19 = .ok (.bipush 8, 2) := by decide +kernel
theorem d_RM_init_21 : decode b_RM_init 21 = .ok (.putfield 17, 3) := by decide +kernel
theorem d_RM_init_24 : decode b_RM_init 24 = .ok (.aload_n 0, 1) := by decide +kernel
theorem d_RM_init_25 : decode b_RM_init 25 = .ok (.bipush 64, 2) := by decide +kernel
theorem d_RM_init_27 : decode b_RM_init 27 = .ok (.newarray .boolean, 2) := by decide +kernel
theorem d_RM_init_29 : decode b_RM_init 29 = .ok (.putfield 20, 3) := by decide +kernel
theorem d_RM_init_32 : decode b_RM_init 32 = .ok (.aload_n 0, 1) := by decide +kernel
theorem d_RM_init_33 : decode b_RM_init 33 = .ok (.bipush 48, 2) := by decide +kernel
theorem d_RM_init_35 : decode b_RM_init 35 = .ok (.newarray .int, 2) := by decide +kernel
theorem d_RM_init_37 : decode b_RM_init 37 = .ok (.putfield 23, 3) := by decide +kernel
theorem d_RM_init_40 : decode b_RM_init 40 = .ok (.aload_n 0, 1) := by decide +kernel
theorem d_RM_init_41 : decode b_RM_init 41 = .ok (.bipush 6, 2) := by decide +kernel
theorem d_RM_init_43 : decode b_RM_init 43 = .ok (.newarray .int, 2) := by decide +kernel
theorem d_RM_init_45 : decode b_RM_init 45 = .ok (.putfield 27, 3) := by decide +kernel
theorem d_RM_init_48 : decode b_RM_init 48 = .ok (.aload_n 0, 1) := by decide +kernel
theorem d_RM_init_49 : decode b_RM_init 49 = .ok (.iload_n 1, 1) := by decide +kernel
theorem d_RM_init_50 : decode b_RM_init 50 = .ok (.iconst 2, 1) := by decide +kernel
theorem d_RM_init_51 : decode b_RM_init 51 = .ok (.if_icmp .ge 7, 3) := by decide +kernel
theorem d_RM_init_54 : decode b_RM_init 54 = .ok (.iconst 2, 1) := by decide +kernel
theorem d_RM_init_55 : decode b_RM_init 55 = .ok (.goto 15, 3) := by decide +kernel
theorem d_RM_init_58 : decode b_RM_init 58 = .ok (.iload_n 1, 1) := by decide +kernel
theorem d_RM_init_59 : decode b_RM_init 59 = .ok (.bipush 6, 2) := by decide +kernel
theorem d_RM_init_61 : decode b_RM_init 61 = .ok (.if_icmp .le 8, 3) := by decide +kernel
theorem d_RM_init_64 : decode b_RM_init 64 = .ok (.bipush 6, 2) := by decide +kernel
theorem d_RM_init_66 : decode b_RM_init 66 = .ok (.goto 4, 3) := by decide +kernel
theorem d_RM_init_69 : decode b_RM_init 69 = .ok (.iload_n 1, 1) := by decide +kernel
theorem d_RM_init_70 : decode b_RM_init 70 = .ok (.putfield 30, 3) := by decide +kernel
theorem d_RM_init_73 : decode b_RM_init 73 = .ok (.aload_n 0, 1) := by decide +kernel
theorem d_RM_init_74 : decode b_RM_init 74 = .ok (.iload_n 2, 1) := by decide +kernel
theorem d_RM_init_75 : decode b_RM_init 75 = .ok (.iconst 2, 1) := by decide +kernel
theorem d_RM_init_76 : decode b_RM_init 76 = .ok (.if_icmp .ge 7, 3) := by decide +kernel
theorem d_RM_init_79 : decode b_RM_init 79 = .ok (.iconst 2, 1) := by decide +kernel
theorem d_RM_init_80 : decode b_RM_init 80 = .ok (.goto 15, 3) := by decide +kernel
theorem d_RM_init_83 : decode b_RM_init 83 = .ok (.iload_n 2, 1) := by decide +kernel
theorem d_RM_init_84 : decode b_RM_init 84 = .ok (.bipush 8, 2) := by decide +kernel
theorem d_RM_init_86 : decode b_RM_init 86 = .ok (.if_icmp .le 8, 3) := by decide +kernel
theorem d_RM_init_89 : decode b_RM_init 89 = .ok (.bipush 8, 2) := by decide +kernel
theorem d_RM_init_91 : decode b_RM_init 91 = .ok (.goto 4, 3) := by decide +kernel
theorem d_RM_init_94 : decode b_RM_init 94 = .ok (.iload_n 2, 1) := by decide +kernel
theorem d_RM_init_95 : decode b_RM_init 95 = .ok (.putfield 33, 3) := by decide +kernel
theorem d_RM_init_98 : decode b_RM_init 98 = .ok (.return_, 1) := by decide +kernel
theorem d_RM_thrown_0 : decode b_RM_thrown 0 = .ok (.aload_n 0, 1) := by decide +kernel
theorem d_RM_thrown_1 : decode b_RM_thrown 1 = .ok (.getfield 36, 3) := by decide +kernel
theorem d_RM_thrown_4 : decode b_RM_thrown 4 = .ok (.ireturn, 1) := by decide +kernel
theorem d_RM_key_0 : decode b_RM_key 0 = .ok (.aload_n 0, 1) := by decide +kernel
theorem d_RM_key_1 : decode b_RM_key 1 = .ok (.aload_n 0, 1) := by decide +kernel
theorem d_RM_key_2 : decode b_RM_key 2 = .ok (.getfield 39, 3) := by decide +kernel
theorem d_RM_key_5 : decode b_RM_key 5 = .ok (.bipush 8, 2) := by decide +kernel
theorem d_RM_key_7 : decode b_RM_key 7 = .ok (.if_icmp .ne 7, 3) := by decide +kernel
theorem d_RM_key_10 : decode b_RM_key 10 = .ok (.iconst 1, 1) := by decide +kernel
theorem d_RM_key_11 : decode b_RM_key 11 = .ok (.goto 4, 3) := by decide +kernel
theorem d_RM_key_14 : decode b_RM_key 14 = .ok (.iconst 0, 1) := by decide +kernel
theorem d_RM_key_15 : decode b_RM_key 15 = .ok (.putfield 36, 3) := by decide +kernel
theorem d_RM_key_18 : decode b_RM_key 18 = .ok (.aload_n 0, 1) := by decide +kernel
theorem d_RM_key_19 : decode b_RM_key 19 = .ok (.getfield 36, 3) := by decide +kernel
theorem d_RM_key_22 : decode b_RM_key 22 = .ok (.ifCond .le 5, 3) := by decide +kernel
theorem d_RM_key_25 : decode b_RM_key 25 = .ok (.iconst 0, 1) := by decide +kernel
theorem d_RM_key_26 : decode b_RM_key 26 = .ok (.ireturn, 1) := by decide +kernel
theorem d_RM_key_27 : decode b_RM_key 27 = .ok (.iconst 0, 1) := by decide +kernel
theorem d_RM_key_28 : decode b_RM_key 28 = .ok (.istore_n 1, 1) := by decide +kernel
theorem d_RM_key_29 : decode b_RM_key 29 = .ok (.iload_n 1, 1) := by decide +kernel
theorem d_RM_key_30 : decode b_RM_key 30 = .ok (.bipush 6, 2) := by decide +kernel
theorem d_RM_key_32 : decode b_RM_key 32 = .ok (.if_icmp .ge 24, 3) := by decide +kernel
theorem d_RM_key_35 : decode b_RM_key 35 = .ok (.aload_n 0, 1) := by decide +kernel
theorem d_RM_key_36 : decode b_RM_key 36 = .ok (.getfield 7, 3) := by decide +kernel
theorem d_RM_key_39 : decode b_RM_key 39 = .ok (.bipush 6, 2) := by decide +kernel
theorem d_RM_key_41 : decode b_RM_key 41 = .ok (.aload_n 0, 1) := by decide +kernel
theorem d_RM_key_42 : decode b_RM_key 42 = .ok (.getfield 39, 3) := by decide +kernel
theorem d_RM_key_45 : decode b_RM_key 45 = .ok (.imul, 1) := by decide +kernel
theorem d_RM_key_46 : decode b_RM_key 46 = .ok (.iload_n 1, 1) := by decide +kernel
theorem d_RM_key_47 : decode b_RM_key 47 = .ok (.iadd, 1) := by decide +kernel
theorem d_RM_key_48 : decode b_RM_key 48 = .ok (.iconst 0, 1) := by decide +kernel
theorem d_RM_key_49 : decode b_RM_key 49 = .ok (.bastore, 1) := by decide +kernel
theorem d_RM_key_50 : decode b_RM_key 50 = .ok (.iinc 1 1, 3) := by decide +kernel
theorem d_RM_key_53 : decode b_RM_key 53 = .ok (.goto (-24), 3) := by decide +kernel
theorem d_RM_key_56 : decode b_RM_key 56 = .ok (.aload_n 0, 1) := by decide +kernel
theorem d_RM_key_57 : decode b_RM_key 57 = .ok (.dup, 1) := by decide +kernel
theorem d_RM_key_58 : decode b_RM_key 58 = .ok (.getfield 39, 3) := by decide +kernel
theorem d_RM_key_61 : decode b_RM_key 61 = .ok (.iconst 1, 1) := by decide +kernel
theorem d_RM_key_62 : decode b_RM_key 62 = .ok (.iadd, 1) := by decide +kernel
theorem d_RM_key_63 : decode b_RM_key 63 = .ok (.putfield 39, 3) := by decide +kernel
theorem d_RM_key_66 : decode b_RM_key 66 = .ok (.aload_n 0, 1) := by decide +kernel
theorem d_RM_key_67 : decode b_RM_key 67 = .ok (.iconst 0, 1) := by decide +kernel
theorem d_RM_key_68 : decode b_RM_key 68 = .ok (.putfield 45, 3) := by decide +kernel
theorem d_RM_key_71 : decode b_RM_key 71 = .ok (.aload_n 0, 1) := by decide +kernel
theorem d_RM_key_72 : decode b_RM_key 72 = .ok (.getfield 39, 3) := by decide +kernel
theorem d_RM_key_75 : decode b_RM_key 75 = .ok (.iconst 1, 1) := by decide +kernel
theorem d_RM_key_76 : decode b_RM_key 76 = .ok (.isub, 1) := by decide +kernel
theorem d_RM_key_77 : decode b_RM_key 77 = .ok (.ireturn, 1) := by decide +kernel
theorem d_RM_door_0 : decode b_RM_door 0 = .ok (.aload_n 0, 1) := by decide +kernel
theorem d_RM_door_1 : decode b_RM_door 1 = .ok (.aload_n 0, 1) := by decide +kernel
theorem d_RM_door_2 : decode b_RM_door 2 = .ok (.getfield 42, 3) := by decide +kernel
theorem d_RM_door_5 : decode b_RM_door 5 = .ok (.bipush 6, 2) := by decide +kernel
theorem d_RM_door_7 : decode b_RM_door 7 = .ok (.if_icmp .ne 7, 3) := by decide +kernel
theorem d_RM_door_10 : decode b_RM_door 10 = .ok (.iconst 1, 1) := by decide +kernel
theorem d_RM_door_11 : decode b_RM_door 11 = .ok (.goto 4, 3) := by decide +kernel
theorem d_RM_door_14 : decode b_RM_door 14 = .ok (.iconst 0, 1) := by decide +kernel
theorem d_RM_door_15 : decode b_RM_door 15 = .ok (.putfield 36, 3) := by decide +kernel
theorem d_RM_door_18 : decode b_RM_door 18 = .ok (.aload_n 0, 1) := by decide +kernel
theorem d_RM_door_19 : decode b_RM_door 19 = .ok (.getfield 36, 3) := by decide +kernel
theorem d_RM_door_22 : decode b_RM_door 22 = .ok (.ifCond .le 5, 3) := by decide +kernel
theorem d_RM_door_25 : decode b_RM_door 25 = .ok (.iconst 0, 1) := by decide +kernel
theorem d_RM_door_26 : decode b_RM_door 26 = .ok (.ireturn, 1) := by decide +kernel
theorem d_RM_door_27 : decode b_RM_door 27 = .ok (.aload_n 0, 1) := by decide +kernel
theorem d_RM_door_28 : decode b_RM_door 28 = .ok (.dup, 1) := by decide +kernel
theorem d_RM_door_29 : decode b_RM_door 29 = .ok (.getfield 42, 3) := by decide +kernel
theorem d_RM_door_32 : decode b_RM_door 32 = .ok (.iconst 1, 1) := by decide +kernel
theorem d_RM_door_33 : decode b_RM_door 33 = .ok (.iadd, 1) := by decide +kernel
theorem d_RM_door_34 : decode b_RM_door 34 = .ok (.putfield 42, 3) := by decide +kernel
theorem d_RM_door_37 : decode b_RM_door 37 = .ok (.aload_n 0, 1) := by decide +kernel
theorem d_RM_door_38 : decode b_RM_door 38 = .ok (.iconst 0, 1) := by decide +kernel
theorem d_RM_door_39 : decode b_RM_door 39 = .ok (.putfield 45, 3) := by decide +kernel
theorem d_RM_door_42 : decode b_RM_door 42 = .ok (.aload_n 0, 1) := by decide +kernel
theorem d_RM_door_43 : decode b_RM_door 43 = .ok (.getfield 42, 3) := by decide +kernel
theorem d_RM_door_46 : decode b_RM_door 46 = .ok (.iconst 1, 1) := by decide +kernel
theorem d_RM_door_47 : decode b_RM_door 47 = .ok (.isub, 1) := by decide +kernel
theorem d_RM_door_48 : decode b_RM_door 48 = .ok (.ireturn, 1) := by decide +kernel
theorem d_RM_must_0 : decode b_RM_must 0 = .ok (.aload_n 0, 1) := by decide +kernel
theorem d_RM_must_1 : decode b_RM_must 1 = .ok (.aload_n 0, 1) := by decide +kernel
theorem d_RM_must_2 : decode b_RM_must 2 = .ok (.iload_n 1, 1) := by decide +kernel
theorem d_RM_must_3 : decode b_RM_must 3 = .ok (.invokevirtual 49, 3) := by decide +kernel
theorem d_RM_must_6 : decode b_RM_must 6 = .ok (.ifCond .ne 11, 3) := by decide +kernel
theorem d_RM_must_9 : decode b_RM_must 9 = .ok (.aload_n 0, 1) := by decide +kernel
theorem d_RM_must_10 : decode b_RM_must 10 = .ok (.iload_n 2, 1) := by decide +kernel
theorem d_RM_must_11 : decode b_RM_must 11 = .ok (.invokevirtual 53, 3) := by decide +kernel
theorem d_RM_must_14 : decode b_RM_must 14 = .ok (.ifCond .eq 7, 3) := by decide +kernel
theorem d_RM_must_17 : decode b_RM_must 17 = .ok (.iconst 1, 1) := by decide +kernel
theorem d_RM_must_18 : decode b_RM_must 18 = .ok (.goto 4, 3) := by decide +kernel
theorem d_RM_must_21 : decode b_RM_must 21 = .ok (.iconst 0, 1) := by decide +kernel
theorem d_RM_must_22 : decode b_RM_must 22 = .ok (.putfield 36, 3) := by decide +kernel
theorem d_RM_must_25 : decode b_RM_must 25 = .ok (.aload_n 0, 1) := by decide +kernel
theorem d_RM_must_26 : decode b_RM_must 26 = .ok (.getfield 36, 3) := by decide +kernel
theorem d_RM_must_29 : decode b_RM_must 29 = .ok (.ifCond .le 5, 3) := by decide +kernel
theorem d_RM_must_32 : decode b_RM_must 32 = .ok (.iconst 0, 1) := by decide +kernel
theorem d_RM_must_33 : decode b_RM_must 33 = .ok (.ireturn, 1) := by decide +kernel
theorem d_RM_must_34 : decode b_RM_must 34 = .ok (.aload_n 0, 1) := by decide +kernel
theorem d_RM_must_35 : decode b_RM_must 35 = .ok (.getfield 7, 3) := by decide +kernel
theorem d_RM_must_38 : decode b_RM_must 38 = .ok (.bipush 6, 2) := by decide +kernel
theorem d_RM_must_40 : decode b_RM_must 40 = .ok (.iload_n 1, 1) := by decide +kernel
theorem d_RM_must_41 : decode b_RM_must 41 = .ok (.imul, 1) := by decide +kernel
theorem d_RM_must_42 : decode b_RM_must 42 = .ok (.iload_n 2, 1) := by decide +kernel
theorem d_RM_must_43 : decode b_RM_must 43 = .ok (.iadd, 1) := by decide +kernel
theorem d_RM_must_44 : decode b_RM_must 44 = .ok (.baload, 1) := by decide +kernel
theorem d_RM_must_45 : decode b_RM_must 45 = .ok (.istore 4, 2) := by decide +kernel
theorem d_RM_must_47 : decode b_RM_must 47 = .ok (.aload_n 0, 1) := by decide +kernel
theorem d_RM_must_48 : decode b_RM_must 48 = .ok (.getfield 7, 3) := by decide +kernel
theorem d_RM_must_51 : decode b_RM_must 51 = .ok (.bipush 6, 2) := by decide +kernel
theorem d_RM_must_53 : decode b_RM_must 53 = .ok (.iload_n 1, 1) := by decide +kernel
theorem d_RM_must_54 : decode b_RM_must 54 = .ok (.imul, 1) := by decide +kernel
theorem d_RM_must_55 : decode b_RM_must 55 = .ok (.iload_n 2, 1) := by decide +kernel
theorem d_RM_must_56 : decode b_RM_must 56 = .ok (.iadd, 1) := by decide +kernel
theorem d_RM_must_57 : decode b_RM_must 57 = .ok (.iload_n 3, 1) := by decide +kernel
theorem d_RM_must_58 : decode b_RM_must 58 = .ok (.bastore, 1) := by decide +kernel
theorem d_RM_must_59 : decode b_RM_must 59 = .ok (.aload_n 0, 1) := by decide +kernel
theorem d_RM_must_60 : decode b_RM_must 60 = .ok (.iconst 0, 1) := by decide +kernel
theorem d_RM_must_61 : decode b_RM_must 61 = .ok (.putfield 45, 3) := by decide +kernel
theorem d_RM_must_64 : decode b_RM_must 64 = .ok (.iload 4, 2) := by decide +kernel
theorem d_RM_must_66 : decode b_RM_must 66 = .ok (.ireturn, 1) := by decide +kernel
theorem d_RM_noKey_0 : decode b_RM_noKey 0 = .ok (.iload_n 1, 1) := by decide +kernel
theorem d_RM_noKey_1 : decode b_RM_noKey 1 = .ok (.ifCond .lt 11, 3) := by decide +kernel
theorem d_RM_noKey_4 : decode b_RM_noKey 4 = .ok (.iload_n 1, 1) := by decide +kernel
theorem d_RM_noKey_5 : decode b_RM_noKey 5 = .ok (.aload_n 0, 1) := by decide +kernel
theorem d_RM_noKey_6 : decode b_RM_noKey 6 = .ok (.getfield 39, 3) := by decide +kernel
theorem d_RM_noKey_9 : decode b_RM_noKey 9 = .ok (.if_icmp .lt 7, 3) := by decide +kernel
theorem d_RM_noKey_12 : decode b_RM_noKey 12 = .ok (.iconst 1, 1) := by decide +kernel
theorem d_RM_noKey_13 : decode b_RM_noKey 13 = .ok (.goto 4, 3) := by decide +kernel
theorem d_RM_noKey_16 : decode b_RM_noKey 16 = .ok (.iconst 0, 1) := by decide +kernel
theorem d_RM_noKey_17 : decode b_RM_noKey 17 = .ok (.ireturn, 1) := by decide +kernel
theorem d_RM_noDoor_0 : decode b_RM_noDoor 0 = .ok (.iload_n 1, 1) := by decide +kernel
theorem d_RM_noDoor_1 : decode b_RM_noDoor 1 = .ok (.ifCond .lt 11, 3) := by decide +kernel
theorem d_RM_noDoor_4 : decode b_RM_noDoor 4 = .ok (.iload_n 1, 1) := by decide +kernel
theorem d_RM_noDoor_5 : decode b_RM_noDoor 5 = .ok (.aload_n 0, 1) := by decide +kernel
theorem d_RM_noDoor_6 : decode b_RM_noDoor 6 = .ok (.getfield 42, 3) := by decide +kernel
theorem d_RM_noDoor_9 : decode b_RM_noDoor 9 = .ok (.if_icmp .lt 7, 3) := by decide +kernel
theorem d_RM_noDoor_12 : decode b_RM_noDoor 12 = .ok (.iconst 1, 1) := by decide +kernel
theorem d_RM_noDoor_13 : decode b_RM_noDoor 13 = .ok (.goto 4, 3) := by decide +kernel
theorem d_RM_noDoor_16 : decode b_RM_noDoor 16 = .ok (.iconst 0, 1) := by decide +kernel
theorem d_RM_noDoor_17 : decode b_RM_noDoor 17 = .ok (.ireturn, 1) := by decide +kernel
theorem d_RM_step_0 : decode b_RM_step 0 = .ok (.aload_n 0, 1) := by decide +kernel
theorem d_RM_step_1 : decode b_RM_step 1 = .ok (.iload_n 1, 1) := by decide +kernel
theorem d_RM_step_2 : decode b_RM_step 2 = .ok (.iconst 0, 1) := by decide +kernel
theorem d_RM_step_3 : decode b_RM_step 3 = .ok (.bipush 7, 2) := by decide +kernel
theorem d_RM_step_5 : decode b_RM_step 5 = .ok (.invokestatic 56, 3) := by decide +kernel
theorem d_RM_step_8 : decode b_RM_step 8 = .ok (.ifCond .eq 7, 3) := by decide +kernel
theorem d_RM_step_11 : decode b_RM_step 11 = .ok (.iconst 0, 1) := by decide +kernel
theorem d_RM_step_12 : decode b_RM_step 12 = .ok (.goto 4, 3) := by decide +kernel
theorem d_RM_step_15 : decode b_RM_step 15 = .ok (.iconst 1, 1) := by decide +kernel
theorem d_RM_step_16 : decode b_RM_step 16 = .ok (.putfield 36, 3) := by decide +kernel
theorem d_RM_step_19 : decode b_RM_step 19 = .ok (.aload_n 0, 1) := by decide +kernel
theorem d_RM_step_20 : decode b_RM_step 20 = .ok (.getfield 36, 3) := by decide +kernel
theorem d_RM_step_23 : decode b_RM_step 23 = .ok (.ifCond .le 5, 3) := by decide +kernel
theorem d_RM_step_26 : decode b_RM_step 26 = .ok (.iconst 0, 1) := by decide +kernel
theorem d_RM_step_27 : decode b_RM_step 27 = .ok (.ireturn, 1) := by decide +kernel
theorem d_RM_step_28 : decode b_RM_step 28 = .ok (.aload_n 0, 1) := by decide +kernel
theorem d_RM_step_29 : decode b_RM_step 29 = .ok (.getfield 13, 3) := by decide +kernel
theorem d_RM_step_32 : decode b_RM_step 32 = .ok (.istore_n 2, 1) := by decide +kernel
theorem d_RM_step_33 : decode b_RM_step 33 = .ok (.aload_n 0, 1) := by decide +kernel
theorem d_RM_step_34 : decode b_RM_step 34 = .ok (.iload_n 1, 1) := by decide +kernel
theorem d_RM_step_35 : decode b_RM_step 35 = .ok (.putfield 13, 3) := by decide +kernel
theorem d_RM_step_38 : decode b_RM_step 38 = .ok (.aload_n 0, 1) := by decide +kernel
theorem d_RM_step_39 : decode b_RM_step 39 = .ok (.iconst 0, 1) := by decide +kernel
theorem d_RM_step_40 : decode b_RM_step 40 = .ok (.putfield 45, 3) := by decide +kernel
theorem d_RM_step_43 : decode b_RM_step 43 = .ok (.iload_n 2, 1) := by decide +kernel
theorem d_RM_step_44 : decode b_RM_step 44 = .ok (.ireturn, 1) := by decide +kernel
theorem d_RM_isIn_0 : decode b_RM_isIn 0 = .ok (.iload_n 0, 1) := by decide +kernel
theorem d_RM_isIn_1 : decode b_RM_isIn 1 = .ok (.iload_n 1, 1) := by decide +kernel
theorem d_RM_isIn_2 : decode b_RM_isIn 2 = .ok (.if_icmp .lt 12, 3) := by decide +kernel
theorem d_RM_isIn_5 : decode b_RM_isIn 5 = .ok (.iload_n 0, 1) := by decide +kernel
theorem d_RM_isIn_6 : decode b_RM_isIn 6 = .ok (.iload_n 2, 1) := by decide +kernel
theorem d_RM_isIn_7 : decode b_RM_isIn 7 = .ok (.if_icmp .gt 7, 3) := by decide +kernel
theorem d_RM_isIn_10 : decode b_RM_isIn 10 = .ok (.iconst 1, 1) := by decide +kernel
theorem d_RM_isIn_11 : decode b_RM_isIn 11 = .ok (.goto 4, 3) := by decide +kernel
theorem d_RM_isIn_14 : decode b_RM_isIn 14 = .ok (.iconst 0, 1) := by decide +kernel
theorem d_RM_isIn_15 : decode b_RM_isIn 15 = .ok (.ireturn, 1) := by decide +kernel
theorem d_RM_bar_0 : decode b_RM_bar 0 = .ok (.aload_n 0, 1) := by decide +kernel
theorem d_RM_bar_1 : decode b_RM_bar 1 = .ok (.aload_n 0, 1) := by decide +kernel
theorem d_RM_bar_2 : decode b_RM_bar 2 = .ok (.iload_n 1, 1) := by decide +kernel
theorem d_RM_bar_3 : decode b_RM_bar 3 = .ok (.invokevirtual 60, 3) := by decide +kernel
theorem d_RM_bar_6 : decode b_RM_bar 6 = .ok (.ifCond .ne 11, 3) := by decide +kernel
theorem d_RM_bar_9 : decode b_RM_bar 9 = .ok (.aload_n 0, 1) := by decide +kernel
theorem d_RM_bar_10 : decode b_RM_bar 10 = .ok (.iload_n 2, 1) := by decide +kernel
theorem d_RM_bar_11 : decode b_RM_bar 11 = .ok (.invokevirtual 60, 3) := by decide +kernel
theorem d_RM_bar_14 : decode b_RM_bar 14 = .ok (.ifCond .eq 7, 3) := by decide +kernel
theorem d_RM_bar_17 : decode b_RM_bar 17 = .ok (.iconst 1, 1) := by decide +kernel
theorem d_RM_bar_18 : decode b_RM_bar 18 = .ok (.goto 4, 3) := by decide +kernel
theorem d_RM_bar_21 : decode b_RM_bar 21 = .ok (.iconst 0, 1) := by decide +kernel
theorem d_RM_bar_22 : decode b_RM_bar 22 = .ok (.putfield 36, 3) := by decide +kernel
theorem d_RM_bar_25 : decode b_RM_bar 25 = .ok (.aload_n 0, 1) := by decide +kernel
theorem d_RM_bar_26 : decode b_RM_bar 26 = .ok (.getfield 36, 3) := by decide +kernel
theorem d_RM_bar_29 : decode b_RM_bar 29 = .ok (.ifCond .le 5, 3) := by decide +kernel
theorem d_RM_bar_32 : decode b_RM_bar 32 = .ok (.iconst 0, 1) := by decide +kernel
theorem d_RM_bar_33 : decode b_RM_bar 33 = .ok (.ireturn, 1) := by decide +kernel
theorem d_RM_bar_34 : decode b_RM_bar 34 = .ok (.aload_n 0, 1) := by decide +kernel
theorem d_RM_bar_35 : decode b_RM_bar 35 = .ok (.getfield 20, 3) := by decide +kernel
theorem d_RM_bar_38 : decode b_RM_bar 38 = .ok (.bipush 8, 2) := by decide +kernel
theorem d_RM_bar_40 : decode b_RM_bar 40 = .ok (.iload_n 1, 1) := by decide +kernel
theorem d_RM_bar_41 : decode b_RM_bar 41 = .ok (.imul, 1) := by decide +kernel
theorem d_RM_bar_42 : decode b_RM_bar 42 = .ok (.iload_n 2, 1) := by decide +kernel
theorem d_RM_bar_43 : decode b_RM_bar 43 = .ok (.iadd, 1) := by decide +kernel
theorem d_RM_bar_44 : decode b_RM_bar 44 = .ok (.baload, 1) := by decide +kernel
theorem d_RM_bar_45 : decode b_RM_bar 45 = .ok (.istore 4, 2) := by decide +kernel
theorem d_RM_bar_47 : decode b_RM_bar 47 = .ok (.aload_n 0, 1) := by decide +kernel
theorem d_RM_bar_48 : decode b_RM_bar 48 = .ok (.getfield 20, 3) := by decide +kernel
theorem d_RM_bar_51 : decode b_RM_bar 51 = .ok (.bipush 8, 2) := by decide +kernel
theorem d_RM_bar_53 : decode b_RM_bar 53 = .ok (.iload_n 1, 1) := by decide +kernel
theorem d_RM_bar_54 : decode b_RM_bar 54 = .ok (.imul, 1) := by decide +kernel
theorem d_RM_bar_55 : decode b_RM_bar 55 = .ok (.iload_n 2, 1) := by decide +kernel
theorem d_RM_bar_56 : decode b_RM_bar 56 = .ok (.iadd, 1) := by decide +kernel
theorem d_RM_bar_57 : decode b_RM_bar 57 = .ok (.iload_n 3, 1) := by decide +kernel
theorem d_RM_bar_58 : decode b_RM_bar 58 = .ok (.bastore, 1) := by decide +kernel
theorem d_RM_bar_59 : decode b_RM_bar 59 = .ok (.aload_n 0, 1) := by decide +kernel
theorem d_RM_bar_60 : decode b_RM_bar 60 = .ok (.iconst 0, 1) := by decide +kernel
theorem d_RM_bar_61 : decode b_RM_bar 61 = .ok (.putfield 45, 3) := by decide +kernel
theorem d_RM_bar_64 : decode b_RM_bar 64 = .ok (.iload 4, 2) := by decide +kernel
theorem d_RM_bar_66 : decode b_RM_bar 66 = .ok (.ireturn, 1) := by decide +kernel
theorem d_RM_noDepth_0 : decode b_RM_noDepth 0 = .ok (.iload_n 1, 1) := by decide +kernel
theorem d_RM_noDepth_1 : decode b_RM_noDepth 1 = .ok (.ifCond .lt 11, 3) := by decide +kernel
theorem d_RM_noDepth_4 : decode b_RM_noDepth 4 = .ok (.iload_n 1, 1) := by decide +kernel
theorem d_RM_noDepth_5 : decode b_RM_noDepth 5 = .ok (.aload_n 0, 1) := by decide +kernel
theorem d_RM_noDepth_6 : decode b_RM_noDepth 6 = .ok (.getfield 33, 3) := by decide +kernel
theorem d_RM_noDepth_9 : decode b_RM_noDepth 9 = .ok (.if_icmp .lt 7, 3) := by decide +kernel
theorem d_RM_noDepth_12 : decode b_RM_noDepth 12 = .ok (.iconst 1, 1) := by decide +kernel
theorem d_RM_noDepth_13 : decode b_RM_noDepth 13 = .ok (.goto 4, 3) := by decide +kernel
theorem d_RM_noDepth_16 : decode b_RM_noDepth 16 = .ok (.iconst 0, 1) := by decide +kernel
theorem d_RM_noDepth_17 : decode b_RM_noDepth 17 = .ok (.ireturn, 1) := by decide +kernel
theorem d_RM_top_0 : decode b_RM_top 0 = .ok (.aload_n 0, 1) := by decide +kernel
theorem d_RM_top_1 : decode b_RM_top 1 = .ok (.iload_n 1, 1) := by decide +kernel
theorem d_RM_top_2 : decode b_RM_top 2 = .ok (.iconst 1, 1) := by decide +kernel
theorem d_RM_top_3 : decode b_RM_top 3 = .ok (.bipush 8, 2) := by decide +kernel
theorem d_RM_top_5 : decode b_RM_top 5 = .ok (.invokestatic 56, 3) := by decide +kernel
theorem d_RM_top_8 : decode b_RM_top 8 = .ok (.ifCond .eq 7, 3) := by decide +kernel
theorem d_RM_top_11 : decode b_RM_top 11 = .ok (.iconst 0, 1) := by decide +kernel
theorem d_RM_top_12 : decode b_RM_top 12 = .ok (.goto 4, 3) := by decide +kernel
theorem d_RM_top_15 : decode b_RM_top 15 = .ok (.iconst 1, 1) := by decide +kernel
theorem d_RM_top_16 : decode b_RM_top 16 = .ok (.putfield 36, 3) := by decide +kernel
theorem d_RM_top_19 : decode b_RM_top 19 = .ok (.aload_n 0, 1) := by decide +kernel
theorem d_RM_top_20 : decode b_RM_top 20 = .ok (.getfield 36, 3) := by decide +kernel
theorem d_RM_top_23 : decode b_RM_top 23 = .ok (.ifCond .le 5, 3) := by decide +kernel
theorem d_RM_top_26 : decode b_RM_top 26 = .ok (.iconst 0, 1) := by decide +kernel
theorem d_RM_top_27 : decode b_RM_top 27 = .ok (.ireturn, 1) := by decide +kernel
theorem d_RM_top_28 : decode b_RM_top 28 = .ok (.aload_n 0, 1) := by decide +kernel
theorem d_RM_top_29 : decode b_RM_top 29 = .ok (.getfield 17, 3) := by decide +kernel
theorem d_RM_top_32 : decode b_RM_top 32 = .ok (.istore_n 2, 1) := by decide +kernel
theorem d_RM_top_33 : decode b_RM_top 33 = .ok (.aload_n 0, 1) := by decide +kernel
theorem d_RM_top_34 : decode b_RM_top 34 = .ok (.iload_n 1, 1) := by decide +kernel
theorem d_RM_top_35 : decode b_RM_top 35 = .ok (.putfield 17, 3) := by decide +kernel
theorem d_RM_top_38 : decode b_RM_top 38 = .ok (.aload_n 0, 1) := by decide +kernel
theorem d_RM_top_39 : decode b_RM_top 39 = .ok (.iconst 0, 1) := by decide +kernel
theorem d_RM_top_40 : decode b_RM_top 40 = .ok (.putfield 45, 3) := by decide +kernel
theorem d_RM_top_43 : decode b_RM_top 43 = .ok (.iload_n 2, 1) := by decide +kernel
theorem d_RM_top_44 : decode b_RM_top 44 = .ok (.ireturn, 1) := by decide +kernel
theorem d_RM_run_0 : decode b_RM_run 0 = .ok (.aload_n 0, 1) := by decide +kernel
theorem d_RM_run_1 : decode b_RM_run 1 = .ok (.iload_n 1, 1) := by decide +kernel
theorem d_RM_run_2 : decode b_RM_run 2 = .ok (.iconst 0, 1) := by decide +kernel
theorem d_RM_run_3 : decode b_RM_run 3 = .ok (.ldc 74, 2) := by decide +kernel
theorem d_RM_run_5 : decode b_RM_run 5 = .ok (.invokestatic 56, 3) := by decide +kernel
theorem d_RM_run_8 : decode b_RM_run 8 = .ok (.ifCond .ne 7, 3) := by decide +kernel
theorem d_RM_run_11 : decode b_RM_run 11 = .ok (.iconst 1, 1) := by decide +kernel
theorem d_RM_run_12 : decode b_RM_run 12 = .ok (.goto 15, 3) := by decide +kernel
theorem d_RM_run_15 : decode b_RM_run 15 = .ok (.aload_n 0, 1) := by decide +kernel
theorem d_RM_run_16 : decode b_RM_run 16 = .ok (.getfield 39, 3) := by decide +kernel
theorem d_RM_run_19 : decode b_RM_run 19 = .ok (.ifCond .ne 7, 3) := by decide +kernel
theorem d_RM_run_22 : decode b_RM_run 22 = .ok (.iconst 2, 1) := by decide +kernel
theorem d_RM_run_23 : decode b_RM_run 23 = .ok (.goto 4, 3) := by decide +kernel
theorem d_RM_run_26 : decode b_RM_run 26 = .ok (.iconst 0, 1) := by decide +kernel
theorem d_RM_run_27 : decode b_RM_run 27 = .ok (.putfield 36, 3) := by decide +kernel
theorem d_RM_run_30 : decode b_RM_run 30 = .ok (.aload_n 0, 1) := by decide +kernel
theorem d_RM_run_31 : decode b_RM_run 31 = .ok (.getfield 36, 3) := by decide +kernel
theorem d_RM_run_34 : decode b_RM_run 34 = .ok (.ifCond .le 5, 3) := by decide +kernel
theorem d_RM_run_37 : decode b_RM_run 37 = .ok (.iconst 0, 1) := by decide +kernel
theorem d_RM_run_38 : decode b_RM_run 38 = .ok (.ireturn, 1) := by decide +kernel
theorem d_RM_run_39 : decode b_RM_run 39 = .ok (.aload_n 0, 1) := by decide +kernel
theorem d_RM_run_40 : decode b_RM_run 40 = .ok (.iconst 0, 1) := by decide +kernel
theorem d_RM_run_41 : decode b_RM_run 41 = .ok (.putfield 45, 3) := by decide +kernel
theorem d_RM_run_44 : decode b_RM_run 44 = .ok (.aload_n 0, 1) := by decide +kernel
theorem d_RM_run_45 : decode b_RM_run 45 = .ok (.iconst 0, 1) := by decide +kernel
theorem d_RM_run_46 : decode b_RM_run 46 = .ok (.putfield 75, 3) := by decide +kernel
theorem d_RM_run_49 : decode b_RM_run 49 = .ok (.iconst 0, 1) := by decide +kernel
theorem d_RM_run_50 : decode b_RM_run 50 = .ok (.istore_n 2, 1) := by decide +kernel
theorem d_RM_run_51 : decode b_RM_run 51 = .ok (.aload_n 0, 1) := by decide +kernel
theorem d_RM_run_52 : decode b_RM_run 52 = .ok (.getfield 23, 3) := by decide +kernel
theorem d_RM_run_55 : decode b_RM_run 55 = .ok (.iconst 0, 1) := by decide +kernel
theorem d_RM_run_56 : decode b_RM_run 56 = .ok (.iconst (-1), 1) := by decide +kernel
theorem d_RM_run_57 : decode b_RM_run 57 = .ok (.iastore, 1) := by decide +kernel
theorem d_RM_run_58 : decode b_RM_run 58 = .ok (.iload_n 2, 1) := by decide +kernel
theorem d_RM_run_59 : decode b_RM_run 59 = .ok (.ifCond .lt 180, 3) := by decide +kernel
theorem d_RM_run_62 : decode b_RM_run 62 = .ok (.iload_n 2, 1) := by decide +kernel
theorem d_RM_run_63 : decode b_RM_run 63 = .ok (.aload_n 0, 1) := by decide +kernel
theorem d_RM_run_64 : decode b_RM_run 64 = .ok (.getfield 30, 3) := by decide +kernel
theorem d_RM_run_67 : decode b_RM_run 67 = .ok (.aload_n 0, 1) := by decide +kernel
theorem d_RM_run_68 : decode b_RM_run 68 = .ok (.getfield 39, 3) := by decide +kernel
theorem d_RM_run_71 : decode b_RM_run 71 = .ok (.imul, 1) := by decide +kernel
theorem d_RM_run_72 : decode b_RM_run 72 = .ok (.if_icmp .ge 167, 3) := by decide +kernel
theorem d_RM_run_75 : decode b_RM_run 75 = .ok (.aload_n 0, 1) := by decide +kernel
theorem d_RM_run_76 : decode b_RM_run 76 = .ok (.getfield 23, 3) := by decide +kernel
theorem d_RM_run_79 : decode b_RM_run 79 = .ok (.iload_n 2, 1) := by decide +kernel
theorem d_RM_run_80 : decode b_RM_run 80 = .ok (.dup2, 1) := by decide +kernel
theorem d_RM_run_81 : decode b_RM_run 81 = .ok (.iaload, 1) := by decide +kernel
theorem d_RM_run_82 : decode b_RM_run 82 = .ok (.iconst 1, 1) := by decide +kernel
theorem d_RM_run_83 : decode b_RM_run 83 = .ok (.iadd, 1) := by decide +kernel
theorem d_RM_run_84 : decode b_RM_run 84 = .ok (.iastore, 1) := by decide +kernel
theorem d_RM_run_85 : decode b_RM_run 85 = .ok (.aload_n 0, 1) := by decide +kernel
theorem d_RM_run_86 : decode b_RM_run 86 = .ok (.getfield 23, 3) := by decide +kernel
theorem d_RM_run_89 : decode b_RM_run 89 = .ok (.iload_n 2, 1) := by decide +kernel
theorem d_RM_run_90 : decode b_RM_run 90 = .ok (.iaload, 1) := by decide +kernel
theorem d_RM_run_91 : decode b_RM_run 91 = .ok (.aload_n 0, 1) := by decide +kernel
theorem d_RM_run_92 : decode b_RM_run 92 = .ok (.getfield 33, 3) := by decide +kernel
theorem d_RM_run_95 : decode b_RM_run 95 = .ok (.if_icmp .ne 9, 3) := by decide +kernel
theorem d_RM_run_98 : decode b_RM_run 98 = .ok (.iinc 2 (-1), 3) := by decide +kernel
theorem d_RM_run_101 : decode b_RM_run 101 = .ok (.goto (-43), 3) := by decide +kernel
theorem d_RM_run_104 : decode b_RM_run 104 = .ok (.aload_n 0, 1) := by decide +kernel
theorem d_RM_run_105 : decode b_RM_run 105 = .ok (.getfield 75, 3) := by decide +kernel
theorem d_RM_run_108 : decode b_RM_run 108 = .ok (.iload_n 1, 1) := by decide +kernel
theorem d_RM_run_109 : decode b_RM_run 109 = .ok (.if_icmp .ne 5, 3) := by decide +kernel
theorem d_RM_run_112 : decode b_RM_run 112 = .ok (.iconst 2, 1) := by decide +kernel
theorem d_RM_run_113 : decode b_RM_run 113 = .ok (.ireturn, 1) := by decide +kernel
theorem d_RM_run_114 : decode b_RM_run 114 = .ok (.aload_n 0, 1) := by decide +kernel
theorem d_RM_run_115 : decode b_RM_run 115 = .ok (.dup, 1) := by decide +kernel
theorem d_RM_run_116 : decode b_RM_run 116 = .ok (.getfield 75, 3) := by decide +kernel
theorem d_RM_run_119 : decode b_RM_run 119 = .ok (.iconst 1, 1) := by decide +kernel
theorem d_RM_run_120 : decode b_RM_run 120 = .ok (.iadd, 1) := by decide +kernel
theorem d_RM_run_121 : decode b_RM_run 121 = .ok (.putfield 75, 3) := by decide +kernel
theorem d_RM_run_124 : decode b_RM_run 124 = .ok (.iload_n 2, 1) := by decide +kernel
theorem d_RM_run_125 : decode b_RM_run 125 = .ok (.aload_n 0, 1) := by decide +kernel
theorem d_RM_run_126 : decode b_RM_run 126 = .ok (.getfield 30, 3) := by decide +kernel
theorem d_RM_run_129 : decode b_RM_run 129 = .ok (.irem, 1) := by decide +kernel
theorem d_RM_run_130 : decode b_RM_run 130 = .ok (.ifCond .eq 24, 3) := by decide +kernel
theorem d_RM_run_133 : decode b_RM_run 133 = .ok (.aload_n 0, 1) := by decide +kernel
theorem d_RM_run_134 : decode b_RM_run 134 = .ok (.aload_n 0, 1) := by decide +kernel
theorem d_RM_run_135 : decode b_RM_run 135 = .ok (.getfield 23, 3) := by decide +kernel
theorem d_RM_run_138 : decode b_RM_run 138 = .ok (.iload_n 2, 1) := by decide +kernel
theorem d_RM_run_139 : decode b_RM_run 139 = .ok (.iconst 1, 1) := by decide +kernel
theorem d_RM_run_140 : decode b_RM_run 140 = .ok (.isub, 1) := by decide +kernel
theorem d_RM_run_141 : decode b_RM_run 141 = .ok (.iaload, 1) := by decide +kernel
theorem d_RM_run_142 : decode b_RM_run 142 = .ok (.aload_n 0, 1) := by decide +kernel
theorem d_RM_run_143 : decode b_RM_run 143 = .ok (.getfield 23, 3) := by decide +kernel
theorem d_RM_run_146 : decode b_RM_run 146 = .ok (.iload_n 2, 1) := by decide +kernel
theorem d_RM_run_147 : decode b_RM_run 147 = .ok (.iaload, 1) := by decide +kernel
theorem d_RM_run_148 : decode b_RM_run 148 = .ok (.invokevirtual 78, 3) := by decide +kernel
theorem d_RM_run_151 : decode b_RM_run 151 = .ok (.ifCond .eq 7, 3) := by decide +kernel
theorem d_RM_run_154 : decode b_RM_run 154 = .ok (.iconst 1, 1) := by decide +kernel
theorem d_RM_run_155 : decode b_RM_run 155 = .ok (.goto 4, 3) := by decide +kernel
theorem d_RM_run_158 : decode b_RM_run 158 = .ok (.iconst 0, 1) := by decide +kernel
theorem d_RM_run_159 : decode b_RM_run 159 = .ok (.istore_n 3, 1) := by decide +kernel
theorem d_RM_run_160 : decode b_RM_run 160 = .ok (.iload_n 3, 1) := by decide +kernel
theorem d_RM_run_161 : decode b_RM_run 161 = .ok (.ifCond .eq 37, 3) := by decide +kernel
theorem d_RM_run_164 : decode b_RM_run 164 = .ok (.iload_n 2, 1) := by decide +kernel
theorem d_RM_run_165 : decode b_RM_run 165 = .ok (.aload_n 0, 1) := by decide +kernel
theorem d_RM_run_166 : decode b_RM_run 166 = .ok (.getfield 30, 3) := by decide +kernel
theorem d_RM_run_169 : decode b_RM_run 169 = .ok (.irem, 1) := by decide +kernel
theorem d_RM_run_170 : decode b_RM_run 170 = .ok (.aload_n 0, 1) := by decide +kernel
theorem d_RM_run_171 : decode b_RM_run 171 = .ok (.getfield 30, 3) := by decide +kernel
theorem d_RM_run_174 : decode b_RM_run 174 = .ok (.iconst 1, 1) := by decide +kernel
theorem d_RM_run_175 : decode b_RM_run 175 = .ok (.isub, 1) := by decide +kernel
theorem d_RM_run_176 : decode b_RM_run 176 = .ok (.if_icmp .lt 18, 3) := by decide +kernel
theorem d_RM_run_179 : decode b_RM_run 179 = .ok (.aload_n 0, 1) := by decide +kernel
theorem d_RM_run_180 : decode b_RM_run 180 = .ok (.iload_n 2, 1) := by decide +kernel
theorem d_RM_run_181 : decode b_RM_run 181 = .ok (.aload_n 0, 1) := by decide +kernel
theorem d_RM_run_182 : decode b_RM_run 182 = .ok (.getfield 30, 3) := by decide +kernel
theorem d_RM_run_185 : decode b_RM_run 185 = .ok (.idiv, 1) := by decide +kernel
theorem d_RM_run_186 : decode b_RM_run 186 = .ok (.iconst 1, 1) := by decide +kernel
theorem d_RM_run_187 : decode b_RM_run 187 = .ok (.iadd, 1) := by decide +kernel
theorem d_RM_run_188 : decode b_RM_run 188 = .ok (.invokevirtual 81, 3) := by decide +kernel
theorem d_RM_run_191 : decode b_RM_run 191 = .ok (.ifCond .eq 7, 3) := by decide +kernel
theorem d_RM_run_194 : decode b_RM_run 194 = .ok (.iconst 1, 1) := by decide +kernel
theorem d_RM_run_195 : decode b_RM_run 195 = .ok (.goto 4, 3) := by decide +kernel
theorem d_RM_run_198 : decode b_RM_run 198 = .ok (.iconst 0, 1) := by decide +kernel
theorem d_RM_run_199 : decode b_RM_run 199 = .ok (.istore_n 3, 1) := by decide +kernel
theorem d_RM_run_200 : decode b_RM_run 200 = .ok (.iload_n 3, 1) := by decide +kernel
theorem d_RM_run_201 : decode b_RM_run 201 = .ok (.ifCond .eq 9, 3) := by decide +kernel
theorem d_RM_run_204 : decode b_RM_run 204 = .ok (.iload_n 2, 1) := by decide +kernel
theorem d_RM_run_205 : decode b_RM_run 205 = .ok (.iconst 1, 1) := by decide +kernel
theorem d_RM_run_206 : decode b_RM_run 206 = .ok (.iadd, 1) := by decide +kernel
theorem d_RM_run_207 : decode b_RM_run 207 = .ok (.goto 4, 3) := by decide +kernel
theorem d_RM_run_210 : decode b_RM_run 210 = .ok (.iload_n 2, 1) := by decide +kernel
theorem d_RM_run_211 : decode b_RM_run 211 = .ok (.istore_n 2, 1) := by decide +kernel
theorem d_RM_run_212 : decode b_RM_run 212 = .ok (.iload_n 3, 1) := by decide +kernel
theorem d_RM_run_213 : decode b_RM_run 213 = .ok (.ifCond .eq 23, 3) := by decide +kernel
theorem d_RM_run_216 : decode b_RM_run 216 = .ok (.iload_n 2, 1) := by decide +kernel
theorem d_RM_run_217 : decode b_RM_run 217 = .ok (.aload_n 0, 1) := by decide +kernel
theorem d_RM_run_218 : decode b_RM_run 218 = .ok (.getfield 30, 3) := by decide +kernel
theorem d_RM_run_221 : decode b_RM_run 221 = .ok (.aload_n 0, 1) := by decide +kernel
theorem d_RM_run_222 : decode b_RM_run 222 = .ok (.getfield 39, 3) := by decide +kernel
theorem d_RM_run_225 : decode b_RM_run 225 = .ok (.imul, 1) := by decide +kernel
theorem d_RM_run_226 : decode b_RM_run 226 = .ok (.if_icmp .ge 10, 3) := by decide +kernel
theorem d_RM_run_229 : decode b_RM_run 229 = .ok (.aload_n 0, 1) := by decide +kernel
theorem d_RM_run_230 : decode b_RM_run 230 = .ok (.getfield 23, 3) := by decide +kernel
theorem d_RM_run_233 : decode b_RM_run 233 = .ok (.iload_n 2, 1) := by decide +kernel
theorem d_RM_run_234 : decode b_RM_run 234 = .ok (.iconst (-1), 1) := by decide +kernel
theorem d_RM_run_235 : decode b_RM_run 235 = .ok (.iastore, 1) := by decide +kernel
theorem d_RM_run_236 : decode b_RM_run 236 = .ok (.goto (-178), 3) := by decide +kernel
theorem d_RM_run_239 : decode b_RM_run 239 = .ok (.aload_n 0, 1) := by decide +kernel
theorem d_RM_run_240 : decode b_RM_run 240 = .ok (.iload_n 2, 1) := by decide +kernel
theorem d_RM_run_241 : decode b_RM_run 241 = .ok (.ifCond .lt 7, 3) := by decide +kernel
theorem d_RM_run_244 : decode b_RM_run 244 = .ok (.iconst 1, 1) := by decide +kernel
theorem d_RM_run_245 : decode b_RM_run 245 = .ok (.goto 4, 3) := by decide +kernel
theorem d_RM_run_248 : decode b_RM_run 248 = .ok (.iconst 0, 1) := by decide +kernel
theorem d_RM_run_249 : decode b_RM_run 249 = .ok (.putfield 45, 3) := by decide +kernel
theorem d_RM_run_252 : decode b_RM_run 252 = .ok (.aload_n 0, 1) := by decide +kernel
theorem d_RM_run_253 : decode b_RM_run 253 = .ok (.getfield 45, 3) := by decide +kernel
theorem d_RM_run_256 : decode b_RM_run 256 = .ok (.ifCond .eq 7, 3) := by decide +kernel
theorem d_RM_run_259 : decode b_RM_run 259 = .ok (.iconst 1, 1) := by decide +kernel
theorem d_RM_run_260 : decode b_RM_run 260 = .ok (.goto 4, 3) := by decide +kernel
theorem d_RM_run_263 : decode b_RM_run 263 = .ok (.iconst 0, 1) := by decide +kernel
theorem d_RM_run_264 : decode b_RM_run 264 = .ok (.ireturn, 1) := by decide +kernel
theorem d_RM_mayStand_0 : decode b_RM_mayStand 0 = .ok (.iload_n 1, 1) := by decide +kernel
theorem d_RM_mayStand_1 : decode b_RM_mayStand 1 = .ok (.iload_n 2, 1) := by decide +kernel
theorem d_RM_mayStand_2 : decode b_RM_mayStand 2 = .ok (.if_icmp .le 9, 3) := by decide +kernel
theorem d_RM_mayStand_5 : decode b_RM_mayStand 5 = .ok (.iload_n 1, 1) := by decide +kernel
theorem d_RM_mayStand_6 : decode b_RM_mayStand 6 = .ok (.iload_n 2, 1) := by decide +kernel
theorem d_RM_mayStand_7 : decode b_RM_mayStand 7 = .ok (.isub, 1) := by decide +kernel
theorem d_RM_mayStand_8 : decode b_RM_mayStand 8 = .ok (.goto 6, 3) := by decide +kernel
theorem d_RM_mayStand_11 : decode b_RM_mayStand 11 = .ok (.iload_n 2, 1) := by decide +kernel
theorem d_RM_mayStand_12 : decode b_RM_mayStand 12 = .ok (.iload_n 1, 1) := by decide +kernel
theorem d_RM_mayStand_13 : decode b_RM_mayStand 13 = .ok (.isub, 1) := by decide +kernel
theorem d_RM_mayStand_14 : decode b_RM_mayStand 14 = .ok (.istore_n 3, 1) := by decide +kernel
theorem d_RM_mayStand_15 : decode b_RM_mayStand 15 = .ok (.iload_n 3, 1) := by decide +kernel
theorem d_RM_mayStand_16 : decode b_RM_mayStand 16 = .ok (.aload_n 0, 1) := by decide +kernel
theorem d_RM_mayStand_17 : decode b_RM_mayStand 17 = .ok (.getfield 13, 3) := by decide +kernel
theorem d_RM_mayStand_20 : decode b_RM_mayStand 20 = .ok (.if_icmp .gt 21, 3) := by decide +kernel
theorem d_RM_mayStand_23 : decode b_RM_mayStand 23 = .ok (.aload_n 0, 1) := by decide +kernel
theorem d_RM_mayStand_24 : decode b_RM_mayStand 24 = .ok (.getfield 20, 3) := by decide +kernel
theorem d_RM_mayStand_27 : decode b_RM_mayStand 27 = .ok (.bipush 8, 2) := by decide +kernel
theorem d_RM_mayStand_29 : decode b_RM_mayStand 29 = .ok (.iload_n 1, 1) := by decide +kernel
theorem d_RM_mayStand_30 : decode b_RM_mayStand 30 = .ok (.imul, 1) := by decide +kernel
theorem d_RM_mayStand_31 : decode b_RM_mayStand 31 = .ok (.iload_n 2, 1) := by decide +kernel
theorem d_RM_mayStand_32 : decode b_RM_mayStand 32 = .ok (.iadd, 1) := by decide +kernel
theorem d_RM_mayStand_33 : decode b_RM_mayStand 33 = .ok (.baload, 1) := by decide +kernel
theorem d_RM_mayStand_34 : decode b_RM_mayStand 34 = .ok (.ifCond .ne 7, 3) := by decide +kernel
theorem d_RM_mayStand_37 : decode b_RM_mayStand 37 = .ok (.iconst 1, 1) := by decide +kernel
theorem d_RM_mayStand_38 : decode b_RM_mayStand 38 = .ok (.goto 4, 3) := by decide +kernel
theorem d_RM_mayStand_41 : decode b_RM_mayStand 41 = .ok (.iconst 0, 1) := by decide +kernel
theorem d_RM_mayStand_42 : decode b_RM_mayStand 42 = .ok (.ireturn, 1) := by decide +kernel
theorem d_RM_areGood_0 : decode b_RM_areGood 0 = .ok (.iconst 0, 1) := by decide +kernel
theorem d_RM_areGood_1 : decode b_RM_areGood 1 = .ok (.istore_n 2, 1) := by decide +kernel
theorem d_RM_areGood_2 : decode b_RM_areGood 2 = .ok (.iload_n 2, 1) := by decide +kernel
theorem d_RM_areGood_3 : decode b_RM_areGood 3 = .ok (.iload_n 1, 1) := by decide +kernel
theorem d_RM_areGood_4 : decode b_RM_areGood 4 = .ok (.iconst 1, 1) := by decide +kernel
theorem d_RM_areGood_5 : decode b_RM_areGood 5 = .ok (.isub, 1) := by decide +kernel
theorem d_RM_areGood_6 : decode b_RM_areGood 6 = .ok (.if_icmp .ge 22, 3) := by decide +kernel
theorem d_RM_areGood_9 : decode b_RM_areGood 9 = .ok (.aload_n 0, 1) := by decide +kernel
theorem d_RM_areGood_10 : decode b_RM_areGood 10 = .ok (.iload_n 2, 1) := by decide +kernel
theorem d_RM_areGood_11 : decode b_RM_areGood 11 = .ok (.iload_n 1, 1) := by decide +kernel
theorem d_RM_areGood_12 : decode b_RM_areGood 12 = .ok (.iconst 1, 1) := by decide +kernel
theorem d_RM_areGood_13 : decode b_RM_areGood 13 = .ok (.isub, 1) := by decide +kernel
theorem d_RM_areGood_14 : decode b_RM_areGood 14 = .ok (.invokevirtual 67, 3) := by decide +kernel
theorem d_RM_areGood_17 : decode b_RM_areGood 17 = .ok (.ifCond .eq 5, 3) := by decide +kernel
theorem d_RM_areGood_20 : decode b_RM_areGood 20 = .ok (.iconst 0, 1) := by decide +kernel
theorem d_RM_areGood_21 : decode b_RM_areGood 21 = .ok (.ireturn, 1) := by decide +kernel
theorem d_RM_areGood_22 : decode b_RM_areGood 22 = .ok (.iinc 2 1, 3) := by decide +kernel
theorem d_RM_areGood_25 : decode b_RM_areGood 25 = .ok (.goto (-23), 3) := by decide +kernel
theorem d_RM_areGood_28 : decode b_RM_areGood 28 = .ok (.iconst 0, 1) := by decide +kernel
theorem d_RM_areGood_29 : decode b_RM_areGood 29 = .ok (.istore_n 2, 1) := by decide +kernel
theorem d_RM_areGood_30 : decode b_RM_areGood 30 = .ok (.iload_n 2, 1) := by decide +kernel
theorem d_RM_areGood_31 : decode b_RM_areGood 31 = .ok (.aload_n 0, 1) := by decide +kernel
theorem d_RM_areGood_32 : decode b_RM_areGood 32 = .ok (.getfield 42, 3) := by decide +kernel
theorem d_RM_areGood_35 : decode b_RM_areGood 35 = .ok (.if_icmp .ge 118, 3) := by decide +kernel
theorem d_RM_areGood_38 : decode b_RM_areGood 38 = .ok (.iconst 0, 1) := by decide +kernel
theorem d_RM_areGood_39 : decode b_RM_areGood 39 = .ok (.istore_n 3, 1) := by decide +kernel
theorem d_RM_areGood_40 : decode b_RM_areGood 40 = .ok (.iload_n 3, 1) := by decide +kernel
theorem d_RM_areGood_41 : decode b_RM_areGood 41 = .ok (.aload_n 0, 1) := by decide +kernel
theorem d_RM_areGood_42 : decode b_RM_areGood 42 = .ok (.getfield 30, 3) := by decide +kernel
theorem d_RM_areGood_45 : decode b_RM_areGood 45 = .ok (.if_icmp .ge 63, 3) := by decide +kernel
theorem d_RM_areGood_48 : decode b_RM_areGood 48 = .ok (.iconst 0, 1) := by decide +kernel
theorem d_RM_areGood_49 : decode b_RM_areGood 49 = .ok (.istore 4, 2) := by decide +kernel
theorem d_RM_areGood_51 : decode b_RM_areGood 51 = .ok (.iconst 0, 1) := by decide +kernel
theorem d_RM_areGood_52 : decode b_RM_areGood 52 = .ok (.istore 5, 2) := by decide +kernel
theorem d_RM_areGood_54 : decode b_RM_areGood 54 = .ok (.iload 5, 2) := by decide +kernel
theorem d_RM_areGood_56 : decode b_RM_areGood 56 = .ok (.aload_n 0, 1) := by decide +kernel
theorem d_RM_areGood_57 : decode b_RM_areGood 57 = .ok (.getfield 33, 3) := by decide +kernel
theorem d_RM_areGood_60 : decode b_RM_areGood 60 = .ok (.if_icmp .ge 31, 3) := by decide +kernel
theorem d_RM_areGood_63 : decode b_RM_areGood 63 = .ok (.iload 4, 2) := by decide +kernel
theorem d_RM_areGood_65 : decode b_RM_areGood 65 = .ok (.aload_n 0, 1) := by decide +kernel
theorem d_RM_areGood_66 : decode b_RM_areGood 66 = .ok (.iload_n 1, 1) := by decide +kernel
theorem d_RM_areGood_67 : decode b_RM_areGood 67 = .ok (.iload_n 2, 1) := by decide +kernel
theorem d_RM_areGood_68 : decode b_RM_areGood 68 = .ok (.iload_n 3, 1) := by decide +kernel
theorem d_RM_areGood_69 : decode b_RM_areGood 69 = .ok (.iload 5, 2) := by decide +kernel
theorem d_RM_areGood_71 : decode b_RM_areGood 71 = .ok (.invokevirtual 63, 3) := by decide +kernel
theorem d_RM_areGood_74 : decode b_RM_areGood 74 = .ok (.ifCond .eq 7, 3) := by decide +kernel
theorem d_RM_areGood_77 : decode b_RM_areGood 77 = .ok (.iconst 1, 1) := by decide +kernel
theorem d_RM_areGood_78 : decode b_RM_areGood 78 = .ok (.goto 4, 3) := by decide +kernel
theorem d_RM_areGood_81 : decode b_RM_areGood 81 = .ok (.iconst 0, 1) := by decide +kernel
theorem d_RM_areGood_82 : decode b_RM_areGood 82 = .ok (.iadd, 1) := by decide +kernel
theorem d_RM_areGood_83 : decode b_RM_areGood 83 = .ok (.istore 4, 2) := by decide +kernel
theorem d_RM_areGood_85 : decode b_RM_areGood 85 = .ok (.iinc 5 1, 3) := by decide +kernel
theorem d_RM_areGood_88 : decode b_RM_areGood 88 = .ok (.goto (-34), 3) := by decide +kernel
theorem d_RM_areGood_91 : decode b_RM_areGood 91 = .ok (.iload 4, 2) := by decide +kernel
theorem d_RM_areGood_93 : decode b_RM_areGood 93 = .ok (.aload_n 0, 1) := by decide +kernel
theorem d_RM_areGood_94 : decode b_RM_areGood 94 = .ok (.getfield 17, 3) := by decide +kernel
theorem d_RM_areGood_97 : decode b_RM_areGood 97 = .ok (.if_icmp .le 5, 3) := by decide +kernel
theorem d_RM_areGood_100 : decode b_RM_areGood 100 = .ok (.iconst 0, 1) := by decide +kernel
theorem d_RM_areGood_101 : decode b_RM_areGood 101 = .ok (.ireturn, 1) := by decide +kernel
theorem d_RM_areGood_102 : decode b_RM_areGood 102 = .ok (.iinc 3 1, 3) := by decide +kernel
theorem d_RM_areGood_105 : decode b_RM_areGood 105 = .ok (.goto (-65), 3) := by decide +kernel
theorem d_RM_areGood_108 : decode b_RM_areGood 108 = .ok (.iconst 0, 1) := by decide +kernel
theorem d_RM_areGood_109 : decode b_RM_areGood 109 = .ok (.istore_n 3, 1) := by decide +kernel
theorem d_RM_areGood_110 : decode b_RM_areGood 110 = .ok (.iload_n 3, 1) := by decide +kernel
theorem d_RM_areGood_111 : decode b_RM_areGood 111 = .ok (.iload_n 1, 1) := by decide +kernel
theorem d_RM_areGood_112 : decode b_RM_areGood 112 = .ok (.if_icmp .ge 35, 3) := by decide +kernel
theorem d_RM_areGood_115 : decode b_RM_areGood 115 = .ok (.aload_n 0, 1) := by decide +kernel
theorem d_RM_areGood_116 : decode b_RM_areGood 116 = .ok (.getfield 7, 3) := by decide +kernel
theorem d_RM_areGood_119 : decode b_RM_areGood 119 = .ok (.bipush 6, 2) := by decide +kernel
theorem d_RM_areGood_121 : decode b_RM_areGood 121 = .ok (.iload_n 3, 1) := by decide +kernel
theorem d_RM_areGood_122 : decode b_RM_areGood 122 = .ok (.imul, 1) := by decide +kernel
theorem d_RM_areGood_123 : decode b_RM_areGood 123 = .ok (.iload_n 2, 1) := by decide +kernel
theorem d_RM_areGood_124 : decode b_RM_areGood 124 = .ok (.iadd, 1) := by decide +kernel
theorem d_RM_areGood_125 : decode b_RM_areGood 125 = .ok (.baload, 1) := by decide +kernel
theorem d_RM_areGood_126 : decode b_RM_areGood 126 = .ok (.ifCond .ne 15, 3) := by decide +kernel
theorem d_RM_areGood_129 : decode b_RM_areGood 129 = .ok (.aload_n 0, 1) := by decide +kernel
theorem d_RM_areGood_130 : decode b_RM_areGood 130 = .ok (.iload_n 1, 1) := by decide +kernel
theorem d_RM_areGood_131 : decode b_RM_areGood 131 = .ok (.iload_n 3, 1) := by decide +kernel
theorem d_RM_areGood_132 : decode b_RM_areGood 132 = .ok (.iload_n 2, 1) := by decide +kernel
theorem d_RM_areGood_133 : decode b_RM_areGood 133 = .ok (.invokevirtual 71, 3) := by decide +kernel
theorem d_RM_areGood_136 : decode b_RM_areGood 136 = .ok (.ifCond .eq 5, 3) := by decide +kernel
theorem d_RM_areGood_139 : decode b_RM_areGood 139 = .ok (.iconst 0, 1) := by decide +kernel
theorem d_RM_areGood_140 : decode b_RM_areGood 140 = .ok (.ireturn, 1) := by decide +kernel
theorem d_RM_areGood_141 : decode b_RM_areGood 141 = .ok (.iinc 3 1, 3) := by decide +kernel
theorem d_RM_areGood_144 : decode b_RM_areGood 144 = .ok (.goto (-34), 3) := by decide +kernel
theorem d_RM_areGood_147 : decode b_RM_areGood 147 = .ok (.iinc 2 1, 3) := by decide +kernel
theorem d_RM_areGood_150 : decode b_RM_areGood 150 = .ok (.goto (-120), 3) := by decide +kernel
theorem d_RM_areGood_153 : decode b_RM_areGood 153 = .ok (.iconst 1, 1) := by decide +kernel
theorem d_RM_areGood_154 : decode b_RM_areGood 154 = .ok (.ireturn, 1) := by decide +kernel
theorem d_RM_isAlike_0 : decode b_RM_isAlike 0 = .ok (.iconst 1, 1) := by decide +kernel
theorem d_RM_isAlike_1 : decode b_RM_isAlike 1 = .ok (.istore_n 3, 1) := by decide +kernel
theorem d_RM_isAlike_2 : decode b_RM_isAlike 2 = .ok (.iconst 0, 1) := by decide +kernel
theorem d_RM_isAlike_3 : decode b_RM_isAlike 3 = .ok (.istore 4, 2) := by decide +kernel
theorem d_RM_isAlike_5 : decode b_RM_isAlike 5 = .ok (.iload 4, 2) := by decide +kernel
theorem d_RM_isAlike_7 : decode b_RM_isAlike 7 = .ok (.aload_n 0, 1) := by decide +kernel
theorem d_RM_isAlike_8 : decode b_RM_isAlike 8 = .ok (.getfield 30, 3) := by decide +kernel
theorem d_RM_isAlike_11 : decode b_RM_isAlike 11 = .ok (.if_icmp .ge 50, 3) := by decide +kernel
theorem d_RM_isAlike_14 : decode b_RM_isAlike 14 = .ok (.iload_n 3, 1) := by decide +kernel
theorem d_RM_isAlike_15 : decode b_RM_isAlike 15 = .ok (.ifCond .eq 38, 3) := by decide +kernel
theorem d_RM_isAlike_18 : decode b_RM_isAlike 18 = .ok (.aload_n 0, 1) := by decide +kernel
theorem d_RM_isAlike_19 : decode b_RM_isAlike 19 = .ok (.getfield 23, 3) := by decide +kernel
theorem d_RM_isAlike_22 : decode b_RM_isAlike 22 = .ok (.aload_n 0, 1) := by decide +kernel
theorem d_RM_isAlike_23 : decode b_RM_isAlike 23 = .ok (.getfield 30, 3) := by decide +kernel
theorem d_RM_isAlike_26 : decode b_RM_isAlike 26 = .ok (.iload_n 1, 1) := by decide +kernel
theorem d_RM_isAlike_27 : decode b_RM_isAlike 27 = .ok (.imul, 1) := by decide +kernel
theorem d_RM_isAlike_28 : decode b_RM_isAlike 28 = .ok (.iload 4, 2) := by decide +kernel
theorem d_RM_isAlike_30 : decode b_RM_isAlike 30 = .ok (.iadd, 1) := by decide +kernel
theorem d_RM_isAlike_31 : decode b_RM_isAlike 31 = .ok (.iaload, 1) := by decide +kernel
theorem d_RM_isAlike_32 : decode b_RM_isAlike 32 = .ok (.aload_n 0, 1) := by decide +kernel
theorem d_RM_isAlike_33 : decode b_RM_isAlike 33 = .ok (.getfield 23, 3) := by decide +kernel
theorem d_RM_isAlike_36 : decode b_RM_isAlike 36 = .ok (.aload_n 0, 1) := by decide +kernel
theorem d_RM_isAlike_37 : decode b_RM_isAlike 37 = .ok (.getfield 30, 3) := by decide +kernel
theorem d_RM_isAlike_40 : decode b_RM_isAlike 40 = .ok (.iload_n 2, 1) := by decide +kernel
theorem d_RM_isAlike_41 : decode b_RM_isAlike 41 = .ok (.imul, 1) := by decide +kernel
theorem d_RM_isAlike_42 : decode b_RM_isAlike 42 = .ok (.iload 4, 2) := by decide +kernel
theorem d_RM_isAlike_44 : decode b_RM_isAlike 44 = .ok (.iadd, 1) := by decide +kernel
theorem d_RM_isAlike_45 : decode b_RM_isAlike 45 = .ok (.iaload, 1) := by decide +kernel
theorem d_RM_isAlike_46 : decode b_RM_isAlike 46 = .ok (.if_icmp .ne 7, 3) := by decide +kernel
theorem d_RM_isAlike_49 : decode b_RM_isAlike 49 = .ok (.iconst 1, 1) := by decide +kernel
theorem d_RM_isAlike_50 : decode b_RM_isAlike 50 = .ok (.goto 4, 3) := by decide +kernel
theorem d_RM_isAlike_53 : decode b_RM_isAlike 53 = .ok (.iconst 0, 1) := by decide +kernel
theorem d_RM_isAlike_54 : decode b_RM_isAlike 54 = .ok (.istore_n 3, 1) := by decide +kernel
theorem d_RM_isAlike_55 : decode b_RM_isAlike 55 = .ok (.iinc 4 1, 3) := by decide +kernel
theorem d_RM_isAlike_58 : decode b_RM_isAlike 58 = .ok (.goto (-53), 3) := by decide +kernel
theorem d_RM_isAlike_61 : decode b_RM_isAlike 61 = .ok (.iload_n 3, 1) := by decide +kernel
theorem d_RM_isAlike_62 : decode b_RM_isAlike 62 = .ok (.ireturn, 1) := by decide +kernel
theorem d_RM_isHeld_0 : decode b_RM_isHeld 0 = .ok (.iconst 0, 1) := by decide +kernel
theorem d_RM_isHeld_1 : decode b_RM_isHeld 1 = .ok (.istore 5, 2) := by decide +kernel
theorem d_RM_isHeld_3 : decode b_RM_isHeld 3 = .ok (.iconst 0, 1) := by decide +kernel
theorem d_RM_isHeld_4 : decode b_RM_isHeld 4 = .ok (.istore 6, 2) := by decide +kernel
theorem d_RM_isHeld_6 : decode b_RM_isHeld 6 = .ok (.iload 6, 2) := by decide +kernel
theorem d_RM_isHeld_8 : decode b_RM_isHeld 8 = .ok (.iload_n 1, 1) := by decide +kernel
theorem d_RM_isHeld_9 : decode b_RM_isHeld 9 = .ok (.if_icmp .ge 55, 3) := by decide +kernel
theorem d_RM_isHeld_12 : decode b_RM_isHeld 12 = .ok (.iload 5, 2) := by decide +kernel
theorem d_RM_isHeld_14 : decode b_RM_isHeld 14 = .ok (.ifCond .ne 37, 3) := by decide +kernel
theorem d_RM_isHeld_17 : decode b_RM_isHeld 17 = .ok (.aload_n 0, 1) := by decide +kernel
theorem d_RM_isHeld_18 : decode b_RM_isHeld 18 = .ok (.getfield 7, 3) := by decide +kernel
theorem d_RM_isHeld_21 : decode b_RM_isHeld 21 = .ok (.bipush 6, 2) := by decide +kernel
theorem d_RM_isHeld_23 : decode b_RM_isHeld 23 = .ok (.iload 6, 2) := by decide +kernel
theorem d_RM_isHeld_25 : decode b_RM_isHeld 25 = .ok (.imul, 1) := by decide +kernel
theorem d_RM_isHeld_26 : decode b_RM_isHeld 26 = .ok (.iload_n 2, 1) := by decide +kernel
theorem d_RM_isHeld_27 : decode b_RM_isHeld 27 = .ok (.iadd, 1) := by decide +kernel
theorem d_RM_isHeld_28 : decode b_RM_isHeld 28 = .ok (.baload, 1) := by decide +kernel
theorem d_RM_isHeld_29 : decode b_RM_isHeld 29 = .ok (.ifCond .eq 26, 3) := by decide +kernel
theorem d_RM_isHeld_32 : decode b_RM_isHeld 32 = .ok (.aload_n 0, 1) := by decide +kernel
theorem d_RM_isHeld_33 : decode b_RM_isHeld 33 = .ok (.getfield 23, 3) := by decide +kernel
theorem d_RM_isHeld_36 : decode b_RM_isHeld 36 = .ok (.aload_n 0, 1) := by decide +kernel
theorem d_RM_isHeld_37 : decode b_RM_isHeld 37 = .ok (.getfield 30, 3) := by decide +kernel
theorem d_RM_isHeld_40 : decode b_RM_isHeld 40 = .ok (.iload 6, 2) := by decide +kernel
theorem d_RM_isHeld_42 : decode b_RM_isHeld 42 = .ok (.imul, 1) := by decide +kernel
theorem d_RM_isHeld_43 : decode b_RM_isHeld 43 = .ok (.iload_n 3, 1) := by decide +kernel
theorem d_RM_isHeld_44 : decode b_RM_isHeld 44 = .ok (.iadd, 1) := by decide +kernel
theorem d_RM_isHeld_45 : decode b_RM_isHeld 45 = .ok (.iaload, 1) := by decide +kernel
theorem d_RM_isHeld_46 : decode b_RM_isHeld 46 = .ok (.iload 4, 2) := by decide +kernel
theorem d_RM_isHeld_48 : decode b_RM_isHeld 48 = .ok (.if_icmp .ne 7, 3) := by decide +kernel
theorem d_RM_isHeld_51 : decode b_RM_isHeld 51 = .ok (.iconst 1, 1) := by decide +kernel
theorem d_RM_isHeld_52 : decode b_RM_isHeld 52 = .ok (.goto 4, 3) := by decide +kernel
theorem d_RM_isHeld_55 : decode b_RM_isHeld 55 = .ok (.iconst 0, 1) := by decide +kernel
theorem d_RM_isHeld_56 : decode b_RM_isHeld 56 = .ok (.istore 5, 2) := by decide +kernel
theorem d_RM_isHeld_58 : decode b_RM_isHeld 58 = .ok (.iinc 6 1, 3) := by decide +kernel
theorem d_RM_isHeld_61 : decode b_RM_isHeld 61 = .ok (.goto (-55), 3) := by decide +kernel
theorem d_RM_isHeld_64 : decode b_RM_isHeld 64 = .ok (.iload 5, 2) := by decide +kernel
theorem d_RM_isHeld_66 : decode b_RM_isHeld 66 = .ok (.ireturn, 1) := by decide +kernel
theorem d_RM_isFitting_0 : decode b_RM_isFitting 0 = .ok (.iconst 1, 1) := by decide +kernel
theorem d_RM_isFitting_1 : decode b_RM_isFitting 1 = .ok (.istore 4, 2) := by decide +kernel
theorem d_RM_isFitting_3 : decode b_RM_isFitting 3 = .ok (.iconst 0, 1) := by decide +kernel
theorem d_RM_isFitting_4 : decode b_RM_isFitting 4 = .ok (.istore 5, 2) := by decide +kernel
theorem d_RM_isFitting_6 : decode b_RM_isFitting 6 = .ok (.iload 5, 2) := by decide +kernel
theorem d_RM_isFitting_8 : decode b_RM_isFitting 8 = .ok (.aload_n 0, 1) := by decide +kernel
theorem d_RM_isFitting_9 : decode b_RM_isFitting 9 = .ok (.getfield 30, 3) := by decide +kernel
theorem d_RM_isFitting_12 : decode b_RM_isFitting 12 = .ok (.if_icmp .ge 46, 3) := by decide +kernel
theorem d_RM_isFitting_15 : decode b_RM_isFitting 15 = .ok (.iload 4, 2) := by decide +kernel
theorem d_RM_isFitting_17 : decode b_RM_isFitting 17 = .ok (.ifCond .eq 32, 3) := by decide +kernel
theorem d_RM_isFitting_20 : decode b_RM_isFitting 20 = .ok (.aload_n 0, 1) := by decide +kernel
theorem d_RM_isFitting_21 : decode b_RM_isFitting 21 = .ok (.iload_n 1, 1) := by decide +kernel
theorem d_RM_isFitting_22 : decode b_RM_isFitting 22 = .ok (.iload_n 3, 1) := by decide +kernel
theorem d_RM_isFitting_23 : decode b_RM_isFitting 23 = .ok (.iload 5, 2) := by decide +kernel
theorem d_RM_isFitting_25 : decode b_RM_isFitting 25 = .ok (.aload_n 0, 1) := by decide +kernel
theorem d_RM_isFitting_26 : decode b_RM_isFitting 26 = .ok (.getfield 23, 3) := by decide +kernel
theorem d_RM_isFitting_29 : decode b_RM_isFitting 29 = .ok (.aload_n 0, 1) := by decide +kernel
theorem d_RM_isFitting_30 : decode b_RM_isFitting 30 = .ok (.getfield 30, 3) := by decide +kernel
theorem d_RM_isFitting_33 : decode b_RM_isFitting 33 = .ok (.iload_n 2, 1) := by decide +kernel
theorem d_RM_isFitting_34 : decode b_RM_isFitting 34 = .ok (.imul, 1) := by decide +kernel
theorem d_RM_isFitting_35 : decode b_RM_isFitting 35 = .ok (.iload 5, 2) := by decide +kernel
theorem d_RM_isFitting_37 : decode b_RM_isFitting 37 = .ok (.iadd, 1) := by decide +kernel
theorem d_RM_isFitting_38 : decode b_RM_isFitting 38 = .ok (.iaload, 1) := by decide +kernel
theorem d_RM_isFitting_39 : decode b_RM_isFitting 39 = .ok (.invokevirtual 63, 3) := by decide +kernel
theorem d_RM_isFitting_42 : decode b_RM_isFitting 42 = .ok (.ifCond .eq 7, 3) := by decide +kernel
theorem d_RM_isFitting_45 : decode b_RM_isFitting 45 = .ok (.iconst 1, 1) := by decide +kernel
theorem d_RM_isFitting_46 : decode b_RM_isFitting 46 = .ok (.goto 4, 3) := by decide +kernel
theorem d_RM_isFitting_49 : decode b_RM_isFitting 49 = .ok (.iconst 0, 1) := by decide +kernel
theorem d_RM_isFitting_50 : decode b_RM_isFitting 50 = .ok (.istore 4, 2) := by decide +kernel
theorem d_RM_isFitting_52 : decode b_RM_isFitting 52 = .ok (.iinc 5 1, 3) := by decide +kernel
theorem d_RM_isFitting_55 : decode b_RM_isFitting 55 = .ok (.goto (-49), 3) := by decide +kernel
theorem d_RM_isFitting_58 : decode b_RM_isFitting 58 = .ok (.iload 4, 2) := by decide +kernel
theorem d_RM_isFitting_60 : decode b_RM_isFitting 60 = .ok (.ireturn, 1) := by decide +kernel
theorem d_RM_tries_0 : decode b_RM_tries 0 = .ok (.aload_n 0, 1) := by decide +kernel
theorem d_RM_tries_1 : decode b_RM_tries 1 = .ok (.iconst 0, 1) := by decide +kernel
theorem d_RM_tries_2 : decode b_RM_tries 2 = .ok (.putfield 36, 3) := by decide +kernel
theorem d_RM_tries_5 : decode b_RM_tries 5 = .ok (.aload_n 0, 1) := by decide +kernel
theorem d_RM_tries_6 : decode b_RM_tries 6 = .ok (.getfield 75, 3) := by decide +kernel
theorem d_RM_tries_9 : decode b_RM_tries 9 = .ok (.ireturn, 1) := by decide +kernel
theorem d_RM_cut_0 : decode b_RM_cut 0 = .ok (.aload_n 0, 1) := by decide +kernel
theorem d_RM_cut_1 : decode b_RM_cut 1 = .ok (.aload_n 0, 1) := by decide +kernel
theorem d_RM_cut_2 : decode b_RM_cut 2 = .ok (.iload_n 1, 1) := by decide +kernel
theorem d_RM_cut_3 : decode b_RM_cut 3 = .ok (.invokevirtual 49, 3) := by decide +kernel
theorem d_RM_cut_6 : decode b_RM_cut 6 = .ok (.ifCond .ne 11, 3) := by decide +kernel
theorem d_RM_cut_9 : decode b_RM_cut 9 = .ok (.aload_n 0, 1) := by decide +kernel
theorem d_RM_cut_10 : decode b_RM_cut 10 = .ok (.iload_n 2, 1) := by decide +kernel
theorem d_RM_cut_11 : decode b_RM_cut 11 = .ok (.invokevirtual 84, 3) := by decide +kernel
theorem d_RM_cut_14 : decode b_RM_cut 14 = .ok (.ifCond .eq 7, 3) := by decide +kernel
theorem d_RM_cut_17 : decode b_RM_cut 17 = .ok (.iconst 1, 1) := by decide +kernel
theorem d_RM_cut_18 : decode b_RM_cut 18 = .ok (.goto 4, 3) := by decide +kernel
theorem d_RM_cut_21 : decode b_RM_cut 21 = .ok (.iconst 0, 1) := by decide +kernel
theorem d_RM_cut_22 : decode b_RM_cut 22 = .ok (.putfield 36, 3) := by decide +kernel
theorem d_RM_cut_25 : decode b_RM_cut 25 = .ok (.aload_n 0, 1) := by decide +kernel
theorem d_RM_cut_26 : decode b_RM_cut 26 = .ok (.getfield 36, 3) := by decide +kernel
theorem d_RM_cut_29 : decode b_RM_cut 29 = .ok (.ifCond .le 7, 3) := by decide +kernel
theorem d_RM_cut_32 : decode b_RM_cut 32 = .ok (.iconst 0, 1) := by decide +kernel
theorem d_RM_cut_33 : decode b_RM_cut 33 = .ok (.goto 27, 3) := by decide +kernel
theorem d_RM_cut_36 : decode b_RM_cut 36 = .ok (.aload_n 0, 1) := by decide +kernel
theorem d_RM_cut_37 : decode b_RM_cut 37 = .ok (.getfield 45, 3) := by decide +kernel
theorem d_RM_cut_40 : decode b_RM_cut 40 = .ok (.ifCond .eq 19, 3) := by decide +kernel
theorem d_RM_cut_43 : decode b_RM_cut 43 = .ok (.aload_n 0, 1) := by decide +kernel
theorem d_RM_cut_44 : decode b_RM_cut 44 = .ok (.getfield 23, 3) := by decide +kernel
theorem d_RM_cut_47 : decode b_RM_cut 47 = .ok (.aload_n 0, 1) := by decide +kernel
theorem d_RM_cut_48 : decode b_RM_cut 48 = .ok (.getfield 30, 3) := by decide +kernel
theorem d_RM_cut_51 : decode b_RM_cut 51 = .ok (.iload_n 1, 1) := by decide +kernel
theorem d_RM_cut_52 : decode b_RM_cut 52 = .ok (.imul, 1) := by decide +kernel
theorem d_RM_cut_53 : decode b_RM_cut 53 = .ok (.iload_n 2, 1) := by decide +kernel
theorem d_RM_cut_54 : decode b_RM_cut 54 = .ok (.iadd, 1) := by decide +kernel
theorem d_RM_cut_55 : decode b_RM_cut 55 = .ok (.iaload, 1) := by decide +kernel
theorem d_RM_cut_56 : decode b_RM_cut 56 = .ok (.goto 4, 3) := by decide +kernel
theorem d_RM_cut_59 : decode b_RM_cut 59 = .ok (.iconst (-1), 1) := by decide +kernel
theorem d_RM_cut_60 : decode b_RM_cut 60 = .ok (.ireturn, 1) := by decide +kernel
theorem d_RM_noPin_0 : decode b_RM_noPin 0 = .ok (.iload_n 1, 1) := by decide +kernel
theorem d_RM_noPin_1 : decode b_RM_noPin 1 = .ok (.ifCond .lt 11, 3) := by decide +kernel
theorem d_RM_noPin_4 : decode b_RM_noPin 4 = .ok (.iload_n 1, 1) := by decide +kernel
theorem d_RM_noPin_5 : decode b_RM_noPin 5 = .ok (.aload_n 0, 1) := by decide +kernel
theorem d_RM_noPin_6 : decode b_RM_noPin 6 = .ok (.getfield 30, 3) := by decide +kernel
theorem d_RM_noPin_9 : decode b_RM_noPin 9 = .ok (.if_icmp .lt 7, 3) := by decide +kernel
theorem d_RM_noPin_12 : decode b_RM_noPin 12 = .ok (.iconst 1, 1) := by decide +kernel
theorem d_RM_noPin_13 : decode b_RM_noPin 13 = .ok (.goto 4, 3) := by decide +kernel
theorem d_RM_noPin_16 : decode b_RM_noPin 16 = .ok (.iconst 0, 1) := by decide +kernel
theorem d_RM_noPin_17 : decode b_RM_noPin 17 = .ok (.ireturn, 1) := by decide +kernel
theorem d_RM_holds_0 : decode b_RM_holds 0 = .ok (.aload_n 0, 1) := by decide +kernel
theorem d_RM_holds_1 : decode b_RM_holds 1 = .ok (.aload_n 0, 1) := by decide +kernel
theorem d_RM_holds_2 : decode b_RM_holds 2 = .ok (.iload_n 1, 1) := by decide +kernel
theorem d_RM_holds_3 : decode b_RM_holds 3 = .ok (.invokevirtual 53, 3) := by decide +kernel
theorem d_RM_holds_6 : decode b_RM_holds 6 = .ok (.ifCond .ne 19, 3) := by decide +kernel
theorem d_RM_holds_9 : decode b_RM_holds 9 = .ok (.aload_n 0, 1) := by decide +kernel
theorem d_RM_holds_10 : decode b_RM_holds 10 = .ok (.iload_n 2, 1) := by decide +kernel
theorem d_RM_holds_11 : decode b_RM_holds 11 = .ok (.invokevirtual 84, 3) := by decide +kernel
theorem d_RM_holds_14 : decode b_RM_holds 14 = .ok (.ifCond .ne 11, 3) := by decide +kernel
theorem d_RM_holds_17 : decode b_RM_holds 17 = .ok (.aload_n 0, 1) := by decide +kernel
theorem d_RM_holds_18 : decode b_RM_holds 18 = .ok (.iload_n 3, 1) := by decide +kernel
theorem d_RM_holds_19 : decode b_RM_holds 19 = .ok (.invokevirtual 60, 3) := by decide +kernel
theorem d_RM_holds_22 : decode b_RM_holds 22 = .ok (.ifCond .eq 7, 3) := by decide +kernel
theorem d_RM_holds_25 : decode b_RM_holds 25 = .ok (.iconst 1, 1) := by decide +kernel
theorem d_RM_holds_26 : decode b_RM_holds 26 = .ok (.goto 4, 3) := by decide +kernel
theorem d_RM_holds_29 : decode b_RM_holds 29 = .ok (.iconst 0, 1) := by decide +kernel
theorem d_RM_holds_30 : decode b_RM_holds 30 = .ok (.putfield 36, 3) := by decide +kernel
theorem d_RM_holds_33 : decode b_RM_holds 33 = .ok (.aload_n 0, 1) := by decide +kernel
theorem d_RM_holds_34 : decode b_RM_holds 34 = .ok (.getfield 36, 3) := by decide +kernel
theorem d_RM_holds_37 : decode b_RM_holds 37 = .ok (.ifCond .ne 28, 3) := by decide +kernel
theorem d_RM_holds_40 : decode b_RM_holds 40 = .ok (.aload_n 0, 1) := by decide +kernel
theorem d_RM_holds_41 : decode b_RM_holds 41 = .ok (.getfield 45, 3) := by decide +kernel
theorem d_RM_holds_44 : decode b_RM_holds 44 = .ok (.ifCond .eq 21, 3) := by decide +kernel
theorem d_RM_holds_47 : decode b_RM_holds 47 = .ok (.aload_n 0, 1) := by decide +kernel
theorem d_RM_holds_48 : decode b_RM_holds 48 = .ok (.aload_n 0, 1) := by decide +kernel
theorem d_RM_holds_49 : decode b_RM_holds 49 = .ok (.getfield 39, 3) := by decide +kernel
theorem d_RM_holds_52 : decode b_RM_holds 52 = .ok (.iload_n 1, 1) := by decide +kernel
theorem d_RM_holds_53 : decode b_RM_holds 53 = .ok (.iload_n 2, 1) := by decide +kernel
theorem d_RM_holds_54 : decode b_RM_holds 54 = .ok (.iload_n 3, 1) := by decide +kernel
theorem d_RM_holds_55 : decode b_RM_holds 55 = .ok (.invokevirtual 63, 3) := by decide +kernel
theorem d_RM_holds_58 : decode b_RM_holds 58 = .ok (.ifCond .eq 7, 3) := by decide +kernel
theorem d_RM_holds_61 : decode b_RM_holds 61 = .ok (.iconst 1, 1) := by decide +kernel
theorem d_RM_holds_62 : decode b_RM_holds 62 = .ok (.goto 4, 3) := by decide +kernel
theorem d_RM_holds_65 : decode b_RM_holds 65 = .ok (.iconst 0, 1) := by decide +kernel
theorem d_RM_holds_66 : decode b_RM_holds 66 = .ok (.ireturn, 1) := by decide +kernel
theorem d_RM_fits_0 : decode b_RM_fits 0 = .ok (.aload_n 0, 1) := by decide +kernel
theorem d_RM_fits_1 : decode b_RM_fits 1 = .ok (.aload_n 0, 1) := by decide +kernel
theorem d_RM_fits_2 : decode b_RM_fits 2 = .ok (.iload_n 1, 1) := by decide +kernel
theorem d_RM_fits_3 : decode b_RM_fits 3 = .ok (.invokevirtual 49, 3) := by decide +kernel
theorem d_RM_fits_6 : decode b_RM_fits 6 = .ok (.ifCond .ne 11, 3) := by decide +kernel
theorem d_RM_fits_9 : decode b_RM_fits 9 = .ok (.aload_n 0, 1) := by decide +kernel
theorem d_RM_fits_10 : decode b_RM_fits 10 = .ok (.iload_n 2, 1) := by decide +kernel
theorem d_RM_fits_11 : decode b_RM_fits 11 = .ok (.invokevirtual 53, 3) := by decide +kernel
theorem d_RM_fits_14 : decode b_RM_fits 14 = .ok (.ifCond .eq 7, 3) := by decide +kernel
theorem d_RM_fits_17 : decode b_RM_fits 17 = .ok (.iconst 1, 1) := by decide +kernel
theorem d_RM_fits_18 : decode b_RM_fits 18 = .ok (.goto 4, 3) := by decide +kernel
theorem d_RM_fits_21 : decode b_RM_fits 21 = .ok (.iconst 0, 1) := by decide +kernel
theorem d_RM_fits_22 : decode b_RM_fits 22 = .ok (.putfield 36, 3) := by decide +kernel
theorem d_RM_fits_25 : decode b_RM_fits 25 = .ok (.aload_n 0, 1) := by decide +kernel
theorem d_RM_fits_26 : decode b_RM_fits 26 = .ok (.getfield 36, 3) := by decide +kernel
theorem d_RM_fits_29 : decode b_RM_fits 29 = .ok (.ifCond .ne 27, 3) := by decide +kernel
theorem d_RM_fits_32 : decode b_RM_fits 32 = .ok (.aload_n 0, 1) := by decide +kernel
theorem d_RM_fits_33 : decode b_RM_fits 33 = .ok (.getfield 45, 3) := by decide +kernel
theorem d_RM_fits_36 : decode b_RM_fits 36 = .ok (.ifCond .eq 20, 3) := by decide +kernel
theorem d_RM_fits_39 : decode b_RM_fits 39 = .ok (.aload_n 0, 1) := by decide +kernel
theorem d_RM_fits_40 : decode b_RM_fits 40 = .ok (.aload_n 0, 1) := by decide +kernel
theorem d_RM_fits_41 : decode b_RM_fits 41 = .ok (.getfield 39, 3) := by decide +kernel
theorem d_RM_fits_44 : decode b_RM_fits 44 = .ok (.iload_n 1, 1) := by decide +kernel
theorem d_RM_fits_45 : decode b_RM_fits 45 = .ok (.iload_n 2, 1) := by decide +kernel
theorem d_RM_fits_46 : decode b_RM_fits 46 = .ok (.invokevirtual 71, 3) := by decide +kernel
theorem d_RM_fits_49 : decode b_RM_fits 49 = .ok (.ifCond .eq 7, 3) := by decide +kernel
theorem d_RM_fits_52 : decode b_RM_fits 52 = .ok (.iconst 1, 1) := by decide +kernel
theorem d_RM_fits_53 : decode b_RM_fits 53 = .ok (.goto 4, 3) := by decide +kernel
theorem d_RM_fits_56 : decode b_RM_fits 56 = .ok (.iconst 0, 1) := by decide +kernel
theorem d_RM_fits_57 : decode b_RM_fits 57 = .ok (.ireturn, 1) := by decide +kernel
theorem d_RM_wrong_0 : decode b_RM_wrong 0 = .ok (.aload_n 0, 1) := by decide +kernel
theorem d_RM_wrong_1 : decode b_RM_wrong 1 = .ok (.iconst 0, 1) := by decide +kernel
theorem d_RM_wrong_2 : decode b_RM_wrong 2 = .ok (.putfield 36, 3) := by decide +kernel
theorem d_RM_wrong_5 : decode b_RM_wrong 5 = .ok (.aload_n 0, 1) := by decide +kernel
theorem d_RM_wrong_6 : decode b_RM_wrong 6 = .ok (.getfield 45, 3) := by decide +kernel
theorem d_RM_wrong_9 : decode b_RM_wrong 9 = .ok (.ifCond .ne 5, 3) := by decide +kernel
theorem d_RM_wrong_12 : decode b_RM_wrong 12 = .ok (.iconst (-1), 1) := by decide +kernel
theorem d_RM_wrong_13 : decode b_RM_wrong 13 = .ok (.ireturn, 1) := by decide +kernel
theorem d_RM_wrong_14 : decode b_RM_wrong 14 = .ok (.iconst 0, 1) := by decide +kernel
theorem d_RM_wrong_15 : decode b_RM_wrong 15 = .ok (.istore_n 1, 1) := by decide +kernel
theorem d_RM_wrong_16 : decode b_RM_wrong 16 = .ok (.iconst 0, 1) := by decide +kernel
theorem d_RM_wrong_17 : decode b_RM_wrong 17 = .ok (.istore_n 2, 1) := by decide +kernel
theorem d_RM_wrong_18 : decode b_RM_wrong 18 = .ok (.iload_n 2, 1) := by decide +kernel
theorem d_RM_wrong_19 : decode b_RM_wrong 19 = .ok (.aload_n 0, 1) := by decide +kernel
theorem d_RM_wrong_20 : decode b_RM_wrong 20 = .ok (.getfield 39, 3) := by decide +kernel
theorem d_RM_wrong_23 : decode b_RM_wrong 23 = .ok (.if_icmp .ge 57, 3) := by decide +kernel
theorem d_RM_wrong_26 : decode b_RM_wrong 26 = .ok (.iconst 0, 1) := by decide +kernel
theorem d_RM_wrong_27 : decode b_RM_wrong 27 = .ok (.istore_n 3, 1) := by decide +kernel
theorem d_RM_wrong_28 : decode b_RM_wrong 28 = .ok (.iload_n 3, 1) := by decide +kernel
theorem d_RM_wrong_29 : decode b_RM_wrong 29 = .ok (.aload_n 0, 1) := by decide +kernel
theorem d_RM_wrong_30 : decode b_RM_wrong 30 = .ok (.getfield 42, 3) := by decide +kernel
theorem d_RM_wrong_33 : decode b_RM_wrong 33 = .ok (.if_icmp .ge 41, 3) := by decide +kernel
theorem d_RM_wrong_36 : decode b_RM_wrong 36 = .ok (.iload_n 1, 1) := by decide +kernel
theorem d_RM_wrong_37 : decode b_RM_wrong 37 = .ok (.aload_n 0, 1) := by decide +kernel
theorem d_RM_wrong_38 : decode b_RM_wrong 38 = .ok (.aload_n 0, 1) := by decide +kernel
theorem d_RM_wrong_39 : decode b_RM_wrong 39 = .ok (.getfield 39, 3) := by decide +kernel
theorem d_RM_wrong_42 : decode b_RM_wrong 42 = .ok (.iload_n 2, 1) := by decide +kernel
theorem d_RM_wrong_43 : decode b_RM_wrong 43 = .ok (.iload_n 3, 1) := by decide +kernel
theorem d_RM_wrong_44 : decode b_RM_wrong 44 = .ok (.invokevirtual 71, 3) := by decide +kernel
theorem d_RM_wrong_47 : decode b_RM_wrong 47 = .ok (.aload_n 0, 1) := by decide +kernel
theorem d_RM_wrong_48 : decode b_RM_wrong 48 = .ok (.getfield 7, 3) := by decide +kernel
theorem d_RM_wrong_51 : decode b_RM_wrong 51 = .ok (.bipush 6, 2) := by decide +kernel
theorem d_RM_wrong_53 : decode b_RM_wrong 53 = .ok (.iload_n 2, 1) := by decide +kernel
theorem d_RM_wrong_54 : decode b_RM_wrong 54 = .ok (.imul, 1) := by decide +kernel
theorem d_RM_wrong_55 : decode b_RM_wrong 55 = .ok (.iload_n 3, 1) := by decide +kernel
theorem d_RM_wrong_56 : decode b_RM_wrong 56 = .ok (.iadd, 1) := by decide +kernel
theorem d_RM_wrong_57 : decode b_RM_wrong 57 = .ok (.baload, 1) := by decide +kernel
theorem d_RM_wrong_58 : decode b_RM_wrong 58 = .ok (.if_icmp .eq 7, 3) := by decide +kernel
theorem d_RM_wrong_61 : decode b_RM_wrong 61 = .ok (.iconst 1, 1) := by decide +kernel
theorem d_RM_wrong_62 : decode b_RM_wrong 62 = .ok (.goto 4, 3) := by decide +kernel
theorem d_RM_wrong_65 : decode b_RM_wrong 65 = .ok (.iconst 0, 1) := by decide +kernel
theorem d_RM_wrong_66 : decode b_RM_wrong 66 = .ok (.iadd, 1) := by decide +kernel
theorem d_RM_wrong_67 : decode b_RM_wrong 67 = .ok (.istore_n 1, 1) := by decide +kernel
theorem d_RM_wrong_68 : decode b_RM_wrong 68 = .ok (.iinc 3 1, 3) := by decide +kernel
theorem d_RM_wrong_71 : decode b_RM_wrong 71 = .ok (.goto (-43), 3) := by decide +kernel
theorem d_RM_wrong_74 : decode b_RM_wrong 74 = .ok (.iinc 2 1, 3) := by decide +kernel
theorem d_RM_wrong_77 : decode b_RM_wrong 77 = .ok (.goto (-59), 3) := by decide +kernel
theorem d_RM_wrong_80 : decode b_RM_wrong 80 = .ok (.iload_n 1, 1) := by decide +kernel
theorem d_RM_wrong_81 : decode b_RM_wrong 81 = .ok (.ireturn, 1) := by decide +kernel
theorem d_RM_left_0 : decode b_RM_left 0 = .ok (.aload_n 0, 1) := by decide +kernel
theorem d_RM_left_1 : decode b_RM_left 1 = .ok (.aload_n 0, 1) := by decide +kernel
theorem d_RM_left_2 : decode b_RM_left 2 = .ok (.getfield 45, 3) := by decide +kernel
theorem d_RM_left_5 : decode b_RM_left 5 = .ok (.ifCond .eq 7, 3) := by decide +kernel
theorem d_RM_left_8 : decode b_RM_left 8 = .ok (.iconst 0, 1) := by decide +kernel
theorem d_RM_left_9 : decode b_RM_left 9 = .ok (.goto 4, 3) := by decide +kernel
theorem d_RM_left_12 : decode b_RM_left 12 = .ok (.iconst 1, 1) := by decide +kernel
theorem d_RM_left_13 : decode b_RM_left 13 = .ok (.putfield 36, 3) := by decide +kernel
theorem d_RM_left_16 : decode b_RM_left 16 = .ok (.iconst 0, 1) := by decide +kernel
theorem d_RM_left_17 : decode b_RM_left 17 = .ok (.istore_n 1, 1) := by decide +kernel
theorem d_RM_left_18 : decode b_RM_left 18 = .ok (.iconst 0, 1) := by decide +kernel
theorem d_RM_left_19 : decode b_RM_left 19 = .ok (.istore_n 2, 1) := by decide +kernel
theorem d_RM_left_20 : decode b_RM_left 20 = .ok (.iload_n 2, 1) := by decide +kernel
theorem d_RM_left_21 : decode b_RM_left 21 = .ok (.aload_n 0, 1) := by decide +kernel
theorem d_RM_left_22 : decode b_RM_left 22 = .ok (.invokevirtual 87, 3) := by decide +kernel
theorem d_RM_left_25 : decode b_RM_left 25 = .ok (.if_icmp .ge 39, 3) := by decide +kernel
theorem d_RM_left_28 : decode b_RM_left 28 = .ok (.aload_n 0, 1) := by decide +kernel
theorem d_RM_left_29 : decode b_RM_left 29 = .ok (.getfield 45, 3) := by decide +kernel
theorem d_RM_left_32 : decode b_RM_left 32 = .ok (.ifCond .eq 32, 3) := by decide +kernel
theorem d_RM_left_35 : decode b_RM_left 35 = .ok (.iload_n 1, 1) := by decide +kernel
theorem d_RM_left_36 : decode b_RM_left 36 = .ok (.aload_n 0, 1) := by decide +kernel
theorem d_RM_left_37 : decode b_RM_left 37 = .ok (.iload_n 2, 1) := by decide +kernel
theorem d_RM_left_38 : decode b_RM_left 38 = .ok (.invokevirtual 91, 3) := by decide +kernel
theorem d_RM_left_41 : decode b_RM_left 41 = .ok (.ifCond .eq 14, 3) := by decide +kernel
theorem d_RM_left_44 : decode b_RM_left 44 = .ok (.aload_n 0, 1) := by decide +kernel
theorem d_RM_left_45 : decode b_RM_left 45 = .ok (.invokevirtual 94, 3) := by decide +kernel
theorem d_RM_left_48 : decode b_RM_left 48 = .ok (.ifCond .ne 7, 3) := by decide +kernel
theorem d_RM_left_51 : decode b_RM_left 51 = .ok (.iconst 1, 1) := by decide +kernel
theorem d_RM_left_52 : decode b_RM_left 52 = .ok (.goto 4, 3) := by decide +kernel
theorem d_RM_left_55 : decode b_RM_left 55 = .ok (.iconst 0, 1) := by decide +kernel
theorem d_RM_left_56 : decode b_RM_left 56 = .ok (.iadd, 1) := by decide +kernel
theorem d_RM_left_57 : decode b_RM_left 57 = .ok (.istore_n 1, 1) := by decide +kernel
theorem d_RM_left_58 : decode b_RM_left 58 = .ok (.iinc 2 1, 3) := by decide +kernel
theorem d_RM_left_61 : decode b_RM_left 61 = .ok (.goto (-41), 3) := by decide +kernel
theorem d_RM_left_64 : decode b_RM_left 64 = .ok (.iload_n 1, 1) := by decide +kernel
theorem d_RM_left_65 : decode b_RM_left 65 = .ok (.ireturn, 1) := by decide +kernel
theorem d_RM_rows_0 : decode b_RM_rows 0 = .ok (.iconst 1, 1) := by decide +kernel
theorem d_RM_rows_1 : decode b_RM_rows 1 = .ok (.istore_n 1, 1) := by decide +kernel
theorem d_RM_rows_2 : decode b_RM_rows 2 = .ok (.iconst 0, 1) := by decide +kernel
theorem d_RM_rows_3 : decode b_RM_rows 3 = .ok (.istore_n 2, 1) := by decide +kernel
theorem d_RM_rows_4 : decode b_RM_rows 4 = .ok (.iload_n 2, 1) := by decide +kernel
theorem d_RM_rows_5 : decode b_RM_rows 5 = .ok (.aload_n 0, 1) := by decide +kernel
theorem d_RM_rows_6 : decode b_RM_rows 6 = .ok (.getfield 30, 3) := by decide +kernel
theorem d_RM_rows_9 : decode b_RM_rows 9 = .ok (.if_icmp .ge 16, 3) := by decide +kernel
theorem d_RM_rows_12 : decode b_RM_rows 12 = .ok (.iload_n 1, 1) := by decide +kernel
theorem d_RM_rows_13 : decode b_RM_rows 13 = .ok (.aload_n 0, 1) := by decide +kernel
theorem d_RM_rows_14 : decode b_RM_rows 14 = .ok (.getfield 33, 3) := by decide +kernel
theorem d_RM_rows_17 : decode b_RM_rows 17 = .ok (.imul, 1) := by decide +kernel
theorem d_RM_rows_18 : decode b_RM_rows 18 = .ok (.istore_n 1, 1) := by decide +kernel
theorem d_RM_rows_19 : decode b_RM_rows 19 = .ok (.iinc 2 1, 3) := by decide +kernel
theorem d_RM_rows_22 : decode b_RM_rows 22 = .ok (.goto (-18), 3) := by decide +kernel
theorem d_RM_rows_25 : decode b_RM_rows 25 = .ok (.iload_n 1, 1) := by decide +kernel
theorem d_RM_rows_26 : decode b_RM_rows 26 = .ok (.ireturn, 1) := by decide +kernel
theorem d_RM_isFree_0 : decode b_RM_isFree 0 = .ok (.iload_n 1, 1) := by decide +kernel
theorem d_RM_isFree_1 : decode b_RM_isFree 1 = .ok (.istore_n 2, 1) := by decide +kernel
theorem d_RM_isFree_2 : decode b_RM_isFree 2 = .ok (.aload_n 0, 1) := by decide +kernel
theorem d_RM_isFree_3 : decode b_RM_isFree 3 = .ok (.getfield 30, 3) := by decide +kernel
theorem d_RM_isFree_6 : decode b_RM_isFree 6 = .ok (.iconst 1, 1) := by decide +kernel
theorem d_RM_isFree_7 : decode b_RM_isFree 7 = .ok (.isub, 1) := by decide +kernel
theorem d_RM_isFree_8 : decode b_RM_isFree 8 = .ok (.istore_n 3, 1) := by decide +kernel
theorem d_RM_isFree_9 : decode b_RM_isFree 9 = .ok (.iload_n 3, 1) := by decide +kernel
theorem d_RM_isFree_10 : decode b_RM_isFree 10 = .ok (.ifCond .lt 28, 3) := by decide +kernel
theorem d_RM_isFree_13 : decode b_RM_isFree 13 = .ok (.aload_n 0, 1) := by decide +kernel
theorem d_RM_isFree_14 : decode b_RM_isFree 14 = .ok (.getfield 27, 3) := by decide +kernel
theorem d_RM_isFree_17 : decode b_RM_isFree 17 = .ok (.iload_n 3, 1) := by decide +kernel
theorem d_RM_isFree_18 : decode b_RM_isFree 18 = .ok (.iload_n 2, 1) := by decide +kernel
theorem d_RM_isFree_19 : decode b_RM_isFree 19 = .ok (.aload_n 0, 1) := by decide +kernel
theorem d_RM_isFree_20 : decode b_RM_isFree 20 = .ok (.getfield 33, 3) := by decide +kernel
theorem d_RM_isFree_23 : decode b_RM_isFree 23 = .ok (.irem, 1) := by decide +kernel
theorem d_RM_isFree_24 : decode b_RM_isFree 24 = .ok (.iastore, 1) := by decide +kernel
theorem d_RM_isFree_25 : decode b_RM_isFree 25 = .ok (.iload_n 2, 1) := by decide +kernel
theorem d_RM_isFree_26 : decode b_RM_isFree 26 = .ok (.aload_n 0, 1) := by decide +kernel
theorem d_RM_isFree_27 : decode b_RM_isFree 27 = .ok (.getfield 33, 3) := by decide +kernel
theorem d_RM_isFree_30 : decode b_RM_isFree 30 = .ok (.idiv, 1) := by decide +kernel
theorem d_RM_isFree_31 : decode b_RM_isFree 31 = .ok (.istore_n 2, 1) := by decide +kernel
theorem d_RM_isFree_32 : decode b_RM_isFree 32 = .ok (.iinc 3 (-1), 3) := by decide +kernel
theorem d_RM_isFree_35 : decode b_RM_isFree 35 = .ok (.goto (-26), 3) := by decide +kernel
theorem d_RM_isFree_38 : decode b_RM_isFree 38 = .ok (.iconst 1, 1) := by decide +kernel
theorem d_RM_isFree_39 : decode b_RM_isFree 39 = .ok (.istore_n 3, 1) := by decide +kernel
theorem d_RM_isFree_40 : decode b_RM_isFree 40 = .ok (.iconst 1, 1) := by decide +kernel
theorem d_RM_isFree_41 : decode b_RM_isFree 41 = .ok (.istore 4, 2) := by decide +kernel
theorem d_RM_isFree_43 : decode b_RM_isFree 43 = .ok (.iload 4, 2) := by decide +kernel
theorem d_RM_isFree_45 : decode b_RM_isFree 45 = .ok (.aload_n 0, 1) := by decide +kernel
theorem d_RM_isFree_46 : decode b_RM_isFree 46 = .ok (.getfield 30, 3) := by decide +kernel
theorem d_RM_isFree_49 : decode b_RM_isFree 49 = .ok (.if_icmp .ge 42, 3) := by decide +kernel
theorem d_RM_isFree_52 : decode b_RM_isFree 52 = .ok (.iload_n 3, 1) := by decide +kernel
theorem d_RM_isFree_53 : decode b_RM_isFree 53 = .ok (.ifCond .eq 30, 3) := by decide +kernel
theorem d_RM_isFree_56 : decode b_RM_isFree 56 = .ok (.aload_n 0, 1) := by decide +kernel
theorem d_RM_isFree_57 : decode b_RM_isFree 57 = .ok (.aload_n 0, 1) := by decide +kernel
theorem d_RM_isFree_58 : decode b_RM_isFree 58 = .ok (.getfield 27, 3) := by decide +kernel
theorem d_RM_isFree_61 : decode b_RM_isFree 61 = .ok (.iload 4, 2) := by decide +kernel
theorem d_RM_isFree_63 : decode b_RM_isFree 63 = .ok (.iconst 1, 1) := by decide +kernel
theorem d_RM_isFree_64 : decode b_RM_isFree 64 = .ok (.isub, 1) := by decide +kernel
theorem d_RM_isFree_65 : decode b_RM_isFree 65 = .ok (.iaload, 1) := by decide +kernel
theorem d_RM_isFree_66 : decode b_RM_isFree 66 = .ok (.aload_n 0, 1) := by decide +kernel
theorem d_RM_isFree_67 : decode b_RM_isFree 67 = .ok (.getfield 27, 3) := by decide +kernel
theorem d_RM_isFree_70 : decode b_RM_isFree 70 = .ok (.iload 4, 2) := by decide +kernel
theorem d_RM_isFree_72 : decode b_RM_isFree 72 = .ok (.iaload, 1) := by decide +kernel
theorem d_RM_isFree_73 : decode b_RM_isFree 73 = .ok (.invokevirtual 78, 3) := by decide +kernel
theorem d_RM_isFree_76 : decode b_RM_isFree 76 = .ok (.ifCond .eq 7, 3) := by decide +kernel
theorem d_RM_isFree_79 : decode b_RM_isFree 79 = .ok (.iconst 1, 1) := by decide +kernel
theorem d_RM_isFree_80 : decode b_RM_isFree 80 = .ok (.goto 4, 3) := by decide +kernel
theorem d_RM_isFree_83 : decode b_RM_isFree 83 = .ok (.iconst 0, 1) := by decide +kernel
theorem d_RM_isFree_84 : decode b_RM_isFree 84 = .ok (.istore_n 3, 1) := by decide +kernel
theorem d_RM_isFree_85 : decode b_RM_isFree 85 = .ok (.iinc 4 1, 3) := by decide +kernel
theorem d_RM_isFree_88 : decode b_RM_isFree 88 = .ok (.goto (-45), 3) := by decide +kernel
theorem d_RM_isFree_91 : decode b_RM_isFree 91 = .ok (.iconst 0, 1) := by decide +kernel
theorem d_RM_isFree_92 : decode b_RM_isFree 92 = .ok (.istore 4, 2) := by decide +kernel
theorem d_RM_isFree_94 : decode b_RM_isFree 94 = .ok (.iload 4, 2) := by decide +kernel
theorem d_RM_isFree_96 : decode b_RM_isFree 96 = .ok (.aload_n 0, 1) := by decide +kernel
theorem d_RM_isFree_97 : decode b_RM_isFree 97 = .ok (.getfield 39, 3) := by decide +kernel
theorem d_RM_isFree_100 : decode b_RM_isFree 100 = .ok (.if_icmp .ge 82, 3) := by decide +kernel
theorem d_RM_isFree_103 : decode b_RM_isFree 103 = .ok (.iload_n 3, 1) := by decide +kernel
theorem d_RM_isFree_104 : decode b_RM_isFree 104 = .ok (.ifCond .eq 78, 3) := by decide +kernel
theorem d_RM_isFree_107 : decode b_RM_isFree 107 = .ok (.iconst 1, 1) := by decide +kernel
theorem d_RM_isFree_108 : decode b_RM_isFree 108 = .ok (.istore 5, 2) := by decide +kernel
theorem d_RM_isFree_110 : decode b_RM_isFree 110 = .ok (.iconst 0, 1) := by decide +kernel
theorem d_RM_isFree_111 : decode b_RM_isFree 111 = .ok (.istore 6, 2) := by decide +kernel
theorem d_RM_isFree_113 : decode b_RM_isFree 113 = .ok (.iload 6, 2) := by decide +kernel
theorem d_RM_isFree_115 : decode b_RM_isFree 115 = .ok (.aload_n 0, 1) := by decide +kernel
theorem d_RM_isFree_116 : decode b_RM_isFree 116 = .ok (.getfield 30, 3) := by decide +kernel
theorem d_RM_isFree_119 : decode b_RM_isFree 119 = .ok (.if_icmp .ge 46, 3) := by decide +kernel
theorem d_RM_isFree_122 : decode b_RM_isFree 122 = .ok (.iload 5, 2) := by decide +kernel
theorem d_RM_isFree_124 : decode b_RM_isFree 124 = .ok (.ifCond .eq 32, 3) := by decide +kernel
theorem d_RM_isFree_127 : decode b_RM_isFree 127 = .ok (.aload_n 0, 1) := by decide +kernel
theorem d_RM_isFree_128 : decode b_RM_isFree 128 = .ok (.getfield 23, 3) := by decide +kernel
theorem d_RM_isFree_131 : decode b_RM_isFree 131 = .ok (.aload_n 0, 1) := by decide +kernel
theorem d_RM_isFree_132 : decode b_RM_isFree 132 = .ok (.getfield 30, 3) := by decide +kernel
theorem d_RM_isFree_135 : decode b_RM_isFree 135 = .ok (.iload 4, 2) := by decide +kernel
theorem d_RM_isFree_137 : decode b_RM_isFree 137 = .ok (.imul, 1) := by decide +kernel
theorem d_RM_isFree_138 : decode b_RM_isFree 138 = .ok (.iload 6, 2) := by decide +kernel
theorem d_RM_isFree_140 : decode b_RM_isFree 140 = .ok (.iadd, 1) := by decide +kernel
theorem d_RM_isFree_141 : decode b_RM_isFree 141 = .ok (.iaload, 1) := by decide +kernel
theorem d_RM_isFree_142 : decode b_RM_isFree 142 = .ok (.aload_n 0, 1) := by decide +kernel
theorem d_RM_isFree_143 : decode b_RM_isFree 143 = .ok (.getfield 27, 3) := by decide +kernel
theorem d_RM_isFree_146 : decode b_RM_isFree 146 = .ok (.iload 6, 2) := by decide +kernel
theorem d_RM_isFree_148 : decode b_RM_isFree 148 = .ok (.iaload, 1) := by decide +kernel
theorem d_RM_isFree_149 : decode b_RM_isFree 149 = .ok (.if_icmp .ne 7, 3) := by decide +kernel
theorem d_RM_isFree_152 : decode b_RM_isFree 152 = .ok (.iconst 1, 1) := by decide +kernel
theorem d_RM_isFree_153 : decode b_RM_isFree 153 = .ok (.goto 4, 3) := by decide +kernel
theorem d_RM_isFree_156 : decode b_RM_isFree 156 = .ok (.iconst 0, 1) := by decide +kernel
theorem d_RM_isFree_157 : decode b_RM_isFree 157 = .ok (.istore 5, 2) := by decide +kernel
theorem d_RM_isFree_159 : decode b_RM_isFree 159 = .ok (.iinc 6 1, 3) := by decide +kernel
theorem d_RM_isFree_162 : decode b_RM_isFree 162 = .ok (.goto (-49), 3) := by decide +kernel
theorem d_RM_isFree_165 : decode b_RM_isFree 165 = .ok (.iload 5, 2) := by decide +kernel
theorem d_RM_isFree_167 : decode b_RM_isFree 167 = .ok (.ifCond .ne 7, 3) := by decide +kernel
theorem d_RM_isFree_170 : decode b_RM_isFree 170 = .ok (.iconst 1, 1) := by decide +kernel
theorem d_RM_isFree_171 : decode b_RM_isFree 171 = .ok (.goto 4, 3) := by decide +kernel
theorem d_RM_isFree_174 : decode b_RM_isFree 174 = .ok (.iconst 0, 1) := by decide +kernel
theorem d_RM_isFree_175 : decode b_RM_isFree 175 = .ok (.istore_n 3, 1) := by decide +kernel
theorem d_RM_isFree_176 : decode b_RM_isFree 176 = .ok (.iinc 4 1, 3) := by decide +kernel
theorem d_RM_isFree_179 : decode b_RM_isFree 179 = .ok (.goto (-85), 3) := by decide +kernel
theorem d_RM_isFree_182 : decode b_RM_isFree 182 = .ok (.iload_n 3, 1) := by decide +kernel
theorem d_RM_isFree_183 : decode b_RM_isFree 183 = .ok (.ireturn, 1) := by decide +kernel
theorem d_RM_doorsOfRow_0 : decode b_RM_doorsOfRow 0 = .ok (.iconst 0, 1) := by decide +kernel
theorem d_RM_doorsOfRow_1 : decode b_RM_doorsOfRow 1 = .ok (.istore_n 1, 1) := by decide +kernel
theorem d_RM_doorsOfRow_2 : decode b_RM_doorsOfRow 2 = .ok (.iconst 0, 1) := by decide +kernel
theorem d_RM_doorsOfRow_3 : decode b_RM_doorsOfRow 3 = .ok (.istore_n 2, 1) := by decide +kernel
theorem d_RM_doorsOfRow_4 : decode b_RM_doorsOfRow 4 = .ok (.iload_n 2, 1) := by decide +kernel
theorem d_RM_doorsOfRow_5 : decode b_RM_doorsOfRow 5 = .ok (.aload_n 0, 1) := by decide +kernel
theorem d_RM_doorsOfRow_6 : decode b_RM_doorsOfRow 6 = .ok (.getfield 42, 3) := by decide +kernel
theorem d_RM_doorsOfRow_9 : decode b_RM_doorsOfRow 9 = .ok (.if_icmp .ge 66, 3) := by decide +kernel
theorem d_RM_doorsOfRow_12 : decode b_RM_doorsOfRow 12 = .ok (.iconst 1, 1) := by decide +kernel
theorem d_RM_doorsOfRow_13 : decode b_RM_doorsOfRow 13 = .ok (.istore_n 3, 1) := by decide +kernel
theorem d_RM_doorsOfRow_14 : decode b_RM_doorsOfRow 14 = .ok (.iconst 0, 1) := by decide +kernel
theorem d_RM_doorsOfRow_15 : decode b_RM_doorsOfRow 15 = .ok (.istore 4, 2) := by decide +kernel
theorem d_RM_doorsOfRow_17 : decode b_RM_doorsOfRow 17 = .ok (.iload 4, 2) := by decide +kernel
theorem d_RM_doorsOfRow_19 : decode b_RM_doorsOfRow 19 = .ok (.aload_n 0, 1) := by decide +kernel
theorem d_RM_doorsOfRow_20 : decode b_RM_doorsOfRow 20 = .ok (.getfield 30, 3) := by decide +kernel
theorem d_RM_doorsOfRow_23 : decode b_RM_doorsOfRow 23 = .ok (.if_icmp .ge 32, 3) := by decide +kernel
theorem d_RM_doorsOfRow_26 : decode b_RM_doorsOfRow 26 = .ok (.iload_n 3, 1) := by decide +kernel
theorem d_RM_doorsOfRow_27 : decode b_RM_doorsOfRow 27 = .ok (.ifCond .eq 28, 3) := by decide +kernel
theorem d_RM_doorsOfRow_30 : decode b_RM_doorsOfRow 30 = .ok (.aload_n 0, 1) := by decide +kernel
theorem d_RM_doorsOfRow_31 : decode b_RM_doorsOfRow 31 = .ok (.aload_n 0, 1) := by decide +kernel
theorem d_RM_doorsOfRow_32 : decode b_RM_doorsOfRow 32 = .ok (.getfield 39, 3) := by decide +kernel
theorem d_RM_doorsOfRow_35 : decode b_RM_doorsOfRow 35 = .ok (.iload_n 2, 1) := by decide +kernel
theorem d_RM_doorsOfRow_36 : decode b_RM_doorsOfRow 36 = .ok (.iload 4, 2) := by decide +kernel
theorem d_RM_doorsOfRow_38 : decode b_RM_doorsOfRow 38 = .ok (.aload_n 0, 1) := by decide +kernel
theorem d_RM_doorsOfRow_39 : decode b_RM_doorsOfRow 39 = .ok (.getfield 27, 3) := by decide +kernel
theorem d_RM_doorsOfRow_42 : decode b_RM_doorsOfRow 42 = .ok (.iload 4, 2) := by decide +kernel
theorem d_RM_doorsOfRow_44 : decode b_RM_doorsOfRow 44 = .ok (.iaload, 1) := by decide +kernel
theorem d_RM_doorsOfRow_45 : decode b_RM_doorsOfRow 45 = .ok (.invokevirtual 63, 3) := by decide +kernel
theorem d_RM_doorsOfRow_48 : decode b_RM_doorsOfRow 48 = .ok (.istore_n 3, 1) := by decide +kernel
theorem d_RM_doorsOfRow_49 : decode b_RM_doorsOfRow 49 = .ok (.iinc 4 1, 3) := by decide +kernel
theorem d_RM_doorsOfRow_52 : decode b_RM_doorsOfRow 52 = .ok (.goto (-35), 3) := by decide +kernel
theorem d_RM_doorsOfRow_55 : decode b_RM_doorsOfRow 55 = .ok (.iload_n 1, 1) := by decide +kernel
theorem d_RM_doorsOfRow_56 : decode b_RM_doorsOfRow 56 = .ok (.iload_n 3, 1) := by decide +kernel
theorem d_RM_doorsOfRow_57 : decode b_RM_doorsOfRow 57 = .ok (.ifCond .eq 9, 3) := by decide +kernel
theorem d_RM_doorsOfRow_60 : decode b_RM_doorsOfRow 60 = .ok (.iconst 1, 1) := by decide +kernel
theorem d_RM_doorsOfRow_61 : decode b_RM_doorsOfRow 61 = .ok (.iload_n 2, 1) := by decide +kernel
theorem d_RM_doorsOfRow_62 : decode b_RM_doorsOfRow 62 = .ok (.ishl, 1) := by decide +kernel
theorem d_RM_doorsOfRow_63 : decode b_RM_doorsOfRow 63 = .ok (.goto 4, 3) := by decide +kernel
theorem d_RM_doorsOfRow_66 : decode b_RM_doorsOfRow 66 = .ok (.iconst 0, 1) := by decide +kernel
theorem d_RM_doorsOfRow_67 : decode b_RM_doorsOfRow 67 = .ok (.ior, 1) := by decide +kernel
theorem d_RM_doorsOfRow_68 : decode b_RM_doorsOfRow 68 = .ok (.istore_n 1, 1) := by decide +kernel
theorem d_RM_doorsOfRow_69 : decode b_RM_doorsOfRow 69 = .ok (.iinc 2 1, 3) := by decide +kernel
theorem d_RM_doorsOfRow_72 : decode b_RM_doorsOfRow 72 = .ok (.goto (-68), 3) := by decide +kernel
theorem d_RM_doorsOfRow_75 : decode b_RM_doorsOfRow 75 = .ok (.iload_n 1, 1) := by decide +kernel
theorem d_RM_doorsOfRow_76 : decode b_RM_doorsOfRow 76 = .ok (.ireturn, 1) := by decide +kernel
theorem d_RM_add_0 : decode b_RM_add 0 = .ok (.aload_n 0, 1) := by decide +kernel
theorem d_RM_add_1 : decode b_RM_add 1 = .ok (.iload_n 1, 1) := by decide +kernel
theorem d_RM_add_2 : decode b_RM_add 2 = .ok (.ifCond .lt 13, 3) := by decide +kernel
theorem d_RM_add_5 : decode b_RM_add 5 = .ok (.iload_n 1, 1) := by decide +kernel
theorem d_RM_add_6 : decode b_RM_add 6 = .ok (.iconst 1, 1) := by decide +kernel
theorem d_RM_add_7 : decode b_RM_add 7 = .ok (.aload_n 0, 1) := by decide +kernel
theorem d_RM_add_8 : decode b_RM_add 8 = .ok (.getfield 42, 3) := by decide +kernel
theorem d_RM_add_11 : decode b_RM_add 11 = .ok (.ishl, 1) := by decide +kernel
theorem d_RM_add_12 : decode b_RM_add 12 = .ok (.if_icmp .lt 7, 3) := by decide +kernel
theorem d_RM_add_15 : decode b_RM_add 15 = .ok (.iconst 1, 1) := by decide +kernel
theorem d_RM_add_16 : decode b_RM_add 16 = .ok (.goto 24, 3) := by decide +kernel
theorem d_RM_add_19 : decode b_RM_add 19 = .ok (.aload_n 0, 1) := by decide +kernel
theorem d_RM_add_20 : decode b_RM_add 20 = .ok (.getfield 45, 3) := by decide +kernel
theorem d_RM_add_23 : decode b_RM_add 23 = .ok (.ifCond .eq 12, 3) := by decide +kernel
theorem d_RM_add_26 : decode b_RM_add 26 = .ok (.aload_n 0, 1) := by decide +kernel
theorem d_RM_add_27 : decode b_RM_add 27 = .ok (.getfield 39, 3) := by decide +kernel
theorem d_RM_add_30 : decode b_RM_add 30 = .ok (.bipush 8, 2) := by decide +kernel
theorem d_RM_add_32 : decode b_RM_add 32 = .ok (.if_icmp .ne 7, 3) := by decide +kernel
theorem d_RM_add_35 : decode b_RM_add 35 = .ok (.iconst 2, 1) := by decide +kernel
theorem d_RM_add_36 : decode b_RM_add 36 = .ok (.goto 4, 3) := by decide +kernel
theorem d_RM_add_39 : decode b_RM_add 39 = .ok (.iconst 0, 1) := by decide +kernel
theorem d_RM_add_40 : decode b_RM_add 40 = .ok (.putfield 36, 3) := by decide +kernel
theorem d_RM_add_43 : decode b_RM_add 43 = .ok (.aload_n 0, 1) := by decide +kernel
theorem d_RM_add_44 : decode b_RM_add 44 = .ok (.getfield 36, 3) := by decide +kernel
theorem d_RM_add_47 : decode b_RM_add 47 = .ok (.ifCond .le 5, 3) := by decide +kernel
theorem d_RM_add_50 : decode b_RM_add 50 = .ok (.iconst 0, 1) := by decide +kernel
theorem d_RM_add_51 : decode b_RM_add 51 = .ok (.ireturn, 1) := by decide +kernel
theorem d_RM_add_52 : decode b_RM_add 52 = .ok (.aload_n 0, 1) := by decide +kernel
theorem d_RM_add_53 : decode b_RM_add 53 = .ok (.invokevirtual 87, 3) := by decide +kernel
theorem d_RM_add_56 : decode b_RM_add 56 = .ok (.istore_n 2, 1) := by decide +kernel
theorem d_RM_add_57 : decode b_RM_add 57 = .ok (.iconst 0, 1) := by decide +kernel
theorem d_RM_add_58 : decode b_RM_add 58 = .ok (.istore_n 3, 1) := by decide +kernel
theorem d_RM_add_59 : decode b_RM_add 59 = .ok (.iload_n 3, 1) := by decide +kernel
theorem d_RM_add_60 : decode b_RM_add 60 = .ok (.iload_n 2, 1) := by decide +kernel
theorem d_RM_add_61 : decode b_RM_add 61 = .ok (.if_icmp .ge 130, 3) := by decide +kernel
theorem d_RM_add_64 : decode b_RM_add 64 = .ok (.aload_n 0, 1) := by decide +kernel
theorem d_RM_add_65 : decode b_RM_add 65 = .ok (.iload_n 3, 1) := by decide +kernel
theorem d_RM_add_66 : decode b_RM_add 66 = .ok (.invokevirtual 91, 3) := by decide +kernel
theorem d_RM_add_69 : decode b_RM_add 69 = .ok (.ifCond .eq 116, 3) := by decide +kernel
theorem d_RM_add_72 : decode b_RM_add 72 = .ok (.aload_n 0, 1) := by decide +kernel
theorem d_RM_add_73 : decode b_RM_add 73 = .ok (.invokevirtual 94, 3) := by decide +kernel
theorem d_RM_add_76 : decode b_RM_add 76 = .ok (.iload_n 1, 1) := by decide +kernel
theorem d_RM_add_77 : decode b_RM_add 77 = .ok (.if_icmp .ne 108, 3) := by decide +kernel
theorem d_RM_add_80 : decode b_RM_add 80 = .ok (.iconst 0, 1) := by decide +kernel
theorem d_RM_add_81 : decode b_RM_add 81 = .ok (.istore 4, 2) := by decide +kernel
theorem d_RM_add_83 : decode b_RM_add 83 = .ok (.iload 4, 2) := by decide +kernel
theorem d_RM_add_85 : decode b_RM_add 85 = .ok (.aload_n 0, 1) := by decide +kernel
theorem d_RM_add_86 : decode b_RM_add 86 = .ok (.getfield 30, 3) := by decide +kernel
theorem d_RM_add_89 : decode b_RM_add 89 = .ok (.if_icmp .ge 33, 3) := by decide +kernel
theorem d_RM_add_92 : decode b_RM_add 92 = .ok (.aload_n 0, 1) := by decide +kernel
theorem d_RM_add_93 : decode b_RM_add 93 = .ok (.getfield 23, 3) := by decide +kernel
theorem d_RM_add_96 : decode b_RM_add 96 = .ok (.aload_n 0, 1) := by decide +kernel
theorem d_RM_add_97 : decode b_RM_add 97 = .ok (.getfield 30, 3) := by decide +kernel
theorem d_RM_add_100 : decode b_RM_add 100 = .ok (.aload_n 0, 1) := by decide +kernel
theorem d_RM_add_101 : decode b_RM_add 101 = .ok (.getfield 39, 3) := by decide +kernel
theorem d_RM_add_104 : decode b_RM_add 104 = .ok (.imul, 1) := by decide +kernel
theorem d_RM_add_105 : decode b_RM_add 105 = .ok (.iload 4, 2) := by decide +kernel
theorem d_RM_add_107 : decode b_RM_add 107 = .ok (.iadd, 1) := by decide +kernel
theorem d_RM_add_108 : decode b_RM_add 108 = .ok (.aload_n 0, 1) := by decide +kernel
theorem d_RM_add_109 : decode b_RM_add 109 = .ok (.getfield 27, 3) := by decide +kernel
theorem d_RM_add_112 : decode b_RM_add 112 = .ok (.iload 4, 2) := by decide +kernel
theorem d_RM_add_114 : decode b_RM_add 114 = .ok (.iaload, 1) := by decide +kernel
theorem d_RM_add_115 : decode b_RM_add 115 = .ok (.iastore, 1) := by decide +kernel
theorem d_RM_add_116 : decode b_RM_add 116 = .ok (.iinc 4 1, 3) := by decide +kernel
theorem d_RM_add_119 : decode b_RM_add 119 = .ok (.goto (-36), 3) := by decide +kernel
theorem d_RM_add_122 : decode b_RM_add 122 = .ok (.iconst 0, 1) := by decide +kernel
theorem d_RM_add_123 : decode b_RM_add 123 = .ok (.istore 4, 2) := by decide +kernel
theorem d_RM_add_125 : decode b_RM_add 125 = .ok (.iload 4, 2) := by decide +kernel
theorem d_RM_add_127 : decode b_RM_add 127 = .ok (.bipush 6, 2) := by decide +kernel
theorem d_RM_add_129 : decode b_RM_add 129 = .ok (.if_icmp .ge 39, 3) := by decide +kernel
theorem d_RM_add_132 : decode b_RM_add 132 = .ok (.aload_n 0, 1) := by decide +kernel
theorem d_RM_add_133 : decode b_RM_add 133 = .ok (.getfield 7, 3) := by decide +kernel
theorem d_RM_add_136 : decode b_RM_add 136 = .ok (.bipush 6, 2) := by decide +kernel
theorem d_RM_add_138 : decode b_RM_add 138 = .ok (.aload_n 0, 1) := by decide +kernel
theorem d_RM_add_139 : decode b_RM_add 139 = .ok (.getfield 39, 3) := by decide +kernel
theorem d_RM_add_142 : decode b_RM_add 142 = .ok (.imul, 1) := by decide +kernel
theorem d_RM_add_143 : decode b_RM_add 143 = .ok (.iload 4, 2) := by decide +kernel
theorem d_RM_add_145 : decode b_RM_add 145 = .ok (.iadd, 1) := by decide +kernel
theorem d_RM_add_146 : decode b_RM_add 146 = .ok (.iload_n 1, 1) := by decide +kernel
theorem d_RM_add_147 : decode b_RM_add 147 = .ok (.iload 4, 2) := by decide +kernel
theorem d_RM_add_149 : decode b_RM_add 149 = .ok (.ishr, 1) := by decide +kernel
theorem d_RM_add_150 : decode b_RM_add 150 = .ok (.iconst 1, 1) := by decide +kernel
theorem d_RM_add_151 : decode b_RM_add 151 = .ok (.iand, 1) := by decide +kernel
theorem d_RM_add_152 : decode b_RM_add 152 = .ok (.iconst 1, 1) := by decide +kernel
theorem d_RM_add_153 : decode b_RM_add 153 = .ok (.if_icmp .ne 7, 3) := by decide +kernel
theorem d_RM_add_156 : decode b_RM_add 156 = .ok (.iconst 1, 1) := by decide +kernel
theorem d_RM_add_157 : decode b_RM_add 157 = .ok (.goto 4, 3) := by decide +kernel
theorem d_RM_add_160 : decode b_RM_add 160 = .ok (.iconst 0, 1) := by decide +kernel
theorem d_RM_add_161 : decode b_RM_add 161 = .ok (.bastore, 1) := by decide +kernel
theorem d_RM_add_162 : decode b_RM_add 162 = .ok (.iinc 4 1, 3) := by decide +kernel
theorem d_RM_add_165 : decode b_RM_add 165 = .ok (.goto (-40), 3) := by decide +kernel
theorem d_RM_add_168 : decode b_RM_add 168 = .ok (.aload_n 0, 1) := by decide +kernel
theorem d_RM_add_169 : decode b_RM_add 169 = .ok (.dup, 1) := by decide +kernel
theorem d_RM_add_170 : decode b_RM_add 170 = .ok (.getfield 39, 3) := by decide +kernel
theorem d_RM_add_173 : decode b_RM_add 173 = .ok (.iconst 1, 1) := by decide +kernel
theorem d_RM_add_174 : decode b_RM_add 174 = .ok (.iadd, 1) := by decide +kernel
theorem d_RM_add_175 : decode b_RM_add 175 = .ok (.putfield 39, 3) := by decide +kernel
theorem d_RM_add_178 : decode b_RM_add 178 = .ok (.aload_n 0, 1) := by decide +kernel
theorem d_RM_add_179 : decode b_RM_add 179 = .ok (.getfield 39, 3) := by decide +kernel
theorem d_RM_add_182 : decode b_RM_add 182 = .ok (.iconst 1, 1) := by decide +kernel
theorem d_RM_add_183 : decode b_RM_add 183 = .ok (.isub, 1) := by decide +kernel
theorem d_RM_add_184 : decode b_RM_add 184 = .ok (.ireturn, 1) := by decide +kernel
theorem d_RM_add_185 : decode b_RM_add 185 = .ok (.iinc 3 1, 3) := by decide +kernel
theorem d_RM_add_188 : decode b_RM_add 188 = .ok (.goto (-129), 3) := by decide +kernel
theorem d_RM_add_191 : decode b_RM_add 191 = .ok (.iconst (-1), 1) := by decide +kernel
theorem d_RM_add_192 : decode b_RM_add 192 = .ok (.ireturn, 1) := by decide +kernel
theorem d_RM_heirs_0 : decode b_RM_heirs 0 = .ok (.aload_n 0, 1) := by decide +kernel
theorem d_RM_heirs_1 : decode b_RM_heirs 1 = .ok (.aload_n 0, 1) := by decide +kernel
theorem d_RM_heirs_2 : decode b_RM_heirs 2 = .ok (.iload_n 1, 1) := by decide +kernel
theorem d_RM_heirs_3 : decode b_RM_heirs 3 = .ok (.invokevirtual 49, 3) := by decide +kernel
theorem d_RM_heirs_6 : decode b_RM_heirs 6 = .ok (.ifCond .eq 7, 3) := by decide +kernel
theorem d_RM_heirs_9 : decode b_RM_heirs 9 = .ok (.iconst 1, 1) := by decide +kernel
theorem d_RM_heirs_10 : decode b_RM_heirs 10 = .ok (.goto 15, 3) := by decide +kernel
theorem d_RM_heirs_13 : decode b_RM_heirs 13 = .ok (.aload_n 0, 1) := by decide +kernel
theorem d_RM_heirs_14 : decode b_RM_heirs 14 = .ok (.getfield 45, 3) := by decide +kernel
theorem d_RM_heirs_17 : decode b_RM_heirs 17 = .ok (.ifCond .ne 7, 3) := by decide +kernel
theorem d_RM_heirs_20 : decode b_RM_heirs 20 = .ok (.iconst 2, 1) := by decide +kernel
theorem d_RM_heirs_21 : decode b_RM_heirs 21 = .ok (.goto 4, 3) := by decide +kernel
theorem d_RM_heirs_24 : decode b_RM_heirs 24 = .ok (.iconst 0, 1) := by decide +kernel
theorem d_RM_heirs_25 : decode b_RM_heirs 25 = .ok (.putfield 36, 3) := by decide +kernel
theorem d_RM_heirs_28 : decode b_RM_heirs 28 = .ok (.aload_n 0, 1) := by decide +kernel
theorem d_RM_heirs_29 : decode b_RM_heirs 29 = .ok (.getfield 36, 3) := by decide +kernel
theorem d_RM_heirs_32 : decode b_RM_heirs 32 = .ok (.ifCond .le 5, 3) := by decide +kernel
theorem d_RM_heirs_35 : decode b_RM_heirs 35 = .ok (.iconst 0, 1) := by decide +kernel
theorem d_RM_heirs_36 : decode b_RM_heirs 36 = .ok (.ireturn, 1) := by decide +kernel
theorem d_RM_heirs_37 : decode b_RM_heirs 37 = .ok (.iconst 0, 1) := by decide +kernel
theorem d_RM_heirs_38 : decode b_RM_heirs 38 = .ok (.istore_n 2, 1) := by decide +kernel
theorem d_RM_heirs_39 : decode b_RM_heirs 39 = .ok (.iconst 0, 1) := by decide +kernel
theorem d_RM_heirs_40 : decode b_RM_heirs 40 = .ok (.istore_n 3, 1) := by decide +kernel
theorem d_RM_heirs_41 : decode b_RM_heirs 41 = .ok (.iload_n 3, 1) := by decide +kernel
theorem d_RM_heirs_42 : decode b_RM_heirs 42 = .ok (.aload_n 0, 1) := by decide +kernel
theorem d_RM_heirs_43 : decode b_RM_heirs 43 = .ok (.getfield 39, 3) := by decide +kernel
theorem d_RM_heirs_46 : decode b_RM_heirs 46 = .ok (.if_icmp .ge 94, 3) := by decide +kernel
theorem d_RM_heirs_49 : decode b_RM_heirs 49 = .ok (.iload_n 3, 1) := by decide +kernel
theorem d_RM_heirs_50 : decode b_RM_heirs 50 = .ok (.iload_n 1, 1) := by decide +kernel
theorem d_RM_heirs_51 : decode b_RM_heirs 51 = .ok (.if_icmp .eq 7, 3) := by decide +kernel
theorem d_RM_heirs_54 : decode b_RM_heirs 54 = .ok (.iconst 1, 1) := by decide +kernel
theorem d_RM_heirs_55 : decode b_RM_heirs 55 = .ok (.goto 4, 3) := by decide +kernel
theorem d_RM_heirs_58 : decode b_RM_heirs 58 = .ok (.iconst 0, 1) := by decide +kernel
theorem d_RM_heirs_59 : decode b_RM_heirs 59 = .ok (.istore 4, 2) := by decide +kernel
theorem d_RM_heirs_61 : decode b_RM_heirs 61 = .ok (.iconst 0, 1) := by decide +kernel
theorem d_RM_heirs_62 : decode b_RM_heirs 62 = .ok (.istore 5, 2) := by decide +kernel
theorem d_RM_heirs_64 : decode b_RM_heirs 64 = .ok (.iload 5, 2) := by decide +kernel
theorem d_RM_heirs_66 : decode b_RM_heirs 66 = .ok (.aload_n 0, 1) := by decide +kernel
theorem d_RM_heirs_67 : decode b_RM_heirs 67 = .ok (.getfield 42, 3) := by decide +kernel
theorem d_RM_heirs_70 : decode b_RM_heirs 70 = .ok (.if_icmp .ge 49, 3) := by decide +kernel
theorem d_RM_heirs_73 : decode b_RM_heirs 73 = .ok (.iload 4, 2) := by decide +kernel
theorem d_RM_heirs_75 : decode b_RM_heirs 75 = .ok (.ifCond .eq 35, 3) := by decide +kernel
theorem d_RM_heirs_78 : decode b_RM_heirs 78 = .ok (.aload_n 0, 1) := by decide +kernel
theorem d_RM_heirs_79 : decode b_RM_heirs 79 = .ok (.aload_n 0, 1) := by decide +kernel
theorem d_RM_heirs_80 : decode b_RM_heirs 80 = .ok (.getfield 39, 3) := by decide +kernel
theorem d_RM_heirs_83 : decode b_RM_heirs 83 = .ok (.iload_n 1, 1) := by decide +kernel
theorem d_RM_heirs_84 : decode b_RM_heirs 84 = .ok (.iload 5, 2) := by decide +kernel
theorem d_RM_heirs_86 : decode b_RM_heirs 86 = .ok (.invokevirtual 71, 3) := by decide +kernel
theorem d_RM_heirs_89 : decode b_RM_heirs 89 = .ok (.ifCond .eq 17, 3) := by decide +kernel
theorem d_RM_heirs_92 : decode b_RM_heirs 92 = .ok (.aload_n 0, 1) := by decide +kernel
theorem d_RM_heirs_93 : decode b_RM_heirs 93 = .ok (.aload_n 0, 1) := by decide +kernel
theorem d_RM_heirs_94 : decode b_RM_heirs 94 = .ok (.getfield 39, 3) := by decide +kernel
theorem d_RM_heirs_97 : decode b_RM_heirs 97 = .ok (.iload_n 3, 1) := by decide +kernel
theorem d_RM_heirs_98 : decode b_RM_heirs 98 = .ok (.iload 5, 2) := by decide +kernel
theorem d_RM_heirs_100 : decode b_RM_heirs 100 = .ok (.invokevirtual 71, 3) := by decide +kernel
theorem d_RM_heirs_103 : decode b_RM_heirs 103 = .ok (.ifCond .eq 7, 3) := by decide +kernel
theorem d_RM_heirs_106 : decode b_RM_heirs 106 = .ok (.iconst 1, 1) := by decide +kernel
theorem d_RM_heirs_107 : decode b_RM_heirs 107 = .ok (.goto 4, 3) := by decide +kernel
theorem d_RM_heirs_110 : decode b_RM_heirs 110 = .ok (.iconst 0, 1) := by decide +kernel
theorem d_RM_heirs_111 : decode b_RM_heirs 111 = .ok (.istore 4, 2) := by decide +kernel
theorem d_RM_heirs_113 : decode b_RM_heirs 113 = .ok (.iinc 5 1, 3) := by decide +kernel
theorem d_RM_heirs_116 : decode b_RM_heirs 116 = .ok (.goto (-52), 3) := by decide +kernel
theorem d_RM_heirs_119 : decode b_RM_heirs 119 = .ok (.iload_n 2, 1) := by decide +kernel
theorem d_RM_heirs_120 : decode b_RM_heirs 120 = .ok (.iload 4, 2) := by decide +kernel
theorem d_RM_heirs_122 : decode b_RM_heirs 122 = .ok (.ifCond .eq 9, 3) := by decide +kernel
theorem d_RM_heirs_125 : decode b_RM_heirs 125 = .ok (.iconst 1, 1) := by decide +kernel
theorem d_RM_heirs_126 : decode b_RM_heirs 126 = .ok (.iload_n 3, 1) := by decide +kernel
theorem d_RM_heirs_127 : decode b_RM_heirs 127 = .ok (.ishl, 1) := by decide +kernel
theorem d_RM_heirs_128 : decode b_RM_heirs 128 = .ok (.goto 4, 3) := by decide +kernel
theorem d_RM_heirs_131 : decode b_RM_heirs 131 = .ok (.iconst 0, 1) := by decide +kernel
theorem d_RM_heirs_132 : decode b_RM_heirs 132 = .ok (.ior, 1) := by decide +kernel
theorem d_RM_heirs_133 : decode b_RM_heirs 133 = .ok (.istore_n 2, 1) := by decide +kernel
theorem d_RM_heirs_134 : decode b_RM_heirs 134 = .ok (.iinc 3 1, 3) := by decide +kernel
theorem d_RM_heirs_137 : decode b_RM_heirs 137 = .ok (.goto (-96), 3) := by decide +kernel
theorem d_RM_heirs_140 : decode b_RM_heirs 140 = .ok (.iload_n 2, 1) := by decide +kernel
theorem d_RM_heirs_141 : decode b_RM_heirs 141 = .ok (.ireturn, 1) := by decide +kernel
