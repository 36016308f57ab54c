theorem d_MK_init_0 : decode b_MK_init 0 = .ok (.aload_n 0, 1) := by decide +kernel
theorem d_MK_init_1 : decode b_MK_init 1 = .ok (.invokespecial 3, 3) := by decide +kernel
theorem d_MK_init_4 : decode b_MK_init 4 = .ok (.aload_n 0, 1) := by decide +kernel
theorem d_MK_init_5 : decode b_MK_init 5 = .ok (.new 9, 3) := by decide +kernel
theorem d_MK_init_8 : decode b_MK_init 8 = .ok (.dup, 1) := by decide +kernel
theorem d_MK_init_9 : decode b_MK_init 9 = .ok (.iconst 2, 1) := by decide +kernel
theorem d_MK_init_10 : decode b_MK_init 10 = .ok (.bipush 6, 2) := by decide +kernel
theorem d_MK_init_12 : decode b_MK_init 12 = .ok (.iload_n 1, 1) := by decide +kernel
theorem d_MK_init_13 : decode b_MK_init 13 = .ok (.invokestatic 11, 3) := by decide +kernel
theorem d_MK_init_16 : decode b_MK_init 16 = .ok (.invokestatic 17, 3) := by decide +kernel
theorem d_MK_init_19 : decode b_MK_init 19 = .ok (.iconst 2, 1) := by decide +kernel
theorem d_MK_init_20 : decode b_MK_init 20 = .ok (.bipush 8, 2) := by decide +kernel
theorem d_MK_init_22 : decode b_MK_init 22 = .ok (.iload_n 2, 1) := by decide +kernel
theorem d_MK_init_23 : decode b_MK_init 23 = .ok (.invokestatic 11, 3) := by decide +kernel
theorem d_MK_init_26 : decode b_MK_init 26 = .ok (.invokestatic 17, 3) := by decide +kernel
theorem d_MK_init_29 : decode b_MK_init 29 = .ok (.invokespecial 20, 3) := by decide +kernel
theorem d_MK_init_32 : decode b_MK_init 32 = .ok (.putfield 23, 3) := by decide +kernel
theorem d_MK_init_35 : decode b_MK_init 35 = .ok (.aload_n 0, 1) := by decide +kernel
theorem d_MK_init_36 : decode b_MK_init 36 = .ok (.new 27, 3) := by decide +kernel
theorem d_MK_init_39 : decode b_MK_init 39 = .ok (.dup, 1) := by decide +kernel
theorem d_MK_init_40 : decode b_MK_init 40 = .ok (.aload_n 0, 1) := by decide +kernel
theorem d_MK_init_41 : decode b_MK_init 41 = .ok (.getfield 23, 3) := by decide +kernel
theorem d_MK_init_44 : decode b_MK_init 44 = .ok (.invokespecial 29, 3) := by decide +kernel
theorem d_MK_init_47 : decode b_MK_init 47 = .ok (.putfield 32, 3) := by decide +kernel
theorem d_MK_init_50 : decode b_MK_init 50 = .ok (.aload_n 0, 1) := by decide +kernel
theorem d_MK_init_51 : decode b_MK_init 51 = .ok (.new 36, 3) := by decide +kernel
theorem d_MK_init_54 : decode b_MK_init 54 = .ok (.dup, 1) := by decide +kernel
theorem d_MK_init_55 : decode b_MK_init 55 = .ok (.aload_n 0, 1) := by decide +kernel
theorem d_MK_init_56 : decode b_MK_init 56 = .ok (.getfield 23, 3) := by decide +kernel
theorem d_MK_init_59 : decode b_MK_init 59 = .ok (.aload_n 0, 1) := by decide +kernel
theorem d_MK_init_60 : decode b_MK_init 60 = .ok (.getfield 32, 3) := by decide +kernel
theorem d_MK_init_63 : decode b_MK_init 63 = .ok (.invokespecial 38, 3) := by decide +kernel
theorem d_MK_init_66 : decode b_MK_init 66 = .ok (.putfield 41, 3) := by decide +kernel
theorem d_MK_init_69 : decode b_MK_init 69 = .ok (.aload_n 0, 1) := by decide +kernel
theorem d_MK_init_70 : decode b_MK_init 70 = .ok (.new 45, 3) := by decide +kernel
theorem d_MK_init_73 : decode b_MK_init 73 = .ok (.dup, 1) := by decide +kernel
theorem d_MK_init_74 : decode b_MK_init 74 = .ok (.aload_n 0, 1) := by decide +kernel
theorem d_MK_init_75 : decode b_MK_init 75 = .ok (.getfield 23, 3) := by decide +kernel
theorem d_MK_init_78 : decode b_MK_init 78 = .ok (.aload_n 0, 1) := by decide +kernel
theorem d_MK_init_79 : decode b_MK_init 79 = .ok (.getfield 32, 3) := by decide +kernel
theorem d_MK_init_82 : decode b_MK_init 82 = .ok (.invokespecial 47, 3) := by decide +kernel
theorem d_MK_init_85 : decode b_MK_init 85 = .ok (.putfield 48, 3) := by decide +kernel
theorem d_MK_init_88 : decode b_MK_init 88 = .ok (.return_, 1) := by decide +kernel
theorem d_Law_init_0 : decode b_Law_init 0 = .ok (.aload_n 0, 1) := by decide +kernel
theorem d_Law_init_1 : decode b_Law_init 1 = .ok (.invokespecial 3, 3) := by decide +kernel
theorem d_Law_init_4 : decode b_Law_init 4 = .ok (.aload_n 0, 1) := by decide +kernel
theorem d_Law_init_5 : decode b_Law_init 5 = .ok (.bipush 7, 2) := by decide +kernel
theorem d_Law_init_7 : decode b_Law_init 7 = .ok (.putfield 9, 3) := by decide +kernel
theorem d_Law_init_10 : decode b_Law_init 10 = .ok (.aload_n 0, 1) := by decide +kernel
theorem d_Law_init_11 : decode b_Law_init 11 = .ok (.bipush 8, 2) := by decide +kernel
theorem d_Law_init_13 : decode b_Law_init 13 = .ok (.putfield 15, 3) := by decide +kernel
theorem d_Law_init_16 : decode b_Law_init 16 = .ok (.aload_n 0, 1) := by decide +kernel
theorem d_Law_init_17 : decode b_Law_init 17 = .ok (.iload_n 1, 1) := by decide +kernel
theorem d_Law_init_18 : decode b_Law_init 18 = .ok (.putfield 18, 3) := by decide +kernel
theorem d_Law_init_21 : decode b_Law_init 21 = .ok (.aload_n 0, 1) := by decide +kernel
theorem d_Law_init_22 : decode b_Law_init 22 = .ok (.iload_n 2, 1) := by decide +kernel
theorem d_Law_init_23 : decode b_Law_init 23 = .ok (.putfield 21, 3) := by decide +kernel
theorem d_Law_init_26 : decode b_Law_init 26 = .ok (.return_, 1) := by decide +kernel
theorem d_Board_init_0 : decode b_Board_init 0 = .ok (.aload_n 0, 1) := by decide +kernel
theorem d_Board_init_1 : decode b_Board_init 1 = .ok (.invokespecial 3, 3) := by decide +kernel
theorem d_Board_init_4 : decode b_Board_init 4 = .ok (.aload_n 0, 1) := by decide +kernel
theorem d_Board_init_5 : decode b_Board_init 5 = .ok (.bipush 8, 2) := by decide +kernel
theorem d_Board_init_7 : decode b_Board_init 7 = .ok (.newarray .int, 2) := by decide +kernel
theorem d_Board_init_9 : decode b_Board_init 9 = .ok (.putfield 9, 3) := by decide +kernel
theorem d_Board_init_12 : decode b_Board_init 12 = .ok (.aload_n 0, 1) := by decide +kernel
theorem d_Board_init_13 : decode b_Board_init 13 = .ok (.bipush 8, 2) := by decide +kernel
theorem d_Board_init_15 : decode b_Board_init 15 = .ok (.bipush 6, 2) := by decide +kernel
theorem d_Board_init_17 : decode b_Board_init 17 = .ok (.multianewarray 15 2, 4) := by decide +kernel
theorem d_Board_init_21 : decode b_Board_init 21 = .ok (.putfield 17, 3) := by decide +kernel
theorem d_Board_init_24 : decode b_Board_init 24 = .ok (.aload_n 0, 1) := by decide +kernel
theorem d_Board_init_25 : decode b_Board_init 25 = .ok (.bipush 8, 2) := by decide +kernel
theorem d_Board_init_27 : decode b_Board_init 27 = .ok (.newarray .long, 2) := by decide +kernel
theorem d_Board_init_29 : decode b_Board_init 29 = .ok (.putfield 20, 3) := by decide +kernel
theorem d_Board_init_32 : decode b_Board_init 32 = .ok (.aload_n 0, 1) := by decide +kernel
theorem d_Board_init_33 : decode b_Board_init 33 = .ok (.bipush 9, 2) := by decide +kernel
theorem d_Board_init_35 : decode b_Board_init 35 = .ok (.bipush 6, 2) := by decide +kernel
theorem d_Board_init_37 : decode b_Board_init 37 = .ok (.multianewarray 24 2, 4) := by decide +kernel
theorem d_Board_init_41 : decode b_Board_init 41 = .ok (.putfield 26, 3) := by decide +kernel
theorem d_Board_init_44 : decode b_Board_init 44 = .ok (.aload_n 0, 1) := by decide +kernel
theorem d_Board_init_45 : decode b_Board_init 45 = .ok (.aload_n 1, 1) := by decide +kernel
theorem d_Board_init_46 : decode b_Board_init 46 = .ok (.putfield 29, 3) := by decide +kernel
theorem d_Board_init_49 : decode b_Board_init 49 = .ok (.return_, 1) := by decide +kernel
theorem d_Search_init_0 : decode b_Search_init 0 = .ok (.aload_n 0, 1) := by decide +kernel
theorem d_Search_init_1 : decode b_Search_init 1 = .ok (.invokespecial 3, 3) := by decide +kernel
theorem d_Search_init_4 : decode b_Search_init 4 = .ok (.aload_n 0, 1) := by decide +kernel
theorem d_Search_init_5 : decode b_Search_init 5 = .ok (.aload_n 1, 1) := by decide +kernel
theorem d_Search_init_6 : decode b_Search_init 6 = .ok (.putfield 9, 3) := by decide +kernel
theorem d_Search_init_9 : decode b_Search_init 9 = .ok (.aload_n 0, 1) := by decide +kernel
theorem d_Search_init_10 : decode b_Search_init 10 = .ok (.aload_n 2, 1) := by decide +kernel
theorem d_Search_init_11 : decode b_Search_init 11 = .ok (.putfield 15, 3) := by decide +kernel
theorem d_Search_init_14 : decode b_Search_init 14 = .ok (.return_, 1) := by decide +kernel
theorem d_Rows_init_0 : decode b_Rows_init 0 = .ok (.aload_n 0, 1) := by decide +kernel
theorem d_Rows_init_1 : decode b_Rows_init 1 = .ok (.invokespecial 3, 3) := by decide +kernel
theorem d_Rows_init_4 : decode b_Rows_init 4 = .ok (.aload_n 0, 1) := by decide +kernel
theorem d_Rows_init_5 : decode b_Rows_init 5 = .ok (.bipush 6, 2) := by decide +kernel
theorem d_Rows_init_7 : decode b_Rows_init 7 = .ok (.sipush 512, 3) := by decide +kernel
theorem d_Rows_init_10 : decode b_Rows_init 10 = .ok (.multianewarray 9 2, 4) := by decide +kernel
theorem d_Rows_init_14 : decode b_Rows_init 14 = .ok (.putfield 11, 3) := by decide +kernel
theorem d_Rows_init_17 : decode b_Rows_init 17 = .ok (.aload_n 0, 1) := by decide +kernel
theorem d_Rows_init_18 : decode b_Rows_init 18 = .ok (.aload_n 1, 1) := by decide +kernel
theorem d_Rows_init_19 : decode b_Rows_init 19 = .ok (.putfield 16, 3) := by decide +kernel
theorem d_Rows_init_22 : decode b_Rows_init 22 = .ok (.aload_n 0, 1) := by decide +kernel
theorem d_Rows_init_23 : decode b_Rows_init 23 = .ok (.aload_n 2, 1) := by decide +kernel
theorem d_Rows_init_24 : decode b_Rows_init 24 = .ok (.putfield 20, 3) := by decide +kernel
theorem d_Rows_init_27 : decode b_Rows_init 27 = .ok (.return_, 1) := by decide +kernel
theorem d_MK_tries_0 : decode b_MK_tries 0 = .ok (.aload_n 0, 1) := by decide +kernel
theorem d_MK_tries_1 : decode b_MK_tries 1 = .ok (.getfield 41, 3) := by decide +kernel
theorem d_MK_tries_4 : decode b_MK_tries 4 = .ok (.getfield 118, 3) := by decide +kernel
theorem d_MK_tries_7 : decode b_MK_tries 7 = .ok (.ireturn, 1) := by decide +kernel
theorem d_MK_wrong_0 : decode b_MK_wrong 0 = .ok (.aload_n 0, 1) := by decide +kernel
theorem d_MK_wrong_1 : decode b_MK_wrong 1 = .ok (.getfield 63, 3) := by decide +kernel
theorem d_MK_wrong_4 : decode b_MK_wrong 4 = .ok (.ifCond .ne 5, 3) := by decide +kernel
theorem d_MK_wrong_7 : decode b_MK_wrong 7 = .ok (.iconst (-1), 1) := by decide +kernel
theorem d_MK_wrong_8 : decode b_MK_wrong 8 = .ok (.ireturn, 1) := by decide +kernel
theorem d_MK_wrong_9 : decode b_MK_wrong 9 = .ok (.iconst 0, 1) := by decide +kernel
theorem d_MK_wrong_10 : decode b_MK_wrong 10 = .ok (.istore_n 1, 1) := by decide +kernel
theorem d_MK_wrong_11 : decode b_MK_wrong 11 = .ok (.iconst 0, 1) := by decide +kernel
theorem d_MK_wrong_12 : decode b_MK_wrong 12 = .ok (.istore_n 2, 1) := by decide +kernel
theorem d_MK_wrong_13 : decode b_MK_wrong 13 = .ok (.iload_n 2, 1) := by decide +kernel
theorem d_MK_wrong_14 : decode b_MK_wrong 14 = .ok (.aload_n 0, 1) := by decide +kernel
theorem d_MK_wrong_15 : decode b_MK_wrong 15 = .ok (.getfield 32, 3) := by decide +kernel
theorem d_MK_wrong_18 : decode b_MK_wrong 18 = .ok (.getfield 52, 3) := by decide +kernel
theorem d_MK_wrong_21 : decode b_MK_wrong 21 = .ok (.if_icmp .ge 33, 3) := by decide +kernel
theorem d_MK_wrong_24 : decode b_MK_wrong 24 = .ok (.iload_n 1, 1) := by decide +kernel
theorem d_MK_wrong_25 : decode b_MK_wrong 25 = .ok (.aload_n 0, 1) := by decide +kernel
theorem d_MK_wrong_26 : decode b_MK_wrong 26 = .ok (.getfield 32, 3) := by decide +kernel
theorem d_MK_wrong_29 : decode b_MK_wrong 29 = .ok (.iload_n 2, 1) := by decide +kernel
theorem d_MK_wrong_30 : decode b_MK_wrong 30 = .ok (.invokevirtual 131, 3) := by decide +kernel
theorem d_MK_wrong_33 : decode b_MK_wrong 33 = .ok (.aload_n 0, 1) := by decide +kernel
theorem d_MK_wrong_34 : decode b_MK_wrong 34 = .ok (.getfield 32, 3) := by decide +kernel
theorem d_MK_wrong_37 : decode b_MK_wrong 37 = .ok (.getfield 134, 3) := by decide +kernel
theorem d_MK_wrong_40 : decode b_MK_wrong 40 = .ok (.iload_n 2, 1) := by decide +kernel
theorem d_MK_wrong_41 : decode b_MK_wrong 41 = .ok (.iaload, 1) := by decide +kernel
theorem d_MK_wrong_42 : decode b_MK_wrong 42 = .ok (.ixor, 1) := by decide +kernel
theorem d_MK_wrong_43 : decode b_MK_wrong 43 = .ok (.invokestatic 138, 3) := by decide +kernel
theorem d_MK_wrong_46 : decode b_MK_wrong 46 = .ok (.iadd, 1) := by decide +kernel
theorem d_MK_wrong_47 : decode b_MK_wrong 47 = .ok (.istore_n 1, 1) := by decide +kernel
theorem d_MK_wrong_48 : decode b_MK_wrong 48 = .ok (.iinc 2 1, 3) := by decide +kernel
theorem d_MK_wrong_51 : decode b_MK_wrong 51 = .ok (.goto (-38), 3) := by decide +kernel
theorem d_MK_wrong_54 : decode b_MK_wrong 54 = .ok (.iload_n 1, 1) := by decide +kernel
theorem d_MK_wrong_55 : decode b_MK_wrong 55 = .ok (.ireturn, 1) := by decide +kernel
theorem d_Board_doorsOf_0 : decode b_Board_doorsOf 0 = .ok (.aload_n 0, 1) := by decide +kernel
theorem d_Board_doorsOf_1 : decode b_Board_doorsOf 1 = .ok (.aload_n 0, 1) := by decide +kernel
theorem d_Board_doorsOf_2 : decode b_Board_doorsOf 2 = .ok (.getfield 20, 3) := by decide +kernel
theorem d_Board_doorsOf_5 : decode b_Board_doorsOf 5 = .ok (.iload_n 1, 1) := by decide +kernel
theorem d_Board_doorsOf_6 : decode b_Board_doorsOf 6 = .ok (.laload, 1) := by decide +kernel
theorem d_Board_doorsOf_7 : decode b_Board_doorsOf 7 = .ok (.invokevirtual 41, 3) := by decide +kernel
theorem d_Board_doorsOf_10 : decode b_Board_doorsOf 10 = .ok (.ireturn, 1) := by decide +kernel
theorem d_Board_doorsFitted_0 : decode b_Board_doorsFitted 0 = .ok (.iconst 0, 1) := by decide +kernel
theorem d_Board_doorsFitted_1 : decode b_Board_doorsFitted 1 = .ok (.istore_n 3, 1) := by decide +kernel
theorem d_Board_doorsFitted_2 : decode b_Board_doorsFitted 2 = .ok (.iconst 0, 1) := by decide +kernel
theorem d_Board_doorsFitted_3 : decode b_Board_doorsFitted 3 = .ok (.istore 4, 2) := by decide +kernel
theorem d_Board_doorsFitted_5 : decode b_Board_doorsFitted 5 = .ok (.iload 4, 2) := by decide +kernel
theorem d_Board_doorsFitted_7 : decode b_Board_doorsFitted 7 = .ok (.aload_n 0, 1) := by decide +kernel
theorem d_Board_doorsFitted_8 : decode b_Board_doorsFitted 8 = .ok (.getfield 33, 3) := by decide +kernel
theorem d_Board_doorsFitted_11 : decode b_Board_doorsFitted 11 = .ok (.if_icmp .ge 35, 3) := by decide +kernel
theorem d_Board_doorsFitted_14 : decode b_Board_doorsFitted 14 = .ok (.lload_n 1, 1) := by decide +kernel
theorem d_Board_doorsFitted_15 : decode b_Board_doorsFitted 15 = .ok (.aload_n 0, 1) := by decide +kernel
theorem d_Board_doorsFitted_16 : decode b_Board_doorsFitted 16 = .ok (.getfield 26, 3) := by decide +kernel
theorem d_Board_doorsFitted_19 : decode b_Board_doorsFitted 19 = .ok (.aload_n 0, 1) := by decide +kernel
theorem d_Board_doorsFitted_20 : decode b_Board_doorsFitted 20 = .ok (.getfield 45, 3) := by decide +kernel
theorem d_Board_doorsFitted_23 : decode b_Board_doorsFitted 23 = .ok (.aaload, 1) := by decide +kernel
theorem d_Board_doorsFitted_24 : decode b_Board_doorsFitted 24 = .ok (.iload 4, 2) := by decide +kernel
theorem d_Board_doorsFitted_26 : decode b_Board_doorsFitted 26 = .ok (.laload, 1) := by decide +kernel
theorem d_Board_doorsFitted_27 : decode b_Board_doorsFitted 27 = .ok (.invokestatic 48, 3) := by decide +kernel
theorem d_Board_doorsFitted_30 : decode b_Board_doorsFitted 30 = .ok (.ifCond .eq 10, 3) := by decide +kernel
theorem d_Board_doorsFitted_33 : decode b_Board_doorsFitted 33 = .ok (.iload_n 3, 1) := by decide +kernel
theorem d_Board_doorsFitted_34 : decode b_Board_doorsFitted 34 = .ok (.iconst 1, 1) := by decide +kernel
theorem d_Board_doorsFitted_35 : decode b_Board_doorsFitted 35 = .ok (.iload 4, 2) := by decide +kernel
theorem d_Board_doorsFitted_37 : decode b_Board_doorsFitted 37 = .ok (.ishl, 1) := by decide +kernel
theorem d_Board_doorsFitted_38 : decode b_Board_doorsFitted 38 = .ok (.ior, 1) := by decide +kernel
theorem d_Board_doorsFitted_39 : decode b_Board_doorsFitted 39 = .ok (.istore_n 3, 1) := by decide +kernel
theorem d_Board_doorsFitted_40 : decode b_Board_doorsFitted 40 = .ok (.iinc 4 1, 3) := by decide +kernel
theorem d_Board_doorsFitted_43 : decode b_Board_doorsFitted 43 = .ok (.goto (-38), 3) := by decide +kernel
theorem d_Board_doorsFitted_46 : decode b_Board_doorsFitted 46 = .ok (.iload_n 3, 1) := by decide +kernel
theorem d_Board_doorsFitted_47 : decode b_Board_doorsFitted 47 = .ok (.ireturn, 1) := by decide +kernel
theorem d_Board_isWithin_0 : decode b_Board_isWithin 0 = .ok (.lload_n 0, 1) := by decide +kernel
theorem d_Board_isWithin_1 : decode b_Board_isWithin 1 = .ok (.lload_n 2, 1) := by decide +kernel
theorem d_Board_isWithin_2 : decode b_Board_isWithin 2 = .ok (.ldc2_w 94, 3) := by decide +kernel
theorem d_Board_isWithin_5 : decode b_Board_isWithin 5 = .ok (.lxor, 1) := by decide +kernel
theorem d_Board_isWithin_6 : decode b_Board_isWithin 6 = .ok (.land, 1) := by decide +kernel
theorem d_Board_isWithin_7 : decode b_Board_isWithin 7 = .ok (.lconst 0, 1) := by decide +kernel
theorem d_Board_isWithin_8 : decode b_Board_isWithin 8 = .ok (.lcmp, 1) := by decide +kernel
theorem d_Board_isWithin_9 : decode b_Board_isWithin 9 = .ok (.ifCond .ne 7, 3) := by decide +kernel
theorem d_Board_isWithin_12 : decode b_Board_isWithin 12 = .ok (.iconst 1, 1) := by decide +kernel
theorem d_Board_isWithin_13 : decode b_Board_isWithin 13 = .ok (.goto 4, 3) := by decide +kernel
theorem d_Board_isWithin_16 : decode b_Board_isWithin 16 = .ok (.iconst 0, 1) := by decide +kernel
theorem d_Board_isWithin_17 : decode b_Board_isWithin 17 = .ok (.ireturn, 1) := by decide +kernel
theorem d_JI_bitCount_0 : decode b_JI_bitCount 0 = .ok (.iload_n 0, 1) := by decide +kernel
theorem d_JI_bitCount_1 : decode b_JI_bitCount 1 = .ok (.iload_n 0, 1) := by decide +kernel
theorem d_JI_bitCount_2 : decode b_JI_bitCount 2 = .ok (.iconst 1, 1) := by decide +kernel
theorem d_JI_bitCount_3 : decode b_JI_bitCount 3 = .ok (.iushr, 1) := by decide +kernel
theorem d_JI_bitCount_4 : decode b_JI_bitCount 4 = .ok (.ldc_w 265, 3) := by decide +kernel
theorem d_JI_bitCount_7 : decode b_JI_bitCount 7 = .ok (.iand, 1) := by decide +kernel
theorem d_JI_bitCount_8 : decode b_JI_bitCount 8 = .ok (.isub, 1) := by decide +kernel
theorem d_JI_bitCount_9 : decode b_JI_bitCount 9 = .ok (.istore_n 0, 1) := by decide +kernel
theorem d_JI_bitCount_10 : decode b_JI_bitCount 10 = .ok (.iload_n 0, 1) := by decide +kernel
theorem d_JI_bitCount_11 : decode b_JI_bitCount 11 = .ok (.ldc_w 266, 3) := by decide +kernel
theorem d_JI_bitCount_14 : decode b_JI_bitCount 14 = .ok (.iand, 1) := by decide +kernel
theorem d_JI_bitCount_15 : decode b_JI_bitCount 15 = .ok (.iload_n 0, 1) := by decide +kernel
theorem d_JI_bitCount_16 : decode b_JI_bitCount 16 = .ok (.iconst 2, 1) := by decide +kernel
theorem d_JI_bitCount_17 : decode b_JI_bitCount 17 = .ok (.iushr, 1) := by decide +kernel
theorem d_JI_bitCount_18 : decode b_JI_bitCount 18 = .ok (.ldc_w 266, 3) := by decide +kernel
theorem d_JI_bitCount_21 : decode b_JI_bitCount 21 = .ok (.iand, 1) := by decide +kernel
theorem d_JI_bitCount_22 : decode b_JI_bitCount 22 = .ok (.iadd, 1) := by decide +kernel
theorem d_JI_bitCount_23 : decode b_JI_bitCount 23 = .ok (.istore_n 0, 1) := by decide +kernel
theorem d_JI_bitCount_24 : decode b_JI_bitCount 24 = .ok (.iload_n 0, 1) := by decide +kernel
theorem d_JI_bitCount_25 : decode b_JI_bitCount 25 = .ok (.iload_n 0, 1) := by decide +kernel
theorem d_JI_bitCount_26 : decode b_JI_bitCount 26 = .ok (.iconst 4, 1) := by decide +kernel
theorem d_JI_bitCount_27 : decode b_JI_bitCount 27 = .ok (.iushr, 1) := by decide +kernel
theorem d_JI_bitCount_28 : decode b_JI_bitCount 28 = .ok (.iadd, 1) := by decide +kernel
theorem d_JI_bitCount_29 : decode b_JI_bitCount 29 = .ok (.ldc_w 267, 3) := by decide +kernel
theorem d_JI_bitCount_32 : decode b_JI_bitCount 32 = .ok (.iand, 1) := by decide +kernel
theorem d_JI_bitCount_33 : decode b_JI_bitCount 33 = .ok (.istore_n 0, 1) := by decide +kernel
theorem d_JI_bitCount_34 : decode b_JI_bitCount 34 = .ok (.iload_n 0, 1) := by decide +kernel
theorem d_JI_bitCount_35 : decode b_JI_bitCount 35 = .ok (.iload_n 0, 1) := by decide +kernel
theorem d_JI_bitCount_36 : decode b_JI_bitCount 36 = .ok (.bipush 8, 2) := by decide +kernel
theorem d_JI_bitCount_38 : decode b_JI_bitCount 38 = .ok (.iushr, 1) := by decide +kernel
theorem d_JI_bitCount_39 : decode b_JI_bitCount 39 = .ok (.iadd, 1) := by decide +kernel
theorem d_JI_bitCount_40 : decode b_JI_bitCount 40 = .ok (.istore_n 0, 1) := by decide +kernel
theorem d_JI_bitCount_41 : decode b_JI_bitCount 41 = .ok (.iload_n 0, 1) := by decide +kernel
theorem d_JI_bitCount_42 : decode b_JI_bitCount 42 = .ok (.iload_n 0, 1) := by decide +kernel
theorem d_JI_bitCount_43 : decode b_JI_bitCount 43 = .ok (.bipush 16, 2) := by decide +kernel
theorem d_JI_bitCount_45 : decode b_JI_bitCount 45 = .ok (.iushr, 1) := by decide +kernel
theorem d_JI_bitCount_46 : decode b_JI_bitCount 46 = .ok (.iadd, 1) := by decide +kernel
theorem d_JI_bitCount_47 : decode b_JI_bitCount 47 = .ok (.istore_n 0, 1) := by decide +kernel
theorem d_JI_bitCount_48 : decode b_JI_bitCount 48 = .ok (.iload_n 0, 1) := by decide +kernel
theorem d_JI_bitCount_49 : decode b_JI_bitCount 49 = .ok (.bipush 63, 2) := by decide +kernel
theorem d_JI_bitCount_51 : decode b_JI_bitCount 51 = .ok (.iand, 1) := by decide +kernel
theorem d_JI_bitCount_52 : decode b_JI_bitCount 52 = .ok (.ireturn, 1) := by decide +kernel
theorem d_MK_key_0 : decode b_MK_key 0 = .ok (.aload_n 0, 1) := by decide +kernel
theorem d_MK_key_1 : decode b_MK_key 1 = .ok (.getfield 32, 3) := by decide +kernel
theorem d_MK_key_4 : decode b_MK_key 4 = .ok (.getfield 52, 3) := by decide +kernel
theorem d_MK_key_7 : decode b_MK_key 7 = .ok (.bipush 8, 2) := by decide +kernel
theorem d_MK_key_9 : decode b_MK_key 9 = .ok (.if_icmp .lt 13, 3) := by decide +kernel
theorem d_MK_key_12 : decode b_MK_key 12 = .ok (.new 56, 3) := by decide +kernel
theorem d_MK_key_15 : decode b_MK_key 15 = .ok (.dup, 1) := by decide +kernel
theorem d_MK_key_16 : decode b_MK_key 16 = .ok (.ldc 58, 2) := by decide +kernel
theorem d_MK_key_18 : decode b_MK_key 18 = .ok (.invokespecial 60, 3) := by decide +kernel
theorem d_MK_key_21 : decode b_MK_key 21 = .ok (.athrow, 1) := by decide +kernel
theorem d_MK_key_22 : decode b_MK_key 22 = .ok (.aload_n 0, 1) := by decide +kernel
theorem d_MK_key_23 : decode b_MK_key 23 = .ok (.iconst 0, 1) := by decide +kernel
theorem d_MK_key_24 : decode b_MK_key 24 = .ok (.putfield 63, 3) := by decide +kernel
theorem d_MK_key_27 : decode b_MK_key 27 = .ok (.aload_n 0, 1) := by decide +kernel
theorem d_MK_key_28 : decode b_MK_key 28 = .ok (.getfield 32, 3) := by decide +kernel
theorem d_MK_key_31 : decode b_MK_key 31 = .ok (.dup, 1) := by decide +kernel
theorem d_MK_key_32 : decode b_MK_key 32 = .ok (.getfield 52, 3) := by decide +kernel
theorem d_MK_key_35 : decode b_MK_key 35 = .ok (.iconst 1, 1) := by decide +kernel
theorem d_MK_key_36 : decode b_MK_key 36 = .ok (.iadd, 1) := by decide +kernel
theorem d_MK_key_37 : decode b_MK_key 37 = .ok (.putfield 52, 3) := by decide +kernel
theorem d_MK_key_40 : decode b_MK_key 40 = .ok (.aload_n 0, 1) := by decide +kernel
theorem d_MK_key_41 : decode b_MK_key 41 = .ok (.getfield 32, 3) := by decide +kernel
theorem d_MK_key_44 : decode b_MK_key 44 = .ok (.getfield 52, 3) := by decide +kernel
theorem d_MK_key_47 : decode b_MK_key 47 = .ok (.iconst 1, 1) := by decide +kernel
theorem d_MK_key_48 : decode b_MK_key 48 = .ok (.isub, 1) := by decide +kernel
theorem d_MK_key_49 : decode b_MK_key 49 = .ok (.ireturn, 1) := by decide +kernel
theorem d_MK_door_0 : decode b_MK_door 0 = .ok (.aload_n 0, 1) := by decide +kernel
theorem d_MK_door_1 : decode b_MK_door 1 = .ok (.getfield 32, 3) := by decide +kernel
theorem d_MK_door_4 : decode b_MK_door 4 = .ok (.getfield 67, 3) := by decide +kernel
theorem d_MK_door_7 : decode b_MK_door 7 = .ok (.bipush 6, 2) := by decide +kernel
theorem d_MK_door_9 : decode b_MK_door 9 = .ok (.if_icmp .lt 13, 3) := by decide +kernel
theorem d_MK_door_12 : decode b_MK_door 12 = .ok (.new 56, 3) := by decide +kernel
theorem d_MK_door_15 : decode b_MK_door 15 = .ok (.dup, 1) := by decide +kernel
theorem d_MK_door_16 : decode b_MK_door 16 = .ok (.ldc 70, 2) := by decide +kernel
theorem d_MK_door_18 : decode b_MK_door 18 = .ok (.invokespecial 60, 3) := by decide +kernel
theorem d_MK_door_21 : decode b_MK_door 21 = .ok (.athrow, 1) := by decide +kernel
theorem d_MK_door_22 : decode b_MK_door 22 = .ok (.aload_n 0, 1) := by decide +kernel
theorem d_MK_door_23 : decode b_MK_door 23 = .ok (.iconst 0, 1) := by decide +kernel
theorem d_MK_door_24 : decode b_MK_door 24 = .ok (.putfield 63, 3) := by decide +kernel
theorem d_MK_door_27 : decode b_MK_door 27 = .ok (.aload_n 0, 1) := by decide +kernel
theorem d_MK_door_28 : decode b_MK_door 28 = .ok (.getfield 32, 3) := by decide +kernel
theorem d_MK_door_31 : decode b_MK_door 31 = .ok (.dup, 1) := by decide +kernel
theorem d_MK_door_32 : decode b_MK_door 32 = .ok (.getfield 67, 3) := by decide +kernel
theorem d_MK_door_35 : decode b_MK_door 35 = .ok (.iconst 1, 1) := by decide +kernel
theorem d_MK_door_36 : decode b_MK_door 36 = .ok (.iadd, 1) := by decide +kernel
theorem d_MK_door_37 : decode b_MK_door 37 = .ok (.putfield 67, 3) := by decide +kernel
theorem d_MK_door_40 : decode b_MK_door 40 = .ok (.aload_n 0, 1) := by decide +kernel
theorem d_MK_door_41 : decode b_MK_door 41 = .ok (.getfield 32, 3) := by decide +kernel
theorem d_MK_door_44 : decode b_MK_door 44 = .ok (.getfield 67, 3) := by decide +kernel
theorem d_MK_door_47 : decode b_MK_door 47 = .ok (.iconst 1, 1) := by decide +kernel
theorem d_MK_door_48 : decode b_MK_door 48 = .ok (.isub, 1) := by decide +kernel
theorem d_MK_door_49 : decode b_MK_door 49 = .ok (.ireturn, 1) := by decide +kernel
theorem d_MK_must_0 : decode b_MK_must 0 = .ok (.aload_n 0, 1) := by decide +kernel
theorem d_MK_must_1 : decode b_MK_must 1 = .ok (.iload_n 1, 1) := by decide +kernel
theorem d_MK_must_2 : decode b_MK_must 2 = .ok (.invokevirtual 72, 3) := by decide +kernel
theorem d_MK_must_5 : decode b_MK_must 5 = .ok (.aload_n 0, 1) := by decide +kernel
theorem d_MK_must_6 : decode b_MK_must 6 = .ok (.iload_n 2, 1) := by decide +kernel
theorem d_MK_must_7 : decode b_MK_must 7 = .ok (.invokevirtual 76, 3) := by decide +kernel
theorem d_MK_must_10 : decode b_MK_must 10 = .ok (.aload_n 0, 1) := by decide +kernel
theorem d_MK_must_11 : decode b_MK_must 11 = .ok (.iconst 0, 1) := by decide +kernel
theorem d_MK_must_12 : decode b_MK_must 12 = .ok (.putfield 63, 3) := by decide +kernel
theorem d_MK_must_15 : decode b_MK_must 15 = .ok (.aload_n 0, 1) := by decide +kernel
theorem d_MK_must_16 : decode b_MK_must 16 = .ok (.getfield 32, 3) := by decide +kernel
theorem d_MK_must_19 : decode b_MK_must 19 = .ok (.iload_n 1, 1) := by decide +kernel
theorem d_MK_must_20 : decode b_MK_must 20 = .ok (.iload_n 2, 1) := by decide +kernel
theorem d_MK_must_21 : decode b_MK_must 21 = .ok (.invokevirtual 79, 3) := by decide +kernel
theorem d_MK_must_24 : decode b_MK_must 24 = .ok (.istore 4, 2) := by decide +kernel
theorem d_MK_must_26 : decode b_MK_must 26 = .ok (.aload_n 0, 1) := by decide +kernel
theorem d_MK_must_27 : decode b_MK_must 27 = .ok (.getfield 32, 3) := by decide +kernel
theorem d_MK_must_30 : decode b_MK_must 30 = .ok (.iload_n 1, 1) := by decide +kernel
theorem d_MK_must_31 : decode b_MK_must 31 = .ok (.iload_n 2, 1) := by decide +kernel
theorem d_MK_must_32 : decode b_MK_must 32 = .ok (.iload_n 3, 1) := by decide +kernel
theorem d_MK_must_33 : decode b_MK_must 33 = .ok (.invokevirtual 83, 3) := by decide +kernel
theorem d_MK_must_36 : decode b_MK_must 36 = .ok (.iload 4, 2) := by decide +kernel
theorem d_MK_must_38 : decode b_MK_must 38 = .ok (.ireturn, 1) := by decide +kernel
theorem d_MK_needKey_0 : decode b_MK_needKey 0 = .ok (.iload_n 1, 1) := by decide +kernel
theorem d_MK_needKey_1 : decode b_MK_needKey 1 = .ok (.ifCond .lt 14, 3) := by decide +kernel
theorem d_MK_needKey_4 : decode b_MK_needKey 4 = .ok (.iload_n 1, 1) := by decide +kernel
theorem d_MK_needKey_5 : decode b_MK_needKey 5 = .ok (.aload_n 0, 1) := by decide +kernel
theorem d_MK_needKey_6 : decode b_MK_needKey 6 = .ok (.getfield 32, 3) := by decide +kernel
theorem d_MK_needKey_9 : decode b_MK_needKey 9 = .ok (.getfield 52, 3) := by decide +kernel
theorem d_MK_needKey_12 : decode b_MK_needKey 12 = .ok (.if_icmp .lt 13, 3) := by decide +kernel
theorem d_MK_needKey_15 : decode b_MK_needKey 15 = .ok (.new 87, 3) := by decide +kernel
theorem d_MK_needKey_18 : decode b_MK_needKey 18 = .ok (.dup, 1) := by decide +kernel
theorem d_MK_needKey_19 : decode b_MK_needKey 19 = .ok (.ldc 162, 2) := by decide +kernel
theorem d_MK_needKey_21 : decode b_MK_needKey 21 = .ok (.invokespecial 91, 3) := by decide +kernel
theorem d_MK_needKey_24 : decode b_MK_needKey 24 = .ok (.athrow, 1) := by decide +kernel
theorem d_MK_needKey_25 : decode b_MK_needKey 25 = .ok (.return_, 1) := by decide +kernel
theorem d_MK_needDoor_0 : decode b_MK_needDoor 0 = .ok (.iload_n 1, 1) := by decide +kernel
theorem d_MK_needDoor_1 : decode b_MK_needDoor 1 = .ok (.ifCond .lt 14, 3) := by decide +kernel
theorem d_MK_needDoor_4 : decode b_MK_needDoor 4 = .ok (.iload_n 1, 1) := by decide +kernel
theorem d_MK_needDoor_5 : decode b_MK_needDoor 5 = .ok (.aload_n 0, 1) := by decide +kernel
theorem d_MK_needDoor_6 : decode b_MK_needDoor 6 = .ok (.getfield 32, 3) := by decide +kernel
theorem d_MK_needDoor_9 : decode b_MK_needDoor 9 = .ok (.getfield 67, 3) := by decide +kernel
theorem d_MK_needDoor_12 : decode b_MK_needDoor 12 = .ok (.if_icmp .lt 13, 3) := by decide +kernel
theorem d_MK_needDoor_15 : decode b_MK_needDoor 15 = .ok (.new 87, 3) := by decide +kernel
theorem d_MK_needDoor_18 : decode b_MK_needDoor 18 = .ok (.dup, 1) := by decide +kernel
theorem d_MK_needDoor_19 : decode b_MK_needDoor 19 = .ok (.ldc 164, 2) := by decide +kernel
theorem d_MK_needDoor_21 : decode b_MK_needDoor 21 = .ok (.invokespecial 91, 3) := by decide +kernel
theorem d_MK_needDoor_24 : decode b_MK_needDoor 24 = .ok (.athrow, 1) := by decide +kernel
theorem d_MK_needDoor_25 : decode b_MK_needDoor 25 = .ok (.return_, 1) := by decide +kernel
theorem d_Board_mustOpen_0 : decode b_Board_mustOpen 0 = .ok (.aload_n 0, 1) := by decide +kernel
theorem d_Board_mustOpen_1 : decode b_Board_mustOpen 1 = .ok (.getfield 9, 3) := by decide +kernel
theorem d_Board_mustOpen_4 : decode b_Board_mustOpen 4 = .ok (.iload_n 1, 1) := by decide +kernel
theorem d_Board_mustOpen_5 : decode b_Board_mustOpen 5 = .ok (.iaload, 1) := by decide +kernel
theorem d_Board_mustOpen_6 : decode b_Board_mustOpen 6 = .ok (.iload_n 2, 1) := by decide +kernel
theorem d_Board_mustOpen_7 : decode b_Board_mustOpen 7 = .ok (.ishr, 1) := by decide +kernel
theorem d_Board_mustOpen_8 : decode b_Board_mustOpen 8 = .ok (.iconst 1, 1) := by decide +kernel
theorem d_Board_mustOpen_9 : decode b_Board_mustOpen 9 = .ok (.iand, 1) := by decide +kernel
theorem d_Board_mustOpen_10 : decode b_Board_mustOpen 10 = .ok (.ifCond .eq 7, 3) := by decide +kernel
theorem d_Board_mustOpen_13 : decode b_Board_mustOpen 13 = .ok (.iconst 1, 1) := by decide +kernel
theorem d_Board_mustOpen_14 : decode b_Board_mustOpen 14 = .ok (.goto 4, 3) := by decide +kernel
theorem d_Board_mustOpen_17 : decode b_Board_mustOpen 17 = .ok (.iconst 0, 1) := by decide +kernel
theorem d_Board_mustOpen_18 : decode b_Board_mustOpen 18 = .ok (.ireturn, 1) := by decide +kernel
theorem d_Board_tell_0 : decode b_Board_tell 0 = .ok (.iload_n 3, 1) := by decide +kernel
theorem d_Board_tell_1 : decode b_Board_tell 1 = .ok (.ifCond .eq 18, 3) := by decide +kernel
theorem d_Board_tell_4 : decode b_Board_tell 4 = .ok (.aload_n 0, 1) := by decide +kernel
theorem d_Board_tell_5 : decode b_Board_tell 5 = .ok (.getfield 9, 3) := by decide +kernel
theorem d_Board_tell_8 : decode b_Board_tell 8 = .ok (.iload_n 1, 1) := by decide +kernel
theorem d_Board_tell_9 : decode b_Board_tell 9 = .ok (.dup2, 1) := by decide +kernel
theorem d_Board_tell_10 : decode b_Board_tell 10 = .ok (.iaload, 1) := by decide +kernel
theorem d_Board_tell_11 : decode b_Board_tell 11 = .ok (.iconst 1, 1) := by decide +kernel
theorem d_Board_tell_12 : decode b_Board_tell 12 = .ok (.iload_n 2, 1) := by decide +kernel
theorem d_Board_tell_13 : decode b_Board_tell 13 = .ok (.ishl, 1) := by decide +kernel
theorem d_Board_tell_14 : decode b_Board_tell 14 = .ok (.ior, 1) := by decide +kernel
theorem d_Board_tell_15 : decode b_Board_tell 15 = .ok (.iastore, 1) := by decide +kernel
theorem d_Board_tell_16 : decode b_Board_tell 16 = .ok (.goto 17, 3) := by decide +kernel
theorem d_Board_tell_19 : decode b_Board_tell 19 = .ok (.aload_n 0, 1) := by decide +kernel
theorem d_Board_tell_20 : decode b_Board_tell 20 = .ok (.getfield 9, 3) := by decide +kernel
theorem d_Board_tell_23 : decode b_Board_tell 23 = .ok (.iload_n 1, 1) := by decide +kernel
theorem d_Board_tell_24 : decode b_Board_tell 24 = .ok (.dup2, 1) := by decide +kernel
theorem d_Board_tell_25 : decode b_Board_tell 25 = .ok (.iaload, 1) := by decide +kernel
theorem d_Board_tell_26 : decode b_Board_tell 26 = .ok (.iconst 1, 1) := by decide +kernel
theorem d_Board_tell_27 : decode b_Board_tell 27 = .ok (.iload_n 2, 1) := by decide +kernel
theorem d_Board_tell_28 : decode b_Board_tell 28 = .ok (.ishl, 1) := by decide +kernel
theorem d_Board_tell_29 : decode b_Board_tell 29 = .ok (.iconst (-1), 1) := by decide +kernel
theorem d_Board_tell_30 : decode b_Board_tell 30 = .ok (.ixor, 1) := by decide +kernel
theorem d_Board_tell_31 : decode b_Board_tell 31 = .ok (.iand, 1) := by decide +kernel
theorem d_Board_tell_32 : decode b_Board_tell 32 = .ok (.iastore, 1) := by decide +kernel
theorem d_Board_tell_33 : decode b_Board_tell 33 = .ok (.return_, 1) := by decide +kernel
theorem d_MK_step_0 : decode b_MK_step 0 = .ok (.iload_n 1, 1) := by decide +kernel
theorem d_MK_step_1 : decode b_MK_step 1 = .ok (.ifCond .lt 9, 3) := by decide +kernel
theorem d_MK_step_4 : decode b_MK_step 4 = .ok (.iload_n 1, 1) := by decide +kernel
theorem d_MK_step_5 : decode b_MK_step 5 = .ok (.bipush 7, 2) := by decide +kernel
theorem d_MK_step_7 : decode b_MK_step 7 = .ok (.if_icmp .le 13, 3) := by decide +kernel
theorem d_MK_step_10 : decode b_MK_step 10 = .ok (.new 87, 3) := by decide +kernel
theorem d_MK_step_13 : decode b_MK_step 13 = .ok (.dup, 1) := by decide +kernel
theorem d_MK_step_14 : decode b_MK_step 14 = .ok (.ldc 89, 2) := by decide +kernel
theorem d_MK_step_16 : decode b_MK_step 16 = .ok (.invokespecial 91, 3) := by decide +kernel
theorem d_MK_step_19 : decode b_MK_step 19 = .ok (.athrow, 1) := by decide +kernel
theorem d_MK_step_20 : decode b_MK_step 20 = .ok (.aload_n 0, 1) := by decide +kernel
theorem d_MK_step_21 : decode b_MK_step 21 = .ok (.iconst 0, 1) := by decide +kernel
theorem d_MK_step_22 : decode b_MK_step 22 = .ok (.putfield 63, 3) := by decide +kernel
theorem d_MK_step_25 : decode b_MK_step 25 = .ok (.aload_n 0, 1) := by decide +kernel
theorem d_MK_step_26 : decode b_MK_step 26 = .ok (.getfield 23, 3) := by decide +kernel
theorem d_MK_step_29 : decode b_MK_step 29 = .ok (.getfield 92, 3) := by decide +kernel
theorem d_MK_step_32 : decode b_MK_step 32 = .ok (.istore_n 2, 1) := by decide +kernel
theorem d_MK_step_33 : decode b_MK_step 33 = .ok (.aload_n 0, 1) := by decide +kernel
theorem d_MK_step_34 : decode b_MK_step 34 = .ok (.getfield 23, 3) := by decide +kernel
theorem d_MK_step_37 : decode b_MK_step 37 = .ok (.iload_n 1, 1) := by decide +kernel
theorem d_MK_step_38 : decode b_MK_step 38 = .ok (.putfield 92, 3) := by decide +kernel
theorem d_MK_step_41 : decode b_MK_step 41 = .ok (.iload_n 2, 1) := by decide +kernel
theorem d_MK_step_42 : decode b_MK_step 42 = .ok (.ireturn, 1) := by decide +kernel
theorem d_MK_bar_0 : decode b_MK_bar 0 = .ok (.aload_n 0, 1) := by decide +kernel
theorem d_MK_bar_1 : decode b_MK_bar 1 = .ok (.iload_n 1, 1) := by decide +kernel
theorem d_MK_bar_2 : decode b_MK_bar 2 = .ok (.invokevirtual 95, 3) := by decide +kernel
theorem d_MK_bar_5 : decode b_MK_bar 5 = .ok (.aload_n 0, 1) := by decide +kernel
theorem d_MK_bar_6 : decode b_MK_bar 6 = .ok (.iload_n 2, 1) := by decide +kernel
theorem d_MK_bar_7 : decode b_MK_bar 7 = .ok (.invokevirtual 95, 3) := by decide +kernel
theorem d_MK_bar_10 : decode b_MK_bar 10 = .ok (.aload_n 0, 1) := by decide +kernel
theorem d_MK_bar_11 : decode b_MK_bar 11 = .ok (.iconst 0, 1) := by decide +kernel
theorem d_MK_bar_12 : decode b_MK_bar 12 = .ok (.putfield 63, 3) := by decide +kernel
theorem d_MK_bar_15 : decode b_MK_bar 15 = .ok (.aload_n 0, 1) := by decide +kernel
theorem d_MK_bar_16 : decode b_MK_bar 16 = .ok (.getfield 23, 3) := by decide +kernel
theorem d_MK_bar_19 : decode b_MK_bar 19 = .ok (.iload_n 1, 1) := by decide +kernel
theorem d_MK_bar_20 : decode b_MK_bar 20 = .ok (.iload_n 2, 1) := by decide +kernel
theorem d_MK_bar_21 : decode b_MK_bar 21 = .ok (.invokevirtual 98, 3) := by decide +kernel
theorem d_MK_bar_24 : decode b_MK_bar 24 = .ok (.istore 4, 2) := by decide +kernel
theorem d_MK_bar_26 : decode b_MK_bar 26 = .ok (.aload_n 0, 1) := by decide +kernel
theorem d_MK_bar_27 : decode b_MK_bar 27 = .ok (.getfield 23, 3) := by decide +kernel
theorem d_MK_bar_30 : decode b_MK_bar 30 = .ok (.iload_n 1, 1) := by decide +kernel
theorem d_MK_bar_31 : decode b_MK_bar 31 = .ok (.iload_n 2, 1) := by decide +kernel
theorem d_MK_bar_32 : decode b_MK_bar 32 = .ok (.iload_n 3, 1) := by decide +kernel
theorem d_MK_bar_33 : decode b_MK_bar 33 = .ok (.invokevirtual 101, 3) := by decide +kernel
theorem d_MK_bar_36 : decode b_MK_bar 36 = .ok (.iload 4, 2) := by decide +kernel
theorem d_MK_bar_38 : decode b_MK_bar 38 = .ok (.ireturn, 1) := by decide +kernel
theorem d_MK_needDepth_0 : decode b_MK_needDepth 0 = .ok (.iload_n 1, 1) := by decide +kernel
theorem d_MK_needDepth_1 : decode b_MK_needDepth 1 = .ok (.ifCond .lt 14, 3) := by decide +kernel
theorem d_MK_needDepth_4 : decode b_MK_needDepth 4 = .ok (.iload_n 1, 1) := by decide +kernel
theorem d_MK_needDepth_5 : decode b_MK_needDepth 5 = .ok (.aload_n 0, 1) := by decide +kernel
theorem d_MK_needDepth_6 : decode b_MK_needDepth 6 = .ok (.getfield 23, 3) := by decide +kernel
theorem d_MK_needDepth_9 : decode b_MK_needDepth 9 = .ok (.getfield 171, 3) := by decide +kernel
theorem d_MK_needDepth_12 : decode b_MK_needDepth 12 = .ok (.if_icmp .lt 13, 3) := by decide +kernel
theorem d_MK_needDepth_15 : decode b_MK_needDepth 15 = .ok (.new 87, 3) := by decide +kernel
theorem d_MK_needDepth_18 : decode b_MK_needDepth 18 = .ok (.dup, 1) := by decide +kernel
theorem d_MK_needDepth_19 : decode b_MK_needDepth 19 = .ok (.ldc 174, 2) := by decide +kernel
theorem d_MK_needDepth_21 : decode b_MK_needDepth 21 = .ok (.invokespecial 91, 3) := by decide +kernel
theorem d_MK_needDepth_24 : decode b_MK_needDepth 24 = .ok (.athrow, 1) := by decide +kernel
theorem d_MK_needDepth_25 : decode b_MK_needDepth 25 = .ok (.return_, 1) := by decide +kernel
theorem d_Law_isBarred_0 : decode b_Law_isBarred 0 = .ok (.aload_n 0, 1) := by decide +kernel
theorem d_Law_isBarred_1 : decode b_Law_isBarred 1 = .ok (.getfield 24, 3) := by decide +kernel
theorem d_Law_isBarred_4 : decode b_Law_isBarred 4 = .ok (.iload_n 1, 1) := by decide +kernel
theorem d_Law_isBarred_5 : decode b_Law_isBarred 5 = .ok (.iload_n 2, 1) := by decide +kernel
theorem d_Law_isBarred_6 : decode b_Law_isBarred 6 = .ok (.invokestatic 28, 3) := by decide +kernel
theorem d_Law_isBarred_9 : decode b_Law_isBarred 9 = .ok (.land, 1) := by decide +kernel
theorem d_Law_isBarred_10 : decode b_Law_isBarred 10 = .ok (.lconst 0, 1) := by decide +kernel
theorem d_Law_isBarred_11 : decode b_Law_isBarred 11 = .ok (.lcmp, 1) := by decide +kernel
theorem d_Law_isBarred_12 : decode b_Law_isBarred 12 = .ok (.ifCond .eq 7, 3) := by decide +kernel
theorem d_Law_isBarred_15 : decode b_Law_isBarred 15 = .ok (.iconst 1, 1) := by decide +kernel
theorem d_Law_isBarred_16 : decode b_Law_isBarred 16 = .ok (.goto 4, 3) := by decide +kernel
theorem d_Law_isBarred_19 : decode b_Law_isBarred 19 = .ok (.iconst 0, 1) := by decide +kernel
theorem d_Law_isBarred_20 : decode b_Law_isBarred 20 = .ok (.ireturn, 1) := by decide +kernel
theorem d_Law_pairBit_0 : decode b_Law_pairBit 0 = .ok (.lconst 1, 1) := by decide +kernel
theorem d_Law_pairBit_1 : decode b_Law_pairBit 1 = .ok (.iload_n 0, 1) := by decide +kernel
theorem d_Law_pairBit_2 : decode b_Law_pairBit 2 = .ok (.bipush 8, 2) := by decide +kernel
theorem d_Law_pairBit_4 : decode b_Law_pairBit 4 = .ok (.imul, 1) := by decide +kernel
theorem d_Law_pairBit_5 : decode b_Law_pairBit 5 = .ok (.iload_n 1, 1) := by decide +kernel
theorem d_Law_pairBit_6 : decode b_Law_pairBit 6 = .ok (.iadd, 1) := by decide +kernel
theorem d_Law_pairBit_7 : decode b_Law_pairBit 7 = .ok (.lshl, 1) := by decide +kernel
theorem d_Law_pairBit_8 : decode b_Law_pairBit 8 = .ok (.lreturn, 1) := by decide +kernel
theorem d_Law_setBarred_0 : decode b_Law_setBarred 0 = .ok (.iload_n 3, 1) := by decide +kernel
theorem d_Law_setBarred_1 : decode b_Law_setBarred 1 = .ok (.ifCond .eq 20, 3) := by decide +kernel
theorem d_Law_setBarred_4 : decode b_Law_setBarred 4 = .ok (.aload_n 0, 1) := by decide +kernel
theorem d_Law_setBarred_5 : decode b_Law_setBarred 5 = .ok (.dup, 1) := by decide +kernel
theorem d_Law_setBarred_6 : decode b_Law_setBarred 6 = .ok (.getfield 24, 3) := by decide +kernel
theorem d_Law_setBarred_9 : decode b_Law_setBarred 9 = .ok (.iload_n 1, 1) := by decide +kernel
theorem d_Law_setBarred_10 : decode b_Law_setBarred 10 = .ok (.iload_n 2, 1) := by decide +kernel
theorem d_Law_setBarred_11 : decode b_Law_setBarred 11 = .ok (.invokestatic 28, 3) := by decide +kernel
theorem d_Law_setBarred_14 : decode b_Law_setBarred 14 = .ok (.lor, 1) := by decide +kernel
theorem d_Law_setBarred_15 : decode b_Law_setBarred 15 = .ok (.putfield 24, 3) := by decide +kernel
theorem d_Law_setBarred_18 : decode b_Law_setBarred 18 = .ok (.goto 21, 3) := by decide +kernel
theorem d_Law_setBarred_21 : decode b_Law_setBarred 21 = .ok (.aload_n 0, 1) := by decide +kernel
theorem d_Law_setBarred_22 : decode b_Law_setBarred 22 = .ok (.dup, 1) := by decide +kernel
theorem d_Law_setBarred_23 : decode b_Law_setBarred 23 = .ok (.getfield 24, 3) := by decide +kernel
theorem d_Law_setBarred_26 : decode b_Law_setBarred 26 = .ok (.iload_n 1, 1) := by decide +kernel
theorem d_Law_setBarred_27 : decode b_Law_setBarred 27 = .ok (.iload_n 2, 1) := by decide +kernel
theorem d_Law_setBarred_28 : decode b_Law_setBarred 28 = .ok (.invokestatic 28, 3) := by decide +kernel
theorem d_Law_setBarred_31 : decode b_Law_setBarred 31 = .ok (.ldc2_w 32, 3) := by decide +kernel
theorem d_Law_setBarred_34 : decode b_Law_setBarred 34 = .ok (.lxor, 1) := by decide +kernel
theorem d_Law_setBarred_35 : decode b_Law_setBarred 35 = .ok (.land, 1) := by decide +kernel
theorem d_Law_setBarred_36 : decode b_Law_setBarred 36 = .ok (.putfield 24, 3) := by decide +kernel
theorem d_Law_setBarred_39 : decode b_Law_setBarred 39 = .ok (.return_, 1) := by decide +kernel
theorem d_MK_top_0 : decode b_MK_top 0 = .ok (.iload_n 1, 1) := by decide +kernel
theorem d_MK_top_1 : decode b_MK_top 1 = .ok (.iconst 1, 1) := by decide +kernel
theorem d_MK_top_2 : decode b_MK_top 2 = .ok (.if_icmp .lt 9, 3) := by decide +kernel
theorem d_MK_top_5 : decode b_MK_top 5 = .ok (.iload_n 1, 1) := by decide +kernel
theorem d_MK_top_6 : decode b_MK_top 6 = .ok (.bipush 8, 2) := by decide +kernel
theorem d_MK_top_8 : decode b_MK_top 8 = .ok (.if_icmp .le 13, 3) := by decide +kernel
theorem d_MK_top_11 : decode b_MK_top 11 = .ok (.new 87, 3) := by decide +kernel
theorem d_MK_top_14 : decode b_MK_top 14 = .ok (.dup, 1) := by decide +kernel
theorem d_MK_top_15 : decode b_MK_top 15 = .ok (.ldc 104, 2) := by decide +kernel
theorem d_MK_top_17 : decode b_MK_top 17 = .ok (.invokespecial 91, 3) := by decide +kernel
theorem d_MK_top_20 : decode b_MK_top 20 = .ok (.athrow, 1) := by decide +kernel
theorem d_MK_top_21 : decode b_MK_top 21 = .ok (.aload_n 0, 1) := by decide +kernel
theorem d_MK_top_22 : decode b_MK_top 22 = .ok (.iconst 0, 1) := by decide +kernel
theorem d_MK_top_23 : decode b_MK_top 23 = .ok (.putfield 63, 3) := by decide +kernel
theorem d_MK_top_26 : decode b_MK_top 26 = .ok (.aload_n 0, 1) := by decide +kernel
theorem d_MK_top_27 : decode b_MK_top 27 = .ok (.getfield 23, 3) := by decide +kernel
theorem d_MK_top_30 : decode b_MK_top 30 = .ok (.getfield 106, 3) := by decide +kernel
theorem d_MK_top_33 : decode b_MK_top 33 = .ok (.istore_n 2, 1) := by decide +kernel
theorem d_MK_top_34 : decode b_MK_top 34 = .ok (.aload_n 0, 1) := by decide +kernel
theorem d_MK_top_35 : decode b_MK_top 35 = .ok (.getfield 23, 3) := by decide +kernel
theorem d_MK_top_38 : decode b_MK_top 38 = .ok (.iload_n 1, 1) := by decide +kernel
theorem d_MK_top_39 : decode b_MK_top 39 = .ok (.putfield 106, 3) := by decide +kernel
theorem d_MK_top_42 : decode b_MK_top 42 = .ok (.iload_n 2, 1) := by decide +kernel
theorem d_MK_top_43 : decode b_MK_top 43 = .ok (.ireturn, 1) := by decide +kernel
theorem d_MK_run_0 : decode b_MK_run 0 = .ok (.iload_n 1, 1) := by decide +kernel
theorem d_MK_run_1 : decode b_MK_run 1 = .ok (.ifCond .lt 9, 3) := by decide +kernel
theorem d_MK_run_4 : decode b_MK_run 4 = .ok (.iload_n 1, 1) := by decide +kernel
theorem d_MK_run_5 : decode b_MK_run 5 = .ok (.ldc 109, 2) := by decide +kernel
theorem d_MK_run_7 : decode b_MK_run 7 = .ok (.if_icmp .le 13, 3) := by decide +kernel
theorem d_MK_run_10 : decode b_MK_run 10 = .ok (.new 87, 3) := by decide +kernel
theorem d_MK_run_13 : decode b_MK_run 13 = .ok (.dup, 1) := by decide +kernel
theorem d_MK_run_14 : decode b_MK_run 14 = .ok (.ldc 110, 2) := by decide +kernel
theorem d_MK_run_16 : decode b_MK_run 16 = .ok (.invokespecial 91, 3) := by decide +kernel
theorem d_MK_run_19 : decode b_MK_run 19 = .ok (.athrow, 1) := by decide +kernel
theorem d_MK_run_20 : decode b_MK_run 20 = .ok (.aload_n 0, 1) := by decide +kernel
theorem d_MK_run_21 : decode b_MK_run 21 = .ok (.getfield 32, 3) := by decide +kernel
theorem d_MK_run_24 : decode b_MK_run 24 = .ok (.getfield 52, 3) := by decide +kernel
theorem d_MK_run_27 : decode b_MK_run 27 = .ok (.ifCond .ne 13, 3) := by decide +kernel
theorem d_MK_run_30 : decode b_MK_run 30 = .ok (.new 56, 3) := by decide +kernel
theorem d_MK_run_33 : decode b_MK_run 33 = .ok (.dup, 1) := by decide +kernel
theorem d_MK_run_34 : decode b_MK_run 34 = .ok (.ldc 112, 2) := by decide +kernel
theorem d_MK_run_36 : decode b_MK_run 36 = .ok (.invokespecial 60, 3) := by decide +kernel
theorem d_MK_run_39 : decode b_MK_run 39 = .ok (.athrow, 1) := by decide +kernel
theorem d_MK_run_40 : decode b_MK_run 40 = .ok (.aload_n 0, 1) := by decide +kernel
theorem d_MK_run_41 : decode b_MK_run 41 = .ok (.getfield 41, 3) := by decide +kernel
theorem d_MK_run_44 : decode b_MK_run 44 = .ok (.iload_n 1, 1) := by decide +kernel
theorem d_MK_run_45 : decode b_MK_run 45 = .ok (.invokevirtual 114, 3) := by decide +kernel
theorem d_MK_run_48 : decode b_MK_run 48 = .ok (.istore_n 2, 1) := by decide +kernel
theorem d_MK_run_49 : decode b_MK_run 49 = .ok (.aload_n 0, 1) := by decide +kernel
theorem d_MK_run_50 : decode b_MK_run 50 = .ok (.iload_n 2, 1) := by decide +kernel
theorem d_MK_run_51 : decode b_MK_run 51 = .ok (.iconst 1, 1) := by decide +kernel
theorem d_MK_run_52 : decode b_MK_run 52 = .ok (.if_icmp .ne 7, 3) := by decide +kernel
theorem d_MK_run_55 : decode b_MK_run 55 = .ok (.iconst 1, 1) := by decide +kernel
theorem d_MK_run_56 : decode b_MK_run 56 = .ok (.goto 4, 3) := by decide +kernel
theorem d_MK_run_59 : decode b_MK_run 59 = .ok (.iconst 0, 1) := by decide +kernel
theorem d_MK_run_60 : decode b_MK_run 60 = .ok (.putfield 63, 3) := by decide +kernel
theorem d_MK_run_63 : decode b_MK_run 63 = .ok (.iload_n 2, 1) := by decide +kernel
theorem d_MK_run_64 : decode b_MK_run 64 = .ok (.ireturn, 1) := by decide +kernel
theorem d_Search_look_0 : decode b_Search_look 0 = .ok (.aload_n 0, 1) := by decide +kernel
theorem d_Search_look_1 : decode b_Search_look 1 = .ok (.iconst 0, 1) := by decide +kernel
theorem d_Search_look_2 : decode b_Search_look 2 = .ok (.putfield 19, 3) := by decide +kernel
theorem d_Search_look_5 : decode b_Search_look 5 = .ok (.aload_n 0, 1) := by decide +kernel
theorem d_Search_look_6 : decode b_Search_look 6 = .ok (.iconst 0, 1) := by decide +kernel
theorem d_Search_look_7 : decode b_Search_look 7 = .ok (.putfield 23, 3) := by decide +kernel
theorem d_Search_look_10 : decode b_Search_look 10 = .ok (.aload_n 0, 1) := by decide +kernel
theorem d_Search_look_11 : decode b_Search_look 11 = .ok (.iconst 0, 1) := by decide +kernel
theorem d_Search_look_12 : decode b_Search_look 12 = .ok (.putfield 26, 3) := by decide +kernel
theorem d_Search_look_15 : decode b_Search_look 15 = .ok (.aload_n 0, 1) := by decide +kernel
theorem d_Search_look_16 : decode b_Search_look 16 = .ok (.getfield 15, 3) := by decide +kernel
theorem d_Search_look_19 : decode b_Search_look 19 = .ok (.getfield 29, 3) := by decide +kernel
theorem d_Search_look_22 : decode b_Search_look 22 = .ok (.aload_n 0, 1) := by decide +kernel
theorem d_Search_look_23 : decode b_Search_look 23 = .ok (.getfield 23, 3) := by decide +kernel
theorem d_Search_look_26 : decode b_Search_look 26 = .ok (.aaload, 1) := by decide +kernel
theorem d_Search_look_27 : decode b_Search_look 27 = .ok (.aload_n 0, 1) := by decide +kernel
theorem d_Search_look_28 : decode b_Search_look 28 = .ok (.getfield 26, 3) := by decide +kernel
theorem d_Search_look_31 : decode b_Search_look 31 = .ok (.iconst (-1), 1) := by decide +kernel
theorem d_Search_look_32 : decode b_Search_look 32 = .ok (.iastore, 1) := by decide +kernel
theorem d_Search_look_33 : decode b_Search_look 33 = .ok (.aload_n 0, 1) := by decide +kernel
theorem d_Search_look_34 : decode b_Search_look 34 = .ok (.getfield 19, 3) := by decide +kernel
theorem d_Search_look_37 : decode b_Search_look 37 = .ok (.iload_n 1, 1) := by decide +kernel
theorem d_Search_look_38 : decode b_Search_look 38 = .ok (.if_icmp .ge 59, 3) := by decide +kernel
theorem d_Search_look_41 : decode b_Search_look 41 = .ok (.aload_n 0, 1) := by decide +kernel
theorem d_Search_look_42 : decode b_Search_look 42 = .ok (.dup, 1) := by decide +kernel
theorem d_Search_look_43 : decode b_Search_look 43 = .ok (.getfield 19, 3) := by decide +kernel
theorem d_Search_look_46 : decode b_Search_look 46 = .ok (.iconst 1, 1) := by decide +kernel
theorem d_Search_look_47 : decode b_Search_look 47 = .ok (.iadd, 1) := by decide +kernel
theorem d_Search_look_48 : decode b_Search_look 48 = .ok (.putfield 19, 3) := by decide +kernel
theorem d_Search_look_51 : decode b_Search_look 51 = .ok (.aload_n 0, 1) := by decide +kernel
theorem d_Search_look_52 : decode b_Search_look 52 = .ok (.getfield 15, 3) := by decide +kernel
theorem d_Search_look_55 : decode b_Search_look 55 = .ok (.getfield 29, 3) := by decide +kernel
theorem d_Search_look_58 : decode b_Search_look 58 = .ok (.aload_n 0, 1) := by decide +kernel
theorem d_Search_look_59 : decode b_Search_look 59 = .ok (.getfield 23, 3) := by decide +kernel
theorem d_Search_look_62 : decode b_Search_look 62 = .ok (.aaload, 1) := by decide +kernel
theorem d_Search_look_63 : decode b_Search_look 63 = .ok (.aload_n 0, 1) := by decide +kernel
theorem d_Search_look_64 : decode b_Search_look 64 = .ok (.getfield 26, 3) := by decide +kernel
theorem d_Search_look_67 : decode b_Search_look 67 = .ok (.dup2, 1) := by decide +kernel
theorem d_Search_look_68 : decode b_Search_look 68 = .ok (.iaload, 1) := by decide +kernel
theorem d_Search_look_69 : decode b_Search_look 69 = .ok (.iconst 1, 1) := by decide +kernel
theorem d_Search_look_70 : decode b_Search_look 70 = .ok (.iadd, 1) := by decide +kernel
theorem d_Search_look_71 : decode b_Search_look 71 = .ok (.iastore, 1) := by decide +kernel
theorem d_Search_look_72 : decode b_Search_look 72 = .ok (.aload_n 0, 1) := by decide +kernel
theorem d_Search_look_73 : decode b_Search_look 73 = .ok (.invokevirtual 35, 3) := by decide +kernel
theorem d_Search_look_76 : decode b_Search_look 76 = .ok (.ifCond .ne 12, 3) := by decide +kernel
theorem d_Search_look_79 : decode b_Search_look 79 = .ok (.aload_n 0, 1) := by decide +kernel
theorem d_Search_look_80 : decode b_Search_look 80 = .ok (.invokevirtual 39, 3) := by decide +kernel
theorem d_Search_look_83 : decode b_Search_look 83 = .ok (.ifCond .ne (-50), 3) := by decide +kernel
theorem d_Search_look_86 : decode b_Search_look 86 = .ok (.iconst 0, 1) := by decide +kernel
theorem d_Search_look_87 : decode b_Search_look 87 = .ok (.ireturn, 1) := by decide +kernel
theorem d_Search_look_88 : decode b_Search_look 88 = .ok (.aload_n 0, 1) := by decide +kernel
theorem d_Search_look_89 : decode b_Search_look 89 = .ok (.invokevirtual 42, 3) := by decide +kernel
theorem d_Search_look_92 : decode b_Search_look 92 = .ok (.ifCond .ne (-59), 3) := by decide +kernel
theorem d_Search_look_95 : decode b_Search_look 95 = .ok (.iconst 1, 1) := by decide +kernel
theorem d_Search_look_96 : decode b_Search_look 96 = .ok (.ireturn, 1) := by decide +kernel
theorem d_Search_look_97 : decode b_Search_look 97 = .ok (.iconst 2, 1) := by decide +kernel
theorem d_Search_look_98 : decode b_Search_look 98 = .ok (.ireturn, 1) := by decide +kernel
theorem d_Search_stands_0 : decode b_Search_stands 0 = .ok (.aload_n 0, 1) := by decide +kernel
theorem d_Search_stands_1 : decode b_Search_stands 1 = .ok (.getfield 15, 3) := by decide +kernel
theorem d_Search_stands_4 : decode b_Search_stands 4 = .ok (.getfield 29, 3) := by decide +kernel
theorem d_Search_stands_7 : decode b_Search_stands 7 = .ok (.aload_n 0, 1) := by decide +kernel
theorem d_Search_stands_8 : decode b_Search_stands 8 = .ok (.getfield 23, 3) := by decide +kernel
theorem d_Search_stands_11 : decode b_Search_stands 11 = .ok (.aaload, 1) := by decide +kernel
theorem d_Search_stands_12 : decode b_Search_stands 12 = .ok (.astore_n 1, 1) := by decide +kernel
theorem d_Search_stands_13 : decode b_Search_stands 13 = .ok (.aload_n 0, 1) := by decide +kernel
theorem d_Search_stands_14 : decode b_Search_stands 14 = .ok (.getfield 26, 3) := by decide +kernel
theorem d_Search_stands_17 : decode b_Search_stands 17 = .ok (.ifCond .le 29, 3) := by decide +kernel
theorem d_Search_stands_20 : decode b_Search_stands 20 = .ok (.aload_n 0, 1) := by decide +kernel
theorem d_Search_stands_21 : decode b_Search_stands 21 = .ok (.getfield 9, 3) := by decide +kernel
theorem d_Search_stands_24 : decode b_Search_stands 24 = .ok (.aload_n 1, 1) := by decide +kernel
theorem d_Search_stands_25 : decode b_Search_stands 25 = .ok (.aload_n 0, 1) := by decide +kernel
theorem d_Search_stands_26 : decode b_Search_stands 26 = .ok (.getfield 26, 3) := by decide +kernel
theorem d_Search_stands_29 : decode b_Search_stands 29 = .ok (.iconst 1, 1) := by decide +kernel
theorem d_Search_stands_30 : decode b_Search_stands 30 = .ok (.isub, 1) := by decide +kernel
theorem d_Search_stands_31 : decode b_Search_stands 31 = .ok (.iaload, 1) := by decide +kernel
theorem d_Search_stands_32 : decode b_Search_stands 32 = .ok (.aload_n 1, 1) := by decide +kernel
theorem d_Search_stands_33 : decode b_Search_stands 33 = .ok (.aload_n 0, 1) := by decide +kernel
theorem d_Search_stands_34 : decode b_Search_stands 34 = .ok (.getfield 26, 3) := by decide +kernel
theorem d_Search_stands_37 : decode b_Search_stands 37 = .ok (.iaload, 1) := by decide +kernel
theorem d_Search_stands_38 : decode b_Search_stands 38 = .ok (.invokevirtual 45, 3) := by decide +kernel
theorem d_Search_stands_41 : decode b_Search_stands 41 = .ok (.ifCond .ne 5, 3) := by decide +kernel
theorem d_Search_stands_44 : decode b_Search_stands 44 = .ok (.iconst 0, 1) := by decide +kernel
theorem d_Search_stands_45 : decode b_Search_stands 45 = .ok (.ireturn, 1) := by decide +kernel
theorem d_Search_stands_46 : decode b_Search_stands 46 = .ok (.aload_n 0, 1) := by decide +kernel
theorem d_Search_stands_47 : decode b_Search_stands 47 = .ok (.getfield 26, 3) := by decide +kernel
theorem d_Search_stands_50 : decode b_Search_stands 50 = .ok (.aload_n 0, 1) := by decide +kernel
theorem d_Search_stands_51 : decode b_Search_stands 51 = .ok (.getfield 9, 3) := by decide +kernel
theorem d_Search_stands_54 : decode b_Search_stands 54 = .ok (.getfield 51, 3) := by decide +kernel
theorem d_Search_stands_57 : decode b_Search_stands 57 = .ok (.iconst 1, 1) := by decide +kernel
theorem d_Search_stands_58 : decode b_Search_stands 58 = .ok (.isub, 1) := by decide +kernel
theorem d_Search_stands_59 : decode b_Search_stands 59 = .ok (.if_icmp .lt 17, 3) := by decide +kernel
theorem d_Search_stands_62 : decode b_Search_stands 62 = .ok (.aload_n 0, 1) := by decide +kernel
theorem d_Search_stands_63 : decode b_Search_stands 63 = .ok (.getfield 15, 3) := by decide +kernel
theorem d_Search_stands_66 : decode b_Search_stands 66 = .ok (.aload_n 0, 1) := by decide +kernel
theorem d_Search_stands_67 : decode b_Search_stands 67 = .ok (.getfield 23, 3) := by decide +kernel
theorem d_Search_stands_70 : decode b_Search_stands 70 = .ok (.invokevirtual 54, 3) := by decide +kernel
theorem d_Search_stands_73 : decode b_Search_stands 73 = .ok (.ifCond .eq 7, 3) := by decide +kernel
theorem d_Search_stands_76 : decode b_Search_stands 76 = .ok (.iconst 1, 1) := by decide +kernel
theorem d_Search_stands_77 : decode b_Search_stands 77 = .ok (.goto 4, 3) := by decide +kernel
theorem d_Search_stands_80 : decode b_Search_stands 80 = .ok (.iconst 0, 1) := by decide +kernel
theorem d_Search_stands_81 : decode b_Search_stands 81 = .ok (.ireturn, 1) := by decide +kernel
theorem d_Law_mayFollow_0 : decode b_Law_mayFollow 0 = .ok (.iload_n 2, 1) := by decide +kernel
theorem d_Law_mayFollow_1 : decode b_Law_mayFollow 1 = .ok (.iload_n 1, 1) := by decide +kernel
theorem d_Law_mayFollow_2 : decode b_Law_mayFollow 2 = .ok (.isub, 1) := by decide +kernel
theorem d_Law_mayFollow_3 : decode b_Law_mayFollow 3 = .ok (.invokestatic 34, 3) := by decide +kernel
theorem d_Law_mayFollow_6 : decode b_Law_mayFollow 6 = .ok (.aload_n 0, 1) := by decide +kernel
theorem d_Law_mayFollow_7 : decode b_Law_mayFollow 7 = .ok (.getfield 9, 3) := by decide +kernel
theorem d_Law_mayFollow_10 : decode b_Law_mayFollow 10 = .ok (.if_icmp .gt 16, 3) := by decide +kernel
theorem d_Law_mayFollow_13 : decode b_Law_mayFollow 13 = .ok (.aload_n 0, 1) := by decide +kernel
theorem d_Law_mayFollow_14 : decode b_Law_mayFollow 14 = .ok (.iload_n 1, 1) := by decide +kernel
theorem d_Law_mayFollow_15 : decode b_Law_mayFollow 15 = .ok (.iload_n 2, 1) := by decide +kernel
theorem d_Law_mayFollow_16 : decode b_Law_mayFollow 16 = .ok (.invokevirtual 40, 3) := by decide +kernel
theorem d_Law_mayFollow_19 : decode b_Law_mayFollow 19 = .ok (.ifCond .ne 7, 3) := by decide +kernel
theorem d_Law_mayFollow_22 : decode b_Law_mayFollow 22 = .ok (.iconst 1, 1) := by decide +kernel
theorem d_Law_mayFollow_23 : decode b_Law_mayFollow 23 = .ok (.goto 4, 3) := by decide +kernel
theorem d_Law_mayFollow_26 : decode b_Law_mayFollow 26 = .ok (.iconst 0, 1) := by decide +kernel
theorem d_Law_mayFollow_27 : decode b_Law_mayFollow 27 = .ok (.ireturn, 1) := by decide +kernel
theorem d_Board_accepts_0 : decode b_Board_accepts 0 = .ok (.aload_n 0, 1) := by decide +kernel
theorem d_Board_accepts_1 : decode b_Board_accepts 1 = .ok (.iload_n 1, 1) := by decide +kernel
theorem d_Board_accepts_2 : decode b_Board_accepts 2 = .ok (.invokevirtual 56, 3) := by decide +kernel
theorem d_Board_accepts_5 : decode b_Board_accepts 5 = .ok (.lstore_n 2, 1) := by decide +kernel
theorem d_Board_accepts_6 : decode b_Board_accepts 6 = .ok (.aload_n 0, 1) := by decide +kernel
theorem d_Board_accepts_7 : decode b_Board_accepts 7 = .ok (.lload_n 2, 1) := by decide +kernel
theorem d_Board_accepts_8 : decode b_Board_accepts 8 = .ok (.iload_n 1, 1) := by decide +kernel
theorem d_Board_accepts_9 : decode b_Board_accepts 9 = .ok (.invokevirtual 60, 3) := by decide +kernel
theorem d_Board_accepts_12 : decode b_Board_accepts 12 = .ok (.ifCond .eq 5, 3) := by decide +kernel
theorem d_Board_accepts_15 : decode b_Board_accepts 15 = .ok (.iconst 0, 1) := by decide +kernel
theorem d_Board_accepts_16 : decode b_Board_accepts 16 = .ok (.ireturn, 1) := by decide +kernel
theorem d_Board_accepts_17 : decode b_Board_accepts 17 = .ok (.aload_n 0, 1) := by decide +kernel
theorem d_Board_accepts_18 : decode b_Board_accepts 18 = .ok (.getfield 20, 3) := by decide +kernel
theorem d_Board_accepts_21 : decode b_Board_accepts 21 = .ok (.iload_n 1, 1) := by decide +kernel
theorem d_Board_accepts_22 : decode b_Board_accepts 22 = .ok (.lload_n 2, 1) := by decide +kernel
theorem d_Board_accepts_23 : decode b_Board_accepts 23 = .ok (.lastore, 1) := by decide +kernel
theorem d_Board_accepts_24 : decode b_Board_accepts 24 = .ok (.iconst 0, 1) := by decide +kernel
theorem d_Board_accepts_25 : decode b_Board_accepts 25 = .ok (.istore 4, 2) := by decide +kernel
theorem d_Board_accepts_27 : decode b_Board_accepts 27 = .ok (.iload 4, 2) := by decide +kernel
theorem d_Board_accepts_29 : decode b_Board_accepts 29 = .ok (.aload_n 0, 1) := by decide +kernel
theorem d_Board_accepts_30 : decode b_Board_accepts 30 = .ok (.getfield 33, 3) := by decide +kernel
theorem d_Board_accepts_33 : decode b_Board_accepts 33 = .ok (.if_icmp .ge 21, 3) := by decide +kernel
theorem d_Board_accepts_36 : decode b_Board_accepts 36 = .ok (.aload_n 0, 1) := by decide +kernel
theorem d_Board_accepts_37 : decode b_Board_accepts 37 = .ok (.iload 4, 2) := by decide +kernel
theorem d_Board_accepts_39 : decode b_Board_accepts 39 = .ok (.iload_n 1, 1) := by decide +kernel
theorem d_Board_accepts_40 : decode b_Board_accepts 40 = .ok (.invokevirtual 64, 3) := by decide +kernel
theorem d_Board_accepts_43 : decode b_Board_accepts 43 = .ok (.ifCond .ne 5, 3) := by decide +kernel
theorem d_Board_accepts_46 : decode b_Board_accepts 46 = .ok (.iconst 0, 1) := by decide +kernel
theorem d_Board_accepts_47 : decode b_Board_accepts 47 = .ok (.ireturn, 1) := by decide +kernel
theorem d_Board_accepts_48 : decode b_Board_accepts 48 = .ok (.iinc 4 1, 3) := by decide +kernel
theorem d_Board_accepts_51 : decode b_Board_accepts 51 = .ok (.goto (-24), 3) := by decide +kernel
theorem d_Board_accepts_54 : decode b_Board_accepts 54 = .ok (.iconst 1, 1) := by decide +kernel
theorem d_Board_accepts_55 : decode b_Board_accepts 55 = .ok (.ireturn, 1) := by decide +kernel
theorem d_Board_rowFromCuts_0 : decode b_Board_rowFromCuts 0 = .ok (.lconst 0, 1) := by decide +kernel
theorem d_Board_rowFromCuts_1 : decode b_Board_rowFromCuts 1 = .ok (.lstore_n 2, 1) := by decide +kernel
theorem d_Board_rowFromCuts_2 : decode b_Board_rowFromCuts 2 = .ok (.iconst 0, 1) := by decide +kernel
theorem d_Board_rowFromCuts_3 : decode b_Board_rowFromCuts 3 = .ok (.istore 4, 2) := by decide +kernel
theorem d_Board_rowFromCuts_5 : decode b_Board_rowFromCuts 5 = .ok (.iload 4, 2) := by decide +kernel
theorem d_Board_rowFromCuts_7 : decode b_Board_rowFromCuts 7 = .ok (.aload_n 0, 1) := by decide +kernel
theorem d_Board_rowFromCuts_8 : decode b_Board_rowFromCuts 8 = .ok (.getfield 29, 3) := by decide +kernel
theorem d_Board_rowFromCuts_11 : decode b_Board_rowFromCuts 11 = .ok (.getfield 79, 3) := by decide +kernel
theorem d_Board_rowFromCuts_14 : decode b_Board_rowFromCuts 14 = .ok (.if_icmp .ge 26, 3) := by decide +kernel
theorem d_Board_rowFromCuts_17 : decode b_Board_rowFromCuts 17 = .ok (.lload_n 2, 1) := by decide +kernel
theorem d_Board_rowFromCuts_18 : decode b_Board_rowFromCuts 18 = .ok (.iload 4, 2) := by decide +kernel
theorem d_Board_rowFromCuts_20 : decode b_Board_rowFromCuts 20 = .ok (.aload_n 0, 1) := by decide +kernel
theorem d_Board_rowFromCuts_21 : decode b_Board_rowFromCuts 21 = .ok (.getfield 17, 3) := by decide +kernel
theorem d_Board_rowFromCuts_24 : decode b_Board_rowFromCuts 24 = .ok (.iload_n 1, 1) := by decide +kernel
theorem d_Board_rowFromCuts_25 : decode b_Board_rowFromCuts 25 = .ok (.aaload, 1) := by decide +kernel
theorem d_Board_rowFromCuts_26 : decode b_Board_rowFromCuts 26 = .ok (.iload 4, 2) := by decide +kernel
theorem d_Board_rowFromCuts_28 : decode b_Board_rowFromCuts 28 = .ok (.iaload, 1) := by decide +kernel
theorem d_Board_rowFromCuts_29 : decode b_Board_rowFromCuts 29 = .ok (.invokestatic 37, 3) := by decide +kernel
theorem d_Board_rowFromCuts_32 : decode b_Board_rowFromCuts 32 = .ok (.lor, 1) := by decide +kernel
theorem d_Board_rowFromCuts_33 : decode b_Board_rowFromCuts 33 = .ok (.lstore_n 2, 1) := by decide +kernel
theorem d_Board_rowFromCuts_34 : decode b_Board_rowFromCuts 34 = .ok (.iinc 4 1, 3) := by decide +kernel
theorem d_Board_rowFromCuts_37 : decode b_Board_rowFromCuts 37 = .ok (.goto (-32), 3) := by decide +kernel
theorem d_Board_rowFromCuts_40 : decode b_Board_rowFromCuts 40 = .ok (.lload_n 2, 1) := by decide +kernel
theorem d_Board_rowFromCuts_41 : decode b_Board_rowFromCuts 41 = .ok (.lreturn, 1) := by decide +kernel
theorem d_Board_bit_0 : decode b_Board_bit 0 = .ok (.lconst 1, 1) := by decide +kernel
theorem d_Board_bit_1 : decode b_Board_bit 1 = .ok (.iload_n 0, 1) := by decide +kernel
theorem d_Board_bit_2 : decode b_Board_bit 2 = .ok (.bipush 8, 2) := by decide +kernel
theorem d_Board_bit_4 : decode b_Board_bit 4 = .ok (.imul, 1) := by decide +kernel
theorem d_Board_bit_5 : decode b_Board_bit 5 = .ok (.iload_n 1, 1) := by decide +kernel
theorem d_Board_bit_6 : decode b_Board_bit 6 = .ok (.iadd, 1) := by decide +kernel
theorem d_Board_bit_7 : decode b_Board_bit 7 = .ok (.lshl, 1) := by decide +kernel
theorem d_Board_bit_8 : decode b_Board_bit 8 = .ok (.lreturn, 1) := by decide +kernel
theorem d_Board_isTaken_0 : decode b_Board_isTaken 0 = .ok (.iconst 0, 1) := by decide +kernel
theorem d_Board_isTaken_1 : decode b_Board_isTaken 1 = .ok (.istore 4, 2) := by decide +kernel
theorem d_Board_isTaken_3 : decode b_Board_isTaken 3 = .ok (.iload 4, 2) := by decide +kernel
theorem d_Board_isTaken_5 : decode b_Board_isTaken 5 = .ok (.iload_n 3, 1) := by decide +kernel
theorem d_Board_isTaken_6 : decode b_Board_isTaken 6 = .ok (.if_icmp .ge 23, 3) := by decide +kernel
theorem d_Board_isTaken_9 : decode b_Board_isTaken 9 = .ok (.aload_n 0, 1) := by decide +kernel
theorem d_Board_isTaken_10 : decode b_Board_isTaken 10 = .ok (.getfield 20, 3) := by decide +kernel
theorem d_Board_isTaken_13 : decode b_Board_isTaken 13 = .ok (.iload 4, 2) := by decide +kernel
theorem d_Board_isTaken_15 : decode b_Board_isTaken 15 = .ok (.laload, 1) := by decide +kernel
theorem d_Board_isTaken_16 : decode b_Board_isTaken 16 = .ok (.lload_n 1, 1) := by decide +kernel
theorem d_Board_isTaken_17 : decode b_Board_isTaken 17 = .ok (.lcmp, 1) := by decide +kernel
theorem d_Board_isTaken_18 : decode b_Board_isTaken 18 = .ok (.ifCond .ne 5, 3) := by decide +kernel
theorem d_Board_isTaken_21 : decode b_Board_isTaken 21 = .ok (.iconst 1, 1) := by decide +kernel
theorem d_Board_isTaken_22 : decode b_Board_isTaken 22 = .ok (.ireturn, 1) := by decide +kernel
theorem d_Board_isTaken_23 : decode b_Board_isTaken 23 = .ok (.iinc 4 1, 3) := by decide +kernel
theorem d_Board_isTaken_26 : decode b_Board_isTaken 26 = .ok (.goto (-23), 3) := by decide +kernel
theorem d_Board_isTaken_29 : decode b_Board_isTaken 29 = .ok (.iconst 0, 1) := by decide +kernel
theorem d_Board_isTaken_30 : decode b_Board_isTaken 30 = .ok (.ireturn, 1) := by decide +kernel
theorem d_Board_doorAccepts_0 : decode b_Board_doorAccepts 0 = .ok (.aload_n 0, 1) := by decide +kernel
theorem d_Board_doorAccepts_1 : decode b_Board_doorAccepts 1 = .ok (.getfield 20, 3) := by decide +kernel
theorem d_Board_doorAccepts_4 : decode b_Board_doorAccepts 4 = .ok (.iload_n 2, 1) := by decide +kernel
theorem d_Board_doorAccepts_5 : decode b_Board_doorAccepts 5 = .ok (.laload, 1) := by decide +kernel
theorem d_Board_doorAccepts_6 : decode b_Board_doorAccepts 6 = .ok (.lstore_n 3, 1) := by decide +kernel
theorem d_Board_doorAccepts_7 : decode b_Board_doorAccepts 7 = .ok (.aload_n 0, 1) := by decide +kernel
theorem d_Board_doorAccepts_8 : decode b_Board_doorAccepts 8 = .ok (.getfield 26, 3) := by decide +kernel
theorem d_Board_doorAccepts_11 : decode b_Board_doorAccepts 11 = .ok (.iload_n 2, 1) := by decide +kernel
theorem d_Board_doorAccepts_12 : decode b_Board_doorAccepts 12 = .ok (.aaload, 1) := by decide +kernel
theorem d_Board_doorAccepts_13 : decode b_Board_doorAccepts 13 = .ok (.iload_n 1, 1) := by decide +kernel
theorem d_Board_doorAccepts_14 : decode b_Board_doorAccepts 14 = .ok (.laload, 1) := by decide +kernel
theorem d_Board_doorAccepts_15 : decode b_Board_doorAccepts 15 = .ok (.lstore 5, 2) := by decide +kernel
theorem d_Board_doorAccepts_17 : decode b_Board_doorAccepts 17 = .ok (.aload_n 0, 1) := by decide +kernel
theorem d_Board_doorAccepts_18 : decode b_Board_doorAccepts 18 = .ok (.iload_n 2, 1) := by decide +kernel
theorem d_Board_doorAccepts_19 : decode b_Board_doorAccepts 19 = .ok (.iload_n 1, 1) := by decide +kernel
theorem d_Board_doorAccepts_20 : decode b_Board_doorAccepts 20 = .ok (.invokevirtual 68, 3) := by decide +kernel
theorem d_Board_doorAccepts_23 : decode b_Board_doorAccepts 23 = .ok (.ifCond .eq 31, 3) := by decide +kernel
theorem d_Board_doorAccepts_26 : decode b_Board_doorAccepts 26 = .ok (.lload 5, 2) := by decide +kernel
theorem d_Board_doorAccepts_28 : decode b_Board_doorAccepts 28 = .ok (.lload_n 3, 1) := by decide +kernel
theorem d_Board_doorAccepts_29 : decode b_Board_doorAccepts 29 = .ok (.lor, 1) := by decide +kernel
theorem d_Board_doorAccepts_30 : decode b_Board_doorAccepts 30 = .ok (.lstore 5, 2) := by decide +kernel
theorem d_Board_doorAccepts_32 : decode b_Board_doorAccepts 32 = .ok (.aload_n 0, 1) := by decide +kernel
theorem d_Board_doorAccepts_33 : decode b_Board_doorAccepts 33 = .ok (.lload 5, 2) := by decide +kernel
theorem d_Board_doorAccepts_35 : decode b_Board_doorAccepts 35 = .ok (.invokevirtual 71, 3) := by decide +kernel
theorem d_Board_doorAccepts_38 : decode b_Board_doorAccepts 38 = .ok (.ifCond .ne 14, 3) := by decide +kernel
theorem d_Board_doorAccepts_41 : decode b_Board_doorAccepts 41 = .ok (.aload_n 0, 1) := by decide +kernel
theorem d_Board_doorAccepts_42 : decode b_Board_doorAccepts 42 = .ok (.lload 5, 2) := by decide +kernel
theorem d_Board_doorAccepts_44 : decode b_Board_doorAccepts 44 = .ok (.iload_n 1, 1) := by decide +kernel
theorem d_Board_doorAccepts_45 : decode b_Board_doorAccepts 45 = .ok (.iload_n 2, 1) := by decide +kernel
theorem d_Board_doorAccepts_46 : decode b_Board_doorAccepts 46 = .ok (.invokevirtual 75, 3) := by decide +kernel
theorem d_Board_doorAccepts_49 : decode b_Board_doorAccepts 49 = .ok (.ifCond .eq 16, 3) := by decide +kernel
theorem d_Board_doorAccepts_52 : decode b_Board_doorAccepts 52 = .ok (.iconst 0, 1) := by decide +kernel
theorem d_Board_doorAccepts_53 : decode b_Board_doorAccepts 53 = .ok (.ireturn, 1) := by decide +kernel
theorem d_Board_doorAccepts_54 : decode b_Board_doorAccepts 54 = .ok (.lload_n 3, 1) := by decide +kernel
theorem d_Board_doorAccepts_55 : decode b_Board_doorAccepts 55 = .ok (.lload 5, 2) := by decide +kernel
theorem d_Board_doorAccepts_57 : decode b_Board_doorAccepts 57 = .ok (.invokestatic 48, 3) := by decide +kernel
theorem d_Board_doorAccepts_60 : decode b_Board_doorAccepts 60 = .ok (.ifCond .eq 5, 3) := by decide +kernel
theorem d_Board_doorAccepts_63 : decode b_Board_doorAccepts 63 = .ok (.iconst 0, 1) := by decide +kernel
theorem d_Board_doorAccepts_64 : decode b_Board_doorAccepts 64 = .ok (.ireturn, 1) := by decide +kernel
theorem d_Board_doorAccepts_65 : decode b_Board_doorAccepts 65 = .ok (.aload_n 0, 1) := by decide +kernel
theorem d_Board_doorAccepts_66 : decode b_Board_doorAccepts 66 = .ok (.getfield 26, 3) := by decide +kernel
theorem d_Board_doorAccepts_69 : decode b_Board_doorAccepts 69 = .ok (.iload_n 2, 1) := by decide +kernel
theorem d_Board_doorAccepts_70 : decode b_Board_doorAccepts 70 = .ok (.iconst 1, 1) := by decide +kernel
theorem d_Board_doorAccepts_71 : decode b_Board_doorAccepts 71 = .ok (.iadd, 1) := by decide +kernel
theorem d_Board_doorAccepts_72 : decode b_Board_doorAccepts 72 = .ok (.aaload, 1) := by decide +kernel
theorem d_Board_doorAccepts_73 : decode b_Board_doorAccepts 73 = .ok (.iload_n 1, 1) := by decide +kernel
theorem d_Board_doorAccepts_74 : decode b_Board_doorAccepts 74 = .ok (.lload 5, 2) := by decide +kernel
theorem d_Board_doorAccepts_76 : decode b_Board_doorAccepts 76 = .ok (.lastore, 1) := by decide +kernel
theorem d_Board_doorAccepts_77 : decode b_Board_doorAccepts 77 = .ok (.iconst 1, 1) := by decide +kernel
theorem d_Board_doorAccepts_78 : decode b_Board_doorAccepts 78 = .ok (.ireturn, 1) := by decide +kernel
theorem d_Board_isAboveTop_0 : decode b_Board_isAboveTop 0 = .ok (.iconst 0, 1) := by decide +kernel
theorem d_Board_isAboveTop_1 : decode b_Board_isAboveTop 1 = .ok (.istore_n 3, 1) := by decide +kernel
theorem d_Board_isAboveTop_2 : decode b_Board_isAboveTop 2 = .ok (.iload_n 3, 1) := by decide +kernel
theorem d_Board_isAboveTop_3 : decode b_Board_isAboveTop 3 = .ok (.aload_n 0, 1) := by decide +kernel
theorem d_Board_isAboveTop_4 : decode b_Board_isAboveTop 4 = .ok (.getfield 29, 3) := by decide +kernel
theorem d_Board_isAboveTop_7 : decode b_Board_isAboveTop 7 = .ok (.getfield 79, 3) := by decide +kernel
theorem d_Board_isAboveTop_10 : decode b_Board_isAboveTop 10 = .ok (.if_icmp .ge 34, 3) := by decide +kernel
theorem d_Board_isAboveTop_13 : decode b_Board_isAboveTop 13 = .ok (.lload_n 1, 1) := by decide +kernel
theorem d_Board_isAboveTop_14 : decode b_Board_isAboveTop 14 = .ok (.iload_n 3, 1) := by decide +kernel
theorem d_Board_isAboveTop_15 : decode b_Board_isAboveTop 15 = .ok (.bipush 8, 2) := by decide +kernel
theorem d_Board_isAboveTop_17 : decode b_Board_isAboveTop 17 = .ok (.imul, 1) := by decide +kernel
theorem d_Board_isAboveTop_18 : decode b_Board_isAboveTop 18 = .ok (.lushr, 1) := by decide +kernel
theorem d_Board_isAboveTop_19 : decode b_Board_isAboveTop 19 = .ok (.ldc2_w 84, 3) := by decide +kernel
theorem d_Board_isAboveTop_22 : decode b_Board_isAboveTop 22 = .ok (.land, 1) := by decide +kernel
theorem d_Board_isAboveTop_23 : decode b_Board_isAboveTop 23 = .ok (.invokestatic 86, 3) := by decide +kernel
theorem d_Board_isAboveTop_26 : decode b_Board_isAboveTop 26 = .ok (.aload_n 0, 1) := by decide +kernel
theorem d_Board_isAboveTop_27 : decode b_Board_isAboveTop 27 = .ok (.getfield 29, 3) := by decide +kernel
theorem d_Board_isAboveTop_30 : decode b_Board_isAboveTop 30 = .ok (.getfield 91, 3) := by decide +kernel
theorem d_Board_isAboveTop_33 : decode b_Board_isAboveTop 33 = .ok (.if_icmp .le 5, 3) := by decide +kernel
theorem d_Board_isAboveTop_36 : decode b_Board_isAboveTop 36 = .ok (.iconst 1, 1) := by decide +kernel
theorem d_Board_isAboveTop_37 : decode b_Board_isAboveTop 37 = .ok (.ireturn, 1) := by decide +kernel
theorem d_Board_isAboveTop_38 : decode b_Board_isAboveTop 38 = .ok (.iinc 3 1, 3) := by decide +kernel
theorem d_Board_isAboveTop_41 : decode b_Board_isAboveTop 41 = .ok (.goto (-39), 3) := by decide +kernel
theorem d_Board_isAboveTop_44 : decode b_Board_isAboveTop 44 = .ok (.iconst 0, 1) := by decide +kernel
theorem d_Board_isAboveTop_45 : decode b_Board_isAboveTop 45 = .ok (.ireturn, 1) := by decide +kernel
theorem d_JL_bitCount_0 : decode b_JL_bitCount 0 = .ok (.lload_n 0, 1) := by decide +kernel
theorem d_JL_bitCount_1 : decode b_JL_bitCount 1 = .ok (.lload_n 0, 1) := by decide +kernel
theorem d_JL_bitCount_2 : decode b_JL_bitCount 2 = .ok (.iconst 1, 1) := by decide +kernel
theorem d_JL_bitCount_3 : decode b_JL_bitCount 3 = .ok (.lushr, 1) := by decide +kernel
theorem d_JL_bitCount_4 : decode b_JL_bitCount 4 = .ok (.ldc2_w 314, 3) := by decide +kernel
theorem d_JL_bitCount_7 : decode b_JL_bitCount 7 = .ok (.land, 1) := by decide +kernel
theorem d_JL_bitCount_8 : decode b_JL_bitCount 8 = .ok (.lsub, 1) := by decide +kernel
theorem d_JL_bitCount_9 : decode b_JL_bitCount 9 = .ok (.lstore_n 0, 1) := by decide +kernel
theorem d_JL_bitCount_10 : decode b_JL_bitCount 10 = .ok (.lload_n 0, 1) := by decide +kernel
theorem d_JL_bitCount_11 : decode b_JL_bitCount 11 = .ok (.ldc2_w 316, 3) := by decide +kernel
theorem d_JL_bitCount_14 : decode b_JL_bitCount 14 = .ok (.land, 1) := by decide +kernel
theorem d_JL_bitCount_15 : decode b_JL_bitCount 15 = .ok (.lload_n 0, 1) := by decide +kernel
theorem d_JL_bitCount_16 : decode b_JL_bitCount 16 = .ok (.iconst 2, 1) := by decide +kernel
theorem d_JL_bitCount_17 : decode b_JL_bitCount 17 = .ok (.lushr, 1) := by decide +kernel
theorem d_JL_bitCount_18 : decode b_JL_bitCount 18 = .ok (.ldc2_w 316, 3) := by decide +kernel
theorem d_JL_bitCount_21 : decode b_JL_bitCount 21 = .ok (.land, 1) := by decide +kernel
theorem d_JL_bitCount_22 : decode b_JL_bitCount 22 = .ok (.ladd, 1) := by decide +kernel
theorem d_JL_bitCount_23 : decode b_JL_bitCount 23 = .ok (.lstore_n 0, 1) := by decide +kernel
theorem d_JL_bitCount_24 : decode b_JL_bitCount 24 = .ok (.lload_n 0, 1) := by decide +kernel
theorem d_JL_bitCount_25 : decode b_JL_bitCount 25 = .ok (.lload_n 0, 1) := by decide +kernel
theorem d_JL_bitCount_26 : decode b_JL_bitCount 26 = .ok (.iconst 4, 1) := by decide +kernel
theorem d_JL_bitCount_27 : decode b_JL_bitCount 27 = .ok (.lushr, 1) := by decide +kernel
theorem d_JL_bitCount_28 : decode b_JL_bitCount 28 = .ok (.ladd, 1) := by decide +kernel
theorem d_JL_bitCount_29 : decode b_JL_bitCount 29 = .ok (.ldc2_w 318, 3) := by decide +kernel
theorem d_JL_bitCount_32 : decode b_JL_bitCount 32 = .ok (.land, 1) := by decide +kernel
theorem d_JL_bitCount_33 : decode b_JL_bitCount 33 = .ok (.lstore_n 0, 1) := by decide +kernel
theorem d_JL_bitCount_34 : decode b_JL_bitCount 34 = .ok (.lload_n 0, 1) := by decide +kernel
theorem d_JL_bitCount_35 : decode b_JL_bitCount 35 = .ok (.lload_n 0, 1) := by decide +kernel
theorem d_JL_bitCount_36 : decode b_JL_bitCount 36 = .ok (.bipush 8, 2) := by decide +kernel
theorem d_JL_bitCount_38 : decode b_JL_bitCount 38 = .ok (.lushr, 1) := by decide +kernel
theorem d_JL_bitCount_39 : decode b_JL_bitCount 39 = .ok (.ladd, 1) := by decide +kernel
theorem d_JL_bitCount_40 : decode b_JL_bitCount 40 = .ok (.lstore_n 0, 1) := by decide +kernel
theorem d_JL_bitCount_41 : decode b_JL_bitCount 41 = .ok (.lload_n 0, 1) := by decide +kernel
theorem d_JL_bitCount_42 : decode b_JL_bitCount 42 = .ok (.lload_n 0, 1) := by decide +kernel
theorem d_JL_bitCount_43 : decode b_JL_bitCount 43 = .ok (.bipush 16, 2) := by decide +kernel
theorem d_JL_bitCount_45 : decode b_JL_bitCount 45 = .ok (.lushr, 1) := by decide +kernel
theorem d_JL_bitCount_46 : decode b_JL_bitCount 46 = .ok (.ladd, 1) := by decide +kernel
theorem d_JL_bitCount_47 : decode b_JL_bitCount 47 = .ok (.lstore_n 0, 1) := by decide +kernel
theorem d_JL_bitCount_48 : decode b_JL_bitCount 48 = .ok (.lload_n 0, 1) := by decide +kernel
theorem d_JL_bitCount_49 : decode b_JL_bitCount 49 = .ok (.lload_n 0, 1) := by decide +kernel
theorem d_JL_bitCount_50 : decode b_JL_bitCount 50 = .ok (.bipush 32, 2) := by decide +kernel
theorem d_JL_bitCount_52 : decode b_JL_bitCount 52 = .ok (.lushr, 1) := by decide +kernel
theorem d_JL_bitCount_53 : decode b_JL_bitCount 53 = .ok (.ladd, 1) := by decide +kernel
theorem d_JL_bitCount_54 : decode b_JL_bitCount 54 = .ok (.lstore_n 0, 1) := by decide +kernel
theorem d_JL_bitCount_55 : decode b_JL_bitCount 55 = .ok (.lload_n 0, 1) := by decide +kernel
theorem d_JL_bitCount_56 : decode b_JL_bitCount 56 = .ok (.l2i, 1) := by decide +kernel
theorem d_JL_bitCount_57 : decode b_JL_bitCount 57 = .ok (.bipush 127, 2) := by decide +kernel
theorem d_JL_bitCount_59 : decode b_JL_bitCount 59 = .ok (.iand, 1) := by decide +kernel
theorem d_JL_bitCount_60 : decode b_JL_bitCount 60 = .ok (.ireturn, 1) := by decide +kernel
theorem d_Board_strangerFits_0 : decode b_Board_strangerFits 0 = .ok (.iconst 0, 1) := by decide +kernel
theorem d_Board_strangerFits_1 : decode b_Board_strangerFits 1 = .ok (.istore 5, 2) := by decide +kernel
theorem d_Board_strangerFits_3 : decode b_Board_strangerFits 3 = .ok (.iload 5, 2) := by decide +kernel
theorem d_Board_strangerFits_5 : decode b_Board_strangerFits 5 = .ok (.iload 4, 2) := by decide +kernel
theorem d_Board_strangerFits_7 : decode b_Board_strangerFits 7 = .ok (.if_icmp .ge 35, 3) := by decide +kernel
theorem d_Board_strangerFits_10 : decode b_Board_strangerFits 10 = .ok (.aload_n 0, 1) := by decide +kernel
theorem d_Board_strangerFits_11 : decode b_Board_strangerFits 11 = .ok (.iload 5, 2) := by decide +kernel
theorem d_Board_strangerFits_13 : decode b_Board_strangerFits 13 = .ok (.iload_n 3, 1) := by decide +kernel
theorem d_Board_strangerFits_14 : decode b_Board_strangerFits 14 = .ok (.invokevirtual 68, 3) := by decide +kernel
theorem d_Board_strangerFits_17 : decode b_Board_strangerFits 17 = .ok (.ifCond .ne 19, 3) := by decide +kernel
theorem d_Board_strangerFits_20 : decode b_Board_strangerFits 20 = .ok (.aload_n 0, 1) := by decide +kernel
theorem d_Board_strangerFits_21 : decode b_Board_strangerFits 21 = .ok (.getfield 20, 3) := by decide +kernel
theorem d_Board_strangerFits_24 : decode b_Board_strangerFits 24 = .ok (.iload 5, 2) := by decide +kernel
theorem d_Board_strangerFits_26 : decode b_Board_strangerFits 26 = .ok (.laload, 1) := by decide +kernel
theorem d_Board_strangerFits_27 : decode b_Board_strangerFits 27 = .ok (.lload_n 1, 1) := by decide +kernel
theorem d_Board_strangerFits_28 : decode b_Board_strangerFits 28 = .ok (.invokestatic 48, 3) := by decide +kernel
theorem d_Board_strangerFits_31 : decode b_Board_strangerFits 31 = .ok (.ifCond .eq 5, 3) := by decide +kernel
theorem d_Board_strangerFits_34 : decode b_Board_strangerFits 34 = .ok (.iconst 1, 1) := by decide +kernel
theorem d_Board_strangerFits_35 : decode b_Board_strangerFits 35 = .ok (.ireturn, 1) := by decide +kernel
theorem d_Board_strangerFits_36 : decode b_Board_strangerFits 36 = .ok (.iinc 5 1, 3) := by decide +kernel
theorem d_Board_strangerFits_39 : decode b_Board_strangerFits 39 = .ok (.goto (-36), 3) := by decide +kernel
theorem d_Board_strangerFits_42 : decode b_Board_strangerFits 42 = .ok (.iconst 0, 1) := by decide +kernel
theorem d_Board_strangerFits_43 : decode b_Board_strangerFits 43 = .ok (.ireturn, 1) := by decide +kernel
theorem d_Search_goBack_0 : decode b_Search_goBack 0 = .ok (.aload_n 0, 1) := by decide +kernel
theorem d_Search_goBack_1 : decode b_Search_goBack 1 = .ok (.getfield 23, 3) := by decide +kernel
theorem d_Search_goBack_4 : decode b_Search_goBack 4 = .ok (.ifCond .lt 80, 3) := by decide +kernel
theorem d_Search_goBack_7 : decode b_Search_goBack 7 = .ok (.aload_n 0, 1) := by decide +kernel
theorem d_Search_goBack_8 : decode b_Search_goBack 8 = .ok (.getfield 26, 3) := by decide +kernel
theorem d_Search_goBack_11 : decode b_Search_goBack 11 = .ok (.ifCond .lt 47, 3) := by decide +kernel
theorem d_Search_goBack_14 : decode b_Search_goBack 14 = .ok (.aload_n 0, 1) := by decide +kernel
theorem d_Search_goBack_15 : decode b_Search_goBack 15 = .ok (.getfield 15, 3) := by decide +kernel
theorem d_Search_goBack_18 : decode b_Search_goBack 18 = .ok (.getfield 29, 3) := by decide +kernel
theorem d_Search_goBack_21 : decode b_Search_goBack 21 = .ok (.aload_n 0, 1) := by decide +kernel
theorem d_Search_goBack_22 : decode b_Search_goBack 22 = .ok (.getfield 23, 3) := by decide +kernel
theorem d_Search_goBack_25 : decode b_Search_goBack 25 = .ok (.aaload, 1) := by decide +kernel
theorem d_Search_goBack_26 : decode b_Search_goBack 26 = .ok (.aload_n 0, 1) := by decide +kernel
theorem d_Search_goBack_27 : decode b_Search_goBack 27 = .ok (.getfield 26, 3) := by decide +kernel
theorem d_Search_goBack_30 : decode b_Search_goBack 30 = .ok (.iaload, 1) := by decide +kernel
theorem d_Search_goBack_31 : decode b_Search_goBack 31 = .ok (.aload_n 0, 1) := by decide +kernel
theorem d_Search_goBack_32 : decode b_Search_goBack 32 = .ok (.getfield 9, 3) := by decide +kernel
theorem d_Search_goBack_35 : decode b_Search_goBack 35 = .ok (.getfield 61, 3) := by decide +kernel
theorem d_Search_goBack_38 : decode b_Search_goBack 38 = .ok (.iconst 1, 1) := by decide +kernel
theorem d_Search_goBack_39 : decode b_Search_goBack 39 = .ok (.isub, 1) := by decide +kernel
theorem d_Search_goBack_40 : decode b_Search_goBack 40 = .ok (.if_icmp .ge 5, 3) := by decide +kernel
theorem d_Search_goBack_43 : decode b_Search_goBack 43 = .ok (.iconst 1, 1) := by decide +kernel
theorem d_Search_goBack_44 : decode b_Search_goBack 44 = .ok (.ireturn, 1) := by decide +kernel
theorem d_Search_goBack_45 : decode b_Search_goBack 45 = .ok (.aload_n 0, 1) := by decide +kernel
theorem d_Search_goBack_46 : decode b_Search_goBack 46 = .ok (.dup, 1) := by decide +kernel
theorem d_Search_goBack_47 : decode b_Search_goBack 47 = .ok (.getfield 26, 3) := by decide +kernel
theorem d_Search_goBack_50 : decode b_Search_goBack 50 = .ok (.iconst 1, 1) := by decide +kernel
theorem d_Search_goBack_51 : decode b_Search_goBack 51 = .ok (.isub, 1) := by decide +kernel
theorem d_Search_goBack_52 : decode b_Search_goBack 52 = .ok (.putfield 26, 3) := by decide +kernel
theorem d_Search_goBack_55 : decode b_Search_goBack 55 = .ok (.goto (-48), 3) := by decide +kernel
theorem d_Search_goBack_58 : decode b_Search_goBack 58 = .ok (.aload_n 0, 1) := by decide +kernel
theorem d_Search_goBack_59 : decode b_Search_goBack 59 = .ok (.aload_n 0, 1) := by decide +kernel
theorem d_Search_goBack_60 : decode b_Search_goBack 60 = .ok (.getfield 9, 3) := by decide +kernel
theorem d_Search_goBack_63 : decode b_Search_goBack 63 = .ok (.getfield 51, 3) := by decide +kernel
theorem d_Search_goBack_66 : decode b_Search_goBack 66 = .ok (.iconst 1, 1) := by decide +kernel
theorem d_Search_goBack_67 : decode b_Search_goBack 67 = .ok (.isub, 1) := by decide +kernel
theorem d_Search_goBack_68 : decode b_Search_goBack 68 = .ok (.putfield 26, 3) := by decide +kernel
theorem d_Search_goBack_71 : decode b_Search_goBack 71 = .ok (.aload_n 0, 1) := by decide +kernel
theorem d_Search_goBack_72 : decode b_Search_goBack 72 = .ok (.dup, 1) := by decide +kernel
theorem d_Search_goBack_73 : decode b_Search_goBack 73 = .ok (.getfield 23, 3) := by decide +kernel
theorem d_Search_goBack_76 : decode b_Search_goBack 76 = .ok (.iconst 1, 1) := by decide +kernel
theorem d_Search_goBack_77 : decode b_Search_goBack 77 = .ok (.isub, 1) := by decide +kernel
theorem d_Search_goBack_78 : decode b_Search_goBack 78 = .ok (.putfield 23, 3) := by decide +kernel
theorem d_Search_goBack_81 : decode b_Search_goBack 81 = .ok (.goto (-81), 3) := by decide +kernel
theorem d_Search_goBack_84 : decode b_Search_goBack 84 = .ok (.iconst 0, 1) := by decide +kernel
theorem d_Search_goBack_85 : decode b_Search_goBack 85 = .ok (.ireturn, 1) := by decide +kernel
theorem d_Search_goOn_0 : decode b_Search_goOn 0 = .ok (.aload_n 0, 1) := by decide +kernel
theorem d_Search_goOn_1 : decode b_Search_goOn 1 = .ok (.getfield 26, 3) := by decide +kernel
theorem d_Search_goOn_4 : decode b_Search_goOn 4 = .ok (.aload_n 0, 1) := by decide +kernel
theorem d_Search_goOn_5 : decode b_Search_goOn 5 = .ok (.getfield 9, 3) := by decide +kernel
theorem d_Search_goOn_8 : decode b_Search_goOn 8 = .ok (.getfield 51, 3) := by decide +kernel
theorem d_Search_goOn_11 : decode b_Search_goOn 11 = .ok (.iconst 1, 1) := by decide +kernel
theorem d_Search_goOn_12 : decode b_Search_goOn 12 = .ok (.isub, 1) := by decide +kernel
theorem d_Search_goOn_13 : decode b_Search_goOn 13 = .ok (.if_icmp .ge 16, 3) := by decide +kernel
theorem d_Search_goOn_16 : decode b_Search_goOn 16 = .ok (.aload_n 0, 1) := by decide +kernel
theorem d_Search_goOn_17 : decode b_Search_goOn 17 = .ok (.dup, 1) := by decide +kernel
theorem d_Search_goOn_18 : decode b_Search_goOn 18 = .ok (.getfield 26, 3) := by decide +kernel
theorem d_Search_goOn_21 : decode b_Search_goOn 21 = .ok (.iconst 1, 1) := by decide +kernel
theorem d_Search_goOn_22 : decode b_Search_goOn 22 = .ok (.iadd, 1) := by decide +kernel
theorem d_Search_goOn_23 : decode b_Search_goOn 23 = .ok (.putfield 26, 3) := by decide +kernel
theorem d_Search_goOn_26 : decode b_Search_goOn 26 = .ok (.goto 39, 3) := by decide +kernel
theorem d_Search_goOn_29 : decode b_Search_goOn 29 = .ok (.aload_n 0, 1) := by decide +kernel
theorem d_Search_goOn_30 : decode b_Search_goOn 30 = .ok (.getfield 23, 3) := by decide +kernel
theorem d_Search_goOn_33 : decode b_Search_goOn 33 = .ok (.aload_n 0, 1) := by decide +kernel
theorem d_Search_goOn_34 : decode b_Search_goOn 34 = .ok (.getfield 15, 3) := by decide +kernel
theorem d_Search_goOn_37 : decode b_Search_goOn 37 = .ok (.getfield 58, 3) := by decide +kernel
theorem d_Search_goOn_40 : decode b_Search_goOn 40 = .ok (.iconst 1, 1) := by decide +kernel
theorem d_Search_goOn_41 : decode b_Search_goOn 41 = .ok (.isub, 1) := by decide +kernel
theorem d_Search_goOn_42 : decode b_Search_goOn 42 = .ok (.if_icmp .ge 21, 3) := by decide +kernel
theorem d_Search_goOn_45 : decode b_Search_goOn 45 = .ok (.aload_n 0, 1) := by decide +kernel
theorem d_Search_goOn_46 : decode b_Search_goOn 46 = .ok (.dup, 1) := by decide +kernel
theorem d_Search_goOn_47 : decode b_Search_goOn 47 = .ok (.getfield 23, 3) := by decide +kernel
theorem d_Search_goOn_50 : decode b_Search_goOn 50 = .ok (.iconst 1, 1) := by decide +kernel
theorem d_Search_goOn_51 : decode b_Search_goOn 51 = .ok (.iadd, 1) := by decide +kernel
theorem d_Search_goOn_52 : decode b_Search_goOn 52 = .ok (.putfield 23, 3) := by decide +kernel
theorem d_Search_goOn_55 : decode b_Search_goOn 55 = .ok (.aload_n 0, 1) := by decide +kernel
theorem d_Search_goOn_56 : decode b_Search_goOn 56 = .ok (.iconst 0, 1) := by decide +kernel
theorem d_Search_goOn_57 : decode b_Search_goOn 57 = .ok (.putfield 26, 3) := by decide +kernel
theorem d_Search_goOn_60 : decode b_Search_goOn 60 = .ok (.goto 5, 3) := by decide +kernel
theorem d_Search_goOn_63 : decode b_Search_goOn 63 = .ok (.iconst 0, 1) := by decide +kernel
theorem d_Search_goOn_64 : decode b_Search_goOn 64 = .ok (.ireturn, 1) := by decide +kernel
theorem d_Search_goOn_65 : decode b_Search_goOn 65 = .ok (.aload_n 0, 1) := by decide +kernel
theorem d_Search_goOn_66 : decode b_Search_goOn 66 = .ok (.getfield 15, 3) := by decide +kernel
theorem d_Search_goOn_69 : decode b_Search_goOn 69 = .ok (.getfield 29, 3) := by decide +kernel
theorem d_Search_goOn_72 : decode b_Search_goOn 72 = .ok (.aload_n 0, 1) := by decide +kernel
theorem d_Search_goOn_73 : decode b_Search_goOn 73 = .ok (.getfield 23, 3) := by decide +kernel
theorem d_Search_goOn_76 : decode b_Search_goOn 76 = .ok (.aaload, 1) := by decide +kernel
theorem d_Search_goOn_77 : decode b_Search_goOn 77 = .ok (.aload_n 0, 1) := by decide +kernel
theorem d_Search_goOn_78 : decode b_Search_goOn 78 = .ok (.getfield 26, 3) := by decide +kernel
theorem d_Search_goOn_81 : decode b_Search_goOn 81 = .ok (.iconst (-1), 1) := by decide +kernel
theorem d_Search_goOn_82 : decode b_Search_goOn 82 = .ok (.iastore, 1) := by decide +kernel
theorem d_Search_goOn_83 : decode b_Search_goOn 83 = .ok (.iconst 1, 1) := by decide +kernel
theorem d_Search_goOn_84 : decode b_Search_goOn 84 = .ok (.ireturn, 1) := by decide +kernel
theorem d_MK_cut_0 : decode b_MK_cut 0 = .ok (.aload_n 0, 1) := by decide +kernel
theorem d_MK_cut_1 : decode b_MK_cut 1 = .ok (.iload_n 1, 1) := by decide +kernel
theorem d_MK_cut_2 : decode b_MK_cut 2 = .ok (.invokevirtual 72, 3) := by decide +kernel
theorem d_MK_cut_5 : decode b_MK_cut 5 = .ok (.aload_n 0, 1) := by decide +kernel
theorem d_MK_cut_6 : decode b_MK_cut 6 = .ok (.iload_n 2, 1) := by decide +kernel
theorem d_MK_cut_7 : decode b_MK_cut 7 = .ok (.invokevirtual 121, 3) := by decide +kernel
theorem d_MK_cut_10 : decode b_MK_cut 10 = .ok (.aload_n 0, 1) := by decide +kernel
theorem d_MK_cut_11 : decode b_MK_cut 11 = .ok (.getfield 63, 3) := by decide +kernel
theorem d_MK_cut_14 : decode b_MK_cut 14 = .ok (.ifCond .eq 17, 3) := by decide +kernel
theorem d_MK_cut_17 : decode b_MK_cut 17 = .ok (.aload_n 0, 1) := by decide +kernel
theorem d_MK_cut_18 : decode b_MK_cut 18 = .ok (.getfield 32, 3) := by decide +kernel
theorem d_MK_cut_21 : decode b_MK_cut 21 = .ok (.getfield 124, 3) := by decide +kernel
theorem d_MK_cut_24 : decode b_MK_cut 24 = .ok (.iload_n 1, 1) := by decide +kernel
theorem d_MK_cut_25 : decode b_MK_cut 25 = .ok (.aaload, 1) := by decide +kernel
theorem d_MK_cut_26 : decode b_MK_cut 26 = .ok (.iload_n 2, 1) := by decide +kernel
theorem d_MK_cut_27 : decode b_MK_cut 27 = .ok (.iaload, 1) := by decide +kernel
theorem d_MK_cut_28 : decode b_MK_cut 28 = .ok (.goto 4, 3) := by decide +kernel
theorem d_MK_cut_31 : decode b_MK_cut 31 = .ok (.iconst (-1), 1) := by decide +kernel
theorem d_MK_cut_32 : decode b_MK_cut 32 = .ok (.ireturn, 1) := by decide +kernel
theorem d_MK_needPin_0 : decode b_MK_needPin 0 = .ok (.iload_n 1, 1) := by decide +kernel
theorem d_MK_needPin_1 : decode b_MK_needPin 1 = .ok (.ifCond .lt 14, 3) := by decide +kernel
theorem d_MK_needPin_4 : decode b_MK_needPin 4 = .ok (.iload_n 1, 1) := by decide +kernel
theorem d_MK_needPin_5 : decode b_MK_needPin 5 = .ok (.aload_n 0, 1) := by decide +kernel
theorem d_MK_needPin_6 : decode b_MK_needPin 6 = .ok (.getfield 23, 3) := by decide +kernel
theorem d_MK_needPin_9 : decode b_MK_needPin 9 = .ok (.getfield 166, 3) := by decide +kernel
theorem d_MK_needPin_12 : decode b_MK_needPin 12 = .ok (.if_icmp .lt 13, 3) := by decide +kernel
theorem d_MK_needPin_15 : decode b_MK_needPin 15 = .ok (.new 87, 3) := by decide +kernel
theorem d_MK_needPin_18 : decode b_MK_needPin 18 = .ok (.dup, 1) := by decide +kernel
theorem d_MK_needPin_19 : decode b_MK_needPin 19 = .ok (.ldc 169, 2) := by decide +kernel
theorem d_MK_needPin_21 : decode b_MK_needPin 21 = .ok (.invokespecial 91, 3) := by decide +kernel
theorem d_MK_needPin_24 : decode b_MK_needPin 24 = .ok (.athrow, 1) := by decide +kernel
theorem d_MK_needPin_25 : decode b_MK_needPin 25 = .ok (.return_, 1) := by decide +kernel
theorem d_MK_holds_0 : decode b_MK_holds 0 = .ok (.aload_n 0, 1) := by decide +kernel
theorem d_MK_holds_1 : decode b_MK_holds 1 = .ok (.iload_n 1, 1) := by decide +kernel
theorem d_MK_holds_2 : decode b_MK_holds 2 = .ok (.invokevirtual 76, 3) := by decide +kernel
theorem d_MK_holds_5 : decode b_MK_holds 5 = .ok (.aload_n 0, 1) := by decide +kernel
theorem d_MK_holds_6 : decode b_MK_holds 6 = .ok (.iload_n 2, 1) := by decide +kernel
theorem d_MK_holds_7 : decode b_MK_holds 7 = .ok (.invokevirtual 121, 3) := by decide +kernel
theorem d_MK_holds_10 : decode b_MK_holds 10 = .ok (.aload_n 0, 1) := by decide +kernel
theorem d_MK_holds_11 : decode b_MK_holds 11 = .ok (.iload_n 3, 1) := by decide +kernel
theorem d_MK_holds_12 : decode b_MK_holds 12 = .ok (.invokevirtual 95, 3) := by decide +kernel
theorem d_MK_holds_15 : decode b_MK_holds 15 = .ok (.aload_n 0, 1) := by decide +kernel
theorem d_MK_holds_16 : decode b_MK_holds 16 = .ok (.getfield 63, 3) := by decide +kernel
theorem d_MK_holds_19 : decode b_MK_holds 19 = .ok (.ifCond .eq 23, 3) := by decide +kernel
theorem d_MK_holds_22 : decode b_MK_holds 22 = .ok (.aload_n 0, 1) := by decide +kernel
theorem d_MK_holds_23 : decode b_MK_holds 23 = .ok (.getfield 32, 3) := by decide +kernel
theorem d_MK_holds_26 : decode b_MK_holds 26 = .ok (.iload_n 2, 1) := by decide +kernel
theorem d_MK_holds_27 : decode b_MK_holds 27 = .ok (.iload_n 3, 1) := by decide +kernel
theorem d_MK_holds_28 : decode b_MK_holds 28 = .ok (.invokevirtual 128, 3) := by decide +kernel
theorem d_MK_holds_31 : decode b_MK_holds 31 = .ok (.iload_n 1, 1) := by decide +kernel
theorem d_MK_holds_32 : decode b_MK_holds 32 = .ok (.ishr, 1) := by decide +kernel
theorem d_MK_holds_33 : decode b_MK_holds 33 = .ok (.iconst 1, 1) := by decide +kernel
theorem d_MK_holds_34 : decode b_MK_holds 34 = .ok (.iand, 1) := by decide +kernel
theorem d_MK_holds_35 : decode b_MK_holds 35 = .ok (.ifCond .eq 7, 3) := by decide +kernel
theorem d_MK_holds_38 : decode b_MK_holds 38 = .ok (.iconst 1, 1) := by decide +kernel
theorem d_MK_holds_39 : decode b_MK_holds 39 = .ok (.goto 4, 3) := by decide +kernel
theorem d_MK_holds_42 : decode b_MK_holds 42 = .ok (.iconst 0, 1) := by decide +kernel
theorem d_MK_holds_43 : decode b_MK_holds 43 = .ok (.ireturn, 1) := by decide +kernel
theorem d_Board_doorsHolding_0 : decode b_Board_doorsHolding 0 = .ok (.aload_n 0, 1) := by decide +kernel
theorem d_Board_doorsHolding_1 : decode b_Board_doorsHolding 1 = .ok (.iload_n 1, 1) := by decide +kernel
theorem d_Board_doorsHolding_2 : decode b_Board_doorsHolding 2 = .ok (.iload_n 2, 1) := by decide +kernel
theorem d_Board_doorsHolding_3 : decode b_Board_doorsHolding 3 = .ok (.invokestatic 37, 3) := by decide +kernel
theorem d_Board_doorsHolding_6 : decode b_Board_doorsHolding 6 = .ok (.invokevirtual 41, 3) := by decide +kernel
theorem d_Board_doorsHolding_9 : decode b_Board_doorsHolding 9 = .ok (.ireturn, 1) := by decide +kernel
theorem d_MK_fits_0 : decode b_MK_fits 0 = .ok (.aload_n 0, 1) := by decide +kernel
theorem d_MK_fits_1 : decode b_MK_fits 1 = .ok (.iload_n 1, 1) := by decide +kernel
theorem d_MK_fits_2 : decode b_MK_fits 2 = .ok (.invokevirtual 72, 3) := by decide +kernel
theorem d_MK_fits_5 : decode b_MK_fits 5 = .ok (.aload_n 0, 1) := by decide +kernel
theorem d_MK_fits_6 : decode b_MK_fits 6 = .ok (.iload_n 2, 1) := by decide +kernel
theorem d_MK_fits_7 : decode b_MK_fits 7 = .ok (.invokevirtual 76, 3) := by decide +kernel
theorem d_MK_fits_10 : decode b_MK_fits 10 = .ok (.aload_n 0, 1) := by decide +kernel
theorem d_MK_fits_11 : decode b_MK_fits 11 = .ok (.getfield 63, 3) := by decide +kernel
theorem d_MK_fits_14 : decode b_MK_fits 14 = .ok (.ifCond .eq 22, 3) := by decide +kernel
theorem d_MK_fits_17 : decode b_MK_fits 17 = .ok (.aload_n 0, 1) := by decide +kernel
theorem d_MK_fits_18 : decode b_MK_fits 18 = .ok (.getfield 32, 3) := by decide +kernel
theorem d_MK_fits_21 : decode b_MK_fits 21 = .ok (.iload_n 1, 1) := by decide +kernel
theorem d_MK_fits_22 : decode b_MK_fits 22 = .ok (.invokevirtual 131, 3) := by decide +kernel
theorem d_MK_fits_25 : decode b_MK_fits 25 = .ok (.iload_n 2, 1) := by decide +kernel
theorem d_MK_fits_26 : decode b_MK_fits 26 = .ok (.ishr, 1) := by decide +kernel
theorem d_MK_fits_27 : decode b_MK_fits 27 = .ok (.iconst 1, 1) := by decide +kernel
theorem d_MK_fits_28 : decode b_MK_fits 28 = .ok (.iand, 1) := by decide +kernel
theorem d_MK_fits_29 : decode b_MK_fits 29 = .ok (.ifCond .eq 7, 3) := by decide +kernel
theorem d_MK_fits_32 : decode b_MK_fits 32 = .ok (.iconst 1, 1) := by decide +kernel
theorem d_MK_fits_33 : decode b_MK_fits 33 = .ok (.goto 4, 3) := by decide +kernel
theorem d_MK_fits_36 : decode b_MK_fits 36 = .ok (.iconst 0, 1) := by decide +kernel
theorem d_MK_fits_37 : decode b_MK_fits 37 = .ok (.ireturn, 1) := by decide +kernel
theorem d_MK_left_0 : decode b_MK_left 0 = .ok (.aload_n 0, 1) := by decide +kernel
theorem d_MK_left_1 : decode b_MK_left 1 = .ok (.invokevirtual 143, 3) := by decide +kernel
theorem d_MK_left_4 : decode b_MK_left 4 = .ok (.aload_n 0, 1) := by decide +kernel
theorem d_MK_left_5 : decode b_MK_left 5 = .ok (.getfield 48, 3) := by decide +kernel
theorem d_MK_left_8 : decode b_MK_left 8 = .ok (.iconst 0, 1) := by decide +kernel
theorem d_MK_left_9 : decode b_MK_left 9 = .ok (.invokevirtual 146, 3) := by decide +kernel
theorem d_MK_left_12 : decode b_MK_left 12 = .ok (.ireturn, 1) := by decide +kernel
theorem d_MK_needPlan_0 : decode b_MK_needPlan 0 = .ok (.aload_n 0, 1) := by decide +kernel
theorem d_MK_needPlan_1 : decode b_MK_needPlan 1 = .ok (.getfield 63, 3) := by decide +kernel
theorem d_MK_needPlan_4 : decode b_MK_needPlan 4 = .ok (.ifCond .ne 13, 3) := by decide +kernel
theorem d_MK_needPlan_7 : decode b_MK_needPlan 7 = .ok (.new 56, 3) := by decide +kernel
theorem d_MK_needPlan_10 : decode b_MK_needPlan 10 = .ok (.dup, 1) := by decide +kernel
theorem d_MK_needPlan_11 : decode b_MK_needPlan 11 = .ok (.ldc 176, 2) := by decide +kernel
theorem d_MK_needPlan_13 : decode b_MK_needPlan 13 = .ok (.invokespecial 60, 3) := by decide +kernel
theorem d_MK_needPlan_16 : decode b_MK_needPlan 16 = .ok (.athrow, 1) := by decide +kernel
theorem d_MK_needPlan_17 : decode b_MK_needPlan 17 = .ok (.return_, 1) := by decide +kernel
theorem d_Rows_countFree_0 : decode b_Rows_countFree 0 = .ok (.aload_n 0, 1) := by decide +kernel
theorem d_Rows_countFree_1 : decode b_Rows_countFree 1 = .ok (.iload_n 1, 1) := by decide +kernel
theorem d_Rows_countFree_2 : decode b_Rows_countFree 2 = .ok (.invokevirtual 24, 3) := by decide +kernel
theorem d_Rows_countFree_5 : decode b_Rows_countFree 5 = .ok (.iconst 0, 1) := by decide +kernel
theorem d_Rows_countFree_6 : decode b_Rows_countFree 6 = .ok (.istore_n 2, 1) := by decide +kernel
theorem d_Rows_countFree_7 : decode b_Rows_countFree 7 = .ok (.iconst 0, 1) := by decide +kernel
theorem d_Rows_countFree_8 : decode b_Rows_countFree 8 = .ok (.istore_n 3, 1) := by decide +kernel
theorem d_Rows_countFree_9 : decode b_Rows_countFree 9 = .ok (.iload_n 3, 1) := by decide +kernel
theorem d_Rows_countFree_10 : decode b_Rows_countFree 10 = .ok (.aload_n 0, 1) := by decide +kernel
theorem d_Rows_countFree_11 : decode b_Rows_countFree 11 = .ok (.getfield 16, 3) := by decide +kernel
theorem d_Rows_countFree_14 : decode b_Rows_countFree 14 = .ok (.getfield 28, 3) := by decide +kernel
theorem d_Rows_countFree_17 : decode b_Rows_countFree 17 = .ok (.if_icmp .ge 32, 3) := by decide +kernel
theorem d_Rows_countFree_20 : decode b_Rows_countFree 20 = .ok (.iload_n 2, 1) := by decide +kernel
theorem d_Rows_countFree_21 : decode b_Rows_countFree 21 = .ok (.aload_n 0, 1) := by decide +kernel
theorem d_Rows_countFree_22 : decode b_Rows_countFree 22 = .ok (.getfield 11, 3) := by decide +kernel
theorem d_Rows_countFree_25 : decode b_Rows_countFree 25 = .ok (.iconst 0, 1) := by decide +kernel
theorem d_Rows_countFree_26 : decode b_Rows_countFree 26 = .ok (.aaload, 1) := by decide +kernel
theorem d_Rows_countFree_27 : decode b_Rows_countFree 27 = .ok (.iload_n 3, 1) := by decide +kernel
theorem d_Rows_countFree_28 : decode b_Rows_countFree 28 = .ok (.aload_n 0, 1) := by decide +kernel
theorem d_Rows_countFree_29 : decode b_Rows_countFree 29 = .ok (.getfield 20, 3) := by decide +kernel
theorem d_Rows_countFree_32 : decode b_Rows_countFree 32 = .ok (.iconst 0, 1) := by decide +kernel
theorem d_Rows_countFree_33 : decode b_Rows_countFree 33 = .ok (.iload_n 3, 1) := by decide +kernel
theorem d_Rows_countFree_34 : decode b_Rows_countFree 34 = .ok (.invokevirtual 34, 3) := by decide +kernel
theorem d_Rows_countFree_37 : decode b_Rows_countFree 37 = .ok (.invokestatic 40, 3) := by decide +kernel
theorem d_Rows_countFree_40 : decode b_Rows_countFree 40 = .ok (.iaload, 1) := by decide +kernel
theorem d_Rows_countFree_41 : decode b_Rows_countFree 41 = .ok (.iadd, 1) := by decide +kernel
theorem d_Rows_countFree_42 : decode b_Rows_countFree 42 = .ok (.istore_n 2, 1) := by decide +kernel
theorem d_Rows_countFree_43 : decode b_Rows_countFree 43 = .ok (.iinc 3 1, 3) := by decide +kernel
theorem d_Rows_countFree_46 : decode b_Rows_countFree 46 = .ok (.goto (-37), 3) := by decide +kernel
theorem d_Rows_countFree_49 : decode b_Rows_countFree 49 = .ok (.iload_n 2, 1) := by decide +kernel
theorem d_Rows_countFree_50 : decode b_Rows_countFree 50 = .ok (.aload_n 0, 1) := by decide +kernel
theorem d_Rows_countFree_51 : decode b_Rows_countFree 51 = .ok (.getfield 20, 3) := by decide +kernel
theorem d_Rows_countFree_54 : decode b_Rows_countFree 54 = .ok (.lconst 0, 1) := by decide +kernel
theorem d_Rows_countFree_55 : decode b_Rows_countFree 55 = .ok (.iload_n 1, 1) := by decide +kernel
theorem d_Rows_countFree_56 : decode b_Rows_countFree 56 = .ok (.invokevirtual 43, 3) := by decide +kernel
theorem d_Rows_countFree_59 : decode b_Rows_countFree 59 = .ok (.isub, 1) := by decide +kernel
theorem d_Rows_countFree_60 : decode b_Rows_countFree 60 = .ok (.ireturn, 1) := by decide +kernel
theorem d_Rows_countWays_0 : decode b_Rows_countWays 0 = .ok (.aload_n 0, 1) := by decide +kernel
theorem d_Rows_countWays_1 : decode b_Rows_countWays 1 = .ok (.getfield 16, 3) := by decide +kernel
theorem d_Rows_countWays_4 : decode b_Rows_countWays 4 = .ok (.getfield 57, 3) := by decide +kernel
theorem d_Rows_countWays_7 : decode b_Rows_countWays 7 = .ok (.iconst 1, 1) := by decide +kernel
theorem d_Rows_countWays_8 : decode b_Rows_countWays 8 = .ok (.isub, 1) := by decide +kernel
theorem d_Rows_countWays_9 : decode b_Rows_countWays 9 = .ok (.istore_n 2, 1) := by decide +kernel
theorem d_Rows_countWays_10 : decode b_Rows_countWays 10 = .ok (.iconst 0, 1) := by decide +kernel
theorem d_Rows_countWays_11 : decode b_Rows_countWays 11 = .ok (.istore_n 3, 1) := by decide +kernel
theorem d_Rows_countWays_12 : decode b_Rows_countWays 12 = .ok (.iload_n 3, 1) := by decide +kernel
theorem d_Rows_countWays_13 : decode b_Rows_countWays 13 = .ok (.aload_n 0, 1) := by decide +kernel
theorem d_Rows_countWays_14 : decode b_Rows_countWays 14 = .ok (.getfield 16, 3) := by decide +kernel
theorem d_Rows_countWays_17 : decode b_Rows_countWays 17 = .ok (.getfield 28, 3) := by decide +kernel
theorem d_Rows_countWays_20 : decode b_Rows_countWays 20 = .ok (.if_icmp .ge 49, 3) := by decide +kernel
theorem d_Rows_countWays_23 : decode b_Rows_countWays 23 = .ok (.iconst 0, 1) := by decide +kernel
theorem d_Rows_countWays_24 : decode b_Rows_countWays 24 = .ok (.istore 4, 2) := by decide +kernel
theorem d_Rows_countWays_26 : decode b_Rows_countWays 26 = .ok (.iload 4, 2) := by decide +kernel
theorem d_Rows_countWays_28 : decode b_Rows_countWays 28 = .ok (.bipush 64, 2) := by decide +kernel
theorem d_Rows_countWays_30 : decode b_Rows_countWays 30 = .ok (.if_icmp .ge 33, 3) := by decide +kernel
theorem d_Rows_countWays_33 : decode b_Rows_countWays 33 = .ok (.aload_n 0, 1) := by decide +kernel
theorem d_Rows_countWays_34 : decode b_Rows_countWays 34 = .ok (.getfield 11, 3) := by decide +kernel
theorem d_Rows_countWays_37 : decode b_Rows_countWays 37 = .ok (.iload_n 2, 1) := by decide +kernel
theorem d_Rows_countWays_38 : decode b_Rows_countWays 38 = .ok (.aaload, 1) := by decide +kernel
theorem d_Rows_countWays_39 : decode b_Rows_countWays 39 = .ok (.iload_n 3, 1) := by decide +kernel
theorem d_Rows_countWays_40 : decode b_Rows_countWays 40 = .ok (.iload 4, 2) := by decide +kernel
theorem d_Rows_countWays_42 : decode b_Rows_countWays 42 = .ok (.invokestatic 40, 3) := by decide +kernel
theorem d_Rows_countWays_45 : decode b_Rows_countWays 45 = .ok (.iload 4, 2) := by decide +kernel
theorem d_Rows_countWays_47 : decode b_Rows_countWays 47 = .ok (.iload_n 1, 1) := by decide +kernel
theorem d_Rows_countWays_48 : decode b_Rows_countWays 48 = .ok (.if_icmp .ne 7, 3) := by decide +kernel
theorem d_Rows_countWays_51 : decode b_Rows_countWays 51 = .ok (.iconst 1, 1) := by decide +kernel
theorem d_Rows_countWays_52 : decode b_Rows_countWays 52 = .ok (.goto 4, 3) := by decide +kernel
theorem d_Rows_countWays_55 : decode b_Rows_countWays 55 = .ok (.iconst 0, 1) := by decide +kernel
theorem d_Rows_countWays_56 : decode b_Rows_countWays 56 = .ok (.iastore, 1) := by decide +kernel
theorem d_Rows_countWays_57 : decode b_Rows_countWays 57 = .ok (.iinc 4 1, 3) := by decide +kernel
theorem d_Rows_countWays_60 : decode b_Rows_countWays 60 = .ok (.goto (-34), 3) := by decide +kernel
theorem d_Rows_countWays_63 : decode b_Rows_countWays 63 = .ok (.iinc 3 1, 3) := by decide +kernel
theorem d_Rows_countWays_66 : decode b_Rows_countWays 66 = .ok (.goto (-54), 3) := by decide +kernel
theorem d_Rows_countWays_69 : decode b_Rows_countWays 69 = .ok (.iload_n 2, 1) := by decide +kernel
theorem d_Rows_countWays_70 : decode b_Rows_countWays 70 = .ok (.iconst 1, 1) := by decide +kernel
theorem d_Rows_countWays_71 : decode b_Rows_countWays 71 = .ok (.isub, 1) := by decide +kernel
theorem d_Rows_countWays_72 : decode b_Rows_countWays 72 = .ok (.istore_n 3, 1) := by decide +kernel
theorem d_Rows_countWays_73 : decode b_Rows_countWays 73 = .ok (.iload_n 3, 1) := by decide +kernel
theorem d_Rows_countWays_74 : decode b_Rows_countWays 74 = .ok (.ifCond .lt 14, 3) := by decide +kernel
theorem d_Rows_countWays_77 : decode b_Rows_countWays 77 = .ok (.aload_n 0, 1) := by decide +kernel
theorem d_Rows_countWays_78 : decode b_Rows_countWays 78 = .ok (.iload_n 3, 1) := by decide +kernel
theorem d_Rows_countWays_79 : decode b_Rows_countWays 79 = .ok (.invokevirtual 72, 3) := by decide +kernel
theorem d_Rows_countWays_82 : decode b_Rows_countWays 82 = .ok (.iinc 3 (-1), 3) := by decide +kernel
theorem d_Rows_countWays_85 : decode b_Rows_countWays 85 = .ok (.goto (-12), 3) := by decide +kernel
theorem d_Rows_countWays_88 : decode b_Rows_countWays 88 = .ok (.return_, 1) := by decide +kernel
theorem d_Rows_state_0 : decode b_Rows_state 0 = .ok (.iload_n 0, 1) := by decide +kernel
theorem d_Rows_state_1 : decode b_Rows_state 1 = .ok (.bipush 64, 2) := by decide +kernel
theorem d_Rows_state_3 : decode b_Rows_state 3 = .ok (.imul, 1) := by decide +kernel
theorem d_Rows_state_4 : decode b_Rows_state 4 = .ok (.iload_n 1, 1) := by decide +kernel
theorem d_Rows_state_5 : decode b_Rows_state 5 = .ok (.iadd, 1) := by decide +kernel
theorem d_Rows_state_6 : decode b_Rows_state 6 = .ok (.ireturn, 1) := by decide +kernel
theorem d_Rows_countWaysBehind_0 : decode b_Rows_countWaysBehind 0 = .ok (.iconst 0, 1) := by decide +kernel
theorem d_Rows_countWaysBehind_1 : decode b_Rows_countWaysBehind 1 = .ok (.istore_n 2, 1) := by decide +kernel
theorem d_Rows_countWaysBehind_2 : decode b_Rows_countWaysBehind 2 = .ok (.iload_n 2, 1) := by decide +kernel
theorem d_Rows_countWaysBehind_3 : decode b_Rows_countWaysBehind 3 = .ok (.sipush 512, 3) := by decide +kernel
theorem d_Rows_countWaysBehind_6 : decode b_Rows_countWaysBehind 6 = .ok (.if_icmp .ge 18, 3) := by decide +kernel
theorem d_Rows_countWaysBehind_9 : decode b_Rows_countWaysBehind 9 = .ok (.aload_n 0, 1) := by decide +kernel
theorem d_Rows_countWaysBehind_10 : decode b_Rows_countWaysBehind 10 = .ok (.getfield 11, 3) := by decide +kernel
theorem d_Rows_countWaysBehind_13 : decode b_Rows_countWaysBehind 13 = .ok (.iload_n 1, 1) := by decide +kernel
theorem d_Rows_countWaysBehind_14 : decode b_Rows_countWaysBehind 14 = .ok (.aaload, 1) := by decide +kernel
theorem d_Rows_countWaysBehind_15 : decode b_Rows_countWaysBehind 15 = .ok (.iload_n 2, 1) := by decide +kernel
theorem d_Rows_countWaysBehind_16 : decode b_Rows_countWaysBehind 16 = .ok (.iconst 0, 1) := by decide +kernel
theorem d_Rows_countWaysBehind_17 : decode b_Rows_countWaysBehind 17 = .ok (.iastore, 1) := by decide +kernel
theorem d_Rows_countWaysBehind_18 : decode b_Rows_countWaysBehind 18 = .ok (.iinc 2 1, 3) := by decide +kernel
theorem d_Rows_countWaysBehind_21 : decode b_Rows_countWaysBehind 21 = .ok (.goto (-19), 3) := by decide +kernel
theorem d_Rows_countWaysBehind_24 : decode b_Rows_countWaysBehind 24 = .ok (.iconst 0, 1) := by decide +kernel
theorem d_Rows_countWaysBehind_25 : decode b_Rows_countWaysBehind 25 = .ok (.istore_n 2, 1) := by decide +kernel
theorem d_Rows_countWaysBehind_26 : decode b_Rows_countWaysBehind 26 = .ok (.iload_n 2, 1) := by decide +kernel
theorem d_Rows_countWaysBehind_27 : decode b_Rows_countWaysBehind 27 = .ok (.aload_n 0, 1) := by decide +kernel
theorem d_Rows_countWaysBehind_28 : decode b_Rows_countWaysBehind 28 = .ok (.getfield 16, 3) := by decide +kernel
theorem d_Rows_countWaysBehind_31 : decode b_Rows_countWaysBehind 31 = .ok (.getfield 28, 3) := by decide +kernel
theorem d_Rows_countWaysBehind_34 : decode b_Rows_countWaysBehind 34 = .ok (.if_icmp .ge 64, 3) := by decide +kernel
theorem d_Rows_countWaysBehind_37 : decode b_Rows_countWaysBehind 37 = .ok (.aload_n 0, 1) := by decide +kernel
theorem d_Rows_countWaysBehind_38 : decode b_Rows_countWaysBehind 38 = .ok (.getfield 20, 3) := by decide +kernel
theorem d_Rows_countWaysBehind_41 : decode b_Rows_countWaysBehind 41 = .ok (.iload_n 1, 1) := by decide +kernel
theorem d_Rows_countWaysBehind_42 : decode b_Rows_countWaysBehind 42 = .ok (.iconst 1, 1) := by decide +kernel
theorem d_Rows_countWaysBehind_43 : decode b_Rows_countWaysBehind 43 = .ok (.iadd, 1) := by decide +kernel
theorem d_Rows_countWaysBehind_44 : decode b_Rows_countWaysBehind 44 = .ok (.iload_n 2, 1) := by decide +kernel
theorem d_Rows_countWaysBehind_45 : decode b_Rows_countWaysBehind 45 = .ok (.invokevirtual 34, 3) := by decide +kernel
theorem d_Rows_countWaysBehind_48 : decode b_Rows_countWaysBehind 48 = .ok (.istore_n 3, 1) := by decide +kernel
theorem d_Rows_countWaysBehind_49 : decode b_Rows_countWaysBehind 49 = .ok (.iconst 0, 1) := by decide +kernel
theorem d_Rows_countWaysBehind_50 : decode b_Rows_countWaysBehind 50 = .ok (.istore 4, 2) := by decide +kernel
theorem d_Rows_countWaysBehind_52 : decode b_Rows_countWaysBehind 52 = .ok (.iload 4, 2) := by decide +kernel
theorem d_Rows_countWaysBehind_54 : decode b_Rows_countWaysBehind 54 = .ok (.aload_n 0, 1) := by decide +kernel
theorem d_Rows_countWaysBehind_55 : decode b_Rows_countWaysBehind 55 = .ok (.getfield 16, 3) := by decide +kernel
theorem d_Rows_countWaysBehind_58 : decode b_Rows_countWaysBehind 58 = .ok (.getfield 28, 3) := by decide +kernel
theorem d_Rows_countWaysBehind_61 : decode b_Rows_countWaysBehind 61 = .ok (.if_icmp .ge 31, 3) := by decide +kernel
theorem d_Rows_countWaysBehind_64 : decode b_Rows_countWaysBehind 64 = .ok (.aload_n 0, 1) := by decide +kernel
theorem d_Rows_countWaysBehind_65 : decode b_Rows_countWaysBehind 65 = .ok (.getfield 16, 3) := by decide +kernel
theorem d_Rows_countWaysBehind_68 : decode b_Rows_countWaysBehind 68 = .ok (.iload 4, 2) := by decide +kernel
theorem d_Rows_countWaysBehind_70 : decode b_Rows_countWaysBehind 70 = .ok (.iload_n 2, 1) := by decide +kernel
theorem d_Rows_countWaysBehind_71 : decode b_Rows_countWaysBehind 71 = .ok (.invokevirtual 68, 3) := by decide +kernel
theorem d_Rows_countWaysBehind_74 : decode b_Rows_countWaysBehind 74 = .ok (.ifCond .eq 12, 3) := by decide +kernel
theorem d_Rows_countWaysBehind_77 : decode b_Rows_countWaysBehind 77 = .ok (.aload_n 0, 1) := by decide +kernel
theorem d_Rows_countWaysBehind_78 : decode b_Rows_countWaysBehind 78 = .ok (.iload_n 1, 1) := by decide +kernel
theorem d_Rows_countWaysBehind_79 : decode b_Rows_countWaysBehind 79 = .ok (.iload 4, 2) := by decide +kernel
theorem d_Rows_countWaysBehind_81 : decode b_Rows_countWaysBehind 81 = .ok (.iload_n 2, 1) := by decide +kernel
theorem d_Rows_countWaysBehind_82 : decode b_Rows_countWaysBehind 82 = .ok (.iload_n 3, 1) := by decide +kernel
theorem d_Rows_countWaysBehind_83 : decode b_Rows_countWaysBehind 83 = .ok (.invokevirtual 75, 3) := by decide +kernel
theorem d_Rows_countWaysBehind_86 : decode b_Rows_countWaysBehind 86 = .ok (.iinc 4 1, 3) := by decide +kernel
theorem d_Rows_countWaysBehind_89 : decode b_Rows_countWaysBehind 89 = .ok (.goto (-37), 3) := by decide +kernel
theorem d_Rows_countWaysBehind_92 : decode b_Rows_countWaysBehind 92 = .ok (.iinc 2 1, 3) := by decide +kernel
theorem d_Rows_countWaysBehind_95 : decode b_Rows_countWaysBehind 95 = .ok (.goto (-69), 3) := by decide +kernel
theorem d_Rows_countWaysBehind_98 : decode b_Rows_countWaysBehind 98 = .ok (.return_, 1) := by decide +kernel
theorem d_Rows_addWays_0 : decode b_Rows_addWays 0 = .ok (.iconst 0, 1) := by decide +kernel
theorem d_Rows_addWays_1 : decode b_Rows_addWays 1 = .ok (.istore 5, 2) := by decide +kernel
theorem d_Rows_addWays_3 : decode b_Rows_addWays 3 = .ok (.iload 5, 2) := by decide +kernel
theorem d_Rows_addWays_5 : decode b_Rows_addWays 5 = .ok (.bipush 64, 2) := by decide +kernel
theorem d_Rows_addWays_7 : decode b_Rows_addWays 7 = .ok (.if_icmp .ge 43, 3) := by decide +kernel
theorem d_Rows_addWays_10 : decode b_Rows_addWays 10 = .ok (.aload_n 0, 1) := by decide +kernel
theorem d_Rows_addWays_11 : decode b_Rows_addWays 11 = .ok (.getfield 11, 3) := by decide +kernel
theorem d_Rows_addWays_14 : decode b_Rows_addWays 14 = .ok (.iload_n 1, 1) := by decide +kernel
theorem d_Rows_addWays_15 : decode b_Rows_addWays 15 = .ok (.aaload, 1) := by decide +kernel
theorem d_Rows_addWays_16 : decode b_Rows_addWays 16 = .ok (.iload_n 2, 1) := by decide +kernel
theorem d_Rows_addWays_17 : decode b_Rows_addWays 17 = .ok (.iload 5, 2) := by decide +kernel
theorem d_Rows_addWays_19 : decode b_Rows_addWays 19 = .ok (.invokestatic 40, 3) := by decide +kernel
theorem d_Rows_addWays_22 : decode b_Rows_addWays 22 = .ok (.dup2, 1) := by decide +kernel
theorem d_Rows_addWays_23 : decode b_Rows_addWays 23 = .ok (.iaload, 1) := by decide +kernel
theorem d_Rows_addWays_24 : decode b_Rows_addWays 24 = .ok (.aload_n 0, 1) := by decide +kernel
theorem d_Rows_addWays_25 : decode b_Rows_addWays 25 = .ok (.getfield 11, 3) := by decide +kernel
theorem d_Rows_addWays_28 : decode b_Rows_addWays 28 = .ok (.iload_n 1, 1) := by decide +kernel
theorem d_Rows_addWays_29 : decode b_Rows_addWays 29 = .ok (.iconst 1, 1) := by decide +kernel
theorem d_Rows_addWays_30 : decode b_Rows_addWays 30 = .ok (.iadd, 1) := by decide +kernel
theorem d_Rows_addWays_31 : decode b_Rows_addWays 31 = .ok (.aaload, 1) := by decide +kernel
theorem d_Rows_addWays_32 : decode b_Rows_addWays 32 = .ok (.iload_n 3, 1) := by decide +kernel
theorem d_Rows_addWays_33 : decode b_Rows_addWays 33 = .ok (.iload 5, 2) := by decide +kernel
theorem d_Rows_addWays_35 : decode b_Rows_addWays 35 = .ok (.iload 4, 2) := by decide +kernel
theorem d_Rows_addWays_37 : decode b_Rows_addWays 37 = .ok (.iand, 1) := by decide +kernel
theorem d_Rows_addWays_38 : decode b_Rows_addWays 38 = .ok (.invokestatic 40, 3) := by decide +kernel
theorem d_Rows_addWays_41 : decode b_Rows_addWays 41 = .ok (.iaload, 1) := by decide +kernel
theorem d_Rows_addWays_42 : decode b_Rows_addWays 42 = .ok (.iadd, 1) := by decide +kernel
theorem d_Rows_addWays_43 : decode b_Rows_addWays 43 = .ok (.iastore, 1) := by decide +kernel
theorem d_Rows_addWays_44 : decode b_Rows_addWays 44 = .ok (.iinc 5 1, 3) := by decide +kernel
theorem d_Rows_addWays_47 : decode b_Rows_addWays 47 = .ok (.goto (-44), 3) := by decide +kernel
theorem d_Rows_addWays_50 : decode b_Rows_addWays 50 = .ok (.return_, 1) := by decide +kernel
theorem d_Board_countKeys_0 : decode b_Board_countKeys 0 = .ok (.iconst 0, 1) := by decide +kernel
theorem d_Board_countKeys_1 : decode b_Board_countKeys 1 = .ok (.istore 4, 2) := by decide +kernel
theorem d_Board_countKeys_3 : decode b_Board_countKeys 3 = .ok (.iconst 0, 1) := by decide +kernel
theorem d_Board_countKeys_4 : decode b_Board_countKeys 4 = .ok (.istore 5, 2) := by decide +kernel
theorem d_Board_countKeys_6 : decode b_Board_countKeys 6 = .ok (.iload 5, 2) := by decide +kernel
theorem d_Board_countKeys_8 : decode b_Board_countKeys 8 = .ok (.aload_n 0, 1) := by decide +kernel
theorem d_Board_countKeys_9 : decode b_Board_countKeys 9 = .ok (.getfield 45, 3) := by decide +kernel
theorem d_Board_countKeys_12 : decode b_Board_countKeys 12 = .ok (.if_icmp .ge 36, 3) := by decide +kernel
theorem d_Board_countKeys_15 : decode b_Board_countKeys 15 = .ok (.lload_n 1, 1) := by decide +kernel
theorem d_Board_countKeys_16 : decode b_Board_countKeys 16 = .ok (.aload_n 0, 1) := by decide +kernel
theorem d_Board_countKeys_17 : decode b_Board_countKeys 17 = .ok (.getfield 20, 3) := by decide +kernel
theorem d_Board_countKeys_20 : decode b_Board_countKeys 20 = .ok (.iload 5, 2) := by decide +kernel
theorem d_Board_countKeys_22 : decode b_Board_countKeys 22 = .ok (.laload, 1) := by decide +kernel
theorem d_Board_countKeys_23 : decode b_Board_countKeys 23 = .ok (.invokestatic 48, 3) := by decide +kernel
theorem d_Board_countKeys_26 : decode b_Board_countKeys 26 = .ok (.ifCond .eq 16, 3) := by decide +kernel
theorem d_Board_countKeys_29 : decode b_Board_countKeys 29 = .ok (.aload_n 0, 1) := by decide +kernel
theorem d_Board_countKeys_30 : decode b_Board_countKeys 30 = .ok (.iload 5, 2) := by decide +kernel
theorem d_Board_countKeys_32 : decode b_Board_countKeys 32 = .ok (.invokevirtual 52, 3) := by decide +kernel
theorem d_Board_countKeys_35 : decode b_Board_countKeys 35 = .ok (.iload_n 3, 1) := by decide +kernel
theorem d_Board_countKeys_36 : decode b_Board_countKeys 36 = .ok (.if_icmp .ne 6, 3) := by decide +kernel
theorem d_Board_countKeys_39 : decode b_Board_countKeys 39 = .ok (.iinc 4 1, 3) := by decide +kernel
theorem d_Board_countKeys_42 : decode b_Board_countKeys 42 = .ok (.iinc 5 1, 3) := by decide +kernel
theorem d_Board_countKeys_45 : decode b_Board_countKeys 45 = .ok (.goto (-39), 3) := by decide +kernel
theorem d_Board_countKeys_48 : decode b_Board_countKeys 48 = .ok (.iload 4, 2) := by decide +kernel
theorem d_Board_countKeys_50 : decode b_Board_countKeys 50 = .ok (.ireturn, 1) := by decide +kernel
theorem d_MK_add_0 : decode b_MK_add 0 = .ok (.iload_n 1, 1) := by decide +kernel
theorem d_MK_add_1 : decode b_MK_add 1 = .ok (.ifCond .lt 14, 3) := by decide +kernel
theorem d_MK_add_4 : decode b_MK_add 4 = .ok (.iload_n 1, 1) := by decide +kernel
theorem d_MK_add_5 : decode b_MK_add 5 = .ok (.aload_n 0, 1) := by decide +kernel
theorem d_MK_add_6 : decode b_MK_add 6 = .ok (.getfield 32, 3) := by decide +kernel
theorem d_MK_add_9 : decode b_MK_add 9 = .ok (.invokevirtual 149, 3) := by decide +kernel
theorem d_MK_add_12 : decode b_MK_add 12 = .ok (.if_icmp .le 13, 3) := by decide +kernel
theorem d_MK_add_15 : decode b_MK_add 15 = .ok (.new 87, 3) := by decide +kernel
theorem d_MK_add_18 : decode b_MK_add 18 = .ok (.dup, 1) := by decide +kernel
theorem d_MK_add_19 : decode b_MK_add 19 = .ok (.ldc 153, 2) := by decide +kernel
theorem d_MK_add_21 : decode b_MK_add 21 = .ok (.invokespecial 91, 3) := by decide +kernel
theorem d_MK_add_24 : decode b_MK_add 24 = .ok (.athrow, 1) := by decide +kernel
theorem d_MK_add_25 : decode b_MK_add 25 = .ok (.aload_n 0, 1) := by decide +kernel
theorem d_MK_add_26 : decode b_MK_add 26 = .ok (.invokevirtual 143, 3) := by decide +kernel
theorem d_MK_add_29 : decode b_MK_add 29 = .ok (.aload_n 0, 1) := by decide +kernel
theorem d_MK_add_30 : decode b_MK_add 30 = .ok (.getfield 32, 3) := by decide +kernel
theorem d_MK_add_33 : decode b_MK_add 33 = .ok (.getfield 52, 3) := by decide +kernel
theorem d_MK_add_36 : decode b_MK_add 36 = .ok (.bipush 8, 2) := by decide +kernel
theorem d_MK_add_38 : decode b_MK_add 38 = .ok (.if_icmp .lt 13, 3) := by decide +kernel
theorem d_MK_add_41 : decode b_MK_add 41 = .ok (.new 56, 3) := by decide +kernel
theorem d_MK_add_44 : decode b_MK_add 44 = .ok (.dup, 1) := by decide +kernel
theorem d_MK_add_45 : decode b_MK_add 45 = .ok (.ldc 58, 2) := by decide +kernel
theorem d_MK_add_47 : decode b_MK_add 47 = .ok (.invokespecial 60, 3) := by decide +kernel
theorem d_MK_add_50 : decode b_MK_add 50 = .ok (.athrow, 1) := by decide +kernel
theorem d_MK_add_51 : decode b_MK_add 51 = .ok (.aload_n 0, 1) := by decide +kernel
theorem d_MK_add_52 : decode b_MK_add 52 = .ok (.getfield 48, 3) := by decide +kernel
theorem d_MK_add_55 : decode b_MK_add 55 = .ok (.iload_n 1, 1) := by decide +kernel
theorem d_MK_add_56 : decode b_MK_add 56 = .ok (.invokevirtual 155, 3) := by decide +kernel
theorem d_MK_add_59 : decode b_MK_add 59 = .ok (.ifCond .ne 5, 3) := by decide +kernel
theorem d_MK_add_62 : decode b_MK_add 62 = .ok (.iconst (-1), 1) := by decide +kernel
theorem d_MK_add_63 : decode b_MK_add 63 = .ok (.ireturn, 1) := by decide +kernel
theorem d_MK_add_64 : decode b_MK_add 64 = .ok (.aload_n 0, 1) := by decide +kernel
theorem d_MK_add_65 : decode b_MK_add 65 = .ok (.getfield 32, 3) := by decide +kernel
theorem d_MK_add_68 : decode b_MK_add 68 = .ok (.iload_n 1, 1) := by decide +kernel
theorem d_MK_add_69 : decode b_MK_add 69 = .ok (.invokevirtual 159, 3) := by decide +kernel
theorem d_MK_add_72 : decode b_MK_add 72 = .ok (.aload_n 0, 1) := by decide +kernel
theorem d_MK_add_73 : decode b_MK_add 73 = .ok (.getfield 32, 3) := by decide +kernel
theorem d_MK_add_76 : decode b_MK_add 76 = .ok (.getfield 52, 3) := by decide +kernel
theorem d_MK_add_79 : decode b_MK_add 79 = .ok (.iconst 1, 1) := by decide +kernel
theorem d_MK_add_80 : decode b_MK_add 80 = .ok (.isub, 1) := by decide +kernel
theorem d_MK_add_81 : decode b_MK_add 81 = .ok (.ireturn, 1) := by decide +kernel
theorem d_Board_allDoors_0 : decode b_Board_allDoors 0 = .ok (.iconst 1, 1) := by decide +kernel
theorem d_Board_allDoors_1 : decode b_Board_allDoors 1 = .ok (.aload_n 0, 1) := by decide +kernel
theorem d_Board_allDoors_2 : decode b_Board_allDoors 2 = .ok (.getfield 33, 3) := by decide +kernel
theorem d_Board_allDoors_5 : decode b_Board_allDoors 5 = .ok (.ishl, 1) := by decide +kernel
theorem d_Board_allDoors_6 : decode b_Board_allDoors 6 = .ok (.iconst 1, 1) := by decide +kernel
theorem d_Board_allDoors_7 : decode b_Board_allDoors 7 = .ok (.isub, 1) := by decide +kernel
theorem d_Board_allDoors_8 : decode b_Board_allDoors 8 = .ok (.ireturn, 1) := by decide +kernel
theorem d_Rows_cutLeast_0 : decode b_Rows_cutLeast 0 = .ok (.aload_n 0, 1) := by decide +kernel
theorem d_Rows_cutLeast_1 : decode b_Rows_cutLeast 1 = .ok (.iload_n 1, 1) := by decide +kernel
theorem d_Rows_cutLeast_2 : decode b_Rows_cutLeast 2 = .ok (.invokevirtual 24, 3) := by decide +kernel
theorem d_Rows_cutLeast_5 : decode b_Rows_cutLeast 5 = .ok (.aload_n 0, 1) := by decide +kernel
theorem d_Rows_cutLeast_6 : decode b_Rows_cutLeast 6 = .ok (.getfield 20, 3) := by decide +kernel
theorem d_Rows_cutLeast_9 : decode b_Rows_cutLeast 9 = .ok (.getfield 47, 3) := by decide +kernel
theorem d_Rows_cutLeast_12 : decode b_Rows_cutLeast 12 = .ok (.aload_n 0, 1) := by decide +kernel
theorem d_Rows_cutLeast_13 : decode b_Rows_cutLeast 13 = .ok (.getfield 20, 3) := by decide +kernel
theorem d_Rows_cutLeast_16 : decode b_Rows_cutLeast 16 = .ok (.getfield 50, 3) := by decide +kernel
theorem d_Rows_cutLeast_19 : decode b_Rows_cutLeast 19 = .ok (.aaload, 1) := by decide +kernel
theorem d_Rows_cutLeast_20 : decode b_Rows_cutLeast 20 = .ok (.astore_n 2, 1) := by decide +kernel
theorem d_Rows_cutLeast_21 : decode b_Rows_cutLeast 21 = .ok (.aload_n 0, 1) := by decide +kernel
theorem d_Rows_cutLeast_22 : decode b_Rows_cutLeast 22 = .ok (.getfield 20, 3) := by decide +kernel
theorem d_Rows_cutLeast_25 : decode b_Rows_cutLeast 25 = .ok (.invokevirtual 53, 3) := by decide +kernel
theorem d_Rows_cutLeast_28 : decode b_Rows_cutLeast 28 = .ok (.istore_n 3, 1) := by decide +kernel
theorem d_Rows_cutLeast_29 : decode b_Rows_cutLeast 29 = .ok (.lconst 0, 1) := by decide +kernel
theorem d_Rows_cutLeast_30 : decode b_Rows_cutLeast 30 = .ok (.lstore 4, 2) := by decide +kernel
theorem d_Rows_cutLeast_32 : decode b_Rows_cutLeast 32 = .ok (.iconst 0, 1) := by decide +kernel
theorem d_Rows_cutLeast_33 : decode b_Rows_cutLeast 33 = .ok (.istore 6, 2) := by decide +kernel
theorem d_Rows_cutLeast_35 : decode b_Rows_cutLeast 35 = .ok (.iload 6, 2) := by decide +kernel
theorem d_Rows_cutLeast_37 : decode b_Rows_cutLeast 37 = .ok (.aload_n 0, 1) := by decide +kernel
theorem d_Rows_cutLeast_38 : decode b_Rows_cutLeast 38 = .ok (.getfield 16, 3) := by decide +kernel
theorem d_Rows_cutLeast_41 : decode b_Rows_cutLeast 41 = .ok (.getfield 57, 3) := by decide +kernel
theorem d_Rows_cutLeast_44 : decode b_Rows_cutLeast 44 = .ok (.if_icmp .ge 80, 3) := by decide +kernel
theorem d_Rows_cutLeast_47 : decode b_Rows_cutLeast 47 = .ok (.iload 6, 2) := by decide +kernel
theorem d_Rows_cutLeast_49 : decode b_Rows_cutLeast 49 = .ok (.ifCond .le 12, 3) := by decide +kernel
theorem d_Rows_cutLeast_52 : decode b_Rows_cutLeast 52 = .ok (.aload_n 2, 1) := by decide +kernel
theorem d_Rows_cutLeast_53 : decode b_Rows_cutLeast 53 = .ok (.iload 6, 2) := by decide +kernel
theorem d_Rows_cutLeast_55 : decode b_Rows_cutLeast 55 = .ok (.iconst 1, 1) := by decide +kernel
theorem d_Rows_cutLeast_56 : decode b_Rows_cutLeast 56 = .ok (.isub, 1) := by decide +kernel
theorem d_Rows_cutLeast_57 : decode b_Rows_cutLeast 57 = .ok (.iaload, 1) := by decide +kernel
theorem d_Rows_cutLeast_58 : decode b_Rows_cutLeast 58 = .ok (.goto 4, 3) := by decide +kernel
theorem d_Rows_cutLeast_61 : decode b_Rows_cutLeast 61 = .ok (.iconst (-1), 1) := by decide +kernel
theorem d_Rows_cutLeast_62 : decode b_Rows_cutLeast 62 = .ok (.istore 7, 2) := by decide +kernel
theorem d_Rows_cutLeast_64 : decode b_Rows_cutLeast 64 = .ok (.aload_n 0, 1) := by decide +kernel
theorem d_Rows_cutLeast_65 : decode b_Rows_cutLeast 65 = .ok (.iload 6, 2) := by decide +kernel
theorem d_Rows_cutLeast_67 : decode b_Rows_cutLeast 67 = .ok (.iload 7, 2) := by decide +kernel
theorem d_Rows_cutLeast_69 : decode b_Rows_cutLeast 69 = .ok (.iload_n 3, 1) := by decide +kernel
theorem d_Rows_cutLeast_70 : decode b_Rows_cutLeast 70 = .ok (.lload 4, 2) := by decide +kernel
theorem d_Rows_cutLeast_72 : decode b_Rows_cutLeast 72 = .ok (.iload_n 1, 1) := by decide +kernel
theorem d_Rows_cutLeast_73 : decode b_Rows_cutLeast 73 = .ok (.invokevirtual 60, 3) := by decide +kernel
theorem d_Rows_cutLeast_76 : decode b_Rows_cutLeast 76 = .ok (.istore 8, 2) := by decide +kernel
theorem d_Rows_cutLeast_78 : decode b_Rows_cutLeast 78 = .ok (.iload 8, 2) := by decide +kernel
theorem d_Rows_cutLeast_80 : decode b_Rows_cutLeast 80 = .ok (.iconst (-1), 1) := by decide +kernel
theorem d_Rows_cutLeast_81 : decode b_Rows_cutLeast 81 = .ok (.if_icmp .ne 5, 3) := by decide +kernel
theorem d_Rows_cutLeast_84 : decode b_Rows_cutLeast 84 = .ok (.iconst 0, 1) := by decide +kernel
theorem d_Rows_cutLeast_85 : decode b_Rows_cutLeast 85 = .ok (.ireturn, 1) := by decide +kernel
theorem d_Rows_cutLeast_86 : decode b_Rows_cutLeast 86 = .ok (.aload_n 2, 1) := by decide +kernel
theorem d_Rows_cutLeast_87 : decode b_Rows_cutLeast 87 = .ok (.iload 6, 2) := by decide +kernel
theorem d_Rows_cutLeast_89 : decode b_Rows_cutLeast 89 = .ok (.iload 8, 2) := by decide +kernel
theorem d_Rows_cutLeast_91 : decode b_Rows_cutLeast 91 = .ok (.iastore, 1) := by decide +kernel
theorem d_Rows_cutLeast_92 : decode b_Rows_cutLeast 92 = .ok (.iload_n 3, 1) := by decide +kernel
theorem d_Rows_cutLeast_93 : decode b_Rows_cutLeast 93 = .ok (.aload_n 0, 1) := by decide +kernel
theorem d_Rows_cutLeast_94 : decode b_Rows_cutLeast 94 = .ok (.getfield 20, 3) := by decide +kernel
theorem d_Rows_cutLeast_97 : decode b_Rows_cutLeast 97 = .ok (.iload 6, 2) := by decide +kernel
theorem d_Rows_cutLeast_99 : decode b_Rows_cutLeast 99 = .ok (.iload 8, 2) := by decide +kernel
theorem d_Rows_cutLeast_101 : decode b_Rows_cutLeast 101 = .ok (.invokevirtual 34, 3) := by decide +kernel
theorem d_Rows_cutLeast_104 : decode b_Rows_cutLeast 104 = .ok (.iand, 1) := by decide +kernel
theorem d_Rows_cutLeast_105 : decode b_Rows_cutLeast 105 = .ok (.istore_n 3, 1) := by decide +kernel
theorem d_Rows_cutLeast_106 : decode b_Rows_cutLeast 106 = .ok (.lload 4, 2) := by decide +kernel
theorem d_Rows_cutLeast_108 : decode b_Rows_cutLeast 108 = .ok (.iload 6, 2) := by decide +kernel
theorem d_Rows_cutLeast_110 : decode b_Rows_cutLeast 110 = .ok (.iload 8, 2) := by decide +kernel
theorem d_Rows_cutLeast_112 : decode b_Rows_cutLeast 112 = .ok (.invokestatic 64, 3) := by decide +kernel
theorem d_Rows_cutLeast_115 : decode b_Rows_cutLeast 115 = .ok (.lor, 1) := by decide +kernel
theorem d_Rows_cutLeast_116 : decode b_Rows_cutLeast 116 = .ok (.lstore 4, 2) := by decide +kernel
theorem d_Rows_cutLeast_118 : decode b_Rows_cutLeast 118 = .ok (.iinc 6 1, 3) := by decide +kernel
theorem d_Rows_cutLeast_121 : decode b_Rows_cutLeast 121 = .ok (.goto (-86), 3) := by decide +kernel
theorem d_Rows_cutLeast_124 : decode b_Rows_cutLeast 124 = .ok (.iconst 1, 1) := by decide +kernel
theorem d_Rows_cutLeast_125 : decode b_Rows_cutLeast 125 = .ok (.ireturn, 1) := by decide +kernel
theorem d_Rows_leastDepth_0 : decode b_Rows_leastDepth 0 = .ok (.iconst 0, 1) := by decide +kernel
theorem d_Rows_leastDepth_1 : decode b_Rows_leastDepth 1 = .ok (.istore 7, 2) := by decide +kernel
theorem d_Rows_leastDepth_3 : decode b_Rows_leastDepth 3 = .ok (.iload 7, 2) := by decide +kernel
theorem d_Rows_leastDepth_5 : decode b_Rows_leastDepth 5 = .ok (.aload_n 0, 1) := by decide +kernel
theorem d_Rows_leastDepth_6 : decode b_Rows_leastDepth 6 = .ok (.getfield 16, 3) := by decide +kernel
theorem d_Rows_leastDepth_9 : decode b_Rows_leastDepth 9 = .ok (.getfield 28, 3) := by decide +kernel
theorem d_Rows_leastDepth_12 : decode b_Rows_leastDepth 12 = .ok (.if_icmp .ge 83, 3) := by decide +kernel
theorem d_Rows_leastDepth_15 : decode b_Rows_leastDepth 15 = .ok (.iload_n 2, 1) := by decide +kernel
theorem d_Rows_leastDepth_16 : decode b_Rows_leastDepth 16 = .ok (.iconst (-1), 1) := by decide +kernel
theorem d_Rows_leastDepth_17 : decode b_Rows_leastDepth 17 = .ok (.if_icmp .eq 16, 3) := by decide +kernel
theorem d_Rows_leastDepth_20 : decode b_Rows_leastDepth 20 = .ok (.aload_n 0, 1) := by decide +kernel
theorem d_Rows_leastDepth_21 : decode b_Rows_leastDepth 21 = .ok (.getfield 16, 3) := by decide +kernel
theorem d_Rows_leastDepth_24 : decode b_Rows_leastDepth 24 = .ok (.iload_n 2, 1) := by decide +kernel
theorem d_Rows_leastDepth_25 : decode b_Rows_leastDepth 25 = .ok (.iload 7, 2) := by decide +kernel
theorem d_Rows_leastDepth_27 : decode b_Rows_leastDepth 27 = .ok (.invokevirtual 68, 3) := by decide +kernel
theorem d_Rows_leastDepth_30 : decode b_Rows_leastDepth 30 = .ok (.ifCond .eq 59, 3) := by decide +kernel
theorem d_Rows_leastDepth_33 : decode b_Rows_leastDepth 33 = .ok (.iload_n 3, 1) := by decide +kernel
theorem d_Rows_leastDepth_34 : decode b_Rows_leastDepth 34 = .ok (.aload_n 0, 1) := by decide +kernel
theorem d_Rows_leastDepth_35 : decode b_Rows_leastDepth 35 = .ok (.getfield 20, 3) := by decide +kernel
theorem d_Rows_leastDepth_38 : decode b_Rows_leastDepth 38 = .ok (.iload_n 1, 1) := by decide +kernel
theorem d_Rows_leastDepth_39 : decode b_Rows_leastDepth 39 = .ok (.iload 7, 2) := by decide +kernel
theorem d_Rows_leastDepth_41 : decode b_Rows_leastDepth 41 = .ok (.invokevirtual 34, 3) := by decide +kernel
theorem d_Rows_leastDepth_44 : decode b_Rows_leastDepth 44 = .ok (.iand, 1) := by decide +kernel
theorem d_Rows_leastDepth_45 : decode b_Rows_leastDepth 45 = .ok (.istore 8, 2) := by decide +kernel
theorem d_Rows_leastDepth_47 : decode b_Rows_leastDepth 47 = .ok (.aload_n 0, 1) := by decide +kernel
theorem d_Rows_leastDepth_48 : decode b_Rows_leastDepth 48 = .ok (.getfield 20, 3) := by decide +kernel
theorem d_Rows_leastDepth_51 : decode b_Rows_leastDepth 51 = .ok (.lload 4, 2) := by decide +kernel
theorem d_Rows_leastDepth_53 : decode b_Rows_leastDepth 53 = .ok (.iload_n 1, 1) := by decide +kernel
theorem d_Rows_leastDepth_54 : decode b_Rows_leastDepth 54 = .ok (.iload 7, 2) := by decide +kernel
theorem d_Rows_leastDepth_56 : decode b_Rows_leastDepth 56 = .ok (.invokestatic 64, 3) := by decide +kernel
theorem d_Rows_leastDepth_59 : decode b_Rows_leastDepth 59 = .ok (.lor, 1) := by decide +kernel
theorem d_Rows_leastDepth_60 : decode b_Rows_leastDepth 60 = .ok (.iload 6, 2) := by decide +kernel
theorem d_Rows_leastDepth_62 : decode b_Rows_leastDepth 62 = .ok (.invokevirtual 43, 3) := by decide +kernel
theorem d_Rows_leastDepth_65 : decode b_Rows_leastDepth 65 = .ok (.istore 9, 2) := by decide +kernel
theorem d_Rows_leastDepth_67 : decode b_Rows_leastDepth 67 = .ok (.aload_n 0, 1) := by decide +kernel
theorem d_Rows_leastDepth_68 : decode b_Rows_leastDepth 68 = .ok (.getfield 11, 3) := by decide +kernel
theorem d_Rows_leastDepth_71 : decode b_Rows_leastDepth 71 = .ok (.iload_n 1, 1) := by decide +kernel
theorem d_Rows_leastDepth_72 : decode b_Rows_leastDepth 72 = .ok (.aaload, 1) := by decide +kernel
theorem d_Rows_leastDepth_73 : decode b_Rows_leastDepth 73 = .ok (.iload 7, 2) := by decide +kernel
theorem d_Rows_leastDepth_75 : decode b_Rows_leastDepth 75 = .ok (.iload 8, 2) := by decide +kernel
theorem d_Rows_leastDepth_77 : decode b_Rows_leastDepth 77 = .ok (.invokestatic 40, 3) := by decide +kernel
theorem d_Rows_leastDepth_80 : decode b_Rows_leastDepth 80 = .ok (.iaload, 1) := by decide +kernel
theorem d_Rows_leastDepth_81 : decode b_Rows_leastDepth 81 = .ok (.iload 9, 2) := by decide +kernel
theorem d_Rows_leastDepth_83 : decode b_Rows_leastDepth 83 = .ok (.if_icmp .le 6, 3) := by decide +kernel
theorem d_Rows_leastDepth_86 : decode b_Rows_leastDepth 86 = .ok (.iload 7, 2) := by decide +kernel
theorem d_Rows_leastDepth_88 : decode b_Rows_leastDepth 88 = .ok (.ireturn, 1) := by decide +kernel
theorem d_Rows_leastDepth_89 : decode b_Rows_leastDepth 89 = .ok (.iinc 7 1, 3) := by decide +kernel
theorem d_Rows_leastDepth_92 : decode b_Rows_leastDepth 92 = .ok (.goto (-89), 3) := by decide +kernel
theorem d_Rows_leastDepth_95 : decode b_Rows_leastDepth 95 = .ok (.iconst (-1), 1) := by decide +kernel
theorem d_Rows_leastDepth_96 : decode b_Rows_leastDepth 96 = .ok (.ireturn, 1) := by decide +kernel
theorem d_Board_enter_0 : decode b_Board_enter 0 = .ok (.aload_n 0, 1) := by decide +kernel
theorem d_Board_enter_1 : decode b_Board_enter 1 = .ok (.getfield 45, 3) := by decide +kernel
theorem d_Board_enter_4 : decode b_Board_enter 4 = .ok (.istore_n 2, 1) := by decide +kernel
theorem d_Board_enter_5 : decode b_Board_enter 5 = .ok (.aload_n 0, 1) := by decide +kernel
theorem d_Board_enter_6 : decode b_Board_enter 6 = .ok (.getfield 9, 3) := by decide +kernel
theorem d_Board_enter_9 : decode b_Board_enter 9 = .ok (.iload_n 2, 1) := by decide +kernel
theorem d_Board_enter_10 : decode b_Board_enter 10 = .ok (.iload_n 1, 1) := by decide +kernel
theorem d_Board_enter_11 : decode b_Board_enter 11 = .ok (.iastore, 1) := by decide +kernel
theorem d_Board_enter_12 : decode b_Board_enter 12 = .ok (.aload_n 0, 1) := by decide +kernel
theorem d_Board_enter_13 : decode b_Board_enter 13 = .ok (.getfield 20, 3) := by decide +kernel
theorem d_Board_enter_16 : decode b_Board_enter 16 = .ok (.iload_n 2, 1) := by decide +kernel
theorem d_Board_enter_17 : decode b_Board_enter 17 = .ok (.aload_n 0, 1) := by decide +kernel
theorem d_Board_enter_18 : decode b_Board_enter 18 = .ok (.iload_n 2, 1) := by decide +kernel
theorem d_Board_enter_19 : decode b_Board_enter 19 = .ok (.invokevirtual 56, 3) := by decide +kernel
theorem d_Board_enter_22 : decode b_Board_enter 22 = .ok (.lastore, 1) := by decide +kernel
theorem d_Board_enter_23 : decode b_Board_enter 23 = .ok (.iconst 0, 1) := by decide +kernel
theorem d_Board_enter_24 : decode b_Board_enter 24 = .ok (.istore_n 3, 1) := by decide +kernel
theorem d_Board_enter_25 : decode b_Board_enter 25 = .ok (.iload_n 3, 1) := by decide +kernel
theorem d_Board_enter_26 : decode b_Board_enter 26 = .ok (.aload_n 0, 1) := by decide +kernel
theorem d_Board_enter_27 : decode b_Board_enter 27 = .ok (.getfield 33, 3) := by decide +kernel
theorem d_Board_enter_30 : decode b_Board_enter 30 = .ok (.if_icmp .ge 27, 3) := by decide +kernel
theorem d_Board_enter_33 : decode b_Board_enter 33 = .ok (.aload_n 0, 1) := by decide +kernel
theorem d_Board_enter_34 : decode b_Board_enter 34 = .ok (.getfield 26, 3) := by decide +kernel
theorem d_Board_enter_37 : decode b_Board_enter 37 = .ok (.iload_n 2, 1) := by decide +kernel
theorem d_Board_enter_38 : decode b_Board_enter 38 = .ok (.iconst 1, 1) := by decide +kernel
theorem d_Board_enter_39 : decode b_Board_enter 39 = .ok (.iadd, 1) := by decide +kernel
theorem d_Board_enter_40 : decode b_Board_enter 40 = .ok (.aaload, 1) := by decide +kernel
theorem d_Board_enter_41 : decode b_Board_enter 41 = .ok (.iload_n 3, 1) := by decide +kernel
theorem d_Board_enter_42 : decode b_Board_enter 42 = .ok (.aload_n 0, 1) := by decide +kernel
theorem d_Board_enter_43 : decode b_Board_enter 43 = .ok (.getfield 26, 3) := by decide +kernel
theorem d_Board_enter_46 : decode b_Board_enter 46 = .ok (.iload_n 2, 1) := by decide +kernel
theorem d_Board_enter_47 : decode b_Board_enter 47 = .ok (.aaload, 1) := by decide +kernel
theorem d_Board_enter_48 : decode b_Board_enter 48 = .ok (.iload_n 3, 1) := by decide +kernel
theorem d_Board_enter_49 : decode b_Board_enter 49 = .ok (.laload, 1) := by decide +kernel
theorem d_Board_enter_50 : decode b_Board_enter 50 = .ok (.lastore, 1) := by decide +kernel
theorem d_Board_enter_51 : decode b_Board_enter 51 = .ok (.iinc 3 1, 3) := by decide +kernel
theorem d_Board_enter_54 : decode b_Board_enter 54 = .ok (.goto (-29), 3) := by decide +kernel
theorem d_Board_enter_57 : decode b_Board_enter 57 = .ok (.aload_n 0, 1) := by decide +kernel
theorem d_Board_enter_58 : decode b_Board_enter 58 = .ok (.dup, 1) := by decide +kernel
theorem d_Board_enter_59 : decode b_Board_enter 59 = .ok (.getfield 45, 3) := by decide +kernel
theorem d_Board_enter_62 : decode b_Board_enter 62 = .ok (.iconst 1, 1) := by decide +kernel
theorem d_Board_enter_63 : decode b_Board_enter 63 = .ok (.iadd, 1) := by decide +kernel
theorem d_Board_enter_64 : decode b_Board_enter 64 = .ok (.putfield 45, 3) := by decide +kernel
theorem d_Board_enter_67 : decode b_Board_enter 67 = .ok (.return_, 1) := by decide +kernel
theorem d_MK_heirs_0 : decode b_MK_heirs 0 = .ok (.aload_n 0, 1) := by decide +kernel
theorem d_MK_heirs_1 : decode b_MK_heirs 1 = .ok (.iload_n 1, 1) := by decide +kernel
theorem d_MK_heirs_2 : decode b_MK_heirs 2 = .ok (.invokevirtual 72, 3) := by decide +kernel
theorem d_MK_heirs_5 : decode b_MK_heirs 5 = .ok (.aload_n 0, 1) := by decide +kernel
theorem d_MK_heirs_6 : decode b_MK_heirs 6 = .ok (.invokevirtual 143, 3) := by decide +kernel
theorem d_MK_heirs_9 : decode b_MK_heirs 9 = .ok (.aload_n 0, 1) := by decide +kernel
theorem d_MK_heirs_10 : decode b_MK_heirs 10 = .ok (.getfield 32, 3) := by decide +kernel
theorem d_MK_heirs_13 : decode b_MK_heirs 13 = .ok (.iload_n 1, 1) := by decide +kernel
theorem d_MK_heirs_14 : decode b_MK_heirs 14 = .ok (.invokevirtual 131, 3) := by decide +kernel
theorem d_MK_heirs_17 : decode b_MK_heirs 17 = .ok (.istore_n 2, 1) := by decide +kernel
theorem d_MK_heirs_18 : decode b_MK_heirs 18 = .ok (.iconst 0, 1) := by decide +kernel
theorem d_MK_heirs_19 : decode b_MK_heirs 19 = .ok (.istore_n 3, 1) := by decide +kernel
theorem d_MK_heirs_20 : decode b_MK_heirs 20 = .ok (.iconst 0, 1) := by decide +kernel
theorem d_MK_heirs_21 : decode b_MK_heirs 21 = .ok (.istore 4, 2) := by decide +kernel
theorem d_MK_heirs_23 : decode b_MK_heirs 23 = .ok (.iload 4, 2) := by decide +kernel
theorem d_MK_heirs_25 : decode b_MK_heirs 25 = .ok (.aload_n 0, 1) := by decide +kernel
theorem d_MK_heirs_26 : decode b_MK_heirs 26 = .ok (.getfield 32, 3) := by decide +kernel
theorem d_MK_heirs_29 : decode b_MK_heirs 29 = .ok (.getfield 52, 3) := by decide +kernel
theorem d_MK_heirs_32 : decode b_MK_heirs 32 = .ok (.if_icmp .ge 38, 3) := by decide +kernel
theorem d_MK_heirs_35 : decode b_MK_heirs 35 = .ok (.iload 4, 2) := by decide +kernel
theorem d_MK_heirs_37 : decode b_MK_heirs 37 = .ok (.iload_n 1, 1) := by decide +kernel
theorem d_MK_heirs_38 : decode b_MK_heirs 38 = .ok (.if_icmp .eq 26, 3) := by decide +kernel
theorem d_MK_heirs_41 : decode b_MK_heirs 41 = .ok (.iload_n 2, 1) := by decide +kernel
theorem d_MK_heirs_42 : decode b_MK_heirs 42 = .ok (.aload_n 0, 1) := by decide +kernel
theorem d_MK_heirs_43 : decode b_MK_heirs 43 = .ok (.getfield 32, 3) := by decide +kernel
theorem d_MK_heirs_46 : decode b_MK_heirs 46 = .ok (.iload 4, 2) := by decide +kernel
theorem d_MK_heirs_48 : decode b_MK_heirs 48 = .ok (.invokevirtual 131, 3) := by decide +kernel
theorem d_MK_heirs_51 : decode b_MK_heirs 51 = .ok (.iconst (-1), 1) := by decide +kernel
theorem d_MK_heirs_52 : decode b_MK_heirs 52 = .ok (.ixor, 1) := by decide +kernel
theorem d_MK_heirs_53 : decode b_MK_heirs 53 = .ok (.iand, 1) := by decide +kernel
theorem d_MK_heirs_54 : decode b_MK_heirs 54 = .ok (.ifCond .ne 10, 3) := by decide +kernel
theorem d_MK_heirs_57 : decode b_MK_heirs 57 = .ok (.iload_n 3, 1) := by decide +kernel
theorem d_MK_heirs_58 : decode b_MK_heirs 58 = .ok (.iconst 1, 1) := by decide +kernel
theorem d_MK_heirs_59 : decode b_MK_heirs 59 = .ok (.iload 4, 2) := by decide +kernel
theorem d_MK_heirs_61 : decode b_MK_heirs 61 = .ok (.ishl, 1) := by decide +kernel
theorem d_MK_heirs_62 : decode b_MK_heirs 62 = .ok (.ior, 1) := by decide +kernel
theorem d_MK_heirs_63 : decode b_MK_heirs 63 = .ok (.istore_n 3, 1) := by decide +kernel
theorem d_MK_heirs_64 : decode b_MK_heirs 64 = .ok (.iinc 4 1, 3) := by decide +kernel
theorem d_MK_heirs_67 : decode b_MK_heirs 67 = .ok (.goto (-44), 3) := by decide +kernel
theorem d_MK_heirs_70 : decode b_MK_heirs 70 = .ok (.iload_n 3, 1) := by decide +kernel
theorem d_MK_heirs_71 : decode b_MK_heirs 71 = .ok (.ireturn, 1) := by decide +kernel
