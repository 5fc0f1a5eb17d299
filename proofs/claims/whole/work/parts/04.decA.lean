theorem d_Disk_init_0 : decode b_Disk_init 0 = .ok (.aload_n 0, 1) := by decide +kernel
theorem d_Disk_init_1 : decode b_Disk_init 1 = .ok (.invokespecial 3, 3) := by decide +kernel
theorem d_Disk_init_4 : decode b_Disk_init 4 = .ok (.aload_n 0, 1) := by decide +kernel
theorem d_Disk_init_5 : decode b_Disk_init 5 = .ok (.sipush 16384, 3) := by decide +kernel
theorem d_Disk_init_8 : decode b_Disk_init 8 = .ok (.newarray .byte, 2) := by decide +kernel
theorem d_Disk_init_10 : decode b_Disk_init 10 = .ok (.putfield 9, 3) := by decide +kernel
theorem d_Disk_init_13 : decode b_Disk_init 13 = .ok (.aload_n 0, 1) := by decide +kernel
theorem d_Disk_init_14 : decode b_Disk_init 14 = .ok (.sipush 16384, 3) := by decide +kernel
theorem d_Disk_init_17 : decode b_Disk_init 17 = .ok (.newarray .byte, 2) := by decide +kernel
theorem d_Disk_init_19 : decode b_Disk_init 19 = .ok (.putfield 15, 3) := by decide +kernel
theorem d_Disk_init_22 : decode b_Disk_init 22 = .ok (.aload_n 0, 1) := by decide +kernel
theorem d_Disk_init_23 : decode b_Disk_init 23 = .ok (.sipush 264, 3) := by decide +kernel
theorem d_Disk_init_26 : decode b_Disk_init 26 = .ok (.newarray .int, 2) := by decide +kernel
theorem d_Disk_init_28 : decode b_Disk_init 28 = .ok (.putfield 18, 3) := by decide +kernel
theorem d_Disk_init_31 : decode b_Disk_init 31 = .ok (.aload_n 0, 1) := by decide +kernel
theorem d_Disk_init_32 : decode b_Disk_init 32 = .ok (.iconst 1, 1) := by decide +kernel
theorem d_Disk_init_33 : decode b_Disk_init 33 = .ok (.putfield 22, 3) := by decide +kernel
theorem d_Disk_init_36 : decode b_Disk_init 36 = .ok (.aload_n 0, 1) := by decide +kernel
theorem d_Disk_init_37 : decode b_Disk_init 37 = .ok (.iconst (-1), 1) := by decide +kernel
theorem d_Disk_init_38 : decode b_Disk_init 38 = .ok (.putfield 26, 3) := by decide +kernel
theorem d_Disk_init_41 : decode b_Disk_init 41 = .ok (.return_, 1) := by decide +kernel
theorem d_Log_init_0 : decode b_Log_init 0 = .ok (.aload_n 0, 1) := by decide +kernel
theorem d_Log_init_1 : decode b_Log_init 1 = .ok (.invokespecial 3, 3) := by decide +kernel
theorem d_Log_init_4 : decode b_Log_init 4 = .ok (.aload_n 0, 1) := by decide +kernel
theorem d_Log_init_5 : decode b_Log_init 5 = .ok (.bipush 100, 2) := by decide +kernel
theorem d_Log_init_7 : decode b_Log_init 7 = .ok (.newarray .long, 2) := by decide +kernel
theorem d_Log_init_9 : decode b_Log_init 9 = .ok (.putfield 9, 3) := by decide +kernel
theorem d_Log_init_12 : decode b_Log_init 12 = .ok (.aload_n 0, 1) := by decide +kernel
theorem d_Log_init_13 : decode b_Log_init 13 = .ok (.bipush 100, 2) := by decide +kernel
theorem d_Log_init_15 : decode b_Log_init 15 = .ok (.newarray .long, 2) := by decide +kernel
theorem d_Log_init_17 : decode b_Log_init 17 = .ok (.putfield 15, 3) := by decide +kernel
theorem d_Log_init_20 : decode b_Log_init 20 = .ok (.aload_n 0, 1) := by decide +kernel
theorem d_Log_init_21 : decode b_Log_init 21 = .ok (.bipush 100, 2) := by decide +kernel
theorem d_Log_init_23 : decode b_Log_init 23 = .ok (.newarray .int, 2) := by decide +kernel
theorem d_Log_init_25 : decode b_Log_init 25 = .ok (.putfield 18, 3) := by decide +kernel
theorem d_Log_init_28 : decode b_Log_init 28 = .ok (.aload_n 0, 1) := by decide +kernel
theorem d_Log_init_29 : decode b_Log_init 29 = .ok (.bipush 100, 2) := by decide +kernel
theorem d_Log_init_31 : decode b_Log_init 31 = .ok (.newarray .int, 2) := by decide +kernel
theorem d_Log_init_33 : decode b_Log_init 33 = .ok (.putfield 22, 3) := by decide +kernel
theorem d_Log_init_36 : decode b_Log_init 36 = .ok (.aload_n 0, 1) := by decide +kernel
theorem d_Log_init_37 : decode b_Log_init 37 = .ok (.ldc 25, 2) := by decide +kernel
theorem d_Log_init_39 : decode b_Log_init 39 = .ok (.newarray .byte, 2) := by decide +kernel
theorem d_Log_init_41 : decode b_Log_init 41 = .ok (.putfield 26, 3) := by decide +kernel
theorem d_Log_init_44 : decode b_Log_init 44 = .ok (.return_, 1) := by decide +kernel
theorem d_Disk_makeNew_0 : decode b_Disk_makeNew 0 = .ok (.aload_n 0, 1) := by decide +kernel
theorem d_Disk_makeNew_1 : decode b_Disk_makeNew 1 = .ok (.getfield 9, 3) := by decide +kernel
theorem d_Disk_makeNew_4 : decode b_Disk_makeNew 4 = .ok (.iconst 0, 1) := by decide +kernel
theorem d_Disk_makeNew_5 : decode b_Disk_makeNew 5 = .ok (.invokestatic 30, 3) := by decide +kernel
theorem d_Disk_makeNew_8 : decode b_Disk_makeNew 8 = .ok (.aload_n 0, 1) := by decide +kernel
theorem d_Disk_makeNew_9 : decode b_Disk_makeNew 9 = .ok (.getfield 15, 3) := by decide +kernel
theorem d_Disk_makeNew_12 : decode b_Disk_makeNew 12 = .ok (.iconst 0, 1) := by decide +kernel
theorem d_Disk_makeNew_13 : decode b_Disk_makeNew 13 = .ok (.invokestatic 30, 3) := by decide +kernel
theorem d_Disk_makeNew_16 : decode b_Disk_makeNew 16 = .ok (.aload_n 0, 1) := by decide +kernel
theorem d_Disk_makeNew_17 : decode b_Disk_makeNew 17 = .ok (.invokevirtual 36, 3) := by decide +kernel
theorem d_Disk_makeNew_20 : decode b_Disk_makeNew 20 = .ok (.aload_n 0, 1) := by decide +kernel
theorem d_Disk_makeNew_21 : decode b_Disk_makeNew 21 = .ok (.iconst 1, 1) := by decide +kernel
theorem d_Disk_makeNew_22 : decode b_Disk_makeNew 22 = .ok (.putfield 22, 3) := by decide +kernel
theorem d_Disk_makeNew_25 : decode b_Disk_makeNew 25 = .ok (.aload_n 0, 1) := by decide +kernel
theorem d_Disk_makeNew_26 : decode b_Disk_makeNew 26 = .ok (.iconst (-1), 1) := by decide +kernel
theorem d_Disk_makeNew_27 : decode b_Disk_makeNew 27 = .ok (.putfield 26, 3) := by decide +kernel
theorem d_Disk_makeNew_30 : decode b_Disk_makeNew 30 = .ok (.aload_n 0, 1) := by decide +kernel
theorem d_Disk_makeNew_31 : decode b_Disk_makeNew 31 = .ok (.iconst 0, 1) := by decide +kernel
theorem d_Disk_makeNew_32 : decode b_Disk_makeNew 32 = .ok (.putfield 39, 3) := by decide +kernel
theorem d_Disk_makeNew_35 : decode b_Disk_makeNew 35 = .ok (.return_, 1) := by decide +kernel
theorem d_Arr_fillA_0 : decode b_Arr_fillA 0 = .ok (.iconst 0, 1) := by decide +kernel
theorem d_Arr_fillA_1 : decode b_Arr_fillA 1 = .ok (.istore_n 2, 1) := by decide +kernel
theorem d_Arr_fillA_2 : decode b_Arr_fillA 2 = .ok (.aload_n 0, 1) := by decide +kernel
theorem d_Arr_fillA_3 : decode b_Arr_fillA 3 = .ok (.arraylength, 1) := by decide +kernel
theorem d_Arr_fillA_4 : decode b_Arr_fillA 4 = .ok (.istore_n 3, 1) := by decide +kernel
theorem d_Arr_fillA_5 : decode b_Arr_fillA 5 = .ok (.iload_n 2, 1) := by decide +kernel
theorem d_Arr_fillA_6 : decode b_Arr_fillA 6 = .ok (.iload_n 3, 1) := by decide +kernel
theorem d_Arr_fillA_7 : decode b_Arr_fillA 7 = .ok (.if_icmp .ge 13, 3) := by decide +kernel
theorem d_Arr_fillA_10 : decode b_Arr_fillA 10 = .ok (.aload_n 0, 1) := by decide +kernel
theorem d_Arr_fillA_11 : decode b_Arr_fillA 11 = .ok (.iload_n 2, 1) := by decide +kernel
theorem d_Arr_fillA_12 : decode b_Arr_fillA 12 = .ok (.iload_n 1, 1) := by decide +kernel
theorem d_Arr_fillA_13 : decode b_Arr_fillA 13 = .ok (.bastore, 1) := by decide +kernel
theorem d_Arr_fillA_14 : decode b_Arr_fillA 14 = .ok (.iinc 2 1, 3) := by decide +kernel
theorem d_Arr_fillA_17 : decode b_Arr_fillA 17 = .ok (.goto (-12), 3) := by decide +kernel
theorem d_Arr_fillA_20 : decode b_Arr_fillA 20 = .ok (.return_, 1) := by decide +kernel
theorem d_Disk_forgetUnderWay_0 : decode b_Disk_forgetUnderWay 0 = .ok (.aload_n 0, 1) := by decide +kernel
theorem d_Disk_forgetUnderWay_1 : decode b_Disk_forgetUnderWay 1 = .ok (.iconst 0, 1) := by decide +kernel
theorem d_Disk_forgetUnderWay_2 : decode b_Disk_forgetUnderWay 2 = .ok (.putfield 72, 3) := by decide +kernel
theorem d_Disk_forgetUnderWay_5 : decode b_Disk_forgetUnderWay 5 = .ok (.aload_n 0, 1) := by decide +kernel
theorem d_Disk_forgetUnderWay_6 : decode b_Disk_forgetUnderWay 6 = .ok (.lconst 0, 1) := by decide +kernel
theorem d_Disk_forgetUnderWay_7 : decode b_Disk_forgetUnderWay 7 = .ok (.putfield 56, 3) := by decide +kernel
theorem d_Disk_forgetUnderWay_10 : decode b_Disk_forgetUnderWay 10 = .ok (.return_, 1) := by decide +kernel
theorem d_Log_makeEmpty_0 : decode b_Log_makeEmpty 0 = .ok (.aload_n 0, 1) := by decide +kernel
theorem d_Log_makeEmpty_1 : decode b_Log_makeEmpty 1 = .ok (.iconst 0, 1) := by decide +kernel
theorem d_Log_makeEmpty_2 : decode b_Log_makeEmpty 2 = .ok (.putfield 30, 3) := by decide +kernel
theorem d_Log_makeEmpty_5 : decode b_Log_makeEmpty 5 = .ok (.aload_n 0, 1) := by decide +kernel
theorem d_Log_makeEmpty_6 : decode b_Log_makeEmpty 6 = .ok (.iconst 0, 1) := by decide +kernel
theorem d_Log_makeEmpty_7 : decode b_Log_makeEmpty 7 = .ok (.putfield 34, 3) := by decide +kernel
theorem d_Log_makeEmpty_10 : decode b_Log_makeEmpty 10 = .ok (.return_, 1) := by decide +kernel
theorem d_Long_bitCount_0 : decode b_Long_bitCount 0 = .ok (.lload_n 0, 1) := by decide +kernel
theorem d_Long_bitCount_1 : decode b_Long_bitCount 1 = .ok (.lload_n 0, 1) := by decide +kernel
theorem d_Long_bitCount_2 : decode b_Long_bitCount 2 = .ok (.iconst 1, 1) := by decide +kernel
theorem d_Long_bitCount_3 : decode b_Long_bitCount 3 = .ok (.lushr, 1) := by decide +kernel
theorem d_Long_bitCount_4 : decode b_Long_bitCount 4 = .ok (.ldc2_w 314, 3) := by decide +kernel
theorem d_Long_bitCount_7 : decode b_Long_bitCount 7 = .ok (.land, 1) := by decide +kernel
theorem d_Long_bitCount_8 : decode b_Long_bitCount 8 = .ok (.lsub, 1) := by decide +kernel
theorem d_Long_bitCount_9 : decode b_Long_bitCount 9 = .ok (.lstore_n 0, 1) := by decide +kernel
theorem d_Long_bitCount_10 : decode b_Long_bitCount 10 = .ok (.lload_n 0, 1) := by decide +kernel
theorem d_Long_bitCount_11 : decode b_Long_bitCount 11 = .ok (.ldc2_w 316, 3) := by decide +kernel
theorem d_Long_bitCount_14 : decode b_Long_bitCount 14 = .ok (.land, 1) := by decide +kernel
theorem d_Long_bitCount_15 : decode b_Long_bitCount 15 = .ok (.lload_n 0, 1) := by decide +kernel
theorem d_Long_bitCount_16 : decode b_Long_bitCount 16 = .ok (.iconst 2, 1) := by decide +kernel
theorem d_Long_bitCount_17 : decode b_Long_bitCount 17 = .ok (.lushr, 1) := by decide +kernel
theorem d_Long_bitCount_18 : decode b_Long_bitCount 18 = .ok (.ldc2_w 316, 3) := by decide +kernel
theorem d_Long_bitCount_21 : decode b_Long_bitCount 21 = .ok (.land, 1) := by decide +kernel
theorem d_Long_bitCount_22 : decode b_Long_bitCount 22 = .ok (.ladd, 1) := by decide +kernel
theorem d_Long_bitCount_23 : decode b_Long_bitCount 23 = .ok (.lstore_n 0, 1) := by decide +kernel
theorem d_Long_bitCount_24 : decode b_Long_bitCount 24 = .ok (.lload_n 0, 1) := by decide +kernel
theorem d_Long_bitCount_25 : decode b_Long_bitCount 25 = .ok (.lload_n 0, 1) := by decide +kernel
theorem d_Long_bitCount_26 : decode b_Long_bitCount 26 = .ok (.iconst 4, 1) := by decide +kernel
theorem d_Long_bitCount_27 : decode b_Long_bitCount 27 = .ok (.lushr, 1) := by decide +kernel
theorem d_Long_bitCount_28 : decode b_Long_bitCount 28 = .ok (.ladd, 1) := by decide +kernel
theorem d_Long_bitCount_29 : decode b_Long_bitCount 29 = .ok (.ldc2_w 318, 3) := by decide +kernel
theorem d_Long_bitCount_32 : decode b_Long_bitCount 32 = .ok (.land, 1) := by decide +kernel
theorem d_Long_bitCount_33 : decode b_Long_bitCount 33 = .ok (.lstore_n 0, 1) := by decide +kernel
theorem d_Long_bitCount_34 : decode b_Long_bitCount 34 = .ok (.lload_n 0, 1) := by decide +kernel
theorem d_Long_bitCount_35 : decode b_Long_bitCount 35 = .ok (.lload_n 0, 1) := by decide +kernel
theorem d_Long_bitCount_36 : decode b_Long_bitCount 36 = .ok (.bipush 8, 2) := by decide +kernel
theorem d_Long_bitCount_38 : decode b_Long_bitCount 38 = .ok (.lushr, 1) := by decide +kernel
theorem d_Long_bitCount_39 : decode b_Long_bitCount 39 = .ok (.ladd, 1) := by decide +kernel
theorem d_Long_bitCount_40 : decode b_Long_bitCount 40 = .ok (.lstore_n 0, 1) := by decide +kernel
theorem d_Long_bitCount_41 : decode b_Long_bitCount 41 = .ok (.lload_n 0, 1) := by decide +kernel
theorem d_Long_bitCount_42 : decode b_Long_bitCount 42 = .ok (.lload_n 0, 1) := by decide +kernel
theorem d_Long_bitCount_43 : decode b_Long_bitCount 43 = .ok (.bipush 16, 2) := by decide +kernel
theorem d_Long_bitCount_45 : decode b_Long_bitCount 45 = .ok (.lushr, 1) := by decide +kernel
theorem d_Long_bitCount_46 : decode b_Long_bitCount 46 = .ok (.ladd, 1) := by decide +kernel
theorem d_Long_bitCount_47 : decode b_Long_bitCount 47 = .ok (.lstore_n 0, 1) := by decide +kernel
theorem d_Long_bitCount_48 : decode b_Long_bitCount 48 = .ok (.lload_n 0, 1) := by decide +kernel
theorem d_Long_bitCount_49 : decode b_Long_bitCount 49 = .ok (.lload_n 0, 1) := by decide +kernel
theorem d_Long_bitCount_50 : decode b_Long_bitCount 50 = .ok (.bipush 32, 2) := by decide +kernel
theorem d_Long_bitCount_52 : decode b_Long_bitCount 52 = .ok (.lushr, 1) := by decide +kernel
theorem d_Long_bitCount_53 : decode b_Long_bitCount 53 = .ok (.ladd, 1) := by decide +kernel
theorem d_Long_bitCount_54 : decode b_Long_bitCount 54 = .ok (.lstore_n 0, 1) := by decide +kernel
theorem d_Long_bitCount_55 : decode b_Long_bitCount 55 = .ok (.lload_n 0, 1) := by decide +kernel
theorem d_Long_bitCount_56 : decode b_Long_bitCount 56 = .ok (.l2i, 1) := by decide +kernel
theorem d_Long_bitCount_57 : decode b_Long_bitCount 57 = .ok (.bipush 127, 2) := by decide +kernel
theorem d_Long_bitCount_59 : decode b_Long_bitCount 59 = .ok (.iand, 1) := by decide +kernel
theorem d_Long_bitCount_60 : decode b_Long_bitCount 60 = .ok (.ireturn, 1) := by decide +kernel
theorem d_Arr_fillR_0 : decode b_Arr_fillR 0 = .ok (.aload_n 0, 1) := by decide +kernel
theorem d_Arr_fillR_1 : decode b_Arr_fillR 1 = .ok (.arraylength, 1) := by decide +kernel
theorem d_Arr_fillR_2 : decode b_Arr_fillR 2 = .ok (.iload_n 1, 1) := by decide +kernel
theorem d_Arr_fillR_3 : decode b_Arr_fillR 3 = .ok (.iload_n 2, 1) := by decide +kernel
theorem d_Arr_fillR_4 : decode b_Arr_fillR 4 = .ok (.invokestatic 13, 3) := by decide +kernel
theorem d_Arr_fillR_7 : decode b_Arr_fillR 7 = .ok (.iload_n 1, 1) := by decide +kernel
theorem d_Arr_fillR_8 : decode b_Arr_fillR 8 = .ok (.istore 4, 2) := by decide +kernel
theorem d_Arr_fillR_10 : decode b_Arr_fillR 10 = .ok (.iload 4, 2) := by decide +kernel
theorem d_Arr_fillR_12 : decode b_Arr_fillR 12 = .ok (.iload_n 2, 1) := by decide +kernel
theorem d_Arr_fillR_13 : decode b_Arr_fillR 13 = .ok (.if_icmp .ge 14, 3) := by decide +kernel
theorem d_Arr_fillR_16 : decode b_Arr_fillR 16 = .ok (.aload_n 0, 1) := by decide +kernel
theorem d_Arr_fillR_17 : decode b_Arr_fillR 17 = .ok (.iload 4, 2) := by decide +kernel
theorem d_Arr_fillR_19 : decode b_Arr_fillR 19 = .ok (.iload_n 3, 1) := by decide +kernel
theorem d_Arr_fillR_20 : decode b_Arr_fillR 20 = .ok (.bastore, 1) := by decide +kernel
theorem d_Arr_fillR_21 : decode b_Arr_fillR 21 = .ok (.iinc 4 1, 3) := by decide +kernel
theorem d_Arr_fillR_24 : decode b_Arr_fillR 24 = .ok (.goto (-14), 3) := by decide +kernel
theorem d_Arr_fillR_27 : decode b_Arr_fillR 27 = .ok (.return_, 1) := by decide +kernel
theorem d_Arr_rangeCheck_0 : decode b_Arr_rangeCheck 0 = .ok (.iload_n 1, 1) := by decide +kernel
theorem d_Arr_rangeCheck_1 : decode b_Arr_rangeCheck 1 = .ok (.iload_n 2, 1) := by decide +kernel
theorem d_Arr_rangeCheck_2 : decode b_Arr_rangeCheck 2 = .ok (.if_icmp .le 44, 3) := by decide +kernel
theorem d_Arr_rangeCheck_5 : decode b_Arr_rangeCheck 5 = .ok (.new 43, 3) := by decide +kernel
theorem d_Arr_rangeCheck_8 : decode b_Arr_rangeCheck 8 = .ok (.dup, 1) := by decide +kernel
theorem d_Arr_rangeCheck_9 : decode b_Arr_rangeCheck 9 = .ok (.new 45, 3) := by decide +kernel
theorem d_Arr_rangeCheck_12 : decode b_Arr_rangeCheck 12 = .ok (.dup, 1) := by decide +kernel
theorem d_Arr_rangeCheck_13 : decode b_Arr_rangeCheck 13 = .ok (.invokespecial 47, 3) := by decide +kernel
theorem d_Arr_rangeCheck_16 : decode b_Arr_rangeCheck 16 = .ok (.ldc 48, 2) := by decide +kernel
theorem d_Arr_rangeCheck_18 : decode b_Arr_rangeCheck 18 = .ok (.invokevirtual 50, 3) := by decide +kernel
theorem d_Arr_rangeCheck_21 : decode b_Arr_rangeCheck 21 = .ok (.iload_n 1, 1) := by decide +kernel
theorem d_Arr_rangeCheck_22 : decode b_Arr_rangeCheck 22 = .ok (.invokevirtual 54, 3) := by decide +kernel
theorem d_Arr_rangeCheck_25 : decode b_Arr_rangeCheck 25 = .ok (.ldc 57, 2) := by decide +kernel
theorem d_Arr_rangeCheck_27 : decode b_Arr_rangeCheck 27 = .ok (.invokevirtual 50, 3) := by decide +kernel
theorem d_Arr_rangeCheck_30 : decode b_Arr_rangeCheck 30 = .ok (.iload_n 2, 1) := by decide +kernel
theorem d_Arr_rangeCheck_31 : decode b_Arr_rangeCheck 31 = .ok (.invokevirtual 54, 3) := by decide +kernel
theorem d_Arr_rangeCheck_34 : decode b_Arr_rangeCheck 34 = .ok (.ldc 59, 2) := by decide +kernel
theorem d_Arr_rangeCheck_36 : decode b_Arr_rangeCheck 36 = .ok (.invokevirtual 50, 3) := by decide +kernel
theorem d_Arr_rangeCheck_39 : decode b_Arr_rangeCheck 39 = .ok (.invokevirtual 61, 3) := by decide +kernel
theorem d_Arr_rangeCheck_42 : decode b_Arr_rangeCheck 42 = .ok (.invokespecial 65, 3) := by decide +kernel
theorem d_Arr_rangeCheck_45 : decode b_Arr_rangeCheck 45 = .ok (.athrow, 1) := by decide +kernel
theorem d_Arr_rangeCheck_46 : decode b_Arr_rangeCheck 46 = .ok (.iload_n 1, 1) := by decide +kernel
theorem d_Arr_rangeCheck_47 : decode b_Arr_rangeCheck 47 = .ok (.ifCond .ge 12, 3) := by decide +kernel
theorem d_Arr_rangeCheck_50 : decode b_Arr_rangeCheck 50 = .ok (.new 68, 3) := by decide +kernel
theorem d_Arr_rangeCheck_53 : decode b_Arr_rangeCheck 53 = .ok (.dup, 1) := by decide +kernel
theorem d_Arr_rangeCheck_54 : decode b_Arr_rangeCheck 54 = .ok (.iload_n 1, 1) := by decide +kernel
theorem d_Arr_rangeCheck_55 : decode b_Arr_rangeCheck 55 = .ok (.invokespecial 70, 3) := by decide +kernel
theorem d_Arr_rangeCheck_58 : decode b_Arr_rangeCheck 58 = .ok (.athrow, 1) := by decide +kernel
theorem d_Arr_rangeCheck_59 : decode b_Arr_rangeCheck 59 = .ok (.iload_n 2, 1) := by decide +kernel
theorem d_Arr_rangeCheck_60 : decode b_Arr_rangeCheck 60 = .ok (.iload_n 0, 1) := by decide +kernel
theorem d_Arr_rangeCheck_61 : decode b_Arr_rangeCheck 61 = .ok (.if_icmp .le 12, 3) := by decide +kernel
theorem d_Arr_rangeCheck_64 : decode b_Arr_rangeCheck 64 = .ok (.new 68, 3) := by decide +kernel
theorem d_Arr_rangeCheck_67 : decode b_Arr_rangeCheck 67 = .ok (.dup, 1) := by decide +kernel
theorem d_Arr_rangeCheck_68 : decode b_Arr_rangeCheck 68 = .ok (.iload_n 2, 1) := by decide +kernel
theorem d_Arr_rangeCheck_69 : decode b_Arr_rangeCheck 69 = .ok (.invokespecial 70, 3) := by decide +kernel
theorem d_Arr_rangeCheck_72 : decode b_Arr_rangeCheck 72 = .ok (.athrow, 1) := by decide +kernel
theorem d_Arr_rangeCheck_73 : decode b_Arr_rangeCheck 73 = .ok (.return_, 1) := by decide +kernel
theorem d_Log_lying_0 : decode b_Log_lying 0 = .ok (.lconst 0, 1) := by decide +kernel
theorem d_Log_lying_1 : decode b_Log_lying 1 = .ok (.lstore_n 1, 1) := by decide +kernel
theorem d_Log_lying_2 : decode b_Log_lying 2 = .ok (.iconst 0, 1) := by decide +kernel
theorem d_Log_lying_3 : decode b_Log_lying 3 = .ok (.istore_n 3, 1) := by decide +kernel
theorem d_Log_lying_4 : decode b_Log_lying 4 = .ok (.iload_n 3, 1) := by decide +kernel
theorem d_Log_lying_5 : decode b_Log_lying 5 = .ok (.aload_n 0, 1) := by decide +kernel
theorem d_Log_lying_6 : decode b_Log_lying 6 = .ok (.getfield 30, 3) := by decide +kernel
theorem d_Log_lying_9 : decode b_Log_lying 9 = .ok (.if_icmp .ge 29, 3) := by decide +kernel
theorem d_Log_lying_12 : decode b_Log_lying 12 = .ok (.lload_n 1, 1) := by decide +kernel
theorem d_Log_lying_13 : decode b_Log_lying 13 = .ok (.aload_n 0, 1) := by decide +kernel
theorem d_Log_lying_14 : decode b_Log_lying 14 = .ok (.getfield 15, 3) := by decide +kernel
theorem d_Log_lying_17 : decode b_Log_lying 17 = .ok (.iload_n 3, 1) := by decide +kernel
theorem d_Log_lying_18 : decode b_Log_lying 18 = .ok (.laload, 1) := by decide +kernel
theorem d_Log_lying_19 : decode b_Log_lying 19 = .ok (.ldc2_w 53, 3) := by decide +kernel
theorem d_Log_lying_22 : decode b_Log_lying 22 = .ok (.lxor, 1) := by decide +kernel
theorem d_Log_lying_23 : decode b_Log_lying 23 = .ok (.land, 1) := by decide +kernel
theorem d_Log_lying_24 : decode b_Log_lying 24 = .ok (.aload_n 0, 1) := by decide +kernel
theorem d_Log_lying_25 : decode b_Log_lying 25 = .ok (.getfield 9, 3) := by decide +kernel
theorem d_Log_lying_28 : decode b_Log_lying 28 = .ok (.iload_n 3, 1) := by decide +kernel
theorem d_Log_lying_29 : decode b_Log_lying 29 = .ok (.laload, 1) := by decide +kernel
theorem d_Log_lying_30 : decode b_Log_lying 30 = .ok (.lor, 1) := by decide +kernel
theorem d_Log_lying_31 : decode b_Log_lying 31 = .ok (.lstore_n 1, 1) := by decide +kernel
theorem d_Log_lying_32 : decode b_Log_lying 32 = .ok (.iinc 3 1, 3) := by decide +kernel
theorem d_Log_lying_35 : decode b_Log_lying 35 = .ok (.goto (-31), 3) := by decide +kernel
theorem d_Log_lying_38 : decode b_Log_lying 38 = .ok (.lload_n 1, 1) := by decide +kernel
theorem d_Log_lying_39 : decode b_Log_lying 39 = .ok (.lreturn, 1) := by decide +kernel
theorem d_Disk_barrier_0 : decode b_Disk_barrier 0 = .ok (.aload_n 0, 1) := by decide +kernel
theorem d_Disk_barrier_1 : decode b_Disk_barrier 1 = .ok (.invokevirtual 46, 3) := by decide +kernel
theorem d_Disk_barrier_4 : decode b_Disk_barrier 4 = .ok (.ifCond .ne 5, 3) := by decide +kernel
theorem d_Disk_barrier_7 : decode b_Disk_barrier 7 = .ok (.iconst 0, 1) := by decide +kernel
theorem d_Disk_barrier_8 : decode b_Disk_barrier 8 = .ok (.ireturn, 1) := by decide +kernel
theorem d_Disk_barrier_9 : decode b_Disk_barrier 9 = .ok (.iconst 0, 1) := by decide +kernel
theorem d_Disk_barrier_10 : decode b_Disk_barrier 10 = .ok (.istore_n 1, 1) := by decide +kernel
theorem d_Disk_barrier_11 : decode b_Disk_barrier 11 = .ok (.iload_n 1, 1) := by decide +kernel
theorem d_Disk_barrier_12 : decode b_Disk_barrier 12 = .ok (.aload_n 0, 1) := by decide +kernel
theorem d_Disk_barrier_13 : decode b_Disk_barrier 13 = .ok (.getfield 72, 3) := by decide +kernel
theorem d_Disk_barrier_16 : decode b_Disk_barrier 16 = .ok (.if_icmp .ge 23, 3) := by decide +kernel
theorem d_Disk_barrier_19 : decode b_Disk_barrier 19 = .ok (.aload_n 0, 1) := by decide +kernel
theorem d_Disk_barrier_20 : decode b_Disk_barrier 20 = .ok (.aload_n 0, 1) := by decide +kernel
theorem d_Disk_barrier_21 : decode b_Disk_barrier 21 = .ok (.getfield 18, 3) := by decide +kernel
theorem d_Disk_barrier_24 : decode b_Disk_barrier 24 = .ok (.iload_n 1, 1) := by decide +kernel
theorem d_Disk_barrier_25 : decode b_Disk_barrier 25 = .ok (.iaload, 1) := by decide +kernel
theorem d_Disk_barrier_26 : decode b_Disk_barrier 26 = .ok (.iconst 0, 1) := by decide +kernel
theorem d_Disk_barrier_27 : decode b_Disk_barrier 27 = .ok (.sipush 256, 3) := by decide +kernel
theorem d_Disk_barrier_30 : decode b_Disk_barrier 30 = .ok (.invokevirtual 75, 3) := by decide +kernel
theorem d_Disk_barrier_33 : decode b_Disk_barrier 33 = .ok (.iinc 1 1, 3) := by decide +kernel
theorem d_Disk_barrier_36 : decode b_Disk_barrier 36 = .ok (.goto (-25), 3) := by decide +kernel
theorem d_Disk_barrier_39 : decode b_Disk_barrier 39 = .ok (.aload_n 0, 1) := by decide +kernel
theorem d_Disk_barrier_40 : decode b_Disk_barrier 40 = .ok (.invokevirtual 36, 3) := by decide +kernel
theorem d_Disk_barrier_43 : decode b_Disk_barrier 43 = .ok (.iconst 1, 1) := by decide +kernel
theorem d_Disk_barrier_44 : decode b_Disk_barrier 44 = .ok (.ireturn, 1) := by decide +kernel
theorem d_Disk_makeStep_0 : decode b_Disk_makeStep 0 = .ok (.aload_n 0, 1) := by decide +kernel
theorem d_Disk_makeStep_1 : decode b_Disk_makeStep 1 = .ok (.getfield 26, 3) := by decide +kernel
theorem d_Disk_makeStep_4 : decode b_Disk_makeStep 4 = .ok (.ifCond .ne 15, 3) := by decide +kernel
theorem d_Disk_makeStep_7 : decode b_Disk_makeStep 7 = .ok (.aload_n 0, 1) := by decide +kernel
theorem d_Disk_makeStep_8 : decode b_Disk_makeStep 8 = .ok (.iconst 0, 1) := by decide +kernel
theorem d_Disk_makeStep_9 : decode b_Disk_makeStep 9 = .ok (.putfield 22, 3) := by decide +kernel
theorem d_Disk_makeStep_12 : decode b_Disk_makeStep 12 = .ok (.aload_n 0, 1) := by decide +kernel
theorem d_Disk_makeStep_13 : decode b_Disk_makeStep 13 = .ok (.iconst (-1), 1) := by decide +kernel
theorem d_Disk_makeStep_14 : decode b_Disk_makeStep 14 = .ok (.putfield 26, 3) := by decide +kernel
theorem d_Disk_makeStep_17 : decode b_Disk_makeStep 17 = .ok (.iconst 0, 1) := by decide +kernel
theorem d_Disk_makeStep_18 : decode b_Disk_makeStep 18 = .ok (.ireturn, 1) := by decide +kernel
theorem d_Disk_makeStep_19 : decode b_Disk_makeStep 19 = .ok (.aload_n 0, 1) := by decide +kernel
theorem d_Disk_makeStep_20 : decode b_Disk_makeStep 20 = .ok (.getfield 26, 3) := by decide +kernel
theorem d_Disk_makeStep_23 : decode b_Disk_makeStep 23 = .ok (.ifCond .le 13, 3) := by decide +kernel
theorem d_Disk_makeStep_26 : decode b_Disk_makeStep 26 = .ok (.aload_n 0, 1) := by decide +kernel
theorem d_Disk_makeStep_27 : decode b_Disk_makeStep 27 = .ok (.dup, 1) := by decide +kernel
theorem d_Disk_makeStep_28 : decode b_Disk_makeStep 28 = .ok (.getfield 26, 3) := by decide +kernel
theorem d_Disk_makeStep_31 : decode b_Disk_makeStep 31 = .ok (.iconst 1, 1) := by decide +kernel
theorem d_Disk_makeStep_32 : decode b_Disk_makeStep 32 = .ok (.isub, 1) := by decide +kernel
theorem d_Disk_makeStep_33 : decode b_Disk_makeStep 33 = .ok (.putfield 26, 3) := by decide +kernel
theorem d_Disk_makeStep_36 : decode b_Disk_makeStep 36 = .ok (.aload_n 0, 1) := by decide +kernel
theorem d_Disk_makeStep_37 : decode b_Disk_makeStep 37 = .ok (.dup, 1) := by decide +kernel
theorem d_Disk_makeStep_38 : decode b_Disk_makeStep 38 = .ok (.getfield 39, 3) := by decide +kernel
theorem d_Disk_makeStep_41 : decode b_Disk_makeStep 41 = .ok (.iconst 1, 1) := by decide +kernel
theorem d_Disk_makeStep_42 : decode b_Disk_makeStep 42 = .ok (.iadd, 1) := by decide +kernel
theorem d_Disk_makeStep_43 : decode b_Disk_makeStep 43 = .ok (.putfield 39, 3) := by decide +kernel
theorem d_Disk_makeStep_46 : decode b_Disk_makeStep 46 = .ok (.iconst 1, 1) := by decide +kernel
theorem d_Disk_makeStep_47 : decode b_Disk_makeStep 47 = .ok (.ireturn, 1) := by decide +kernel
theorem d_Disk_bringDown_0 : decode b_Disk_bringDown 0 = .ok (.iload_n 1, 1) := by decide +kernel
theorem d_Disk_bringDown_1 : decode b_Disk_bringDown 1 = .ok (.invokestatic 42, 3) := by decide +kernel
theorem d_Disk_bringDown_4 : decode b_Disk_bringDown 4 = .ok (.ifCond .eq 28, 3) := by decide +kernel
theorem d_Disk_bringDown_7 : decode b_Disk_bringDown 7 = .ok (.iload_n 1, 1) := by decide +kernel
theorem d_Disk_bringDown_8 : decode b_Disk_bringDown 8 = .ok (.sipush 256, 3) := by decide +kernel
theorem d_Disk_bringDown_11 : decode b_Disk_bringDown 11 = .ok (.imul, 1) := by decide +kernel
theorem d_Disk_bringDown_12 : decode b_Disk_bringDown 12 = .ok (.iload_n 2, 1) := by decide +kernel
theorem d_Disk_bringDown_13 : decode b_Disk_bringDown 13 = .ok (.iadd, 1) := by decide +kernel
theorem d_Disk_bringDown_14 : decode b_Disk_bringDown 14 = .ok (.istore 4, 2) := by decide +kernel
theorem d_Disk_bringDown_16 : decode b_Disk_bringDown 16 = .ok (.aload_n 0, 1) := by decide +kernel
theorem d_Disk_bringDown_17 : decode b_Disk_bringDown 17 = .ok (.getfield 15, 3) := by decide +kernel
theorem d_Disk_bringDown_20 : decode b_Disk_bringDown 20 = .ok (.iload 4, 2) := by decide +kernel
theorem d_Disk_bringDown_22 : decode b_Disk_bringDown 22 = .ok (.aload_n 0, 1) := by decide +kernel
theorem d_Disk_bringDown_23 : decode b_Disk_bringDown 23 = .ok (.getfield 9, 3) := by decide +kernel
theorem d_Disk_bringDown_26 : decode b_Disk_bringDown 26 = .ok (.iload 4, 2) := by decide +kernel
theorem d_Disk_bringDown_28 : decode b_Disk_bringDown 28 = .ok (.iload_n 3, 1) := by decide +kernel
theorem d_Disk_bringDown_29 : decode b_Disk_bringDown 29 = .ok (.invokestatic 50, 3) := by decide +kernel
theorem d_Disk_bringDown_32 : decode b_Disk_bringDown 32 = .ok (.return_, 1) := by decide +kernel
theorem d_Disk_writeHome_0 : decode b_Disk_writeHome 0 = .ok (.iload_n 1, 1) := by decide +kernel
theorem d_Disk_writeHome_1 : decode b_Disk_writeHome 1 = .ok (.invokestatic 42, 3) := by decide +kernel
theorem d_Disk_writeHome_4 : decode b_Disk_writeHome 4 = .ok (.ifCond .eq 24, 3) := by decide +kernel
theorem d_Disk_writeHome_7 : decode b_Disk_writeHome 7 = .ok (.iload_n 3, 1) := by decide +kernel
theorem d_Disk_writeHome_8 : decode b_Disk_writeHome 8 = .ok (.ifCond .lt 20, 3) := by decide +kernel
theorem d_Disk_writeHome_11 : decode b_Disk_writeHome 11 = .ok (.iload_n 3, 1) := by decide +kernel
theorem d_Disk_writeHome_12 : decode b_Disk_writeHome 12 = .ok (.aload_n 2, 1) := by decide +kernel
theorem d_Disk_writeHome_13 : decode b_Disk_writeHome 13 = .ok (.arraylength, 1) := by decide +kernel
theorem d_Disk_writeHome_14 : decode b_Disk_writeHome 14 = .ok (.sipush 256, 3) := by decide +kernel
theorem d_Disk_writeHome_17 : decode b_Disk_writeHome 17 = .ok (.isub, 1) := by decide +kernel
theorem d_Disk_writeHome_18 : decode b_Disk_writeHome 18 = .ok (.if_icmp .gt 10, 3) := by decide +kernel
theorem d_Disk_writeHome_21 : decode b_Disk_writeHome 21 = .ok (.aload_n 0, 1) := by decide +kernel
theorem d_Disk_writeHome_22 : decode b_Disk_writeHome 22 = .ok (.invokevirtual 46, 3) := by decide +kernel
theorem d_Disk_writeHome_25 : decode b_Disk_writeHome 25 = .ok (.ifCond .ne 5, 3) := by decide +kernel
theorem d_Disk_writeHome_28 : decode b_Disk_writeHome 28 = .ok (.iconst 0, 1) := by decide +kernel
theorem d_Disk_writeHome_29 : decode b_Disk_writeHome 29 = .ok (.ireturn, 1) := by decide +kernel
theorem d_Disk_writeHome_30 : decode b_Disk_writeHome 30 = .ok (.aload_n 2, 1) := by decide +kernel
theorem d_Disk_writeHome_31 : decode b_Disk_writeHome 31 = .ok (.iload_n 3, 1) := by decide +kernel
theorem d_Disk_writeHome_32 : decode b_Disk_writeHome 32 = .ok (.aload_n 0, 1) := by decide +kernel
theorem d_Disk_writeHome_33 : decode b_Disk_writeHome 33 = .ok (.getfield 15, 3) := by decide +kernel
theorem d_Disk_writeHome_36 : decode b_Disk_writeHome 36 = .ok (.iload_n 1, 1) := by decide +kernel
theorem d_Disk_writeHome_37 : decode b_Disk_writeHome 37 = .ok (.sipush 256, 3) := by decide +kernel
theorem d_Disk_writeHome_40 : decode b_Disk_writeHome 40 = .ok (.imul, 1) := by decide +kernel
theorem d_Disk_writeHome_41 : decode b_Disk_writeHome 41 = .ok (.sipush 256, 3) := by decide +kernel
theorem d_Disk_writeHome_44 : decode b_Disk_writeHome 44 = .ok (.invokestatic 50, 3) := by decide +kernel
theorem d_Disk_writeHome_47 : decode b_Disk_writeHome 47 = .ok (.aload_n 0, 1) := by decide +kernel
theorem d_Disk_writeHome_48 : decode b_Disk_writeHome 48 = .ok (.getfield 56, 3) := by decide +kernel
theorem d_Disk_writeHome_51 : decode b_Disk_writeHome 51 = .ok (.iload_n 1, 1) := by decide +kernel
theorem d_Disk_writeHome_52 : decode b_Disk_writeHome 52 = .ok (.invokestatic 60, 3) := by decide +kernel
theorem d_Disk_writeHome_55 : decode b_Disk_writeHome 55 = .ok (.ifCond .ne 21, 3) := by decide +kernel
theorem d_Disk_writeHome_58 : decode b_Disk_writeHome 58 = .ok (.aload_n 0, 1) := by decide +kernel
theorem d_Disk_writeHome_59 : decode b_Disk_writeHome 59 = .ok (.dup, 1) := by decide +kernel
theorem d_Disk_writeHome_60 : decode b_Disk_writeHome 60 = .ok (.getfield 56, 3) := by decide +kernel
theorem d_Disk_writeHome_63 : decode b_Disk_writeHome 63 = .ok (.iload_n 1, 1) := by decide +kernel
theorem d_Disk_writeHome_64 : decode b_Disk_writeHome 64 = .ok (.invokestatic 64, 3) := by decide +kernel
theorem d_Disk_writeHome_67 : decode b_Disk_writeHome 67 = .ok (.lor, 1) := by decide +kernel
theorem d_Disk_writeHome_68 : decode b_Disk_writeHome 68 = .ok (.putfield 56, 3) := by decide +kernel
theorem d_Disk_writeHome_71 : decode b_Disk_writeHome 71 = .ok (.aload_n 0, 1) := by decide +kernel
theorem d_Disk_writeHome_72 : decode b_Disk_writeHome 72 = .ok (.iload_n 1, 1) := by decide +kernel
theorem d_Disk_writeHome_73 : decode b_Disk_writeHome 73 = .ok (.invokevirtual 68, 3) := by decide +kernel
theorem d_Disk_writeHome_76 : decode b_Disk_writeHome 76 = .ok (.iconst 1, 1) := by decide +kernel
theorem d_Disk_writeHome_77 : decode b_Disk_writeHome 77 = .ok (.ireturn, 1) := by decide +kernel
theorem d_Disk_putUnderWay_0 : decode b_Disk_putUnderWay 0 = .ok (.aload_n 0, 1) := by decide +kernel
theorem d_Disk_putUnderWay_1 : decode b_Disk_putUnderWay 1 = .ok (.getfield 72, 3) := by decide +kernel
theorem d_Disk_putUnderWay_4 : decode b_Disk_putUnderWay 4 = .ok (.aload_n 0, 1) := by decide +kernel
theorem d_Disk_putUnderWay_5 : decode b_Disk_putUnderWay 5 = .ok (.getfield 18, 3) := by decide +kernel
theorem d_Disk_putUnderWay_8 : decode b_Disk_putUnderWay 8 = .ok (.arraylength, 1) := by decide +kernel
theorem d_Disk_putUnderWay_9 : decode b_Disk_putUnderWay 9 = .ok (.if_icmp .ge 23, 3) := by decide +kernel
theorem d_Disk_putUnderWay_12 : decode b_Disk_putUnderWay 12 = .ok (.aload_n 0, 1) := by decide +kernel
theorem d_Disk_putUnderWay_13 : decode b_Disk_putUnderWay 13 = .ok (.getfield 18, 3) := by decide +kernel
theorem d_Disk_putUnderWay_16 : decode b_Disk_putUnderWay 16 = .ok (.aload_n 0, 1) := by decide +kernel
theorem d_Disk_putUnderWay_17 : decode b_Disk_putUnderWay 17 = .ok (.getfield 72, 3) := by decide +kernel
theorem d_Disk_putUnderWay_20 : decode b_Disk_putUnderWay 20 = .ok (.iload_n 1, 1) := by decide +kernel
theorem d_Disk_putUnderWay_21 : decode b_Disk_putUnderWay 21 = .ok (.iastore, 1) := by decide +kernel
theorem d_Disk_putUnderWay_22 : decode b_Disk_putUnderWay 22 = .ok (.aload_n 0, 1) := by decide +kernel
theorem d_Disk_putUnderWay_23 : decode b_Disk_putUnderWay 23 = .ok (.dup, 1) := by decide +kernel
theorem d_Disk_putUnderWay_24 : decode b_Disk_putUnderWay 24 = .ok (.getfield 72, 3) := by decide +kernel
theorem d_Disk_putUnderWay_27 : decode b_Disk_putUnderWay 27 = .ok (.iconst 1, 1) := by decide +kernel
theorem d_Disk_putUnderWay_28 : decode b_Disk_putUnderWay 28 = .ok (.iadd, 1) := by decide +kernel
theorem d_Disk_putUnderWay_29 : decode b_Disk_putUnderWay 29 = .ok (.putfield 72, 3) := by decide +kernel
theorem d_Disk_putUnderWay_32 : decode b_Disk_putUnderWay 32 = .ok (.return_, 1) := by decide +kernel
theorem d_Log_used_0 : decode b_Log_used 0 = .ok (.iconst 0, 1) := by decide +kernel
theorem d_Log_used_1 : decode b_Log_used 1 = .ok (.istore_n 1, 1) := by decide +kernel
theorem d_Log_used_2 : decode b_Log_used 2 = .ok (.iconst 0, 1) := by decide +kernel
theorem d_Log_used_3 : decode b_Log_used 3 = .ok (.istore_n 2, 1) := by decide +kernel
theorem d_Log_used_4 : decode b_Log_used 4 = .ok (.iload_n 2, 1) := by decide +kernel
theorem d_Log_used_5 : decode b_Log_used 5 = .ok (.aload_n 0, 1) := by decide +kernel
theorem d_Log_used_6 : decode b_Log_used 6 = .ok (.getfield 30, 3) := by decide +kernel
theorem d_Log_used_9 : decode b_Log_used 9 = .ok (.if_icmp .ge 18, 3) := by decide +kernel
theorem d_Log_used_12 : decode b_Log_used 12 = .ok (.iload_n 1, 1) := by decide +kernel
theorem d_Log_used_13 : decode b_Log_used 13 = .ok (.aload_n 0, 1) := by decide +kernel
theorem d_Log_used_14 : decode b_Log_used 14 = .ok (.getfield 18, 3) := by decide +kernel
theorem d_Log_used_17 : decode b_Log_used 17 = .ok (.iload_n 2, 1) := by decide +kernel
theorem d_Log_used_18 : decode b_Log_used 18 = .ok (.iaload, 1) := by decide +kernel
theorem d_Log_used_19 : decode b_Log_used 19 = .ok (.iadd, 1) := by decide +kernel
theorem d_Log_used_20 : decode b_Log_used 20 = .ok (.istore_n 1, 1) := by decide +kernel
theorem d_Log_used_21 : decode b_Log_used 21 = .ok (.iinc 2 1, 3) := by decide +kernel
theorem d_Log_used_24 : decode b_Log_used 24 = .ok (.goto (-20), 3) := by decide +kernel
theorem d_Log_used_27 : decode b_Log_used 27 = .ok (.iload_n 1, 1) := by decide +kernel
theorem d_Log_used_28 : decode b_Log_used 28 = .ok (.ireturn, 1) := by decide +kernel
theorem d_Log_latestImage_0 : decode b_Log_latestImage 0 = .ok (.aload_n 0, 1) := by decide +kernel
theorem d_Log_latestImage_1 : decode b_Log_latestImage 1 = .ok (.getfield 30, 3) := by decide +kernel
theorem d_Log_latestImage_4 : decode b_Log_latestImage 4 = .ok (.iconst 1, 1) := by decide +kernel
theorem d_Log_latestImage_5 : decode b_Log_latestImage 5 = .ok (.isub, 1) := by decide +kernel
theorem d_Log_latestImage_6 : decode b_Log_latestImage 6 = .ok (.istore_n 2, 1) := by decide +kernel
theorem d_Log_latestImage_7 : decode b_Log_latestImage 7 = .ok (.iload_n 2, 1) := by decide +kernel
theorem d_Log_latestImage_8 : decode b_Log_latestImage 8 = .ok (.ifCond .lt 29, 3) := by decide +kernel
theorem d_Log_latestImage_11 : decode b_Log_latestImage 11 = .ok (.aload_n 0, 1) := by decide +kernel
theorem d_Log_latestImage_12 : decode b_Log_latestImage 12 = .ok (.getfield 9, 3) := by decide +kernel
theorem d_Log_latestImage_15 : decode b_Log_latestImage 15 = .ok (.iload_n 2, 1) := by decide +kernel
theorem d_Log_latestImage_16 : decode b_Log_latestImage 16 = .ok (.laload, 1) := by decide +kernel
theorem d_Log_latestImage_17 : decode b_Log_latestImage 17 = .ok (.iload_n 1, 1) := by decide +kernel
theorem d_Log_latestImage_18 : decode b_Log_latestImage 18 = .ok (.invokestatic 43, 3) := by decide +kernel
theorem d_Log_latestImage_21 : decode b_Log_latestImage 21 = .ok (.ifCond .eq 10, 3) := by decide +kernel
theorem d_Log_latestImage_24 : decode b_Log_latestImage 24 = .ok (.aload_n 0, 1) := by decide +kernel
theorem d_Log_latestImage_25 : decode b_Log_latestImage 25 = .ok (.iload_n 2, 1) := by decide +kernel
theorem d_Log_latestImage_26 : decode b_Log_latestImage 26 = .ok (.iload_n 1, 1) := by decide +kernel
theorem d_Log_latestImage_27 : decode b_Log_latestImage 27 = .ok (.invokevirtual 59, 3) := by decide +kernel
theorem d_Log_latestImage_30 : decode b_Log_latestImage 30 = .ok (.ireturn, 1) := by decide +kernel
theorem d_Log_latestImage_31 : decode b_Log_latestImage 31 = .ok (.iinc 2 (-1), 3) := by decide +kernel
theorem d_Log_latestImage_34 : decode b_Log_latestImage 34 = .ok (.goto (-27), 3) := by decide +kernel
theorem d_Log_latestImage_37 : decode b_Log_latestImage 37 = .ok (.iconst (-1), 1) := by decide +kernel
theorem d_Log_latestImage_38 : decode b_Log_latestImage 38 = .ok (.ireturn, 1) := by decide +kernel
theorem d_Log_imageOf_0 : decode b_Log_imageOf 0 = .ok (.iload_n 1, 1) := by decide +kernel
theorem d_Log_imageOf_1 : decode b_Log_imageOf 1 = .ok (.ifCond .lt 24, 3) := by decide +kernel
theorem d_Log_imageOf_4 : decode b_Log_imageOf 4 = .ok (.iload_n 1, 1) := by decide +kernel
theorem d_Log_imageOf_5 : decode b_Log_imageOf 5 = .ok (.aload_n 0, 1) := by decide +kernel
theorem d_Log_imageOf_6 : decode b_Log_imageOf 6 = .ok (.getfield 30, 3) := by decide +kernel
theorem d_Log_imageOf_9 : decode b_Log_imageOf 9 = .ok (.if_icmp .ge 16, 3) := by decide +kernel
theorem d_Log_imageOf_12 : decode b_Log_imageOf 12 = .ok (.aload_n 0, 1) := by decide +kernel
theorem d_Log_imageOf_13 : decode b_Log_imageOf 13 = .ok (.getfield 9, 3) := by decide +kernel
theorem d_Log_imageOf_16 : decode b_Log_imageOf 16 = .ok (.iload_n 1, 1) := by decide +kernel
theorem d_Log_imageOf_17 : decode b_Log_imageOf 17 = .ok (.laload, 1) := by decide +kernel
theorem d_Log_imageOf_18 : decode b_Log_imageOf 18 = .ok (.iload_n 2, 1) := by decide +kernel
theorem d_Log_imageOf_19 : decode b_Log_imageOf 19 = .ok (.invokestatic 43, 3) := by decide +kernel
theorem d_Log_imageOf_22 : decode b_Log_imageOf 22 = .ok (.ifCond .ne 5, 3) := by decide +kernel
theorem d_Log_imageOf_25 : decode b_Log_imageOf 25 = .ok (.iconst (-1), 1) := by decide +kernel
theorem d_Log_imageOf_26 : decode b_Log_imageOf 26 = .ok (.ireturn, 1) := by decide +kernel
theorem d_Log_imageOf_27 : decode b_Log_imageOf 27 = .ok (.aload_n 0, 1) := by decide +kernel
theorem d_Log_imageOf_28 : decode b_Log_imageOf 28 = .ok (.getfield 9, 3) := by decide +kernel
theorem d_Log_imageOf_31 : decode b_Log_imageOf 31 = .ok (.iload_n 1, 1) := by decide +kernel
theorem d_Log_imageOf_32 : decode b_Log_imageOf 32 = .ok (.laload, 1) := by decide +kernel
theorem d_Log_imageOf_33 : decode b_Log_imageOf 33 = .ok (.iload_n 2, 1) := by decide +kernel
theorem d_Log_imageOf_34 : decode b_Log_imageOf 34 = .ok (.invokestatic 55, 3) := by decide +kernel
theorem d_Log_imageOf_37 : decode b_Log_imageOf 37 = .ok (.lconst 1, 1) := by decide +kernel
theorem d_Log_imageOf_38 : decode b_Log_imageOf 38 = .ok (.lsub, 1) := by decide +kernel
theorem d_Log_imageOf_39 : decode b_Log_imageOf 39 = .ok (.land, 1) := by decide +kernel
theorem d_Log_imageOf_40 : decode b_Log_imageOf 40 = .ok (.invokestatic 37, 3) := by decide +kernel
theorem d_Log_imageOf_43 : decode b_Log_imageOf 43 = .ok (.istore_n 3, 1) := by decide +kernel
theorem d_Log_imageOf_44 : decode b_Log_imageOf 44 = .ok (.aload_n 0, 1) := by decide +kernel
theorem d_Log_imageOf_45 : decode b_Log_imageOf 45 = .ok (.getfield 22, 3) := by decide +kernel
theorem d_Log_imageOf_48 : decode b_Log_imageOf 48 = .ok (.iload_n 1, 1) := by decide +kernel
theorem d_Log_imageOf_49 : decode b_Log_imageOf 49 = .ok (.iaload, 1) := by decide +kernel
theorem d_Log_imageOf_50 : decode b_Log_imageOf 50 = .ok (.iload_n 3, 1) := by decide +kernel
theorem d_Log_imageOf_51 : decode b_Log_imageOf 51 = .ok (.iadd, 1) := by decide +kernel
theorem d_Log_imageOf_52 : decode b_Log_imageOf 52 = .ok (.sipush 256, 3) := by decide +kernel
theorem d_Log_imageOf_55 : decode b_Log_imageOf 55 = .ok (.imul, 1) := by decide +kernel
theorem d_Log_imageOf_56 : decode b_Log_imageOf 56 = .ok (.ireturn, 1) := by decide +kernel
theorem d_Disk_writeRing_0 : decode b_Disk_writeRing 0 = .ok (.aload_n 0, 1) := by decide +kernel
theorem d_Disk_writeRing_1 : decode b_Disk_writeRing 1 = .ok (.invokevirtual 46, 3) := by decide +kernel
theorem d_Disk_writeRing_4 : decode b_Disk_writeRing 4 = .ok (.ifCond .ne 5, 3) := by decide +kernel
theorem d_Disk_writeRing_7 : decode b_Disk_writeRing 7 = .ok (.iconst 0, 1) := by decide +kernel
theorem d_Disk_writeRing_8 : decode b_Disk_writeRing 8 = .ok (.ireturn, 1) := by decide +kernel
theorem d_Disk_writeRing_9 : decode b_Disk_writeRing 9 = .ok (.aload_n 0, 1) := by decide +kernel
theorem d_Disk_writeRing_10 : decode b_Disk_writeRing 10 = .ok (.iload_n 1, 1) := by decide +kernel
theorem d_Disk_writeRing_11 : decode b_Disk_writeRing 11 = .ok (.invokevirtual 68, 3) := by decide +kernel
theorem d_Disk_writeRing_14 : decode b_Disk_writeRing 14 = .ok (.iconst 1, 1) := by decide +kernel
theorem d_Disk_writeRing_15 : decode b_Disk_writeRing 15 = .ok (.ireturn, 1) := by decide +kernel
theorem d_Log_append_0 : decode b_Log_append 0 = .ok (.aload_n 0, 1) := by decide +kernel
theorem d_Log_append_1 : decode b_Log_append 1 = .ok (.getfield 30, 3) := by decide +kernel
theorem d_Log_append_4 : decode b_Log_append 4 = .ok (.aload_n 0, 1) := by decide +kernel
theorem d_Log_append_5 : decode b_Log_append 5 = .ok (.getfield 9, 3) := by decide +kernel
theorem d_Log_append_8 : decode b_Log_append 8 = .ok (.arraylength, 1) := by decide +kernel
theorem d_Log_append_9 : decode b_Log_append 9 = .ok (.if_icmp .ge 18, 3) := by decide +kernel
theorem d_Log_append_12 : decode b_Log_append 12 = .ok (.aload_n 0, 1) := by decide +kernel
theorem d_Log_append_13 : decode b_Log_append 13 = .ok (.getfield 34, 3) := by decide +kernel
theorem d_Log_append_16 : decode b_Log_append 16 = .ok (.lload_n 1, 1) := by decide +kernel
theorem d_Log_append_17 : decode b_Log_append 17 = .ok (.invokestatic 37, 3) := by decide +kernel
theorem d_Log_append_20 : decode b_Log_append 20 = .ok (.iadd, 1) := by decide +kernel
theorem d_Log_append_21 : decode b_Log_append 21 = .ok (.sipush 200, 3) := by decide +kernel
theorem d_Log_append_24 : decode b_Log_append 24 = .ok (.if_icmp .le 4, 3) := by decide +kernel
theorem d_Log_append_27 : decode b_Log_append 27 = .ok (.return_, 1) := by decide +kernel
theorem d_Log_append_28 : decode b_Log_append 28 = .ok (.aload_n 0, 1) := by decide +kernel
theorem d_Log_append_29 : decode b_Log_append 29 = .ok (.getfield 9, 3) := by decide +kernel
theorem d_Log_append_32 : decode b_Log_append 32 = .ok (.aload_n 0, 1) := by decide +kernel
theorem d_Log_append_33 : decode b_Log_append 33 = .ok (.getfield 30, 3) := by decide +kernel
theorem d_Log_append_36 : decode b_Log_append 36 = .ok (.lload_n 1, 1) := by decide +kernel
theorem d_Log_append_37 : decode b_Log_append 37 = .ok (.lastore, 1) := by decide +kernel
theorem d_Log_append_38 : decode b_Log_append 38 = .ok (.aload_n 0, 1) := by decide +kernel
theorem d_Log_append_39 : decode b_Log_append 39 = .ok (.getfield 15, 3) := by decide +kernel
theorem d_Log_append_42 : decode b_Log_append 42 = .ok (.aload_n 0, 1) := by decide +kernel
theorem d_Log_append_43 : decode b_Log_append 43 = .ok (.getfield 30, 3) := by decide +kernel
theorem d_Log_append_46 : decode b_Log_append 46 = .ok (.lload_n 3, 1) := by decide +kernel
theorem d_Log_append_47 : decode b_Log_append 47 = .ok (.lastore, 1) := by decide +kernel
theorem d_Log_append_48 : decode b_Log_append 48 = .ok (.aload_n 0, 1) := by decide +kernel
theorem d_Log_append_49 : decode b_Log_append 49 = .ok (.getfield 18, 3) := by decide +kernel
theorem d_Log_append_52 : decode b_Log_append 52 = .ok (.aload_n 0, 1) := by decide +kernel
theorem d_Log_append_53 : decode b_Log_append 53 = .ok (.getfield 30, 3) := by decide +kernel
theorem d_Log_append_56 : decode b_Log_append 56 = .ok (.iload 5, 2) := by decide +kernel
theorem d_Log_append_58 : decode b_Log_append 58 = .ok (.iastore, 1) := by decide +kernel
theorem d_Log_append_59 : decode b_Log_append 59 = .ok (.aload_n 0, 1) := by decide +kernel
theorem d_Log_append_60 : decode b_Log_append 60 = .ok (.getfield 22, 3) := by decide +kernel
theorem d_Log_append_63 : decode b_Log_append 63 = .ok (.aload_n 0, 1) := by decide +kernel
theorem d_Log_append_64 : decode b_Log_append 64 = .ok (.getfield 30, 3) := by decide +kernel
theorem d_Log_append_67 : decode b_Log_append 67 = .ok (.aload_n 0, 1) := by decide +kernel
theorem d_Log_append_68 : decode b_Log_append 68 = .ok (.getfield 34, 3) := by decide +kernel
theorem d_Log_append_71 : decode b_Log_append 71 = .ok (.iastore, 1) := by decide +kernel
theorem d_Log_append_72 : decode b_Log_append 72 = .ok (.aload_n 0, 1) := by decide +kernel
theorem d_Log_append_73 : decode b_Log_append 73 = .ok (.dup, 1) := by decide +kernel
theorem d_Log_append_74 : decode b_Log_append 74 = .ok (.getfield 30, 3) := by decide +kernel
theorem d_Log_append_77 : decode b_Log_append 77 = .ok (.iconst 1, 1) := by decide +kernel
theorem d_Log_append_78 : decode b_Log_append 78 = .ok (.iadd, 1) := by decide +kernel
theorem d_Log_append_79 : decode b_Log_append 79 = .ok (.putfield 30, 3) := by decide +kernel
theorem d_Log_append_82 : decode b_Log_append 82 = .ok (.iconst 0, 1) := by decide +kernel
theorem d_Log_append_83 : decode b_Log_append 83 = .ok (.istore 7, 2) := by decide +kernel
theorem d_Log_append_85 : decode b_Log_append 85 = .ok (.iload 7, 2) := by decide +kernel
theorem d_Log_append_87 : decode b_Log_append 87 = .ok (.bipush 64, 2) := by decide +kernel
theorem d_Log_append_89 : decode b_Log_append 89 = .ok (.if_icmp .ge 54, 3) := by decide +kernel
theorem d_Log_append_92 : decode b_Log_append 92 = .ok (.lload_n 1, 1) := by decide +kernel
theorem d_Log_append_93 : decode b_Log_append 93 = .ok (.iload 7, 2) := by decide +kernel
theorem d_Log_append_95 : decode b_Log_append 95 = .ok (.invokestatic 43, 3) := by decide +kernel
theorem d_Log_append_98 : decode b_Log_append 98 = .ok (.ifCond .eq 39, 3) := by decide +kernel
theorem d_Log_append_101 : decode b_Log_append 101 = .ok (.aload 6, 2) := by decide +kernel
theorem d_Log_append_103 : decode b_Log_append 103 = .ok (.iload 7, 2) := by decide +kernel
theorem d_Log_append_105 : decode b_Log_append 105 = .ok (.sipush 256, 3) := by decide +kernel
theorem d_Log_append_108 : decode b_Log_append 108 = .ok (.imul, 1) := by decide +kernel
theorem d_Log_append_109 : decode b_Log_append 109 = .ok (.aload_n 0, 1) := by decide +kernel
theorem d_Log_append_110 : decode b_Log_append 110 = .ok (.getfield 26, 3) := by decide +kernel
theorem d_Log_append_113 : decode b_Log_append 113 = .ok (.aload_n 0, 1) := by decide +kernel
theorem d_Log_append_114 : decode b_Log_append 114 = .ok (.getfield 34, 3) := by decide +kernel
theorem d_Log_append_117 : decode b_Log_append 117 = .ok (.sipush 256, 3) := by decide +kernel
theorem d_Log_append_120 : decode b_Log_append 120 = .ok (.imul, 1) := by decide +kernel
theorem d_Log_append_121 : decode b_Log_append 121 = .ok (.sipush 256, 3) := by decide +kernel
theorem d_Log_append_124 : decode b_Log_append 124 = .ok (.invokestatic 47, 3) := by decide +kernel
theorem d_Log_append_127 : decode b_Log_append 127 = .ok (.aload_n 0, 1) := by decide +kernel
theorem d_Log_append_128 : decode b_Log_append 128 = .ok (.dup, 1) := by decide +kernel
theorem d_Log_append_129 : decode b_Log_append 129 = .ok (.getfield 34, 3) := by decide +kernel
theorem d_Log_append_132 : decode b_Log_append 132 = .ok (.iconst 1, 1) := by decide +kernel
theorem d_Log_append_133 : decode b_Log_append 133 = .ok (.iadd, 1) := by decide +kernel
theorem d_Log_append_134 : decode b_Log_append 134 = .ok (.putfield 34, 3) := by decide +kernel
theorem d_Log_append_137 : decode b_Log_append 137 = .ok (.iinc 7 1, 3) := by decide +kernel
theorem d_Log_append_140 : decode b_Log_append 140 = .ok (.goto (-55), 3) := by decide +kernel
theorem d_Log_append_143 : decode b_Log_append 143 = .ok (.return_, 1) := by decide +kernel
theorem d_Disk_placeUnderWay_0 : decode b_Disk_placeUnderWay 0 = .ok (.iconst 0, 1) := by decide +kernel
theorem d_Disk_placeUnderWay_1 : decode b_Disk_placeUnderWay 1 = .ok (.istore_n 2, 1) := by decide +kernel
theorem d_Disk_placeUnderWay_2 : decode b_Disk_placeUnderWay 2 = .ok (.iload_n 2, 1) := by decide +kernel
theorem d_Disk_placeUnderWay_3 : decode b_Disk_placeUnderWay 3 = .ok (.aload_n 0, 1) := by decide +kernel
theorem d_Disk_placeUnderWay_4 : decode b_Disk_placeUnderWay 4 = .ok (.getfield 72, 3) := by decide +kernel
theorem d_Disk_placeUnderWay_7 : decode b_Disk_placeUnderWay 7 = .ok (.if_icmp .ge 21, 3) := by decide +kernel
theorem d_Disk_placeUnderWay_10 : decode b_Disk_placeUnderWay 10 = .ok (.aload_n 0, 1) := by decide +kernel
theorem d_Disk_placeUnderWay_11 : decode b_Disk_placeUnderWay 11 = .ok (.getfield 18, 3) := by decide +kernel
theorem d_Disk_placeUnderWay_14 : decode b_Disk_placeUnderWay 14 = .ok (.iload_n 2, 1) := by decide +kernel
theorem d_Disk_placeUnderWay_15 : decode b_Disk_placeUnderWay 15 = .ok (.iaload, 1) := by decide +kernel
theorem d_Disk_placeUnderWay_16 : decode b_Disk_placeUnderWay 16 = .ok (.iload_n 1, 1) := by decide +kernel
theorem d_Disk_placeUnderWay_17 : decode b_Disk_placeUnderWay 17 = .ok (.if_icmp .ne 5, 3) := by decide +kernel
theorem d_Disk_placeUnderWay_20 : decode b_Disk_placeUnderWay 20 = .ok (.iload_n 2, 1) := by decide +kernel
theorem d_Disk_placeUnderWay_21 : decode b_Disk_placeUnderWay 21 = .ok (.ireturn, 1) := by decide +kernel
theorem d_Disk_placeUnderWay_22 : decode b_Disk_placeUnderWay 22 = .ok (.iinc 2 1, 3) := by decide +kernel
theorem d_Disk_placeUnderWay_25 : decode b_Disk_placeUnderWay 25 = .ok (.goto (-23), 3) := by decide +kernel
theorem d_Disk_placeUnderWay_28 : decode b_Disk_placeUnderWay 28 = .ok (.iconst (-1), 1) := by decide +kernel
theorem d_Disk_placeUnderWay_29 : decode b_Disk_placeUnderWay 29 = .ok (.ireturn, 1) := by decide +kernel
theorem d_Disk_isFirstHalfDown_0 : decode b_Disk_isFirstHalfDown 0 = .ok (.iload_n 0, 1) := by decide +kernel
theorem d_Disk_isFirstHalfDown_1 : decode b_Disk_isFirstHalfDown 1 = .ok (.lload_n 1, 1) := by decide +kernel
theorem d_Disk_isFirstHalfDown_2 : decode b_Disk_isFirstHalfDown 2 = .ok (.invokestatic 86, 3) := by decide +kernel
theorem d_Disk_isFirstHalfDown_5 : decode b_Disk_isFirstHalfDown 5 = .ok (.istore_n 3, 1) := by decide +kernel
theorem d_Disk_isFirstHalfDown_6 : decode b_Disk_isFirstHalfDown 6 = .ok (.iload_n 3, 1) := by decide +kernel
theorem d_Disk_isFirstHalfDown_7 : decode b_Disk_isFirstHalfDown 7 = .ok (.iconst 1, 1) := by decide +kernel
theorem d_Disk_isFirstHalfDown_8 : decode b_Disk_isFirstHalfDown 8 = .ok (.if_icmp .eq 8, 3) := by decide +kernel
theorem d_Disk_isFirstHalfDown_11 : decode b_Disk_isFirstHalfDown 11 = .ok (.iload_n 3, 1) := by decide +kernel
theorem d_Disk_isFirstHalfDown_12 : decode b_Disk_isFirstHalfDown 12 = .ok (.iconst 2, 1) := by decide +kernel
theorem d_Disk_isFirstHalfDown_13 : decode b_Disk_isFirstHalfDown 13 = .ok (.if_icmp .ne 7, 3) := by decide +kernel
theorem d_Disk_isFirstHalfDown_16 : decode b_Disk_isFirstHalfDown 16 = .ok (.iconst 1, 1) := by decide +kernel
theorem d_Disk_isFirstHalfDown_17 : decode b_Disk_isFirstHalfDown 17 = .ok (.goto 4, 3) := by decide +kernel
theorem d_Disk_isFirstHalfDown_20 : decode b_Disk_isFirstHalfDown 20 = .ok (.iconst 0, 1) := by decide +kernel
theorem d_Disk_isFirstHalfDown_21 : decode b_Disk_isFirstHalfDown 21 = .ok (.ireturn, 1) := by decide +kernel
theorem d_Disk_partDown_0 : decode b_Disk_partDown 0 = .ok (.iload_n 0, 1) := by decide +kernel
theorem d_Disk_partDown_1 : decode b_Disk_partDown 1 = .ok (.bipush 32, 2) := by decide +kernel
theorem d_Disk_partDown_3 : decode b_Disk_partDown 3 = .ok (.if_icmp .ge 14, 3) := by decide +kernel
theorem d_Disk_partDown_6 : decode b_Disk_partDown 6 = .ok (.lload_n 1, 1) := by decide +kernel
theorem d_Disk_partDown_7 : decode b_Disk_partDown 7 = .ok (.iconst 2, 1) := by decide +kernel
theorem d_Disk_partDown_8 : decode b_Disk_partDown 8 = .ok (.iload_n 0, 1) := by decide +kernel
theorem d_Disk_partDown_9 : decode b_Disk_partDown 9 = .ok (.imul, 1) := by decide +kernel
theorem d_Disk_partDown_10 : decode b_Disk_partDown 10 = .ok (.lushr, 1) := by decide +kernel
theorem d_Disk_partDown_11 : decode b_Disk_partDown 11 = .ok (.l2i, 1) := by decide +kernel
theorem d_Disk_partDown_12 : decode b_Disk_partDown 12 = .ok (.iconst 3, 1) := by decide +kernel
theorem d_Disk_partDown_13 : decode b_Disk_partDown 13 = .ok (.iand, 1) := by decide +kernel
theorem d_Disk_partDown_14 : decode b_Disk_partDown 14 = .ok (.goto 4, 3) := by decide +kernel
theorem d_Disk_partDown_17 : decode b_Disk_partDown 17 = .ok (.iconst 0, 1) := by decide +kernel
theorem d_Disk_partDown_18 : decode b_Disk_partDown 18 = .ok (.ireturn, 1) := by decide +kernel
theorem d_Log_dropLatest_0 : decode b_Log_dropLatest 0 = .ok (.aload_n 0, 1) := by decide +kernel
theorem d_Log_dropLatest_1 : decode b_Log_dropLatest 1 = .ok (.getfield 30, 3) := by decide +kernel
theorem d_Log_dropLatest_4 : decode b_Log_dropLatest 4 = .ok (.ifCond .le 26, 3) := by decide +kernel
theorem d_Log_dropLatest_7 : decode b_Log_dropLatest 7 = .ok (.aload_n 0, 1) := by decide +kernel
theorem d_Log_dropLatest_8 : decode b_Log_dropLatest 8 = .ok (.dup, 1) := by decide +kernel
theorem d_Log_dropLatest_9 : decode b_Log_dropLatest 9 = .ok (.getfield 30, 3) := by decide +kernel
theorem d_Log_dropLatest_12 : decode b_Log_dropLatest 12 = .ok (.iconst 1, 1) := by decide +kernel
theorem d_Log_dropLatest_13 : decode b_Log_dropLatest 13 = .ok (.isub, 1) := by decide +kernel
theorem d_Log_dropLatest_14 : decode b_Log_dropLatest 14 = .ok (.putfield 30, 3) := by decide +kernel
theorem d_Log_dropLatest_17 : decode b_Log_dropLatest 17 = .ok (.aload_n 0, 1) := by decide +kernel
theorem d_Log_dropLatest_18 : decode b_Log_dropLatest 18 = .ok (.aload_n 0, 1) := by decide +kernel
theorem d_Log_dropLatest_19 : decode b_Log_dropLatest 19 = .ok (.getfield 22, 3) := by decide +kernel
theorem d_Log_dropLatest_22 : decode b_Log_dropLatest 22 = .ok (.aload_n 0, 1) := by decide +kernel
theorem d_Log_dropLatest_23 : decode b_Log_dropLatest 23 = .ok (.getfield 30, 3) := by decide +kernel
theorem d_Log_dropLatest_26 : decode b_Log_dropLatest 26 = .ok (.iaload, 1) := by decide +kernel
theorem d_Log_dropLatest_27 : decode b_Log_dropLatest 27 = .ok (.putfield 34, 3) := by decide +kernel
theorem d_Log_dropLatest_30 : decode b_Log_dropLatest 30 = .ok (.return_, 1) := by decide +kernel
theorem d_Disk_settle_0 : decode b_Disk_settle 0 = .ok (.iconst 0, 1) := by decide +kernel
theorem d_Disk_settle_1 : decode b_Disk_settle 1 = .ok (.istore_n 3, 1) := by decide +kernel
theorem d_Disk_settle_2 : decode b_Disk_settle 2 = .ok (.iload_n 3, 1) := by decide +kernel
theorem d_Disk_settle_3 : decode b_Disk_settle 3 = .ok (.aload_n 0, 1) := by decide +kernel
theorem d_Disk_settle_4 : decode b_Disk_settle 4 = .ok (.getfield 72, 3) := by decide +kernel
theorem d_Disk_settle_7 : decode b_Disk_settle 7 = .ok (.if_icmp .ge 89, 3) := by decide +kernel
theorem d_Disk_settle_10 : decode b_Disk_settle 10 = .ok (.aload_n 0, 1) := by decide +kernel
theorem d_Disk_settle_11 : decode b_Disk_settle 11 = .ok (.getfield 18, 3) := by decide +kernel
theorem d_Disk_settle_14 : decode b_Disk_settle 14 = .ok (.iload_n 3, 1) := by decide +kernel
theorem d_Disk_settle_15 : decode b_Disk_settle 15 = .ok (.iaload, 1) := by decide +kernel
theorem d_Disk_settle_16 : decode b_Disk_settle 16 = .ok (.istore 4, 2) := by decide +kernel
theorem d_Disk_settle_18 : decode b_Disk_settle 18 = .ok (.iload_n 3, 1) := by decide +kernel
theorem d_Disk_settle_19 : decode b_Disk_settle 19 = .ok (.lload_n 1, 1) := by decide +kernel
theorem d_Disk_settle_20 : decode b_Disk_settle 20 = .ok (.invokestatic 79, 3) := by decide +kernel
theorem d_Disk_settle_23 : decode b_Disk_settle 23 = .ok (.ifCond .eq 13, 3) := by decide +kernel
theorem d_Disk_settle_26 : decode b_Disk_settle 26 = .ok (.aload_n 0, 1) := by decide +kernel
theorem d_Disk_settle_27 : decode b_Disk_settle 27 = .ok (.iload 4, 2) := by decide +kernel
theorem d_Disk_settle_29 : decode b_Disk_settle 29 = .ok (.iconst 0, 1) := by decide +kernel
theorem d_Disk_settle_30 : decode b_Disk_settle 30 = .ok (.sipush 128, 3) := by decide +kernel
theorem d_Disk_settle_33 : decode b_Disk_settle 33 = .ok (.invokevirtual 75, 3) := by decide +kernel
theorem d_Disk_settle_36 : decode b_Disk_settle 36 = .ok (.iload_n 3, 1) := by decide +kernel
theorem d_Disk_settle_37 : decode b_Disk_settle 37 = .ok (.lload_n 1, 1) := by decide +kernel
theorem d_Disk_settle_38 : decode b_Disk_settle 38 = .ok (.invokestatic 83, 3) := by decide +kernel
theorem d_Disk_settle_41 : decode b_Disk_settle 41 = .ok (.ifCond .eq 15, 3) := by decide +kernel
theorem d_Disk_settle_44 : decode b_Disk_settle 44 = .ok (.aload_n 0, 1) := by decide +kernel
theorem d_Disk_settle_45 : decode b_Disk_settle 45 = .ok (.iload 4, 2) := by decide +kernel
theorem d_Disk_settle_47 : decode b_Disk_settle 47 = .ok (.sipush 128, 3) := by decide +kernel
theorem d_Disk_settle_50 : decode b_Disk_settle 50 = .ok (.sipush 128, 3) := by decide +kernel
theorem d_Disk_settle_53 : decode b_Disk_settle 53 = .ok (.invokevirtual 75, 3) := by decide +kernel
theorem d_Disk_settle_56 : decode b_Disk_settle 56 = .ok (.iload 4, 2) := by decide +kernel
theorem d_Disk_settle_58 : decode b_Disk_settle 58 = .ok (.invokestatic 42, 3) := by decide +kernel
theorem d_Disk_settle_61 : decode b_Disk_settle 61 = .ok (.ifCond .eq 29, 3) := by decide +kernel
theorem d_Disk_settle_64 : decode b_Disk_settle 64 = .ok (.aload_n 0, 1) := by decide +kernel
theorem d_Disk_settle_65 : decode b_Disk_settle 65 = .ok (.getfield 9, 3) := by decide +kernel
theorem d_Disk_settle_68 : decode b_Disk_settle 68 = .ok (.iload 4, 2) := by decide +kernel
theorem d_Disk_settle_70 : decode b_Disk_settle 70 = .ok (.sipush 256, 3) := by decide +kernel
theorem d_Disk_settle_73 : decode b_Disk_settle 73 = .ok (.imul, 1) := by decide +kernel
theorem d_Disk_settle_74 : decode b_Disk_settle 74 = .ok (.aload_n 0, 1) := by decide +kernel
theorem d_Disk_settle_75 : decode b_Disk_settle 75 = .ok (.getfield 15, 3) := by decide +kernel
theorem d_Disk_settle_78 : decode b_Disk_settle 78 = .ok (.iload 4, 2) := by decide +kernel
theorem d_Disk_settle_80 : decode b_Disk_settle 80 = .ok (.sipush 256, 3) := by decide +kernel
theorem d_Disk_settle_83 : decode b_Disk_settle 83 = .ok (.imul, 1) := by decide +kernel
theorem d_Disk_settle_84 : decode b_Disk_settle 84 = .ok (.sipush 256, 3) := by decide +kernel
theorem d_Disk_settle_87 : decode b_Disk_settle 87 = .ok (.invokestatic 50, 3) := by decide +kernel
theorem d_Disk_settle_90 : decode b_Disk_settle 90 = .ok (.iinc 3 1, 3) := by decide +kernel
theorem d_Disk_settle_93 : decode b_Disk_settle 93 = .ok (.goto (-91), 3) := by decide +kernel
theorem d_Disk_settle_96 : decode b_Disk_settle 96 = .ok (.aload_n 0, 1) := by decide +kernel
theorem d_Disk_settle_97 : decode b_Disk_settle 97 = .ok (.invokevirtual 36, 3) := by decide +kernel
theorem d_Disk_settle_100 : decode b_Disk_settle 100 = .ok (.return_, 1) := by decide +kernel
theorem d_Disk_isLastHalfDown_0 : decode b_Disk_isLastHalfDown 0 = .ok (.iload_n 0, 1) := by decide +kernel
theorem d_Disk_isLastHalfDown_1 : decode b_Disk_isLastHalfDown 1 = .ok (.lload_n 1, 1) := by decide +kernel
theorem d_Disk_isLastHalfDown_2 : decode b_Disk_isLastHalfDown 2 = .ok (.invokestatic 86, 3) := by decide +kernel
theorem d_Disk_isLastHalfDown_5 : decode b_Disk_isLastHalfDown 5 = .ok (.istore_n 3, 1) := by decide +kernel
theorem d_Disk_isLastHalfDown_6 : decode b_Disk_isLastHalfDown 6 = .ok (.iload_n 3, 1) := by decide +kernel
theorem d_Disk_isLastHalfDown_7 : decode b_Disk_isLastHalfDown 7 = .ok (.iconst 1, 1) := by decide +kernel
theorem d_Disk_isLastHalfDown_8 : decode b_Disk_isLastHalfDown 8 = .ok (.if_icmp .eq 8, 3) := by decide +kernel
theorem d_Disk_isLastHalfDown_11 : decode b_Disk_isLastHalfDown 11 = .ok (.iload_n 3, 1) := by decide +kernel
theorem d_Disk_isLastHalfDown_12 : decode b_Disk_isLastHalfDown 12 = .ok (.iconst 3, 1) := by decide +kernel
theorem d_Disk_isLastHalfDown_13 : decode b_Disk_isLastHalfDown 13 = .ok (.if_icmp .ne 7, 3) := by decide +kernel
theorem d_Disk_isLastHalfDown_16 : decode b_Disk_isLastHalfDown 16 = .ok (.iconst 1, 1) := by decide +kernel
theorem d_Disk_isLastHalfDown_17 : decode b_Disk_isLastHalfDown 17 = .ok (.goto 4, 3) := by decide +kernel
theorem d_Disk_isLastHalfDown_20 : decode b_Disk_isLastHalfDown 20 = .ok (.iconst 0, 1) := by decide +kernel
theorem d_Disk_isLastHalfDown_21 : decode b_Disk_isLastHalfDown 21 = .ok (.ireturn, 1) := by decide +kernel
theorem d_Log_living_0 : decode b_Log_living 0 = .ok (.iload_n 1, 1) := by decide +kernel
theorem d_Log_living_1 : decode b_Log_living 1 = .ok (.ifCond .lt 11, 3) := by decide +kernel
theorem d_Log_living_4 : decode b_Log_living 4 = .ok (.iload_n 1, 1) := by decide +kernel
theorem d_Log_living_5 : decode b_Log_living 5 = .ok (.aload_n 0, 1) := by decide +kernel
theorem d_Log_living_6 : decode b_Log_living 6 = .ok (.getfield 30, 3) := by decide +kernel
theorem d_Log_living_9 : decode b_Log_living 9 = .ok (.if_icmp .lt 5, 3) := by decide +kernel
theorem d_Log_living_12 : decode b_Log_living 12 = .ok (.lconst 0, 1) := by decide +kernel
theorem d_Log_living_13 : decode b_Log_living 13 = .ok (.lreturn, 1) := by decide +kernel
theorem d_Log_living_14 : decode b_Log_living 14 = .ok (.aload_n 0, 1) := by decide +kernel
theorem d_Log_living_15 : decode b_Log_living 15 = .ok (.getfield 9, 3) := by decide +kernel
theorem d_Log_living_18 : decode b_Log_living 18 = .ok (.iload_n 1, 1) := by decide +kernel
theorem d_Log_living_19 : decode b_Log_living 19 = .ok (.laload, 1) := by decide +kernel
theorem d_Log_living_20 : decode b_Log_living 20 = .ok (.lstore_n 2, 1) := by decide +kernel
theorem d_Log_living_21 : decode b_Log_living 21 = .ok (.iload_n 1, 1) := by decide +kernel
theorem d_Log_living_22 : decode b_Log_living 22 = .ok (.istore 4, 2) := by decide +kernel
theorem d_Log_living_24 : decode b_Log_living 24 = .ok (.iload 4, 2) := by decide +kernel
theorem d_Log_living_26 : decode b_Log_living 26 = .ok (.aload_n 0, 1) := by decide +kernel
theorem d_Log_living_27 : decode b_Log_living 27 = .ok (.getfield 30, 3) := by decide +kernel
theorem d_Log_living_30 : decode b_Log_living 30 = .ok (.if_icmp .ge 23, 3) := by decide +kernel
theorem d_Log_living_33 : decode b_Log_living 33 = .ok (.lload_n 2, 1) := by decide +kernel
theorem d_Log_living_34 : decode b_Log_living 34 = .ok (.aload_n 0, 1) := by decide +kernel
theorem d_Log_living_35 : decode b_Log_living 35 = .ok (.getfield 15, 3) := by decide +kernel
theorem d_Log_living_38 : decode b_Log_living 38 = .ok (.iload 4, 2) := by decide +kernel
theorem d_Log_living_40 : decode b_Log_living 40 = .ok (.laload, 1) := by decide +kernel
theorem d_Log_living_41 : decode b_Log_living 41 = .ok (.ldc2_w 53, 3) := by decide +kernel
theorem d_Log_living_44 : decode b_Log_living 44 = .ok (.lxor, 1) := by decide +kernel
theorem d_Log_living_45 : decode b_Log_living 45 = .ok (.land, 1) := by decide +kernel
theorem d_Log_living_46 : decode b_Log_living 46 = .ok (.lstore_n 2, 1) := by decide +kernel
theorem d_Log_living_47 : decode b_Log_living 47 = .ok (.iinc 4 1, 3) := by decide +kernel
theorem d_Log_living_50 : decode b_Log_living 50 = .ok (.goto (-26), 3) := by decide +kernel
theorem d_Log_living_53 : decode b_Log_living 53 = .ok (.lload_n 2, 1) := by decide +kernel
theorem d_Log_living_54 : decode b_Log_living 54 = .ok (.lreturn, 1) := by decide +kernel
