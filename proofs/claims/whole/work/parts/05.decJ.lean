theorem d_J_init_0 : decode b_J_init 0 = .ok (.aload_n 0, 1) := by decide +kernel
theorem d_J_init_1 : decode b_J_init 1 = .ok (.invokespecial 1, 3) := by decide +kernel
theorem d_J_init_4 : decode b_J_init 4 = .ok (.aload_n 0, 1) := by decide +kernel
theorem d_J_init_5 : decode b_J_init 5 = .ok (.new 7, 3) := by decide +kernel
theorem d_J_init_8 : decode b_J_init 8 = .ok (.dup, 1) := by decide +kernel
theorem d_J_init_9 : decode b_J_init 9 = .ok (.invokespecial 9, 3) := by decide +kernel
theorem d_J_init_12 : decode b_J_init 12 = .ok (.putfield 10, 3) := by decide +kernel
theorem d_J_init_15 : decode b_J_init 15 = .ok (.aload_n 0, 1) := by decide +kernel
theorem d_J_init_16 : decode b_J_init 16 = .ok (.new 16, 3) := by decide +kernel
theorem d_J_init_19 : decode b_J_init 19 = .ok (.dup, 1) := by decide +kernel
theorem d_J_init_20 : decode b_J_init 20 = .ok (.invokespecial 18, 3) := by decide +kernel
theorem d_J_init_23 : decode b_J_init 23 = .ok (.putfield 19, 3) := by decide +kernel
theorem d_J_init_26 : decode b_J_init 26 = .ok (.aload_n 0, 1) := by decide +kernel
theorem d_J_init_27 : decode b_J_init 27 = .ok (.sipush 16384, 3) := by decide +kernel
theorem d_J_init_30 : decode b_J_init 30 = .ok (.newarray .byte, 2) := by decide +kernel
theorem d_J_init_32 : decode b_J_init 32 = .ok (.putfield 23, 3) := by decide +kernel
theorem d_J_init_35 : decode b_J_init 35 = .ok (.aload_n 0, 1) := by decide +kernel
theorem d_J_init_36 : decode b_J_init 36 = .ok (.bipush 40, 2) := by decide +kernel
theorem d_J_init_38 : decode b_J_init 38 = .ok (.putfield 27, 3) := by decide +kernel
theorem d_J_init_41 : decode b_J_init 41 = .ok (.return_, 1) := by decide +kernel
theorem d_J_lay_0 : decode b_J_lay 0 = .ok (.iload_n 1, 1) := by decide +kernel
theorem d_J_lay_1 : decode b_J_lay 1 = .ok (.bipush 40, 2) := by decide +kernel
theorem d_J_lay_3 : decode b_J_lay 3 = .ok (.if_icmp .lt 10, 3) := by decide +kernel
theorem d_J_lay_6 : decode b_J_lay 6 = .ok (.iload_n 1, 1) := by decide +kernel
theorem d_J_lay_7 : decode b_J_lay 7 = .ok (.sipush 200, 3) := by decide +kernel
theorem d_J_lay_10 : decode b_J_lay 10 = .ok (.if_icmp .le 6, 3) := by decide +kernel
theorem d_J_lay_13 : decode b_J_lay 13 = .ok (.bipush (-2), 2) := by decide +kernel
theorem d_J_lay_15 : decode b_J_lay 15 = .ok (.ireturn, 1) := by decide +kernel
theorem d_J_lay_16 : decode b_J_lay 16 = .ok (.aload_n 0, 1) := by decide +kernel
theorem d_J_lay_17 : decode b_J_lay 17 = .ok (.getfield 10, 3) := by decide +kernel
theorem d_J_lay_20 : decode b_J_lay 20 = .ok (.invokevirtual 31, 3) := by decide +kernel
theorem d_J_lay_23 : decode b_J_lay 23 = .ok (.aload_n 0, 1) := by decide +kernel
theorem d_J_lay_24 : decode b_J_lay 24 = .ok (.getfield 19, 3) := by decide +kernel
theorem d_J_lay_27 : decode b_J_lay 27 = .ok (.invokevirtual 34, 3) := by decide +kernel
theorem d_J_lay_30 : decode b_J_lay 30 = .ok (.aload_n 0, 1) := by decide +kernel
theorem d_J_lay_31 : decode b_J_lay 31 = .ok (.getfield 23, 3) := by decide +kernel
theorem d_J_lay_34 : decode b_J_lay 34 = .ok (.iconst 0, 1) := by decide +kernel
theorem d_J_lay_35 : decode b_J_lay 35 = .ok (.invokestatic 37, 3) := by decide +kernel
theorem d_J_lay_38 : decode b_J_lay 38 = .ok (.aload_n 0, 1) := by decide +kernel
theorem d_J_lay_39 : decode b_J_lay 39 = .ok (.iload_n 1, 1) := by decide +kernel
theorem d_J_lay_40 : decode b_J_lay 40 = .ok (.putfield 27, 3) := by decide +kernel
theorem d_J_lay_43 : decode b_J_lay 43 = .ok (.aload_n 0, 1) := by decide +kernel
theorem d_J_lay_44 : decode b_J_lay 44 = .ok (.invokevirtual 43, 3) := by decide +kernel
theorem d_J_lay_47 : decode b_J_lay 47 = .ok (.iload_n 1, 1) := by decide +kernel
theorem d_J_lay_48 : decode b_J_lay 48 = .ok (.ireturn, 1) := by decide +kernel
theorem d_J_dropRunning_0 : decode b_J_dropRunning 0 = .ok (.aload_n 0, 1) := by decide +kernel
theorem d_J_dropRunning_1 : decode b_J_dropRunning 1 = .ok (.lconst 0, 1) := by decide +kernel
theorem d_J_dropRunning_2 : decode b_J_dropRunning 2 = .ok (.putfield 58, 3) := by decide +kernel
theorem d_J_dropRunning_5 : decode b_J_dropRunning 5 = .ok (.aload_n 0, 1) := by decide +kernel
theorem d_J_dropRunning_6 : decode b_J_dropRunning 6 = .ok (.lconst 0, 1) := by decide +kernel
theorem d_J_dropRunning_7 : decode b_J_dropRunning 7 = .ok (.putfield 79, 3) := by decide +kernel
theorem d_J_dropRunning_10 : decode b_J_dropRunning 10 = .ok (.return_, 1) := by decide +kernel
theorem d_J_write_0 : decode b_J_write 0 = .ok (.aload_n 0, 1) := by decide +kernel
theorem d_J_write_1 : decode b_J_write 1 = .ok (.getfield 10, 3) := by decide +kernel
theorem d_J_write_4 : decode b_J_write 4 = .ok (.getfield 46, 3) := by decide +kernel
theorem d_J_write_7 : decode b_J_write 7 = .ok (.ifCond .ne 5, 3) := by decide +kernel
theorem d_J_write_10 : decode b_J_write 10 = .ok (.iconst (-1), 1) := by decide +kernel
theorem d_J_write_11 : decode b_J_write 11 = .ok (.ireturn, 1) := by decide +kernel
theorem d_J_write_12 : decode b_J_write 12 = .ok (.iload_n 1, 1) := by decide +kernel
theorem d_J_write_13 : decode b_J_write 13 = .ok (.iload_n 2, 1) := by decide +kernel
theorem d_J_write_14 : decode b_J_write 14 = .ok (.invokestatic 50, 3) := by decide +kernel
theorem d_J_write_17 : decode b_J_write 17 = .ok (.ifCond .eq 25, 3) := by decide +kernel
theorem d_J_write_20 : decode b_J_write 20 = .ok (.iload_n 3, 1) := by decide +kernel
theorem d_J_write_21 : decode b_J_write 21 = .ok (.iconst 1, 1) := by decide +kernel
theorem d_J_write_22 : decode b_J_write 22 = .ok (.if_icmp .lt 20, 3) := by decide +kernel
theorem d_J_write_25 : decode b_J_write 25 = .ok (.iload_n 3, 1) := by decide +kernel
theorem d_J_write_26 : decode b_J_write 26 = .ok (.sipush 256, 3) := by decide +kernel
theorem d_J_write_29 : decode b_J_write 29 = .ok (.iload_n 2, 1) := by decide +kernel
theorem d_J_write_30 : decode b_J_write 30 = .ok (.isub, 1) := by decide +kernel
theorem d_J_write_31 : decode b_J_write 31 = .ok (.if_icmp .gt 11, 3) := by decide +kernel
theorem d_J_write_34 : decode b_J_write 34 = .ok (.iload 4, 2) := by decide +kernel
theorem d_J_write_36 : decode b_J_write 36 = .ok (.invokestatic 54, 3) := by decide +kernel
theorem d_J_write_39 : decode b_J_write 39 = .ok (.ifCond .ne 6, 3) := by decide +kernel
theorem d_J_write_42 : decode b_J_write 42 = .ok (.bipush (-2), 2) := by decide +kernel
theorem d_J_write_44 : decode b_J_write 44 = .ok (.ireturn, 1) := by decide +kernel
theorem d_J_write_45 : decode b_J_write 45 = .ok (.aload_n 0, 1) := by decide +kernel
theorem d_J_write_46 : decode b_J_write 46 = .ok (.getfield 58, 3) := by decide +kernel
theorem d_J_write_49 : decode b_J_write 49 = .ok (.iload_n 1, 1) := by decide +kernel
theorem d_J_write_50 : decode b_J_write 50 = .ok (.invokestatic 62, 3) := by decide +kernel
theorem d_J_write_53 : decode b_J_write 53 = .ok (.ifCond .ne 18, 3) := by decide +kernel
theorem d_J_write_56 : decode b_J_write 56 = .ok (.aload_n 0, 1) := by decide +kernel
theorem d_J_write_57 : decode b_J_write 57 = .ok (.getfield 58, 3) := by decide +kernel
theorem d_J_write_60 : decode b_J_write 60 = .ok (.invokestatic 66, 3) := by decide +kernel
theorem d_J_write_63 : decode b_J_write 63 = .ok (.bipush 30, 2) := by decide +kernel
theorem d_J_write_65 : decode b_J_write 65 = .ok (.if_icmp .lt 6, 3) := by decide +kernel
theorem d_J_write_68 : decode b_J_write 68 = .ok (.bipush (-2), 2) := by decide +kernel
theorem d_J_write_70 : decode b_J_write 70 = .ok (.ireturn, 1) := by decide +kernel
theorem d_J_write_71 : decode b_J_write 71 = .ok (.iload_n 1, 1) := by decide +kernel
theorem d_J_write_72 : decode b_J_write 72 = .ok (.sipush 256, 3) := by decide +kernel
theorem d_J_write_75 : decode b_J_write 75 = .ok (.imul, 1) := by decide +kernel
theorem d_J_write_76 : decode b_J_write 76 = .ok (.iload_n 2, 1) := by decide +kernel
theorem d_J_write_77 : decode b_J_write 77 = .ok (.iadd, 1) := by decide +kernel
theorem d_J_write_78 : decode b_J_write 78 = .ok (.istore 5, 2) := by decide +kernel
theorem d_J_write_80 : decode b_J_write 80 = .ok (.aload_n 0, 1) := by decide +kernel
theorem d_J_write_81 : decode b_J_write 81 = .ok (.getfield 23, 3) := by decide +kernel
theorem d_J_write_84 : decode b_J_write 84 = .ok (.iload 5, 2) := by decide +kernel
theorem d_J_write_86 : decode b_J_write 86 = .ok (.iload 5, 2) := by decide +kernel
theorem d_J_write_88 : decode b_J_write 88 = .ok (.iload_n 3, 1) := by decide +kernel
theorem d_J_write_89 : decode b_J_write 89 = .ok (.iadd, 1) := by decide +kernel
theorem d_J_write_90 : decode b_J_write 90 = .ok (.iload 4, 2) := by decide +kernel
theorem d_J_write_92 : decode b_J_write 92 = .ok (.i2b, 1) := by decide +kernel
theorem d_J_write_93 : decode b_J_write 93 = .ok (.invokestatic 72, 3) := by decide +kernel
theorem d_J_write_96 : decode b_J_write 96 = .ok (.aload_n 0, 1) := by decide +kernel
theorem d_J_write_97 : decode b_J_write 97 = .ok (.dup, 1) := by decide +kernel
theorem d_J_write_98 : decode b_J_write 98 = .ok (.getfield 58, 3) := by decide +kernel
theorem d_J_write_101 : decode b_J_write 101 = .ok (.iload_n 1, 1) := by decide +kernel
theorem d_J_write_102 : decode b_J_write 102 = .ok (.invokestatic 75, 3) := by decide +kernel
theorem d_J_write_105 : decode b_J_write 105 = .ok (.lor, 1) := by decide +kernel
theorem d_J_write_106 : decode b_J_write 106 = .ok (.putfield 58, 3) := by decide +kernel
theorem d_J_write_109 : decode b_J_write 109 = .ok (.aload_n 0, 1) := by decide +kernel
theorem d_J_write_110 : decode b_J_write 110 = .ok (.dup, 1) := by decide +kernel
theorem d_J_write_111 : decode b_J_write 111 = .ok (.getfield 79, 3) := by decide +kernel
theorem d_J_write_114 : decode b_J_write 114 = .ok (.iload_n 1, 1) := by decide +kernel
theorem d_J_write_115 : decode b_J_write 115 = .ok (.invokestatic 75, 3) := by decide +kernel
theorem d_J_write_118 : decode b_J_write 118 = .ok (.ldc2_w 82, 3) := by decide +kernel
theorem d_J_write_121 : decode b_J_write 121 = .ok (.lxor, 1) := by decide +kernel
theorem d_J_write_122 : decode b_J_write 122 = .ok (.land, 1) := by decide +kernel
theorem d_J_write_123 : decode b_J_write 123 = .ok (.putfield 79, 3) := by decide +kernel
theorem d_J_write_126 : decode b_J_write 126 = .ok (.aload_n 0, 1) := by decide +kernel
theorem d_J_write_127 : decode b_J_write 127 = .ok (.getfield 58, 3) := by decide +kernel
theorem d_J_write_130 : decode b_J_write 130 = .ok (.invokestatic 66, 3) := by decide +kernel
theorem d_J_write_133 : decode b_J_write 133 = .ok (.ireturn, 1) := by decide +kernel
theorem d_J_isByte_0 : decode b_J_isByte 0 = .ok (.iload_n 0, 1) := by decide +kernel
theorem d_J_isByte_1 : decode b_J_isByte 1 = .ok (.invokestatic 84, 3) := by decide +kernel
theorem d_J_isByte_4 : decode b_J_isByte 4 = .ok (.ifCond .eq 18, 3) := by decide +kernel
theorem d_J_isByte_7 : decode b_J_isByte 7 = .ok (.iload_n 1, 1) := by decide +kernel
theorem d_J_isByte_8 : decode b_J_isByte 8 = .ok (.ifCond .lt 14, 3) := by decide +kernel
theorem d_J_isByte_11 : decode b_J_isByte 11 = .ok (.iload_n 1, 1) := by decide +kernel
theorem d_J_isByte_12 : decode b_J_isByte 12 = .ok (.sipush 256, 3) := by decide +kernel
theorem d_J_isByte_15 : decode b_J_isByte 15 = .ok (.if_icmp .ge 7, 3) := by decide +kernel
theorem d_J_isByte_18 : decode b_J_isByte 18 = .ok (.iconst 1, 1) := by decide +kernel
theorem d_J_isByte_19 : decode b_J_isByte 19 = .ok (.goto 4, 3) := by decide +kernel
theorem d_J_isByte_22 : decode b_J_isByte 22 = .ok (.iconst 0, 1) := by decide +kernel
theorem d_J_isByte_23 : decode b_J_isByte 23 = .ok (.ireturn, 1) := by decide +kernel
theorem d_J_isHome_0 : decode b_J_isHome 0 = .ok (.iload_n 0, 1) := by decide +kernel
theorem d_J_isHome_1 : decode b_J_isHome 1 = .ok (.ifCond .lt 13, 3) := by decide +kernel
theorem d_J_isHome_4 : decode b_J_isHome 4 = .ok (.iload_n 0, 1) := by decide +kernel
theorem d_J_isHome_5 : decode b_J_isHome 5 = .ok (.bipush 64, 2) := by decide +kernel
theorem d_J_isHome_7 : decode b_J_isHome 7 = .ok (.if_icmp .ge 7, 3) := by decide +kernel
theorem d_J_isHome_10 : decode b_J_isHome 10 = .ok (.iconst 1, 1) := by decide +kernel
theorem d_J_isHome_11 : decode b_J_isHome 11 = .ok (.goto 4, 3) := by decide +kernel
theorem d_J_isHome_14 : decode b_J_isHome 14 = .ok (.iconst 0, 1) := by decide +kernel
theorem d_J_isHome_15 : decode b_J_isHome 15 = .ok (.ireturn, 1) := by decide +kernel
theorem d_J_isValue_0 : decode b_J_isValue 0 = .ok (.iload_n 0, 1) := by decide +kernel
theorem d_J_isValue_1 : decode b_J_isValue 1 = .ok (.ifCond .lt 14, 3) := by decide +kernel
theorem d_J_isValue_4 : decode b_J_isValue 4 = .ok (.iload_n 0, 1) := by decide +kernel
theorem d_J_isValue_5 : decode b_J_isValue 5 = .ok (.sipush 255, 3) := by decide +kernel
theorem d_J_isValue_8 : decode b_J_isValue 8 = .ok (.if_icmp .gt 7, 3) := by decide +kernel
theorem d_J_isValue_11 : decode b_J_isValue 11 = .ok (.iconst 1, 1) := by decide +kernel
theorem d_J_isValue_12 : decode b_J_isValue 12 = .ok (.goto 4, 3) := by decide +kernel
theorem d_J_isValue_15 : decode b_J_isValue 15 = .ok (.iconst 0, 1) := by decide +kernel
theorem d_J_isValue_16 : decode b_J_isValue 16 = .ok (.ireturn, 1) := by decide +kernel
theorem d_J_holds_0 : decode b_J_holds 0 = .ok (.lload_n 0, 1) := by decide +kernel
theorem d_J_holds_1 : decode b_J_holds 1 = .ok (.iload_n 2, 1) := by decide +kernel
theorem d_J_holds_2 : decode b_J_holds 2 = .ok (.invokestatic 75, 3) := by decide +kernel
theorem d_J_holds_5 : decode b_J_holds 5 = .ok (.land, 1) := by decide +kernel
theorem d_J_holds_6 : decode b_J_holds 6 = .ok (.lconst 0, 1) := by decide +kernel
theorem d_J_holds_7 : decode b_J_holds 7 = .ok (.lcmp, 1) := by decide +kernel
theorem d_J_holds_8 : decode b_J_holds 8 = .ok (.ifCond .eq 7, 3) := by decide +kernel
theorem d_J_holds_11 : decode b_J_holds 11 = .ok (.iconst 1, 1) := by decide +kernel
theorem d_J_holds_12 : decode b_J_holds 12 = .ok (.goto 4, 3) := by decide +kernel
theorem d_J_holds_15 : decode b_J_holds 15 = .ok (.iconst 0, 1) := by decide +kernel
theorem d_J_holds_16 : decode b_J_holds 16 = .ok (.ireturn, 1) := by decide +kernel
theorem d_J_bit_0 : decode b_J_bit 0 = .ok (.lconst 1, 1) := by decide +kernel
theorem d_J_bit_1 : decode b_J_bit 1 = .ok (.iload_n 0, 1) := by decide +kernel
theorem d_J_bit_2 : decode b_J_bit 2 = .ok (.lshl, 1) := by decide +kernel
theorem d_J_bit_3 : decode b_J_bit 3 = .ok (.lreturn, 1) := by decide +kernel
theorem d_J_read_0 : decode b_J_read 0 = .ok (.aload_n 0, 1) := by decide +kernel
theorem d_J_read_1 : decode b_J_read 1 = .ok (.getfield 10, 3) := by decide +kernel
theorem d_J_read_4 : decode b_J_read 4 = .ok (.getfield 46, 3) := by decide +kernel
theorem d_J_read_7 : decode b_J_read 7 = .ok (.ifCond .ne 5, 3) := by decide +kernel
theorem d_J_read_10 : decode b_J_read 10 = .ok (.iconst (-1), 1) := by decide +kernel
theorem d_J_read_11 : decode b_J_read 11 = .ok (.ireturn, 1) := by decide +kernel
theorem d_J_read_12 : decode b_J_read 12 = .ok (.iload_n 1, 1) := by decide +kernel
theorem d_J_read_13 : decode b_J_read 13 = .ok (.iload_n 2, 1) := by decide +kernel
theorem d_J_read_14 : decode b_J_read 14 = .ok (.invokestatic 50, 3) := by decide +kernel
theorem d_J_read_17 : decode b_J_read 17 = .ok (.ifCond .ne 6, 3) := by decide +kernel
theorem d_J_read_20 : decode b_J_read 20 = .ok (.bipush (-2), 2) := by decide +kernel
theorem d_J_read_22 : decode b_J_read 22 = .ok (.ireturn, 1) := by decide +kernel
theorem d_J_read_23 : decode b_J_read 23 = .ok (.aload_n 0, 1) := by decide +kernel
theorem d_J_read_24 : decode b_J_read 24 = .ok (.getfield 23, 3) := by decide +kernel
theorem d_J_read_27 : decode b_J_read 27 = .ok (.iload_n 1, 1) := by decide +kernel
theorem d_J_read_28 : decode b_J_read 28 = .ok (.sipush 256, 3) := by decide +kernel
theorem d_J_read_31 : decode b_J_read 31 = .ok (.imul, 1) := by decide +kernel
theorem d_J_read_32 : decode b_J_read 32 = .ok (.iload_n 2, 1) := by decide +kernel
theorem d_J_read_33 : decode b_J_read 33 = .ok (.iadd, 1) := by decide +kernel
theorem d_J_read_34 : decode b_J_read 34 = .ok (.baload, 1) := by decide +kernel
theorem d_J_read_35 : decode b_J_read 35 = .ok (.sipush 255, 3) := by decide +kernel
theorem d_J_read_38 : decode b_J_read 38 = .ok (.iand, 1) := by decide +kernel
theorem d_J_read_39 : decode b_J_read 39 = .ok (.ireturn, 1) := by decide +kernel
theorem d_J_forget_0 : decode b_J_forget 0 = .ok (.aload_n 0, 1) := by decide +kernel
theorem d_J_forget_1 : decode b_J_forget 1 = .ok (.getfield 10, 3) := by decide +kernel
theorem d_J_forget_4 : decode b_J_forget 4 = .ok (.getfield 46, 3) := by decide +kernel
theorem d_J_forget_7 : decode b_J_forget 7 = .ok (.ifCond .ne 5, 3) := by decide +kernel
theorem d_J_forget_10 : decode b_J_forget 10 = .ok (.iconst (-1), 1) := by decide +kernel
theorem d_J_forget_11 : decode b_J_forget 11 = .ok (.ireturn, 1) := by decide +kernel
theorem d_J_forget_12 : decode b_J_forget 12 = .ok (.iload_n 1, 1) := by decide +kernel
theorem d_J_forget_13 : decode b_J_forget 13 = .ok (.invokestatic 84, 3) := by decide +kernel
theorem d_J_forget_16 : decode b_J_forget 16 = .ok (.ifCond .ne 6, 3) := by decide +kernel
theorem d_J_forget_19 : decode b_J_forget 19 = .ok (.bipush (-2), 2) := by decide +kernel
theorem d_J_forget_21 : decode b_J_forget 21 = .ok (.ireturn, 1) := by decide +kernel
theorem d_J_forget_22 : decode b_J_forget 22 = .ok (.aload_n 0, 1) := by decide +kernel
theorem d_J_forget_23 : decode b_J_forget 23 = .ok (.getfield 79, 3) := by decide +kernel
theorem d_J_forget_26 : decode b_J_forget 26 = .ok (.iload_n 1, 1) := by decide +kernel
theorem d_J_forget_27 : decode b_J_forget 27 = .ok (.invokestatic 62, 3) := by decide +kernel
theorem d_J_forget_30 : decode b_J_forget 30 = .ok (.ifCond .ne 18, 3) := by decide +kernel
theorem d_J_forget_33 : decode b_J_forget 33 = .ok (.aload_n 0, 1) := by decide +kernel
theorem d_J_forget_34 : decode b_J_forget 34 = .ok (.getfield 79, 3) := by decide +kernel
theorem d_J_forget_37 : decode b_J_forget 37 = .ok (.invokestatic 66, 3) := by decide +kernel
theorem d_J_forget_40 : decode b_J_forget 40 = .ok (.bipush 30, 2) := by decide +kernel
theorem d_J_forget_42 : decode b_J_forget 42 = .ok (.if_icmp .lt 6, 3) := by decide +kernel
theorem d_J_forget_45 : decode b_J_forget 45 = .ok (.bipush (-2), 2) := by decide +kernel
theorem d_J_forget_47 : decode b_J_forget 47 = .ok (.ireturn, 1) := by decide +kernel
theorem d_J_forget_48 : decode b_J_forget 48 = .ok (.aload_n 0, 1) := by decide +kernel
theorem d_J_forget_49 : decode b_J_forget 49 = .ok (.dup, 1) := by decide +kernel
theorem d_J_forget_50 : decode b_J_forget 50 = .ok (.getfield 58, 3) := by decide +kernel
theorem d_J_forget_53 : decode b_J_forget 53 = .ok (.iload_n 1, 1) := by decide +kernel
theorem d_J_forget_54 : decode b_J_forget 54 = .ok (.invokestatic 75, 3) := by decide +kernel
theorem d_J_forget_57 : decode b_J_forget 57 = .ok (.ldc2_w 82, 3) := by decide +kernel
theorem d_J_forget_60 : decode b_J_forget 60 = .ok (.lxor, 1) := by decide +kernel
theorem d_J_forget_61 : decode b_J_forget 61 = .ok (.land, 1) := by decide +kernel
theorem d_J_forget_62 : decode b_J_forget 62 = .ok (.putfield 58, 3) := by decide +kernel
theorem d_J_forget_65 : decode b_J_forget 65 = .ok (.aload_n 0, 1) := by decide +kernel
theorem d_J_forget_66 : decode b_J_forget 66 = .ok (.dup, 1) := by decide +kernel
theorem d_J_forget_67 : decode b_J_forget 67 = .ok (.getfield 79, 3) := by decide +kernel
theorem d_J_forget_70 : decode b_J_forget 70 = .ok (.iload_n 1, 1) := by decide +kernel
theorem d_J_forget_71 : decode b_J_forget 71 = .ok (.invokestatic 75, 3) := by decide +kernel
theorem d_J_forget_74 : decode b_J_forget 74 = .ok (.lor, 1) := by decide +kernel
theorem d_J_forget_75 : decode b_J_forget 75 = .ok (.putfield 79, 3) := by decide +kernel
theorem d_J_forget_78 : decode b_J_forget 78 = .ok (.aload_n 0, 1) := by decide +kernel
theorem d_J_forget_79 : decode b_J_forget 79 = .ok (.getfield 10, 3) := by decide +kernel
theorem d_J_forget_82 : decode b_J_forget 82 = .ok (.getfield 87, 3) := by decide +kernel
theorem d_J_forget_85 : decode b_J_forget 85 = .ok (.iload_n 1, 1) := by decide +kernel
theorem d_J_forget_86 : decode b_J_forget 86 = .ok (.sipush 256, 3) := by decide +kernel
theorem d_J_forget_89 : decode b_J_forget 89 = .ok (.imul, 1) := by decide +kernel
theorem d_J_forget_90 : decode b_J_forget 90 = .ok (.aload_n 0, 1) := by decide +kernel
theorem d_J_forget_91 : decode b_J_forget 91 = .ok (.getfield 23, 3) := by decide +kernel
theorem d_J_forget_94 : decode b_J_forget 94 = .ok (.iload_n 1, 1) := by decide +kernel
theorem d_J_forget_95 : decode b_J_forget 95 = .ok (.sipush 256, 3) := by decide +kernel
theorem d_J_forget_98 : decode b_J_forget 98 = .ok (.imul, 1) := by decide +kernel
theorem d_J_forget_99 : decode b_J_forget 99 = .ok (.sipush 256, 3) := by decide +kernel
theorem d_J_forget_102 : decode b_J_forget 102 = .ok (.invokestatic 90, 3) := by decide +kernel
theorem d_J_forget_105 : decode b_J_forget 105 = .ok (.aload_n 0, 1) := by decide +kernel
theorem d_J_forget_106 : decode b_J_forget 106 = .ok (.getfield 79, 3) := by decide +kernel
theorem d_J_forget_109 : decode b_J_forget 109 = .ok (.invokestatic 66, 3) := by decide +kernel
theorem d_J_forget_112 : decode b_J_forget 112 = .ok (.ireturn, 1) := by decide +kernel
theorem d_J_direct_0 : decode b_J_direct 0 = .ok (.aload_n 0, 1) := by decide +kernel
theorem d_J_direct_1 : decode b_J_direct 1 = .ok (.getfield 10, 3) := by decide +kernel
theorem d_J_direct_4 : decode b_J_direct 4 = .ok (.getfield 46, 3) := by decide +kernel
theorem d_J_direct_7 : decode b_J_direct 7 = .ok (.ifCond .ne 5, 3) := by decide +kernel
theorem d_J_direct_10 : decode b_J_direct 10 = .ok (.iconst (-1), 1) := by decide +kernel
theorem d_J_direct_11 : decode b_J_direct 11 = .ok (.ireturn, 1) := by decide +kernel
theorem d_J_direct_12 : decode b_J_direct 12 = .ok (.iload_n 1, 1) := by decide +kernel
theorem d_J_direct_13 : decode b_J_direct 13 = .ok (.invokestatic 84, 3) := by decide +kernel
theorem d_J_direct_16 : decode b_J_direct 16 = .ok (.ifCond .eq 10, 3) := by decide +kernel
theorem d_J_direct_19 : decode b_J_direct 19 = .ok (.iload_n 2, 1) := by decide +kernel
theorem d_J_direct_20 : decode b_J_direct 20 = .ok (.invokestatic 54, 3) := by decide +kernel
theorem d_J_direct_23 : decode b_J_direct 23 = .ok (.ifCond .ne 6, 3) := by decide +kernel
theorem d_J_direct_26 : decode b_J_direct 26 = .ok (.bipush (-2), 2) := by decide +kernel
theorem d_J_direct_28 : decode b_J_direct 28 = .ok (.ireturn, 1) := by decide +kernel
theorem d_J_direct_29 : decode b_J_direct 29 = .ok (.aload_n 0, 1) := by decide +kernel
theorem d_J_direct_30 : decode b_J_direct 30 = .ok (.getfield 58, 3) := by decide +kernel
theorem d_J_direct_33 : decode b_J_direct 33 = .ok (.aload_n 0, 1) := by decide +kernel
theorem d_J_direct_34 : decode b_J_direct 34 = .ok (.getfield 79, 3) := by decide +kernel
theorem d_J_direct_37 : decode b_J_direct 37 = .ok (.lor, 1) := by decide +kernel
theorem d_J_direct_38 : decode b_J_direct 38 = .ok (.aload_n 0, 1) := by decide +kernel
theorem d_J_direct_39 : decode b_J_direct 39 = .ok (.getfield 19, 3) := by decide +kernel
theorem d_J_direct_42 : decode b_J_direct 42 = .ok (.invokevirtual 96, 3) := by decide +kernel
theorem d_J_direct_45 : decode b_J_direct 45 = .ok (.lor, 1) := by decide +kernel
theorem d_J_direct_46 : decode b_J_direct 46 = .ok (.iload_n 1, 1) := by decide +kernel
theorem d_J_direct_47 : decode b_J_direct 47 = .ok (.invokestatic 62, 3) := by decide +kernel
theorem d_J_direct_50 : decode b_J_direct 50 = .ok (.ifCond .eq 6, 3) := by decide +kernel
theorem d_J_direct_53 : decode b_J_direct 53 = .ok (.bipush (-2), 2) := by decide +kernel
theorem d_J_direct_55 : decode b_J_direct 55 = .ok (.ireturn, 1) := by decide +kernel
theorem d_J_direct_56 : decode b_J_direct 56 = .ok (.aload_n 0, 1) := by decide +kernel
theorem d_J_direct_57 : decode b_J_direct 57 = .ok (.getfield 23, 3) := by decide +kernel
theorem d_J_direct_60 : decode b_J_direct 60 = .ok (.iload_n 1, 1) := by decide +kernel
theorem d_J_direct_61 : decode b_J_direct 61 = .ok (.sipush 256, 3) := by decide +kernel
theorem d_J_direct_64 : decode b_J_direct 64 = .ok (.imul, 1) := by decide +kernel
theorem d_J_direct_65 : decode b_J_direct 65 = .ok (.iload_n 1, 1) := by decide +kernel
theorem d_J_direct_66 : decode b_J_direct 66 = .ok (.iconst 1, 1) := by decide +kernel
theorem d_J_direct_67 : decode b_J_direct 67 = .ok (.iadd, 1) := by decide +kernel
theorem d_J_direct_68 : decode b_J_direct 68 = .ok (.sipush 256, 3) := by decide +kernel
theorem d_J_direct_71 : decode b_J_direct 71 = .ok (.imul, 1) := by decide +kernel
theorem d_J_direct_72 : decode b_J_direct 72 = .ok (.iload_n 2, 1) := by decide +kernel
theorem d_J_direct_73 : decode b_J_direct 73 = .ok (.i2b, 1) := by decide +kernel
theorem d_J_direct_74 : decode b_J_direct 74 = .ok (.invokestatic 72, 3) := by decide +kernel
theorem d_J_direct_77 : decode b_J_direct 77 = .ok (.aload_n 0, 1) := by decide +kernel
theorem d_J_direct_78 : decode b_J_direct 78 = .ok (.getfield 10, 3) := by decide +kernel
theorem d_J_direct_81 : decode b_J_direct 81 = .ok (.invokevirtual 100, 3) := by decide +kernel
theorem d_J_direct_84 : decode b_J_direct 84 = .ok (.ifCond .eq 35, 3) := by decide +kernel
theorem d_J_direct_87 : decode b_J_direct 87 = .ok (.aload_n 0, 1) := by decide +kernel
theorem d_J_direct_88 : decode b_J_direct 88 = .ok (.getfield 10, 3) := by decide +kernel
theorem d_J_direct_91 : decode b_J_direct 91 = .ok (.iload_n 1, 1) := by decide +kernel
theorem d_J_direct_92 : decode b_J_direct 92 = .ok (.aload_n 0, 1) := by decide +kernel
theorem d_J_direct_93 : decode b_J_direct 93 = .ok (.getfield 23, 3) := by decide +kernel
theorem d_J_direct_96 : decode b_J_direct 96 = .ok (.iload_n 1, 1) := by decide +kernel
theorem d_J_direct_97 : decode b_J_direct 97 = .ok (.sipush 256, 3) := by decide +kernel
theorem d_J_direct_100 : decode b_J_direct 100 = .ok (.imul, 1) := by decide +kernel
theorem d_J_direct_101 : decode b_J_direct 101 = .ok (.invokevirtual 104, 3) := by decide +kernel
theorem d_J_direct_104 : decode b_J_direct 104 = .ok (.ifCond .eq 15, 3) := by decide +kernel
theorem d_J_direct_107 : decode b_J_direct 107 = .ok (.aload_n 0, 1) := by decide +kernel
theorem d_J_direct_108 : decode b_J_direct 108 = .ok (.getfield 10, 3) := by decide +kernel
theorem d_J_direct_111 : decode b_J_direct 111 = .ok (.invokevirtual 100, 3) := by decide +kernel
theorem d_J_direct_114 : decode b_J_direct 114 = .ok (.ifCond .eq 5, 3) := by decide +kernel
theorem d_J_direct_117 : decode b_J_direct 117 = .ok (.iconst 0, 1) := by decide +kernel
theorem d_J_direct_118 : decode b_J_direct 118 = .ok (.ireturn, 1) := by decide +kernel
theorem d_J_direct_119 : decode b_J_direct 119 = .ok (.iconst (-1), 1) := by decide +kernel
theorem d_J_direct_120 : decode b_J_direct 120 = .ok (.ireturn, 1) := by decide +kernel
theorem d_J_commit_0 : decode b_J_commit 0 = .ok (.aload_n 0, 1) := by decide +kernel
theorem d_J_commit_1 : decode b_J_commit 1 = .ok (.getfield 10, 3) := by decide +kernel
theorem d_J_commit_4 : decode b_J_commit 4 = .ok (.getfield 46, 3) := by decide +kernel
theorem d_J_commit_7 : decode b_J_commit 7 = .ok (.ifCond .ne 5, 3) := by decide +kernel
theorem d_J_commit_10 : decode b_J_commit 10 = .ok (.iconst (-1), 1) := by decide +kernel
theorem d_J_commit_11 : decode b_J_commit 11 = .ok (.ireturn, 1) := by decide +kernel
theorem d_J_commit_12 : decode b_J_commit 12 = .ok (.aload_n 0, 1) := by decide +kernel
theorem d_J_commit_13 : decode b_J_commit 13 = .ok (.getfield 58, 3) := by decide +kernel
theorem d_J_commit_16 : decode b_J_commit 16 = .ok (.aload_n 0, 1) := by decide +kernel
theorem d_J_commit_17 : decode b_J_commit 17 = .ok (.getfield 79, 3) := by decide +kernel
theorem d_J_commit_20 : decode b_J_commit 20 = .ok (.lor, 1) := by decide +kernel
theorem d_J_commit_21 : decode b_J_commit 21 = .ok (.lconst 0, 1) := by decide +kernel
theorem d_J_commit_22 : decode b_J_commit 22 = .ok (.lcmp, 1) := by decide +kernel
theorem d_J_commit_23 : decode b_J_commit 23 = .ok (.ifCond .ne 5, 3) := by decide +kernel
theorem d_J_commit_26 : decode b_J_commit 26 = .ok (.iconst 0, 1) := by decide +kernel
theorem d_J_commit_27 : decode b_J_commit 27 = .ok (.ireturn, 1) := by decide +kernel
theorem d_J_commit_28 : decode b_J_commit 28 = .ok (.aload_n 0, 1) := by decide +kernel
theorem d_J_commit_29 : decode b_J_commit 29 = .ok (.invokevirtual 108, 3) := by decide +kernel
theorem d_J_commit_32 : decode b_J_commit 32 = .ok (.istore_n 1, 1) := by decide +kernel
theorem d_J_commit_33 : decode b_J_commit 33 = .ok (.aload_n 0, 1) := by decide +kernel
theorem d_J_commit_34 : decode b_J_commit 34 = .ok (.getfield 19, 3) := by decide +kernel
theorem d_J_commit_37 : decode b_J_commit 37 = .ok (.invokevirtual 112, 3) := by decide +kernel
theorem d_J_commit_40 : decode b_J_commit 40 = .ok (.iload_n 1, 1) := by decide +kernel
theorem d_J_commit_41 : decode b_J_commit 41 = .ok (.iadd, 1) := by decide +kernel
theorem d_J_commit_42 : decode b_J_commit 42 = .ok (.aload_n 0, 1) := by decide +kernel
theorem d_J_commit_43 : decode b_J_commit 43 = .ok (.getfield 27, 3) := by decide +kernel
theorem d_J_commit_46 : decode b_J_commit 46 = .ok (.iconst 1, 1) := by decide +kernel
theorem d_J_commit_47 : decode b_J_commit 47 = .ok (.isub, 1) := by decide +kernel
theorem d_J_commit_48 : decode b_J_commit 48 = .ok (.if_icmp .le 13, 3) := by decide +kernel
theorem d_J_commit_51 : decode b_J_commit 51 = .ok (.aload_n 0, 1) := by decide +kernel
theorem d_J_commit_52 : decode b_J_commit 52 = .ok (.invokevirtual 115, 3) := by decide +kernel
theorem d_J_commit_55 : decode b_J_commit 55 = .ok (.iconst (-1), 1) := by decide +kernel
theorem d_J_commit_56 : decode b_J_commit 56 = .ok (.if_icmp .ne 5, 3) := by decide +kernel
theorem d_J_commit_59 : decode b_J_commit 59 = .ok (.iconst (-1), 1) := by decide +kernel
theorem d_J_commit_60 : decode b_J_commit 60 = .ok (.ireturn, 1) := by decide +kernel
theorem d_J_commit_61 : decode b_J_commit 61 = .ok (.aload_n 0, 1) := by decide +kernel
theorem d_J_commit_62 : decode b_J_commit 62 = .ok (.iload_n 1, 1) := by decide +kernel
theorem d_J_commit_63 : decode b_J_commit 63 = .ok (.invokevirtual 118, 3) := by decide +kernel
theorem d_J_commit_66 : decode b_J_commit 66 = .ok (.ifCond .eq 7, 3) := by decide +kernel
theorem d_J_commit_69 : decode b_J_commit 69 = .ok (.iload_n 1, 1) := by decide +kernel
theorem d_J_commit_70 : decode b_J_commit 70 = .ok (.goto 4, 3) := by decide +kernel
theorem d_J_commit_73 : decode b_J_commit 73 = .ok (.iconst (-1), 1) := by decide +kernel
theorem d_J_commit_74 : decode b_J_commit 74 = .ok (.ireturn, 1) := by decide +kernel
theorem d_J_useOfRunning_0 : decode b_J_useOfRunning 0 = .ok (.aload_n 0, 1) := by decide +kernel
theorem d_J_useOfRunning_1 : decode b_J_useOfRunning 1 = .ok (.getfield 58, 3) := by decide +kernel
theorem d_J_useOfRunning_4 : decode b_J_useOfRunning 4 = .ok (.invokestatic 66, 3) := by decide +kernel
theorem d_J_useOfRunning_7 : decode b_J_useOfRunning 7 = .ok (.istore_n 1, 1) := by decide +kernel
theorem d_J_useOfRunning_8 : decode b_J_useOfRunning 8 = .ok (.iload_n 1, 1) := by decide +kernel
theorem d_J_useOfRunning_9 : decode b_J_useOfRunning 9 = .ok (.bipush 28, 2) := by decide +kernel
theorem d_J_useOfRunning_11 : decode b_J_useOfRunning 11 = .ok (.iadd, 1) := by decide +kernel
theorem d_J_useOfRunning_12 : decode b_J_useOfRunning 12 = .ok (.iconst 1, 1) := by decide +kernel
theorem d_J_useOfRunning_13 : decode b_J_useOfRunning 13 = .ok (.isub, 1) := by decide +kernel
theorem d_J_useOfRunning_14 : decode b_J_useOfRunning 14 = .ok (.bipush 28, 2) := by decide +kernel
theorem d_J_useOfRunning_16 : decode b_J_useOfRunning 16 = .ok (.idiv, 1) := by decide +kernel
theorem d_J_useOfRunning_17 : decode b_J_useOfRunning 17 = .ok (.istore_n 2, 1) := by decide +kernel
theorem d_J_useOfRunning_18 : decode b_J_useOfRunning 18 = .ok (.aload_n 0, 1) := by decide +kernel
theorem d_J_useOfRunning_19 : decode b_J_useOfRunning 19 = .ok (.getfield 79, 3) := by decide +kernel
theorem d_J_useOfRunning_22 : decode b_J_useOfRunning 22 = .ok (.lconst 0, 1) := by decide +kernel
theorem d_J_useOfRunning_23 : decode b_J_useOfRunning 23 = .ok (.lcmp, 1) := by decide +kernel
theorem d_J_useOfRunning_24 : decode b_J_useOfRunning 24 = .ok (.ifCond .ne 7, 3) := by decide +kernel
theorem d_J_useOfRunning_27 : decode b_J_useOfRunning 27 = .ok (.iconst 0, 1) := by decide +kernel
theorem d_J_useOfRunning_28 : decode b_J_useOfRunning 28 = .ok (.goto 4, 3) := by decide +kernel
theorem d_J_useOfRunning_31 : decode b_J_useOfRunning 31 = .ok (.iconst 1, 1) := by decide +kernel
theorem d_J_useOfRunning_32 : decode b_J_useOfRunning 32 = .ok (.istore_n 3, 1) := by decide +kernel
theorem d_J_useOfRunning_33 : decode b_J_useOfRunning 33 = .ok (.iload_n 1, 1) := by decide +kernel
theorem d_J_useOfRunning_34 : decode b_J_useOfRunning 34 = .ok (.iload_n 2, 1) := by decide +kernel
theorem d_J_useOfRunning_35 : decode b_J_useOfRunning 35 = .ok (.iadd, 1) := by decide +kernel
theorem d_J_useOfRunning_36 : decode b_J_useOfRunning 36 = .ok (.iload_n 3, 1) := by decide +kernel
theorem d_J_useOfRunning_37 : decode b_J_useOfRunning 37 = .ok (.iadd, 1) := by decide +kernel
theorem d_J_useOfRunning_38 : decode b_J_useOfRunning 38 = .ok (.iconst 1, 1) := by decide +kernel
theorem d_J_useOfRunning_39 : decode b_J_useOfRunning 39 = .ok (.iadd, 1) := by decide +kernel
theorem d_J_useOfRunning_40 : decode b_J_useOfRunning 40 = .ok (.ireturn, 1) := by decide +kernel
theorem d_J_bringLogHome_0 : decode b_J_bringLogHome 0 = .ok (.aload_n 0, 1) := by decide +kernel
theorem d_J_bringLogHome_1 : decode b_J_bringLogHome 1 = .ok (.getfield 19, 3) := by decide +kernel
theorem d_J_bringLogHome_4 : decode b_J_bringLogHome 4 = .ok (.invokevirtual 96, 3) := by decide +kernel
theorem d_J_bringLogHome_7 : decode b_J_bringLogHome 7 = .ok (.lstore_n 1, 1) := by decide +kernel
theorem d_J_bringLogHome_8 : decode b_J_bringLogHome 8 = .ok (.iconst 0, 1) := by decide +kernel
theorem d_J_bringLogHome_9 : decode b_J_bringLogHome 9 = .ok (.istore_n 3, 1) := by decide +kernel
theorem d_J_bringLogHome_10 : decode b_J_bringLogHome 10 = .ok (.iload_n 3, 1) := by decide +kernel
theorem d_J_bringLogHome_11 : decode b_J_bringLogHome 11 = .ok (.bipush 64, 2) := by decide +kernel
theorem d_J_bringLogHome_13 : decode b_J_bringLogHome 13 = .ok (.if_icmp .ge 45, 3) := by decide +kernel
theorem d_J_bringLogHome_16 : decode b_J_bringLogHome 16 = .ok (.lload_n 1, 1) := by decide +kernel
theorem d_J_bringLogHome_17 : decode b_J_bringLogHome 17 = .ok (.iload_n 3, 1) := by decide +kernel
theorem d_J_bringLogHome_18 : decode b_J_bringLogHome 18 = .ok (.invokestatic 62, 3) := by decide +kernel
theorem d_J_bringLogHome_21 : decode b_J_bringLogHome 21 = .ok (.ifCond .eq 31, 3) := by decide +kernel
theorem d_J_bringLogHome_24 : decode b_J_bringLogHome 24 = .ok (.aload_n 0, 1) := by decide +kernel
theorem d_J_bringLogHome_25 : decode b_J_bringLogHome 25 = .ok (.getfield 10, 3) := by decide +kernel
theorem d_J_bringLogHome_28 : decode b_J_bringLogHome 28 = .ok (.iload_n 3, 1) := by decide +kernel
theorem d_J_bringLogHome_29 : decode b_J_bringLogHome 29 = .ok (.aload_n 0, 1) := by decide +kernel
theorem d_J_bringLogHome_30 : decode b_J_bringLogHome 30 = .ok (.getfield 19, 3) := by decide +kernel
theorem d_J_bringLogHome_33 : decode b_J_bringLogHome 33 = .ok (.getfield 151, 3) := by decide +kernel
theorem d_J_bringLogHome_36 : decode b_J_bringLogHome 36 = .ok (.aload_n 0, 1) := by decide +kernel
theorem d_J_bringLogHome_37 : decode b_J_bringLogHome 37 = .ok (.getfield 19, 3) := by decide +kernel
theorem d_J_bringLogHome_40 : decode b_J_bringLogHome 40 = .ok (.iload_n 3, 1) := by decide +kernel
theorem d_J_bringLogHome_41 : decode b_J_bringLogHome 41 = .ok (.invokevirtual 154, 3) := by decide +kernel
theorem d_J_bringLogHome_44 : decode b_J_bringLogHome 44 = .ok (.invokevirtual 104, 3) := by decide +kernel
theorem d_J_bringLogHome_47 : decode b_J_bringLogHome 47 = .ok (.ifCond .ne 5, 3) := by decide +kernel
theorem d_J_bringLogHome_50 : decode b_J_bringLogHome 50 = .ok (.iconst (-1), 1) := by decide +kernel
theorem d_J_bringLogHome_51 : decode b_J_bringLogHome 51 = .ok (.ireturn, 1) := by decide +kernel
theorem d_J_bringLogHome_52 : decode b_J_bringLogHome 52 = .ok (.iinc 3 1, 3) := by decide +kernel
theorem d_J_bringLogHome_55 : decode b_J_bringLogHome 55 = .ok (.goto (-45), 3) := by decide +kernel
theorem d_J_bringLogHome_58 : decode b_J_bringLogHome 58 = .ok (.aload_n 0, 1) := by decide +kernel
theorem d_J_bringLogHome_59 : decode b_J_bringLogHome 59 = .ok (.invokevirtual 158, 3) := by decide +kernel
theorem d_J_bringLogHome_62 : decode b_J_bringLogHome 62 = .ok (.ifCond .eq 10, 3) := by decide +kernel
theorem d_J_bringLogHome_65 : decode b_J_bringLogHome 65 = .ok (.lload_n 1, 1) := by decide +kernel
theorem d_J_bringLogHome_66 : decode b_J_bringLogHome 66 = .ok (.invokestatic 66, 3) := by decide +kernel
theorem d_J_bringLogHome_69 : decode b_J_bringLogHome 69 = .ok (.goto 4, 3) := by decide +kernel
theorem d_J_bringLogHome_72 : decode b_J_bringLogHome 72 = .ok (.iconst (-1), 1) := by decide +kernel
theorem d_J_bringLogHome_73 : decode b_J_bringLogHome 73 = .ok (.ireturn, 1) := by decide +kernel
theorem d_J_endLog_0 : decode b_J_endLog 0 = .ok (.aload_n 0, 1) := by decide +kernel
theorem d_J_endLog_1 : decode b_J_endLog 1 = .ok (.getfield 10, 3) := by decide +kernel
theorem d_J_endLog_4 : decode b_J_endLog 4 = .ok (.invokevirtual 100, 3) := by decide +kernel
theorem d_J_endLog_7 : decode b_J_endLog 7 = .ok (.ifCond .eq 25, 3) := by decide +kernel
theorem d_J_endLog_10 : decode b_J_endLog 10 = .ok (.aload_n 0, 1) := by decide +kernel
theorem d_J_endLog_11 : decode b_J_endLog 11 = .ok (.getfield 10, 3) := by decide +kernel
theorem d_J_endLog_14 : decode b_J_endLog 14 = .ok (.bipush 66, 2) := by decide +kernel
theorem d_J_endLog_16 : decode b_J_endLog 16 = .ok (.invokevirtual 144, 3) := by decide +kernel
theorem d_J_endLog_19 : decode b_J_endLog 19 = .ok (.ifCond .eq 13, 3) := by decide +kernel
theorem d_J_endLog_22 : decode b_J_endLog 22 = .ok (.aload_n 0, 1) := by decide +kernel
theorem d_J_endLog_23 : decode b_J_endLog 23 = .ok (.getfield 10, 3) := by decide +kernel
theorem d_J_endLog_26 : decode b_J_endLog 26 = .ok (.invokevirtual 100, 3) := by decide +kernel
theorem d_J_endLog_29 : decode b_J_endLog 29 = .ok (.ifCond .ne 5, 3) := by decide +kernel
theorem d_J_endLog_32 : decode b_J_endLog 32 = .ok (.iconst 0, 1) := by decide +kernel
theorem d_J_endLog_33 : decode b_J_endLog 33 = .ok (.ireturn, 1) := by decide +kernel
theorem d_J_endLog_34 : decode b_J_endLog 34 = .ok (.aload_n 0, 1) := by decide +kernel
theorem d_J_endLog_35 : decode b_J_endLog 35 = .ok (.getfield 19, 3) := by decide +kernel
theorem d_J_endLog_38 : decode b_J_endLog 38 = .ok (.invokevirtual 34, 3) := by decide +kernel
theorem d_J_endLog_41 : decode b_J_endLog 41 = .ok (.iconst 1, 1) := by decide +kernel
theorem d_J_endLog_42 : decode b_J_endLog 42 = .ok (.ireturn, 1) := by decide +kernel
theorem d_J_writeTransaction_0 : decode b_J_writeTransaction 0 = .ok (.iconst 1, 1) := by decide +kernel
theorem d_J_writeTransaction_1 : decode b_J_writeTransaction 1 = .ok (.istore_n 2, 1) := by decide +kernel
theorem d_J_writeTransaction_2 : decode b_J_writeTransaction 2 = .ok (.iload_n 2, 1) := by decide +kernel
theorem d_J_writeTransaction_3 : decode b_J_writeTransaction 3 = .ok (.iload_n 1, 1) := by decide +kernel
theorem d_J_writeTransaction_4 : decode b_J_writeTransaction 4 = .ok (.if_icmp .ge 23, 3) := by decide +kernel
theorem d_J_writeTransaction_7 : decode b_J_writeTransaction 7 = .ok (.aload_n 0, 1) := by decide +kernel
theorem d_J_writeTransaction_8 : decode b_J_writeTransaction 8 = .ok (.getfield 10, 3) := by decide +kernel
theorem d_J_writeTransaction_11 : decode b_J_writeTransaction 11 = .ok (.bipush 64, 2) := by decide +kernel
theorem d_J_writeTransaction_13 : decode b_J_writeTransaction 13 = .ok (.invokevirtual 144, 3) := by decide +kernel
theorem d_J_writeTransaction_16 : decode b_J_writeTransaction 16 = .ok (.ifCond .ne 5, 3) := by decide +kernel
theorem d_J_writeTransaction_19 : decode b_J_writeTransaction 19 = .ok (.iconst 0, 1) := by decide +kernel
theorem d_J_writeTransaction_20 : decode b_J_writeTransaction 20 = .ok (.ireturn, 1) := by decide +kernel
theorem d_J_writeTransaction_21 : decode b_J_writeTransaction 21 = .ok (.iinc 2 1, 3) := by decide +kernel
theorem d_J_writeTransaction_24 : decode b_J_writeTransaction 24 = .ok (.goto (-22), 3) := by decide +kernel
theorem d_J_writeTransaction_27 : decode b_J_writeTransaction 27 = .ok (.aload_n 0, 1) := by decide +kernel
theorem d_J_writeTransaction_28 : decode b_J_writeTransaction 28 = .ok (.getfield 10, 3) := by decide +kernel
theorem d_J_writeTransaction_31 : decode b_J_writeTransaction 31 = .ok (.invokevirtual 100, 3) := by decide +kernel
theorem d_J_writeTransaction_34 : decode b_J_writeTransaction 34 = .ok (.ifCond .eq 15, 3) := by decide +kernel
theorem d_J_writeTransaction_37 : decode b_J_writeTransaction 37 = .ok (.aload_n 0, 1) := by decide +kernel
theorem d_J_writeTransaction_38 : decode b_J_writeTransaction 38 = .ok (.getfield 10, 3) := by decide +kernel
theorem d_J_writeTransaction_41 : decode b_J_writeTransaction 41 = .ok (.bipush 65, 2) := by decide +kernel
theorem d_J_writeTransaction_43 : decode b_J_writeTransaction 43 = .ok (.invokevirtual 144, 3) := by decide +kernel
theorem d_J_writeTransaction_46 : decode b_J_writeTransaction 46 = .ok (.ifCond .ne 5, 3) := by decide +kernel
theorem d_J_writeTransaction_49 : decode b_J_writeTransaction 49 = .ok (.iconst 0, 1) := by decide +kernel
theorem d_J_writeTransaction_50 : decode b_J_writeTransaction 50 = .ok (.ireturn, 1) := by decide +kernel
theorem d_J_writeTransaction_51 : decode b_J_writeTransaction 51 = .ok (.aload_n 0, 1) := by decide +kernel
theorem d_J_writeTransaction_52 : decode b_J_writeTransaction 52 = .ok (.getfield 19, 3) := by decide +kernel
theorem d_J_writeTransaction_55 : decode b_J_writeTransaction 55 = .ok (.aload_n 0, 1) := by decide +kernel
theorem d_J_writeTransaction_56 : decode b_J_writeTransaction 56 = .ok (.getfield 58, 3) := by decide +kernel
theorem d_J_writeTransaction_59 : decode b_J_writeTransaction 59 = .ok (.aload_n 0, 1) := by decide +kernel
theorem d_J_writeTransaction_60 : decode b_J_writeTransaction 60 = .ok (.getfield 79, 3) := by decide +kernel
theorem d_J_writeTransaction_63 : decode b_J_writeTransaction 63 = .ok (.iload_n 1, 1) := by decide +kernel
theorem d_J_writeTransaction_64 : decode b_J_writeTransaction 64 = .ok (.aload_n 0, 1) := by decide +kernel
theorem d_J_writeTransaction_65 : decode b_J_writeTransaction 65 = .ok (.getfield 23, 3) := by decide +kernel
theorem d_J_writeTransaction_68 : decode b_J_writeTransaction 68 = .ok (.invokevirtual 147, 3) := by decide +kernel
theorem d_J_writeTransaction_71 : decode b_J_writeTransaction 71 = .ok (.aload_n 0, 1) := by decide +kernel
theorem d_J_writeTransaction_72 : decode b_J_writeTransaction 72 = .ok (.invokevirtual 43, 3) := by decide +kernel
theorem d_J_writeTransaction_75 : decode b_J_writeTransaction 75 = .ok (.aload_n 0, 1) := by decide +kernel
theorem d_J_writeTransaction_76 : decode b_J_writeTransaction 76 = .ok (.getfield 10, 3) := by decide +kernel
theorem d_J_writeTransaction_79 : decode b_J_writeTransaction 79 = .ok (.invokevirtual 100, 3) := by decide +kernel
theorem d_J_writeTransaction_82 : decode b_J_writeTransaction 82 = .ok (.ireturn, 1) := by decide +kernel
theorem d_J_clear_0 : decode b_J_clear 0 = .ok (.aload_n 0, 1) := by decide +kernel
theorem d_J_clear_1 : decode b_J_clear 1 = .ok (.getfield 10, 3) := by decide +kernel
theorem d_J_clear_4 : decode b_J_clear 4 = .ok (.getfield 46, 3) := by decide +kernel
theorem d_J_clear_7 : decode b_J_clear 7 = .ok (.ifCond .ne 5, 3) := by decide +kernel
theorem d_J_clear_10 : decode b_J_clear 10 = .ok (.iconst (-1), 1) := by decide +kernel
theorem d_J_clear_11 : decode b_J_clear 11 = .ok (.ireturn, 1) := by decide +kernel
theorem d_J_clear_12 : decode b_J_clear 12 = .ok (.aload_n 0, 1) := by decide +kernel
theorem d_J_clear_13 : decode b_J_clear 13 = .ok (.getfield 19, 3) := by decide +kernel
theorem d_J_clear_16 : decode b_J_clear 16 = .ok (.getfield 121, 3) := by decide +kernel
theorem d_J_clear_19 : decode b_J_clear 19 = .ok (.ifCond .ne 7, 3) := by decide +kernel
theorem d_J_clear_22 : decode b_J_clear 22 = .ok (.iconst 0, 1) := by decide +kernel
theorem d_J_clear_23 : decode b_J_clear 23 = .ok (.goto 7, 3) := by decide +kernel
theorem d_J_clear_26 : decode b_J_clear 26 = .ok (.aload_n 0, 1) := by decide +kernel
theorem d_J_clear_27 : decode b_J_clear 27 = .ok (.invokevirtual 115, 3) := by decide +kernel
theorem d_J_clear_30 : decode b_J_clear 30 = .ok (.ireturn, 1) := by decide +kernel
theorem d_J_fuse_0 : decode b_J_fuse 0 = .ok (.aload_n 0, 1) := by decide +kernel
theorem d_J_fuse_1 : decode b_J_fuse 1 = .ok (.getfield 10, 3) := by decide +kernel
theorem d_J_fuse_4 : decode b_J_fuse 4 = .ok (.getfield 46, 3) := by decide +kernel
theorem d_J_fuse_7 : decode b_J_fuse 7 = .ok (.ifCond .ne 5, 3) := by decide +kernel
theorem d_J_fuse_10 : decode b_J_fuse 10 = .ok (.iconst (-1), 1) := by decide +kernel
theorem d_J_fuse_11 : decode b_J_fuse 11 = .ok (.ireturn, 1) := by decide +kernel
theorem d_J_fuse_12 : decode b_J_fuse 12 = .ok (.iload_n 1, 1) := by decide +kernel
theorem d_J_fuse_13 : decode b_J_fuse 13 = .ok (.iconst (-1), 1) := by decide +kernel
theorem d_J_fuse_14 : decode b_J_fuse 14 = .ok (.if_icmp .lt 9, 3) := by decide +kernel
theorem d_J_fuse_17 : decode b_J_fuse 17 = .ok (.iload_n 1, 1) := by decide +kernel
theorem d_J_fuse_18 : decode b_J_fuse 18 = .ok (.ldc 124, 2) := by decide +kernel
theorem d_J_fuse_20 : decode b_J_fuse 20 = .ok (.if_icmp .le 6, 3) := by decide +kernel
theorem d_J_fuse_23 : decode b_J_fuse 23 = .ok (.bipush (-2), 2) := by decide +kernel
theorem d_J_fuse_25 : decode b_J_fuse 25 = .ok (.ireturn, 1) := by decide +kernel
theorem d_J_fuse_26 : decode b_J_fuse 26 = .ok (.aload_n 0, 1) := by decide +kernel
theorem d_J_fuse_27 : decode b_J_fuse 27 = .ok (.getfield 10, 3) := by decide +kernel
theorem d_J_fuse_30 : decode b_J_fuse 30 = .ok (.getfield 125, 3) := by decide +kernel
theorem d_J_fuse_33 : decode b_J_fuse 33 = .ok (.istore_n 2, 1) := by decide +kernel
theorem d_J_fuse_34 : decode b_J_fuse 34 = .ok (.aload_n 0, 1) := by decide +kernel
theorem d_J_fuse_35 : decode b_J_fuse 35 = .ok (.getfield 10, 3) := by decide +kernel
theorem d_J_fuse_38 : decode b_J_fuse 38 = .ok (.iload_n 1, 1) := by decide +kernel
theorem d_J_fuse_39 : decode b_J_fuse 39 = .ok (.putfield 125, 3) := by decide +kernel
theorem d_J_fuse_42 : decode b_J_fuse 42 = .ok (.iload_n 2, 1) := by decide +kernel
theorem d_J_fuse_43 : decode b_J_fuse 43 = .ok (.ireturn, 1) := by decide +kernel
theorem d_J_fail_0 : decode b_J_fail 0 = .ok (.aload_n 0, 1) := by decide +kernel
theorem d_J_fail_1 : decode b_J_fail 1 = .ok (.getfield 10, 3) := by decide +kernel
theorem d_J_fail_4 : decode b_J_fail 4 = .ok (.getfield 46, 3) := by decide +kernel
theorem d_J_fail_7 : decode b_J_fail 7 = .ok (.ifCond .ne 5, 3) := by decide +kernel
theorem d_J_fail_10 : decode b_J_fail 10 = .ok (.iconst (-1), 1) := by decide +kernel
theorem d_J_fail_11 : decode b_J_fail 11 = .ok (.ireturn, 1) := by decide +kernel
theorem d_J_fail_12 : decode b_J_fail 12 = .ok (.aload_n 0, 1) := by decide +kernel
theorem d_J_fail_13 : decode b_J_fail 13 = .ok (.getfield 10, 3) := by decide +kernel
theorem d_J_fail_16 : decode b_J_fail 16 = .ok (.iconst 0, 1) := by decide +kernel
theorem d_J_fail_17 : decode b_J_fail 17 = .ok (.putfield 46, 3) := by decide +kernel
theorem d_J_fail_20 : decode b_J_fail 20 = .ok (.aload_n 0, 1) := by decide +kernel
theorem d_J_fail_21 : decode b_J_fail 21 = .ok (.getfield 10, 3) := by decide +kernel
theorem d_J_fail_24 : decode b_J_fail 24 = .ok (.getfield 128, 3) := by decide +kernel
theorem d_J_fail_27 : decode b_J_fail 27 = .ok (.ireturn, 1) := by decide +kernel
theorem d_J_mount_0 : decode b_J_mount 0 = .ok (.aload_n 0, 1) := by decide +kernel
theorem d_J_mount_1 : decode b_J_mount 1 = .ok (.getfield 10, 3) := by decide +kernel
theorem d_J_mount_4 : decode b_J_mount 4 = .ok (.getfield 46, 3) := by decide +kernel
theorem d_J_mount_7 : decode b_J_mount 7 = .ok (.ifCond .eq 6, 3) := by decide +kernel
theorem d_J_mount_10 : decode b_J_mount 10 = .ok (.bipush (-2), 2) := by decide +kernel
theorem d_J_mount_12 : decode b_J_mount 12 = .ok (.ireturn, 1) := by decide +kernel
theorem d_J_mount_13 : decode b_J_mount 13 = .ok (.aload_n 0, 1) := by decide +kernel
theorem d_J_mount_14 : decode b_J_mount 14 = .ok (.lload_n 1, 1) := by decide +kernel
theorem d_J_mount_15 : decode b_J_mount 15 = .ok (.invokevirtual 131, 3) := by decide +kernel
theorem d_J_mount_18 : decode b_J_mount 18 = .ok (.aload_n 0, 1) := by decide +kernel
theorem d_J_mount_19 : decode b_J_mount 19 = .ok (.getfield 10, 3) := by decide +kernel
theorem d_J_mount_22 : decode b_J_mount 22 = .ok (.lload_n 1, 1) := by decide +kernel
theorem d_J_mount_23 : decode b_J_mount 23 = .ok (.invokevirtual 135, 3) := by decide +kernel
theorem d_J_mount_26 : decode b_J_mount 26 = .ok (.aload_n 0, 1) := by decide +kernel
theorem d_J_mount_27 : decode b_J_mount 27 = .ok (.getfield 10, 3) := by decide +kernel
theorem d_J_mount_30 : decode b_J_mount 30 = .ok (.iconst 1, 1) := by decide +kernel
theorem d_J_mount_31 : decode b_J_mount 31 = .ok (.putfield 46, 3) := by decide +kernel
theorem d_J_mount_34 : decode b_J_mount 34 = .ok (.aload_n 0, 1) := by decide +kernel
theorem d_J_mount_35 : decode b_J_mount 35 = .ok (.invokevirtual 43, 3) := by decide +kernel
theorem d_J_mount_38 : decode b_J_mount 38 = .ok (.aload_n 0, 1) := by decide +kernel
theorem d_J_mount_39 : decode b_J_mount 39 = .ok (.getfield 19, 3) := by decide +kernel
theorem d_J_mount_42 : decode b_J_mount 42 = .ok (.getfield 121, 3) := by decide +kernel
theorem d_J_mount_45 : decode b_J_mount 45 = .ok (.ifCond .ne 7, 3) := by decide +kernel
theorem d_J_mount_48 : decode b_J_mount 48 = .ok (.iconst 0, 1) := by decide +kernel
theorem d_J_mount_49 : decode b_J_mount 49 = .ok (.goto 7, 3) := by decide +kernel
theorem d_J_mount_52 : decode b_J_mount 52 = .ok (.aload_n 0, 1) := by decide +kernel
theorem d_J_mount_53 : decode b_J_mount 53 = .ok (.invokevirtual 138, 3) := by decide +kernel
theorem d_J_mount_56 : decode b_J_mount 56 = .ok (.istore_n 3, 1) := by decide +kernel
theorem d_J_mount_57 : decode b_J_mount 57 = .ok (.aload_n 0, 1) := by decide +kernel
theorem d_J_mount_58 : decode b_J_mount 58 = .ok (.getfield 10, 3) := by decide +kernel
theorem d_J_mount_61 : decode b_J_mount 61 = .ok (.getfield 87, 3) := by decide +kernel
theorem d_J_mount_64 : decode b_J_mount 64 = .ok (.iconst 0, 1) := by decide +kernel
theorem d_J_mount_65 : decode b_J_mount 65 = .ok (.aload_n 0, 1) := by decide +kernel
theorem d_J_mount_66 : decode b_J_mount 66 = .ok (.getfield 23, 3) := by decide +kernel
theorem d_J_mount_69 : decode b_J_mount 69 = .ok (.iconst 0, 1) := by decide +kernel
theorem d_J_mount_70 : decode b_J_mount 70 = .ok (.sipush 16384, 3) := by decide +kernel
theorem d_J_mount_73 : decode b_J_mount 73 = .ok (.invokestatic 90, 3) := by decide +kernel
theorem d_J_mount_76 : decode b_J_mount 76 = .ok (.iload_n 3, 1) := by decide +kernel
theorem d_J_mount_77 : decode b_J_mount 77 = .ok (.ireturn, 1) := by decide +kernel
theorem d_J_settleLog_0 : decode b_J_settleLog 0 = .ok (.aload_n 0, 1) := by decide +kernel
theorem d_J_settleLog_1 : decode b_J_settleLog 1 = .ok (.getfield 10, 3) := by decide +kernel
theorem d_J_settleLog_4 : decode b_J_settleLog 4 = .ok (.bipush 65, 2) := by decide +kernel
theorem d_J_settleLog_6 : decode b_J_settleLog 6 = .ok (.invokevirtual 168, 3) := by decide +kernel
theorem d_J_settleLog_9 : decode b_J_settleLog 9 = .ok (.istore_n 3, 1) := by decide +kernel
theorem d_J_settleLog_10 : decode b_J_settleLog 10 = .ok (.iload_n 3, 1) := by decide +kernel
theorem d_J_settleLog_11 : decode b_J_settleLog 11 = .ok (.ifCond .lt 18, 3) := by decide +kernel
theorem d_J_settleLog_14 : decode b_J_settleLog 14 = .ok (.iload_n 3, 1) := by decide +kernel
theorem d_J_settleLog_15 : decode b_J_settleLog 15 = .ok (.lload_n 1, 1) := by decide +kernel
theorem d_J_settleLog_16 : decode b_J_settleLog 16 = .ok (.invokestatic 171, 3) := by decide +kernel
theorem d_J_settleLog_19 : decode b_J_settleLog 19 = .ok (.ifCond .ne 10, 3) := by decide +kernel
theorem d_J_settleLog_22 : decode b_J_settleLog 22 = .ok (.aload_n 0, 1) := by decide +kernel
theorem d_J_settleLog_23 : decode b_J_settleLog 23 = .ok (.getfield 19, 3) := by decide +kernel
theorem d_J_settleLog_26 : decode b_J_settleLog 26 = .ok (.invokevirtual 175, 3) := by decide +kernel
theorem d_J_settleLog_29 : decode b_J_settleLog 29 = .ok (.aload_n 0, 1) := by decide +kernel
theorem d_J_settleLog_30 : decode b_J_settleLog 30 = .ok (.getfield 10, 3) := by decide +kernel
theorem d_J_settleLog_33 : decode b_J_settleLog 33 = .ok (.bipush 66, 2) := by decide +kernel
theorem d_J_settleLog_35 : decode b_J_settleLog 35 = .ok (.invokevirtual 168, 3) := by decide +kernel
theorem d_J_settleLog_38 : decode b_J_settleLog 38 = .ok (.istore 4, 2) := by decide +kernel
theorem d_J_settleLog_40 : decode b_J_settleLog 40 = .ok (.iload 4, 2) := by decide +kernel
theorem d_J_settleLog_42 : decode b_J_settleLog 42 = .ok (.ifCond .lt 19, 3) := by decide +kernel
theorem d_J_settleLog_45 : decode b_J_settleLog 45 = .ok (.iload 4, 2) := by decide +kernel
theorem d_J_settleLog_47 : decode b_J_settleLog 47 = .ok (.lload_n 1, 1) := by decide +kernel
theorem d_J_settleLog_48 : decode b_J_settleLog 48 = .ok (.invokestatic 171, 3) := by decide +kernel
theorem d_J_settleLog_51 : decode b_J_settleLog 51 = .ok (.ifCond .eq 10, 3) := by decide +kernel
theorem d_J_settleLog_54 : decode b_J_settleLog 54 = .ok (.aload_n 0, 1) := by decide +kernel
theorem d_J_settleLog_55 : decode b_J_settleLog 55 = .ok (.getfield 19, 3) := by decide +kernel
theorem d_J_settleLog_58 : decode b_J_settleLog 58 = .ok (.invokevirtual 34, 3) := by decide +kernel
theorem d_J_settleLog_61 : decode b_J_settleLog 61 = .ok (.return_, 1) := by decide +kernel
theorem d_J_replay_0 : decode b_J_replay 0 = .ok (.iconst 0, 1) := by decide +kernel
theorem d_J_replay_1 : decode b_J_replay 1 = .ok (.istore_n 1, 1) := by decide +kernel
theorem d_J_replay_2 : decode b_J_replay 2 = .ok (.iconst 0, 1) := by decide +kernel
theorem d_J_replay_3 : decode b_J_replay 3 = .ok (.istore_n 2, 1) := by decide +kernel
theorem d_J_replay_4 : decode b_J_replay 4 = .ok (.iload_n 2, 1) := by decide +kernel
theorem d_J_replay_5 : decode b_J_replay 5 = .ok (.aload_n 0, 1) := by decide +kernel
theorem d_J_replay_6 : decode b_J_replay 6 = .ok (.getfield 19, 3) := by decide +kernel
theorem d_J_replay_9 : decode b_J_replay 9 = .ok (.getfield 121, 3) := by decide +kernel
theorem d_J_replay_12 : decode b_J_replay 12 = .ok (.if_icmp .ge 80, 3) := by decide +kernel
theorem d_J_replay_15 : decode b_J_replay 15 = .ok (.aload_n 0, 1) := by decide +kernel
theorem d_J_replay_16 : decode b_J_replay 16 = .ok (.getfield 19, 3) := by decide +kernel
theorem d_J_replay_19 : decode b_J_replay 19 = .ok (.iload_n 2, 1) := by decide +kernel
theorem d_J_replay_20 : decode b_J_replay 20 = .ok (.invokevirtual 161, 3) := by decide +kernel
theorem d_J_replay_23 : decode b_J_replay 23 = .ok (.lstore_n 3, 1) := by decide +kernel
theorem d_J_replay_24 : decode b_J_replay 24 = .ok (.iconst 0, 1) := by decide +kernel
theorem d_J_replay_25 : decode b_J_replay 25 = .ok (.istore 5, 2) := by decide +kernel
theorem d_J_replay_27 : decode b_J_replay 27 = .ok (.iload 5, 2) := by decide +kernel
theorem d_J_replay_29 : decode b_J_replay 29 = .ok (.bipush 64, 2) := by decide +kernel
theorem d_J_replay_31 : decode b_J_replay 31 = .ok (.if_icmp .ge 55, 3) := by decide +kernel
theorem d_J_replay_34 : decode b_J_replay 34 = .ok (.lload_n 3, 1) := by decide +kernel
theorem d_J_replay_35 : decode b_J_replay 35 = .ok (.iload 5, 2) := by decide +kernel
theorem d_J_replay_37 : decode b_J_replay 37 = .ok (.invokestatic 62, 3) := by decide +kernel
theorem d_J_replay_40 : decode b_J_replay 40 = .ok (.ifCond .ne 6, 3) := by decide +kernel
theorem d_J_replay_43 : decode b_J_replay 43 = .ok (.goto 37, 3) := by decide +kernel
theorem d_J_replay_46 : decode b_J_replay 46 = .ok (.aload_n 0, 1) := by decide +kernel
theorem d_J_replay_47 : decode b_J_replay 47 = .ok (.getfield 10, 3) := by decide +kernel
theorem d_J_replay_50 : decode b_J_replay 50 = .ok (.iload 5, 2) := by decide +kernel
theorem d_J_replay_52 : decode b_J_replay 52 = .ok (.aload_n 0, 1) := by decide +kernel
theorem d_J_replay_53 : decode b_J_replay 53 = .ok (.getfield 19, 3) := by decide +kernel
theorem d_J_replay_56 : decode b_J_replay 56 = .ok (.getfield 151, 3) := by decide +kernel
theorem d_J_replay_59 : decode b_J_replay 59 = .ok (.aload_n 0, 1) := by decide +kernel
theorem d_J_replay_60 : decode b_J_replay 60 = .ok (.getfield 19, 3) := by decide +kernel
theorem d_J_replay_63 : decode b_J_replay 63 = .ok (.iload_n 2, 1) := by decide +kernel
theorem d_J_replay_64 : decode b_J_replay 64 = .ok (.iload 5, 2) := by decide +kernel
theorem d_J_replay_66 : decode b_J_replay 66 = .ok (.invokevirtual 164, 3) := by decide +kernel
theorem d_J_replay_69 : decode b_J_replay 69 = .ok (.invokevirtual 104, 3) := by decide +kernel
theorem d_J_replay_72 : decode b_J_replay 72 = .ok (.ifCond .ne 5, 3) := by decide +kernel
theorem d_J_replay_75 : decode b_J_replay 75 = .ok (.iconst (-1), 1) := by decide +kernel
theorem d_J_replay_76 : decode b_J_replay 76 = .ok (.ireturn, 1) := by decide +kernel
theorem d_J_replay_77 : decode b_J_replay 77 = .ok (.iinc 1 1, 3) := by decide +kernel
theorem d_J_replay_80 : decode b_J_replay 80 = .ok (.iinc 5 1, 3) := by decide +kernel
theorem d_J_replay_83 : decode b_J_replay 83 = .ok (.goto (-56), 3) := by decide +kernel
theorem d_J_replay_86 : decode b_J_replay 86 = .ok (.iinc 2 1, 3) := by decide +kernel
theorem d_J_replay_89 : decode b_J_replay 89 = .ok (.goto (-85), 3) := by decide +kernel
theorem d_J_replay_92 : decode b_J_replay 92 = .ok (.aload_n 0, 1) := by decide +kernel
theorem d_J_replay_93 : decode b_J_replay 93 = .ok (.invokevirtual 158, 3) := by decide +kernel
theorem d_J_replay_96 : decode b_J_replay 96 = .ok (.ifCond .eq 7, 3) := by decide +kernel
theorem d_J_replay_99 : decode b_J_replay 99 = .ok (.iload_n 1, 1) := by decide +kernel
theorem d_J_replay_100 : decode b_J_replay 100 = .ok (.goto 4, 3) := by decide +kernel
theorem d_J_replay_103 : decode b_J_replay 103 = .ok (.iconst (-1), 1) := by decide +kernel
theorem d_J_replay_104 : decode b_J_replay 104 = .ok (.ireturn, 1) := by decide +kernel
theorem d_J_count_0 : decode b_J_count 0 = .ok (.aload_n 0, 1) := by decide +kernel
theorem d_J_count_1 : decode b_J_count 1 = .ok (.getfield 10, 3) := by decide +kernel
theorem d_J_count_4 : decode b_J_count 4 = .ok (.getfield 46, 3) := by decide +kernel
theorem d_J_count_7 : decode b_J_count 7 = .ok (.ifCond .ne 5, 3) := by decide +kernel
theorem d_J_count_10 : decode b_J_count 10 = .ok (.iconst (-1), 1) := by decide +kernel
theorem d_J_count_11 : decode b_J_count 11 = .ok (.ireturn, 1) := by decide +kernel
theorem d_J_count_12 : decode b_J_count 12 = .ok (.iload_n 1, 1) := by decide +kernel
theorem d_J_count_13 : decode b_J_count 13 = .ok (.tableswitch 102 0 6 #[43, 51, 59, 70, 78, 86, 94], 43) := by decide +kernel
theorem d_J_count_56 : decode b_J_count 56 = .ok (.aload_n 0, 1) := by decide +kernel
theorem d_J_count_57 : decode b_J_count 57 = .ok (.getfield 19, 3) := by decide +kernel
theorem d_J_count_60 : decode b_J_count 60 = .ok (.getfield 121, 3) := by decide +kernel
theorem d_J_count_63 : decode b_J_count 63 = .ok (.ireturn, 1) := by decide +kernel
theorem d_J_count_64 : decode b_J_count 64 = .ok (.aload_n 0, 1) := by decide +kernel
theorem d_J_count_65 : decode b_J_count 65 = .ok (.getfield 19, 3) := by decide +kernel
theorem d_J_count_68 : decode b_J_count 68 = .ok (.invokevirtual 112, 3) := by decide +kernel
theorem d_J_count_71 : decode b_J_count 71 = .ok (.ireturn, 1) := by decide +kernel
theorem d_J_count_72 : decode b_J_count 72 = .ok (.aload_n 0, 1) := by decide +kernel
theorem d_J_count_73 : decode b_J_count 73 = .ok (.getfield 19, 3) := by decide +kernel
theorem d_J_count_76 : decode b_J_count 76 = .ok (.invokevirtual 96, 3) := by decide +kernel
theorem d_J_count_79 : decode b_J_count 79 = .ok (.invokestatic 66, 3) := by decide +kernel
theorem d_J_count_82 : decode b_J_count 82 = .ok (.ireturn, 1) := by decide +kernel
theorem d_J_count_83 : decode b_J_count 83 = .ok (.aload_n 0, 1) := by decide +kernel
theorem d_J_count_84 : decode b_J_count 84 = .ok (.getfield 58, 3) := by decide +kernel
theorem d_J_count_87 : decode b_J_count 87 = .ok (.invokestatic 66, 3) := by decide +kernel
theorem d_J_count_90 : decode b_J_count 90 = .ok (.ireturn, 1) := by decide +kernel
theorem d_J_count_91 : decode b_J_count 91 = .ok (.aload_n 0, 1) := by decide +kernel
theorem d_J_count_92 : decode b_J_count 92 = .ok (.getfield 79, 3) := by decide +kernel
theorem d_J_count_95 : decode b_J_count 95 = .ok (.invokestatic 66, 3) := by decide +kernel
theorem d_J_count_98 : decode b_J_count 98 = .ok (.ireturn, 1) := by decide +kernel
theorem d_J_count_99 : decode b_J_count 99 = .ok (.aload_n 0, 1) := by decide +kernel
theorem d_J_count_100 : decode b_J_count 100 = .ok (.getfield 10, 3) := by decide +kernel
theorem d_J_count_103 : decode b_J_count 103 = .ok (.getfield 141, 3) := by decide +kernel
theorem d_J_count_106 : decode b_J_count 106 = .ok (.ireturn, 1) := by decide +kernel
theorem d_J_count_107 : decode b_J_count 107 = .ok (.aload_n 0, 1) := by decide +kernel
theorem d_J_count_108 : decode b_J_count 108 = .ok (.getfield 10, 3) := by decide +kernel
theorem d_J_count_111 : decode b_J_count 111 = .ok (.getfield 128, 3) := by decide +kernel
theorem d_J_count_114 : decode b_J_count 114 = .ok (.ireturn, 1) := by decide +kernel
theorem d_J_count_115 : decode b_J_count 115 = .ok (.bipush (-2), 2) := by decide +kernel
theorem d_J_count_117 : decode b_J_count 117 = .ok (.ireturn, 1) := by decide +kernel
