theorem d_M_init_0 : decode b_M_init 0 = .ok (.aload_n 0, 1) := by decide +kernel
theorem d_M_init_1 : decode b_M_init 1 = .ok (.invokespecial 1, 3) := by decide +kernel
theorem d_M_init_4 : decode b_M_init 4 = .ok (.aload_n 0, 1) := by decide +kernel
theorem d_M_init_5 : decode b_M_init 5 = .ok (.sipush 16384, 3) := by decide +kernel
theorem d_M_init_8 : decode b_M_init 8 = .ok (.newarray .byte, 2) := by decide +kernel
theorem d_M_init_10 : decode b_M_init 10 = .ok (.putfield 7, 3) := by decide +kernel
theorem d_M_init_13 : decode b_M_init 13 = .ok (.aload_n 0, 1) := by decide +kernel
theorem d_M_init_14 : decode b_M_init 14 = .ok (.sipush 16384, 3) := by decide +kernel
theorem d_M_init_17 : decode b_M_init 17 = .ok (.newarray .byte, 2) := by decide +kernel
theorem d_M_init_19 : decode b_M_init 19 = .ok (.putfield 13, 3) := by decide +kernel
theorem d_M_init_22 : decode b_M_init 22 = .ok (.aload_n 0, 1) := by decide +kernel
theorem d_M_init_23 : decode b_M_init 23 = .ok (.sipush 16384, 3) := by decide +kernel
theorem d_M_init_26 : decode b_M_init 26 = .ok (.newarray .byte, 2) := by decide +kernel
theorem d_M_init_28 : decode b_M_init 28 = .ok (.putfield 16, 3) := by decide +kernel
theorem d_M_init_31 : decode b_M_init 31 = .ok (.aload_n 0, 1) := by decide +kernel
theorem d_M_init_32 : decode b_M_init 32 = .ok (.sipush 512, 3) := by decide +kernel
theorem d_M_init_35 : decode b_M_init 35 = .ok (.newarray .int, 2) := by decide +kernel
theorem d_M_init_37 : decode b_M_init 37 = .ok (.putfield 19, 3) := by decide +kernel
theorem d_M_init_40 : decode b_M_init 40 = .ok (.aload_n 0, 1) := by decide +kernel
theorem d_M_init_41 : decode b_M_init 41 = .ok (.sipush 512, 3) := by decide +kernel
theorem d_M_init_44 : decode b_M_init 44 = .ok (.newarray .int, 2) := by decide +kernel
theorem d_M_init_46 : decode b_M_init 46 = .ok (.putfield 23, 3) := by decide +kernel
theorem d_M_init_49 : decode b_M_init 49 = .ok (.aload_n 0, 1) := by decide +kernel
theorem d_M_init_50 : decode b_M_init 50 = .ok (.bipush 64, 2) := by decide +kernel
theorem d_M_init_52 : decode b_M_init 52 = .ok (.newarray .boolean, 2) := by decide +kernel
theorem d_M_init_54 : decode b_M_init 54 = .ok (.putfield 26, 3) := by decide +kernel
theorem d_M_init_57 : decode b_M_init 57 = .ok (.aload_n 0, 1) := by decide +kernel
theorem d_M_init_58 : decode b_M_init 58 = .ok (.bipush 64, 2) := by decide +kernel
theorem d_M_init_60 : decode b_M_init 60 = .ok (.newarray .boolean, 2) := by decide +kernel
theorem d_M_init_62 : decode b_M_init 62 = .ok (.putfield 30, 3) := by decide +kernel
theorem d_M_init_65 : decode b_M_init 65 = .ok (.aload_n 0, 1) := by decide +kernel
theorem d_M_init_66 : decode b_M_init 66 = .ok (.bipush 102, 2) := by decide +kernel
theorem d_M_init_68 : decode b_M_init 68 = .ok (.newarray .int, 2) := by decide +kernel
theorem d_M_init_70 : decode b_M_init 70 = .ok (.putfield 33, 3) := by decide +kernel
theorem d_M_init_73 : decode b_M_init 73 = .ok (.aload_n 0, 1) := by decide +kernel
theorem d_M_init_74 : decode b_M_init 74 = .ok (.bipush 101, 2) := by decide +kernel
theorem d_M_init_76 : decode b_M_init 76 = .ok (.newarray .int, 2) := by decide +kernel
theorem d_M_init_78 : decode b_M_init 78 = .ok (.putfield 36, 3) := by decide +kernel
theorem d_M_init_81 : decode b_M_init 81 = .ok (.aload_n 0, 1) := by decide +kernel
theorem d_M_init_82 : decode b_M_init 82 = .ok (.sipush 6464, 3) := by decide +kernel
theorem d_M_init_85 : decode b_M_init 85 = .ok (.newarray .boolean, 2) := by decide +kernel
theorem d_M_init_87 : decode b_M_init 87 = .ok (.putfield 39, 3) := by decide +kernel
theorem d_M_init_90 : decode b_M_init 90 = .ok (.aload_n 0, 1) := by decide +kernel
theorem d_M_init_91 : decode b_M_init 91 = .ok (.sipush 200, 3) := by decide +kernel
theorem d_M_init_94 : decode b_M_init 94 = .ok (.newarray .int, 2) := by decide +kernel
theorem d_M_init_96 : decode b_M_init 96 = .ok (.putfield 42, 3) := by decide +kernel
theorem d_M_init_99 : decode b_M_init 99 = .ok (.aload_n 0, 1) := by decide +kernel
theorem d_M_init_100 : decode b_M_init 100 = .ok (.ldc 45, 2) := by decide +kernel
theorem d_M_init_102 : decode b_M_init 102 = .ok (.newarray .byte, 2) := by decide +kernel
theorem d_M_init_104 : decode b_M_init 104 = .ok (.putfield 46, 3) := by decide +kernel
theorem d_M_init_107 : decode b_M_init 107 = .ok (.aload_n 0, 1) := by decide +kernel
theorem d_M_init_108 : decode b_M_init 108 = .ok (.bipush 40, 2) := by decide +kernel
theorem d_M_init_110 : decode b_M_init 110 = .ok (.invokevirtual 49, 3) := by decide +kernel
theorem d_M_init_113 : decode b_M_init 113 = .ok (.pop, 1) := by decide +kernel
theorem d_M_init_114 : decode b_M_init 114 = .ok (.return_, 1) := by decide +kernel
theorem d_M_lay_0 : decode b_M_lay 0 = .ok (.aload_n 0, 1) := by decide +kernel
theorem d_M_lay_1 : decode b_M_lay 1 = .ok (.iconst 0, 1) := by decide +kernel
theorem d_M_lay_2 : decode b_M_lay 2 = .ok (.putfield 53, 3) := by decide +kernel
theorem d_M_lay_5 : decode b_M_lay 5 = .ok (.iload_n 1, 1) := by decide +kernel
theorem d_M_lay_6 : decode b_M_lay 6 = .ok (.bipush 40, 2) := by decide +kernel
theorem d_M_lay_8 : decode b_M_lay 8 = .ok (.if_icmp .lt 10, 3) := by decide +kernel
theorem d_M_lay_11 : decode b_M_lay 11 = .ok (.iload_n 1, 1) := by decide +kernel
theorem d_M_lay_12 : decode b_M_lay 12 = .ok (.sipush 200, 3) := by decide +kernel
theorem d_M_lay_15 : decode b_M_lay 15 = .ok (.if_icmp .le 6, 3) := by decide +kernel
theorem d_M_lay_18 : decode b_M_lay 18 = .ok (.bipush (-2), 2) := by decide +kernel
theorem d_M_lay_20 : decode b_M_lay 20 = .ok (.ireturn, 1) := by decide +kernel
theorem d_M_lay_21 : decode b_M_lay 21 = .ok (.aload_n 0, 1) := by decide +kernel
theorem d_M_lay_22 : decode b_M_lay 22 = .ok (.iload_n 1, 1) := by decide +kernel
theorem d_M_lay_23 : decode b_M_lay 23 = .ok (.putfield 57, 3) := by decide +kernel
theorem d_M_lay_26 : decode b_M_lay 26 = .ok (.aload_n 0, 1) := by decide +kernel
theorem d_M_lay_27 : decode b_M_lay 27 = .ok (.iconst 0, 1) := by decide +kernel
theorem d_M_lay_28 : decode b_M_lay 28 = .ok (.putfield 60, 3) := by decide +kernel
theorem d_M_lay_31 : decode b_M_lay 31 = .ok (.aload_n 0, 1) := by decide +kernel
theorem d_M_lay_32 : decode b_M_lay 32 = .ok (.iconst (-1), 1) := by decide +kernel
theorem d_M_lay_33 : decode b_M_lay 33 = .ok (.putfield 64, 3) := by decide +kernel
theorem d_M_lay_36 : decode b_M_lay 36 = .ok (.aload_n 0, 1) := by decide +kernel
theorem d_M_lay_37 : decode b_M_lay 37 = .ok (.iconst 0, 1) := by decide +kernel
theorem d_M_lay_38 : decode b_M_lay 38 = .ok (.putfield 67, 3) := by decide +kernel
theorem d_M_lay_41 : decode b_M_lay 41 = .ok (.aload_n 0, 1) := by decide +kernel
theorem d_M_lay_42 : decode b_M_lay 42 = .ok (.iconst 0, 1) := by decide +kernel
theorem d_M_lay_43 : decode b_M_lay 43 = .ok (.putfield 70, 3) := by decide +kernel
theorem d_M_lay_46 : decode b_M_lay 46 = .ok (.aload_n 0, 1) := by decide +kernel
theorem d_M_lay_47 : decode b_M_lay 47 = .ok (.iconst 0, 1) := by decide +kernel
theorem d_M_lay_48 : decode b_M_lay 48 = .ok (.putfield 73, 3) := by decide +kernel
theorem d_M_lay_51 : decode b_M_lay 51 = .ok (.iconst 0, 1) := by decide +kernel
theorem d_M_lay_52 : decode b_M_lay 52 = .ok (.istore_n 2, 1) := by decide +kernel
theorem d_M_lay_53 : decode b_M_lay 53 = .ok (.iload_n 2, 1) := by decide +kernel
theorem d_M_lay_54 : decode b_M_lay 54 = .ok (.sipush 16384, 3) := by decide +kernel
theorem d_M_lay_57 : decode b_M_lay 57 = .ok (.if_icmp .ge 30, 3) := by decide +kernel
theorem d_M_lay_60 : decode b_M_lay 60 = .ok (.aload_n 0, 1) := by decide +kernel
theorem d_M_lay_61 : decode b_M_lay 61 = .ok (.getfield 7, 3) := by decide +kernel
theorem d_M_lay_64 : decode b_M_lay 64 = .ok (.iload_n 2, 1) := by decide +kernel
theorem d_M_lay_65 : decode b_M_lay 65 = .ok (.iconst 0, 1) := by decide +kernel
theorem d_M_lay_66 : decode b_M_lay 66 = .ok (.bastore, 1) := by decide +kernel
theorem d_M_lay_67 : decode b_M_lay 67 = .ok (.aload_n 0, 1) := by decide +kernel
theorem d_M_lay_68 : decode b_M_lay 68 = .ok (.getfield 13, 3) := by decide +kernel
theorem d_M_lay_71 : decode b_M_lay 71 = .ok (.iload_n 2, 1) := by decide +kernel
theorem d_M_lay_72 : decode b_M_lay 72 = .ok (.iconst 0, 1) := by decide +kernel
theorem d_M_lay_73 : decode b_M_lay 73 = .ok (.bastore, 1) := by decide +kernel
theorem d_M_lay_74 : decode b_M_lay 74 = .ok (.aload_n 0, 1) := by decide +kernel
theorem d_M_lay_75 : decode b_M_lay 75 = .ok (.getfield 16, 3) := by decide +kernel
theorem d_M_lay_78 : decode b_M_lay 78 = .ok (.iload_n 2, 1) := by decide +kernel
theorem d_M_lay_79 : decode b_M_lay 79 = .ok (.iconst 0, 1) := by decide +kernel
theorem d_M_lay_80 : decode b_M_lay 80 = .ok (.bastore, 1) := by decide +kernel
theorem d_M_lay_81 : decode b_M_lay 81 = .ok (.iinc 2 1, 3) := by decide +kernel
theorem d_M_lay_84 : decode b_M_lay 84 = .ok (.goto (-31), 3) := by decide +kernel
theorem d_M_lay_87 : decode b_M_lay 87 = .ok (.aload_n 0, 1) := by decide +kernel
theorem d_M_lay_88 : decode b_M_lay 88 = .ok (.invokevirtual 76, 3) := by decide +kernel
theorem d_M_lay_91 : decode b_M_lay 91 = .ok (.iload_n 1, 1) := by decide +kernel
theorem d_M_lay_92 : decode b_M_lay 92 = .ok (.ireturn, 1) := by decide +kernel
theorem d_M_drop_0 : decode b_M_drop 0 = .ok (.iconst 0, 1) := by decide +kernel
theorem d_M_drop_1 : decode b_M_drop 1 = .ok (.istore_n 1, 1) := by decide +kernel
theorem d_M_drop_2 : decode b_M_drop 2 = .ok (.iload_n 1, 1) := by decide +kernel
theorem d_M_drop_3 : decode b_M_drop 3 = .ok (.bipush 64, 2) := by decide +kernel
theorem d_M_drop_5 : decode b_M_drop 5 = .ok (.if_icmp .ge 23, 3) := by decide +kernel
theorem d_M_drop_8 : decode b_M_drop 8 = .ok (.aload_n 0, 1) := by decide +kernel
theorem d_M_drop_9 : decode b_M_drop 9 = .ok (.getfield 26, 3) := by decide +kernel
theorem d_M_drop_12 : decode b_M_drop 12 = .ok (.iload_n 1, 1) := by decide +kernel
theorem d_M_drop_13 : decode b_M_drop 13 = .ok (.iconst 0, 1) := by decide +kernel
theorem d_M_drop_14 : decode b_M_drop 14 = .ok (.bastore, 1) := by decide +kernel
theorem d_M_drop_15 : decode b_M_drop 15 = .ok (.aload_n 0, 1) := by decide +kernel
theorem d_M_drop_16 : decode b_M_drop 16 = .ok (.getfield 30, 3) := by decide +kernel
theorem d_M_drop_19 : decode b_M_drop 19 = .ok (.iload_n 1, 1) := by decide +kernel
theorem d_M_drop_20 : decode b_M_drop 20 = .ok (.iconst 0, 1) := by decide +kernel
theorem d_M_drop_21 : decode b_M_drop 21 = .ok (.bastore, 1) := by decide +kernel
theorem d_M_drop_22 : decode b_M_drop 22 = .ok (.iinc 1 1, 3) := by decide +kernel
theorem d_M_drop_25 : decode b_M_drop 25 = .ok (.goto (-23), 3) := by decide +kernel
theorem d_M_drop_28 : decode b_M_drop 28 = .ok (.return_, 1) := by decide +kernel
theorem d_M_write_0 : decode b_M_write 0 = .ok (.aload_n 0, 1) := by decide +kernel
theorem d_M_write_1 : decode b_M_write 1 = .ok (.iconst 0, 1) := by decide +kernel
theorem d_M_write_2 : decode b_M_write 2 = .ok (.putfield 53, 3) := by decide +kernel
theorem d_M_write_5 : decode b_M_write 5 = .ok (.aload_n 0, 1) := by decide +kernel
theorem d_M_write_6 : decode b_M_write 6 = .ok (.getfield 60, 3) := by decide +kernel
theorem d_M_write_9 : decode b_M_write 9 = .ok (.ifCond .eq 5, 3) := by decide +kernel
theorem d_M_write_12 : decode b_M_write 12 = .ok (.iconst (-1), 1) := by decide +kernel
theorem d_M_write_13 : decode b_M_write 13 = .ok (.ireturn, 1) := by decide +kernel
theorem d_M_write_14 : decode b_M_write 14 = .ok (.aload_n 0, 1) := by decide +kernel
theorem d_M_write_15 : decode b_M_write 15 = .ok (.iload_n 1, 1) := by decide +kernel
theorem d_M_write_16 : decode b_M_write 16 = .ok (.invokevirtual 89, 3) := by decide +kernel
theorem d_M_write_19 : decode b_M_write 19 = .ok (.ifCond .ne 41, 3) := by decide +kernel
theorem d_M_write_22 : decode b_M_write 22 = .ok (.iload_n 3, 1) := by decide +kernel
theorem d_M_write_23 : decode b_M_write 23 = .ok (.iconst 1, 1) := by decide +kernel
theorem d_M_write_24 : decode b_M_write 24 = .ok (.if_icmp .lt 36, 3) := by decide +kernel
theorem d_M_write_27 : decode b_M_write 27 = .ok (.iload_n 3, 1) := by decide +kernel
theorem d_M_write_28 : decode b_M_write 28 = .ok (.sipush 256, 3) := by decide +kernel
theorem d_M_write_31 : decode b_M_write 31 = .ok (.if_icmp .gt 29, 3) := by decide +kernel
theorem d_M_write_34 : decode b_M_write 34 = .ok (.iload_n 2, 1) := by decide +kernel
theorem d_M_write_35 : decode b_M_write 35 = .ok (.ifCond .lt 25, 3) := by decide +kernel
theorem d_M_write_38 : decode b_M_write 38 = .ok (.iload_n 2, 1) := by decide +kernel
theorem d_M_write_39 : decode b_M_write 39 = .ok (.sipush 256, 3) := by decide +kernel
theorem d_M_write_42 : decode b_M_write 42 = .ok (.iload_n 3, 1) := by decide +kernel
theorem d_M_write_43 : decode b_M_write 43 = .ok (.isub, 1) := by decide +kernel
theorem d_M_write_44 : decode b_M_write 44 = .ok (.if_icmp .gt 16, 3) := by decide +kernel
theorem d_M_write_47 : decode b_M_write 47 = .ok (.iload 4, 2) := by decide +kernel
theorem d_M_write_49 : decode b_M_write 49 = .ok (.ifCond .lt 11, 3) := by decide +kernel
theorem d_M_write_52 : decode b_M_write 52 = .ok (.iload 4, 2) := by decide +kernel
theorem d_M_write_54 : decode b_M_write 54 = .ok (.sipush 255, 3) := by decide +kernel
theorem d_M_write_57 : decode b_M_write 57 = .ok (.if_icmp .le 7, 3) := by decide +kernel
theorem d_M_write_60 : decode b_M_write 60 = .ok (.iconst 1, 1) := by decide +kernel
theorem d_M_write_61 : decode b_M_write 61 = .ok (.goto 4, 3) := by decide +kernel
theorem d_M_write_64 : decode b_M_write 64 = .ok (.iconst 0, 1) := by decide +kernel
theorem d_M_write_65 : decode b_M_write 65 = .ok (.istore 5, 2) := by decide +kernel
theorem d_M_write_67 : decode b_M_write 67 = .ok (.iload 5, 2) := by decide +kernel
theorem d_M_write_69 : decode b_M_write 69 = .ok (.ifCond .ne 25, 3) := by decide +kernel
theorem d_M_write_72 : decode b_M_write 72 = .ok (.aload_n 0, 1) := by decide +kernel
theorem d_M_write_73 : decode b_M_write 73 = .ok (.getfield 26, 3) := by decide +kernel
theorem d_M_write_76 : decode b_M_write 76 = .ok (.iload_n 1, 1) := by decide +kernel
theorem d_M_write_77 : decode b_M_write 77 = .ok (.baload, 1) := by decide +kernel
theorem d_M_write_78 : decode b_M_write 78 = .ok (.ifCond .ne 19, 3) := by decide +kernel
theorem d_M_write_81 : decode b_M_write 81 = .ok (.aload_n 0, 1) := by decide +kernel
theorem d_M_write_82 : decode b_M_write 82 = .ok (.aload_n 0, 1) := by decide +kernel
theorem d_M_write_83 : decode b_M_write 83 = .ok (.getfield 26, 3) := by decide +kernel
theorem d_M_write_86 : decode b_M_write 86 = .ok (.invokevirtual 93, 3) := by decide +kernel
theorem d_M_write_89 : decode b_M_write 89 = .ok (.bipush 30, 2) := by decide +kernel
theorem d_M_write_91 : decode b_M_write 91 = .ok (.if_icmp .ne 6, 3) := by decide +kernel
theorem d_M_write_94 : decode b_M_write 94 = .ok (.bipush (-2), 2) := by decide +kernel
theorem d_M_write_96 : decode b_M_write 96 = .ok (.ireturn, 1) := by decide +kernel
theorem d_M_write_97 : decode b_M_write 97 = .ok (.iconst 0, 1) := by decide +kernel
theorem d_M_write_98 : decode b_M_write 98 = .ok (.istore 6, 2) := by decide +kernel
theorem d_M_write_100 : decode b_M_write 100 = .ok (.iload 6, 2) := by decide +kernel
theorem d_M_write_102 : decode b_M_write 102 = .ok (.iload_n 3, 1) := by decide +kernel
theorem d_M_write_103 : decode b_M_write 103 = .ok (.if_icmp .ge 27, 3) := by decide +kernel
theorem d_M_write_106 : decode b_M_write 106 = .ok (.aload_n 0, 1) := by decide +kernel
theorem d_M_write_107 : decode b_M_write 107 = .ok (.getfield 16, 3) := by decide +kernel
theorem d_M_write_110 : decode b_M_write 110 = .ok (.sipush 256, 3) := by decide +kernel
theorem d_M_write_113 : decode b_M_write 113 = .ok (.iload_n 1, 1) := by decide +kernel
theorem d_M_write_114 : decode b_M_write 114 = .ok (.imul, 1) := by decide +kernel
theorem d_M_write_115 : decode b_M_write 115 = .ok (.iload_n 2, 1) := by decide +kernel
theorem d_M_write_116 : decode b_M_write 116 = .ok (.iadd, 1) := by decide +kernel
theorem d_M_write_117 : decode b_M_write 117 = .ok (.iload 6, 2) := by decide +kernel
theorem d_M_write_119 : decode b_M_write 119 = .ok (.iadd, 1) := by decide +kernel
theorem d_M_write_120 : decode b_M_write 120 = .ok (.iload 4, 2) := by decide +kernel
theorem d_M_write_122 : decode b_M_write 122 = .ok (.i2b, 1) := by decide +kernel
theorem d_M_write_123 : decode b_M_write 123 = .ok (.bastore, 1) := by decide +kernel
theorem d_M_write_124 : decode b_M_write 124 = .ok (.iinc 6 1, 3) := by decide +kernel
theorem d_M_write_127 : decode b_M_write 127 = .ok (.goto (-27), 3) := by decide +kernel
theorem d_M_write_130 : decode b_M_write 130 = .ok (.aload_n 0, 1) := by decide +kernel
theorem d_M_write_131 : decode b_M_write 131 = .ok (.getfield 26, 3) := by decide +kernel
theorem d_M_write_134 : decode b_M_write 134 = .ok (.iload_n 1, 1) := by decide +kernel
theorem d_M_write_135 : decode b_M_write 135 = .ok (.iconst 1, 1) := by decide +kernel
theorem d_M_write_136 : decode b_M_write 136 = .ok (.bastore, 1) := by decide +kernel
theorem d_M_write_137 : decode b_M_write 137 = .ok (.aload_n 0, 1) := by decide +kernel
theorem d_M_write_138 : decode b_M_write 138 = .ok (.getfield 30, 3) := by decide +kernel
theorem d_M_write_141 : decode b_M_write 141 = .ok (.iload_n 1, 1) := by decide +kernel
theorem d_M_write_142 : decode b_M_write 142 = .ok (.iconst 0, 1) := by decide +kernel
theorem d_M_write_143 : decode b_M_write 143 = .ok (.bastore, 1) := by decide +kernel
theorem d_M_write_144 : decode b_M_write 144 = .ok (.aload_n 0, 1) := by decide +kernel
theorem d_M_write_145 : decode b_M_write 145 = .ok (.aload_n 0, 1) := by decide +kernel
theorem d_M_write_146 : decode b_M_write 146 = .ok (.getfield 26, 3) := by decide +kernel
theorem d_M_write_149 : decode b_M_write 149 = .ok (.invokevirtual 93, 3) := by decide +kernel
theorem d_M_write_152 : decode b_M_write 152 = .ok (.ireturn, 1) := by decide +kernel
theorem d_M_noBlock_0 : decode b_M_noBlock 0 = .ok (.iload_n 1, 1) := by decide +kernel
theorem d_M_noBlock_1 : decode b_M_noBlock 1 = .ok (.ifCond .lt 9, 3) := by decide +kernel
theorem d_M_noBlock_4 : decode b_M_noBlock 4 = .ok (.iload_n 1, 1) := by decide +kernel
theorem d_M_noBlock_5 : decode b_M_noBlock 5 = .ok (.bipush 64, 2) := by decide +kernel
theorem d_M_noBlock_7 : decode b_M_noBlock 7 = .ok (.if_icmp .lt 7, 3) := by decide +kernel
theorem d_M_noBlock_10 : decode b_M_noBlock 10 = .ok (.iconst 1, 1) := by decide +kernel
theorem d_M_noBlock_11 : decode b_M_noBlock 11 = .ok (.goto 4, 3) := by decide +kernel
theorem d_M_noBlock_14 : decode b_M_noBlock 14 = .ok (.iconst 0, 1) := by decide +kernel
theorem d_M_noBlock_15 : decode b_M_noBlock 15 = .ok (.ireturn, 1) := by decide +kernel
theorem d_M_size_0 : decode b_M_size 0 = .ok (.iconst 0, 1) := by decide +kernel
theorem d_M_size_1 : decode b_M_size 1 = .ok (.istore_n 2, 1) := by decide +kernel
theorem d_M_size_2 : decode b_M_size 2 = .ok (.iconst 0, 1) := by decide +kernel
theorem d_M_size_3 : decode b_M_size 3 = .ok (.istore_n 3, 1) := by decide +kernel
theorem d_M_size_4 : decode b_M_size 4 = .ok (.iload_n 3, 1) := by decide +kernel
theorem d_M_size_5 : decode b_M_size 5 = .ok (.bipush 64, 2) := by decide +kernel
theorem d_M_size_7 : decode b_M_size 7 = .ok (.if_icmp .ge 23, 3) := by decide +kernel
theorem d_M_size_10 : decode b_M_size 10 = .ok (.iload_n 2, 1) := by decide +kernel
theorem d_M_size_11 : decode b_M_size 11 = .ok (.aload_n 1, 1) := by decide +kernel
theorem d_M_size_12 : decode b_M_size 12 = .ok (.iload_n 3, 1) := by decide +kernel
theorem d_M_size_13 : decode b_M_size 13 = .ok (.baload, 1) := by decide +kernel
theorem d_M_size_14 : decode b_M_size 14 = .ok (.ifCond .eq 7, 3) := by decide +kernel
theorem d_M_size_17 : decode b_M_size 17 = .ok (.iconst 1, 1) := by decide +kernel
theorem d_M_size_18 : decode b_M_size 18 = .ok (.goto 4, 3) := by decide +kernel
theorem d_M_size_21 : decode b_M_size 21 = .ok (.iconst 0, 1) := by decide +kernel
theorem d_M_size_22 : decode b_M_size 22 = .ok (.iadd, 1) := by decide +kernel
theorem d_M_size_23 : decode b_M_size 23 = .ok (.istore_n 2, 1) := by decide +kernel
theorem d_M_size_24 : decode b_M_size 24 = .ok (.iinc 3 1, 3) := by decide +kernel
theorem d_M_size_27 : decode b_M_size 27 = .ok (.goto (-23), 3) := by decide +kernel
theorem d_M_size_30 : decode b_M_size 30 = .ok (.iload_n 2, 1) := by decide +kernel
theorem d_M_size_31 : decode b_M_size 31 = .ok (.ireturn, 1) := by decide +kernel
theorem d_M_read_0 : decode b_M_read 0 = .ok (.aload_n 0, 1) := by decide +kernel
theorem d_M_read_1 : decode b_M_read 1 = .ok (.iconst 0, 1) := by decide +kernel
theorem d_M_read_2 : decode b_M_read 2 = .ok (.putfield 53, 3) := by decide +kernel
theorem d_M_read_5 : decode b_M_read 5 = .ok (.aload_n 0, 1) := by decide +kernel
theorem d_M_read_6 : decode b_M_read 6 = .ok (.getfield 60, 3) := by decide +kernel
theorem d_M_read_9 : decode b_M_read 9 = .ok (.ifCond .eq 7, 3) := by decide +kernel
theorem d_M_read_12 : decode b_M_read 12 = .ok (.iconst (-1), 1) := by decide +kernel
theorem d_M_read_13 : decode b_M_read 13 = .ok (.goto 43, 3) := by decide +kernel
theorem d_M_read_16 : decode b_M_read 16 = .ok (.aload_n 0, 1) := by decide +kernel
theorem d_M_read_17 : decode b_M_read 17 = .ok (.iload_n 1, 1) := by decide +kernel
theorem d_M_read_18 : decode b_M_read 18 = .ok (.invokevirtual 89, 3) := by decide +kernel
theorem d_M_read_21 : decode b_M_read 21 = .ok (.ifCond .ne 14, 3) := by decide +kernel
theorem d_M_read_24 : decode b_M_read 24 = .ok (.iload_n 2, 1) := by decide +kernel
theorem d_M_read_25 : decode b_M_read 25 = .ok (.ifCond .lt 10, 3) := by decide +kernel
theorem d_M_read_28 : decode b_M_read 28 = .ok (.iload_n 2, 1) := by decide +kernel
theorem d_M_read_29 : decode b_M_read 29 = .ok (.sipush 256, 3) := by decide +kernel
theorem d_M_read_32 : decode b_M_read 32 = .ok (.if_icmp .lt 8, 3) := by decide +kernel
theorem d_M_read_35 : decode b_M_read 35 = .ok (.bipush (-2), 2) := by decide +kernel
theorem d_M_read_37 : decode b_M_read 37 = .ok (.goto 19, 3) := by decide +kernel
theorem d_M_read_40 : decode b_M_read 40 = .ok (.aload_n 0, 1) := by decide +kernel
theorem d_M_read_41 : decode b_M_read 41 = .ok (.getfield 16, 3) := by decide +kernel
theorem d_M_read_44 : decode b_M_read 44 = .ok (.sipush 256, 3) := by decide +kernel
theorem d_M_read_47 : decode b_M_read 47 = .ok (.iload_n 1, 1) := by decide +kernel
theorem d_M_read_48 : decode b_M_read 48 = .ok (.imul, 1) := by decide +kernel
theorem d_M_read_49 : decode b_M_read 49 = .ok (.iload_n 2, 1) := by decide +kernel
theorem d_M_read_50 : decode b_M_read 50 = .ok (.iadd, 1) := by decide +kernel
theorem d_M_read_51 : decode b_M_read 51 = .ok (.baload, 1) := by decide +kernel
theorem d_M_read_52 : decode b_M_read 52 = .ok (.sipush 255, 3) := by decide +kernel
theorem d_M_read_55 : decode b_M_read 55 = .ok (.iand, 1) := by decide +kernel
theorem d_M_read_56 : decode b_M_read 56 = .ok (.ireturn, 1) := by decide +kernel
theorem d_M_forget_0 : decode b_M_forget 0 = .ok (.aload_n 0, 1) := by decide +kernel
theorem d_M_forget_1 : decode b_M_forget 1 = .ok (.iconst 0, 1) := by decide +kernel
theorem d_M_forget_2 : decode b_M_forget 2 = .ok (.putfield 53, 3) := by decide +kernel
theorem d_M_forget_5 : decode b_M_forget 5 = .ok (.aload_n 0, 1) := by decide +kernel
theorem d_M_forget_6 : decode b_M_forget 6 = .ok (.getfield 60, 3) := by decide +kernel
theorem d_M_forget_9 : decode b_M_forget 9 = .ok (.ifCond .eq 5, 3) := by decide +kernel
theorem d_M_forget_12 : decode b_M_forget 12 = .ok (.iconst (-1), 1) := by decide +kernel
theorem d_M_forget_13 : decode b_M_forget 13 = .ok (.ireturn, 1) := by decide +kernel
theorem d_M_forget_14 : decode b_M_forget 14 = .ok (.aload_n 0, 1) := by decide +kernel
theorem d_M_forget_15 : decode b_M_forget 15 = .ok (.iload_n 1, 1) := by decide +kernel
theorem d_M_forget_16 : decode b_M_forget 16 = .ok (.invokevirtual 89, 3) := by decide +kernel
theorem d_M_forget_19 : decode b_M_forget 19 = .ok (.ifCond .ne 25, 3) := by decide +kernel
theorem d_M_forget_22 : decode b_M_forget 22 = .ok (.aload_n 0, 1) := by decide +kernel
theorem d_M_forget_23 : decode b_M_forget 23 = .ok (.getfield 30, 3) := by decide +kernel
theorem d_M_forget_26 : decode b_M_forget 26 = .ok (.iload_n 1, 1) := by decide +kernel
theorem d_M_forget_27 : decode b_M_forget 27 = .ok (.baload, 1) := by decide +kernel
theorem d_M_forget_28 : decode b_M_forget 28 = .ok (.ifCond .ne 19, 3) := by decide +kernel
theorem d_M_forget_31 : decode b_M_forget 31 = .ok (.aload_n 0, 1) := by decide +kernel
theorem d_M_forget_32 : decode b_M_forget 32 = .ok (.aload_n 0, 1) := by decide +kernel
theorem d_M_forget_33 : decode b_M_forget 33 = .ok (.getfield 30, 3) := by decide +kernel
theorem d_M_forget_36 : decode b_M_forget 36 = .ok (.invokevirtual 93, 3) := by decide +kernel
theorem d_M_forget_39 : decode b_M_forget 39 = .ok (.bipush 30, 2) := by decide +kernel
theorem d_M_forget_41 : decode b_M_forget 41 = .ok (.if_icmp .ne 6, 3) := by decide +kernel
theorem d_M_forget_44 : decode b_M_forget 44 = .ok (.bipush (-2), 2) := by decide +kernel
theorem d_M_forget_46 : decode b_M_forget 46 = .ok (.ireturn, 1) := by decide +kernel
theorem d_M_forget_47 : decode b_M_forget 47 = .ok (.aload_n 0, 1) := by decide +kernel
theorem d_M_forget_48 : decode b_M_forget 48 = .ok (.getfield 26, 3) := by decide +kernel
theorem d_M_forget_51 : decode b_M_forget 51 = .ok (.iload_n 1, 1) := by decide +kernel
theorem d_M_forget_52 : decode b_M_forget 52 = .ok (.iconst 0, 1) := by decide +kernel
theorem d_M_forget_53 : decode b_M_forget 53 = .ok (.bastore, 1) := by decide +kernel
theorem d_M_forget_54 : decode b_M_forget 54 = .ok (.aload_n 0, 1) := by decide +kernel
theorem d_M_forget_55 : decode b_M_forget 55 = .ok (.getfield 30, 3) := by decide +kernel
theorem d_M_forget_58 : decode b_M_forget 58 = .ok (.iload_n 1, 1) := by decide +kernel
theorem d_M_forget_59 : decode b_M_forget 59 = .ok (.iconst 1, 1) := by decide +kernel
theorem d_M_forget_60 : decode b_M_forget 60 = .ok (.bastore, 1) := by decide +kernel
theorem d_M_forget_61 : decode b_M_forget 61 = .ok (.aload_n 0, 1) := by decide +kernel
theorem d_M_forget_62 : decode b_M_forget 62 = .ok (.aload_n 0, 1) := by decide +kernel
theorem d_M_forget_63 : decode b_M_forget 63 = .ok (.getfield 7, 3) := by decide +kernel
theorem d_M_forget_66 : decode b_M_forget 66 = .ok (.sipush 256, 3) := by decide +kernel
theorem d_M_forget_69 : decode b_M_forget 69 = .ok (.iload_n 1, 1) := by decide +kernel
theorem d_M_forget_70 : decode b_M_forget 70 = .ok (.imul, 1) := by decide +kernel
theorem d_M_forget_71 : decode b_M_forget 71 = .ok (.aload_n 0, 1) := by decide +kernel
theorem d_M_forget_72 : decode b_M_forget 72 = .ok (.getfield 16, 3) := by decide +kernel
theorem d_M_forget_75 : decode b_M_forget 75 = .ok (.sipush 256, 3) := by decide +kernel
theorem d_M_forget_78 : decode b_M_forget 78 = .ok (.iload_n 1, 1) := by decide +kernel
theorem d_M_forget_79 : decode b_M_forget 79 = .ok (.imul, 1) := by decide +kernel
theorem d_M_forget_80 : decode b_M_forget 80 = .ok (.sipush 256, 3) := by decide +kernel
theorem d_M_forget_83 : decode b_M_forget 83 = .ok (.invokevirtual 85, 3) := by decide +kernel
theorem d_M_forget_86 : decode b_M_forget 86 = .ok (.aload_n 0, 1) := by decide +kernel
theorem d_M_forget_87 : decode b_M_forget 87 = .ok (.aload_n 0, 1) := by decide +kernel
theorem d_M_forget_88 : decode b_M_forget 88 = .ok (.getfield 30, 3) := by decide +kernel
theorem d_M_forget_91 : decode b_M_forget 91 = .ok (.invokevirtual 93, 3) := by decide +kernel
theorem d_M_forget_94 : decode b_M_forget 94 = .ok (.ireturn, 1) := by decide +kernel
theorem d_M_copy_0 : decode b_M_copy 0 = .ok (.iconst 0, 1) := by decide +kernel
theorem d_M_copy_1 : decode b_M_copy 1 = .ok (.istore 6, 2) := by decide +kernel
theorem d_M_copy_3 : decode b_M_copy 3 = .ok (.iload 6, 2) := by decide +kernel
theorem d_M_copy_5 : decode b_M_copy 5 = .ok (.iload 5, 2) := by decide +kernel
theorem d_M_copy_7 : decode b_M_copy 7 = .ok (.if_icmp .ge 22, 3) := by decide +kernel
theorem d_M_copy_10 : decode b_M_copy 10 = .ok (.aload_n 3, 1) := by decide +kernel
theorem d_M_copy_11 : decode b_M_copy 11 = .ok (.iload 4, 2) := by decide +kernel
theorem d_M_copy_13 : decode b_M_copy 13 = .ok (.iload 6, 2) := by decide +kernel
theorem d_M_copy_15 : decode b_M_copy 15 = .ok (.iadd, 1) := by decide +kernel
theorem d_M_copy_16 : decode b_M_copy 16 = .ok (.aload_n 1, 1) := by decide +kernel
theorem d_M_copy_17 : decode b_M_copy 17 = .ok (.iload_n 2, 1) := by decide +kernel
theorem d_M_copy_18 : decode b_M_copy 18 = .ok (.iload 6, 2) := by decide +kernel
theorem d_M_copy_20 : decode b_M_copy 20 = .ok (.iadd, 1) := by decide +kernel
theorem d_M_copy_21 : decode b_M_copy 21 = .ok (.baload, 1) := by decide +kernel
theorem d_M_copy_22 : decode b_M_copy 22 = .ok (.bastore, 1) := by decide +kernel
theorem d_M_copy_23 : decode b_M_copy 23 = .ok (.iinc 6 1, 3) := by decide +kernel
theorem d_M_copy_26 : decode b_M_copy 26 = .ok (.goto (-23), 3) := by decide +kernel
theorem d_M_copy_29 : decode b_M_copy 29 = .ok (.return_, 1) := by decide +kernel
theorem d_M_direct_0 : decode b_M_direct 0 = .ok (.aload_n 0, 1) := by decide +kernel
theorem d_M_direct_1 : decode b_M_direct 1 = .ok (.iconst 0, 1) := by decide +kernel
theorem d_M_direct_2 : decode b_M_direct 2 = .ok (.putfield 53, 3) := by decide +kernel
theorem d_M_direct_5 : decode b_M_direct 5 = .ok (.aload_n 0, 1) := by decide +kernel
theorem d_M_direct_6 : decode b_M_direct 6 = .ok (.getfield 60, 3) := by decide +kernel
theorem d_M_direct_9 : decode b_M_direct 9 = .ok (.ifCond .eq 5, 3) := by decide +kernel
theorem d_M_direct_12 : decode b_M_direct 12 = .ok (.iconst (-1), 1) := by decide +kernel
theorem d_M_direct_13 : decode b_M_direct 13 = .ok (.ireturn, 1) := by decide +kernel
theorem d_M_direct_14 : decode b_M_direct 14 = .ok (.aload_n 0, 1) := by decide +kernel
theorem d_M_direct_15 : decode b_M_direct 15 = .ok (.iload_n 1, 1) := by decide +kernel
theorem d_M_direct_16 : decode b_M_direct 16 = .ok (.invokevirtual 89, 3) := by decide +kernel
theorem d_M_direct_19 : decode b_M_direct 19 = .ok (.ifCond .ne 40, 3) := by decide +kernel
theorem d_M_direct_22 : decode b_M_direct 22 = .ok (.iload_n 2, 1) := by decide +kernel
theorem d_M_direct_23 : decode b_M_direct 23 = .ok (.ifCond .lt 36, 3) := by decide +kernel
theorem d_M_direct_26 : decode b_M_direct 26 = .ok (.iload_n 2, 1) := by decide +kernel
theorem d_M_direct_27 : decode b_M_direct 27 = .ok (.sipush 255, 3) := by decide +kernel
theorem d_M_direct_30 : decode b_M_direct 30 = .ok (.if_icmp .gt 29, 3) := by decide +kernel
theorem d_M_direct_33 : decode b_M_direct 33 = .ok (.aload_n 0, 1) := by decide +kernel
theorem d_M_direct_34 : decode b_M_direct 34 = .ok (.getfield 26, 3) := by decide +kernel
theorem d_M_direct_37 : decode b_M_direct 37 = .ok (.iload_n 1, 1) := by decide +kernel
theorem d_M_direct_38 : decode b_M_direct 38 = .ok (.baload, 1) := by decide +kernel
theorem d_M_direct_39 : decode b_M_direct 39 = .ok (.ifCond .ne 20, 3) := by decide +kernel
theorem d_M_direct_42 : decode b_M_direct 42 = .ok (.aload_n 0, 1) := by decide +kernel
theorem d_M_direct_43 : decode b_M_direct 43 = .ok (.getfield 30, 3) := by decide +kernel
theorem d_M_direct_46 : decode b_M_direct 46 = .ok (.iload_n 1, 1) := by decide +kernel
theorem d_M_direct_47 : decode b_M_direct 47 = .ok (.baload, 1) := by decide +kernel
theorem d_M_direct_48 : decode b_M_direct 48 = .ok (.ifCond .ne 11, 3) := by decide +kernel
theorem d_M_direct_51 : decode b_M_direct 51 = .ok (.aload_n 0, 1) := by decide +kernel
theorem d_M_direct_52 : decode b_M_direct 52 = .ok (.iload_n 1, 1) := by decide +kernel
theorem d_M_direct_53 : decode b_M_direct 53 = .ok (.invokevirtual 97, 3) := by decide +kernel
theorem d_M_direct_56 : decode b_M_direct 56 = .ok (.ifCond .lt 6, 3) := by decide +kernel
theorem d_M_direct_59 : decode b_M_direct 59 = .ok (.bipush (-2), 2) := by decide +kernel
theorem d_M_direct_61 : decode b_M_direct 61 = .ok (.ireturn, 1) := by decide +kernel
theorem d_M_direct_62 : decode b_M_direct 62 = .ok (.aload_n 0, 1) := by decide +kernel
theorem d_M_direct_63 : decode b_M_direct 63 = .ok (.iconst 4, 1) := by decide +kernel
theorem d_M_direct_64 : decode b_M_direct 64 = .ok (.iconst 0, 1) := by decide +kernel
theorem d_M_direct_65 : decode b_M_direct 65 = .ok (.invokevirtual 100, 3) := by decide +kernel
theorem d_M_direct_68 : decode b_M_direct 68 = .ok (.ifCond .eq 12, 3) := by decide +kernel
theorem d_M_direct_71 : decode b_M_direct 71 = .ok (.aload_n 0, 1) := by decide +kernel
theorem d_M_direct_72 : decode b_M_direct 72 = .ok (.iconst 0, 1) := by decide +kernel
theorem d_M_direct_73 : decode b_M_direct 73 = .ok (.iload_n 1, 1) := by decide +kernel
theorem d_M_direct_74 : decode b_M_direct 74 = .ok (.invokevirtual 100, 3) := by decide +kernel
theorem d_M_direct_77 : decode b_M_direct 77 = .ok (.ifCond .ne 5, 3) := by decide +kernel
theorem d_M_direct_80 : decode b_M_direct 80 = .ok (.iconst (-1), 1) := by decide +kernel
theorem d_M_direct_81 : decode b_M_direct 81 = .ok (.ireturn, 1) := by decide +kernel
theorem d_M_direct_82 : decode b_M_direct 82 = .ok (.iconst 0, 1) := by decide +kernel
theorem d_M_direct_83 : decode b_M_direct 83 = .ok (.istore_n 3, 1) := by decide +kernel
theorem d_M_direct_84 : decode b_M_direct 84 = .ok (.iload_n 3, 1) := by decide +kernel
theorem d_M_direct_85 : decode b_M_direct 85 = .ok (.sipush 256, 3) := by decide +kernel
theorem d_M_direct_88 : decode b_M_direct 88 = .ok (.if_icmp .ge 37, 3) := by decide +kernel
theorem d_M_direct_91 : decode b_M_direct 91 = .ok (.aload_n 0, 1) := by decide +kernel
theorem d_M_direct_92 : decode b_M_direct 92 = .ok (.getfield 7, 3) := by decide +kernel
theorem d_M_direct_95 : decode b_M_direct 95 = .ok (.sipush 256, 3) := by decide +kernel
theorem d_M_direct_98 : decode b_M_direct 98 = .ok (.iload_n 1, 1) := by decide +kernel
theorem d_M_direct_99 : decode b_M_direct 99 = .ok (.imul, 1) := by decide +kernel
theorem d_M_direct_100 : decode b_M_direct 100 = .ok (.iload_n 3, 1) := by decide +kernel
theorem d_M_direct_101 : decode b_M_direct 101 = .ok (.iadd, 1) := by decide +kernel
theorem d_M_direct_102 : decode b_M_direct 102 = .ok (.iload_n 2, 1) := by decide +kernel
theorem d_M_direct_103 : decode b_M_direct 103 = .ok (.i2b, 1) := by decide +kernel
theorem d_M_direct_104 : decode b_M_direct 104 = .ok (.bastore, 1) := by decide +kernel
theorem d_M_direct_105 : decode b_M_direct 105 = .ok (.aload_n 0, 1) := by decide +kernel
theorem d_M_direct_106 : decode b_M_direct 106 = .ok (.getfield 16, 3) := by decide +kernel
theorem d_M_direct_109 : decode b_M_direct 109 = .ok (.sipush 256, 3) := by decide +kernel
theorem d_M_direct_112 : decode b_M_direct 112 = .ok (.iload_n 1, 1) := by decide +kernel
theorem d_M_direct_113 : decode b_M_direct 113 = .ok (.imul, 1) := by decide +kernel
theorem d_M_direct_114 : decode b_M_direct 114 = .ok (.iload_n 3, 1) := by decide +kernel
theorem d_M_direct_115 : decode b_M_direct 115 = .ok (.iadd, 1) := by decide +kernel
theorem d_M_direct_116 : decode b_M_direct 116 = .ok (.iload_n 2, 1) := by decide +kernel
theorem d_M_direct_117 : decode b_M_direct 117 = .ok (.i2b, 1) := by decide +kernel
theorem d_M_direct_118 : decode b_M_direct 118 = .ok (.bastore, 1) := by decide +kernel
theorem d_M_direct_119 : decode b_M_direct 119 = .ok (.iinc 3 1, 3) := by decide +kernel
theorem d_M_direct_122 : decode b_M_direct 122 = .ok (.goto (-38), 3) := by decide +kernel
theorem d_M_direct_125 : decode b_M_direct 125 = .ok (.aload_n 0, 1) := by decide +kernel
theorem d_M_direct_126 : decode b_M_direct 126 = .ok (.iconst 4, 1) := by decide +kernel
theorem d_M_direct_127 : decode b_M_direct 127 = .ok (.iconst 0, 1) := by decide +kernel
theorem d_M_direct_128 : decode b_M_direct 128 = .ok (.invokevirtual 100, 3) := by decide +kernel
theorem d_M_direct_131 : decode b_M_direct 131 = .ok (.ifCond .eq 7, 3) := by decide +kernel
theorem d_M_direct_134 : decode b_M_direct 134 = .ok (.iconst 0, 1) := by decide +kernel
theorem d_M_direct_135 : decode b_M_direct 135 = .ok (.goto 4, 3) := by decide +kernel
theorem d_M_direct_138 : decode b_M_direct 138 = .ok (.iconst (-1), 1) := by decide +kernel
theorem d_M_direct_139 : decode b_M_direct 139 = .ok (.ireturn, 1) := by decide +kernel
theorem d_M_told_0 : decode b_M_told 0 = .ok (.aload_n 0, 1) := by decide +kernel
theorem d_M_told_1 : decode b_M_told 1 = .ok (.getfield 73, 3) := by decide +kernel
theorem d_M_told_4 : decode b_M_told 4 = .ok (.iconst 1, 1) := by decide +kernel
theorem d_M_told_5 : decode b_M_told 5 = .ok (.isub, 1) := by decide +kernel
theorem d_M_told_6 : decode b_M_told 6 = .ok (.istore_n 2, 1) := by decide +kernel
theorem d_M_told_7 : decode b_M_told 7 = .ok (.iload_n 2, 1) := by decide +kernel
theorem d_M_told_8 : decode b_M_told 8 = .ok (.ifCond .lt 62, 3) := by decide +kernel
theorem d_M_told_11 : decode b_M_told 11 = .ok (.aload_n 0, 1) := by decide +kernel
theorem d_M_told_12 : decode b_M_told 12 = .ok (.getfield 39, 3) := by decide +kernel
theorem d_M_told_15 : decode b_M_told 15 = .ok (.bipush 64, 2) := by decide +kernel
theorem d_M_told_17 : decode b_M_told 17 = .ok (.iload_n 2, 1) := by decide +kernel
theorem d_M_told_18 : decode b_M_told 18 = .ok (.imul, 1) := by decide +kernel
theorem d_M_told_19 : decode b_M_told 19 = .ok (.iload_n 1, 1) := by decide +kernel
theorem d_M_told_20 : decode b_M_told 20 = .ok (.iadd, 1) := by decide +kernel
theorem d_M_told_21 : decode b_M_told 21 = .ok (.baload, 1) := by decide +kernel
theorem d_M_told_22 : decode b_M_told 22 = .ok (.ifCond .eq 5, 3) := by decide +kernel
theorem d_M_told_25 : decode b_M_told 25 = .ok (.iconst (-1), 1) := by decide +kernel
theorem d_M_told_26 : decode b_M_told 26 = .ok (.ireturn, 1) := by decide +kernel
theorem d_M_told_27 : decode b_M_told 27 = .ok (.aload_n 0, 1) := by decide +kernel
theorem d_M_told_28 : decode b_M_told 28 = .ok (.getfield 33, 3) := by decide +kernel
theorem d_M_told_31 : decode b_M_told 31 = .ok (.iload_n 2, 1) := by decide +kernel
theorem d_M_told_32 : decode b_M_told 32 = .ok (.iaload, 1) := by decide +kernel
theorem d_M_told_33 : decode b_M_told 33 = .ok (.istore_n 3, 1) := by decide +kernel
theorem d_M_told_34 : decode b_M_told 34 = .ok (.iload_n 3, 1) := by decide +kernel
theorem d_M_told_35 : decode b_M_told 35 = .ok (.aload_n 0, 1) := by decide +kernel
theorem d_M_told_36 : decode b_M_told 36 = .ok (.getfield 33, 3) := by decide +kernel
theorem d_M_told_39 : decode b_M_told 39 = .ok (.iload_n 2, 1) := by decide +kernel
theorem d_M_told_40 : decode b_M_told 40 = .ok (.iconst 1, 1) := by decide +kernel
theorem d_M_told_41 : decode b_M_told 41 = .ok (.iadd, 1) := by decide +kernel
theorem d_M_told_42 : decode b_M_told 42 = .ok (.iaload, 1) := by decide +kernel
theorem d_M_told_43 : decode b_M_told 43 = .ok (.if_icmp .ge 21, 3) := by decide +kernel
theorem d_M_told_46 : decode b_M_told 46 = .ok (.aload_n 0, 1) := by decide +kernel
theorem d_M_told_47 : decode b_M_told 47 = .ok (.getfield 42, 3) := by decide +kernel
theorem d_M_told_50 : decode b_M_told 50 = .ok (.iload_n 3, 1) := by decide +kernel
theorem d_M_told_51 : decode b_M_told 51 = .ok (.iaload, 1) := by decide +kernel
theorem d_M_told_52 : decode b_M_told 52 = .ok (.iload_n 1, 1) := by decide +kernel
theorem d_M_told_53 : decode b_M_told 53 = .ok (.if_icmp .ne 5, 3) := by decide +kernel
theorem d_M_told_56 : decode b_M_told 56 = .ok (.iload_n 3, 1) := by decide +kernel
theorem d_M_told_57 : decode b_M_told 57 = .ok (.ireturn, 1) := by decide +kernel
theorem d_M_told_58 : decode b_M_told 58 = .ok (.iinc 3 1, 3) := by decide +kernel
theorem d_M_told_61 : decode b_M_told 61 = .ok (.goto (-27), 3) := by decide +kernel
theorem d_M_told_64 : decode b_M_told 64 = .ok (.iinc 2 (-1), 3) := by decide +kernel
theorem d_M_told_67 : decode b_M_told 67 = .ok (.goto (-60), 3) := by decide +kernel
theorem d_M_told_70 : decode b_M_told 70 = .ok (.iconst (-1), 1) := by decide +kernel
theorem d_M_told_71 : decode b_M_told 71 = .ok (.ireturn, 1) := by decide +kernel
theorem d_M_step_0 : decode b_M_step 0 = .ok (.aload_n 0, 1) := by decide +kernel
theorem d_M_step_1 : decode b_M_step 1 = .ok (.getfield 64, 3) := by decide +kernel
theorem d_M_step_4 : decode b_M_step 4 = .ok (.ifCond .ne 14, 3) := by decide +kernel
theorem d_M_step_7 : decode b_M_step 7 = .ok (.aload_n 0, 1) := by decide +kernel
theorem d_M_step_8 : decode b_M_step 8 = .ok (.iconst (-1), 1) := by decide +kernel
theorem d_M_step_9 : decode b_M_step 9 = .ok (.putfield 64, 3) := by decide +kernel
theorem d_M_step_12 : decode b_M_step 12 = .ok (.aload_n 0, 1) := by decide +kernel
theorem d_M_step_13 : decode b_M_step 13 = .ok (.invokevirtual 79, 3) := by decide +kernel
theorem d_M_step_16 : decode b_M_step 16 = .ok (.iconst 0, 1) := by decide +kernel
theorem d_M_step_17 : decode b_M_step 17 = .ok (.ireturn, 1) := by decide +kernel
theorem d_M_step_18 : decode b_M_step 18 = .ok (.aload_n 0, 1) := by decide +kernel
theorem d_M_step_19 : decode b_M_step 19 = .ok (.aload_n 0, 1) := by decide +kernel
theorem d_M_step_20 : decode b_M_step 20 = .ok (.getfield 64, 3) := by decide +kernel
theorem d_M_step_23 : decode b_M_step 23 = .ok (.ifCond .le 12, 3) := by decide +kernel
theorem d_M_step_26 : decode b_M_step 26 = .ok (.aload_n 0, 1) := by decide +kernel
theorem d_M_step_27 : decode b_M_step 27 = .ok (.getfield 64, 3) := by decide +kernel
theorem d_M_step_30 : decode b_M_step 30 = .ok (.iconst 1, 1) := by decide +kernel
theorem d_M_step_31 : decode b_M_step 31 = .ok (.isub, 1) := by decide +kernel
theorem d_M_step_32 : decode b_M_step 32 = .ok (.goto 7, 3) := by decide +kernel
theorem d_M_step_35 : decode b_M_step 35 = .ok (.aload_n 0, 1) := by decide +kernel
theorem d_M_step_36 : decode b_M_step 36 = .ok (.getfield 64, 3) := by decide +kernel
theorem d_M_step_39 : decode b_M_step 39 = .ok (.putfield 64, 3) := by decide +kernel
theorem d_M_step_42 : decode b_M_step 42 = .ok (.aload_n 0, 1) := by decide +kernel
theorem d_M_step_43 : decode b_M_step 43 = .ok (.dup, 1) := by decide +kernel
theorem d_M_step_44 : decode b_M_step 44 = .ok (.getfield 67, 3) := by decide +kernel
theorem d_M_step_47 : decode b_M_step 47 = .ok (.iconst 1, 1) := by decide +kernel
theorem d_M_step_48 : decode b_M_step 48 = .ok (.iadd, 1) := by decide +kernel
theorem d_M_step_49 : decode b_M_step 49 = .ok (.putfield 67, 3) := by decide +kernel
theorem d_M_step_52 : decode b_M_step 52 = .ok (.iload_n 1, 1) := by decide +kernel
theorem d_M_step_53 : decode b_M_step 53 = .ok (.iconst 4, 1) := by decide +kernel
theorem d_M_step_54 : decode b_M_step 54 = .ok (.if_icmp .ne 9, 3) := by decide +kernel
theorem d_M_step_57 : decode b_M_step 57 = .ok (.aload_n 0, 1) := by decide +kernel
theorem d_M_step_58 : decode b_M_step 58 = .ok (.invokevirtual 82, 3) := by decide +kernel
theorem d_M_step_61 : decode b_M_step 61 = .ok (.iconst 1, 1) := by decide +kernel
theorem d_M_step_62 : decode b_M_step 62 = .ok (.ireturn, 1) := by decide +kernel
theorem d_M_step_63 : decode b_M_step 63 = .ok (.iconst 0, 1) := by decide +kernel
theorem d_M_step_64 : decode b_M_step 64 = .ok (.istore_n 3, 1) := by decide +kernel
theorem d_M_step_65 : decode b_M_step 65 = .ok (.iconst 0, 1) := by decide +kernel
theorem d_M_step_66 : decode b_M_step 66 = .ok (.istore 4, 2) := by decide +kernel
theorem d_M_step_68 : decode b_M_step 68 = .ok (.iload 4, 2) := by decide +kernel
theorem d_M_step_70 : decode b_M_step 70 = .ok (.aload_n 0, 1) := by decide +kernel
theorem d_M_step_71 : decode b_M_step 71 = .ok (.getfield 70, 3) := by decide +kernel
theorem d_M_step_74 : decode b_M_step 74 = .ok (.if_icmp .ge 44, 3) := by decide +kernel
theorem d_M_step_77 : decode b_M_step 77 = .ok (.iload_n 3, 1) := by decide +kernel
theorem d_M_step_78 : decode b_M_step 78 = .ok (.ifCond .ne 28, 3) := by decide +kernel
theorem d_M_step_81 : decode b_M_step 81 = .ok (.iload_n 1, 1) := by decide +kernel
theorem d_M_step_82 : decode b_M_step 82 = .ok (.ifCond .ne 28, 3) := by decide +kernel
theorem d_M_step_85 : decode b_M_step 85 = .ok (.aload_n 0, 1) := by decide +kernel
theorem d_M_step_86 : decode b_M_step 86 = .ok (.getfield 19, 3) := by decide +kernel
theorem d_M_step_89 : decode b_M_step 89 = .ok (.iload 4, 2) := by decide +kernel
theorem d_M_step_91 : decode b_M_step 91 = .ok (.iaload, 1) := by decide +kernel
theorem d_M_step_92 : decode b_M_step 92 = .ok (.ifCond .ne 18, 3) := by decide +kernel
theorem d_M_step_95 : decode b_M_step 95 = .ok (.aload_n 0, 1) := by decide +kernel
theorem d_M_step_96 : decode b_M_step 96 = .ok (.getfield 23, 3) := by decide +kernel
theorem d_M_step_99 : decode b_M_step 99 = .ok (.iload 4, 2) := by decide +kernel
theorem d_M_step_101 : decode b_M_step 101 = .ok (.iaload, 1) := by decide +kernel
theorem d_M_step_102 : decode b_M_step 102 = .ok (.iload_n 2, 1) := by decide +kernel
theorem d_M_step_103 : decode b_M_step 103 = .ok (.if_icmp .ne 7, 3) := by decide +kernel
theorem d_M_step_106 : decode b_M_step 106 = .ok (.iconst 1, 1) := by decide +kernel
theorem d_M_step_107 : decode b_M_step 107 = .ok (.goto 4, 3) := by decide +kernel
theorem d_M_step_110 : decode b_M_step 110 = .ok (.iconst 0, 1) := by decide +kernel
theorem d_M_step_111 : decode b_M_step 111 = .ok (.istore_n 3, 1) := by decide +kernel
theorem d_M_step_112 : decode b_M_step 112 = .ok (.iinc 4 1, 3) := by decide +kernel
theorem d_M_step_115 : decode b_M_step 115 = .ok (.goto (-47), 3) := by decide +kernel
theorem d_M_step_118 : decode b_M_step 118 = .ok (.iload_n 3, 1) := by decide +kernel
theorem d_M_step_119 : decode b_M_step 119 = .ok (.ifCond .ne 33, 3) := by decide +kernel
theorem d_M_step_122 : decode b_M_step 122 = .ok (.aload_n 0, 1) := by decide +kernel
theorem d_M_step_123 : decode b_M_step 123 = .ok (.getfield 19, 3) := by decide +kernel
theorem d_M_step_126 : decode b_M_step 126 = .ok (.aload_n 0, 1) := by decide +kernel
theorem d_M_step_127 : decode b_M_step 127 = .ok (.getfield 70, 3) := by decide +kernel
theorem d_M_step_130 : decode b_M_step 130 = .ok (.iload_n 1, 1) := by decide +kernel
theorem d_M_step_131 : decode b_M_step 131 = .ok (.iastore, 1) := by decide +kernel
theorem d_M_step_132 : decode b_M_step 132 = .ok (.aload_n 0, 1) := by decide +kernel
theorem d_M_step_133 : decode b_M_step 133 = .ok (.getfield 23, 3) := by decide +kernel
theorem d_M_step_136 : decode b_M_step 136 = .ok (.aload_n 0, 1) := by decide +kernel
theorem d_M_step_137 : decode b_M_step 137 = .ok (.getfield 70, 3) := by decide +kernel
theorem d_M_step_140 : decode b_M_step 140 = .ok (.iload_n 2, 1) := by decide +kernel
theorem d_M_step_141 : decode b_M_step 141 = .ok (.iastore, 1) := by decide +kernel
theorem d_M_step_142 : decode b_M_step 142 = .ok (.aload_n 0, 1) := by decide +kernel
theorem d_M_step_143 : decode b_M_step 143 = .ok (.dup, 1) := by decide +kernel
theorem d_M_step_144 : decode b_M_step 144 = .ok (.getfield 70, 3) := by decide +kernel
theorem d_M_step_147 : decode b_M_step 147 = .ok (.iconst 1, 1) := by decide +kernel
theorem d_M_step_148 : decode b_M_step 148 = .ok (.iadd, 1) := by decide +kernel
theorem d_M_step_149 : decode b_M_step 149 = .ok (.putfield 70, 3) := by decide +kernel
theorem d_M_step_152 : decode b_M_step 152 = .ok (.iconst 1, 1) := by decide +kernel
theorem d_M_step_153 : decode b_M_step 153 = .ok (.ireturn, 1) := by decide +kernel
theorem d_M_powerOff_0 : decode b_M_powerOff 0 = .ok (.aload_n 0, 1) := by decide +kernel
theorem d_M_powerOff_1 : decode b_M_powerOff 1 = .ok (.iconst 1, 1) := by decide +kernel
theorem d_M_powerOff_2 : decode b_M_powerOff 2 = .ok (.putfield 60, 3) := by decide +kernel
theorem d_M_powerOff_5 : decode b_M_powerOff 5 = .ok (.aload_n 0, 1) := by decide +kernel
theorem d_M_powerOff_6 : decode b_M_powerOff 6 = .ok (.invokevirtual 76, 3) := by decide +kernel
theorem d_M_powerOff_9 : decode b_M_powerOff 9 = .ok (.return_, 1) := by decide +kernel
