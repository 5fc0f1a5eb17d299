theorem d_M_settle_0 : decode b_M_settle 0 = .ok (.iconst 0, 1) := by decide +kernel
theorem d_M_settle_1 : decode b_M_settle 1 = .ok (.istore_n 1, 1) := by decide +kernel
theorem d_M_settle_2 : decode b_M_settle 2 = .ok (.iload_n 1, 1) := by decide +kernel
theorem d_M_settle_3 : decode b_M_settle 3 = .ok (.aload_n 0, 1) := by decide +kernel
theorem d_M_settle_4 : decode b_M_settle 4 = .ok (.getfield 70, 3) := by decide +kernel
theorem d_M_settle_7 : decode b_M_settle 7 = .ok (.if_icmp .ge 53, 3) := by decide +kernel
theorem d_M_settle_10 : decode b_M_settle 10 = .ok (.aload_n 0, 1) := by decide +kernel
theorem d_M_settle_11 : decode b_M_settle 11 = .ok (.getfield 19, 3) := by decide +kernel
theorem d_M_settle_14 : decode b_M_settle 14 = .ok (.iload_n 1, 1) := by decide +kernel
theorem d_M_settle_15 : decode b_M_settle 15 = .ok (.iaload, 1) := by decide +kernel
theorem d_M_settle_16 : decode b_M_settle 16 = .ok (.ifCond .ne 38, 3) := by decide +kernel
theorem d_M_settle_19 : decode b_M_settle 19 = .ok (.aload_n 0, 1) := by decide +kernel
theorem d_M_settle_20 : decode b_M_settle 20 = .ok (.aload_n 0, 1) := by decide +kernel
theorem d_M_settle_21 : decode b_M_settle 21 = .ok (.getfield 7, 3) := by decide +kernel
theorem d_M_settle_24 : decode b_M_settle 24 = .ok (.sipush 256, 3) := by decide +kernel
theorem d_M_settle_27 : decode b_M_settle 27 = .ok (.aload_n 0, 1) := by decide +kernel
theorem d_M_settle_28 : decode b_M_settle 28 = .ok (.getfield 23, 3) := by decide +kernel
theorem d_M_settle_31 : decode b_M_settle 31 = .ok (.iload_n 1, 1) := by decide +kernel
theorem d_M_settle_32 : decode b_M_settle 32 = .ok (.iaload, 1) := by decide +kernel
theorem d_M_settle_33 : decode b_M_settle 33 = .ok (.imul, 1) := by decide +kernel
theorem d_M_settle_34 : decode b_M_settle 34 = .ok (.aload_n 0, 1) := by decide +kernel
theorem d_M_settle_35 : decode b_M_settle 35 = .ok (.getfield 13, 3) := by decide +kernel
theorem d_M_settle_38 : decode b_M_settle 38 = .ok (.sipush 256, 3) := by decide +kernel
theorem d_M_settle_41 : decode b_M_settle 41 = .ok (.aload_n 0, 1) := by decide +kernel
theorem d_M_settle_42 : decode b_M_settle 42 = .ok (.getfield 23, 3) := by decide +kernel
theorem d_M_settle_45 : decode b_M_settle 45 = .ok (.iload_n 1, 1) := by decide +kernel
theorem d_M_settle_46 : decode b_M_settle 46 = .ok (.iaload, 1) := by decide +kernel
theorem d_M_settle_47 : decode b_M_settle 47 = .ok (.imul, 1) := by decide +kernel
theorem d_M_settle_48 : decode b_M_settle 48 = .ok (.sipush 256, 3) := by decide +kernel
theorem d_M_settle_51 : decode b_M_settle 51 = .ok (.invokevirtual 85, 3) := by decide +kernel
theorem d_M_settle_54 : decode b_M_settle 54 = .ok (.iinc 1 1, 3) := by decide +kernel
theorem d_M_settle_57 : decode b_M_settle 57 = .ok (.goto (-55), 3) := by decide +kernel
theorem d_M_settle_60 : decode b_M_settle 60 = .ok (.aload_n 0, 1) := by decide +kernel
theorem d_M_settle_61 : decode b_M_settle 61 = .ok (.iconst 0, 1) := by decide +kernel
theorem d_M_settle_62 : decode b_M_settle 62 = .ok (.putfield 70, 3) := by decide +kernel
theorem d_M_settle_65 : decode b_M_settle 65 = .ok (.return_, 1) := by decide +kernel
theorem d_M_commit_0 : decode b_M_commit 0 = .ok (.aload_n 0, 1) := by decide +kernel
theorem d_M_commit_1 : decode b_M_commit 1 = .ok (.iconst 0, 1) := by decide +kernel
theorem d_M_commit_2 : decode b_M_commit 2 = .ok (.putfield 53, 3) := by decide +kernel
theorem d_M_commit_5 : decode b_M_commit 5 = .ok (.aload_n 0, 1) := by decide +kernel
theorem d_M_commit_6 : decode b_M_commit 6 = .ok (.getfield 60, 3) := by decide +kernel
theorem d_M_commit_9 : decode b_M_commit 9 = .ok (.ifCond .eq 5, 3) := by decide +kernel
theorem d_M_commit_12 : decode b_M_commit 12 = .ok (.iconst (-1), 1) := by decide +kernel
theorem d_M_commit_13 : decode b_M_commit 13 = .ok (.ireturn, 1) := by decide +kernel
theorem d_M_commit_14 : decode b_M_commit 14 = .ok (.aload_n 0, 1) := by decide +kernel
theorem d_M_commit_15 : decode b_M_commit 15 = .ok (.aload_n 0, 1) := by decide +kernel
theorem d_M_commit_16 : decode b_M_commit 16 = .ok (.getfield 26, 3) := by decide +kernel
theorem d_M_commit_19 : decode b_M_commit 19 = .ok (.invokevirtual 93, 3) := by decide +kernel
theorem d_M_commit_22 : decode b_M_commit 22 = .ok (.istore_n 1, 1) := by decide +kernel
theorem d_M_commit_23 : decode b_M_commit 23 = .ok (.aload_n 0, 1) := by decide +kernel
theorem d_M_commit_24 : decode b_M_commit 24 = .ok (.aload_n 0, 1) := by decide +kernel
theorem d_M_commit_25 : decode b_M_commit 25 = .ok (.getfield 30, 3) := by decide +kernel
theorem d_M_commit_28 : decode b_M_commit 28 = .ok (.invokevirtual 93, 3) := by decide +kernel
theorem d_M_commit_31 : decode b_M_commit 31 = .ok (.ifCond .le 7, 3) := by decide +kernel
theorem d_M_commit_34 : decode b_M_commit 34 = .ok (.iconst 1, 1) := by decide +kernel
theorem d_M_commit_35 : decode b_M_commit 35 = .ok (.goto 4, 3) := by decide +kernel
theorem d_M_commit_38 : decode b_M_commit 38 = .ok (.iconst 0, 1) := by decide +kernel
theorem d_M_commit_39 : decode b_M_commit 39 = .ok (.istore_n 2, 1) := by decide +kernel
theorem d_M_commit_40 : decode b_M_commit 40 = .ok (.iload_n 1, 1) := by decide +kernel
theorem d_M_commit_41 : decode b_M_commit 41 = .ok (.ifCond .ne 9, 3) := by decide +kernel
theorem d_M_commit_44 : decode b_M_commit 44 = .ok (.iload_n 2, 1) := by decide +kernel
theorem d_M_commit_45 : decode b_M_commit 45 = .ok (.ifCond .ne 5, 3) := by decide +kernel
theorem d_M_commit_48 : decode b_M_commit 48 = .ok (.iconst 0, 1) := by decide +kernel
theorem d_M_commit_49 : decode b_M_commit 49 = .ok (.ireturn, 1) := by decide +kernel
theorem d_M_commit_50 : decode b_M_commit 50 = .ok (.iload_n 1, 1) := by decide +kernel
theorem d_M_commit_51 : decode b_M_commit 51 = .ok (.iload_n 1, 1) := by decide +kernel
theorem d_M_commit_52 : decode b_M_commit 52 = .ok (.bipush 28, 2) := by decide +kernel
theorem d_M_commit_54 : decode b_M_commit 54 = .ok (.iadd, 1) := by decide +kernel
theorem d_M_commit_55 : decode b_M_commit 55 = .ok (.iconst 1, 1) := by decide +kernel
theorem d_M_commit_56 : decode b_M_commit 56 = .ok (.isub, 1) := by decide +kernel
theorem d_M_commit_57 : decode b_M_commit 57 = .ok (.bipush 28, 2) := by decide +kernel
theorem d_M_commit_59 : decode b_M_commit 59 = .ok (.idiv, 1) := by decide +kernel
theorem d_M_commit_60 : decode b_M_commit 60 = .ok (.iadd, 1) := by decide +kernel
theorem d_M_commit_61 : decode b_M_commit 61 = .ok (.iload_n 2, 1) := by decide +kernel
theorem d_M_commit_62 : decode b_M_commit 62 = .ok (.ifCond .eq 7, 3) := by decide +kernel
theorem d_M_commit_65 : decode b_M_commit 65 = .ok (.iconst 1, 1) := by decide +kernel
theorem d_M_commit_66 : decode b_M_commit 66 = .ok (.goto 4, 3) := by decide +kernel
theorem d_M_commit_69 : decode b_M_commit 69 = .ok (.iconst 0, 1) := by decide +kernel
theorem d_M_commit_70 : decode b_M_commit 70 = .ok (.iadd, 1) := by decide +kernel
theorem d_M_commit_71 : decode b_M_commit 71 = .ok (.iconst 1, 1) := by decide +kernel
theorem d_M_commit_72 : decode b_M_commit 72 = .ok (.iadd, 1) := by decide +kernel
theorem d_M_commit_73 : decode b_M_commit 73 = .ok (.istore_n 3, 1) := by decide +kernel
theorem d_M_commit_74 : decode b_M_commit 74 = .ok (.aload_n 0, 1) := by decide +kernel
theorem d_M_commit_75 : decode b_M_commit 75 = .ok (.invokevirtual 104, 3) := by decide +kernel
theorem d_M_commit_78 : decode b_M_commit 78 = .ok (.iload_n 3, 1) := by decide +kernel
theorem d_M_commit_79 : decode b_M_commit 79 = .ok (.iadd, 1) := by decide +kernel
theorem d_M_commit_80 : decode b_M_commit 80 = .ok (.aload_n 0, 1) := by decide +kernel
theorem d_M_commit_81 : decode b_M_commit 81 = .ok (.getfield 57, 3) := by decide +kernel
theorem d_M_commit_84 : decode b_M_commit 84 = .ok (.iconst 1, 1) := by decide +kernel
theorem d_M_commit_85 : decode b_M_commit 85 = .ok (.isub, 1) := by decide +kernel
theorem d_M_commit_86 : decode b_M_commit 86 = .ok (.if_icmp .le 12, 3) := by decide +kernel
theorem d_M_commit_89 : decode b_M_commit 89 = .ok (.aload_n 0, 1) := by decide +kernel
theorem d_M_commit_90 : decode b_M_commit 90 = .ok (.invokevirtual 108, 3) := by decide +kernel
theorem d_M_commit_93 : decode b_M_commit 93 = .ok (.ifCond .ge 5, 3) := by decide +kernel
theorem d_M_commit_96 : decode b_M_commit 96 = .ok (.iconst (-1), 1) := by decide +kernel
theorem d_M_commit_97 : decode b_M_commit 97 = .ok (.ireturn, 1) := by decide +kernel
theorem d_M_commit_98 : decode b_M_commit 98 = .ok (.iconst 1, 1) := by decide +kernel
theorem d_M_commit_99 : decode b_M_commit 99 = .ok (.istore 4, 2) := by decide +kernel
theorem d_M_commit_101 : decode b_M_commit 101 = .ok (.iload 4, 2) := by decide +kernel
theorem d_M_commit_103 : decode b_M_commit 103 = .ok (.iload_n 3, 1) := by decide +kernel
theorem d_M_commit_104 : decode b_M_commit 104 = .ok (.if_icmp .ge 20, 3) := by decide +kernel
theorem d_M_commit_107 : decode b_M_commit 107 = .ok (.aload_n 0, 1) := by decide +kernel
theorem d_M_commit_108 : decode b_M_commit 108 = .ok (.iconst 1, 1) := by decide +kernel
theorem d_M_commit_109 : decode b_M_commit 109 = .ok (.iconst 0, 1) := by decide +kernel
theorem d_M_commit_110 : decode b_M_commit 110 = .ok (.invokevirtual 100, 3) := by decide +kernel
theorem d_M_commit_113 : decode b_M_commit 113 = .ok (.ifCond .ne 5, 3) := by decide +kernel
theorem d_M_commit_116 : decode b_M_commit 116 = .ok (.iconst (-1), 1) := by decide +kernel
theorem d_M_commit_117 : decode b_M_commit 117 = .ok (.ireturn, 1) := by decide +kernel
theorem d_M_commit_118 : decode b_M_commit 118 = .ok (.iinc 4 1, 3) := by decide +kernel
theorem d_M_commit_121 : decode b_M_commit 121 = .ok (.goto (-20), 3) := by decide +kernel
theorem d_M_commit_124 : decode b_M_commit 124 = .ok (.aload_n 0, 1) := by decide +kernel
theorem d_M_commit_125 : decode b_M_commit 125 = .ok (.iconst 4, 1) := by decide +kernel
theorem d_M_commit_126 : decode b_M_commit 126 = .ok (.iconst 0, 1) := by decide +kernel
theorem d_M_commit_127 : decode b_M_commit 127 = .ok (.invokevirtual 100, 3) := by decide +kernel
theorem d_M_commit_130 : decode b_M_commit 130 = .ok (.ifCond .eq 12, 3) := by decide +kernel
theorem d_M_commit_133 : decode b_M_commit 133 = .ok (.aload_n 0, 1) := by decide +kernel
theorem d_M_commit_134 : decode b_M_commit 134 = .ok (.iconst 2, 1) := by decide +kernel
theorem d_M_commit_135 : decode b_M_commit 135 = .ok (.iconst 0, 1) := by decide +kernel
theorem d_M_commit_136 : decode b_M_commit 136 = .ok (.invokevirtual 100, 3) := by decide +kernel
theorem d_M_commit_139 : decode b_M_commit 139 = .ok (.ifCond .ne 5, 3) := by decide +kernel
theorem d_M_commit_142 : decode b_M_commit 142 = .ok (.iconst (-1), 1) := by decide +kernel
theorem d_M_commit_143 : decode b_M_commit 143 = .ok (.ireturn, 1) := by decide +kernel
theorem d_M_commit_144 : decode b_M_commit 144 = .ok (.aload_n 0, 1) := by decide +kernel
theorem d_M_commit_145 : decode b_M_commit 145 = .ok (.iload_n 3, 1) := by decide +kernel
theorem d_M_commit_146 : decode b_M_commit 146 = .ok (.invokevirtual 111, 3) := by decide +kernel
theorem d_M_commit_149 : decode b_M_commit 149 = .ok (.aload_n 0, 1) := by decide +kernel
theorem d_M_commit_150 : decode b_M_commit 150 = .ok (.iconst 4, 1) := by decide +kernel
theorem d_M_commit_151 : decode b_M_commit 151 = .ok (.iconst 0, 1) := by decide +kernel
theorem d_M_commit_152 : decode b_M_commit 152 = .ok (.invokevirtual 100, 3) := by decide +kernel
theorem d_M_commit_155 : decode b_M_commit 155 = .ok (.ifCond .eq 7, 3) := by decide +kernel
theorem d_M_commit_158 : decode b_M_commit 158 = .ok (.iload_n 3, 1) := by decide +kernel
theorem d_M_commit_159 : decode b_M_commit 159 = .ok (.goto 4, 3) := by decide +kernel
theorem d_M_commit_162 : decode b_M_commit 162 = .ok (.iconst (-1), 1) := by decide +kernel
theorem d_M_commit_163 : decode b_M_commit 163 = .ok (.ireturn, 1) := by decide +kernel
theorem d_M_used_0 : decode b_M_used 0 = .ok (.iconst 0, 1) := by decide +kernel
theorem d_M_used_1 : decode b_M_used 1 = .ok (.istore_n 1, 1) := by decide +kernel
theorem d_M_used_2 : decode b_M_used 2 = .ok (.iconst 0, 1) := by decide +kernel
theorem d_M_used_3 : decode b_M_used 3 = .ok (.istore_n 2, 1) := by decide +kernel
theorem d_M_used_4 : decode b_M_used 4 = .ok (.iload_n 2, 1) := by decide +kernel
theorem d_M_used_5 : decode b_M_used 5 = .ok (.aload_n 0, 1) := by decide +kernel
theorem d_M_used_6 : decode b_M_used 6 = .ok (.getfield 73, 3) := by decide +kernel
theorem d_M_used_9 : decode b_M_used 9 = .ok (.if_icmp .ge 18, 3) := by decide +kernel
theorem d_M_used_12 : decode b_M_used 12 = .ok (.iload_n 1, 1) := by decide +kernel
theorem d_M_used_13 : decode b_M_used 13 = .ok (.aload_n 0, 1) := by decide +kernel
theorem d_M_used_14 : decode b_M_used 14 = .ok (.getfield 36, 3) := by decide +kernel
theorem d_M_used_17 : decode b_M_used 17 = .ok (.iload_n 2, 1) := by decide +kernel
theorem d_M_used_18 : decode b_M_used 18 = .ok (.iaload, 1) := by decide +kernel
theorem d_M_used_19 : decode b_M_used 19 = .ok (.iadd, 1) := by decide +kernel
theorem d_M_used_20 : decode b_M_used 20 = .ok (.istore_n 1, 1) := by decide +kernel
theorem d_M_used_21 : decode b_M_used 21 = .ok (.iinc 2 1, 3) := by decide +kernel
theorem d_M_used_24 : decode b_M_used 24 = .ok (.goto (-20), 3) := by decide +kernel
theorem d_M_used_27 : decode b_M_used 27 = .ok (.iload_n 1, 1) := by decide +kernel
theorem d_M_used_28 : decode b_M_used 28 = .ok (.ireturn, 1) := by decide +kernel
theorem d_M_clearing_0 : decode b_M_clearing 0 = .ok (.iconst 0, 1) := by decide +kernel
theorem d_M_clearing_1 : decode b_M_clearing 1 = .ok (.istore_n 1, 1) := by decide +kernel
theorem d_M_clearing_2 : decode b_M_clearing 2 = .ok (.iconst 0, 1) := by decide +kernel
theorem d_M_clearing_3 : decode b_M_clearing 3 = .ok (.istore_n 2, 1) := by decide +kernel
theorem d_M_clearing_4 : decode b_M_clearing 4 = .ok (.iload_n 2, 1) := by decide +kernel
theorem d_M_clearing_5 : decode b_M_clearing 5 = .ok (.bipush 64, 2) := by decide +kernel
theorem d_M_clearing_7 : decode b_M_clearing 7 = .ok (.if_icmp .ge 58, 3) := by decide +kernel
theorem d_M_clearing_10 : decode b_M_clearing 10 = .ok (.aload_n 0, 1) := by decide +kernel
theorem d_M_clearing_11 : decode b_M_clearing 11 = .ok (.iload_n 2, 1) := by decide +kernel
theorem d_M_clearing_12 : decode b_M_clearing 12 = .ok (.invokevirtual 97, 3) := by decide +kernel
theorem d_M_clearing_15 : decode b_M_clearing 15 = .ok (.istore_n 3, 1) := by decide +kernel
theorem d_M_clearing_16 : decode b_M_clearing 16 = .ok (.iload_n 3, 1) := by decide +kernel
theorem d_M_clearing_17 : decode b_M_clearing 17 = .ok (.ifCond .lt 42, 3) := by decide +kernel
theorem d_M_clearing_20 : decode b_M_clearing 20 = .ok (.aload_n 0, 1) := by decide +kernel
theorem d_M_clearing_21 : decode b_M_clearing 21 = .ok (.iconst 0, 1) := by decide +kernel
theorem d_M_clearing_22 : decode b_M_clearing 22 = .ok (.iload_n 2, 1) := by decide +kernel
theorem d_M_clearing_23 : decode b_M_clearing 23 = .ok (.invokevirtual 100, 3) := by decide +kernel
theorem d_M_clearing_26 : decode b_M_clearing 26 = .ok (.ifCond .ne 5, 3) := by decide +kernel
theorem d_M_clearing_29 : decode b_M_clearing 29 = .ok (.iconst (-1), 1) := by decide +kernel
theorem d_M_clearing_30 : decode b_M_clearing 30 = .ok (.ireturn, 1) := by decide +kernel
theorem d_M_clearing_31 : decode b_M_clearing 31 = .ok (.aload_n 0, 1) := by decide +kernel
theorem d_M_clearing_32 : decode b_M_clearing 32 = .ok (.aload_n 0, 1) := by decide +kernel
theorem d_M_clearing_33 : decode b_M_clearing 33 = .ok (.getfield 46, 3) := by decide +kernel
theorem d_M_clearing_36 : decode b_M_clearing 36 = .ok (.sipush 256, 3) := by decide +kernel
theorem d_M_clearing_39 : decode b_M_clearing 39 = .ok (.iload_n 3, 1) := by decide +kernel
theorem d_M_clearing_40 : decode b_M_clearing 40 = .ok (.imul, 1) := by decide +kernel
theorem d_M_clearing_41 : decode b_M_clearing 41 = .ok (.aload_n 0, 1) := by decide +kernel
theorem d_M_clearing_42 : decode b_M_clearing 42 = .ok (.getfield 7, 3) := by decide +kernel
theorem d_M_clearing_45 : decode b_M_clearing 45 = .ok (.sipush 256, 3) := by decide +kernel
theorem d_M_clearing_48 : decode b_M_clearing 48 = .ok (.iload_n 2, 1) := by decide +kernel
theorem d_M_clearing_49 : decode b_M_clearing 49 = .ok (.imul, 1) := by decide +kernel
theorem d_M_clearing_50 : decode b_M_clearing 50 = .ok (.sipush 256, 3) := by decide +kernel
theorem d_M_clearing_53 : decode b_M_clearing 53 = .ok (.invokevirtual 85, 3) := by decide +kernel
theorem d_M_clearing_56 : decode b_M_clearing 56 = .ok (.iinc 1 1, 3) := by decide +kernel
theorem d_M_clearing_59 : decode b_M_clearing 59 = .ok (.iinc 2 1, 3) := by decide +kernel
theorem d_M_clearing_62 : decode b_M_clearing 62 = .ok (.goto (-58), 3) := by decide +kernel
theorem d_M_clearing_65 : decode b_M_clearing 65 = .ok (.aload_n 0, 1) := by decide +kernel
theorem d_M_clearing_66 : decode b_M_clearing 66 = .ok (.invokevirtual 115, 3) := by decide +kernel
theorem d_M_clearing_69 : decode b_M_clearing 69 = .ok (.ifCond .eq 7, 3) := by decide +kernel
theorem d_M_clearing_72 : decode b_M_clearing 72 = .ok (.iload_n 1, 1) := by decide +kernel
theorem d_M_clearing_73 : decode b_M_clearing 73 = .ok (.goto 4, 3) := by decide +kernel
theorem d_M_clearing_76 : decode b_M_clearing 76 = .ok (.iconst (-1), 1) := by decide +kernel
theorem d_M_clearing_77 : decode b_M_clearing 77 = .ok (.ireturn, 1) := by decide +kernel
theorem d_M_empty_0 : decode b_M_empty 0 = .ok (.aload_n 0, 1) := by decide +kernel
theorem d_M_empty_1 : decode b_M_empty 1 = .ok (.iconst 4, 1) := by decide +kernel
theorem d_M_empty_2 : decode b_M_empty 2 = .ok (.iconst 0, 1) := by decide +kernel
theorem d_M_empty_3 : decode b_M_empty 3 = .ok (.invokevirtual 100, 3) := by decide +kernel
theorem d_M_empty_6 : decode b_M_empty 6 = .ok (.ifCond .eq 12, 3) := by decide +kernel
theorem d_M_empty_9 : decode b_M_empty 9 = .ok (.aload_n 0, 1) := by decide +kernel
theorem d_M_empty_10 : decode b_M_empty 10 = .ok (.iconst 3, 1) := by decide +kernel
theorem d_M_empty_11 : decode b_M_empty 11 = .ok (.iconst 0, 1) := by decide +kernel
theorem d_M_empty_12 : decode b_M_empty 12 = .ok (.invokevirtual 100, 3) := by decide +kernel
theorem d_M_empty_15 : decode b_M_empty 15 = .ok (.ifCond .ne 5, 3) := by decide +kernel
theorem d_M_empty_18 : decode b_M_empty 18 = .ok (.iconst 0, 1) := by decide +kernel
theorem d_M_empty_19 : decode b_M_empty 19 = .ok (.ireturn, 1) := by decide +kernel
theorem d_M_empty_20 : decode b_M_empty 20 = .ok (.aload_n 0, 1) := by decide +kernel
theorem d_M_empty_21 : decode b_M_empty 21 = .ok (.aload_n 0, 1) := by decide +kernel
theorem d_M_empty_22 : decode b_M_empty 22 = .ok (.getfield 73, 3) := by decide +kernel
theorem d_M_empty_25 : decode b_M_empty 25 = .ok (.putfield 119, 3) := by decide +kernel
theorem d_M_empty_28 : decode b_M_empty 28 = .ok (.aload_n 0, 1) := by decide +kernel
theorem d_M_empty_29 : decode b_M_empty 29 = .ok (.iconst 0, 1) := by decide +kernel
theorem d_M_empty_30 : decode b_M_empty 30 = .ok (.putfield 73, 3) := by decide +kernel
theorem d_M_empty_33 : decode b_M_empty 33 = .ok (.aload_n 0, 1) := by decide +kernel
theorem d_M_empty_34 : decode b_M_empty 34 = .ok (.iconst 4, 1) := by decide +kernel
theorem d_M_empty_35 : decode b_M_empty 35 = .ok (.iconst 0, 1) := by decide +kernel
theorem d_M_empty_36 : decode b_M_empty 36 = .ok (.invokevirtual 100, 3) := by decide +kernel
theorem d_M_empty_39 : decode b_M_empty 39 = .ok (.ireturn, 1) := by decide +kernel
theorem d_M_enter_0 : decode b_M_enter 0 = .ok (.aload_n 0, 1) := by decide +kernel
theorem d_M_enter_1 : decode b_M_enter 1 = .ok (.getfield 33, 3) := by decide +kernel
theorem d_M_enter_4 : decode b_M_enter 4 = .ok (.aload_n 0, 1) := by decide +kernel
theorem d_M_enter_5 : decode b_M_enter 5 = .ok (.getfield 73, 3) := by decide +kernel
theorem d_M_enter_8 : decode b_M_enter 8 = .ok (.iaload, 1) := by decide +kernel
theorem d_M_enter_9 : decode b_M_enter 9 = .ok (.istore_n 2, 1) := by decide +kernel
theorem d_M_enter_10 : decode b_M_enter 10 = .ok (.iconst 0, 1) := by decide +kernel
theorem d_M_enter_11 : decode b_M_enter 11 = .ok (.istore_n 3, 1) := by decide +kernel
theorem d_M_enter_12 : decode b_M_enter 12 = .ok (.iload_n 3, 1) := by decide +kernel
theorem d_M_enter_13 : decode b_M_enter 13 = .ok (.bipush 64, 2) := by decide +kernel
theorem d_M_enter_15 : decode b_M_enter 15 = .ok (.if_icmp .ge 73, 3) := by decide +kernel
theorem d_M_enter_18 : decode b_M_enter 18 = .ok (.aload_n 0, 1) := by decide +kernel
theorem d_M_enter_19 : decode b_M_enter 19 = .ok (.getfield 39, 3) := by decide +kernel
theorem d_M_enter_22 : decode b_M_enter 22 = .ok (.bipush 64, 2) := by decide +kernel
theorem d_M_enter_24 : decode b_M_enter 24 = .ok (.aload_n 0, 1) := by decide +kernel
theorem d_M_enter_25 : decode b_M_enter 25 = .ok (.getfield 73, 3) := by decide +kernel
theorem d_M_enter_28 : decode b_M_enter 28 = .ok (.imul, 1) := by decide +kernel
theorem d_M_enter_29 : decode b_M_enter 29 = .ok (.iload_n 3, 1) := by decide +kernel
theorem d_M_enter_30 : decode b_M_enter 30 = .ok (.iadd, 1) := by decide +kernel
theorem d_M_enter_31 : decode b_M_enter 31 = .ok (.aload_n 0, 1) := by decide +kernel
theorem d_M_enter_32 : decode b_M_enter 32 = .ok (.getfield 30, 3) := by decide +kernel
theorem d_M_enter_35 : decode b_M_enter 35 = .ok (.iload_n 3, 1) := by decide +kernel
theorem d_M_enter_36 : decode b_M_enter 36 = .ok (.baload, 1) := by decide +kernel
theorem d_M_enter_37 : decode b_M_enter 37 = .ok (.bastore, 1) := by decide +kernel
theorem d_M_enter_38 : decode b_M_enter 38 = .ok (.aload_n 0, 1) := by decide +kernel
theorem d_M_enter_39 : decode b_M_enter 39 = .ok (.getfield 26, 3) := by decide +kernel
theorem d_M_enter_42 : decode b_M_enter 42 = .ok (.iload_n 3, 1) := by decide +kernel
theorem d_M_enter_43 : decode b_M_enter 43 = .ok (.baload, 1) := by decide +kernel
theorem d_M_enter_44 : decode b_M_enter 44 = .ok (.ifCond .eq 38, 3) := by decide +kernel
theorem d_M_enter_47 : decode b_M_enter 47 = .ok (.aload_n 0, 1) := by decide +kernel
theorem d_M_enter_48 : decode b_M_enter 48 = .ok (.getfield 42, 3) := by decide +kernel
theorem d_M_enter_51 : decode b_M_enter 51 = .ok (.iload_n 2, 1) := by decide +kernel
theorem d_M_enter_52 : decode b_M_enter 52 = .ok (.iload_n 3, 1) := by decide +kernel
theorem d_M_enter_53 : decode b_M_enter 53 = .ok (.iastore, 1) := by decide +kernel
theorem d_M_enter_54 : decode b_M_enter 54 = .ok (.aload_n 0, 1) := by decide +kernel
theorem d_M_enter_55 : decode b_M_enter 55 = .ok (.aload_n 0, 1) := by decide +kernel
theorem d_M_enter_56 : decode b_M_enter 56 = .ok (.getfield 16, 3) := by decide +kernel
theorem d_M_enter_59 : decode b_M_enter 59 = .ok (.sipush 256, 3) := by decide +kernel
theorem d_M_enter_62 : decode b_M_enter 62 = .ok (.iload_n 3, 1) := by decide +kernel
theorem d_M_enter_63 : decode b_M_enter 63 = .ok (.imul, 1) := by decide +kernel
theorem d_M_enter_64 : decode b_M_enter 64 = .ok (.aload_n 0, 1) := by decide +kernel
theorem d_M_enter_65 : decode b_M_enter 65 = .ok (.getfield 46, 3) := by decide +kernel
theorem d_M_enter_68 : decode b_M_enter 68 = .ok (.sipush 256, 3) := by decide +kernel
theorem d_M_enter_71 : decode b_M_enter 71 = .ok (.iload_n 2, 1) := by decide +kernel
theorem d_M_enter_72 : decode b_M_enter 72 = .ok (.imul, 1) := by decide +kernel
theorem d_M_enter_73 : decode b_M_enter 73 = .ok (.sipush 256, 3) := by decide +kernel
theorem d_M_enter_76 : decode b_M_enter 76 = .ok (.invokevirtual 85, 3) := by decide +kernel
theorem d_M_enter_79 : decode b_M_enter 79 = .ok (.iinc 2 1, 3) := by decide +kernel
theorem d_M_enter_82 : decode b_M_enter 82 = .ok (.iinc 3 1, 3) := by decide +kernel
theorem d_M_enter_85 : decode b_M_enter 85 = .ok (.goto (-73), 3) := by decide +kernel
theorem d_M_enter_88 : decode b_M_enter 88 = .ok (.aload_n 0, 1) := by decide +kernel
theorem d_M_enter_89 : decode b_M_enter 89 = .ok (.getfield 36, 3) := by decide +kernel
theorem d_M_enter_92 : decode b_M_enter 92 = .ok (.aload_n 0, 1) := by decide +kernel
theorem d_M_enter_93 : decode b_M_enter 93 = .ok (.getfield 73, 3) := by decide +kernel
theorem d_M_enter_96 : decode b_M_enter 96 = .ok (.iload_n 1, 1) := by decide +kernel
theorem d_M_enter_97 : decode b_M_enter 97 = .ok (.iastore, 1) := by decide +kernel
theorem d_M_enter_98 : decode b_M_enter 98 = .ok (.aload_n 0, 1) := by decide +kernel
theorem d_M_enter_99 : decode b_M_enter 99 = .ok (.dup, 1) := by decide +kernel
theorem d_M_enter_100 : decode b_M_enter 100 = .ok (.getfield 73, 3) := by decide +kernel
theorem d_M_enter_103 : decode b_M_enter 103 = .ok (.iconst 1, 1) := by decide +kernel
theorem d_M_enter_104 : decode b_M_enter 104 = .ok (.iadd, 1) := by decide +kernel
theorem d_M_enter_105 : decode b_M_enter 105 = .ok (.putfield 73, 3) := by decide +kernel
theorem d_M_enter_108 : decode b_M_enter 108 = .ok (.aload_n 0, 1) := by decide +kernel
theorem d_M_enter_109 : decode b_M_enter 109 = .ok (.getfield 33, 3) := by decide +kernel
theorem d_M_enter_112 : decode b_M_enter 112 = .ok (.aload_n 0, 1) := by decide +kernel
theorem d_M_enter_113 : decode b_M_enter 113 = .ok (.getfield 73, 3) := by decide +kernel
theorem d_M_enter_116 : decode b_M_enter 116 = .ok (.iload_n 2, 1) := by decide +kernel
theorem d_M_enter_117 : decode b_M_enter 117 = .ok (.iastore, 1) := by decide +kernel
theorem d_M_enter_118 : decode b_M_enter 118 = .ok (.aload_n 0, 1) := by decide +kernel
theorem d_M_enter_119 : decode b_M_enter 119 = .ok (.invokevirtual 76, 3) := by decide +kernel
theorem d_M_enter_122 : decode b_M_enter 122 = .ok (.return_, 1) := by decide +kernel
theorem d_M_clear_0 : decode b_M_clear 0 = .ok (.aload_n 0, 1) := by decide +kernel
theorem d_M_clear_1 : decode b_M_clear 1 = .ok (.iconst 0, 1) := by decide +kernel
theorem d_M_clear_2 : decode b_M_clear 2 = .ok (.putfield 53, 3) := by decide +kernel
theorem d_M_clear_5 : decode b_M_clear 5 = .ok (.aload_n 0, 1) := by decide +kernel
theorem d_M_clear_6 : decode b_M_clear 6 = .ok (.getfield 60, 3) := by decide +kernel
theorem d_M_clear_9 : decode b_M_clear 9 = .ok (.ifCond .eq 7, 3) := by decide +kernel
theorem d_M_clear_12 : decode b_M_clear 12 = .ok (.iconst (-1), 1) := by decide +kernel
theorem d_M_clear_13 : decode b_M_clear 13 = .ok (.goto 18, 3) := by decide +kernel
theorem d_M_clear_16 : decode b_M_clear 16 = .ok (.aload_n 0, 1) := by decide +kernel
theorem d_M_clear_17 : decode b_M_clear 17 = .ok (.getfield 73, 3) := by decide +kernel
theorem d_M_clear_20 : decode b_M_clear 20 = .ok (.ifCond .ne 7, 3) := by decide +kernel
theorem d_M_clear_23 : decode b_M_clear 23 = .ok (.iconst 0, 1) := by decide +kernel
theorem d_M_clear_24 : decode b_M_clear 24 = .ok (.goto 7, 3) := by decide +kernel
theorem d_M_clear_27 : decode b_M_clear 27 = .ok (.aload_n 0, 1) := by decide +kernel
theorem d_M_clear_28 : decode b_M_clear 28 = .ok (.invokevirtual 108, 3) := by decide +kernel
theorem d_M_clear_31 : decode b_M_clear 31 = .ok (.ireturn, 1) := by decide +kernel
theorem d_M_fuse_0 : decode b_M_fuse 0 = .ok (.aload_n 0, 1) := by decide +kernel
theorem d_M_fuse_1 : decode b_M_fuse 1 = .ok (.iconst 0, 1) := by decide +kernel
theorem d_M_fuse_2 : decode b_M_fuse 2 = .ok (.putfield 53, 3) := by decide +kernel
theorem d_M_fuse_5 : decode b_M_fuse 5 = .ok (.aload_n 0, 1) := by decide +kernel
theorem d_M_fuse_6 : decode b_M_fuse 6 = .ok (.getfield 60, 3) := by decide +kernel
theorem d_M_fuse_9 : decode b_M_fuse 9 = .ok (.ifCond .eq 5, 3) := by decide +kernel
theorem d_M_fuse_12 : decode b_M_fuse 12 = .ok (.iconst (-1), 1) := by decide +kernel
theorem d_M_fuse_13 : decode b_M_fuse 13 = .ok (.ireturn, 1) := by decide +kernel
theorem d_M_fuse_14 : decode b_M_fuse 14 = .ok (.iload_n 1, 1) := by decide +kernel
theorem d_M_fuse_15 : decode b_M_fuse 15 = .ok (.iconst (-1), 1) := by decide +kernel
theorem d_M_fuse_16 : decode b_M_fuse 16 = .ok (.if_icmp .lt 9, 3) := by decide +kernel
theorem d_M_fuse_19 : decode b_M_fuse 19 = .ok (.iload_n 1, 1) := by decide +kernel
theorem d_M_fuse_20 : decode b_M_fuse 20 = .ok (.ldc 122, 2) := by decide +kernel
theorem d_M_fuse_22 : decode b_M_fuse 22 = .ok (.if_icmp .le 6, 3) := by decide +kernel
theorem d_M_fuse_25 : decode b_M_fuse 25 = .ok (.bipush (-2), 2) := by decide +kernel
theorem d_M_fuse_27 : decode b_M_fuse 27 = .ok (.ireturn, 1) := by decide +kernel
theorem d_M_fuse_28 : decode b_M_fuse 28 = .ok (.aload_n 0, 1) := by decide +kernel
theorem d_M_fuse_29 : decode b_M_fuse 29 = .ok (.getfield 64, 3) := by decide +kernel
theorem d_M_fuse_32 : decode b_M_fuse 32 = .ok (.istore_n 2, 1) := by decide +kernel
theorem d_M_fuse_33 : decode b_M_fuse 33 = .ok (.aload_n 0, 1) := by decide +kernel
theorem d_M_fuse_34 : decode b_M_fuse 34 = .ok (.iload_n 1, 1) := by decide +kernel
theorem d_M_fuse_35 : decode b_M_fuse 35 = .ok (.putfield 64, 3) := by decide +kernel
theorem d_M_fuse_38 : decode b_M_fuse 38 = .ok (.iload_n 2, 1) := by decide +kernel
theorem d_M_fuse_39 : decode b_M_fuse 39 = .ok (.ireturn, 1) := by decide +kernel
theorem d_M_fail_0 : decode b_M_fail 0 = .ok (.aload_n 0, 1) := by decide +kernel
theorem d_M_fail_1 : decode b_M_fail 1 = .ok (.iconst 0, 1) := by decide +kernel
theorem d_M_fail_2 : decode b_M_fail 2 = .ok (.putfield 53, 3) := by decide +kernel
theorem d_M_fail_5 : decode b_M_fail 5 = .ok (.aload_n 0, 1) := by decide +kernel
theorem d_M_fail_6 : decode b_M_fail 6 = .ok (.getfield 60, 3) := by decide +kernel
theorem d_M_fail_9 : decode b_M_fail 9 = .ok (.ifCond .eq 5, 3) := by decide +kernel
theorem d_M_fail_12 : decode b_M_fail 12 = .ok (.iconst (-1), 1) := by decide +kernel
theorem d_M_fail_13 : decode b_M_fail 13 = .ok (.ireturn, 1) := by decide +kernel
theorem d_M_fail_14 : decode b_M_fail 14 = .ok (.aload_n 0, 1) := by decide +kernel
theorem d_M_fail_15 : decode b_M_fail 15 = .ok (.invokevirtual 79, 3) := by decide +kernel
theorem d_M_fail_18 : decode b_M_fail 18 = .ok (.aload_n 0, 1) := by decide +kernel
theorem d_M_fail_19 : decode b_M_fail 19 = .ok (.getfield 70, 3) := by decide +kernel
theorem d_M_fail_22 : decode b_M_fail 22 = .ok (.ireturn, 1) := by decide +kernel
theorem d_M_mount_0 : decode b_M_mount 0 = .ok (.aload_n 0, 1) := by decide +kernel
theorem d_M_mount_1 : decode b_M_mount 1 = .ok (.iconst 0, 1) := by decide +kernel
theorem d_M_mount_2 : decode b_M_mount 2 = .ok (.putfield 53, 3) := by decide +kernel
theorem d_M_mount_5 : decode b_M_mount 5 = .ok (.aload_n 0, 1) := by decide +kernel
theorem d_M_mount_6 : decode b_M_mount 6 = .ok (.getfield 60, 3) := by decide +kernel
theorem d_M_mount_9 : decode b_M_mount 9 = .ok (.ifCond .ne 6, 3) := by decide +kernel
theorem d_M_mount_12 : decode b_M_mount 12 = .ok (.bipush (-2), 2) := by decide +kernel
theorem d_M_mount_14 : decode b_M_mount 14 = .ok (.ireturn, 1) := by decide +kernel
theorem d_M_mount_15 : decode b_M_mount 15 = .ok (.aload_n 0, 1) := by decide +kernel
theorem d_M_mount_16 : decode b_M_mount 16 = .ok (.iconst 0, 1) := by decide +kernel
theorem d_M_mount_17 : decode b_M_mount 17 = .ok (.putfield 60, 3) := by decide +kernel
theorem d_M_mount_20 : decode b_M_mount 20 = .ok (.aload_n 0, 1) := by decide +kernel
theorem d_M_mount_21 : decode b_M_mount 21 = .ok (.lload_n 1, 1) := by decide +kernel
theorem d_M_mount_22 : decode b_M_mount 22 = .ok (.invokevirtual 125, 3) := by decide +kernel
theorem d_M_mount_25 : decode b_M_mount 25 = .ok (.iconst 0, 1) := by decide +kernel
theorem d_M_mount_26 : decode b_M_mount 26 = .ok (.istore_n 3, 1) := by decide +kernel
theorem d_M_mount_27 : decode b_M_mount 27 = .ok (.iconst 0, 1) := by decide +kernel
theorem d_M_mount_28 : decode b_M_mount 28 = .ok (.istore 4, 2) := by decide +kernel
theorem d_M_mount_30 : decode b_M_mount 30 = .ok (.iload 4, 2) := by decide +kernel
theorem d_M_mount_32 : decode b_M_mount 32 = .ok (.aload_n 0, 1) := by decide +kernel
theorem d_M_mount_33 : decode b_M_mount 33 = .ok (.getfield 73, 3) := by decide +kernel
theorem d_M_mount_36 : decode b_M_mount 36 = .ok (.if_icmp .ge 106, 3) := by decide +kernel
theorem d_M_mount_39 : decode b_M_mount 39 = .ok (.aload_n 0, 1) := by decide +kernel
theorem d_M_mount_40 : decode b_M_mount 40 = .ok (.getfield 33, 3) := by decide +kernel
theorem d_M_mount_43 : decode b_M_mount 43 = .ok (.iload 4, 2) := by decide +kernel
theorem d_M_mount_45 : decode b_M_mount 45 = .ok (.iaload, 1) := by decide +kernel
theorem d_M_mount_46 : decode b_M_mount 46 = .ok (.istore 5, 2) := by decide +kernel
theorem d_M_mount_48 : decode b_M_mount 48 = .ok (.iload 5, 2) := by decide +kernel
theorem d_M_mount_50 : decode b_M_mount 50 = .ok (.aload_n 0, 1) := by decide +kernel
theorem d_M_mount_51 : decode b_M_mount 51 = .ok (.getfield 33, 3) := by decide +kernel
theorem d_M_mount_54 : decode b_M_mount 54 = .ok (.iload 4, 2) := by decide +kernel
theorem d_M_mount_56 : decode b_M_mount 56 = .ok (.iconst 1, 1) := by decide +kernel
theorem d_M_mount_57 : decode b_M_mount 57 = .ok (.iadd, 1) := by decide +kernel
theorem d_M_mount_58 : decode b_M_mount 58 = .ok (.iaload, 1) := by decide +kernel
theorem d_M_mount_59 : decode b_M_mount 59 = .ok (.if_icmp .ge 77, 3) := by decide +kernel
theorem d_M_mount_62 : decode b_M_mount 62 = .ok (.aload_n 0, 1) := by decide +kernel
theorem d_M_mount_63 : decode b_M_mount 63 = .ok (.iload 4, 2) := by decide +kernel
theorem d_M_mount_65 : decode b_M_mount 65 = .ok (.aload_n 0, 1) := by decide +kernel
theorem d_M_mount_66 : decode b_M_mount 66 = .ok (.getfield 42, 3) := by decide +kernel
theorem d_M_mount_69 : decode b_M_mount 69 = .ok (.iload 5, 2) := by decide +kernel
theorem d_M_mount_71 : decode b_M_mount 71 = .ok (.iaload, 1) := by decide +kernel
theorem d_M_mount_72 : decode b_M_mount 72 = .ok (.invokevirtual 129, 3) := by decide +kernel
theorem d_M_mount_75 : decode b_M_mount 75 = .ok (.ifCond .ne 55, 3) := by decide +kernel
theorem d_M_mount_78 : decode b_M_mount 78 = .ok (.aload_n 0, 1) := by decide +kernel
theorem d_M_mount_79 : decode b_M_mount 79 = .ok (.iconst 0, 1) := by decide +kernel
theorem d_M_mount_80 : decode b_M_mount 80 = .ok (.aload_n 0, 1) := by decide +kernel
theorem d_M_mount_81 : decode b_M_mount 81 = .ok (.getfield 42, 3) := by decide +kernel
theorem d_M_mount_84 : decode b_M_mount 84 = .ok (.iload 5, 2) := by decide +kernel
theorem d_M_mount_86 : decode b_M_mount 86 = .ok (.iaload, 1) := by decide +kernel
theorem d_M_mount_87 : decode b_M_mount 87 = .ok (.invokevirtual 100, 3) := by decide +kernel
theorem d_M_mount_90 : decode b_M_mount 90 = .ok (.ifCond .ne 5, 3) := by decide +kernel
theorem d_M_mount_93 : decode b_M_mount 93 = .ok (.iconst (-1), 1) := by decide +kernel
theorem d_M_mount_94 : decode b_M_mount 94 = .ok (.ireturn, 1) := by decide +kernel
theorem d_M_mount_95 : decode b_M_mount 95 = .ok (.aload_n 0, 1) := by decide +kernel
theorem d_M_mount_96 : decode b_M_mount 96 = .ok (.aload_n 0, 1) := by decide +kernel
theorem d_M_mount_97 : decode b_M_mount 97 = .ok (.getfield 46, 3) := by decide +kernel
theorem d_M_mount_100 : decode b_M_mount 100 = .ok (.sipush 256, 3) := by decide +kernel
theorem d_M_mount_103 : decode b_M_mount 103 = .ok (.iload 5, 2) := by decide +kernel
theorem d_M_mount_105 : decode b_M_mount 105 = .ok (.imul, 1) := by decide +kernel
theorem d_M_mount_106 : decode b_M_mount 106 = .ok (.aload_n 0, 1) := by decide +kernel
theorem d_M_mount_107 : decode b_M_mount 107 = .ok (.getfield 7, 3) := by decide +kernel
theorem d_M_mount_110 : decode b_M_mount 110 = .ok (.sipush 256, 3) := by decide +kernel
theorem d_M_mount_113 : decode b_M_mount 113 = .ok (.aload_n 0, 1) := by decide +kernel
theorem d_M_mount_114 : decode b_M_mount 114 = .ok (.getfield 42, 3) := by decide +kernel
theorem d_M_mount_117 : decode b_M_mount 117 = .ok (.iload 5, 2) := by decide +kernel
theorem d_M_mount_119 : decode b_M_mount 119 = .ok (.iaload, 1) := by decide +kernel
theorem d_M_mount_120 : decode b_M_mount 120 = .ok (.imul, 1) := by decide +kernel
theorem d_M_mount_121 : decode b_M_mount 121 = .ok (.sipush 256, 3) := by decide +kernel
theorem d_M_mount_124 : decode b_M_mount 124 = .ok (.invokevirtual 85, 3) := by decide +kernel
theorem d_M_mount_127 : decode b_M_mount 127 = .ok (.iinc 3 1, 3) := by decide +kernel
theorem d_M_mount_130 : decode b_M_mount 130 = .ok (.iinc 5 1, 3) := by decide +kernel
theorem d_M_mount_133 : decode b_M_mount 133 = .ok (.goto (-85), 3) := by decide +kernel
theorem d_M_mount_136 : decode b_M_mount 136 = .ok (.iinc 4 1, 3) := by decide +kernel
theorem d_M_mount_139 : decode b_M_mount 139 = .ok (.goto (-109), 3) := by decide +kernel
theorem d_M_mount_142 : decode b_M_mount 142 = .ok (.aload_n 0, 1) := by decide +kernel
theorem d_M_mount_143 : decode b_M_mount 143 = .ok (.getfield 73, 3) := by decide +kernel
theorem d_M_mount_146 : decode b_M_mount 146 = .ok (.ifCond .le 12, 3) := by decide +kernel
theorem d_M_mount_149 : decode b_M_mount 149 = .ok (.aload_n 0, 1) := by decide +kernel
theorem d_M_mount_150 : decode b_M_mount 150 = .ok (.invokevirtual 115, 3) := by decide +kernel
theorem d_M_mount_153 : decode b_M_mount 153 = .ok (.ifCond .ne 5, 3) := by decide +kernel
theorem d_M_mount_156 : decode b_M_mount 156 = .ok (.iconst (-1), 1) := by decide +kernel
theorem d_M_mount_157 : decode b_M_mount 157 = .ok (.ireturn, 1) := by decide +kernel
theorem d_M_mount_158 : decode b_M_mount 158 = .ok (.aload_n 0, 1) := by decide +kernel
theorem d_M_mount_159 : decode b_M_mount 159 = .ok (.aload_n 0, 1) := by decide +kernel
theorem d_M_mount_160 : decode b_M_mount 160 = .ok (.getfield 7, 3) := by decide +kernel
theorem d_M_mount_163 : decode b_M_mount 163 = .ok (.iconst 0, 1) := by decide +kernel
theorem d_M_mount_164 : decode b_M_mount 164 = .ok (.aload_n 0, 1) := by decide +kernel
theorem d_M_mount_165 : decode b_M_mount 165 = .ok (.getfield 16, 3) := by decide +kernel
theorem d_M_mount_168 : decode b_M_mount 168 = .ok (.iconst 0, 1) := by decide +kernel
theorem d_M_mount_169 : decode b_M_mount 169 = .ok (.sipush 16384, 3) := by decide +kernel
theorem d_M_mount_172 : decode b_M_mount 172 = .ok (.invokevirtual 85, 3) := by decide +kernel
theorem d_M_mount_175 : decode b_M_mount 175 = .ok (.iload_n 3, 1) := by decide +kernel
theorem d_M_mount_176 : decode b_M_mount 176 = .ok (.ireturn, 1) := by decide +kernel
theorem d_M_down_0 : decode b_M_down 0 = .ok (.iconst 0, 1) := by decide +kernel
theorem d_M_down_1 : decode b_M_down 1 = .ok (.istore_n 3, 1) := by decide +kernel
theorem d_M_down_2 : decode b_M_down 2 = .ok (.iload_n 3, 1) := by decide +kernel
theorem d_M_down_3 : decode b_M_down 3 = .ok (.aload_n 0, 1) := by decide +kernel
theorem d_M_down_4 : decode b_M_down 4 = .ok (.getfield 70, 3) := by decide +kernel
theorem d_M_down_7 : decode b_M_down 7 = .ok (.if_icmp .ge 210, 3) := by decide +kernel
theorem d_M_down_10 : decode b_M_down 10 = .ok (.iload_n 3, 1) := by decide +kernel
theorem d_M_down_11 : decode b_M_down 11 = .ok (.bipush 32, 2) := by decide +kernel
theorem d_M_down_13 : decode b_M_down 13 = .ok (.if_icmp .ge 16, 3) := by decide +kernel
theorem d_M_down_16 : decode b_M_down 16 = .ok (.lload_n 1, 1) := by decide +kernel
theorem d_M_down_17 : decode b_M_down 17 = .ok (.iconst 2, 1) := by decide +kernel
theorem d_M_down_18 : decode b_M_down 18 = .ok (.iload_n 3, 1) := by decide +kernel
theorem d_M_down_19 : decode b_M_down 19 = .ok (.imul, 1) := by decide +kernel
theorem d_M_down_20 : decode b_M_down 20 = .ok (.lshr, 1) := by decide +kernel
theorem d_M_down_21 : decode b_M_down 21 = .ok (.ldc2_w 123, 3) := by decide +kernel
theorem d_M_down_24 : decode b_M_down 24 = .ok (.land, 1) := by decide +kernel
theorem d_M_down_25 : decode b_M_down 25 = .ok (.l2i, 1) := by decide +kernel
theorem d_M_down_26 : decode b_M_down 26 = .ok (.goto 4, 3) := by decide +kernel
theorem d_M_down_29 : decode b_M_down 29 = .ok (.iconst 0, 1) := by decide +kernel
theorem d_M_down_30 : decode b_M_down 30 = .ok (.istore 4, 2) := by decide +kernel
theorem d_M_down_32 : decode b_M_down 32 = .ok (.sipush 256, 3) := by decide +kernel
theorem d_M_down_35 : decode b_M_down 35 = .ok (.aload_n 0, 1) := by decide +kernel
theorem d_M_down_36 : decode b_M_down 36 = .ok (.getfield 23, 3) := by decide +kernel
theorem d_M_down_39 : decode b_M_down 39 = .ok (.iload_n 3, 1) := by decide +kernel
theorem d_M_down_40 : decode b_M_down 40 = .ok (.iaload, 1) := by decide +kernel
theorem d_M_down_41 : decode b_M_down 41 = .ok (.imul, 1) := by decide +kernel
theorem d_M_down_42 : decode b_M_down 42 = .ok (.istore 5, 2) := by decide +kernel
theorem d_M_down_44 : decode b_M_down 44 = .ok (.iload 4, 2) := by decide +kernel
theorem d_M_down_46 : decode b_M_down 46 = .ok (.iconst 1, 1) := by decide +kernel
theorem d_M_down_47 : decode b_M_down 47 = .ok (.if_icmp .eq 9, 3) := by decide +kernel
theorem d_M_down_50 : decode b_M_down 50 = .ok (.iload 4, 2) := by decide +kernel
theorem d_M_down_52 : decode b_M_down 52 = .ok (.iconst 2, 1) := by decide +kernel
theorem d_M_down_53 : decode b_M_down 53 = .ok (.if_icmp .ne 7, 3) := by decide +kernel
theorem d_M_down_56 : decode b_M_down 56 = .ok (.iconst 1, 1) := by decide +kernel
theorem d_M_down_57 : decode b_M_down 57 = .ok (.goto 4, 3) := by decide +kernel
theorem d_M_down_60 : decode b_M_down 60 = .ok (.iconst 0, 1) := by decide +kernel
theorem d_M_down_61 : decode b_M_down 61 = .ok (.istore 6, 2) := by decide +kernel
theorem d_M_down_63 : decode b_M_down 63 = .ok (.aload_n 0, 1) := by decide +kernel
theorem d_M_down_64 : decode b_M_down 64 = .ok (.getfield 19, 3) := by decide +kernel
theorem d_M_down_67 : decode b_M_down 67 = .ok (.iload_n 3, 1) := by decide +kernel
theorem d_M_down_68 : decode b_M_down 68 = .ok (.iaload, 1) := by decide +kernel
theorem d_M_down_69 : decode b_M_down 69 = .ok (.ifCond .ne 83, 3) := by decide +kernel
theorem d_M_down_72 : decode b_M_down 72 = .ok (.aload_n 0, 1) := by decide +kernel
theorem d_M_down_73 : decode b_M_down 73 = .ok (.iload 6, 2) := by decide +kernel
theorem d_M_down_75 : decode b_M_down 75 = .ok (.ifCond .eq 10, 3) := by decide +kernel
theorem d_M_down_78 : decode b_M_down 78 = .ok (.aload_n 0, 1) := by decide +kernel
theorem d_M_down_79 : decode b_M_down 79 = .ok (.getfield 7, 3) := by decide +kernel
theorem d_M_down_82 : decode b_M_down 82 = .ok (.goto 7, 3) := by decide +kernel
theorem d_M_down_85 : decode b_M_down 85 = .ok (.aload_n 0, 1) := by decide +kernel
theorem d_M_down_86 : decode b_M_down 86 = .ok (.getfield 13, 3) := by decide +kernel
theorem d_M_down_89 : decode b_M_down 89 = .ok (.iload 5, 2) := by decide +kernel
theorem d_M_down_91 : decode b_M_down 91 = .ok (.aload_n 0, 1) := by decide +kernel
theorem d_M_down_92 : decode b_M_down 92 = .ok (.getfield 7, 3) := by decide +kernel
theorem d_M_down_95 : decode b_M_down 95 = .ok (.iload 5, 2) := by decide +kernel
theorem d_M_down_97 : decode b_M_down 97 = .ok (.sipush 128, 3) := by decide +kernel
theorem d_M_down_100 : decode b_M_down 100 = .ok (.invokevirtual 85, 3) := by decide +kernel
theorem d_M_down_103 : decode b_M_down 103 = .ok (.aload_n 0, 1) := by decide +kernel
theorem d_M_down_104 : decode b_M_down 104 = .ok (.iload 4, 2) := by decide +kernel
theorem d_M_down_106 : decode b_M_down 106 = .ok (.iconst 1, 1) := by decide +kernel
theorem d_M_down_107 : decode b_M_down 107 = .ok (.if_icmp .eq 9, 3) := by decide +kernel
theorem d_M_down_110 : decode b_M_down 110 = .ok (.iload 4, 2) := by decide +kernel
theorem d_M_down_112 : decode b_M_down 112 = .ok (.iconst 3, 1) := by decide +kernel
theorem d_M_down_113 : decode b_M_down 113 = .ok (.if_icmp .ne 10, 3) := by decide +kernel
theorem d_M_down_116 : decode b_M_down 116 = .ok (.aload_n 0, 1) := by decide +kernel
theorem d_M_down_117 : decode b_M_down 117 = .ok (.getfield 7, 3) := by decide +kernel
theorem d_M_down_120 : decode b_M_down 120 = .ok (.goto 7, 3) := by decide +kernel
theorem d_M_down_123 : decode b_M_down 123 = .ok (.aload_n 0, 1) := by decide +kernel
theorem d_M_down_124 : decode b_M_down 124 = .ok (.getfield 13, 3) := by decide +kernel
theorem d_M_down_127 : decode b_M_down 127 = .ok (.iload 5, 2) := by decide +kernel
theorem d_M_down_129 : decode b_M_down 129 = .ok (.sipush 128, 3) := by decide +kernel
theorem d_M_down_132 : decode b_M_down 132 = .ok (.iadd, 1) := by decide +kernel
theorem d_M_down_133 : decode b_M_down 133 = .ok (.aload_n 0, 1) := by decide +kernel
theorem d_M_down_134 : decode b_M_down 134 = .ok (.getfield 7, 3) := by decide +kernel
theorem d_M_down_137 : decode b_M_down 137 = .ok (.iload 5, 2) := by decide +kernel
theorem d_M_down_139 : decode b_M_down 139 = .ok (.sipush 128, 3) := by decide +kernel
theorem d_M_down_142 : decode b_M_down 142 = .ok (.iadd, 1) := by decide +kernel
theorem d_M_down_143 : decode b_M_down 143 = .ok (.sipush 128, 3) := by decide +kernel
theorem d_M_down_146 : decode b_M_down 146 = .ok (.invokevirtual 85, 3) := by decide +kernel
theorem d_M_down_149 : decode b_M_down 149 = .ok (.goto 62, 3) := by decide +kernel
theorem d_M_down_152 : decode b_M_down 152 = .ok (.aload_n 0, 1) := by decide +kernel
theorem d_M_down_153 : decode b_M_down 153 = .ok (.getfield 19, 3) := by decide +kernel
theorem d_M_down_156 : decode b_M_down 156 = .ok (.iload_n 3, 1) := by decide +kernel
theorem d_M_down_157 : decode b_M_down 157 = .ok (.iaload, 1) := by decide +kernel
theorem d_M_down_158 : decode b_M_down 158 = .ok (.iconst 2, 1) := by decide +kernel
theorem d_M_down_159 : decode b_M_down 159 = .ok (.if_icmp .ne 25, 3) := by decide +kernel
theorem d_M_down_162 : decode b_M_down 162 = .ok (.aload_n 0, 1) := by decide +kernel
theorem d_M_down_163 : decode b_M_down 163 = .ok (.dup, 1) := by decide +kernel
theorem d_M_down_164 : decode b_M_down 164 = .ok (.getfield 73, 3) := by decide +kernel
theorem d_M_down_167 : decode b_M_down 167 = .ok (.iload 6, 2) := by decide +kernel
theorem d_M_down_169 : decode b_M_down 169 = .ok (.ifCond .eq 7, 3) := by decide +kernel
theorem d_M_down_172 : decode b_M_down 172 = .ok (.iconst 0, 1) := by decide +kernel
theorem d_M_down_173 : decode b_M_down 173 = .ok (.goto 4, 3) := by decide +kernel
theorem d_M_down_176 : decode b_M_down 176 = .ok (.iconst 1, 1) := by decide +kernel
theorem d_M_down_177 : decode b_M_down 177 = .ok (.isub, 1) := by decide +kernel
theorem d_M_down_178 : decode b_M_down 178 = .ok (.putfield 73, 3) := by decide +kernel
theorem d_M_down_181 : decode b_M_down 181 = .ok (.goto 30, 3) := by decide +kernel
theorem d_M_down_184 : decode b_M_down 184 = .ok (.aload_n 0, 1) := by decide +kernel
theorem d_M_down_185 : decode b_M_down 185 = .ok (.getfield 19, 3) := by decide +kernel
theorem d_M_down_188 : decode b_M_down 188 = .ok (.iload_n 3, 1) := by decide +kernel
theorem d_M_down_189 : decode b_M_down 189 = .ok (.iaload, 1) := by decide +kernel
theorem d_M_down_190 : decode b_M_down 190 = .ok (.iconst 3, 1) := by decide +kernel
theorem d_M_down_191 : decode b_M_down 191 = .ok (.if_icmp .ne 20, 3) := by decide +kernel
theorem d_M_down_194 : decode b_M_down 194 = .ok (.aload_n 0, 1) := by decide +kernel
theorem d_M_down_195 : decode b_M_down 195 = .ok (.iload 6, 2) := by decide +kernel
theorem d_M_down_197 : decode b_M_down 197 = .ok (.ifCond .eq 7, 3) := by decide +kernel
theorem d_M_down_200 : decode b_M_down 200 = .ok (.iconst 0, 1) := by decide +kernel
theorem d_M_down_201 : decode b_M_down 201 = .ok (.goto 7, 3) := by decide +kernel
theorem d_M_down_204 : decode b_M_down 204 = .ok (.aload_n 0, 1) := by decide +kernel
theorem d_M_down_205 : decode b_M_down 205 = .ok (.getfield 119, 3) := by decide +kernel
theorem d_M_down_208 : decode b_M_down 208 = .ok (.putfield 73, 3) := by decide +kernel
theorem d_M_down_211 : decode b_M_down 211 = .ok (.iinc 3 1, 3) := by decide +kernel
theorem d_M_down_214 : decode b_M_down 214 = .ok (.goto (-212), 3) := by decide +kernel
theorem d_M_down_217 : decode b_M_down 217 = .ok (.aload_n 0, 1) := by decide +kernel
theorem d_M_down_218 : decode b_M_down 218 = .ok (.invokevirtual 82, 3) := by decide +kernel
theorem d_M_down_221 : decode b_M_down 221 = .ok (.return_, 1) := by decide +kernel
theorem d_M_isRevoked_0 : decode b_M_isRevoked 0 = .ok (.iconst 0, 1) := by decide +kernel
theorem d_M_isRevoked_1 : decode b_M_isRevoked 1 = .ok (.istore_n 3, 1) := by decide +kernel
theorem d_M_isRevoked_2 : decode b_M_isRevoked 2 = .ok (.iload_n 1, 1) := by decide +kernel
theorem d_M_isRevoked_3 : decode b_M_isRevoked 3 = .ok (.istore 4, 2) := by decide +kernel
theorem d_M_isRevoked_5 : decode b_M_isRevoked 5 = .ok (.iload 4, 2) := by decide +kernel
theorem d_M_isRevoked_7 : decode b_M_isRevoked 7 = .ok (.aload_n 0, 1) := by decide +kernel
theorem d_M_isRevoked_8 : decode b_M_isRevoked 8 = .ok (.getfield 73, 3) := by decide +kernel
theorem d_M_isRevoked_11 : decode b_M_isRevoked 11 = .ok (.if_icmp .ge 34, 3) := by decide +kernel
theorem d_M_isRevoked_14 : decode b_M_isRevoked 14 = .ok (.iload_n 3, 1) := by decide +kernel
theorem d_M_isRevoked_15 : decode b_M_isRevoked 15 = .ok (.ifCond .ne 18, 3) := by decide +kernel
theorem d_M_isRevoked_18 : decode b_M_isRevoked 18 = .ok (.aload_n 0, 1) := by decide +kernel
theorem d_M_isRevoked_19 : decode b_M_isRevoked 19 = .ok (.getfield 39, 3) := by decide +kernel
theorem d_M_isRevoked_22 : decode b_M_isRevoked 22 = .ok (.bipush 64, 2) := by decide +kernel
theorem d_M_isRevoked_24 : decode b_M_isRevoked 24 = .ok (.iload 4, 2) := by decide +kernel
theorem d_M_isRevoked_26 : decode b_M_isRevoked 26 = .ok (.imul, 1) := by decide +kernel
theorem d_M_isRevoked_27 : decode b_M_isRevoked 27 = .ok (.iload_n 2, 1) := by decide +kernel
theorem d_M_isRevoked_28 : decode b_M_isRevoked 28 = .ok (.iadd, 1) := by decide +kernel
theorem d_M_isRevoked_29 : decode b_M_isRevoked 29 = .ok (.baload, 1) := by decide +kernel
theorem d_M_isRevoked_30 : decode b_M_isRevoked 30 = .ok (.ifCond .eq 7, 3) := by decide +kernel
theorem d_M_isRevoked_33 : decode b_M_isRevoked 33 = .ok (.iconst 1, 1) := by decide +kernel
theorem d_M_isRevoked_34 : decode b_M_isRevoked 34 = .ok (.goto 4, 3) := by decide +kernel
theorem d_M_isRevoked_37 : decode b_M_isRevoked 37 = .ok (.iconst 0, 1) := by decide +kernel
theorem d_M_isRevoked_38 : decode b_M_isRevoked 38 = .ok (.istore_n 3, 1) := by decide +kernel
theorem d_M_isRevoked_39 : decode b_M_isRevoked 39 = .ok (.iinc 4 1, 3) := by decide +kernel
theorem d_M_isRevoked_42 : decode b_M_isRevoked 42 = .ok (.goto (-37), 3) := by decide +kernel
theorem d_M_isRevoked_45 : decode b_M_isRevoked 45 = .ok (.iload_n 3, 1) := by decide +kernel
theorem d_M_isRevoked_46 : decode b_M_isRevoked 46 = .ok (.ireturn, 1) := by decide +kernel
theorem d_M_count_0 : decode b_M_count 0 = .ok (.aload_n 0, 1) := by decide +kernel
theorem d_M_count_1 : decode b_M_count 1 = .ok (.iconst 0, 1) := by decide +kernel
theorem d_M_count_2 : decode b_M_count 2 = .ok (.putfield 53, 3) := by decide +kernel
theorem d_M_count_5 : decode b_M_count 5 = .ok (.aload_n 0, 1) := by decide +kernel
theorem d_M_count_6 : decode b_M_count 6 = .ok (.getfield 60, 3) := by decide +kernel
theorem d_M_count_9 : decode b_M_count 9 = .ok (.ifCond .eq 5, 3) := by decide +kernel
theorem d_M_count_12 : decode b_M_count 12 = .ok (.iconst (-1), 1) := by decide +kernel
theorem d_M_count_13 : decode b_M_count 13 = .ok (.ireturn, 1) := by decide +kernel
theorem d_M_count_14 : decode b_M_count 14 = .ok (.iconst 0, 1) := by decide +kernel
theorem d_M_count_15 : decode b_M_count 15 = .ok (.istore_n 2, 1) := by decide +kernel
theorem d_M_count_16 : decode b_M_count 16 = .ok (.iload_n 1, 1) := by decide +kernel
theorem d_M_count_17 : decode b_M_count 17 = .ok (.tableswitch 113 0 6 #[43, 48, 53, 85, 94, 103, 108], 43) := by decide +kernel
theorem d_M_count_60 : decode b_M_count 60 = .ok (.aload_n 0, 1) := by decide +kernel
theorem d_M_count_61 : decode b_M_count 61 = .ok (.getfield 73, 3) := by decide +kernel
theorem d_M_count_64 : decode b_M_count 64 = .ok (.ireturn, 1) := by decide +kernel
theorem d_M_count_65 : decode b_M_count 65 = .ok (.aload_n 0, 1) := by decide +kernel
theorem d_M_count_66 : decode b_M_count 66 = .ok (.invokevirtual 104, 3) := by decide +kernel
theorem d_M_count_69 : decode b_M_count 69 = .ok (.ireturn, 1) := by decide +kernel
theorem d_M_count_70 : decode b_M_count 70 = .ok (.iconst 0, 1) := by decide +kernel
theorem d_M_count_71 : decode b_M_count 71 = .ok (.istore_n 3, 1) := by decide +kernel
theorem d_M_count_72 : decode b_M_count 72 = .ok (.iload_n 3, 1) := by decide +kernel
theorem d_M_count_73 : decode b_M_count 73 = .ok (.bipush 64, 2) := by decide +kernel
theorem d_M_count_75 : decode b_M_count 75 = .ok (.if_icmp .ge 25, 3) := by decide +kernel
theorem d_M_count_78 : decode b_M_count 78 = .ok (.iload_n 2, 1) := by decide +kernel
theorem d_M_count_79 : decode b_M_count 79 = .ok (.aload_n 0, 1) := by decide +kernel
theorem d_M_count_80 : decode b_M_count 80 = .ok (.iload_n 3, 1) := by decide +kernel
theorem d_M_count_81 : decode b_M_count 81 = .ok (.invokevirtual 97, 3) := by decide +kernel
theorem d_M_count_84 : decode b_M_count 84 = .ok (.ifCond .lt 7, 3) := by decide +kernel
theorem d_M_count_87 : decode b_M_count 87 = .ok (.iconst 1, 1) := by decide +kernel
theorem d_M_count_88 : decode b_M_count 88 = .ok (.goto 4, 3) := by decide +kernel
theorem d_M_count_91 : decode b_M_count 91 = .ok (.iconst 0, 1) := by decide +kernel
theorem d_M_count_92 : decode b_M_count 92 = .ok (.iadd, 1) := by decide +kernel
theorem d_M_count_93 : decode b_M_count 93 = .ok (.istore_n 2, 1) := by decide +kernel
theorem d_M_count_94 : decode b_M_count 94 = .ok (.iinc 3 1, 3) := by decide +kernel
theorem d_M_count_97 : decode b_M_count 97 = .ok (.goto (-25), 3) := by decide +kernel
theorem d_M_count_100 : decode b_M_count 100 = .ok (.iload_n 2, 1) := by decide +kernel
theorem d_M_count_101 : decode b_M_count 101 = .ok (.ireturn, 1) := by decide +kernel
theorem d_M_count_102 : decode b_M_count 102 = .ok (.aload_n 0, 1) := by decide +kernel
theorem d_M_count_103 : decode b_M_count 103 = .ok (.aload_n 0, 1) := by decide +kernel
theorem d_M_count_104 : decode b_M_count 104 = .ok (.getfield 26, 3) := by decide +kernel
theorem d_M_count_107 : decode b_M_count 107 = .ok (.invokevirtual 93, 3) := by decide +kernel
theorem d_M_count_110 : decode b_M_count 110 = .ok (.ireturn, 1) := by decide +kernel
theorem d_M_count_111 : decode b_M_count 111 = .ok (.aload_n 0, 1) := by decide +kernel
theorem d_M_count_112 : decode b_M_count 112 = .ok (.aload_n 0, 1) := by decide +kernel
theorem d_M_count_113 : decode b_M_count 113 = .ok (.getfield 30, 3) := by decide +kernel
theorem d_M_count_116 : decode b_M_count 116 = .ok (.invokevirtual 93, 3) := by decide +kernel
theorem d_M_count_119 : decode b_M_count 119 = .ok (.ireturn, 1) := by decide +kernel
theorem d_M_count_120 : decode b_M_count 120 = .ok (.aload_n 0, 1) := by decide +kernel
theorem d_M_count_121 : decode b_M_count 121 = .ok (.getfield 67, 3) := by decide +kernel
theorem d_M_count_124 : decode b_M_count 124 = .ok (.ireturn, 1) := by decide +kernel
theorem d_M_count_125 : decode b_M_count 125 = .ok (.aload_n 0, 1) := by decide +kernel
theorem d_M_count_126 : decode b_M_count 126 = .ok (.getfield 70, 3) := by decide +kernel
theorem d_M_count_129 : decode b_M_count 129 = .ok (.ireturn, 1) := by decide +kernel
theorem d_M_count_130 : decode b_M_count 130 = .ok (.bipush (-2), 2) := by decide +kernel
theorem d_M_count_132 : decode b_M_count 132 = .ok (.ireturn, 1) := by decide +kernel
