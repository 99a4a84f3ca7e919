theorem dX9_climbsByItself_28 : decode cX9_climbsByItself 28 = .ok (.if_icmp .lt 17, 3) := by decide +kernel
theorem dX9_climbsByItself_31 : decode cX9_climbsByItself 31 = .ok (.aload_n 0, 1) := by decide +kernel
theorem dX9_climbsByItself_32 : decode cX9_climbsByItself 32 = .ok (.iload_n 1, 1) := by decide +kernel
theorem dX9_climbsByItself_33 : decode cX9_climbsByItself 33 = .ok (.iconst 4, 1) := by decide +kernel
theorem dX9_climbsByItself_34 : decode cX9_climbsByItself 34 = .ok (.invokevirtual 36, 3) := by decide +kernel
theorem dX9_climbsByItself_37 : decode cX9_climbsByItself 37 = .ok (.iconst 3, 1) := by decide +kernel
theorem dX9_climbsByItself_38 : decode cX9_climbsByItself 38 = .ok (.if_icmp .ge 7, 3) := by decide +kernel
theorem dX9_climbsByItself_41 : decode cX9_climbsByItself 41 = .ok (.iconst 1, 1) := by decide +kernel
theorem dX9_climbsByItself_42 : decode cX9_climbsByItself 42 = .ok (.goto 4, 3) := by decide +kernel
theorem dX9_climbsByItself_45 : decode cX9_climbsByItself 45 = .ok (.iconst 0, 1) := by decide +kernel
theorem dX9_climbsByItself_46 : decode cX9_climbsByItself 46 = .ok (.ireturn, 1) := by decide +kernel
theorem dX9_passMinute_0 : decode cX9_passMinute 0 = .ok (.aload_n 0, 1) := by decide +kernel
theorem dX9_passMinute_1 : decode cX9_passMinute 1 = .ok (.aload_n 0, 1) := by decide +kernel
theorem dX9_passMinute_2 : decode cX9_passMinute 2 = .ok (.getfield 7, 3) := by decide +kernel
theorem dX9_passMinute_5 : decode cX9_passMinute 5 = .ok (.iconst 0, 1) := by decide +kernel
theorem dX9_passMinute_6 : decode cX9_passMinute 6 = .ok (.iaload, 1) := by decide +kernel
theorem dX9_passMinute_7 : decode cX9_passMinute 7 = .ok (.invokevirtual 130, 3) := by decide +kernel
theorem dX9_passMinute_10 : decode cX9_passMinute 10 = .ok (.istore_n 1, 1) := by decide +kernel
theorem dX9_passMinute_11 : decode cX9_passMinute 11 = .ok (.iconst 0, 1) := by decide +kernel
theorem dX9_passMinute_12 : decode cX9_passMinute 12 = .ok (.istore_n 2, 1) := by decide +kernel
theorem dX9_passMinute_13 : decode cX9_passMinute 13 = .ok (.iload_n 2, 1) := by decide +kernel
theorem dX9_passMinute_14 : decode cX9_passMinute 14 = .ok (.iconst 4, 1) := by decide +kernel
theorem dX9_passMinute_15 : decode cX9_passMinute 15 = .ok (.if_icmp .ge 18, 3) := by decide +kernel
theorem dX9_passMinute_18 : decode cX9_passMinute 18 = .ok (.iload_n 1, 1) := by decide +kernel
theorem dX9_passMinute_19 : decode cX9_passMinute 19 = .ok (.ifCond .eq 14, 3) := by decide +kernel
theorem dX9_passMinute_22 : decode cX9_passMinute 22 = .ok (.aload_n 0, 1) := by decide +kernel
theorem dX9_passMinute_23 : decode cX9_passMinute 23 = .ok (.iload_n 2, 1) := by decide +kernel
theorem dX9_passMinute_24 : decode cX9_passMinute 24 = .ok (.invokevirtual 166, 3) := by decide +kernel
theorem dX9_passMinute_27 : decode cX9_passMinute 27 = .ok (.iinc 2 1, 3) := by decide +kernel
theorem dX9_passMinute_30 : decode cX9_passMinute 30 = .ok (.goto (-17), 3) := by decide +kernel
theorem dX9_passMinute_33 : decode cX9_passMinute 33 = .ok (.iconst 0, 1) := by decide +kernel
theorem dX9_passMinute_34 : decode cX9_passMinute 34 = .ok (.istore_n 2, 1) := by decide +kernel
theorem dX9_passMinute_35 : decode cX9_passMinute 35 = .ok (.iload_n 2, 1) := by decide +kernel
theorem dX9_passMinute_36 : decode cX9_passMinute 36 = .ok (.aload_n 0, 1) := by decide +kernel
theorem dX9_passMinute_37 : decode cX9_passMinute 37 = .ok (.getfield 7, 3) := by decide +kernel
theorem dX9_passMinute_40 : decode cX9_passMinute 40 = .ok (.bipush 56, 2) := by decide +kernel
theorem dX9_passMinute_42 : decode cX9_passMinute 42 = .ok (.iaload, 1) := by decide +kernel
theorem dX9_passMinute_43 : decode cX9_passMinute 43 = .ok (.if_icmp .ge 28, 3) := by decide +kernel
theorem dX9_passMinute_46 : decode cX9_passMinute 46 = .ok (.iload_n 1, 1) := by decide +kernel
theorem dX9_passMinute_47 : decode cX9_passMinute 47 = .ok (.ifCond .ne 13, 3) := by decide +kernel
theorem dX9_passMinute_50 : decode cX9_passMinute 50 = .ok (.aload_n 0, 1) := by decide +kernel
theorem dX9_passMinute_51 : decode cX9_passMinute 51 = .ok (.iload_n 2, 1) := by decide +kernel
theorem dX9_passMinute_52 : decode cX9_passMinute 52 = .ok (.iconst 5, 1) := by decide +kernel
theorem dX9_passMinute_53 : decode cX9_passMinute 53 = .ok (.invokevirtual 144, 3) := by decide +kernel
theorem dX9_passMinute_56 : decode cX9_passMinute 56 = .ok (.iconst 1, 1) := by decide +kernel
theorem dX9_passMinute_57 : decode cX9_passMinute 57 = .ok (.if_icmp .ne 8, 3) := by decide +kernel
theorem dX9_passMinute_60 : decode cX9_passMinute 60 = .ok (.aload_n 0, 1) := by decide +kernel
theorem dX9_passMinute_61 : decode cX9_passMinute 61 = .ok (.iload_n 2, 1) := by decide +kernel
theorem dX9_passMinute_62 : decode cX9_passMinute 62 = .ok (.invokevirtual 170, 3) := by decide +kernel
theorem dX9_passMinute_65 : decode cX9_passMinute 65 = .ok (.iinc 2 1, 3) := by decide +kernel
theorem dX9_passMinute_68 : decode cX9_passMinute 68 = .ok (.goto (-33), 3) := by decide +kernel
theorem dX9_passMinute_71 : decode cX9_passMinute 71 = .ok (.iconst 0, 1) := by decide +kernel
theorem dX9_passMinute_72 : decode cX9_passMinute 72 = .ok (.istore_n 2, 1) := by decide +kernel
theorem dX9_passMinute_73 : decode cX9_passMinute 73 = .ok (.iconst 0, 1) := by decide +kernel
theorem dX9_passMinute_74 : decode cX9_passMinute 74 = .ok (.istore_n 3, 1) := by decide +kernel
theorem dX9_passMinute_75 : decode cX9_passMinute 75 = .ok (.iload_n 3, 1) := by decide +kernel
theorem dX9_passMinute_76 : decode cX9_passMinute 76 = .ok (.aload_n 0, 1) := by decide +kernel
theorem dX9_passMinute_77 : decode cX9_passMinute 77 = .ok (.getfield 7, 3) := by decide +kernel
theorem dX9_passMinute_80 : decode cX9_passMinute 80 = .ok (.bipush 56, 2) := by decide +kernel
theorem dX9_passMinute_82 : decode cX9_passMinute 82 = .ok (.iaload, 1) := by decide +kernel
theorem dX9_passMinute_83 : decode cX9_passMinute 83 = .ok (.if_icmp .ge 30, 3) := by decide +kernel
theorem dX9_passMinute_86 : decode cX9_passMinute 86 = .ok (.iload_n 1, 1) := by decide +kernel
theorem dX9_passMinute_87 : decode cX9_passMinute 87 = .ok (.ifCond .eq 26, 3) := by decide +kernel
theorem dX9_passMinute_90 : decode cX9_passMinute 90 = .ok (.aload_n 0, 1) := by decide +kernel
theorem dX9_passMinute_91 : decode cX9_passMinute 91 = .ok (.iload_n 3, 1) := by decide +kernel
theorem dX9_passMinute_92 : decode cX9_passMinute 92 = .ok (.iconst 1, 1) := by decide +kernel
theorem dX9_passMinute_93 : decode cX9_passMinute 93 = .ok (.invokevirtual 87, 3) := by decide +kernel
theorem dX9_passMinute_96 : decode cX9_passMinute 96 = .ok (.ifCond .eq 11, 3) := by decide +kernel
theorem dX9_passMinute_99 : decode cX9_passMinute 99 = .ok (.iload_n 2, 1) := by decide +kernel
theorem dX9_passMinute_100 : decode cX9_passMinute 100 = .ok (.aload_n 0, 1) := by decide +kernel
theorem dX9_passMinute_101 : decode cX9_passMinute 101 = .ok (.iload_n 3, 1) := by decide +kernel
theorem dX9_passMinute_102 : decode cX9_passMinute 102 = .ok (.invokevirtual 173, 3) := by decide +kernel
theorem dX9_passMinute_105 : decode cX9_passMinute 105 = .ok (.iadd, 1) := by decide +kernel
theorem dX9_passMinute_106 : decode cX9_passMinute 106 = .ok (.istore_n 2, 1) := by decide +kernel
theorem dX9_passMinute_107 : decode cX9_passMinute 107 = .ok (.iinc 3 1, 3) := by decide +kernel
theorem dX9_passMinute_110 : decode cX9_passMinute 110 = .ok (.goto (-35), 3) := by decide +kernel
theorem dX9_passMinute_113 : decode cX9_passMinute 113 = .ok (.iconst 0, 1) := by decide +kernel
theorem dX9_passMinute_114 : decode cX9_passMinute 114 = .ok (.istore_n 3, 1) := by decide +kernel
theorem dX9_passMinute_115 : decode cX9_passMinute 115 = .ok (.iload_n 3, 1) := by decide +kernel
theorem dX9_passMinute_116 : decode cX9_passMinute 116 = .ok (.aload_n 0, 1) := by decide +kernel
theorem dX9_passMinute_117 : decode cX9_passMinute 117 = .ok (.getfield 7, 3) := by decide +kernel
theorem dX9_passMinute_120 : decode cX9_passMinute 120 = .ok (.bipush 56, 2) := by decide +kernel
theorem dX9_passMinute_122 : decode cX9_passMinute 122 = .ok (.iaload, 1) := by decide +kernel
theorem dX9_passMinute_123 : decode cX9_passMinute 123 = .ok (.if_icmp .ge 30, 3) := by decide +kernel
theorem dX9_passMinute_126 : decode cX9_passMinute 126 = .ok (.aload_n 0, 1) := by decide +kernel
theorem dX9_passMinute_127 : decode cX9_passMinute 127 = .ok (.iload_n 3, 1) := by decide +kernel
theorem dX9_passMinute_128 : decode cX9_passMinute 128 = .ok (.invokevirtual 176, 3) := by decide +kernel
theorem dX9_passMinute_131 : decode cX9_passMinute 131 = .ok (.ifCond .eq 16, 3) := by decide +kernel
theorem dX9_passMinute_134 : decode cX9_passMinute 134 = .ok (.aload_n 0, 1) := by decide +kernel
theorem dX9_passMinute_135 : decode cX9_passMinute 135 = .ok (.iload_n 3, 1) := by decide +kernel
theorem dX9_passMinute_136 : decode cX9_passMinute 136 = .ok (.aload_n 0, 1) := by decide +kernel
theorem dX9_passMinute_137 : decode cX9_passMinute 137 = .ok (.getfield 7, 3) := by decide +kernel
theorem dX9_passMinute_140 : decode cX9_passMinute 140 = .ok (.iconst 0, 1) := by decide +kernel
theorem dX9_passMinute_141 : decode cX9_passMinute 141 = .ok (.iaload, 1) := by decide +kernel
theorem dX9_passMinute_142 : decode cX9_passMinute 142 = .ok (.iconst 1, 1) := by decide +kernel
theorem dX9_passMinute_143 : decode cX9_passMinute 143 = .ok (.iadd, 1) := by decide +kernel
theorem dX9_passMinute_144 : decode cX9_passMinute 144 = .ok (.invokevirtual 104, 3) := by decide +kernel
theorem dX9_passMinute_147 : decode cX9_passMinute 147 = .ok (.iinc 3 1, 3) := by decide +kernel
theorem dX9_passMinute_150 : decode cX9_passMinute 150 = .ok (.goto (-35), 3) := by decide +kernel
theorem dX9_passMinute_153 : decode cX9_passMinute 153 = .ok (.aload_n 0, 1) := by decide +kernel
theorem dX9_passMinute_154 : decode cX9_passMinute 154 = .ok (.getfield 7, 3) := by decide +kernel
theorem dX9_passMinute_157 : decode cX9_passMinute 157 = .ok (.iconst 0, 1) := by decide +kernel
theorem dX9_passMinute_158 : decode cX9_passMinute 158 = .ok (.dup2, 1) := by decide +kernel
theorem dX9_passMinute_159 : decode cX9_passMinute 159 = .ok (.iaload, 1) := by decide +kernel
theorem dX9_passMinute_160 : decode cX9_passMinute 160 = .ok (.iconst 1, 1) := by decide +kernel
theorem dX9_passMinute_161 : decode cX9_passMinute 161 = .ok (.iadd, 1) := by decide +kernel
theorem dX9_passMinute_162 : decode cX9_passMinute 162 = .ok (.iastore, 1) := by decide +kernel
theorem dX9_passMinute_163 : decode cX9_passMinute 163 = .ok (.iload_n 2, 1) := by decide +kernel
theorem dX9_passMinute_164 : decode cX9_passMinute 164 = .ok (.ireturn, 1) := by decide +kernel
theorem dX9_pass_0 : decode cX9_pass 0 = .ok (.iload_n 1, 1) := by decide +kernel
theorem dX9_pass_1 : decode cX9_pass 1 = .ok (.iconst 1, 1) := by decide +kernel
theorem dX9_pass_2 : decode cX9_pass 2 = .ok (.sipush 10080, 3) := by decide +kernel
theorem dX9_pass_5 : decode cX9_pass 5 = .ok (.aload_n 0, 1) := by decide +kernel
theorem dX9_pass_6 : decode cX9_pass 6 = .ok (.getfield 7, 3) := by decide +kernel
theorem dX9_pass_9 : decode cX9_pass 9 = .ok (.iconst 0, 1) := by decide +kernel
theorem dX9_pass_10 : decode cX9_pass 10 = .ok (.iaload, 1) := by decide +kernel
theorem dX9_pass_11 : decode cX9_pass 11 = .ok (.isub, 1) := by decide +kernel
theorem dX9_pass_12 : decode cX9_pass 12 = .ok (.invokestatic 43, 3) := by decide +kernel
theorem dX9_pass_15 : decode cX9_pass 15 = .ok (.ifCond .ne 6, 3) := by decide +kernel
theorem dX9_pass_18 : decode cX9_pass 18 = .ok (.bipush (-4), 2) := by decide +kernel
theorem dX9_pass_20 : decode cX9_pass 20 = .ok (.ireturn, 1) := by decide +kernel
theorem dX9_pass_21 : decode cX9_pass 21 = .ok (.iconst 0, 1) := by decide +kernel
theorem dX9_pass_22 : decode cX9_pass 22 = .ok (.istore_n 2, 1) := by decide +kernel
theorem dX9_pass_23 : decode cX9_pass 23 = .ok (.iconst 0, 1) := by decide +kernel
theorem dX9_pass_24 : decode cX9_pass 24 = .ok (.istore_n 3, 1) := by decide +kernel
theorem dX9_pass_25 : decode cX9_pass 25 = .ok (.iload_n 3, 1) := by decide +kernel
theorem dX9_pass_26 : decode cX9_pass 26 = .ok (.iload_n 1, 1) := by decide +kernel
theorem dX9_pass_27 : decode cX9_pass 27 = .ok (.if_icmp .ge 16, 3) := by decide +kernel
theorem dX9_pass_30 : decode cX9_pass 30 = .ok (.iload_n 2, 1) := by decide +kernel
theorem dX9_pass_31 : decode cX9_pass 31 = .ok (.aload_n 0, 1) := by decide +kernel
theorem dX9_pass_32 : decode cX9_pass 32 = .ok (.invokevirtual 179, 3) := by decide +kernel
theorem dX9_pass_35 : decode cX9_pass 35 = .ok (.iadd, 1) := by decide +kernel
theorem dX9_pass_36 : decode cX9_pass 36 = .ok (.istore_n 2, 1) := by decide +kernel
theorem dX9_pass_37 : decode cX9_pass 37 = .ok (.iinc 3 1, 3) := by decide +kernel
theorem dX9_pass_40 : decode cX9_pass 40 = .ok (.goto (-15), 3) := by decide +kernel
theorem dX9_pass_43 : decode cX9_pass 43 = .ok (.iload_n 2, 1) := by decide +kernel
theorem dX9_pass_44 : decode cX9_pass 44 = .ok (.ireturn, 1) := by decide +kernel
theorem dX9_now_0 : decode cX9_now 0 = .ok (.aload_n 0, 1) := by decide +kernel
theorem dX9_now_1 : decode cX9_now 1 = .ok (.getfield 7, 3) := by decide +kernel
theorem dX9_now_4 : decode cX9_now 4 = .ok (.iconst 0, 1) := by decide +kernel
theorem dX9_now_5 : decode cX9_now 5 = .ok (.iaload, 1) := by decide +kernel
theorem dX9_now_6 : decode cX9_now 6 = .ok (.ireturn, 1) := by decide +kernel
theorem dX9_ticketCount_0 : decode cX9_ticketCount 0 = .ok (.aload_n 0, 1) := by decide +kernel
theorem dX9_ticketCount_1 : decode cX9_ticketCount 1 = .ok (.getfield 7, 3) := by decide +kernel
theorem dX9_ticketCount_4 : decode cX9_ticketCount 4 = .ok (.bipush 56, 2) := by decide +kernel
theorem dX9_ticketCount_6 : decode cX9_ticketCount 6 = .ok (.iaload, 1) := by decide +kernel
theorem dX9_ticketCount_7 : decode cX9_ticketCount 7 = .ok (.ireturn, 1) := by decide +kernel
theorem dX9_fieldOf_0 : decode cX9_fieldOf 0 = .ok (.aload_n 0, 1) := by decide +kernel
theorem dX9_fieldOf_1 : decode cX9_fieldOf 1 = .ok (.iload_n 1, 1) := by decide +kernel
theorem dX9_fieldOf_2 : decode cX9_fieldOf 2 = .ok (.invokevirtual 75, 3) := by decide +kernel
theorem dX9_fieldOf_5 : decode cX9_fieldOf 5 = .ok (.ifCond .eq 12, 3) := by decide +kernel
theorem dX9_fieldOf_8 : decode cX9_fieldOf 8 = .ok (.aload_n 0, 1) := by decide +kernel
theorem dX9_fieldOf_9 : decode cX9_fieldOf 9 = .ok (.iload_n 1, 1) := by decide +kernel
theorem dX9_fieldOf_10 : decode cX9_fieldOf 10 = .ok (.iload_n 2, 1) := by decide +kernel
theorem dX9_fieldOf_11 : decode cX9_fieldOf 11 = .ok (.invokevirtual 36, 3) := by decide +kernel
theorem dX9_fieldOf_14 : decode cX9_fieldOf 14 = .ok (.goto 5, 3) := by decide +kernel
theorem dX9_fieldOf_17 : decode cX9_fieldOf 17 = .ok (.bipush (-2), 2) := by decide +kernel
theorem dX9_fieldOf_19 : decode cX9_fieldOf 19 = .ok (.ireturn, 1) := by decide +kernel
theorem dX9_stateOf_0 : decode cX9_stateOf 0 = .ok (.aload_n 0, 1) := by decide +kernel
theorem dX9_stateOf_1 : decode cX9_stateOf 1 = .ok (.iload_n 1, 1) := by decide +kernel
theorem dX9_stateOf_2 : decode cX9_stateOf 2 = .ok (.bipush 9, 2) := by decide +kernel
theorem dX9_stateOf_4 : decode cX9_stateOf 4 = .ok (.invokevirtual 183, 3) := by decide +kernel
theorem dX9_stateOf_7 : decode cX9_stateOf 7 = .ok (.ireturn, 1) := by decide +kernel
theorem dX9_kindOf_0 : decode cX9_kindOf 0 = .ok (.aload_n 0, 1) := by decide +kernel
theorem dX9_kindOf_1 : decode cX9_kindOf 1 = .ok (.iload_n 1, 1) := by decide +kernel
theorem dX9_kindOf_2 : decode cX9_kindOf 2 = .ok (.iconst 0, 1) := by decide +kernel
theorem dX9_kindOf_3 : decode cX9_kindOf 3 = .ok (.invokevirtual 183, 3) := by decide +kernel
theorem dX9_kindOf_6 : decode cX9_kindOf 6 = .ok (.ireturn, 1) := by decide +kernel
theorem dX9_levelOf_0 : decode cX9_levelOf 0 = .ok (.aload_n 0, 1) := by decide +kernel
theorem dX9_levelOf_1 : decode cX9_levelOf 1 = .ok (.iload_n 1, 1) := by decide +kernel
theorem dX9_levelOf_2 : decode cX9_levelOf 2 = .ok (.iconst 4, 1) := by decide +kernel
theorem dX9_levelOf_3 : decode cX9_levelOf 3 = .ok (.invokevirtual 183, 3) := by decide +kernel
theorem dX9_levelOf_6 : decode cX9_levelOf 6 = .ok (.ireturn, 1) := by decide +kernel
theorem dX9_priorityOf_0 : decode cX9_priorityOf 0 = .ok (.aload_n 0, 1) := by decide +kernel
theorem dX9_priorityOf_1 : decode cX9_priorityOf 1 = .ok (.iload_n 1, 1) := by decide +kernel
theorem dX9_priorityOf_2 : decode cX9_priorityOf 2 = .ok (.iconst 3, 1) := by decide +kernel
theorem dX9_priorityOf_3 : decode cX9_priorityOf 3 = .ok (.invokevirtual 183, 3) := by decide +kernel
theorem dX9_priorityOf_6 : decode cX9_priorityOf 6 = .ok (.ireturn, 1) := by decide +kernel
theorem dX9_progress_0 : decode cX9_progress 0 = .ok (.aload_n 0, 1) := by decide +kernel
theorem dX9_progress_1 : decode cX9_progress 1 = .ok (.iload_n 1, 1) := by decide +kernel
theorem dX9_progress_2 : decode cX9_progress 2 = .ok (.iconst 5, 1) := by decide +kernel
theorem dX9_progress_3 : decode cX9_progress 3 = .ok (.invokevirtual 183, 3) := by decide +kernel
theorem dX9_progress_6 : decode cX9_progress 6 = .ok (.ireturn, 1) := by decide +kernel
theorem dX9_rootOf_0 : decode cX9_rootOf 0 = .ok (.aload_n 0, 1) := by decide +kernel
theorem dX9_rootOf_1 : decode cX9_rootOf 1 = .ok (.iload_n 1, 1) := by decide +kernel
theorem dX9_rootOf_2 : decode cX9_rootOf 2 = .ok (.bipush 10, 2) := by decide +kernel
theorem dX9_rootOf_4 : decode cX9_rootOf 4 = .ok (.invokevirtual 183, 3) := by decide +kernel
theorem dX9_rootOf_7 : decode cX9_rootOf 7 = .ok (.ireturn, 1) := by decide +kernel
theorem dX9_twins_0 : decode cX9_twins 0 = .ok (.aload_n 0, 1) := by decide +kernel
theorem dX9_twins_1 : decode cX9_twins 1 = .ok (.iload_n 1, 1) := by decide +kernel
theorem dX9_twins_2 : decode cX9_twins 2 = .ok (.invokevirtual 75, 3) := by decide +kernel
theorem dX9_twins_5 : decode cX9_twins 5 = .ok (.ifCond .ne 7, 3) := by decide +kernel
theorem dX9_twins_8 : decode cX9_twins 8 = .ok (.ldc2_w 186, 3) := by decide +kernel
theorem dX9_twins_11 : decode cX9_twins 11 = .ok (.lreturn, 1) := by decide +kernel
theorem dX9_twins_12 : decode cX9_twins 12 = .ok (.lconst 0, 1) := by decide +kernel
theorem dX9_twins_13 : decode cX9_twins 13 = .ok (.lstore_n 2, 1) := by decide +kernel
theorem dX9_twins_14 : decode cX9_twins 14 = .ok (.iconst 0, 1) := by decide +kernel
theorem dX9_twins_15 : decode cX9_twins 15 = .ok (.istore 4, 2) := by decide +kernel
theorem dX9_twins_17 : decode cX9_twins 17 = .ok (.iload 4, 2) := by decide +kernel
theorem dX9_twins_19 : decode cX9_twins 19 = .ok (.aload_n 0, 1) := by decide +kernel
theorem dX9_twins_20 : decode cX9_twins 20 = .ok (.getfield 7, 3) := by decide +kernel
theorem dX9_twins_23 : decode cX9_twins 23 = .ok (.bipush 56, 2) := by decide +kernel
theorem dX9_twins_25 : decode cX9_twins 25 = .ok (.iaload, 1) := by decide +kernel
theorem dX9_twins_26 : decode cX9_twins 26 = .ok (.if_icmp .ge 32, 3) := by decide +kernel
theorem dX9_twins_29 : decode cX9_twins 29 = .ok (.lload_n 2, 1) := by decide +kernel
theorem dX9_twins_30 : decode cX9_twins 30 = .ok (.aload_n 0, 1) := by decide +kernel
theorem dX9_twins_31 : decode cX9_twins 31 = .ok (.iload 4, 2) := by decide +kernel
theorem dX9_twins_33 : decode cX9_twins 33 = .ok (.bipush 10, 2) := by decide +kernel
theorem dX9_twins_35 : decode cX9_twins 35 = .ok (.invokevirtual 36, 3) := by decide +kernel
theorem dX9_twins_38 : decode cX9_twins 38 = .ok (.iload_n 1, 1) := by decide +kernel
theorem dX9_twins_39 : decode cX9_twins 39 = .ok (.if_icmp .ne 10, 3) := by decide +kernel
theorem dX9_twins_42 : decode cX9_twins 42 = .ok (.lconst 1, 1) := by decide +kernel
theorem dX9_twins_43 : decode cX9_twins 43 = .ok (.iload 4, 2) := by decide +kernel
theorem dX9_twins_45 : decode cX9_twins 45 = .ok (.lshl, 1) := by decide +kernel
theorem dX9_twins_46 : decode cX9_twins 46 = .ok (.goto 4, 3) := by decide +kernel
theorem dX9_twins_49 : decode cX9_twins 49 = .ok (.lconst 0, 1) := by decide +kernel
theorem dX9_twins_50 : decode cX9_twins 50 = .ok (.lor, 1) := by decide +kernel
theorem dX9_twins_51 : decode cX9_twins 51 = .ok (.lstore_n 2, 1) := by decide +kernel
theorem dX9_twins_52 : decode cX9_twins 52 = .ok (.iinc 4 1, 3) := by decide +kernel
theorem dX9_twins_55 : decode cX9_twins 55 = .ok (.goto (-38), 3) := by decide +kernel
theorem dX9_twins_58 : decode cX9_twins 58 = .ok (.lload_n 2, 1) := by decide +kernel
theorem dX9_twins_59 : decode cX9_twins 59 = .ok (.lreturn, 1) := by decide +kernel
theorem dX9_reportedAt_0 : decode cX9_reportedAt 0 = .ok (.aload_n 0, 1) := by decide +kernel
theorem dX9_reportedAt_1 : decode cX9_reportedAt 1 = .ok (.iload_n 1, 1) := by decide +kernel
theorem dX9_reportedAt_2 : decode cX9_reportedAt 2 = .ok (.bipush 11, 2) := by decide +kernel
theorem dX9_reportedAt_4 : decode cX9_reportedAt 4 = .ok (.invokevirtual 183, 3) := by decide +kernel
theorem dX9_reportedAt_7 : decode cX9_reportedAt 7 = .ok (.ireturn, 1) := by decide +kernel
theorem dX9_answeredAt_0 : decode cX9_answeredAt 0 = .ok (.aload_n 0, 1) := by decide +kernel
theorem dX9_answeredAt_1 : decode cX9_answeredAt 1 = .ok (.iload_n 1, 1) := by decide +kernel
theorem dX9_answeredAt_2 : decode cX9_answeredAt 2 = .ok (.bipush 12, 2) := by decide +kernel
theorem dX9_answeredAt_4 : decode cX9_answeredAt 4 = .ok (.invokevirtual 183, 3) := by decide +kernel
theorem dX9_answeredAt_7 : decode cX9_answeredAt 7 = .ok (.ireturn, 1) := by decide +kernel
theorem dX9_solvedAt_0 : decode cX9_solvedAt 0 = .ok (.aload_n 0, 1) := by decide +kernel
theorem dX9_solvedAt_1 : decode cX9_solvedAt 1 = .ok (.iload_n 1, 1) := by decide +kernel
theorem dX9_solvedAt_2 : decode cX9_solvedAt 2 = .ok (.bipush 13, 2) := by decide +kernel
theorem dX9_solvedAt_4 : decode cX9_solvedAt 4 = .ok (.invokevirtual 183, 3) := by decide +kernel
theorem dX9_solvedAt_7 : decode cX9_solvedAt 7 = .ok (.ireturn, 1) := by decide +kernel
theorem dX9_responseClock_0 : decode cX9_responseClock 0 = .ok (.aload_n 0, 1) := by decide +kernel
theorem dX9_responseClock_1 : decode cX9_responseClock 1 = .ok (.iload_n 1, 1) := by decide +kernel
theorem dX9_responseClock_2 : decode cX9_responseClock 2 = .ok (.bipush 7, 2) := by decide +kernel
theorem dX9_responseClock_4 : decode cX9_responseClock 4 = .ok (.invokevirtual 183, 3) := by decide +kernel
theorem dX9_responseClock_7 : decode cX9_responseClock 7 = .ok (.ireturn, 1) := by decide +kernel
theorem dX9_resolveClock_0 : decode cX9_resolveClock 0 = .ok (.aload_n 0, 1) := by decide +kernel
theorem dX9_resolveClock_1 : decode cX9_resolveClock 1 = .ok (.iload_n 1, 1) := by decide +kernel
theorem dX9_resolveClock_2 : decode cX9_resolveClock 2 = .ok (.bipush 8, 2) := by decide +kernel
theorem dX9_resolveClock_4 : decode cX9_resolveClock 4 = .ok (.invokevirtual 183, 3) := by decide +kernel
theorem dX9_resolveClock_7 : decode cX9_resolveClock 7 = .ok (.ireturn, 1) := by decide +kernel
theorem dX9_queueLength_0 : decode cX9_queueLength 0 = .ok (.iload_n 1, 1) := by decide +kernel
theorem dX9_queueLength_1 : decode cX9_queueLength 1 = .ok (.invokestatic 62, 3) := by decide +kernel
theorem dX9_queueLength_4 : decode cX9_queueLength 4 = .ok (.ifCond .eq 12, 3) := by decide +kernel
theorem dX9_queueLength_7 : decode cX9_queueLength 7 = .ok (.aload_n 0, 1) := by decide +kernel
theorem dX9_queueLength_8 : decode cX9_queueLength 8 = .ok (.iload_n 1, 1) := by decide +kernel
theorem dX9_queueLength_9 : decode cX9_queueLength 9 = .ok (.iconst 0, 1) := by decide +kernel
theorem dX9_queueLength_10 : decode cX9_queueLength 10 = .ok (.invokevirtual 141, 3) := by decide +kernel
theorem dX9_queueLength_13 : decode cX9_queueLength 13 = .ok (.goto 5, 3) := by decide +kernel
theorem dX9_queueLength_16 : decode cX9_queueLength 16 = .ok (.bipush (-4), 2) := by decide +kernel
theorem dX9_queueLength_18 : decode cX9_queueLength 18 = .ok (.ireturn, 1) := by decide +kernel
theorem dX9_nextTicket_0 : decode cX9_nextTicket 0 = .ok (.iload_n 1, 1) := by decide +kernel
theorem dX9_nextTicket_1 : decode cX9_nextTicket 1 = .ok (.invokestatic 62, 3) := by decide +kernel
theorem dX9_nextTicket_4 : decode cX9_nextTicket 4 = .ok (.ifCond .eq 11, 3) := by decide +kernel
theorem dX9_nextTicket_7 : decode cX9_nextTicket 7 = .ok (.aload_n 0, 1) := by decide +kernel
theorem dX9_nextTicket_8 : decode cX9_nextTicket 8 = .ok (.iload_n 1, 1) := by decide +kernel
theorem dX9_nextTicket_9 : decode cX9_nextTicket 9 = .ok (.invokevirtual 150, 3) := by decide +kernel
theorem dX9_nextTicket_12 : decode cX9_nextTicket 12 = .ok (.goto 5, 3) := by decide +kernel
theorem dX9_nextTicket_15 : decode cX9_nextTicket 15 = .ok (.bipush (-4), 2) := by decide +kernel
theorem dX9_nextTicket_17 : decode cX9_nextTicket 17 = .ok (.ireturn, 1) := by decide +kernel
theorem dX9_busyAgents_0 : decode cX9_busyAgents 0 = .ok (.iload_n 1, 1) := by decide +kernel
theorem dX9_busyAgents_1 : decode cX9_busyAgents 1 = .ok (.invokestatic 62, 3) := by decide +kernel
theorem dX9_busyAgents_4 : decode cX9_busyAgents 4 = .ok (.ifCond .eq 11, 3) := by decide +kernel
theorem dX9_busyAgents_7 : decode cX9_busyAgents 7 = .ok (.aload_n 0, 1) := by decide +kernel
theorem dX9_busyAgents_8 : decode cX9_busyAgents 8 = .ok (.iload_n 1, 1) := by decide +kernel
theorem dX9_busyAgents_9 : decode cX9_busyAgents 9 = .ok (.invokevirtual 121, 3) := by decide +kernel
theorem dX9_busyAgents_12 : decode cX9_busyAgents 12 = .ok (.goto 5, 3) := by decide +kernel
theorem dX9_busyAgents_15 : decode cX9_busyAgents 15 = .ok (.bipush (-4), 2) := by decide +kernel
theorem dX9_busyAgents_17 : decode cX9_busyAgents 17 = .ok (.ireturn, 1) := by decide +kernel
theorem dX9_suggestRoot_0 : decode cX9_suggestRoot 0 = .ok (.aload_n 0, 1) := by decide +kernel
theorem dX9_suggestRoot_1 : decode cX9_suggestRoot 1 = .ok (.iload_n 1, 1) := by decide +kernel
theorem dX9_suggestRoot_2 : decode cX9_suggestRoot 2 = .ok (.invokevirtual 75, 3) := by decide +kernel
theorem dX9_suggestRoot_5 : decode cX9_suggestRoot 5 = .ok (.ifCond .ne 6, 3) := by decide +kernel
theorem dX9_suggestRoot_8 : decode cX9_suggestRoot 8 = .ok (.bipush (-2), 2) := by decide +kernel
theorem dX9_suggestRoot_10 : decode cX9_suggestRoot 10 = .ok (.ireturn, 1) := by decide +kernel
theorem dX9_suggestRoot_11 : decode cX9_suggestRoot 11 = .ok (.iconst 0, 1) := by decide +kernel
theorem dX9_suggestRoot_12 : decode cX9_suggestRoot 12 = .ok (.istore_n 2, 1) := by decide +kernel
theorem dX9_suggestRoot_13 : decode cX9_suggestRoot 13 = .ok (.iload_n 2, 1) := by decide +kernel
theorem dX9_suggestRoot_14 : decode cX9_suggestRoot 14 = .ok (.iload_n 1, 1) := by decide +kernel
theorem dX9_suggestRoot_15 : decode cX9_suggestRoot 15 = .ok (.if_icmp .ge 80, 3) := by decide +kernel
theorem dX9_suggestRoot_18 : decode cX9_suggestRoot 18 = .ok (.aload_n 0, 1) := by decide +kernel
theorem dX9_suggestRoot_19 : decode cX9_suggestRoot 19 = .ok (.iload_n 2, 1) := by decide +kernel
theorem dX9_suggestRoot_20 : decode cX9_suggestRoot 20 = .ok (.iconst 0, 1) := by decide +kernel
theorem dX9_suggestRoot_21 : decode cX9_suggestRoot 21 = .ok (.invokevirtual 36, 3) := by decide +kernel
theorem dX9_suggestRoot_24 : decode cX9_suggestRoot 24 = .ok (.aload_n 0, 1) := by decide +kernel
theorem dX9_suggestRoot_25 : decode cX9_suggestRoot 25 = .ok (.iload_n 1, 1) := by decide +kernel
theorem dX9_suggestRoot_26 : decode cX9_suggestRoot 26 = .ok (.iconst 0, 1) := by decide +kernel
theorem dX9_suggestRoot_27 : decode cX9_suggestRoot 27 = .ok (.invokevirtual 36, 3) := by decide +kernel
theorem dX9_suggestRoot_30 : decode cX9_suggestRoot 30 = .ok (.if_icmp .ne 22, 3) := by decide +kernel
theorem dX9_suggestRoot_33 : decode cX9_suggestRoot 33 = .ok (.aload_n 0, 1) := by decide +kernel
theorem dX9_suggestRoot_34 : decode cX9_suggestRoot 34 = .ok (.iload_n 2, 1) := by decide +kernel
theorem dX9_suggestRoot_35 : decode cX9_suggestRoot 35 = .ok (.iconst 2, 1) := by decide +kernel
theorem dX9_suggestRoot_36 : decode cX9_suggestRoot 36 = .ok (.invokevirtual 36, 3) := by decide +kernel
theorem dX9_suggestRoot_39 : decode cX9_suggestRoot 39 = .ok (.aload_n 0, 1) := by decide +kernel
theorem dX9_suggestRoot_40 : decode cX9_suggestRoot 40 = .ok (.iload_n 1, 1) := by decide +kernel
theorem dX9_suggestRoot_41 : decode cX9_suggestRoot 41 = .ok (.iconst 2, 1) := by decide +kernel
theorem dX9_suggestRoot_42 : decode cX9_suggestRoot 42 = .ok (.invokevirtual 36, 3) := by decide +kernel
theorem dX9_suggestRoot_45 : decode cX9_suggestRoot 45 = .ok (.if_icmp .ne 7, 3) := by decide +kernel
theorem dX9_suggestRoot_48 : decode cX9_suggestRoot 48 = .ok (.iconst 1, 1) := by decide +kernel
theorem dX9_suggestRoot_49 : decode cX9_suggestRoot 49 = .ok (.goto 4, 3) := by decide +kernel
theorem dX9_suggestRoot_52 : decode cX9_suggestRoot 52 = .ok (.iconst 0, 1) := by decide +kernel
theorem dX9_suggestRoot_53 : decode cX9_suggestRoot 53 = .ok (.istore_n 3, 1) := by decide +kernel
theorem dX9_suggestRoot_54 : decode cX9_suggestRoot 54 = .ok (.iload_n 3, 1) := by decide +kernel
theorem dX9_suggestRoot_55 : decode cX9_suggestRoot 55 = .ok (.ifCond .eq 34, 3) := by decide +kernel
theorem dX9_suggestRoot_58 : decode cX9_suggestRoot 58 = .ok (.aload_n 0, 1) := by decide +kernel
theorem dX9_suggestRoot_59 : decode cX9_suggestRoot 59 = .ok (.iload_n 2, 1) := by decide +kernel
theorem dX9_suggestRoot_60 : decode cX9_suggestRoot 60 = .ok (.invokevirtual 84, 3) := by decide +kernel
theorem dX9_suggestRoot_63 : decode cX9_suggestRoot 63 = .ok (.ifCond .eq 26, 3) := by decide +kernel
theorem dX9_suggestRoot_66 : decode cX9_suggestRoot 66 = .ok (.aload_n 0, 1) := by decide +kernel
theorem dX9_suggestRoot_67 : decode cX9_suggestRoot 67 = .ok (.iload_n 1, 1) := by decide +kernel
theorem dX9_suggestRoot_68 : decode cX9_suggestRoot 68 = .ok (.bipush 11, 2) := by decide +kernel
theorem dX9_suggestRoot_70 : decode cX9_suggestRoot 70 = .ok (.invokevirtual 36, 3) := by decide +kernel
theorem dX9_suggestRoot_73 : decode cX9_suggestRoot 73 = .ok (.aload_n 0, 1) := by decide +kernel
theorem dX9_suggestRoot_74 : decode cX9_suggestRoot 74 = .ok (.iload_n 2, 1) := by decide +kernel
theorem dX9_suggestRoot_75 : decode cX9_suggestRoot 75 = .ok (.bipush 11, 2) := by decide +kernel
theorem dX9_suggestRoot_77 : decode cX9_suggestRoot 77 = .ok (.invokevirtual 36, 3) := by decide +kernel
theorem dX9_suggestRoot_80 : decode cX9_suggestRoot 80 = .ok (.isub, 1) := by decide +kernel
theorem dX9_suggestRoot_81 : decode cX9_suggestRoot 81 = .ok (.sipush 240, 3) := by decide +kernel
theorem dX9_suggestRoot_84 : decode cX9_suggestRoot 84 = .ok (.if_icmp .gt 5, 3) := by decide +kernel
theorem dX9_suggestRoot_87 : decode cX9_suggestRoot 87 = .ok (.iload_n 2, 1) := by decide +kernel
theorem dX9_suggestRoot_88 : decode cX9_suggestRoot 88 = .ok (.ireturn, 1) := by decide +kernel
theorem dX9_suggestRoot_89 : decode cX9_suggestRoot 89 = .ok (.iinc 2 1, 3) := by decide +kernel
theorem dX9_suggestRoot_92 : decode cX9_suggestRoot 92 = .ok (.goto (-79), 3) := by decide +kernel
theorem dX9_suggestRoot_95 : decode cX9_suggestRoot 95 = .ok (.iconst (-1), 1) := by decide +kernel
theorem dX9_suggestRoot_96 : decode cX9_suggestRoot 96 = .ok (.ireturn, 1) := by decide +kernel
theorem dX9_customerTickets_0 : decode cX9_customerTickets 0 = .ok (.iload_n 1, 1) := by decide +kernel
theorem dX9_customerTickets_1 : decode cX9_customerTickets 1 = .ok (.iconst 0, 1) := by decide +kernel
theorem dX9_customerTickets_2 : decode cX9_customerTickets 2 = .ok (.bipush 99, 2) := by decide +kernel
theorem dX9_customerTickets_4 : decode cX9_customerTickets 4 = .ok (.invokestatic 43, 3) := by decide +kernel
theorem dX9_customerTickets_7 : decode cX9_customerTickets 7 = .ok (.ifCond .ne 7, 3) := by decide +kernel
theorem dX9_customerTickets_10 : decode cX9_customerTickets 10 = .ok (.ldc2_w 188, 3) := by decide +kernel
theorem dX9_customerTickets_13 : decode cX9_customerTickets 13 = .ok (.lreturn, 1) := by decide +kernel
theorem dX9_customerTickets_14 : decode cX9_customerTickets 14 = .ok (.lconst 0, 1) := by decide +kernel
theorem dX9_customerTickets_15 : decode cX9_customerTickets 15 = .ok (.lstore_n 2, 1) := by decide +kernel
theorem dX9_customerTickets_16 : decode cX9_customerTickets 16 = .ok (.iconst 0, 1) := by decide +kernel
theorem dX9_customerTickets_17 : decode cX9_customerTickets 17 = .ok (.istore 4, 2) := by decide +kernel
theorem dX9_customerTickets_19 : decode cX9_customerTickets 19 = .ok (.iload 4, 2) := by decide +kernel
theorem dX9_customerTickets_21 : decode cX9_customerTickets 21 = .ok (.aload_n 0, 1) := by decide +kernel
theorem dX9_customerTickets_22 : decode cX9_customerTickets 22 = .ok (.getfield 7, 3) := by decide +kernel
theorem dX9_customerTickets_25 : decode cX9_customerTickets 25 = .ok (.bipush 56, 2) := by decide +kernel
theorem dX9_customerTickets_27 : decode cX9_customerTickets 27 = .ok (.iaload, 1) := by decide +kernel
theorem dX9_customerTickets_28 : decode cX9_customerTickets 28 = .ok (.if_icmp .ge 41, 3) := by decide +kernel
theorem dX9_customerTickets_31 : decode cX9_customerTickets 31 = .ok (.lload_n 2, 1) := by decide +kernel
theorem dX9_customerTickets_32 : decode cX9_customerTickets 32 = .ok (.aload_n 0, 1) := by decide +kernel
theorem dX9_customerTickets_33 : decode cX9_customerTickets 33 = .ok (.iload 4, 2) := by decide +kernel
theorem dX9_customerTickets_35 : decode cX9_customerTickets 35 = .ok (.iconst 1, 1) := by decide +kernel
theorem dX9_customerTickets_36 : decode cX9_customerTickets 36 = .ok (.invokevirtual 36, 3) := by decide +kernel
theorem dX9_customerTickets_39 : decode cX9_customerTickets 39 = .ok (.iload_n 1, 1) := by decide +kernel
theorem dX9_customerTickets_40 : decode cX9_customerTickets 40 = .ok (.if_icmp .ne 20, 3) := by decide +kernel
theorem dX9_customerTickets_43 : decode cX9_customerTickets 43 = .ok (.aload_n 0, 1) := by decide +kernel
theorem dX9_customerTickets_44 : decode cX9_customerTickets 44 = .ok (.iload 4, 2) := by decide +kernel
theorem dX9_customerTickets_46 : decode cX9_customerTickets 46 = .ok (.iconst 3, 1) := by decide +kernel
theorem dX9_customerTickets_47 : decode cX9_customerTickets 47 = .ok (.invokevirtual 87, 3) := by decide +kernel
theorem dX9_customerTickets_50 : decode cX9_customerTickets 50 = .ok (.ifCond .ne 10, 3) := by decide +kernel
theorem dX9_customerTickets_53 : decode cX9_customerTickets 53 = .ok (.lconst 1, 1) := by decide +kernel
theorem dX9_customerTickets_54 : decode cX9_customerTickets 54 = .ok (.iload 4, 2) := by decide +kernel
theorem dX9_customerTickets_56 : decode cX9_customerTickets 56 = .ok (.lshl, 1) := by decide +kernel
theorem dX9_customerTickets_57 : decode cX9_customerTickets 57 = .ok (.goto 4, 3) := by decide +kernel
theorem dX9_customerTickets_60 : decode cX9_customerTickets 60 = .ok (.lconst 0, 1) := by decide +kernel
theorem dX9_customerTickets_61 : decode cX9_customerTickets 61 = .ok (.lor, 1) := by decide +kernel
theorem dX9_customerTickets_62 : decode cX9_customerTickets 62 = .ok (.lstore_n 2, 1) := by decide +kernel
theorem dX9_customerTickets_63 : decode cX9_customerTickets 63 = .ok (.iinc 4 1, 3) := by decide +kernel
theorem dX9_customerTickets_66 : decode cX9_customerTickets 66 = .ok (.goto (-47), 3) := by decide +kernel
theorem dX9_customerTickets_69 : decode cX9_customerTickets 69 = .ok (.lload_n 2, 1) := by decide +kernel
theorem dX9_customerTickets_70 : decode cX9_customerTickets 70 = .ok (.lreturn, 1) := by decide +kernel
theorem dX9_breachesOf_0 : decode cX9_breachesOf 0 = .ok (.iconst 0, 1) := by decide +kernel
theorem dX9_breachesOf_1 : decode cX9_breachesOf 1 = .ok (.istore_n 3, 1) := by decide +kernel
theorem dX9_breachesOf_2 : decode cX9_breachesOf 2 = .ok (.iconst 0, 1) := by decide +kernel
theorem dX9_breachesOf_3 : decode cX9_breachesOf 3 = .ok (.istore 4, 2) := by decide +kernel
theorem dX9_breachesOf_5 : decode cX9_breachesOf 5 = .ok (.iload 4, 2) := by decide +kernel
theorem dX9_breachesOf_7 : decode cX9_breachesOf 7 = .ok (.aload_n 0, 1) := by decide +kernel
theorem dX9_breachesOf_8 : decode cX9_breachesOf 8 = .ok (.getfield 7, 3) := by decide +kernel
theorem dX9_breachesOf_11 : decode cX9_breachesOf 11 = .ok (.bipush 56, 2) := by decide +kernel
theorem dX9_breachesOf_13 : decode cX9_breachesOf 13 = .ok (.iaload, 1) := by decide +kernel
theorem dX9_breachesOf_14 : decode cX9_breachesOf 14 = .ok (.if_icmp .ge 39, 3) := by decide +kernel
theorem dX9_breachesOf_17 : decode cX9_breachesOf 17 = .ok (.iload_n 3, 1) := by decide +kernel
theorem dX9_breachesOf_18 : decode cX9_breachesOf 18 = .ok (.iload_n 1, 1) := by decide +kernel
theorem dX9_breachesOf_19 : decode cX9_breachesOf 19 = .ok (.iconst (-1), 1) := by decide +kernel
theorem dX9_breachesOf_20 : decode cX9_breachesOf 20 = .ok (.if_icmp .eq 14, 3) := by decide +kernel
theorem dX9_breachesOf_23 : decode cX9_breachesOf 23 = .ok (.aload_n 0, 1) := by decide +kernel
theorem dX9_breachesOf_24 : decode cX9_breachesOf 24 = .ok (.iload 4, 2) := by decide +kernel
theorem dX9_breachesOf_26 : decode cX9_breachesOf 26 = .ok (.iconst 0, 1) := by decide +kernel
theorem dX9_breachesOf_27 : decode cX9_breachesOf 27 = .ok (.invokevirtual 36, 3) := by decide +kernel
theorem dX9_breachesOf_30 : decode cX9_breachesOf 30 = .ok (.iload_n 1, 1) := by decide +kernel
theorem dX9_breachesOf_31 : decode cX9_breachesOf 31 = .ok (.if_icmp .ne 13, 3) := by decide +kernel
theorem dX9_breachesOf_34 : decode cX9_breachesOf 34 = .ok (.aload_n 0, 1) := by decide +kernel
theorem dX9_breachesOf_35 : decode cX9_breachesOf 35 = .ok (.iload 4, 2) := by decide +kernel
theorem dX9_breachesOf_37 : decode cX9_breachesOf 37 = .ok (.iload_n 2, 1) := by decide +kernel
theorem dX9_breachesOf_38 : decode cX9_breachesOf 38 = .ok (.invokevirtual 36, 3) := by decide +kernel
theorem dX9_breachesOf_41 : decode cX9_breachesOf 41 = .ok (.goto 4, 3) := by decide +kernel
theorem dX9_breachesOf_44 : decode cX9_breachesOf 44 = .ok (.iconst 0, 1) := by decide +kernel
theorem dX9_breachesOf_45 : decode cX9_breachesOf 45 = .ok (.iadd, 1) := by decide +kernel
theorem dX9_breachesOf_46 : decode cX9_breachesOf 46 = .ok (.istore_n 3, 1) := by decide +kernel
theorem dX9_breachesOf_47 : decode cX9_breachesOf 47 = .ok (.iinc 4 1, 3) := by decide +kernel
theorem dX9_breachesOf_50 : decode cX9_breachesOf 50 = .ok (.goto (-45), 3) := by decide +kernel
theorem dX9_breachesOf_53 : decode cX9_breachesOf 53 = .ok (.iload_n 3, 1) := by decide +kernel
theorem dX9_breachesOf_54 : decode cX9_breachesOf 54 = .ok (.ireturn, 1) := by decide +kernel
theorem dX9_responseBreaches_0 : decode cX9_responseBreaches 0 = .ok (.iload_n 1, 1) := by decide +kernel
theorem dX9_responseBreaches_1 : decode cX9_responseBreaches 1 = .ok (.iconst (-1), 1) := by decide +kernel
theorem dX9_responseBreaches_2 : decode cX9_responseBreaches 2 = .ok (.if_icmp .eq 11, 3) := by decide +kernel
theorem dX9_responseBreaches_5 : decode cX9_responseBreaches 5 = .ok (.aload_n 0, 1) := by decide +kernel
theorem dX9_responseBreaches_6 : decode cX9_responseBreaches 6 = .ok (.iload_n 1, 1) := by decide +kernel
theorem dX9_responseBreaches_7 : decode cX9_responseBreaches 7 = .ok (.invokevirtual 81, 3) := by decide +kernel
theorem dX9_responseBreaches_10 : decode cX9_responseBreaches 10 = .ok (.ifCond .eq 13, 3) := by decide +kernel
theorem dX9_responseBreaches_13 : decode cX9_responseBreaches 13 = .ok (.aload_n 0, 1) := by decide +kernel
theorem dX9_responseBreaches_14 : decode cX9_responseBreaches 14 = .ok (.iload_n 1, 1) := by decide +kernel
theorem dX9_responseBreaches_15 : decode cX9_responseBreaches 15 = .ok (.bipush 14, 2) := by decide +kernel
theorem dX9_responseBreaches_17 : decode cX9_responseBreaches 17 = .ok (.invokevirtual 190, 3) := by decide +kernel
theorem dX9_responseBreaches_20 : decode cX9_responseBreaches 20 = .ok (.goto 5, 3) := by decide +kernel
theorem dX9_responseBreaches_23 : decode cX9_responseBreaches 23 = .ok (.bipush (-3), 2) := by decide +kernel
theorem dX9_responseBreaches_25 : decode cX9_responseBreaches 25 = .ok (.ireturn, 1) := by decide +kernel
theorem dX9_resolveBreaches_0 : decode cX9_resolveBreaches 0 = .ok (.iload_n 1, 1) := by decide +kernel
theorem dX9_resolveBreaches_1 : decode cX9_resolveBreaches 1 = .ok (.iconst (-1), 1) := by decide +kernel
theorem dX9_resolveBreaches_2 : decode cX9_resolveBreaches 2 = .ok (.if_icmp .eq 11, 3) := by decide +kernel
theorem dX9_resolveBreaches_5 : decode cX9_resolveBreaches 5 = .ok (.aload_n 0, 1) := by decide +kernel
theorem dX9_resolveBreaches_6 : decode cX9_resolveBreaches 6 = .ok (.iload_n 1, 1) := by decide +kernel
theorem dX9_resolveBreaches_7 : decode cX9_resolveBreaches 7 = .ok (.invokevirtual 81, 3) := by decide +kernel
theorem dX9_resolveBreaches_10 : decode cX9_resolveBreaches 10 = .ok (.ifCond .eq 13, 3) := by decide +kernel
theorem dX9_resolveBreaches_13 : decode cX9_resolveBreaches 13 = .ok (.aload_n 0, 1) := by decide +kernel
theorem dX9_resolveBreaches_14 : decode cX9_resolveBreaches 14 = .ok (.iload_n 1, 1) := by decide +kernel
theorem dX9_resolveBreaches_15 : decode cX9_resolveBreaches 15 = .ok (.bipush 15, 2) := by decide +kernel
theorem dX9_resolveBreaches_17 : decode cX9_resolveBreaches 17 = .ok (.invokevirtual 190, 3) := by decide +kernel
theorem dX9_resolveBreaches_20 : decode cX9_resolveBreaches 20 = .ok (.goto 5, 3) := by decide +kernel
theorem dX9_resolveBreaches_23 : decode cX9_resolveBreaches 23 = .ok (.bipush (-3), 2) := by decide +kernel
theorem dX9_resolveBreaches_25 : decode cX9_resolveBreaches 25 = .ok (.ireturn, 1) := by decide +kernel
theorem dX9_resolvePercentile_0 : decode cX9_resolvePercentile 0 = .ok (.iload_n 1, 1) := by decide +kernel
theorem dX9_resolvePercentile_1 : decode cX9_resolvePercentile 1 = .ok (.iconst 1, 1) := by decide +kernel
theorem dX9_resolvePercentile_2 : decode cX9_resolvePercentile 2 = .ok (.bipush 100, 2) := by decide +kernel
theorem dX9_resolvePercentile_4 : decode cX9_resolvePercentile 4 = .ok (.invokestatic 43, 3) := by decide +kernel
theorem dX9_resolvePercentile_7 : decode cX9_resolvePercentile 7 = .ok (.ifCond .ne 6, 3) := by decide +kernel
theorem dX9_resolvePercentile_10 : decode cX9_resolvePercentile 10 = .ok (.bipush (-4), 2) := by decide +kernel
theorem dX9_resolvePercentile_12 : decode cX9_resolvePercentile 12 = .ok (.ireturn, 1) := by decide +kernel
theorem dX9_resolvePercentile_13 : decode cX9_resolvePercentile 13 = .ok (.iconst 0, 1) := by decide +kernel
theorem dX9_resolvePercentile_14 : decode cX9_resolvePercentile 14 = .ok (.istore_n 2, 1) := by decide +kernel
theorem dX9_resolvePercentile_15 : decode cX9_resolvePercentile 15 = .ok (.iconst 0, 1) := by decide +kernel
theorem dX9_resolvePercentile_16 : decode cX9_resolvePercentile 16 = .ok (.istore_n 3, 1) := by decide +kernel
theorem dX9_resolvePercentile_17 : decode cX9_resolvePercentile 17 = .ok (.iload_n 3, 1) := by decide +kernel
theorem dX9_resolvePercentile_18 : decode cX9_resolvePercentile 18 = .ok (.aload_n 0, 1) := by decide +kernel
theorem dX9_resolvePercentile_19 : decode cX9_resolvePercentile 19 = .ok (.getfield 7, 3) := by decide +kernel
theorem dX9_resolvePercentile_22 : decode cX9_resolvePercentile 22 = .ok (.bipush 56, 2) := by decide +kernel
theorem dX9_resolvePercentile_24 : decode cX9_resolvePercentile 24 = .ok (.iaload, 1) := by decide +kernel
theorem dX9_resolvePercentile_25 : decode cX9_resolvePercentile 25 = .ok (.if_icmp .ge 26, 3) := by decide +kernel
theorem dX9_resolvePercentile_28 : decode cX9_resolvePercentile 28 = .ok (.iload_n 2, 1) := by decide +kernel
theorem dX9_resolvePercentile_29 : decode cX9_resolvePercentile 29 = .ok (.aload_n 0, 1) := by decide +kernel
theorem dX9_resolvePercentile_30 : decode cX9_resolvePercentile 30 = .ok (.iload_n 3, 1) := by decide +kernel
theorem dX9_resolvePercentile_31 : decode cX9_resolvePercentile 31 = .ok (.iconst 3, 1) := by decide +kernel
theorem dX9_resolvePercentile_32 : decode cX9_resolvePercentile 32 = .ok (.invokevirtual 87, 3) := by decide +kernel
theorem dX9_resolvePercentile_35 : decode cX9_resolvePercentile 35 = .ok (.ifCond .eq 7, 3) := by decide +kernel
theorem dX9_resolvePercentile_38 : decode cX9_resolvePercentile 38 = .ok (.iconst 1, 1) := by decide +kernel
theorem dX9_resolvePercentile_39 : decode cX9_resolvePercentile 39 = .ok (.goto 4, 3) := by decide +kernel
theorem dX9_resolvePercentile_42 : decode cX9_resolvePercentile 42 = .ok (.iconst 0, 1) := by decide +kernel
theorem dX9_resolvePercentile_43 : decode cX9_resolvePercentile 43 = .ok (.iadd, 1) := by decide +kernel
theorem dX9_resolvePercentile_44 : decode cX9_resolvePercentile 44 = .ok (.istore_n 2, 1) := by decide +kernel
theorem dX9_resolvePercentile_45 : decode cX9_resolvePercentile 45 = .ok (.iinc 3 1, 3) := by decide +kernel
theorem dX9_resolvePercentile_48 : decode cX9_resolvePercentile 48 = .ok (.goto (-31), 3) := by decide +kernel
theorem dX9_resolvePercentile_51 : decode cX9_resolvePercentile 51 = .ok (.iload_n 1, 1) := by decide +kernel
theorem dX9_resolvePercentile_52 : decode cX9_resolvePercentile 52 = .ok (.iload_n 2, 1) := by decide +kernel
theorem dX9_resolvePercentile_53 : decode cX9_resolvePercentile 53 = .ok (.imul, 1) := by decide +kernel
theorem dX9_resolvePercentile_54 : decode cX9_resolvePercentile 54 = .ok (.bipush 99, 2) := by decide +kernel
theorem dX9_resolvePercentile_56 : decode cX9_resolvePercentile 56 = .ok (.iadd, 1) := by decide +kernel
theorem dX9_resolvePercentile_57 : decode cX9_resolvePercentile 57 = .ok (.bipush 100, 2) := by decide +kernel
theorem dX9_resolvePercentile_59 : decode cX9_resolvePercentile 59 = .ok (.idiv, 1) := by decide +kernel
theorem dX9_resolvePercentile_60 : decode cX9_resolvePercentile 60 = .ok (.istore_n 3, 1) := by decide +kernel
theorem dX9_resolvePercentile_61 : decode cX9_resolvePercentile 61 = .ok (.iconst (-1), 1) := by decide +kernel
theorem dX9_resolvePercentile_62 : decode cX9_resolvePercentile 62 = .ok (.istore 4, 2) := by decide +kernel
theorem dX9_resolvePercentile_64 : decode cX9_resolvePercentile 64 = .ok (.iconst 0, 1) := by decide +kernel
theorem dX9_resolvePercentile_65 : decode cX9_resolvePercentile 65 = .ok (.istore 5, 2) := by decide +kernel
theorem dX9_resolvePercentile_67 : decode cX9_resolvePercentile 67 = .ok (.iload 5, 2) := by decide +kernel
theorem dX9_resolvePercentile_69 : decode cX9_resolvePercentile 69 = .ok (.aload_n 0, 1) := by decide +kernel
theorem dX9_resolvePercentile_70 : decode cX9_resolvePercentile 70 = .ok (.getfield 7, 3) := by decide +kernel
theorem dX9_resolvePercentile_73 : decode cX9_resolvePercentile 73 = .ok (.bipush 56, 2) := by decide +kernel
theorem dX9_resolvePercentile_75 : decode cX9_resolvePercentile 75 = .ok (.iaload, 1) := by decide +kernel
theorem dX9_resolvePercentile_76 : decode cX9_resolvePercentile 76 = .ok (.if_icmp .ge 59, 3) := by decide +kernel
theorem dX9_resolvePercentile_79 : decode cX9_resolvePercentile 79 = .ok (.aload_n 0, 1) := by decide +kernel
theorem dX9_resolvePercentile_80 : decode cX9_resolvePercentile 80 = .ok (.iload 5, 2) := by decide +kernel
theorem dX9_resolvePercentile_82 : decode cX9_resolvePercentile 82 = .ok (.bipush 8, 2) := by decide +kernel
theorem dX9_resolvePercentile_84 : decode cX9_resolvePercentile 84 = .ok (.invokevirtual 36, 3) := by decide +kernel
theorem dX9_resolvePercentile_87 : decode cX9_resolvePercentile 87 = .ok (.istore 6, 2) := by decide +kernel
theorem dX9_resolvePercentile_89 : decode cX9_resolvePercentile 89 = .ok (.aload_n 0, 1) := by decide +kernel
theorem dX9_resolvePercentile_90 : decode cX9_resolvePercentile 90 = .ok (.iload 5, 2) := by decide +kernel
theorem dX9_resolvePercentile_92 : decode cX9_resolvePercentile 92 = .ok (.iconst 3, 1) := by decide +kernel
theorem dX9_resolvePercentile_93 : decode cX9_resolvePercentile 93 = .ok (.invokevirtual 87, 3) := by decide +kernel
theorem dX9_resolvePercentile_96 : decode cX9_resolvePercentile 96 = .ok (.ifCond .eq 33, 3) := by decide +kernel
theorem dX9_resolvePercentile_99 : decode cX9_resolvePercentile 99 = .ok (.aload_n 0, 1) := by decide +kernel
theorem dX9_resolvePercentile_100 : decode cX9_resolvePercentile 100 = .ok (.iload 6, 2) := by decide +kernel
theorem dX9_resolvePercentile_102 : decode cX9_resolvePercentile 102 = .ok (.invokevirtual 193, 3) := by decide +kernel
theorem dX9_resolvePercentile_105 : decode cX9_resolvePercentile 105 = .ok (.iload_n 3, 1) := by decide +kernel
theorem dX9_resolvePercentile_106 : decode cX9_resolvePercentile 106 = .ok (.if_icmp .lt 23, 3) := by decide +kernel
theorem dX9_resolvePercentile_109 : decode cX9_resolvePercentile 109 = .ok (.iload 4, 2) := by decide +kernel
theorem dX9_resolvePercentile_111 : decode cX9_resolvePercentile 111 = .ok (.iconst (-1), 1) := by decide +kernel
theorem dX9_resolvePercentile_112 : decode cX9_resolvePercentile 112 = .ok (.if_icmp .ne 8, 3) := by decide +kernel
theorem dX9_resolvePercentile_115 : decode cX9_resolvePercentile 115 = .ok (.iload 6, 2) := by decide +kernel
theorem dX9_resolvePercentile_117 : decode cX9_resolvePercentile 117 = .ok (.goto 10, 3) := by decide +kernel
theorem dX9_resolvePercentile_120 : decode cX9_resolvePercentile 120 = .ok (.iload 4, 2) := by decide +kernel
theorem dX9_resolvePercentile_122 : decode cX9_resolvePercentile 122 = .ok (.iload 6, 2) := by decide +kernel
theorem dX9_resolvePercentile_124 : decode cX9_resolvePercentile 124 = .ok (.invokestatic 138, 3) := by decide +kernel
theorem dX9_resolvePercentile_127 : decode cX9_resolvePercentile 127 = .ok (.istore 4, 2) := by decide +kernel
theorem dX9_resolvePercentile_129 : decode cX9_resolvePercentile 129 = .ok (.iinc 5 1, 3) := by decide +kernel
theorem dX9_resolvePercentile_132 : decode cX9_resolvePercentile 132 = .ok (.goto (-65), 3) := by decide +kernel
theorem dX9_resolvePercentile_135 : decode cX9_resolvePercentile 135 = .ok (.iload 4, 2) := by decide +kernel
theorem dX9_resolvePercentile_137 : decode cX9_resolvePercentile 137 = .ok (.ireturn, 1) := by decide +kernel
theorem dX9_solvedUpTo_0 : decode cX9_solvedUpTo 0 = .ok (.iconst 0, 1) := by decide +kernel
theorem dX9_solvedUpTo_1 : decode cX9_solvedUpTo 1 = .ok (.istore_n 2, 1) := by decide +kernel
theorem dX9_solvedUpTo_2 : decode cX9_solvedUpTo 2 = .ok (.iconst 0, 1) := by decide +kernel
theorem dX9_solvedUpTo_3 : decode cX9_solvedUpTo 3 = .ok (.istore_n 3, 1) := by decide +kernel
theorem dX9_solvedUpTo_4 : decode cX9_solvedUpTo 4 = .ok (.iload_n 3, 1) := by decide +kernel
theorem dX9_solvedUpTo_5 : decode cX9_solvedUpTo 5 = .ok (.aload_n 0, 1) := by decide +kernel
theorem dX9_solvedUpTo_6 : decode cX9_solvedUpTo 6 = .ok (.getfield 7, 3) := by decide +kernel
theorem dX9_solvedUpTo_9 : decode cX9_solvedUpTo 9 = .ok (.bipush 56, 2) := by decide +kernel
theorem dX9_solvedUpTo_11 : decode cX9_solvedUpTo 11 = .ok (.iaload, 1) := by decide +kernel
theorem dX9_solvedUpTo_12 : decode cX9_solvedUpTo 12 = .ok (.if_icmp .ge 37, 3) := by decide +kernel
theorem dX9_solvedUpTo_15 : decode cX9_solvedUpTo 15 = .ok (.iload_n 2, 1) := by decide +kernel
theorem dX9_solvedUpTo_16 : decode cX9_solvedUpTo 16 = .ok (.aload_n 0, 1) := by decide +kernel
theorem dX9_solvedUpTo_17 : decode cX9_solvedUpTo 17 = .ok (.iload_n 3, 1) := by decide +kernel
theorem dX9_solvedUpTo_18 : decode cX9_solvedUpTo 18 = .ok (.iconst 3, 1) := by decide +kernel
theorem dX9_solvedUpTo_19 : decode cX9_solvedUpTo 19 = .ok (.invokevirtual 87, 3) := by decide +kernel
theorem dX9_solvedUpTo_22 : decode cX9_solvedUpTo 22 = .ok (.ifCond .eq 18, 3) := by decide +kernel
theorem dX9_solvedUpTo_25 : decode cX9_solvedUpTo 25 = .ok (.aload_n 0, 1) := by decide +kernel
theorem dX9_solvedUpTo_26 : decode cX9_solvedUpTo 26 = .ok (.iload_n 3, 1) := by decide +kernel
theorem dX9_solvedUpTo_27 : decode cX9_solvedUpTo 27 = .ok (.bipush 8, 2) := by decide +kernel
theorem dX9_solvedUpTo_29 : decode cX9_solvedUpTo 29 = .ok (.invokevirtual 36, 3) := by decide +kernel
theorem dX9_solvedUpTo_32 : decode cX9_solvedUpTo 32 = .ok (.iload_n 1, 1) := by decide +kernel
theorem dX9_solvedUpTo_33 : decode cX9_solvedUpTo 33 = .ok (.if_icmp .gt 7, 3) := by decide +kernel
theorem dX9_solvedUpTo_36 : decode cX9_solvedUpTo 36 = .ok (.iconst 1, 1) := by decide +kernel
theorem dX9_solvedUpTo_37 : decode cX9_solvedUpTo 37 = .ok (.goto 4, 3) := by decide +kernel
theorem dX9_solvedUpTo_40 : decode cX9_solvedUpTo 40 = .ok (.iconst 0, 1) := by decide +kernel
theorem dX9_solvedUpTo_41 : decode cX9_solvedUpTo 41 = .ok (.iadd, 1) := by decide +kernel
theorem dX9_solvedUpTo_42 : decode cX9_solvedUpTo 42 = .ok (.istore_n 2, 1) := by decide +kernel
theorem dX9_solvedUpTo_43 : decode cX9_solvedUpTo 43 = .ok (.iinc 3 1, 3) := by decide +kernel
theorem dX9_solvedUpTo_46 : decode cX9_solvedUpTo 46 = .ok (.goto (-42), 3) := by decide +kernel
theorem dX9_solvedUpTo_49 : decode cX9_solvedUpTo 49 = .ok (.iload_n 2, 1) := by decide +kernel
theorem dX9_solvedUpTo_50 : decode cX9_solvedUpTo 50 = .ok (.ireturn, 1) := by decide +kernel
theorem dX9_copyState_0 : decode cX9_copyState 0 = .ok (.iconst 0, 1) := by decide +kernel
theorem dX9_copyState_1 : decode cX9_copyState 1 = .ok (.istore 5, 2) := by decide +kernel
theorem dX9_copyState_3 : decode cX9_copyState 3 = .ok (.iload 5, 2) := by decide +kernel
theorem dX9_copyState_5 : decode cX9_copyState 5 = .ok (.sipush 4619, 3) := by decide +kernel
theorem dX9_copyState_8 : decode cX9_copyState 8 = .ok (.if_icmp .ge 22, 3) := by decide +kernel
theorem dX9_copyState_11 : decode cX9_copyState 11 = .ok (.aload_n 3, 1) := by decide +kernel
theorem dX9_copyState_12 : decode cX9_copyState 12 = .ok (.iload 4, 2) := by decide +kernel
theorem dX9_copyState_14 : decode cX9_copyState 14 = .ok (.iload 5, 2) := by decide +kernel
theorem dX9_copyState_16 : decode cX9_copyState 16 = .ok (.iadd, 1) := by decide +kernel
theorem dX9_copyState_17 : decode cX9_copyState 17 = .ok (.aload_n 1, 1) := by decide +kernel
theorem dX9_copyState_18 : decode cX9_copyState 18 = .ok (.iload_n 2, 1) := by decide +kernel
theorem dX9_copyState_19 : decode cX9_copyState 19 = .ok (.iload 5, 2) := by decide +kernel
theorem dX9_copyState_21 : decode cX9_copyState 21 = .ok (.iadd, 1) := by decide +kernel
theorem dX9_copyState_22 : decode cX9_copyState 22 = .ok (.iaload, 1) := by decide +kernel
theorem dX9_copyState_23 : decode cX9_copyState 23 = .ok (.iastore, 1) := by decide +kernel
theorem dX9_copyState_24 : decode cX9_copyState 24 = .ok (.iinc 5 1, 3) := by decide +kernel
theorem dX9_copyState_27 : decode cX9_copyState 27 = .ok (.goto (-24), 3) := by decide +kernel
theorem dX9_copyState_30 : decode cX9_copyState 30 = .ok (.return_, 1) := by decide +kernel
theorem dX9_allBreaches_0 : decode cX9_allBreaches 0 = .ok (.aload_n 0, 1) := by decide +kernel
theorem dX9_allBreaches_1 : decode cX9_allBreaches 1 = .ok (.iconst (-1), 1) := by decide +kernel
theorem dX9_allBreaches_2 : decode cX9_allBreaches 2 = .ok (.bipush 14, 2) := by decide +kernel
theorem dX9_allBreaches_4 : decode cX9_allBreaches 4 = .ok (.invokevirtual 190, 3) := by decide +kernel
theorem dX9_allBreaches_7 : decode cX9_allBreaches 7 = .ok (.aload_n 0, 1) := by decide +kernel
theorem dX9_allBreaches_8 : decode cX9_allBreaches 8 = .ok (.iconst (-1), 1) := by decide +kernel
theorem dX9_allBreaches_9 : decode cX9_allBreaches 9 = .ok (.bipush 15, 2) := by decide +kernel
theorem dX9_allBreaches_11 : decode cX9_allBreaches 11 = .ok (.invokevirtual 190, 3) := by decide +kernel
theorem dX9_allBreaches_14 : decode cX9_allBreaches 14 = .ok (.iadd, 1) := by decide +kernel
theorem dX9_allBreaches_15 : decode cX9_allBreaches 15 = .ok (.ireturn, 1) := by decide +kernel
theorem dX9_forecast_0 : decode cX9_forecast 0 = .ok (.aload_n 0, 1) := by decide +kernel
theorem dX9_forecast_1 : decode cX9_forecast 1 = .ok (.iload_n 1, 1) := by decide +kernel
theorem dX9_forecast_2 : decode cX9_forecast 2 = .ok (.invokevirtual 75, 3) := by decide +kernel
theorem dX9_forecast_5 : decode cX9_forecast 5 = .ok (.ifCond .ne 6, 3) := by decide +kernel
theorem dX9_forecast_8 : decode cX9_forecast 8 = .ok (.bipush (-2), 2) := by decide +kernel
theorem dX9_forecast_10 : decode cX9_forecast 10 = .ok (.ireturn, 1) := by decide +kernel
theorem dX9_forecast_11 : decode cX9_forecast 11 = .ok (.aload_n 0, 1) := by decide +kernel
theorem dX9_forecast_12 : decode cX9_forecast 12 = .ok (.aload_n 0, 1) := by decide +kernel
theorem dX9_forecast_13 : decode cX9_forecast 13 = .ok (.getfield 7, 3) := by decide +kernel
theorem dX9_forecast_16 : decode cX9_forecast 16 = .ok (.iconst 0, 1) := by decide +kernel
theorem dX9_forecast_17 : decode cX9_forecast 17 = .ok (.aload_n 0, 1) := by decide +kernel
theorem dX9_forecast_18 : decode cX9_forecast 18 = .ok (.getfield 13, 3) := by decide +kernel
theorem dX9_forecast_21 : decode cX9_forecast 21 = .ok (.iconst 0, 1) := by decide +kernel
theorem dX9_forecast_22 : decode cX9_forecast 22 = .ok (.invokevirtual 196, 3) := by decide +kernel
theorem dX9_forecast_25 : decode cX9_forecast 25 = .ok (.iconst 0, 1) := by decide +kernel
theorem dX9_forecast_26 : decode cX9_forecast 26 = .ok (.istore_n 2, 1) := by decide +kernel
theorem dX9_forecast_27 : decode cX9_forecast 27 = .ok (.aload_n 0, 1) := by decide +kernel
theorem dX9_forecast_28 : decode cX9_forecast 28 = .ok (.getfield 7, 3) := by decide +kernel
theorem dX9_forecast_31 : decode cX9_forecast 31 = .ok (.iconst 0, 1) := by decide +kernel
theorem dX9_forecast_32 : decode cX9_forecast 32 = .ok (.iaload, 1) := by decide +kernel
theorem dX9_forecast_33 : decode cX9_forecast 33 = .ok (.sipush 10080, 3) := by decide +kernel
theorem dX9_forecast_36 : decode cX9_forecast 36 = .ok (.if_icmp .ge 22, 3) := by decide +kernel
theorem dX9_forecast_39 : decode cX9_forecast 39 = .ok (.aload_n 0, 1) := by decide +kernel
theorem dX9_forecast_40 : decode cX9_forecast 40 = .ok (.iload_n 1, 1) := by decide +kernel
theorem dX9_forecast_41 : decode cX9_forecast 41 = .ok (.iconst 3, 1) := by decide +kernel
theorem dX9_forecast_42 : decode cX9_forecast 42 = .ok (.invokevirtual 87, 3) := by decide +kernel
theorem dX9_forecast_45 : decode cX9_forecast 45 = .ok (.ifCond .ne 13, 3) := by decide +kernel
theorem dX9_forecast_48 : decode cX9_forecast 48 = .ok (.iload_n 2, 1) := by decide +kernel
theorem dX9_forecast_49 : decode cX9_forecast 49 = .ok (.aload_n 0, 1) := by decide +kernel
theorem dX9_forecast_50 : decode cX9_forecast 50 = .ok (.invokevirtual 179, 3) := by decide +kernel
theorem dX9_forecast_53 : decode cX9_forecast 53 = .ok (.iadd, 1) := by decide +kernel
theorem dX9_forecast_54 : decode cX9_forecast 54 = .ok (.istore_n 2, 1) := by decide +kernel
theorem dX9_forecast_55 : decode cX9_forecast 55 = .ok (.goto (-28), 3) := by decide +kernel
theorem dX9_forecast_58 : decode cX9_forecast 58 = .ok (.aload_n 0, 1) := by decide +kernel
theorem dX9_forecast_59 : decode cX9_forecast 59 = .ok (.iload_n 1, 1) := by decide +kernel
theorem dX9_forecast_60 : decode cX9_forecast 60 = .ok (.bipush 13, 2) := by decide +kernel
theorem dX9_forecast_62 : decode cX9_forecast 62 = .ok (.invokevirtual 36, 3) := by decide +kernel
theorem dX9_forecast_65 : decode cX9_forecast 65 = .ok (.istore_n 3, 1) := by decide +kernel
theorem dX9_forecast_66 : decode cX9_forecast 66 = .ok (.aload_n 0, 1) := by decide +kernel
theorem dX9_forecast_67 : decode cX9_forecast 67 = .ok (.aload_n 0, 1) := by decide +kernel
theorem dX9_forecast_68 : decode cX9_forecast 68 = .ok (.getfield 13, 3) := by decide +kernel
theorem dX9_forecast_71 : decode cX9_forecast 71 = .ok (.iconst 0, 1) := by decide +kernel
theorem dX9_forecast_72 : decode cX9_forecast 72 = .ok (.aload_n 0, 1) := by decide +kernel
theorem dX9_forecast_73 : decode cX9_forecast 73 = .ok (.getfield 7, 3) := by decide +kernel
theorem dX9_forecast_76 : decode cX9_forecast 76 = .ok (.iconst 0, 1) := by decide +kernel
theorem dX9_forecast_77 : decode cX9_forecast 77 = .ok (.invokevirtual 196, 3) := by decide +kernel
theorem dX9_forecast_80 : decode cX9_forecast 80 = .ok (.iload_n 3, 1) := by decide +kernel
theorem dX9_forecast_81 : decode cX9_forecast 81 = .ok (.ireturn, 1) := by decide +kernel
theorem dX9_breachesAhead_0 : decode cX9_breachesAhead 0 = .ok (.aload_n 0, 1) := by decide +kernel
theorem dX9_breachesAhead_1 : decode cX9_breachesAhead 1 = .ok (.aload_n 0, 1) := by decide +kernel
theorem dX9_breachesAhead_2 : decode cX9_breachesAhead 2 = .ok (.getfield 7, 3) := by decide +kernel
theorem dX9_breachesAhead_5 : decode cX9_breachesAhead 5 = .ok (.iconst 0, 1) := by decide +kernel
theorem dX9_breachesAhead_6 : decode cX9_breachesAhead 6 = .ok (.aload_n 0, 1) := by decide +kernel
theorem dX9_breachesAhead_7 : decode cX9_breachesAhead 7 = .ok (.getfield 13, 3) := by decide +kernel
theorem dX9_breachesAhead_10 : decode cX9_breachesAhead 10 = .ok (.iconst 0, 1) := by decide +kernel
theorem dX9_breachesAhead_11 : decode cX9_breachesAhead 11 = .ok (.invokevirtual 196, 3) := by decide +kernel
theorem dX9_breachesAhead_14 : decode cX9_breachesAhead 14 = .ok (.aload_n 0, 1) := by decide +kernel
theorem dX9_breachesAhead_15 : decode cX9_breachesAhead 15 = .ok (.invokevirtual 200, 3) := by decide +kernel
theorem dX9_breachesAhead_18 : decode cX9_breachesAhead 18 = .ok (.istore_n 1, 1) := by decide +kernel
theorem dX9_breachesAhead_19 : decode cX9_breachesAhead 19 = .ok (.iconst 0, 1) := by decide +kernel
theorem dX9_breachesAhead_20 : decode cX9_breachesAhead 20 = .ok (.istore_n 2, 1) := by decide +kernel
theorem dX9_breachesAhead_21 : decode cX9_breachesAhead 21 = .ok (.aload_n 0, 1) := by decide +kernel
theorem dX9_breachesAhead_22 : decode cX9_breachesAhead 22 = .ok (.getfield 7, 3) := by decide +kernel
theorem dX9_breachesAhead_25 : decode cX9_breachesAhead 25 = .ok (.iconst 0, 1) := by decide +kernel
theorem dX9_breachesAhead_26 : decode cX9_breachesAhead 26 = .ok (.iaload, 1) := by decide +kernel
theorem dX9_breachesAhead_27 : decode cX9_breachesAhead 27 = .ok (.sipush 10080, 3) := by decide +kernel
theorem dX9_breachesAhead_30 : decode cX9_breachesAhead 30 = .ok (.if_icmp .ge 13, 3) := by decide +kernel
theorem dX9_breachesAhead_33 : decode cX9_breachesAhead 33 = .ok (.iload_n 2, 1) := by decide +kernel
theorem dX9_breachesAhead_34 : decode cX9_breachesAhead 34 = .ok (.aload_n 0, 1) := by decide +kernel
theorem dX9_breachesAhead_35 : decode cX9_breachesAhead 35 = .ok (.invokevirtual 179, 3) := by decide +kernel
theorem dX9_breachesAhead_38 : decode cX9_breachesAhead 38 = .ok (.iadd, 1) := by decide +kernel
theorem dX9_breachesAhead_39 : decode cX9_breachesAhead 39 = .ok (.istore_n 2, 1) := by decide +kernel
theorem dX9_breachesAhead_40 : decode cX9_breachesAhead 40 = .ok (.goto (-19), 3) := by decide +kernel
theorem dX9_breachesAhead_43 : decode cX9_breachesAhead 43 = .ok (.aload_n 0, 1) := by decide +kernel
theorem dX9_breachesAhead_44 : decode cX9_breachesAhead 44 = .ok (.invokevirtual 200, 3) := by decide +kernel
theorem dX9_breachesAhead_47 : decode cX9_breachesAhead 47 = .ok (.iload_n 1, 1) := by decide +kernel
theorem dX9_breachesAhead_48 : decode cX9_breachesAhead 48 = .ok (.isub, 1) := by decide +kernel
theorem dX9_breachesAhead_49 : decode cX9_breachesAhead 49 = .ok (.istore_n 3, 1) := by decide +kernel
theorem dX9_breachesAhead_50 : decode cX9_breachesAhead 50 = .ok (.aload_n 0, 1) := by decide +kernel
theorem dX9_breachesAhead_51 : decode cX9_breachesAhead 51 = .ok (.aload_n 0, 1) := by decide +kernel
theorem dX9_breachesAhead_52 : decode cX9_breachesAhead 52 = .ok (.getfield 13, 3) := by decide +kernel
theorem dX9_breachesAhead_55 : decode cX9_breachesAhead 55 = .ok (.iconst 0, 1) := by decide +kernel
theorem dX9_breachesAhead_56 : decode cX9_breachesAhead 56 = .ok (.aload_n 0, 1) := by decide +kernel
theorem dX9_breachesAhead_57 : decode cX9_breachesAhead 57 = .ok (.getfield 7, 3) := by decide +kernel
theorem dX9_breachesAhead_60 : decode cX9_breachesAhead 60 = .ok (.iconst 0, 1) := by decide +kernel
theorem dX9_breachesAhead_61 : decode cX9_breachesAhead 61 = .ok (.invokevirtual 196, 3) := by decide +kernel
theorem dX9_breachesAhead_64 : decode cX9_breachesAhead 64 = .ok (.iload_n 3, 1) := by decide +kernel
theorem dX9_breachesAhead_65 : decode cX9_breachesAhead 65 = .ok (.ireturn, 1) := by decide +kernel
theorem dX9_replay_0 : decode cX9_replay 0 = .ok (.aload_n 0, 1) := by decide +kernel
theorem dX9_replay_1 : decode cX9_replay 1 = .ok (.aload_n 0, 1) := by decide +kernel
theorem dX9_replay_2 : decode cX9_replay 2 = .ok (.getfield 7, 3) := by decide +kernel
theorem dX9_replay_5 : decode cX9_replay 5 = .ok (.iconst 0, 1) := by decide +kernel
theorem dX9_replay_6 : decode cX9_replay 6 = .ok (.aload_n 0, 1) := by decide +kernel
theorem dX9_replay_7 : decode cX9_replay 7 = .ok (.getfield 13, 3) := by decide +kernel
theorem dX9_replay_10 : decode cX9_replay 10 = .ok (.iconst 0, 1) := by decide +kernel
theorem dX9_replay_11 : decode cX9_replay 11 = .ok (.invokevirtual 196, 3) := by decide +kernel
theorem dX9_replay_14 : decode cX9_replay 14 = .ok (.aload_n 0, 1) := by decide +kernel
theorem dX9_replay_15 : decode cX9_replay 15 = .ok (.invokevirtual 33, 3) := by decide +kernel
theorem dX9_replay_18 : decode cX9_replay 18 = .ok (.aload_n 0, 1) := by decide +kernel
theorem dX9_replay_19 : decode cX9_replay 19 = .ok (.getfield 7, 3) := by decide +kernel
theorem dX9_replay_22 : decode cX9_replay 22 = .ok (.bipush 15, 2) := by decide +kernel
theorem dX9_replay_24 : decode cX9_replay 24 = .ok (.iload_n 1, 1) := by decide +kernel
theorem dX9_replay_25 : decode cX9_replay 25 = .ok (.iadd, 1) := by decide +kernel
theorem dX9_replay_26 : decode cX9_replay 26 = .ok (.iload_n 2, 1) := by decide +kernel
theorem dX9_replay_27 : decode cX9_replay 27 = .ok (.iastore, 1) := by decide +kernel
theorem dX9_replay_28 : decode cX9_replay 28 = .ok (.iconst 0, 1) := by decide +kernel
theorem dX9_replay_29 : decode cX9_replay 29 = .ok (.istore_n 3, 1) := by decide +kernel
theorem dX9_replay_30 : decode cX9_replay 30 = .ok (.iconst 0, 1) := by decide +kernel
theorem dX9_replay_31 : decode cX9_replay 31 = .ok (.istore 4, 2) := by decide +kernel
theorem dX9_replay_33 : decode cX9_replay 33 = .ok (.iload 4, 2) := by decide +kernel
theorem dX9_replay_35 : decode cX9_replay 35 = .ok (.aload_n 0, 1) := by decide +kernel
theorem dX9_replay_36 : decode cX9_replay 36 = .ok (.getfield 7, 3) := by decide +kernel
theorem dX9_replay_39 : decode cX9_replay 39 = .ok (.bipush 57, 2) := by decide +kernel
theorem dX9_replay_41 : decode cX9_replay 41 = .ok (.iaload, 1) := by decide +kernel
theorem dX9_replay_42 : decode cX9_replay 42 = .ok (.if_icmp .ge 188, 3) := by decide +kernel
theorem dX9_replay_45 : decode cX9_replay 45 = .ok (.sipush 1019, 3) := by decide +kernel
theorem dX9_replay_48 : decode cX9_replay 48 = .ok (.bipush 6, 2) := by decide +kernel
theorem dX9_replay_50 : decode cX9_replay 50 = .ok (.iload 4, 2) := by decide +kernel
theorem dX9_replay_52 : decode cX9_replay 52 = .ok (.imul, 1) := by decide +kernel
theorem dX9_replay_53 : decode cX9_replay 53 = .ok (.iadd, 1) := by decide +kernel
theorem dX9_replay_54 : decode cX9_replay 54 = .ok (.istore 5, 2) := by decide +kernel
theorem dX9_replay_56 : decode cX9_replay 56 = .ok (.aload_n 0, 1) := by decide +kernel
theorem dX9_replay_57 : decode cX9_replay 57 = .ok (.getfield 7, 3) := by decide +kernel
theorem dX9_replay_60 : decode cX9_replay 60 = .ok (.iconst 0, 1) := by decide +kernel
theorem dX9_replay_61 : decode cX9_replay 61 = .ok (.iaload, 1) := by decide +kernel
theorem dX9_replay_62 : decode cX9_replay 62 = .ok (.aload_n 0, 1) := by decide +kernel
theorem dX9_replay_63 : decode cX9_replay 63 = .ok (.getfield 7, 3) := by decide +kernel
theorem dX9_replay_66 : decode cX9_replay 66 = .ok (.iload 5, 2) := by decide +kernel
theorem dX9_replay_68 : decode cX9_replay 68 = .ok (.iaload, 1) := by decide +kernel
theorem dX9_replay_69 : decode cX9_replay 69 = .ok (.if_icmp .ge 13, 3) := by decide +kernel
theorem dX9_replay_72 : decode cX9_replay 72 = .ok (.iload_n 3, 1) := by decide +kernel
theorem dX9_replay_73 : decode cX9_replay 73 = .ok (.aload_n 0, 1) := by decide +kernel
theorem dX9_replay_74 : decode cX9_replay 74 = .ok (.invokevirtual 179, 3) := by decide +kernel
theorem dX9_replay_77 : decode cX9_replay 77 = .ok (.iadd, 1) := by decide +kernel
theorem dX9_replay_78 : decode cX9_replay 78 = .ok (.istore_n 3, 1) := by decide +kernel
theorem dX9_replay_79 : decode cX9_replay 79 = .ok (.goto (-23), 3) := by decide +kernel
theorem dX9_replay_82 : decode cX9_replay 82 = .ok (.aload_n 0, 1) := by decide +kernel
theorem dX9_replay_83 : decode cX9_replay 83 = .ok (.getfield 7, 3) := by decide +kernel
theorem dX9_replay_86 : decode cX9_replay 86 = .ok (.iload 5, 2) := by decide +kernel
theorem dX9_replay_88 : decode cX9_replay 88 = .ok (.iconst 1, 1) := by decide +kernel
theorem dX9_replay_89 : decode cX9_replay 89 = .ok (.iadd, 1) := by decide +kernel
theorem dX9_replay_90 : decode cX9_replay 90 = .ok (.iaload, 1) := by decide +kernel
theorem dX9_replay_91 : decode cX9_replay 91 = .ok (.iconst 1, 1) := by decide +kernel
theorem dX9_replay_92 : decode cX9_replay 92 = .ok (.if_icmp .ne 20, 3) := by decide +kernel
theorem dX9_replay_95 : decode cX9_replay 95 = .ok (.aload_n 0, 1) := by decide +kernel
theorem dX9_replay_96 : decode cX9_replay 96 = .ok (.getfield 7, 3) := by decide +kernel
theorem dX9_replay_99 : decode cX9_replay 99 = .ok (.iload 5, 2) := by decide +kernel
theorem dX9_replay_101 : decode cX9_replay 101 = .ok (.iconst 2, 1) := by decide +kernel
theorem dX9_replay_102 : decode cX9_replay 102 = .ok (.iadd, 1) := by decide +kernel
theorem dX9_replay_103 : decode cX9_replay 103 = .ok (.iaload, 1) := by decide +kernel
theorem dX9_replay_104 : decode cX9_replay 104 = .ok (.iload_n 1, 1) := by decide +kernel
theorem dX9_replay_105 : decode cX9_replay 105 = .ok (.if_icmp .ne 7, 3) := by decide +kernel
theorem dX9_replay_108 : decode cX9_replay 108 = .ok (.iconst 1, 1) := by decide +kernel
theorem dX9_replay_109 : decode cX9_replay 109 = .ok (.goto 4, 3) := by decide +kernel
theorem dX9_replay_112 : decode cX9_replay 112 = .ok (.iconst 0, 1) := by decide +kernel
theorem dX9_replay_113 : decode cX9_replay 113 = .ok (.istore 6, 2) := by decide +kernel
theorem dX9_replay_115 : decode cX9_replay 115 = .ok (.iload 6, 2) := by decide +kernel
theorem dX9_replay_117 : decode cX9_replay 117 = .ok (.ifCond .ne 107, 3) := by decide +kernel
theorem dX9_replay_120 : decode cX9_replay 120 = .ok (.aload_n 0, 1) := by decide +kernel
theorem dX9_replay_121 : decode cX9_replay 121 = .ok (.aload_n 0, 1) := by decide +kernel
theorem dX9_replay_122 : decode cX9_replay 122 = .ok (.getfield 7, 3) := by decide +kernel
theorem dX9_replay_125 : decode cX9_replay 125 = .ok (.iload 5, 2) := by decide +kernel
theorem dX9_replay_127 : decode cX9_replay 127 = .ok (.iconst 1, 1) := by decide +kernel
theorem dX9_replay_128 : decode cX9_replay 128 = .ok (.iadd, 1) := by decide +kernel
theorem dX9_replay_129 : decode cX9_replay 129 = .ok (.iaload, 1) := by decide +kernel
theorem dX9_replay_130 : decode cX9_replay 130 = .ok (.aload_n 0, 1) := by decide +kernel
theorem dX9_replay_131 : decode cX9_replay 131 = .ok (.getfield 7, 3) := by decide +kernel
theorem dX9_replay_134 : decode cX9_replay 134 = .ok (.iload 5, 2) := by decide +kernel
theorem dX9_replay_136 : decode cX9_replay 136 = .ok (.iconst 2, 1) := by decide +kernel
theorem dX9_replay_137 : decode cX9_replay 137 = .ok (.iadd, 1) := by decide +kernel
theorem dX9_replay_138 : decode cX9_replay 138 = .ok (.iaload, 1) := by decide +kernel
theorem dX9_replay_139 : decode cX9_replay 139 = .ok (.aload_n 0, 1) := by decide +kernel
theorem dX9_replay_140 : decode cX9_replay 140 = .ok (.getfield 7, 3) := by decide +kernel
theorem dX9_replay_143 : decode cX9_replay 143 = .ok (.iload 5, 2) := by decide +kernel
theorem dX9_replay_145 : decode cX9_replay 145 = .ok (.iconst 3, 1) := by decide +kernel
theorem dX9_replay_146 : decode cX9_replay 146 = .ok (.iadd, 1) := by decide +kernel
theorem dX9_replay_147 : decode cX9_replay 147 = .ok (.iaload, 1) := by decide +kernel
theorem dX9_replay_148 : decode cX9_replay 148 = .ok (.aload_n 0, 1) := by decide +kernel
theorem dX9_replay_149 : decode cX9_replay 149 = .ok (.getfield 7, 3) := by decide +kernel
theorem dX9_replay_152 : decode cX9_replay 152 = .ok (.iload 5, 2) := by decide +kernel
theorem dX9_replay_154 : decode cX9_replay 154 = .ok (.iconst 4, 1) := by decide +kernel
theorem dX9_replay_155 : decode cX9_replay 155 = .ok (.iadd, 1) := by decide +kernel
theorem dX9_replay_156 : decode cX9_replay 156 = .ok (.iaload, 1) := by decide +kernel
theorem dX9_replay_157 : decode cX9_replay 157 = .ok (.aload_n 0, 1) := by decide +kernel
theorem dX9_replay_158 : decode cX9_replay 158 = .ok (.getfield 7, 3) := by decide +kernel
theorem dX9_replay_161 : decode cX9_replay 161 = .ok (.iload 5, 2) := by decide +kernel
theorem dX9_replay_163 : decode cX9_replay 163 = .ok (.iconst 5, 1) := by decide +kernel
theorem dX9_replay_164 : decode cX9_replay 164 = .ok (.iadd, 1) := by decide +kernel
theorem dX9_replay_165 : decode cX9_replay 165 = .ok (.iaload, 1) := by decide +kernel
theorem dX9_replay_166 : decode cX9_replay 166 = .ok (.invokevirtual 47, 3) := by decide +kernel
theorem dX9_replay_169 : decode cX9_replay 169 = .ok (.ifCond .ne 55, 3) := by decide +kernel
theorem dX9_replay_172 : decode cX9_replay 172 = .ok (.iload_n 3, 1) := by decide +kernel
theorem dX9_replay_173 : decode cX9_replay 173 = .ok (.aload_n 0, 1) := by decide +kernel
theorem dX9_replay_174 : decode cX9_replay 174 = .ok (.aload_n 0, 1) := by decide +kernel
theorem dX9_replay_175 : decode cX9_replay 175 = .ok (.getfield 7, 3) := by decide +kernel
theorem dX9_replay_178 : decode cX9_replay 178 = .ok (.iload 5, 2) := by decide +kernel
theorem dX9_replay_180 : decode cX9_replay 180 = .ok (.iconst 1, 1) := by decide +kernel
theorem dX9_replay_181 : decode cX9_replay 181 = .ok (.iadd, 1) := by decide +kernel
theorem dX9_replay_182 : decode cX9_replay 182 = .ok (.iaload, 1) := by decide +kernel
theorem dX9_replay_183 : decode cX9_replay 183 = .ok (.aload_n 0, 1) := by decide +kernel
theorem dX9_replay_184 : decode cX9_replay 184 = .ok (.getfield 7, 3) := by decide +kernel
theorem dX9_replay_187 : decode cX9_replay 187 = .ok (.iload 5, 2) := by decide +kernel
theorem dX9_replay_189 : decode cX9_replay 189 = .ok (.iconst 2, 1) := by decide +kernel
theorem dX9_replay_190 : decode cX9_replay 190 = .ok (.iadd, 1) := by decide +kernel
theorem dX9_replay_191 : decode cX9_replay 191 = .ok (.iaload, 1) := by decide +kernel
theorem dX9_replay_192 : decode cX9_replay 192 = .ok (.aload_n 0, 1) := by decide +kernel
theorem dX9_replay_193 : decode cX9_replay 193 = .ok (.getfield 7, 3) := by decide +kernel
theorem dX9_replay_196 : decode cX9_replay 196 = .ok (.iload 5, 2) := by decide +kernel
theorem dX9_replay_198 : decode cX9_replay 198 = .ok (.iconst 3, 1) := by decide +kernel
theorem dX9_replay_199 : decode cX9_replay 199 = .ok (.iadd, 1) := by decide +kernel
theorem dX9_replay_200 : decode cX9_replay 200 = .ok (.iaload, 1) := by decide +kernel
theorem dX9_replay_201 : decode cX9_replay 201 = .ok (.aload_n 0, 1) := by decide +kernel
theorem dX9_replay_202 : decode cX9_replay 202 = .ok (.getfield 7, 3) := by decide +kernel
theorem dX9_replay_205 : decode cX9_replay 205 = .ok (.iload 5, 2) := by decide +kernel
theorem dX9_replay_207 : decode cX9_replay 207 = .ok (.iconst 4, 1) := by decide +kernel
theorem dX9_replay_208 : decode cX9_replay 208 = .ok (.iadd, 1) := by decide +kernel
theorem dX9_replay_209 : decode cX9_replay 209 = .ok (.iaload, 1) := by decide +kernel
theorem dX9_replay_210 : decode cX9_replay 210 = .ok (.aload_n 0, 1) := by decide +kernel
theorem dX9_replay_211 : decode cX9_replay 211 = .ok (.getfield 7, 3) := by decide +kernel
theorem dX9_replay_214 : decode cX9_replay 214 = .ok (.iload 5, 2) := by decide +kernel
theorem dX9_replay_216 : decode cX9_replay 216 = .ok (.iconst 5, 1) := by decide +kernel
theorem dX9_replay_217 : decode cX9_replay 217 = .ok (.iadd, 1) := by decide +kernel
theorem dX9_replay_218 : decode cX9_replay 218 = .ok (.iaload, 1) := by decide +kernel
theorem dX9_replay_219 : decode cX9_replay 219 = .ok (.invokevirtual 51, 3) := by decide +kernel
theorem dX9_replay_222 : decode cX9_replay 222 = .ok (.iadd, 1) := by decide +kernel
theorem dX9_replay_223 : decode cX9_replay 223 = .ok (.istore_n 3, 1) := by decide +kernel
theorem dX9_replay_224 : decode cX9_replay 224 = .ok (.iinc 4 1, 3) := by decide +kernel
theorem dX9_replay_227 : decode cX9_replay 227 = .ok (.goto (-194), 3) := by decide +kernel
theorem dX9_replay_230 : decode cX9_replay 230 = .ok (.aload_n 0, 1) := by decide +kernel
theorem dX9_replay_231 : decode cX9_replay 231 = .ok (.getfield 7, 3) := by decide +kernel
theorem dX9_replay_234 : decode cX9_replay 234 = .ok (.iconst 0, 1) := by decide +kernel
theorem dX9_replay_235 : decode cX9_replay 235 = .ok (.iaload, 1) := by decide +kernel
theorem dX9_replay_236 : decode cX9_replay 236 = .ok (.aload_n 0, 1) := by decide +kernel
theorem dX9_replay_237 : decode cX9_replay 237 = .ok (.getfield 13, 3) := by decide +kernel
theorem dX9_replay_240 : decode cX9_replay 240 = .ok (.iconst 0, 1) := by decide +kernel
theorem dX9_replay_241 : decode cX9_replay 241 = .ok (.iaload, 1) := by decide +kernel
theorem dX9_replay_242 : decode cX9_replay 242 = .ok (.if_icmp .ge 13, 3) := by decide +kernel
theorem dX9_replay_245 : decode cX9_replay 245 = .ok (.iload_n 3, 1) := by decide +kernel
theorem dX9_replay_246 : decode cX9_replay 246 = .ok (.aload_n 0, 1) := by decide +kernel
theorem dX9_replay_247 : decode cX9_replay 247 = .ok (.invokevirtual 179, 3) := by decide +kernel
theorem dX9_replay_250 : decode cX9_replay 250 = .ok (.iadd, 1) := by decide +kernel
theorem dX9_replay_251 : decode cX9_replay 251 = .ok (.istore_n 3, 1) := by decide +kernel
theorem dX9_replay_252 : decode cX9_replay 252 = .ok (.goto (-22), 3) := by decide +kernel
theorem dX9_replay_255 : decode cX9_replay 255 = .ok (.aload_n 0, 1) := by decide +kernel
theorem dX9_replay_256 : decode cX9_replay 256 = .ok (.invokevirtual 200, 3) := by decide +kernel
theorem dX9_replay_259 : decode cX9_replay 259 = .ok (.istore 4, 2) := by decide +kernel
theorem dX9_replay_261 : decode cX9_replay 261 = .ok (.aload_n 0, 1) := by decide +kernel
theorem dX9_replay_262 : decode cX9_replay 262 = .ok (.aload_n 0, 1) := by decide +kernel
theorem dX9_replay_263 : decode cX9_replay 263 = .ok (.getfield 13, 3) := by decide +kernel
theorem dX9_replay_266 : decode cX9_replay 266 = .ok (.iconst 0, 1) := by decide +kernel
theorem dX9_replay_267 : decode cX9_replay 267 = .ok (.aload_n 0, 1) := by decide +kernel
theorem dX9_replay_268 : decode cX9_replay 268 = .ok (.getfield 7, 3) := by decide +kernel
theorem dX9_replay_271 : decode cX9_replay 271 = .ok (.iconst 0, 1) := by decide +kernel
theorem dX9_replay_272 : decode cX9_replay 272 = .ok (.invokevirtual 196, 3) := by decide +kernel
theorem dX9_replay_275 : decode cX9_replay 275 = .ok (.iload 4, 2) := by decide +kernel
theorem dX9_replay_277 : decode cX9_replay 277 = .ok (.ireturn, 1) := by decide +kernel
theorem dX9_breachesWith_0 : decode cX9_breachesWith 0 = .ok (.iload_n 1, 1) := by decide +kernel
theorem dX9_breachesWith_1 : decode cX9_breachesWith 1 = .ok (.invokestatic 62, 3) := by decide +kernel
theorem dX9_breachesWith_4 : decode cX9_breachesWith 4 = .ok (.ifCond .eq 22, 3) := by decide +kernel
theorem dX9_breachesWith_7 : decode cX9_breachesWith 7 = .ok (.iload_n 2, 1) := by decide +kernel
theorem dX9_breachesWith_8 : decode cX9_breachesWith 8 = .ok (.iconst 0, 1) := by decide +kernel
theorem dX9_breachesWith_9 : decode cX9_breachesWith 9 = .ok (.bipush 9, 2) := by decide +kernel
theorem dX9_breachesWith_11 : decode cX9_breachesWith 11 = .ok (.invokestatic 43, 3) := by decide +kernel
theorem dX9_breachesWith_14 : decode cX9_breachesWith 14 = .ok (.ifCond .eq 12, 3) := by decide +kernel
theorem dX9_breachesWith_17 : decode cX9_breachesWith 17 = .ok (.aload_n 0, 1) := by decide +kernel
theorem dX9_breachesWith_18 : decode cX9_breachesWith 18 = .ok (.iload_n 1, 1) := by decide +kernel
theorem dX9_breachesWith_19 : decode cX9_breachesWith 19 = .ok (.iload_n 2, 1) := by decide +kernel
theorem dX9_breachesWith_20 : decode cX9_breachesWith 20 = .ok (.invokevirtual 203, 3) := by decide +kernel
theorem dX9_breachesWith_23 : decode cX9_breachesWith 23 = .ok (.goto 5, 3) := by decide +kernel
theorem dX9_breachesWith_26 : decode cX9_breachesWith 26 = .ok (.bipush (-4), 2) := by decide +kernel
theorem dX9_breachesWith_28 : decode cX9_breachesWith 28 = .ok (.ireturn, 1) := by decide +kernel
theorem dX9_leastAgents_0 : decode cX9_leastAgents 0 = .ok (.iload_n 1, 1) := by decide +kernel
theorem dX9_leastAgents_1 : decode cX9_leastAgents 1 = .ok (.invokestatic 62, 3) := by decide +kernel
theorem dX9_leastAgents_4 : decode cX9_leastAgents 4 = .ok (.ifCond .ne 6, 3) := by decide +kernel
theorem dX9_leastAgents_7 : decode cX9_leastAgents 7 = .ok (.bipush (-4), 2) := by decide +kernel
theorem dX9_leastAgents_9 : decode cX9_leastAgents 9 = .ok (.ireturn, 1) := by decide +kernel
theorem dX9_leastAgents_10 : decode cX9_leastAgents 10 = .ok (.iconst 0, 1) := by decide +kernel
theorem dX9_leastAgents_11 : decode cX9_leastAgents 11 = .ok (.istore_n 2, 1) := by decide +kernel
theorem dX9_leastAgents_12 : decode cX9_leastAgents 12 = .ok (.iload_n 2, 1) := by decide +kernel
theorem dX9_leastAgents_13 : decode cX9_leastAgents 13 = .ok (.bipush 9, 2) := by decide +kernel
theorem dX9_leastAgents_15 : decode cX9_leastAgents 15 = .ok (.if_icmp .gt 20, 3) := by decide +kernel
theorem dX9_leastAgents_18 : decode cX9_leastAgents 18 = .ok (.aload_n 0, 1) := by decide +kernel
theorem dX9_leastAgents_19 : decode cX9_leastAgents 19 = .ok (.iload_n 1, 1) := by decide +kernel
theorem dX9_leastAgents_20 : decode cX9_leastAgents 20 = .ok (.iload_n 2, 1) := by decide +kernel
theorem dX9_leastAgents_21 : decode cX9_leastAgents 21 = .ok (.invokevirtual 203, 3) := by decide +kernel
theorem dX9_leastAgents_24 : decode cX9_leastAgents 24 = .ok (.ifCond .ne 5, 3) := by decide +kernel
theorem dX9_leastAgents_27 : decode cX9_leastAgents 27 = .ok (.iload_n 2, 1) := by decide +kernel
theorem dX9_leastAgents_28 : decode cX9_leastAgents 28 = .ok (.ireturn, 1) := by decide +kernel
theorem dX9_leastAgents_29 : decode cX9_leastAgents 29 = .ok (.iinc 2 1, 3) := by decide +kernel
theorem dX9_leastAgents_32 : decode cX9_leastAgents 32 = .ok (.goto (-20), 3) := by decide +kernel
theorem dX9_leastAgents_35 : decode cX9_leastAgents 35 = .ok (.iconst (-1), 1) := by decide +kernel
theorem dX9_leastAgents_36 : decode cX9_leastAgents 36 = .ok (.ireturn, 1) := by decide +kernel
theorem dX9_historyLength_0 : decode cX9_historyLength 0 = .ok (.aload_n 0, 1) := by decide +kernel
theorem dX9_historyLength_1 : decode cX9_historyLength 1 = .ok (.getfield 7, 3) := by decide +kernel
theorem dX9_historyLength_4 : decode cX9_historyLength 4 = .ok (.bipush 57, 2) := by decide +kernel
theorem dX9_historyLength_6 : decode cX9_historyLength 6 = .ok (.iaload, 1) := by decide +kernel
theorem dX9_historyLength_7 : decode cX9_historyLength 7 = .ok (.ireturn, 1) := by decide +kernel
theorem dX9_logSize_0 : decode cX9_logSize 0 = .ok (.aload_n 0, 1) := by decide +kernel
theorem dX9_logSize_1 : decode cX9_logSize 1 = .ok (.getfield 7, 3) := by decide +kernel
theorem dX9_logSize_4 : decode cX9_logSize 4 = .ok (.bipush 58, 2) := by decide +kernel
theorem dX9_logSize_6 : decode cX9_logSize 6 = .ok (.iaload, 1) := by decide +kernel
theorem dX9_logSize_7 : decode cX9_logSize 7 = .ok (.ireturn, 1) := by decide +kernel
theorem dX9_eventField_0 : decode cX9_eventField 0 = .ok (.iload_n 1, 1) := by decide +kernel
theorem dX9_eventField_1 : decode cX9_eventField 1 = .ok (.iconst 0, 1) := by decide +kernel
theorem dX9_eventField_2 : decode cX9_eventField 2 = .ok (.aload_n 0, 1) := by decide +kernel
theorem dX9_eventField_3 : decode cX9_eventField 3 = .ok (.getfield 7, 3) := by decide +kernel
theorem dX9_eventField_6 : decode cX9_eventField 6 = .ok (.bipush 58, 2) := by decide +kernel
theorem dX9_eventField_8 : decode cX9_eventField 8 = .ok (.iaload, 1) := by decide +kernel
theorem dX9_eventField_9 : decode cX9_eventField 9 = .ok (.iconst 1, 1) := by decide +kernel
theorem dX9_eventField_10 : decode cX9_eventField 10 = .ok (.isub, 1) := by decide +kernel
theorem dX9_eventField_11 : decode cX9_eventField 11 = .ok (.invokestatic 43, 3) := by decide +kernel
theorem dX9_eventField_14 : decode cX9_eventField 14 = .ok (.ifCond .eq 20, 3) := by decide +kernel
theorem dX9_eventField_17 : decode cX9_eventField 17 = .ok (.aload_n 0, 1) := by decide +kernel
theorem dX9_eventField_18 : decode cX9_eventField 18 = .ok (.getfield 7, 3) := by decide +kernel
theorem dX9_eventField_21 : decode cX9_eventField 21 = .ok (.sipush 2219, 3) := by decide +kernel
theorem dX9_eventField_24 : decode cX9_eventField 24 = .ok (.iconst 4, 1) := by decide +kernel
theorem dX9_eventField_25 : decode cX9_eventField 25 = .ok (.iload_n 1, 1) := by decide +kernel
theorem dX9_eventField_26 : decode cX9_eventField 26 = .ok (.imul, 1) := by decide +kernel
theorem dX9_eventField_27 : decode cX9_eventField 27 = .ok (.iadd, 1) := by decide +kernel
theorem dX9_eventField_28 : decode cX9_eventField 28 = .ok (.iload_n 2, 1) := by decide +kernel
theorem dX9_eventField_29 : decode cX9_eventField 29 = .ok (.iadd, 1) := by decide +kernel
theorem dX9_eventField_30 : decode cX9_eventField 30 = .ok (.iaload, 1) := by decide +kernel
theorem dX9_eventField_31 : decode cX9_eventField 31 = .ok (.goto 5, 3) := by decide +kernel
theorem dX9_eventField_34 : decode cX9_eventField 34 = .ok (.bipush (-4), 2) := by decide +kernel
theorem dX9_eventField_36 : decode cX9_eventField 36 = .ok (.ireturn, 1) := by decide +kernel
theorem dX9_logTime_0 : decode cX9_logTime 0 = .ok (.aload_n 0, 1) := by decide +kernel
theorem dX9_logTime_1 : decode cX9_logTime 1 = .ok (.iload_n 1, 1) := by decide +kernel
theorem dX9_logTime_2 : decode cX9_logTime 2 = .ok (.iconst 0, 1) := by decide +kernel
theorem dX9_logTime_3 : decode cX9_logTime 3 = .ok (.invokevirtual 206, 3) := by decide +kernel
theorem dX9_logTime_6 : decode cX9_logTime 6 = .ok (.ireturn, 1) := by decide +kernel
theorem dX9_logType_0 : decode cX9_logType 0 = .ok (.aload_n 0, 1) := by decide +kernel
theorem dX9_logType_1 : decode cX9_logType 1 = .ok (.iload_n 1, 1) := by decide +kernel
theorem dX9_logType_2 : decode cX9_logType 2 = .ok (.iconst 1, 1) := by decide +kernel
theorem dX9_logType_3 : decode cX9_logType 3 = .ok (.invokevirtual 206, 3) := by decide +kernel
theorem dX9_logType_6 : decode cX9_logType 6 = .ok (.ireturn, 1) := by decide +kernel
theorem dX9_logTicket_0 : decode cX9_logTicket 0 = .ok (.aload_n 0, 1) := by decide +kernel
theorem dX9_logTicket_1 : decode cX9_logTicket 1 = .ok (.iload_n 1, 1) := by decide +kernel
theorem dX9_logTicket_2 : decode cX9_logTicket 2 = .ok (.iconst 2, 1) := by decide +kernel
theorem dX9_logTicket_3 : decode cX9_logTicket 3 = .ok (.invokevirtual 206, 3) := by decide +kernel
theorem dX9_logTicket_6 : decode cX9_logTicket 6 = .ok (.ireturn, 1) := by decide +kernel
theorem dX9_logDetail_0 : decode cX9_logDetail 0 = .ok (.aload_n 0, 1) := by decide +kernel
theorem dX9_logDetail_1 : decode cX9_logDetail 1 = .ok (.iload_n 1, 1) := by decide +kernel
theorem dX9_logDetail_2 : decode cX9_logDetail 2 = .ok (.iconst 3, 1) := by decide +kernel
theorem dX9_logDetail_3 : decode cX9_logDetail 3 = .ok (.invokevirtual 206, 3) := by decide +kernel
theorem dX9_logDetail_6 : decode cX9_logDetail 6 = .ok (.ireturn, 1) := by decide +kernel
theorem dX9_appendText_0 : decode cX9_appendText 0 = .ok (.aload_n 0, 1) := by decide +kernel
theorem dX9_appendText_1 : decode cX9_appendText 1 = .ok (.getfield 209, 3) := by decide +kernel
theorem dX9_appendText_4 : decode cX9_appendText 4 = .ok (.iconst 4, 1) := by decide +kernel
theorem dX9_appendText_5 : decode cX9_appendText 5 = .ok (.iadd, 1) := by decide +kernel
theorem dX9_appendText_6 : decode cX9_appendText 6 = .ok (.sipush 400, 3) := by decide +kernel
theorem dX9_appendText_9 : decode cX9_appendText 9 = .ok (.if_icmp .le 6, 3) := by decide +kernel
theorem dX9_appendText_12 : decode cX9_appendText 12 = .ok (.bipush (-6), 2) := by decide +kernel
theorem dX9_appendText_14 : decode cX9_appendText 14 = .ok (.ireturn, 1) := by decide +kernel
theorem dX9_appendText_15 : decode cX9_appendText 15 = .ok (.bipush 24, 2) := by decide +kernel
theorem dX9_appendText_17 : decode cX9_appendText 17 = .ok (.istore_n 2, 1) := by decide +kernel
theorem dX9_appendText_18 : decode cX9_appendText 18 = .ok (.iload_n 2, 1) := by decide +kernel
theorem dX9_appendText_19 : decode cX9_appendText 19 = .ok (.ifCond .lt 35, 3) := by decide +kernel
theorem dX9_appendText_22 : decode cX9_appendText 22 = .ok (.aload_n 0, 1) := by decide +kernel
theorem dX9_appendText_23 : decode cX9_appendText 23 = .ok (.getfield 23, 3) := by decide +kernel
theorem dX9_appendText_26 : decode cX9_appendText 26 = .ok (.aload_n 0, 1) := by decide +kernel
theorem dX9_appendText_27 : decode cX9_appendText 27 = .ok (.getfield 209, 3) := by decide +kernel
theorem dX9_appendText_30 : decode cX9_appendText 30 = .ok (.iload_n 1, 1) := by decide +kernel
theorem dX9_appendText_31 : decode cX9_appendText 31 = .ok (.iload_n 2, 1) := by decide +kernel
theorem dX9_appendText_32 : decode cX9_appendText 32 = .ok (.ishr, 1) := by decide +kernel
theorem dX9_appendText_33 : decode cX9_appendText 33 = .ok (.sipush 255, 3) := by decide +kernel
theorem dX9_appendText_36 : decode cX9_appendText 36 = .ok (.iand, 1) := by decide +kernel
theorem dX9_appendText_37 : decode cX9_appendText 37 = .ok (.iastore, 1) := by decide +kernel
theorem dX9_appendText_38 : decode cX9_appendText 38 = .ok (.aload_n 0, 1) := by decide +kernel
theorem dX9_appendText_39 : decode cX9_appendText 39 = .ok (.dup, 1) := by decide +kernel
theorem dX9_appendText_40 : decode cX9_appendText 40 = .ok (.getfield 209, 3) := by decide +kernel
theorem dX9_appendText_43 : decode cX9_appendText 43 = .ok (.iconst 1, 1) := by decide +kernel
theorem dX9_appendText_44 : decode cX9_appendText 44 = .ok (.iadd, 1) := by decide +kernel
theorem dX9_appendText_45 : decode cX9_appendText 45 = .ok (.putfield 209, 3) := by decide +kernel
theorem dX9_appendText_48 : decode cX9_appendText 48 = .ok (.iinc 2 (-8), 3) := by decide +kernel
theorem dX9_appendText_51 : decode cX9_appendText 51 = .ok (.goto (-33), 3) := by decide +kernel
theorem dX9_appendText_54 : decode cX9_appendText 54 = .ok (.aload_n 0, 1) := by decide +kernel
theorem dX9_appendText_55 : decode cX9_appendText 55 = .ok (.getfield 209, 3) := by decide +kernel
theorem dX9_appendText_58 : decode cX9_appendText 58 = .ok (.ireturn, 1) := by decide +kernel
theorem dX9_truncateText_0 : decode cX9_truncateText 0 = .ok (.iload_n 1, 1) := by decide +kernel
theorem dX9_truncateText_1 : decode cX9_truncateText 1 = .ok (.iconst 0, 1) := by decide +kernel
theorem dX9_truncateText_2 : decode cX9_truncateText 2 = .ok (.aload_n 0, 1) := by decide +kernel
theorem dX9_truncateText_3 : decode cX9_truncateText 3 = .ok (.getfield 209, 3) := by decide +kernel
theorem dX9_truncateText_6 : decode cX9_truncateText 6 = .ok (.invokestatic 43, 3) := by decide +kernel
theorem dX9_truncateText_9 : decode cX9_truncateText 9 = .ok (.ifCond .ne 6, 3) := by decide +kernel
theorem dX9_truncateText_12 : decode cX9_truncateText 12 = .ok (.bipush (-4), 2) := by decide +kernel
theorem dX9_truncateText_14 : decode cX9_truncateText 14 = .ok (.ireturn, 1) := by decide +kernel
theorem dX9_truncateText_15 : decode cX9_truncateText 15 = .ok (.aload_n 0, 1) := by decide +kernel
theorem dX9_truncateText_16 : decode cX9_truncateText 16 = .ok (.iload_n 1, 1) := by decide +kernel
theorem dX9_truncateText_17 : decode cX9_truncateText 17 = .ok (.putfield 209, 3) := by decide +kernel
theorem dX9_truncateText_20 : decode cX9_truncateText 20 = .ok (.aload_n 0, 1) := by decide +kernel
theorem dX9_truncateText_21 : decode cX9_truncateText 21 = .ok (.getfield 209, 3) := by decide +kernel
theorem dX9_truncateText_24 : decode cX9_truncateText 24 = .ok (.ireturn, 1) := by decide +kernel
theorem dX9_byteAt_0 : decode cX9_byteAt 0 = .ok (.iload_n 1, 1) := by decide +kernel
theorem dX9_byteAt_1 : decode cX9_byteAt 1 = .ok (.aload_n 0, 1) := by decide +kernel
theorem dX9_byteAt_2 : decode cX9_byteAt 2 = .ok (.getfield 209, 3) := by decide +kernel
theorem dX9_byteAt_5 : decode cX9_byteAt 5 = .ok (.if_icmp .ge 12, 3) := by decide +kernel
theorem dX9_byteAt_8 : decode cX9_byteAt 8 = .ok (.aload_n 0, 1) := by decide +kernel
theorem dX9_byteAt_9 : decode cX9_byteAt 9 = .ok (.getfield 23, 3) := by decide +kernel
theorem dX9_byteAt_12 : decode cX9_byteAt 12 = .ok (.iload_n 1, 1) := by decide +kernel
theorem dX9_byteAt_13 : decode cX9_byteAt 13 = .ok (.iaload, 1) := by decide +kernel
theorem dX9_byteAt_14 : decode cX9_byteAt 14 = .ok (.goto 4, 3) := by decide +kernel
theorem dX9_byteAt_17 : decode cX9_byteAt 17 = .ok (.iconst (-1), 1) := by decide +kernel
theorem dX9_byteAt_18 : decode cX9_byteAt 18 = .ok (.ireturn, 1) := by decide +kernel
theorem dX9_isLetter_0 : decode cX9_isLetter 0 = .ok (.iload_n 0, 1) := by decide +kernel
theorem dX9_isLetter_1 : decode cX9_isLetter 1 = .ok (.bipush 97, 2) := by decide +kernel
theorem dX9_isLetter_3 : decode cX9_isLetter 3 = .ok (.bipush 122, 2) := by decide +kernel
theorem dX9_isLetter_5 : decode cX9_isLetter 5 = .ok (.invokestatic 43, 3) := by decide +kernel
theorem dX9_isLetter_8 : decode cX9_isLetter 8 = .ok (.ireturn, 1) := by decide +kernel
theorem dX9_isDigit_0 : decode cX9_isDigit 0 = .ok (.iload_n 0, 1) := by decide +kernel
theorem dX9_isDigit_1 : decode cX9_isDigit 1 = .ok (.bipush 48, 2) := by decide +kernel
theorem dX9_isDigit_3 : decode cX9_isDigit 3 = .ok (.bipush 57, 2) := by decide +kernel
theorem dX9_isDigit_5 : decode cX9_isDigit 5 = .ok (.invokestatic 43, 3) := by decide +kernel
theorem dX9_isDigit_8 : decode cX9_isDigit 8 = .ok (.ireturn, 1) := by decide +kernel
theorem dX9_nextToken_0 : decode cX9_nextToken 0 = .ok (.aload_n 0, 1) := by decide +kernel
theorem dX9_nextToken_1 : decode cX9_nextToken 1 = .ok (.aload_n 0, 1) := by decide +kernel
theorem dX9_nextToken_2 : decode cX9_nextToken 2 = .ok (.getfield 212, 3) := by decide +kernel
theorem dX9_nextToken_5 : decode cX9_nextToken 5 = .ok (.invokevirtual 215, 3) := by decide +kernel
theorem dX9_nextToken_8 : decode cX9_nextToken 8 = .ok (.bipush 32, 2) := by decide +kernel
theorem dX9_nextToken_10 : decode cX9_nextToken 10 = .ok (.if_icmp .eq 16, 3) := by decide +kernel
theorem dX9_nextToken_13 : decode cX9_nextToken 13 = .ok (.aload_n 0, 1) := by decide +kernel
theorem dX9_nextToken_14 : decode cX9_nextToken 14 = .ok (.aload_n 0, 1) := by decide +kernel
theorem dX9_nextToken_15 : decode cX9_nextToken 15 = .ok (.getfield 212, 3) := by decide +kernel
theorem dX9_nextToken_18 : decode cX9_nextToken 18 = .ok (.invokevirtual 215, 3) := by decide +kernel
theorem dX9_nextToken_21 : decode cX9_nextToken 21 = .ok (.bipush 10, 2) := by decide +kernel
theorem dX9_nextToken_23 : decode cX9_nextToken 23 = .ok (.if_icmp .ne 16, 3) := by decide +kernel
theorem dX9_nextToken_26 : decode cX9_nextToken 26 = .ok (.aload_n 0, 1) := by decide +kernel
theorem dX9_nextToken_27 : decode cX9_nextToken 27 = .ok (.dup, 1) := by decide +kernel
theorem dX9_nextToken_28 : decode cX9_nextToken 28 = .ok (.getfield 212, 3) := by decide +kernel
theorem dX9_nextToken_31 : decode cX9_nextToken 31 = .ok (.iconst 1, 1) := by decide +kernel
theorem dX9_nextToken_32 : decode cX9_nextToken 32 = .ok (.iadd, 1) := by decide +kernel
theorem dX9_nextToken_33 : decode cX9_nextToken 33 = .ok (.putfield 212, 3) := by decide +kernel
theorem dX9_nextToken_36 : decode cX9_nextToken 36 = .ok (.goto (-36), 3) := by decide +kernel
theorem dX9_nextToken_39 : decode cX9_nextToken 39 = .ok (.aload_n 0, 1) := by decide +kernel
theorem dX9_nextToken_40 : decode cX9_nextToken 40 = .ok (.aload_n 0, 1) := by decide +kernel
theorem dX9_nextToken_41 : decode cX9_nextToken 41 = .ok (.getfield 212, 3) := by decide +kernel
theorem dX9_nextToken_44 : decode cX9_nextToken 44 = .ok (.putfield 218, 3) := by decide +kernel
theorem dX9_nextToken_47 : decode cX9_nextToken 47 = .ok (.aload_n 0, 1) := by decide +kernel
theorem dX9_nextToken_48 : decode cX9_nextToken 48 = .ok (.iconst 0, 1) := by decide +kernel
theorem dX9_nextToken_49 : decode cX9_nextToken 49 = .ok (.putfield 221, 3) := by decide +kernel
theorem dX9_nextToken_52 : decode cX9_nextToken 52 = .ok (.aload_n 0, 1) := by decide +kernel
theorem dX9_nextToken_53 : decode cX9_nextToken 53 = .ok (.lconst 0, 1) := by decide +kernel
theorem dX9_nextToken_54 : decode cX9_nextToken 54 = .ok (.putfield 224, 3) := by decide +kernel
theorem dX9_nextToken_57 : decode cX9_nextToken 57 = .ok (.aload_n 0, 1) := by decide +kernel
theorem dX9_nextToken_58 : decode cX9_nextToken 58 = .ok (.iconst 0, 1) := by decide +kernel
theorem dX9_nextToken_59 : decode cX9_nextToken 59 = .ok (.putfield 228, 3) := by decide +kernel
theorem dX9_nextToken_62 : decode cX9_nextToken 62 = .ok (.aload_n 0, 1) := by decide +kernel
theorem dX9_nextToken_63 : decode cX9_nextToken 63 = .ok (.aload_n 0, 1) := by decide +kernel
theorem dX9_nextToken_64 : decode cX9_nextToken 64 = .ok (.getfield 212, 3) := by decide +kernel
theorem dX9_nextToken_67 : decode cX9_nextToken 67 = .ok (.invokevirtual 215, 3) := by decide +kernel
theorem dX9_nextToken_70 : decode cX9_nextToken 70 = .ok (.istore_n 1, 1) := by decide +kernel
theorem dX9_nextToken_71 : decode cX9_nextToken 71 = .ok (.iload_n 1, 1) := by decide +kernel
theorem dX9_nextToken_72 : decode cX9_nextToken 72 = .ok (.iconst (-1), 1) := by decide +kernel
theorem dX9_nextToken_73 : decode cX9_nextToken 73 = .ok (.if_icmp .ne 11, 3) := by decide +kernel
theorem dX9_nextToken_76 : decode cX9_nextToken 76 = .ok (.aload_n 0, 1) := by decide +kernel
theorem dX9_nextToken_77 : decode cX9_nextToken 77 = .ok (.iconst 0, 1) := by decide +kernel
theorem dX9_nextToken_78 : decode cX9_nextToken 78 = .ok (.putfield 231, 3) := by decide +kernel
theorem dX9_nextToken_81 : decode cX9_nextToken 81 = .ok (.goto 197, 3) := by decide +kernel
theorem dX9_nextToken_84 : decode cX9_nextToken 84 = .ok (.iload_n 1, 1) := by decide +kernel
theorem dX9_nextToken_85 : decode cX9_nextToken 85 = .ok (.invokestatic 234, 3) := by decide +kernel
theorem dX9_nextToken_88 : decode cX9_nextToken 88 = .ok (.ifCond .eq 87, 3) := by decide +kernel
theorem dX9_nextToken_91 : decode cX9_nextToken 91 = .ok (.aload_n 0, 1) := by decide +kernel
theorem dX9_nextToken_92 : decode cX9_nextToken 92 = .ok (.iconst 2, 1) := by decide +kernel
theorem dX9_nextToken_93 : decode cX9_nextToken 93 = .ok (.putfield 231, 3) := by decide +kernel
theorem dX9_nextToken_96 : decode cX9_nextToken 96 = .ok (.aload_n 0, 1) := by decide +kernel
theorem dX9_nextToken_97 : decode cX9_nextToken 97 = .ok (.aload_n 0, 1) := by decide +kernel
theorem dX9_nextToken_98 : decode cX9_nextToken 98 = .ok (.getfield 212, 3) := by decide +kernel
theorem dX9_nextToken_101 : decode cX9_nextToken 101 = .ok (.invokevirtual 215, 3) := by decide +kernel
theorem dX9_nextToken_104 : decode cX9_nextToken 104 = .ok (.invokestatic 234, 3) := by decide +kernel
theorem dX9_nextToken_107 : decode cX9_nextToken 107 = .ok (.ifCond .eq 171, 3) := by decide +kernel
theorem dX9_nextToken_110 : decode cX9_nextToken 110 = .ok (.aload_n 0, 1) := by decide +kernel
theorem dX9_nextToken_111 : decode cX9_nextToken 111 = .ok (.aload_n 0, 1) := by decide +kernel
theorem dX9_nextToken_112 : decode cX9_nextToken 112 = .ok (.getfield 221, 3) := by decide +kernel
theorem dX9_nextToken_115 : decode cX9_nextToken 115 = .ok (.bipush 9, 2) := by decide +kernel
theorem dX9_nextToken_117 : decode cX9_nextToken 117 = .ok (.if_icmp .ge 28, 3) := by decide +kernel
theorem dX9_nextToken_120 : decode cX9_nextToken 120 = .ok (.ldc2_w 237, 3) := by decide +kernel
theorem dX9_nextToken_123 : decode cX9_nextToken 123 = .ok (.aload_n 0, 1) := by decide +kernel
theorem dX9_nextToken_124 : decode cX9_nextToken 124 = .ok (.getfield 224, 3) := by decide +kernel
theorem dX9_nextToken_127 : decode cX9_nextToken 127 = .ok (.lmul, 1) := by decide +kernel
theorem dX9_nextToken_128 : decode cX9_nextToken 128 = .ok (.aload_n 0, 1) := by decide +kernel
theorem dX9_nextToken_129 : decode cX9_nextToken 129 = .ok (.aload_n 0, 1) := by decide +kernel
theorem dX9_nextToken_130 : decode cX9_nextToken 130 = .ok (.getfield 212, 3) := by decide +kernel
theorem dX9_nextToken_133 : decode cX9_nextToken 133 = .ok (.invokevirtual 215, 3) := by decide +kernel
theorem dX9_nextToken_136 : decode cX9_nextToken 136 = .ok (.i2l, 1) := by decide +kernel
theorem dX9_nextToken_137 : decode cX9_nextToken 137 = .ok (.ladd, 1) := by decide +kernel
theorem dX9_nextToken_138 : decode cX9_nextToken 138 = .ok (.ldc2_w 239, 3) := by decide +kernel
theorem dX9_nextToken_141 : decode cX9_nextToken 141 = .ok (.lsub, 1) := by decide +kernel
theorem dX9_nextToken_142 : decode cX9_nextToken 142 = .ok (.goto 7, 3) := by decide +kernel
theorem dX9_nextToken_145 : decode cX9_nextToken 145 = .ok (.aload_n 0, 1) := by decide +kernel
theorem dX9_nextToken_146 : decode cX9_nextToken 146 = .ok (.getfield 224, 3) := by decide +kernel
theorem dX9_nextToken_149 : decode cX9_nextToken 149 = .ok (.putfield 224, 3) := by decide +kernel
theorem dX9_nextToken_152 : decode cX9_nextToken 152 = .ok (.aload_n 0, 1) := by decide +kernel
theorem dX9_nextToken_153 : decode cX9_nextToken 153 = .ok (.dup, 1) := by decide +kernel
theorem dX9_nextToken_154 : decode cX9_nextToken 154 = .ok (.getfield 221, 3) := by decide +kernel
theorem dX9_nextToken_157 : decode cX9_nextToken 157 = .ok (.iconst 1, 1) := by decide +kernel
theorem dX9_nextToken_158 : decode cX9_nextToken 158 = .ok (.iadd, 1) := by decide +kernel
theorem dX9_nextToken_159 : decode cX9_nextToken 159 = .ok (.putfield 221, 3) := by decide +kernel
theorem dX9_nextToken_162 : decode cX9_nextToken 162 = .ok (.aload_n 0, 1) := by decide +kernel
theorem dX9_nextToken_163 : decode cX9_nextToken 163 = .ok (.dup, 1) := by decide +kernel
theorem dX9_nextToken_164 : decode cX9_nextToken 164 = .ok (.getfield 212, 3) := by decide +kernel
theorem dX9_nextToken_167 : decode cX9_nextToken 167 = .ok (.iconst 1, 1) := by decide +kernel
theorem dX9_nextToken_168 : decode cX9_nextToken 168 = .ok (.iadd, 1) := by decide +kernel
theorem dX9_nextToken_169 : decode cX9_nextToken 169 = .ok (.putfield 212, 3) := by decide +kernel
theorem dX9_nextToken_172 : decode cX9_nextToken 172 = .ok (.goto (-76), 3) := by decide +kernel
theorem dX9_nextToken_175 : decode cX9_nextToken 175 = .ok (.iload_n 1, 1) := by decide +kernel
theorem dX9_nextToken_176 : decode cX9_nextToken 176 = .ok (.invokestatic 241, 3) := by decide +kernel
theorem dX9_nextToken_179 : decode cX9_nextToken 179 = .ok (.ifCond .eq 74, 3) := by decide +kernel
theorem dX9_nextToken_182 : decode cX9_nextToken 182 = .ok (.aload_n 0, 1) := by decide +kernel
theorem dX9_nextToken_183 : decode cX9_nextToken 183 = .ok (.iconst 3, 1) := by decide +kernel
theorem dX9_nextToken_184 : decode cX9_nextToken 184 = .ok (.putfield 231, 3) := by decide +kernel
theorem dX9_nextToken_187 : decode cX9_nextToken 187 = .ok (.aload_n 0, 1) := by decide +kernel
theorem dX9_nextToken_188 : decode cX9_nextToken 188 = .ok (.aload_n 0, 1) := by decide +kernel
theorem dX9_nextToken_189 : decode cX9_nextToken 189 = .ok (.getfield 212, 3) := by decide +kernel
theorem dX9_nextToken_192 : decode cX9_nextToken 192 = .ok (.invokevirtual 215, 3) := by decide +kernel
theorem dX9_nextToken_195 : decode cX9_nextToken 195 = .ok (.invokestatic 241, 3) := by decide +kernel
theorem dX9_nextToken_198 : decode cX9_nextToken 198 = .ok (.ifCond .eq 80, 3) := by decide +kernel
theorem dX9_nextToken_201 : decode cX9_nextToken 201 = .ok (.aload_n 0, 1) := by decide +kernel
theorem dX9_nextToken_202 : decode cX9_nextToken 202 = .ok (.aload_n 0, 1) := by decide +kernel
theorem dX9_nextToken_203 : decode cX9_nextToken 203 = .ok (.getfield 228, 3) := by decide +kernel
theorem dX9_nextToken_206 : decode cX9_nextToken 206 = .ok (.ldc 244, 2) := by decide +kernel
theorem dX9_nextToken_208 : decode cX9_nextToken 208 = .ok (.if_icmp .le 10, 3) := by decide +kernel
theorem dX9_nextToken_211 : decode cX9_nextToken 211 = .ok (.aload_n 0, 1) := by decide +kernel
theorem dX9_nextToken_212 : decode cX9_nextToken 212 = .ok (.getfield 228, 3) := by decide +kernel
theorem dX9_nextToken_215 : decode cX9_nextToken 215 = .ok (.goto 22, 3) := by decide +kernel
theorem dX9_nextToken_218 : decode cX9_nextToken 218 = .ok (.bipush 10, 2) := by decide +kernel
theorem dX9_nextToken_220 : decode cX9_nextToken 220 = .ok (.aload_n 0, 1) := by decide +kernel
theorem dX9_nextToken_221 : decode cX9_nextToken 221 = .ok (.getfield 228, 3) := by decide +kernel
theorem dX9_nextToken_224 : decode cX9_nextToken 224 = .ok (.imul, 1) := by decide +kernel
theorem dX9_nextToken_225 : decode cX9_nextToken 225 = .ok (.aload_n 0, 1) := by decide +kernel
theorem dX9_nextToken_226 : decode cX9_nextToken 226 = .ok (.aload_n 0, 1) := by decide +kernel
theorem dX9_nextToken_227 : decode cX9_nextToken 227 = .ok (.getfield 212, 3) := by decide +kernel
theorem dX9_nextToken_230 : decode cX9_nextToken 230 = .ok (.invokevirtual 215, 3) := by decide +kernel
theorem dX9_nextToken_233 : decode cX9_nextToken 233 = .ok (.iadd, 1) := by decide +kernel
theorem dX9_nextToken_234 : decode cX9_nextToken 234 = .ok (.bipush 48, 2) := by decide +kernel
theorem dX9_nextToken_236 : decode cX9_nextToken 236 = .ok (.isub, 1) := by decide +kernel
theorem dX9_nextToken_237 : decode cX9_nextToken 237 = .ok (.putfield 228, 3) := by decide +kernel
theorem dX9_nextToken_240 : decode cX9_nextToken 240 = .ok (.aload_n 0, 1) := by decide +kernel
theorem dX9_nextToken_241 : decode cX9_nextToken 241 = .ok (.dup, 1) := by decide +kernel
theorem dX9_nextToken_242 : decode cX9_nextToken 242 = .ok (.getfield 212, 3) := by decide +kernel
theorem dX9_nextToken_245 : decode cX9_nextToken 245 = .ok (.iconst 1, 1) := by decide +kernel
theorem dX9_nextToken_246 : decode cX9_nextToken 246 = .ok (.iadd, 1) := by decide +kernel
theorem dX9_nextToken_247 : decode cX9_nextToken 247 = .ok (.putfield 212, 3) := by decide +kernel
theorem dX9_nextToken_250 : decode cX9_nextToken 250 = .ok (.goto (-63), 3) := by decide +kernel
theorem dX9_nextToken_253 : decode cX9_nextToken 253 = .ok (.aload_n 0, 1) := by decide +kernel
theorem dX9_nextToken_254 : decode cX9_nextToken 254 = .ok (.iload_n 1, 1) := by decide +kernel
theorem dX9_nextToken_255 : decode cX9_nextToken 255 = .ok (.bipush 59, 2) := by decide +kernel
theorem dX9_nextToken_257 : decode cX9_nextToken 257 = .ok (.if_icmp .ne 7, 3) := by decide +kernel
theorem dX9_nextToken_260 : decode cX9_nextToken 260 = .ok (.iconst 4, 1) := by decide +kernel
theorem dX9_nextToken_261 : decode cX9_nextToken 261 = .ok (.goto 4, 3) := by decide +kernel
theorem dX9_nextToken_264 : decode cX9_nextToken 264 = .ok (.iconst 1, 1) := by decide +kernel
theorem dX9_nextToken_265 : decode cX9_nextToken 265 = .ok (.putfield 231, 3) := by decide +kernel
theorem dX9_nextToken_268 : decode cX9_nextToken 268 = .ok (.aload_n 0, 1) := by decide +kernel
theorem dX9_nextToken_269 : decode cX9_nextToken 269 = .ok (.dup, 1) := by decide +kernel
theorem dX9_nextToken_270 : decode cX9_nextToken 270 = .ok (.getfield 212, 3) := by decide +kernel
theorem dX9_nextToken_273 : decode cX9_nextToken 273 = .ok (.iconst 1, 1) := by decide +kernel
theorem dX9_nextToken_274 : decode cX9_nextToken 274 = .ok (.iadd, 1) := by decide +kernel
theorem dX9_nextToken_275 : decode cX9_nextToken 275 = .ok (.putfield 212, 3) := by decide +kernel
theorem dX9_nextToken_278 : decode cX9_nextToken 278 = .ok (.return_, 1) := by decide +kernel
theorem dX9_isWord_0 : decode cX9_isWord 0 = .ok (.aload_n 0, 1) := by decide +kernel
theorem dX9_isWord_1 : decode cX9_isWord 1 = .ok (.getfield 231, 3) := by decide +kernel
theorem dX9_isWord_4 : decode cX9_isWord 4 = .ok (.iconst 2, 1) := by decide +kernel
theorem dX9_isWord_5 : decode cX9_isWord 5 = .ok (.if_icmp .ne 14, 3) := by decide +kernel
theorem dX9_isWord_8 : decode cX9_isWord 8 = .ok (.aload_n 0, 1) := by decide +kernel
theorem dX9_isWord_9 : decode cX9_isWord 9 = .ok (.getfield 221, 3) := by decide +kernel
theorem dX9_isWord_12 : decode cX9_isWord 12 = .ok (.aload_n 1, 1) := by decide +kernel
theorem dX9_isWord_13 : decode cX9_isWord 13 = .ok (.invokevirtual 245, 3) := by decide +kernel
theorem dX9_isWord_16 : decode cX9_isWord 16 = .ok (.if_icmp .eq 5, 3) := by decide +kernel
theorem dX9_isWord_19 : decode cX9_isWord 19 = .ok (.iconst 0, 1) := by decide +kernel
theorem dX9_isWord_20 : decode cX9_isWord 20 = .ok (.ireturn, 1) := by decide +kernel
theorem dX9_isWord_21 : decode cX9_isWord 21 = .ok (.lconst 0, 1) := by decide +kernel
theorem dX9_isWord_22 : decode cX9_isWord 22 = .ok (.lstore_n 2, 1) := by decide +kernel
theorem dX9_isWord_23 : decode cX9_isWord 23 = .ok (.iconst 0, 1) := by decide +kernel
theorem dX9_isWord_24 : decode cX9_isWord 24 = .ok (.istore 4, 2) := by decide +kernel
theorem dX9_isWord_26 : decode cX9_isWord 26 = .ok (.iload 4, 2) := by decide +kernel
theorem dX9_isWord_28 : decode cX9_isWord 28 = .ok (.aload_n 1, 1) := by decide +kernel
theorem dX9_isWord_29 : decode cX9_isWord 29 = .ok (.invokevirtual 245, 3) := by decide +kernel
theorem dX9_isWord_32 : decode cX9_isWord 32 = .ok (.if_icmp .ge 27, 3) := by decide +kernel
theorem dX9_isWord_35 : decode cX9_isWord 35 = .ok (.ldc2_w 237, 3) := by decide +kernel
theorem dX9_isWord_38 : decode cX9_isWord 38 = .ok (.lload_n 2, 1) := by decide +kernel
theorem dX9_isWord_39 : decode cX9_isWord 39 = .ok (.lmul, 1) := by decide +kernel
theorem dX9_isWord_40 : decode cX9_isWord 40 = .ok (.aload_n 1, 1) := by decide +kernel
theorem dX9_isWord_41 : decode cX9_isWord 41 = .ok (.iload 4, 2) := by decide +kernel
theorem dX9_isWord_43 : decode cX9_isWord 43 = .ok (.invokevirtual 250, 3) := by decide +kernel
theorem dX9_isWord_46 : decode cX9_isWord 46 = .ok (.i2l, 1) := by decide +kernel
theorem dX9_isWord_47 : decode cX9_isWord 47 = .ok (.ladd, 1) := by decide +kernel
theorem dX9_isWord_48 : decode cX9_isWord 48 = .ok (.ldc2_w 239, 3) := by decide +kernel
theorem dX9_isWord_51 : decode cX9_isWord 51 = .ok (.lsub, 1) := by decide +kernel
theorem dX9_isWord_52 : decode cX9_isWord 52 = .ok (.lstore_n 2, 1) := by decide +kernel
theorem dX9_isWord_53 : decode cX9_isWord 53 = .ok (.iinc 4 1, 3) := by decide +kernel
theorem dX9_isWord_56 : decode cX9_isWord 56 = .ok (.goto (-30), 3) := by decide +kernel
theorem dX9_isWord_59 : decode cX9_isWord 59 = .ok (.aload_n 0, 1) := by decide +kernel
theorem dX9_isWord_60 : decode cX9_isWord 60 = .ok (.getfield 224, 3) := by decide +kernel
theorem dX9_isWord_63 : decode cX9_isWord 63 = .ok (.lload_n 2, 1) := by decide +kernel
theorem dX9_isWord_64 : decode cX9_isWord 64 = .ok (.lcmp, 1) := by decide +kernel
theorem dX9_isWord_65 : decode cX9_isWord 65 = .ok (.ifCond .ne 7, 3) := by decide +kernel
theorem dX9_isWord_68 : decode cX9_isWord 68 = .ok (.iconst 1, 1) := by decide +kernel
theorem dX9_isWord_69 : decode cX9_isWord 69 = .ok (.goto 4, 3) := by decide +kernel
theorem dX9_isWord_72 : decode cX9_isWord 72 = .ok (.iconst 0, 1) := by decide +kernel
theorem dX9_isWord_73 : decode cX9_isWord 73 = .ok (.ireturn, 1) := by decide +kernel
theorem dX9_statementOfWord_0 : decode cX9_statementOfWord 0 = .ok (.aload_n 0, 1) := by decide +kernel
theorem dX9_statementOfWord_1 : decode cX9_statementOfWord 1 = .ok (.ldc 254, 2) := by decide +kernel
theorem dX9_statementOfWord_3 : decode cX9_statementOfWord 3 = .ok (.invokevirtual 256, 3) := by decide +kernel
theorem dX9_statementOfWord_6 : decode cX9_statementOfWord 6 = .ok (.ifCond .eq 5, 3) := by decide +kernel
theorem dX9_statementOfWord_9 : decode cX9_statementOfWord 9 = .ok (.iconst 0, 1) := by decide +kernel
theorem dX9_statementOfWord_10 : decode cX9_statementOfWord 10 = .ok (.ireturn, 1) := by decide +kernel
theorem dX9_statementOfWord_11 : decode cX9_statementOfWord 11 = .ok (.aload_n 0, 1) := by decide +kernel
theorem dX9_statementOfWord_12 : decode cX9_statementOfWord 12 = .ok (.ldc_w 260, 3) := by decide +kernel
theorem dX9_statementOfWord_15 : decode cX9_statementOfWord 15 = .ok (.invokevirtual 256, 3) := by decide +kernel
theorem dX9_statementOfWord_18 : decode cX9_statementOfWord 18 = .ok (.ifCond .eq 6, 3) := by decide +kernel
theorem dX9_statementOfWord_21 : decode cX9_statementOfWord 21 = .ok (.bipush 11, 2) := by decide +kernel
theorem dX9_statementOfWord_23 : decode cX9_statementOfWord 23 = .ok (.ireturn, 1) := by decide +kernel
theorem dX9_statementOfWord_24 : decode cX9_statementOfWord 24 = .ok (.aload_n 0, 1) := by decide +kernel
theorem dX9_statementOfWord_25 : decode cX9_statementOfWord 25 = .ok (.ldc_w 261, 3) := by decide +kernel
theorem dX9_statementOfWord_28 : decode cX9_statementOfWord 28 = .ok (.invokevirtual 256, 3) := by decide +kernel
theorem dX9_statementOfWord_31 : decode cX9_statementOfWord 31 = .ok (.ifCond .eq 5, 3) := by decide +kernel
theorem dX9_statementOfWord_34 : decode cX9_statementOfWord 34 = .ok (.iconst 1, 1) := by decide +kernel
theorem dX9_statementOfWord_35 : decode cX9_statementOfWord 35 = .ok (.ireturn, 1) := by decide +kernel
theorem dX9_statementOfWord_36 : decode cX9_statementOfWord 36 = .ok (.aload_n 0, 1) := by decide +kernel
theorem dX9_statementOfWord_37 : decode cX9_statementOfWord 37 = .ok (.ldc_w 263, 3) := by decide +kernel
theorem dX9_statementOfWord_40 : decode cX9_statementOfWord 40 = .ok (.invokevirtual 256, 3) := by decide +kernel
theorem dX9_statementOfWord_43 : decode cX9_statementOfWord 43 = .ok (.ifCond .eq 5, 3) := by decide +kernel
theorem dX9_statementOfWord_46 : decode cX9_statementOfWord 46 = .ok (.iconst 2, 1) := by decide +kernel
theorem dX9_statementOfWord_47 : decode cX9_statementOfWord 47 = .ok (.ireturn, 1) := by decide +kernel
theorem dX9_statementOfWord_48 : decode cX9_statementOfWord 48 = .ok (.aload_n 0, 1) := by decide +kernel
theorem dX9_statementOfWord_49 : decode cX9_statementOfWord 49 = .ok (.ldc_w 265, 3) := by decide +kernel
theorem dX9_statementOfWord_52 : decode cX9_statementOfWord 52 = .ok (.invokevirtual 256, 3) := by decide +kernel
theorem dX9_statementOfWord_55 : decode cX9_statementOfWord 55 = .ok (.ifCond .eq 5, 3) := by decide +kernel
theorem dX9_statementOfWord_58 : decode cX9_statementOfWord 58 = .ok (.iconst 3, 1) := by decide +kernel
theorem dX9_statementOfWord_59 : decode cX9_statementOfWord 59 = .ok (.ireturn, 1) := by decide +kernel
theorem dX9_statementOfWord_60 : decode cX9_statementOfWord 60 = .ok (.aload_n 0, 1) := by decide +kernel
theorem dX9_statementOfWord_61 : decode cX9_statementOfWord 61 = .ok (.ldc_w 267, 3) := by decide +kernel
theorem dX9_statementOfWord_64 : decode cX9_statementOfWord 64 = .ok (.invokevirtual 256, 3) := by decide +kernel
theorem dX9_statementOfWord_67 : decode cX9_statementOfWord 67 = .ok (.ifCond .eq 5, 3) := by decide +kernel
theorem dX9_statementOfWord_70 : decode cX9_statementOfWord 70 = .ok (.iconst 4, 1) := by decide +kernel
theorem dX9_statementOfWord_71 : decode cX9_statementOfWord 71 = .ok (.ireturn, 1) := by decide +kernel
theorem dX9_statementOfWord_72 : decode cX9_statementOfWord 72 = .ok (.aload_n 0, 1) := by decide +kernel
theorem dX9_statementOfWord_73 : decode cX9_statementOfWord 73 = .ok (.ldc_w 269, 3) := by decide +kernel
theorem dX9_statementOfWord_76 : decode cX9_statementOfWord 76 = .ok (.invokevirtual 256, 3) := by decide +kernel
theorem dX9_statementOfWord_79 : decode cX9_statementOfWord 79 = .ok (.ifCond .eq 5, 3) := by decide +kernel
theorem dX9_statementOfWord_82 : decode cX9_statementOfWord 82 = .ok (.iconst 5, 1) := by decide +kernel
theorem dX9_statementOfWord_83 : decode cX9_statementOfWord 83 = .ok (.ireturn, 1) := by decide +kernel
theorem dX9_statementOfWord_84 : decode cX9_statementOfWord 84 = .ok (.aload_n 0, 1) := by decide +kernel
theorem dX9_statementOfWord_85 : decode cX9_statementOfWord 85 = .ok (.ldc_w 271, 3) := by decide +kernel
theorem dX9_statementOfWord_88 : decode cX9_statementOfWord 88 = .ok (.invokevirtual 256, 3) := by decide +kernel
theorem dX9_statementOfWord_91 : decode cX9_statementOfWord 91 = .ok (.ifCond .eq 6, 3) := by decide +kernel
theorem dX9_statementOfWord_94 : decode cX9_statementOfWord 94 = .ok (.bipush 6, 2) := by decide +kernel
theorem dX9_statementOfWord_96 : decode cX9_statementOfWord 96 = .ok (.ireturn, 1) := by decide +kernel
theorem dX9_statementOfWord_97 : decode cX9_statementOfWord 97 = .ok (.aload_n 0, 1) := by decide +kernel
theorem dX9_statementOfWord_98 : decode cX9_statementOfWord 98 = .ok (.ldc_w 273, 3) := by decide +kernel
theorem dX9_statementOfWord_101 : decode cX9_statementOfWord 101 = .ok (.invokevirtual 256, 3) := by decide +kernel
theorem dX9_statementOfWord_104 : decode cX9_statementOfWord 104 = .ok (.ifCond .eq 6, 3) := by decide +kernel
theorem dX9_statementOfWord_107 : decode cX9_statementOfWord 107 = .ok (.bipush 7, 2) := by decide +kernel
theorem dX9_statementOfWord_109 : decode cX9_statementOfWord 109 = .ok (.ireturn, 1) := by decide +kernel
theorem dX9_statementOfWord_110 : decode cX9_statementOfWord 110 = .ok (.aload_n 0, 1) := by decide +kernel
theorem dX9_statementOfWord_111 : decode cX9_statementOfWord 111 = .ok (.ldc_w 275, 3) := by decide +kernel
theorem dX9_statementOfWord_114 : decode cX9_statementOfWord 114 = .ok (.invokevirtual 256, 3) := by decide +kernel
theorem dX9_statementOfWord_117 : decode cX9_statementOfWord 117 = .ok (.ifCond .eq 6, 3) := by decide +kernel
theorem dX9_statementOfWord_120 : decode cX9_statementOfWord 120 = .ok (.bipush 8, 2) := by decide +kernel
theorem dX9_statementOfWord_122 : decode cX9_statementOfWord 122 = .ok (.ireturn, 1) := by decide +kernel
theorem dX9_statementOfWord_123 : decode cX9_statementOfWord 123 = .ok (.aload_n 0, 1) := by decide +kernel
theorem dX9_statementOfWord_124 : decode cX9_statementOfWord 124 = .ok (.ldc_w 277, 3) := by decide +kernel
theorem dX9_statementOfWord_127 : decode cX9_statementOfWord 127 = .ok (.invokevirtual 256, 3) := by decide +kernel
theorem dX9_statementOfWord_130 : decode cX9_statementOfWord 130 = .ok (.ifCond .eq 6, 3) := by decide +kernel
theorem dX9_statementOfWord_133 : decode cX9_statementOfWord 133 = .ok (.bipush 9, 2) := by decide +kernel
theorem dX9_statementOfWord_135 : decode cX9_statementOfWord 135 = .ok (.ireturn, 1) := by decide +kernel
theorem dX9_statementOfWord_136 : decode cX9_statementOfWord 136 = .ok (.aload_n 0, 1) := by decide +kernel
theorem dX9_statementOfWord_137 : decode cX9_statementOfWord 137 = .ok (.ldc_w 279, 3) := by decide +kernel
theorem dX9_statementOfWord_140 : decode cX9_statementOfWord 140 = .ok (.invokevirtual 256, 3) := by decide +kernel
theorem dX9_statementOfWord_143 : decode cX9_statementOfWord 143 = .ok (.ifCond .eq 6, 3) := by decide +kernel
theorem dX9_statementOfWord_146 : decode cX9_statementOfWord 146 = .ok (.bipush 10, 2) := by decide +kernel
theorem dX9_statementOfWord_148 : decode cX9_statementOfWord 148 = .ok (.ireturn, 1) := by decide +kernel
theorem dX9_statementOfWord_149 : decode cX9_statementOfWord 149 = .ok (.aload_n 0, 1) := by decide +kernel
theorem dX9_statementOfWord_150 : decode cX9_statementOfWord 150 = .ok (.ldc_w 281, 3) := by decide +kernel
theorem dX9_statementOfWord_153 : decode cX9_statementOfWord 153 = .ok (.invokevirtual 256, 3) := by decide +kernel
theorem dX9_statementOfWord_156 : decode cX9_statementOfWord 156 = .ok (.ifCond .eq 8, 3) := by decide +kernel
theorem dX9_statementOfWord_159 : decode cX9_statementOfWord 159 = .ok (.bipush 12, 2) := by decide +kernel
theorem dX9_statementOfWord_161 : decode cX9_statementOfWord 161 = .ok (.goto 4, 3) := by decide +kernel
theorem dX9_statementOfWord_164 : decode cX9_statementOfWord 164 = .ok (.iconst (-1), 1) := by decide +kernel
theorem dX9_statementOfWord_165 : decode cX9_statementOfWord 165 = .ok (.ireturn, 1) := by decide +kernel
theorem dX9_argumentsOf_0 : decode cX9_argumentsOf 0 = .ok (.iload_n 0, 1) := by decide +kernel
theorem dX9_argumentsOf_1 : decode cX9_argumentsOf 1 = .ok (.tableswitch 71 0 11 #[67, 69, 65, 71, 71, 71, 71, 71, 69, 71, 69, 63], 63) := by decide +kernel
theorem dX9_argumentsOf_64 : decode cX9_argumentsOf 64 = .ok (.iconst 5, 1) := by decide +kernel
theorem dX9_argumentsOf_65 : decode cX9_argumentsOf 65 = .ok (.ireturn, 1) := by decide +kernel
theorem dX9_argumentsOf_66 : decode cX9_argumentsOf 66 = .ok (.iconst 4, 1) := by decide +kernel
theorem dX9_argumentsOf_67 : decode cX9_argumentsOf 67 = .ok (.ireturn, 1) := by decide +kernel
theorem dX9_argumentsOf_68 : decode cX9_argumentsOf 68 = .ok (.iconst 3, 1) := by decide +kernel
theorem dX9_argumentsOf_69 : decode cX9_argumentsOf 69 = .ok (.ireturn, 1) := by decide +kernel
theorem dX9_argumentsOf_70 : decode cX9_argumentsOf 70 = .ok (.iconst 2, 1) := by decide +kernel
theorem dX9_argumentsOf_71 : decode cX9_argumentsOf 71 = .ok (.ireturn, 1) := by decide +kernel
theorem dX9_argumentsOf_72 : decode cX9_argumentsOf 72 = .ok (.iconst 1, 1) := by decide +kernel
theorem dX9_argumentsOf_73 : decode cX9_argumentsOf 73 = .ok (.ireturn, 1) := by decide +kernel
theorem dX9_require_0 : decode cX9_require 0 = .ok (.iload_n 1, 1) := by decide +kernel
theorem dX9_require_1 : decode cX9_require 1 = .ok (.ifCond .ne 23, 3) := by decide +kernel
theorem dX9_require_4 : decode cX9_require 4 = .ok (.aload_n 0, 1) := by decide +kernel
theorem dX9_require_5 : decode cX9_require 5 = .ok (.getfield 283, 3) := by decide +kernel
theorem dX9_require_8 : decode cX9_require 8 = .ok (.ifCond .ne 16, 3) := by decide +kernel
theorem dX9_require_11 : decode cX9_require 11 = .ok (.aload_n 0, 1) := by decide +kernel
theorem dX9_require_12 : decode cX9_require 12 = .ok (.iload_n 2, 1) := by decide +kernel
theorem dX9_require_13 : decode cX9_require 13 = .ok (.putfield 283, 3) := by decide +kernel
theorem dX9_require_16 : decode cX9_require 16 = .ok (.aload_n 0, 1) := by decide +kernel
theorem dX9_require_17 : decode cX9_require 17 = .ok (.aload_n 0, 1) := by decide +kernel
theorem dX9_require_18 : decode cX9_require 18 = .ok (.getfield 218, 3) := by decide +kernel
theorem dX9_require_21 : decode cX9_require 21 = .ok (.putfield 26, 3) := by decide +kernel
theorem dX9_require_24 : decode cX9_require 24 = .ok (.return_, 1) := by decide +kernel
theorem dX9_advance_0 : decode cX9_advance 0 = .ok (.aload_n 0, 1) := by decide +kernel
theorem dX9_advance_1 : decode cX9_advance 1 = .ok (.getfield 283, 3) := by decide +kernel
theorem dX9_advance_4 : decode cX9_advance 4 = .ok (.ifCond .ne 7, 3) := by decide +kernel
theorem dX9_advance_7 : decode cX9_advance 7 = .ok (.aload_n 0, 1) := by decide +kernel
theorem dX9_advance_8 : decode cX9_advance 8 = .ok (.invokevirtual 286, 3) := by decide +kernel
theorem dX9_advance_11 : decode cX9_advance 11 = .ok (.return_, 1) := by decide +kernel
theorem dX9_parseNumber_0 : decode cX9_parseNumber 0 = .ok (.aload_n 0, 1) := by decide +kernel
theorem dX9_parseNumber_1 : decode cX9_parseNumber 1 = .ok (.aload_n 0, 1) := by decide +kernel
theorem dX9_parseNumber_2 : decode cX9_parseNumber 2 = .ok (.getfield 231, 3) := by decide +kernel
theorem dX9_parseNumber_5 : decode cX9_parseNumber 5 = .ok (.iconst 3, 1) := by decide +kernel
theorem dX9_parseNumber_6 : decode cX9_parseNumber 6 = .ok (.if_icmp .ne 7, 3) := by decide +kernel
theorem dX9_parseNumber_9 : decode cX9_parseNumber 9 = .ok (.iconst 1, 1) := by decide +kernel
theorem dX9_parseNumber_10 : decode cX9_parseNumber 10 = .ok (.goto 4, 3) := by decide +kernel
theorem dX9_parseNumber_13 : decode cX9_parseNumber 13 = .ok (.iconst 0, 1) := by decide +kernel
theorem dX9_parseNumber_14 : decode cX9_parseNumber 14 = .ok (.iconst 1, 1) := by decide +kernel
theorem dX9_parseNumber_15 : decode cX9_parseNumber 15 = .ok (.invokevirtual 289, 3) := by decide +kernel
theorem dX9_parseNumber_18 : decode cX9_parseNumber 18 = .ok (.aload_n 0, 1) := by decide +kernel
theorem dX9_parseNumber_19 : decode cX9_parseNumber 19 = .ok (.aload_n 0, 1) := by decide +kernel
theorem dX9_parseNumber_20 : decode cX9_parseNumber 20 = .ok (.getfield 228, 3) := by decide +kernel
theorem dX9_parseNumber_23 : decode cX9_parseNumber 23 = .ok (.ldc 244, 2) := by decide +kernel
theorem dX9_parseNumber_25 : decode cX9_parseNumber 25 = .ok (.if_icmp .gt 7, 3) := by decide +kernel
theorem dX9_parseNumber_28 : decode cX9_parseNumber 28 = .ok (.iconst 1, 1) := by decide +kernel
theorem dX9_parseNumber_29 : decode cX9_parseNumber 29 = .ok (.goto 4, 3) := by decide +kernel
theorem dX9_parseNumber_32 : decode cX9_parseNumber 32 = .ok (.iconst 0, 1) := by decide +kernel
theorem dX9_parseNumber_33 : decode cX9_parseNumber 33 = .ok (.iconst 2, 1) := by decide +kernel
theorem dX9_parseNumber_34 : decode cX9_parseNumber 34 = .ok (.invokevirtual 289, 3) := by decide +kernel
theorem dX9_parseNumber_37 : decode cX9_parseNumber 37 = .ok (.aload_n 0, 1) := by decide +kernel
theorem dX9_parseNumber_38 : decode cX9_parseNumber 38 = .ok (.getfield 228, 3) := by decide +kernel
theorem dX9_parseNumber_41 : decode cX9_parseNumber 41 = .ok (.istore_n 1, 1) := by decide +kernel
theorem dX9_parseNumber_42 : decode cX9_parseNumber 42 = .ok (.aload_n 0, 1) := by decide +kernel
theorem dX9_parseNumber_43 : decode cX9_parseNumber 43 = .ok (.invokevirtual 293, 3) := by decide +kernel
theorem dX9_parseNumber_46 : decode cX9_parseNumber 46 = .ok (.iload_n 1, 1) := by decide +kernel
theorem dX9_parseNumber_47 : decode cX9_parseNumber 47 = .ok (.ireturn, 1) := by decide +kernel
theorem dX9_parseStatement_0 : decode cX9_parseStatement 0 = .ok (.aload_n 0, 1) := by decide +kernel
theorem dX9_parseStatement_1 : decode cX9_parseStatement 1 = .ok (.invokevirtual 296, 3) := by decide +kernel
theorem dX9_parseStatement_4 : decode cX9_parseStatement 4 = .ok (.istore_n 1, 1) := by decide +kernel
theorem dX9_parseStatement_5 : decode cX9_parseStatement 5 = .ok (.aload_n 0, 1) := by decide +kernel
theorem dX9_parseStatement_6 : decode cX9_parseStatement 6 = .ok (.iload_n 1, 1) := by decide +kernel
theorem dX9_parseStatement_7 : decode cX9_parseStatement 7 = .ok (.iconst (-1), 1) := by decide +kernel
theorem dX9_parseStatement_8 : decode cX9_parseStatement 8 = .ok (.if_icmp .eq 7, 3) := by decide +kernel
theorem dX9_parseStatement_11 : decode cX9_parseStatement 11 = .ok (.iconst 1, 1) := by decide +kernel
theorem dX9_parseStatement_12 : decode cX9_parseStatement 12 = .ok (.goto 4, 3) := by decide +kernel
theorem dX9_parseStatement_15 : decode cX9_parseStatement 15 = .ok (.iconst 0, 1) := by decide +kernel
theorem dX9_parseStatement_16 : decode cX9_parseStatement 16 = .ok (.iconst 1, 1) := by decide +kernel
theorem dX9_parseStatement_17 : decode cX9_parseStatement 17 = .ok (.invokevirtual 289, 3) := by decide +kernel
theorem dX9_parseStatement_20 : decode cX9_parseStatement 20 = .ok (.aload_n 0, 1) := by decide +kernel
theorem dX9_parseStatement_21 : decode cX9_parseStatement 21 = .ok (.aload_n 0, 1) := by decide +kernel
theorem dX9_parseStatement_22 : decode cX9_parseStatement 22 = .ok (.getfield 299, 3) := by decide +kernel
theorem dX9_parseStatement_25 : decode cX9_parseStatement 25 = .ok (.bipush 40, 2) := by decide +kernel
theorem dX9_parseStatement_27 : decode cX9_parseStatement 27 = .ok (.if_icmp .ge 7, 3) := by decide +kernel
theorem dX9_parseStatement_30 : decode cX9_parseStatement 30 = .ok (.iconst 1, 1) := by decide +kernel
theorem dX9_parseStatement_31 : decode cX9_parseStatement 31 = .ok (.goto 4, 3) := by decide +kernel
theorem dX9_parseStatement_34 : decode cX9_parseStatement 34 = .ok (.iconst 0, 1) := by decide +kernel
theorem dX9_parseStatement_35 : decode cX9_parseStatement 35 = .ok (.iconst 3, 1) := by decide +kernel
theorem dX9_parseStatement_36 : decode cX9_parseStatement 36 = .ok (.invokevirtual 289, 3) := by decide +kernel
theorem dX9_parseStatement_39 : decode cX9_parseStatement 39 = .ok (.aload_n 0, 1) := by decide +kernel
theorem dX9_parseStatement_40 : decode cX9_parseStatement 40 = .ok (.getfield 283, 3) := by decide +kernel
theorem dX9_parseStatement_43 : decode cX9_parseStatement 43 = .ok (.ifCond .eq 4, 3) := by decide +kernel
theorem dX9_parseStatement_46 : decode cX9_parseStatement 46 = .ok (.return_, 1) := by decide +kernel
theorem dX9_parseStatement_47 : decode cX9_parseStatement 47 = .ok (.bipush 7, 2) := by decide +kernel
theorem dX9_parseStatement_49 : decode cX9_parseStatement 49 = .ok (.aload_n 0, 1) := by decide +kernel
theorem dX9_parseStatement_50 : decode cX9_parseStatement 50 = .ok (.getfield 299, 3) := by decide +kernel
theorem dX9_parseStatement_53 : decode cX9_parseStatement 53 = .ok (.imul, 1) := by decide +kernel
theorem dX9_parseStatement_54 : decode cX9_parseStatement 54 = .ok (.istore_n 2, 1) := by decide +kernel
theorem dX9_parseStatement_55 : decode cX9_parseStatement 55 = .ok (.iconst 0, 1) := by decide +kernel
theorem dX9_parseStatement_56 : decode cX9_parseStatement 56 = .ok (.istore_n 3, 1) := by decide +kernel
theorem dX9_parseStatement_57 : decode cX9_parseStatement 57 = .ok (.iload_n 3, 1) := by decide +kernel
theorem dX9_parseStatement_58 : decode cX9_parseStatement 58 = .ok (.bipush 7, 2) := by decide +kernel
theorem dX9_parseStatement_60 : decode cX9_parseStatement 60 = .ok (.if_icmp .ge 18, 3) := by decide +kernel
theorem dX9_parseStatement_63 : decode cX9_parseStatement 63 = .ok (.aload_n 0, 1) := by decide +kernel
theorem dX9_parseStatement_64 : decode cX9_parseStatement 64 = .ok (.getfield 30, 3) := by decide +kernel
theorem dX9_parseStatement_67 : decode cX9_parseStatement 67 = .ok (.iload_n 2, 1) := by decide +kernel
theorem dX9_parseStatement_68 : decode cX9_parseStatement 68 = .ok (.iload_n 3, 1) := by decide +kernel
theorem dX9_parseStatement_69 : decode cX9_parseStatement 69 = .ok (.iadd, 1) := by decide +kernel
theorem dX9_parseStatement_70 : decode cX9_parseStatement 70 = .ok (.iconst 0, 1) := by decide +kernel
theorem dX9_parseStatement_71 : decode cX9_parseStatement 71 = .ok (.iastore, 1) := by decide +kernel
theorem dX9_parseStatement_72 : decode cX9_parseStatement 72 = .ok (.iinc 3 1, 3) := by decide +kernel
theorem dX9_parseStatement_75 : decode cX9_parseStatement 75 = .ok (.goto (-18), 3) := by decide +kernel
theorem dX9_parseStatement_78 : decode cX9_parseStatement 78 = .ok (.aload_n 0, 1) := by decide +kernel
theorem dX9_parseStatement_79 : decode cX9_parseStatement 79 = .ok (.getfield 30, 3) := by decide +kernel
theorem dX9_parseStatement_82 : decode cX9_parseStatement 82 = .ok (.iload_n 2, 1) := by decide +kernel
theorem dX9_parseStatement_83 : decode cX9_parseStatement 83 = .ok (.iload_n 1, 1) := by decide +kernel
theorem dX9_parseStatement_84 : decode cX9_parseStatement 84 = .ok (.iastore, 1) := by decide +kernel
theorem dX9_parseStatement_85 : decode cX9_parseStatement 85 = .ok (.aload_n 0, 1) := by decide +kernel
theorem dX9_parseStatement_86 : decode cX9_parseStatement 86 = .ok (.invokevirtual 293, 3) := by decide +kernel
theorem dX9_parseStatement_89 : decode cX9_parseStatement 89 = .ok (.iconst 1, 1) := by decide +kernel
theorem dX9_parseStatement_90 : decode cX9_parseStatement 90 = .ok (.istore_n 3, 1) := by decide +kernel
theorem dX9_parseStatement_91 : decode cX9_parseStatement 91 = .ok (.iload_n 3, 1) := by decide +kernel
theorem dX9_parseStatement_92 : decode cX9_parseStatement 92 = .ok (.iload_n 1, 1) := by decide +kernel
theorem dX9_parseStatement_93 : decode cX9_parseStatement 93 = .ok (.invokestatic 302, 3) := by decide +kernel
theorem dX9_parseStatement_96 : decode cX9_parseStatement 96 = .ok (.if_icmp .gt 21, 3) := by decide +kernel
theorem dX9_parseStatement_99 : decode cX9_parseStatement 99 = .ok (.aload_n 0, 1) := by decide +kernel
theorem dX9_parseStatement_100 : decode cX9_parseStatement 100 = .ok (.getfield 30, 3) := by decide +kernel
theorem dX9_parseStatement_103 : decode cX9_parseStatement 103 = .ok (.iload_n 2, 1) := by decide +kernel
theorem dX9_parseStatement_104 : decode cX9_parseStatement 104 = .ok (.iload_n 3, 1) := by decide +kernel
theorem dX9_parseStatement_105 : decode cX9_parseStatement 105 = .ok (.iadd, 1) := by decide +kernel
theorem dX9_parseStatement_106 : decode cX9_parseStatement 106 = .ok (.aload_n 0, 1) := by decide +kernel
theorem dX9_parseStatement_107 : decode cX9_parseStatement 107 = .ok (.invokevirtual 305, 3) := by decide +kernel
theorem dX9_parseStatement_110 : decode cX9_parseStatement 110 = .ok (.iastore, 1) := by decide +kernel
theorem dX9_parseStatement_111 : decode cX9_parseStatement 111 = .ok (.iinc 3 1, 3) := by decide +kernel
theorem dX9_parseStatement_114 : decode cX9_parseStatement 114 = .ok (.goto (-23), 3) := by decide +kernel
theorem dX9_parseStatement_117 : decode cX9_parseStatement 117 = .ok (.aload_n 0, 1) := by decide +kernel
theorem dX9_parseStatement_118 : decode cX9_parseStatement 118 = .ok (.getfield 283, 3) := by decide +kernel
theorem dX9_parseStatement_121 : decode cX9_parseStatement 121 = .ok (.ifCond .ne 33, 3) := by decide +kernel
theorem dX9_parseStatement_124 : decode cX9_parseStatement 124 = .ok (.iload_n 1, 1) := by decide +kernel
theorem dX9_parseStatement_125 : decode cX9_parseStatement 125 = .ok (.bipush 11, 2) := by decide +kernel
theorem dX9_parseStatement_127 : decode cX9_parseStatement 127 = .ok (.if_icmp .ne 27, 3) := by decide +kernel
theorem dX9_parseStatement_130 : decode cX9_parseStatement 130 = .ok (.aload_n 0, 1) := by decide +kernel
theorem dX9_parseStatement_131 : decode cX9_parseStatement 131 = .ok (.ldc_w 308, 3) := by decide +kernel
theorem dX9_parseStatement_134 : decode cX9_parseStatement 134 = .ok (.invokevirtual 256, 3) := by decide +kernel
theorem dX9_parseStatement_137 : decode cX9_parseStatement 137 = .ok (.ifCond .eq 17, 3) := by decide +kernel
theorem dX9_parseStatement_140 : decode cX9_parseStatement 140 = .ok (.aload_n 0, 1) := by decide +kernel
theorem dX9_parseStatement_141 : decode cX9_parseStatement 141 = .ok (.getfield 30, 3) := by decide +kernel
theorem dX9_parseStatement_144 : decode cX9_parseStatement 144 = .ok (.iload_n 2, 1) := by decide +kernel
theorem dX9_parseStatement_145 : decode cX9_parseStatement 145 = .ok (.bipush 6, 2) := by decide +kernel
theorem dX9_parseStatement_147 : decode cX9_parseStatement 147 = .ok (.iadd, 1) := by decide +kernel
theorem dX9_parseStatement_148 : decode cX9_parseStatement 148 = .ok (.iconst 1, 1) := by decide +kernel
theorem dX9_parseStatement_149 : decode cX9_parseStatement 149 = .ok (.iastore, 1) := by decide +kernel
theorem dX9_parseStatement_150 : decode cX9_parseStatement 150 = .ok (.aload_n 0, 1) := by decide +kernel
theorem dX9_parseStatement_151 : decode cX9_parseStatement 151 = .ok (.invokevirtual 293, 3) := by decide +kernel
theorem dX9_parseStatement_154 : decode cX9_parseStatement 154 = .ok (.aload_n 0, 1) := by decide +kernel
theorem dX9_parseStatement_155 : decode cX9_parseStatement 155 = .ok (.aload_n 0, 1) := by decide +kernel
theorem dX9_parseStatement_156 : decode cX9_parseStatement 156 = .ok (.getfield 231, 3) := by decide +kernel
theorem dX9_parseStatement_159 : decode cX9_parseStatement 159 = .ok (.iconst 4, 1) := by decide +kernel
theorem dX9_parseStatement_160 : decode cX9_parseStatement 160 = .ok (.if_icmp .ne 7, 3) := by decide +kernel
theorem dX9_parseStatement_163 : decode cX9_parseStatement 163 = .ok (.iconst 1, 1) := by decide +kernel
theorem dX9_parseStatement_164 : decode cX9_parseStatement 164 = .ok (.goto 4, 3) := by decide +kernel
theorem dX9_parseStatement_167 : decode cX9_parseStatement 167 = .ok (.iconst 0, 1) := by decide +kernel
theorem dX9_parseStatement_168 : decode cX9_parseStatement 168 = .ok (.iconst 1, 1) := by decide +kernel
theorem dX9_parseStatement_169 : decode cX9_parseStatement 169 = .ok (.invokevirtual 289, 3) := by decide +kernel
theorem dX9_parseStatement_172 : decode cX9_parseStatement 172 = .ok (.aload_n 0, 1) := by decide +kernel
theorem dX9_parseStatement_173 : decode cX9_parseStatement 173 = .ok (.invokevirtual 293, 3) := by decide +kernel
theorem dX9_parseStatement_176 : decode cX9_parseStatement 176 = .ok (.aload_n 0, 1) := by decide +kernel
theorem dX9_parseStatement_177 : decode cX9_parseStatement 177 = .ok (.dup, 1) := by decide +kernel
theorem dX9_parseStatement_178 : decode cX9_parseStatement 178 = .ok (.getfield 299, 3) := by decide +kernel
theorem dX9_parseStatement_181 : decode cX9_parseStatement 181 = .ok (.iconst 1, 1) := by decide +kernel
theorem dX9_parseStatement_182 : decode cX9_parseStatement 182 = .ok (.iadd, 1) := by decide +kernel
theorem dX9_parseStatement_183 : decode cX9_parseStatement 183 = .ok (.putfield 299, 3) := by decide +kernel
theorem dX9_parseStatement_186 : decode cX9_parseStatement 186 = .ok (.return_, 1) := by decide +kernel
theorem dX9_execute_0 : decode cX9_execute 0 = .ok (.bipush 7, 2) := by decide +kernel
theorem dX9_execute_2 : decode cX9_execute 2 = .ok (.iload_n 1, 1) := by decide +kernel
theorem dX9_execute_3 : decode cX9_execute 3 = .ok (.imul, 1) := by decide +kernel
theorem dX9_execute_4 : decode cX9_execute 4 = .ok (.istore_n 2, 1) := by decide +kernel
theorem dX9_execute_5 : decode cX9_execute 5 = .ok (.aload_n 0, 1) := by decide +kernel
theorem dX9_execute_6 : decode cX9_execute 6 = .ok (.getfield 30, 3) := by decide +kernel
theorem dX9_execute_9 : decode cX9_execute 9 = .ok (.iload_n 2, 1) := by decide +kernel
theorem dX9_execute_10 : decode cX9_execute 10 = .ok (.iaload, 1) := by decide +kernel
theorem dX9_execute_11 : decode cX9_execute 11 = .ok (.istore_n 3, 1) := by decide +kernel
theorem dX9_execute_12 : decode cX9_execute 12 = .ok (.aload_n 0, 1) := by decide +kernel
theorem dX9_execute_13 : decode cX9_execute 13 = .ok (.getfield 30, 3) := by decide +kernel
theorem dX9_execute_16 : decode cX9_execute 16 = .ok (.iload_n 2, 1) := by decide +kernel
theorem dX9_execute_17 : decode cX9_execute 17 = .ok (.iconst 1, 1) := by decide +kernel
theorem dX9_execute_18 : decode cX9_execute 18 = .ok (.iadd, 1) := by decide +kernel
theorem dX9_execute_19 : decode cX9_execute 19 = .ok (.iaload, 1) := by decide +kernel
theorem dX9_execute_20 : decode cX9_execute 20 = .ok (.istore 4, 2) := by decide +kernel
theorem dX9_execute_22 : decode cX9_execute 22 = .ok (.aload_n 0, 1) := by decide +kernel
theorem dX9_execute_23 : decode cX9_execute 23 = .ok (.getfield 30, 3) := by decide +kernel
theorem dX9_execute_26 : decode cX9_execute 26 = .ok (.iload_n 2, 1) := by decide +kernel
theorem dX9_execute_27 : decode cX9_execute 27 = .ok (.iconst 2, 1) := by decide +kernel
theorem dX9_execute_28 : decode cX9_execute 28 = .ok (.iadd, 1) := by decide +kernel
theorem dX9_execute_29 : decode cX9_execute 29 = .ok (.iaload, 1) := by decide +kernel
theorem dX9_execute_30 : decode cX9_execute 30 = .ok (.istore 5, 2) := by decide +kernel
theorem dX9_execute_32 : decode cX9_execute 32 = .ok (.aload_n 0, 1) := by decide +kernel
theorem dX9_execute_33 : decode cX9_execute 33 = .ok (.getfield 30, 3) := by decide +kernel
theorem dX9_execute_36 : decode cX9_execute 36 = .ok (.iload_n 2, 1) := by decide +kernel
theorem dX9_execute_37 : decode cX9_execute 37 = .ok (.iconst 3, 1) := by decide +kernel
theorem dX9_execute_38 : decode cX9_execute 38 = .ok (.iadd, 1) := by decide +kernel
theorem dX9_execute_39 : decode cX9_execute 39 = .ok (.iaload, 1) := by decide +kernel
theorem dX9_execute_40 : decode cX9_execute 40 = .ok (.istore 6, 2) := by decide +kernel
theorem dX9_execute_42 : decode cX9_execute 42 = .ok (.aload_n 0, 1) := by decide +kernel
theorem dX9_execute_43 : decode cX9_execute 43 = .ok (.getfield 30, 3) := by decide +kernel
theorem dX9_execute_46 : decode cX9_execute 46 = .ok (.iload_n 2, 1) := by decide +kernel
theorem dX9_execute_47 : decode cX9_execute 47 = .ok (.iconst 4, 1) := by decide +kernel
theorem dX9_execute_48 : decode cX9_execute 48 = .ok (.iadd, 1) := by decide +kernel
theorem dX9_execute_49 : decode cX9_execute 49 = .ok (.iaload, 1) := by decide +kernel
theorem dX9_execute_50 : decode cX9_execute 50 = .ok (.istore 7, 2) := by decide +kernel
theorem dX9_execute_52 : decode cX9_execute 52 = .ok (.iload_n 3, 1) := by decide +kernel
theorem dX9_execute_53 : decode cX9_execute 53 = .ok (.bipush 11, 2) := by decide +kernel
theorem dX9_execute_55 : decode cX9_execute 55 = .ok (.if_icmp .ne 42, 3) := by decide +kernel
theorem dX9_execute_58 : decode cX9_execute 58 = .ok (.aload_n 0, 1) := by decide +kernel
theorem dX9_execute_59 : decode cX9_execute 59 = .ok (.iload 4, 2) := by decide +kernel
