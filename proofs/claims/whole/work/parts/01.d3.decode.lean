theorem dX9_change_80 : decode cX9_change 80 = .ok (.iload 7, 2) := by decide +kernel
theorem dX9_change_82 : decode cX9_change 82 = .ok (.iconst 2, 1) := by decide +kernel
theorem dX9_change_83 : decode cX9_change 83 = .ok (.iadd, 1) := by decide +kernel
theorem dX9_change_84 : decode cX9_change 84 = .ok (.iload_n 2, 1) := by decide +kernel
theorem dX9_change_85 : decode cX9_change 85 = .ok (.iastore, 1) := by decide +kernel
theorem dX9_change_86 : decode cX9_change 86 = .ok (.aload_n 0, 1) := by decide +kernel
theorem dX9_change_87 : decode cX9_change 87 = .ok (.getfield 7, 3) := by decide +kernel
theorem dX9_change_90 : decode cX9_change 90 = .ok (.iload 7, 2) := by decide +kernel
theorem dX9_change_92 : decode cX9_change 92 = .ok (.iconst 3, 1) := by decide +kernel
theorem dX9_change_93 : decode cX9_change 93 = .ok (.iadd, 1) := by decide +kernel
theorem dX9_change_94 : decode cX9_change 94 = .ok (.iload_n 3, 1) := by decide +kernel
theorem dX9_change_95 : decode cX9_change 95 = .ok (.iastore, 1) := by decide +kernel
theorem dX9_change_96 : decode cX9_change 96 = .ok (.aload_n 0, 1) := by decide +kernel
theorem dX9_change_97 : decode cX9_change 97 = .ok (.getfield 7, 3) := by decide +kernel
theorem dX9_change_100 : decode cX9_change 100 = .ok (.iload 7, 2) := by decide +kernel
theorem dX9_change_102 : decode cX9_change 102 = .ok (.iconst 4, 1) := by decide +kernel
theorem dX9_change_103 : decode cX9_change 103 = .ok (.iadd, 1) := by decide +kernel
theorem dX9_change_104 : decode cX9_change 104 = .ok (.iload 4, 2) := by decide +kernel
theorem dX9_change_106 : decode cX9_change 106 = .ok (.iastore, 1) := by decide +kernel
theorem dX9_change_107 : decode cX9_change 107 = .ok (.aload_n 0, 1) := by decide +kernel
theorem dX9_change_108 : decode cX9_change 108 = .ok (.getfield 7, 3) := by decide +kernel
theorem dX9_change_111 : decode cX9_change 111 = .ok (.iload 7, 2) := by decide +kernel
theorem dX9_change_113 : decode cX9_change 113 = .ok (.iconst 5, 1) := by decide +kernel
theorem dX9_change_114 : decode cX9_change 114 = .ok (.iadd, 1) := by decide +kernel
theorem dX9_change_115 : decode cX9_change 115 = .ok (.iload 5, 2) := by decide +kernel
theorem dX9_change_117 : decode cX9_change 117 = .ok (.iastore, 1) := by decide +kernel
theorem dX9_change_118 : decode cX9_change 118 = .ok (.aload_n 0, 1) := by decide +kernel
theorem dX9_change_119 : decode cX9_change 119 = .ok (.getfield 7, 3) := by decide +kernel
theorem dX9_change_122 : decode cX9_change 122 = .ok (.bipush 57, 2) := by decide +kernel
theorem dX9_change_124 : decode cX9_change 124 = .ok (.dup2, 1) := by decide +kernel
theorem dX9_change_125 : decode cX9_change 125 = .ok (.iaload, 1) := by decide +kernel
theorem dX9_change_126 : decode cX9_change 126 = .ok (.iconst 1, 1) := by decide +kernel
theorem dX9_change_127 : decode cX9_change 127 = .ok (.iadd, 1) := by decide +kernel
theorem dX9_change_128 : decode cX9_change 128 = .ok (.iastore, 1) := by decide +kernel
theorem dX9_change_129 : decode cX9_change 129 = .ok (.aload_n 0, 1) := by decide +kernel
theorem dX9_change_130 : decode cX9_change 130 = .ok (.iload_n 1, 1) := by decide +kernel
theorem dX9_change_131 : decode cX9_change 131 = .ok (.iload_n 2, 1) := by decide +kernel
theorem dX9_change_132 : decode cX9_change 132 = .ok (.iload_n 3, 1) := by decide +kernel
theorem dX9_change_133 : decode cX9_change 133 = .ok (.iload 4, 2) := by decide +kernel
theorem dX9_change_135 : decode cX9_change 135 = .ok (.iload 5, 2) := by decide +kernel
theorem dX9_change_137 : decode cX9_change 137 = .ok (.invokevirtual 51, 3) := by decide +kernel
theorem dX9_change_140 : decode cX9_change 140 = .ok (.ireturn, 1) := by decide +kernel
theorem dX9_errorOf_0 : decode cX9_errorOf 0 = .ok (.iload_n 1, 1) := by decide +kernel
theorem dX9_errorOf_1 : decode cX9_errorOf 1 = .ok (.tableswitch 131 0 10 #[59, 82, 106, 131, 131, 131, 131, 131, 117, 131, 124], 59) := by decide +kernel
theorem dX9_errorOf_60 : decode cX9_errorOf 60 = .ok (.iload_n 2, 1) := by decide +kernel
theorem dX9_errorOf_61 : decode cX9_errorOf 61 = .ok (.invokestatic 54, 3) := by decide +kernel
theorem dX9_errorOf_64 : decode cX9_errorOf 64 = .ok (.ifCond .eq 16, 3) := by decide +kernel
theorem dX9_errorOf_67 : decode cX9_errorOf 67 = .ok (.iload_n 3, 1) := by decide +kernel
theorem dX9_errorOf_68 : decode cX9_errorOf 68 = .ok (.iload 4, 2) := by decide +kernel
theorem dX9_errorOf_70 : decode cX9_errorOf 70 = .ok (.invokestatic 58, 3) := by decide +kernel
theorem dX9_errorOf_73 : decode cX9_errorOf 73 = .ok (.ifCond .eq 7, 3) := by decide +kernel
theorem dX9_errorOf_76 : decode cX9_errorOf 76 = .ok (.iconst 0, 1) := by decide +kernel
theorem dX9_errorOf_77 : decode cX9_errorOf 77 = .ok (.goto 5, 3) := by decide +kernel
theorem dX9_errorOf_80 : decode cX9_errorOf 80 = .ok (.bipush (-4), 2) := by decide +kernel
theorem dX9_errorOf_82 : decode cX9_errorOf 82 = .ok (.ireturn, 1) := by decide +kernel
theorem dX9_errorOf_83 : decode cX9_errorOf 83 = .ok (.iload_n 2, 1) := by decide +kernel
theorem dX9_errorOf_84 : decode cX9_errorOf 84 = .ok (.invokestatic 62, 3) := by decide +kernel
theorem dX9_errorOf_87 : decode cX9_errorOf 87 = .ok (.ifCond .eq 17, 3) := by decide +kernel
theorem dX9_errorOf_90 : decode cX9_errorOf 90 = .ok (.iload_n 3, 1) := by decide +kernel
theorem dX9_errorOf_91 : decode cX9_errorOf 91 = .ok (.iconst 0, 1) := by decide +kernel
theorem dX9_errorOf_92 : decode cX9_errorOf 92 = .ok (.bipush 9, 2) := by decide +kernel
theorem dX9_errorOf_94 : decode cX9_errorOf 94 = .ok (.invokestatic 43, 3) := by decide +kernel
theorem dX9_errorOf_97 : decode cX9_errorOf 97 = .ok (.ifCond .eq 7, 3) := by decide +kernel
theorem dX9_errorOf_100 : decode cX9_errorOf 100 = .ok (.iconst 0, 1) := by decide +kernel
theorem dX9_errorOf_101 : decode cX9_errorOf 101 = .ok (.goto 5, 3) := by decide +kernel
theorem dX9_errorOf_104 : decode cX9_errorOf 104 = .ok (.bipush (-4), 2) := by decide +kernel
theorem dX9_errorOf_106 : decode cX9_errorOf 106 = .ok (.ireturn, 1) := by decide +kernel
theorem dX9_errorOf_107 : decode cX9_errorOf 107 = .ok (.aload_n 0, 1) := by decide +kernel
theorem dX9_errorOf_108 : decode cX9_errorOf 108 = .ok (.iload_n 2, 1) := by decide +kernel
theorem dX9_errorOf_109 : decode cX9_errorOf 109 = .ok (.iload_n 3, 1) := by decide +kernel
theorem dX9_errorOf_110 : decode cX9_errorOf 110 = .ok (.iload 4, 2) := by decide +kernel
theorem dX9_errorOf_112 : decode cX9_errorOf 112 = .ok (.iload 5, 2) := by decide +kernel
theorem dX9_errorOf_114 : decode cX9_errorOf 114 = .ok (.invokevirtual 65, 3) := by decide +kernel
theorem dX9_errorOf_117 : decode cX9_errorOf 117 = .ok (.ireturn, 1) := by decide +kernel
theorem dX9_errorOf_118 : decode cX9_errorOf 118 = .ok (.aload_n 0, 1) := by decide +kernel
theorem dX9_errorOf_119 : decode cX9_errorOf 119 = .ok (.iload_n 2, 1) := by decide +kernel
theorem dX9_errorOf_120 : decode cX9_errorOf 120 = .ok (.iload_n 3, 1) := by decide +kernel
theorem dX9_errorOf_121 : decode cX9_errorOf 121 = .ok (.invokevirtual 69, 3) := by decide +kernel
theorem dX9_errorOf_124 : decode cX9_errorOf 124 = .ok (.ireturn, 1) := by decide +kernel
theorem dX9_errorOf_125 : decode cX9_errorOf 125 = .ok (.aload_n 0, 1) := by decide +kernel
theorem dX9_errorOf_126 : decode cX9_errorOf 126 = .ok (.iload_n 2, 1) := by decide +kernel
theorem dX9_errorOf_127 : decode cX9_errorOf 127 = .ok (.iload_n 3, 1) := by decide +kernel
theorem dX9_errorOf_128 : decode cX9_errorOf 128 = .ok (.invokevirtual 72, 3) := by decide +kernel
theorem dX9_errorOf_131 : decode cX9_errorOf 131 = .ok (.ireturn, 1) := by decide +kernel
theorem dX9_errorOf_132 : decode cX9_errorOf 132 = .ok (.aload_n 0, 1) := by decide +kernel
theorem dX9_errorOf_133 : decode cX9_errorOf 133 = .ok (.iload_n 2, 1) := by decide +kernel
theorem dX9_errorOf_134 : decode cX9_errorOf 134 = .ok (.invokevirtual 75, 3) := by decide +kernel
theorem dX9_errorOf_137 : decode cX9_errorOf 137 = .ok (.ifCond .ne 6, 3) := by decide +kernel
theorem dX9_errorOf_140 : decode cX9_errorOf 140 = .ok (.bipush (-2), 2) := by decide +kernel
theorem dX9_errorOf_142 : decode cX9_errorOf 142 = .ok (.ireturn, 1) := by decide +kernel
theorem dX9_errorOf_143 : decode cX9_errorOf 143 = .ok (.aload_n 0, 1) := by decide +kernel
theorem dX9_errorOf_144 : decode cX9_errorOf 144 = .ok (.iload_n 1, 1) := by decide +kernel
theorem dX9_errorOf_145 : decode cX9_errorOf 145 = .ok (.iload_n 2, 1) := by decide +kernel
theorem dX9_errorOf_146 : decode cX9_errorOf 146 = .ok (.invokevirtual 78, 3) := by decide +kernel
theorem dX9_errorOf_149 : decode cX9_errorOf 149 = .ok (.ifCond .eq 7, 3) := by decide +kernel
theorem dX9_errorOf_152 : decode cX9_errorOf 152 = .ok (.iconst 0, 1) := by decide +kernel
theorem dX9_errorOf_153 : decode cX9_errorOf 153 = .ok (.goto 5, 3) := by decide +kernel
theorem dX9_errorOf_156 : decode cX9_errorOf 156 = .ok (.bipush (-5), 2) := by decide +kernel
theorem dX9_errorOf_158 : decode cX9_errorOf 158 = .ok (.ireturn, 1) := by decide +kernel
theorem dX9_areHours_0 : decode cX9_areHours 0 = .ok (.iload_n 0, 1) := by decide +kernel
theorem dX9_areHours_1 : decode cX9_areHours 1 = .ok (.ifCond .ne 11, 3) := by decide +kernel
theorem dX9_areHours_4 : decode cX9_areHours 4 = .ok (.iload_n 1, 1) := by decide +kernel
theorem dX9_areHours_5 : decode cX9_areHours 5 = .ok (.ifCond .ne 7, 3) := by decide +kernel
theorem dX9_areHours_8 : decode cX9_areHours 8 = .ok (.iconst 1, 1) := by decide +kernel
theorem dX9_areHours_9 : decode cX9_areHours 9 = .ok (.goto 4, 3) := by decide +kernel
theorem dX9_areHours_12 : decode cX9_areHours 12 = .ok (.iconst 0, 1) := by decide +kernel
theorem dX9_areHours_13 : decode cX9_areHours 13 = .ok (.istore_n 2, 1) := by decide +kernel
theorem dX9_areHours_14 : decode cX9_areHours 14 = .ok (.iload_n 2, 1) := by decide +kernel
theorem dX9_areHours_15 : decode cX9_areHours 15 = .ok (.ifCond .ne 27, 3) := by decide +kernel
theorem dX9_areHours_18 : decode cX9_areHours 18 = .ok (.iload_n 0, 1) := by decide +kernel
theorem dX9_areHours_19 : decode cX9_areHours 19 = .ok (.iconst 0, 1) := by decide +kernel
theorem dX9_areHours_20 : decode cX9_areHours 20 = .ok (.sipush 1439, 3) := by decide +kernel
theorem dX9_areHours_23 : decode cX9_areHours 23 = .ok (.invokestatic 43, 3) := by decide +kernel
theorem dX9_areHours_26 : decode cX9_areHours 26 = .ok (.ifCond .eq 20, 3) := by decide +kernel
theorem dX9_areHours_29 : decode cX9_areHours 29 = .ok (.iload_n 1, 1) := by decide +kernel
theorem dX9_areHours_30 : decode cX9_areHours 30 = .ok (.iload_n 0, 1) := by decide +kernel
theorem dX9_areHours_31 : decode cX9_areHours 31 = .ok (.iconst 1, 1) := by decide +kernel
theorem dX9_areHours_32 : decode cX9_areHours 32 = .ok (.iadd, 1) := by decide +kernel
theorem dX9_areHours_33 : decode cX9_areHours 33 = .ok (.sipush 1440, 3) := by decide +kernel
theorem dX9_areHours_36 : decode cX9_areHours 36 = .ok (.invokestatic 43, 3) := by decide +kernel
theorem dX9_areHours_39 : decode cX9_areHours 39 = .ok (.ifCond .eq 7, 3) := by decide +kernel
theorem dX9_areHours_42 : decode cX9_areHours 42 = .ok (.iconst 1, 1) := by decide +kernel
theorem dX9_areHours_43 : decode cX9_areHours 43 = .ok (.goto 4, 3) := by decide +kernel
theorem dX9_areHours_46 : decode cX9_areHours 46 = .ok (.iconst 0, 1) := by decide +kernel
theorem dX9_areHours_47 : decode cX9_areHours 47 = .ok (.ireturn, 1) := by decide +kernel
theorem dX9_reportError_0 : decode cX9_reportError 0 = .ok (.aload_n 0, 1) := by decide +kernel
theorem dX9_reportError_1 : decode cX9_reportError 1 = .ok (.iload_n 1, 1) := by decide +kernel
theorem dX9_reportError_2 : decode cX9_reportError 2 = .ok (.invokevirtual 81, 3) := by decide +kernel
theorem dX9_reportError_5 : decode cX9_reportError 5 = .ok (.ifCond .ne 6, 3) := by decide +kernel
theorem dX9_reportError_8 : decode cX9_reportError 8 = .ok (.bipush (-3), 2) := by decide +kernel
theorem dX9_reportError_10 : decode cX9_reportError 10 = .ok (.ireturn, 1) := by decide +kernel
theorem dX9_reportError_11 : decode cX9_reportError 11 = .ok (.iload_n 2, 1) := by decide +kernel
theorem dX9_reportError_12 : decode cX9_reportError 12 = .ok (.iconst 0, 1) := by decide +kernel
theorem dX9_reportError_13 : decode cX9_reportError 13 = .ok (.bipush 99, 2) := by decide +kernel
theorem dX9_reportError_15 : decode cX9_reportError 15 = .ok (.invokestatic 43, 3) := by decide +kernel
theorem dX9_reportError_18 : decode cX9_reportError 18 = .ok (.ifCond .eq 24, 3) := by decide +kernel
theorem dX9_reportError_21 : decode cX9_reportError 21 = .ok (.iload_n 3, 1) := by decide +kernel
theorem dX9_reportError_22 : decode cX9_reportError 22 = .ok (.iconst 0, 1) := by decide +kernel
theorem dX9_reportError_23 : decode cX9_reportError 23 = .ok (.sipush 999, 3) := by decide +kernel
theorem dX9_reportError_26 : decode cX9_reportError 26 = .ok (.invokestatic 43, 3) := by decide +kernel
theorem dX9_reportError_29 : decode cX9_reportError 29 = .ok (.ifCond .eq 13, 3) := by decide +kernel
theorem dX9_reportError_32 : decode cX9_reportError 32 = .ok (.iload 4, 2) := by decide +kernel
theorem dX9_reportError_34 : decode cX9_reportError 34 = .ok (.iconst 0, 1) := by decide +kernel
theorem dX9_reportError_35 : decode cX9_reportError 35 = .ok (.iconst 3, 1) := by decide +kernel
theorem dX9_reportError_36 : decode cX9_reportError 36 = .ok (.invokestatic 43, 3) := by decide +kernel
theorem dX9_reportError_39 : decode cX9_reportError 39 = .ok (.ifCond .ne 6, 3) := by decide +kernel
theorem dX9_reportError_42 : decode cX9_reportError 42 = .ok (.bipush (-4), 2) := by decide +kernel
theorem dX9_reportError_44 : decode cX9_reportError 44 = .ok (.ireturn, 1) := by decide +kernel
theorem dX9_reportError_45 : decode cX9_reportError 45 = .ok (.aload_n 0, 1) := by decide +kernel
theorem dX9_reportError_46 : decode cX9_reportError 46 = .ok (.getfield 7, 3) := by decide +kernel
theorem dX9_reportError_49 : decode cX9_reportError 49 = .ok (.bipush 56, 2) := by decide +kernel
theorem dX9_reportError_51 : decode cX9_reportError 51 = .ok (.iaload, 1) := by decide +kernel
theorem dX9_reportError_52 : decode cX9_reportError 52 = .ok (.bipush 60, 2) := by decide +kernel
theorem dX9_reportError_54 : decode cX9_reportError 54 = .ok (.if_icmp .ne 8, 3) := by decide +kernel
theorem dX9_reportError_57 : decode cX9_reportError 57 = .ok (.bipush (-6), 2) := by decide +kernel
theorem dX9_reportError_59 : decode cX9_reportError 59 = .ok (.goto 4, 3) := by decide +kernel
theorem dX9_reportError_62 : decode cX9_reportError 62 = .ok (.iconst 0, 1) := by decide +kernel
theorem dX9_reportError_63 : decode cX9_reportError 63 = .ok (.ireturn, 1) := by decide +kernel
theorem dX9_joinError_0 : decode cX9_joinError 0 = .ok (.aload_n 0, 1) := by decide +kernel
theorem dX9_joinError_1 : decode cX9_joinError 1 = .ok (.iload_n 1, 1) := by decide +kernel
theorem dX9_joinError_2 : decode cX9_joinError 2 = .ok (.invokevirtual 75, 3) := by decide +kernel
theorem dX9_joinError_5 : decode cX9_joinError 5 = .ok (.ifCond .eq 11, 3) := by decide +kernel
theorem dX9_joinError_8 : decode cX9_joinError 8 = .ok (.aload_n 0, 1) := by decide +kernel
theorem dX9_joinError_9 : decode cX9_joinError 9 = .ok (.iload_n 2, 1) := by decide +kernel
theorem dX9_joinError_10 : decode cX9_joinError 10 = .ok (.invokevirtual 75, 3) := by decide +kernel
theorem dX9_joinError_13 : decode cX9_joinError 13 = .ok (.ifCond .ne 6, 3) := by decide +kernel
theorem dX9_joinError_16 : decode cX9_joinError 16 = .ok (.bipush (-2), 2) := by decide +kernel
theorem dX9_joinError_18 : decode cX9_joinError 18 = .ok (.ireturn, 1) := by decide +kernel
theorem dX9_joinError_19 : decode cX9_joinError 19 = .ok (.iload_n 1, 1) := by decide +kernel
theorem dX9_joinError_20 : decode cX9_joinError 20 = .ok (.iload_n 2, 1) := by decide +kernel
theorem dX9_joinError_21 : decode cX9_joinError 21 = .ok (.if_icmp .eq 23, 3) := by decide +kernel
theorem dX9_joinError_24 : decode cX9_joinError 24 = .ok (.aload_n 0, 1) := by decide +kernel
theorem dX9_joinError_25 : decode cX9_joinError 25 = .ok (.iload_n 1, 1) := by decide +kernel
theorem dX9_joinError_26 : decode cX9_joinError 26 = .ok (.invokevirtual 84, 3) := by decide +kernel
theorem dX9_joinError_29 : decode cX9_joinError 29 = .ok (.ifCond .eq 15, 3) := by decide +kernel
theorem dX9_joinError_32 : decode cX9_joinError 32 = .ok (.aload_n 0, 1) := by decide +kernel
theorem dX9_joinError_33 : decode cX9_joinError 33 = .ok (.iload_n 2, 1) := by decide +kernel
theorem dX9_joinError_34 : decode cX9_joinError 34 = .ok (.invokevirtual 84, 3) := by decide +kernel
theorem dX9_joinError_37 : decode cX9_joinError 37 = .ok (.ifCond .eq 7, 3) := by decide +kernel
theorem dX9_joinError_40 : decode cX9_joinError 40 = .ok (.iconst 0, 1) := by decide +kernel
theorem dX9_joinError_41 : decode cX9_joinError 41 = .ok (.goto 5, 3) := by decide +kernel
theorem dX9_joinError_44 : decode cX9_joinError 44 = .ok (.bipush (-5), 2) := by decide +kernel
theorem dX9_joinError_46 : decode cX9_joinError 46 = .ok (.ireturn, 1) := by decide +kernel
theorem dX9_priorityError_0 : decode cX9_priorityError 0 = .ok (.aload_n 0, 1) := by decide +kernel
theorem dX9_priorityError_1 : decode cX9_priorityError 1 = .ok (.iload_n 1, 1) := by decide +kernel
theorem dX9_priorityError_2 : decode cX9_priorityError 2 = .ok (.invokevirtual 75, 3) := by decide +kernel
theorem dX9_priorityError_5 : decode cX9_priorityError 5 = .ok (.ifCond .ne 6, 3) := by decide +kernel
theorem dX9_priorityError_8 : decode cX9_priorityError 8 = .ok (.bipush (-2), 2) := by decide +kernel
theorem dX9_priorityError_10 : decode cX9_priorityError 10 = .ok (.ireturn, 1) := by decide +kernel
theorem dX9_priorityError_11 : decode cX9_priorityError 11 = .ok (.iload_n 2, 1) := by decide +kernel
theorem dX9_priorityError_12 : decode cX9_priorityError 12 = .ok (.iconst 0, 1) := by decide +kernel
theorem dX9_priorityError_13 : decode cX9_priorityError 13 = .ok (.iconst 3, 1) := by decide +kernel
theorem dX9_priorityError_14 : decode cX9_priorityError 14 = .ok (.invokestatic 43, 3) := by decide +kernel
theorem dX9_priorityError_17 : decode cX9_priorityError 17 = .ok (.ifCond .ne 6, 3) := by decide +kernel
theorem dX9_priorityError_20 : decode cX9_priorityError 20 = .ok (.bipush (-4), 2) := by decide +kernel
theorem dX9_priorityError_22 : decode cX9_priorityError 22 = .ok (.ireturn, 1) := by decide +kernel
theorem dX9_priorityError_23 : decode cX9_priorityError 23 = .ok (.aload_n 0, 1) := by decide +kernel
theorem dX9_priorityError_24 : decode cX9_priorityError 24 = .ok (.iload_n 1, 1) := by decide +kernel
theorem dX9_priorityError_25 : decode cX9_priorityError 25 = .ok (.iconst 3, 1) := by decide +kernel
theorem dX9_priorityError_26 : decode cX9_priorityError 26 = .ok (.invokevirtual 87, 3) := by decide +kernel
theorem dX9_priorityError_29 : decode cX9_priorityError 29 = .ok (.ifCond .eq 8, 3) := by decide +kernel
theorem dX9_priorityError_32 : decode cX9_priorityError 32 = .ok (.bipush (-5), 2) := by decide +kernel
theorem dX9_priorityError_34 : decode cX9_priorityError 34 = .ok (.goto 4, 3) := by decide +kernel
theorem dX9_priorityError_37 : decode cX9_priorityError 37 = .ok (.iconst 0, 1) := by decide +kernel
theorem dX9_priorityError_38 : decode cX9_priorityError 38 = .ok (.ireturn, 1) := by decide +kernel
theorem dX9_mayChange_0 : decode cX9_mayChange 0 = .ok (.iload_n 1, 1) := by decide +kernel
theorem dX9_mayChange_1 : decode cX9_mayChange 1 = .ok (.tableswitch 132 3 7 #[35, 59, 66, 100, 106], 35) := by decide +kernel
theorem dX9_mayChange_36 : decode cX9_mayChange 36 = .ok (.aload_n 0, 1) := by decide +kernel
theorem dX9_mayChange_37 : decode cX9_mayChange 37 = .ok (.iload_n 2, 1) := by decide +kernel
theorem dX9_mayChange_38 : decode cX9_mayChange 38 = .ok (.iconst 0, 1) := by decide +kernel
theorem dX9_mayChange_39 : decode cX9_mayChange 39 = .ok (.invokevirtual 87, 3) := by decide +kernel
theorem dX9_mayChange_42 : decode cX9_mayChange 42 = .ok (.ifCond .ne 12, 3) := by decide +kernel
theorem dX9_mayChange_45 : decode cX9_mayChange 45 = .ok (.aload_n 0, 1) := by decide +kernel
theorem dX9_mayChange_46 : decode cX9_mayChange 46 = .ok (.iload_n 2, 1) := by decide +kernel
theorem dX9_mayChange_47 : decode cX9_mayChange 47 = .ok (.iconst 1, 1) := by decide +kernel
theorem dX9_mayChange_48 : decode cX9_mayChange 48 = .ok (.invokevirtual 87, 3) := by decide +kernel
theorem dX9_mayChange_51 : decode cX9_mayChange 51 = .ok (.ifCond .eq 7, 3) := by decide +kernel
theorem dX9_mayChange_54 : decode cX9_mayChange 54 = .ok (.iconst 1, 1) := by decide +kernel
theorem dX9_mayChange_55 : decode cX9_mayChange 55 = .ok (.goto 4, 3) := by decide +kernel
theorem dX9_mayChange_58 : decode cX9_mayChange 58 = .ok (.iconst 0, 1) := by decide +kernel
theorem dX9_mayChange_59 : decode cX9_mayChange 59 = .ok (.ireturn, 1) := by decide +kernel
theorem dX9_mayChange_60 : decode cX9_mayChange 60 = .ok (.aload_n 0, 1) := by decide +kernel
theorem dX9_mayChange_61 : decode cX9_mayChange 61 = .ok (.iload_n 2, 1) := by decide +kernel
theorem dX9_mayChange_62 : decode cX9_mayChange 62 = .ok (.iconst 2, 1) := by decide +kernel
theorem dX9_mayChange_63 : decode cX9_mayChange 63 = .ok (.invokevirtual 87, 3) := by decide +kernel
theorem dX9_mayChange_66 : decode cX9_mayChange 66 = .ok (.ireturn, 1) := by decide +kernel
theorem dX9_mayChange_67 : decode cX9_mayChange 67 = .ok (.aload_n 0, 1) := by decide +kernel
theorem dX9_mayChange_68 : decode cX9_mayChange 68 = .ok (.iload_n 2, 1) := by decide +kernel
theorem dX9_mayChange_69 : decode cX9_mayChange 69 = .ok (.iconst 0, 1) := by decide +kernel
theorem dX9_mayChange_70 : decode cX9_mayChange 70 = .ok (.invokevirtual 87, 3) := by decide +kernel
theorem dX9_mayChange_73 : decode cX9_mayChange 73 = .ok (.ifCond .ne 12, 3) := by decide +kernel
theorem dX9_mayChange_76 : decode cX9_mayChange 76 = .ok (.aload_n 0, 1) := by decide +kernel
theorem dX9_mayChange_77 : decode cX9_mayChange 77 = .ok (.iload_n 2, 1) := by decide +kernel
theorem dX9_mayChange_78 : decode cX9_mayChange 78 = .ok (.iconst 1, 1) := by decide +kernel
theorem dX9_mayChange_79 : decode cX9_mayChange 79 = .ok (.invokevirtual 87, 3) := by decide +kernel
theorem dX9_mayChange_82 : decode cX9_mayChange 82 = .ok (.ifCond .eq 17, 3) := by decide +kernel
theorem dX9_mayChange_85 : decode cX9_mayChange 85 = .ok (.aload_n 0, 1) := by decide +kernel
theorem dX9_mayChange_86 : decode cX9_mayChange 86 = .ok (.iload_n 2, 1) := by decide +kernel
theorem dX9_mayChange_87 : decode cX9_mayChange 87 = .ok (.iconst 4, 1) := by decide +kernel
theorem dX9_mayChange_88 : decode cX9_mayChange 88 = .ok (.invokevirtual 36, 3) := by decide +kernel
theorem dX9_mayChange_91 : decode cX9_mayChange 91 = .ok (.iconst 3, 1) := by decide +kernel
theorem dX9_mayChange_92 : decode cX9_mayChange 92 = .ok (.if_icmp .ge 7, 3) := by decide +kernel
theorem dX9_mayChange_95 : decode cX9_mayChange 95 = .ok (.iconst 1, 1) := by decide +kernel
theorem dX9_mayChange_96 : decode cX9_mayChange 96 = .ok (.goto 4, 3) := by decide +kernel
theorem dX9_mayChange_99 : decode cX9_mayChange 99 = .ok (.iconst 0, 1) := by decide +kernel
theorem dX9_mayChange_100 : decode cX9_mayChange 100 = .ok (.ireturn, 1) := by decide +kernel
theorem dX9_mayChange_101 : decode cX9_mayChange 101 = .ok (.aload_n 0, 1) := by decide +kernel
theorem dX9_mayChange_102 : decode cX9_mayChange 102 = .ok (.iload_n 2, 1) := by decide +kernel
theorem dX9_mayChange_103 : decode cX9_mayChange 103 = .ok (.invokevirtual 84, 3) := by decide +kernel
theorem dX9_mayChange_106 : decode cX9_mayChange 106 = .ok (.ireturn, 1) := by decide +kernel
theorem dX9_mayChange_107 : decode cX9_mayChange 107 = .ok (.aload_n 0, 1) := by decide +kernel
theorem dX9_mayChange_108 : decode cX9_mayChange 108 = .ok (.iload_n 2, 1) := by decide +kernel
theorem dX9_mayChange_109 : decode cX9_mayChange 109 = .ok (.iconst 3, 1) := by decide +kernel
theorem dX9_mayChange_110 : decode cX9_mayChange 110 = .ok (.invokevirtual 87, 3) := by decide +kernel
theorem dX9_mayChange_113 : decode cX9_mayChange 113 = .ok (.ifCond .eq 18, 3) := by decide +kernel
theorem dX9_mayChange_116 : decode cX9_mayChange 116 = .ok (.aload_n 0, 1) := by decide +kernel
theorem dX9_mayChange_117 : decode cX9_mayChange 117 = .ok (.iload_n 2, 1) := by decide +kernel
theorem dX9_mayChange_118 : decode cX9_mayChange 118 = .ok (.bipush 10, 2) := by decide +kernel
theorem dX9_mayChange_120 : decode cX9_mayChange 120 = .ok (.invokevirtual 36, 3) := by decide +kernel
theorem dX9_mayChange_123 : decode cX9_mayChange 123 = .ok (.iconst (-1), 1) := by decide +kernel
theorem dX9_mayChange_124 : decode cX9_mayChange 124 = .ok (.if_icmp .ne 7, 3) := by decide +kernel
theorem dX9_mayChange_127 : decode cX9_mayChange 127 = .ok (.iconst 1, 1) := by decide +kernel
theorem dX9_mayChange_128 : decode cX9_mayChange 128 = .ok (.goto 4, 3) := by decide +kernel
theorem dX9_mayChange_131 : decode cX9_mayChange 131 = .ok (.iconst 0, 1) := by decide +kernel
theorem dX9_mayChange_132 : decode cX9_mayChange 132 = .ok (.ireturn, 1) := by decide +kernel
theorem dX9_mayChange_133 : decode cX9_mayChange 133 = .ok (.aload_n 0, 1) := by decide +kernel
theorem dX9_mayChange_134 : decode cX9_mayChange 134 = .ok (.iload_n 2, 1) := by decide +kernel
theorem dX9_mayChange_135 : decode cX9_mayChange 135 = .ok (.iconst 4, 1) := by decide +kernel
theorem dX9_mayChange_136 : decode cX9_mayChange 136 = .ok (.invokevirtual 87, 3) := by decide +kernel
theorem dX9_mayChange_139 : decode cX9_mayChange 139 = .ok (.ireturn, 1) := by decide +kernel
theorem dX9_make_0 : decode cX9_make 0 = .ok (.iload_n 1, 1) := by decide +kernel
theorem dX9_make_1 : decode cX9_make 1 = .ok (.tableswitch 202 0 9 #[55, 77, 84, 95, 124, 153, 171, 183, 189, 196], 55) := by decide +kernel
theorem dX9_make_56 : decode cX9_make 56 = .ok (.aload_n 0, 1) := by decide +kernel
theorem dX9_make_57 : decode cX9_make 57 = .ok (.getfield 7, 3) := by decide +kernel
theorem dX9_make_60 : decode cX9_make 60 = .ok (.iconst 1, 1) := by decide +kernel
theorem dX9_make_61 : decode cX9_make 61 = .ok (.iload_n 2, 1) := by decide +kernel
theorem dX9_make_62 : decode cX9_make 62 = .ok (.iadd, 1) := by decide +kernel
theorem dX9_make_63 : decode cX9_make 63 = .ok (.iload_n 3, 1) := by decide +kernel
theorem dX9_make_64 : decode cX9_make 64 = .ok (.iastore, 1) := by decide +kernel
theorem dX9_make_65 : decode cX9_make 65 = .ok (.aload_n 0, 1) := by decide +kernel
theorem dX9_make_66 : decode cX9_make 66 = .ok (.getfield 7, 3) := by decide +kernel
theorem dX9_make_69 : decode cX9_make 69 = .ok (.bipush 8, 2) := by decide +kernel
theorem dX9_make_71 : decode cX9_make 71 = .ok (.iload_n 2, 1) := by decide +kernel
theorem dX9_make_72 : decode cX9_make 72 = .ok (.iadd, 1) := by decide +kernel
theorem dX9_make_73 : decode cX9_make 73 = .ok (.iload 4, 2) := by decide +kernel
theorem dX9_make_75 : decode cX9_make 75 = .ok (.iastore, 1) := by decide +kernel
theorem dX9_make_76 : decode cX9_make 76 = .ok (.iconst 0, 1) := by decide +kernel
theorem dX9_make_77 : decode cX9_make 77 = .ok (.ireturn, 1) := by decide +kernel
theorem dX9_make_78 : decode cX9_make 78 = .ok (.aload_n 0, 1) := by decide +kernel
theorem dX9_make_79 : decode cX9_make 79 = .ok (.iload_n 2, 1) := by decide +kernel
theorem dX9_make_80 : decode cX9_make 80 = .ok (.iload_n 3, 1) := by decide +kernel
theorem dX9_make_81 : decode cX9_make 81 = .ok (.invokevirtual 90, 3) := by decide +kernel
theorem dX9_make_84 : decode cX9_make 84 = .ok (.ireturn, 1) := by decide +kernel
theorem dX9_make_85 : decode cX9_make 85 = .ok (.aload_n 0, 1) := by decide +kernel
theorem dX9_make_86 : decode cX9_make 86 = .ok (.iload_n 2, 1) := by decide +kernel
theorem dX9_make_87 : decode cX9_make 87 = .ok (.iload_n 3, 1) := by decide +kernel
theorem dX9_make_88 : decode cX9_make 88 = .ok (.iload 4, 2) := by decide +kernel
theorem dX9_make_90 : decode cX9_make 90 = .ok (.iload 5, 2) := by decide +kernel
theorem dX9_make_92 : decode cX9_make 92 = .ok (.invokevirtual 93, 3) := by decide +kernel
theorem dX9_make_95 : decode cX9_make 95 = .ok (.ireturn, 1) := by decide +kernel
theorem dX9_make_96 : decode cX9_make 96 = .ok (.aload_n 0, 1) := by decide +kernel
theorem dX9_make_97 : decode cX9_make 97 = .ok (.iload_n 2, 1) := by decide +kernel
theorem dX9_make_98 : decode cX9_make 98 = .ok (.bipush 9, 2) := by decide +kernel
theorem dX9_make_100 : decode cX9_make 100 = .ok (.iconst 2, 1) := by decide +kernel
theorem dX9_make_101 : decode cX9_make 101 = .ok (.invokevirtual 96, 3) := by decide +kernel
theorem dX9_make_104 : decode cX9_make 104 = .ok (.aload_n 0, 1) := by decide +kernel
theorem dX9_make_105 : decode cX9_make 105 = .ok (.aload_n 0, 1) := by decide +kernel
theorem dX9_make_106 : decode cX9_make 106 = .ok (.getfield 7, 3) := by decide +kernel
theorem dX9_make_109 : decode cX9_make 109 = .ok (.iconst 0, 1) := by decide +kernel
theorem dX9_make_110 : decode cX9_make 110 = .ok (.iaload, 1) := by decide +kernel
theorem dX9_make_111 : decode cX9_make 111 = .ok (.iconst 2, 1) := by decide +kernel
theorem dX9_make_112 : decode cX9_make 112 = .ok (.iload_n 2, 1) := by decide +kernel
theorem dX9_make_113 : decode cX9_make 113 = .ok (.iconst 0, 1) := by decide +kernel
theorem dX9_make_114 : decode cX9_make 114 = .ok (.invokevirtual 100, 3) := by decide +kernel
theorem dX9_make_117 : decode cX9_make 117 = .ok (.aload_n 0, 1) := by decide +kernel
theorem dX9_make_118 : decode cX9_make 118 = .ok (.iload_n 2, 1) := by decide +kernel
theorem dX9_make_119 : decode cX9_make 119 = .ok (.bipush 8, 2) := by decide +kernel
theorem dX9_make_121 : decode cX9_make 121 = .ok (.invokevirtual 36, 3) := by decide +kernel
theorem dX9_make_124 : decode cX9_make 124 = .ok (.ireturn, 1) := by decide +kernel
theorem dX9_make_125 : decode cX9_make 125 = .ok (.aload_n 0, 1) := by decide +kernel
theorem dX9_make_126 : decode cX9_make 126 = .ok (.iload_n 2, 1) := by decide +kernel
theorem dX9_make_127 : decode cX9_make 127 = .ok (.bipush 9, 2) := by decide +kernel
theorem dX9_make_129 : decode cX9_make 129 = .ok (.iconst 0, 1) := by decide +kernel
theorem dX9_make_130 : decode cX9_make 130 = .ok (.invokevirtual 96, 3) := by decide +kernel
theorem dX9_make_133 : decode cX9_make 133 = .ok (.aload_n 0, 1) := by decide +kernel
theorem dX9_make_134 : decode cX9_make 134 = .ok (.aload_n 0, 1) := by decide +kernel
theorem dX9_make_135 : decode cX9_make 135 = .ok (.getfield 7, 3) := by decide +kernel
theorem dX9_make_138 : decode cX9_make 138 = .ok (.iconst 0, 1) := by decide +kernel
theorem dX9_make_139 : decode cX9_make 139 = .ok (.iaload, 1) := by decide +kernel
theorem dX9_make_140 : decode cX9_make 140 = .ok (.iconst 3, 1) := by decide +kernel
theorem dX9_make_141 : decode cX9_make 141 = .ok (.iload_n 2, 1) := by decide +kernel
theorem dX9_make_142 : decode cX9_make 142 = .ok (.iconst 0, 1) := by decide +kernel
theorem dX9_make_143 : decode cX9_make 143 = .ok (.invokevirtual 100, 3) := by decide +kernel
theorem dX9_make_146 : decode cX9_make 146 = .ok (.aload_n 0, 1) := by decide +kernel
theorem dX9_make_147 : decode cX9_make 147 = .ok (.iload_n 2, 1) := by decide +kernel
theorem dX9_make_148 : decode cX9_make 148 = .ok (.bipush 8, 2) := by decide +kernel
theorem dX9_make_150 : decode cX9_make 150 = .ok (.invokevirtual 36, 3) := by decide +kernel
theorem dX9_make_153 : decode cX9_make 153 = .ok (.ireturn, 1) := by decide +kernel
theorem dX9_make_154 : decode cX9_make 154 = .ok (.aload_n 0, 1) := by decide +kernel
theorem dX9_make_155 : decode cX9_make 155 = .ok (.iload_n 2, 1) := by decide +kernel
theorem dX9_make_156 : decode cX9_make 156 = .ok (.aload_n 0, 1) := by decide +kernel
theorem dX9_make_157 : decode cX9_make 157 = .ok (.getfield 7, 3) := by decide +kernel
theorem dX9_make_160 : decode cX9_make 160 = .ok (.iconst 0, 1) := by decide +kernel
theorem dX9_make_161 : decode cX9_make 161 = .ok (.iaload, 1) := by decide +kernel
theorem dX9_make_162 : decode cX9_make 162 = .ok (.invokevirtual 104, 3) := by decide +kernel
theorem dX9_make_165 : decode cX9_make 165 = .ok (.aload_n 0, 1) := by decide +kernel
theorem dX9_make_166 : decode cX9_make 166 = .ok (.iload_n 2, 1) := by decide +kernel
theorem dX9_make_167 : decode cX9_make 167 = .ok (.iconst 4, 1) := by decide +kernel
theorem dX9_make_168 : decode cX9_make 168 = .ok (.invokevirtual 36, 3) := by decide +kernel
theorem dX9_make_171 : decode cX9_make 171 = .ok (.ireturn, 1) := by decide +kernel
theorem dX9_make_172 : decode cX9_make 172 = .ok (.aload_n 0, 1) := by decide +kernel
theorem dX9_make_173 : decode cX9_make 173 = .ok (.iload_n 2, 1) := by decide +kernel
theorem dX9_make_174 : decode cX9_make 174 = .ok (.aload_n 0, 1) := by decide +kernel
theorem dX9_make_175 : decode cX9_make 175 = .ok (.getfield 7, 3) := by decide +kernel
theorem dX9_make_178 : decode cX9_make 178 = .ok (.iconst 0, 1) := by decide +kernel
theorem dX9_make_179 : decode cX9_make 179 = .ok (.iaload, 1) := by decide +kernel
theorem dX9_make_180 : decode cX9_make 180 = .ok (.invokevirtual 108, 3) := by decide +kernel
theorem dX9_make_183 : decode cX9_make 183 = .ok (.ireturn, 1) := by decide +kernel
theorem dX9_make_184 : decode cX9_make 184 = .ok (.aload_n 0, 1) := by decide +kernel
theorem dX9_make_185 : decode cX9_make 185 = .ok (.iload_n 2, 1) := by decide +kernel
theorem dX9_make_186 : decode cX9_make 186 = .ok (.invokevirtual 111, 3) := by decide +kernel
theorem dX9_make_189 : decode cX9_make 189 = .ok (.ireturn, 1) := by decide +kernel
theorem dX9_make_190 : decode cX9_make 190 = .ok (.aload_n 0, 1) := by decide +kernel
theorem dX9_make_191 : decode cX9_make 191 = .ok (.iload_n 2, 1) := by decide +kernel
theorem dX9_make_192 : decode cX9_make 192 = .ok (.iload_n 3, 1) := by decide +kernel
theorem dX9_make_193 : decode cX9_make 193 = .ok (.invokevirtual 115, 3) := by decide +kernel
theorem dX9_make_196 : decode cX9_make 196 = .ok (.ireturn, 1) := by decide +kernel
theorem dX9_make_197 : decode cX9_make 197 = .ok (.aload_n 0, 1) := by decide +kernel
theorem dX9_make_198 : decode cX9_make 198 = .ok (.iload_n 2, 1) := by decide +kernel
theorem dX9_make_199 : decode cX9_make 199 = .ok (.invokevirtual 118, 3) := by decide +kernel
theorem dX9_make_202 : decode cX9_make 202 = .ok (.ireturn, 1) := by decide +kernel
theorem dX9_make_203 : decode cX9_make 203 = .ok (.aload_n 0, 1) := by decide +kernel
theorem dX9_make_204 : decode cX9_make 204 = .ok (.iload_n 2, 1) := by decide +kernel
theorem dX9_make_205 : decode cX9_make 205 = .ok (.iconst 3, 1) := by decide +kernel
theorem dX9_make_206 : decode cX9_make 206 = .ok (.invokevirtual 36, 3) := by decide +kernel
theorem dX9_make_209 : decode cX9_make 209 = .ok (.istore 6, 2) := by decide +kernel
theorem dX9_make_211 : decode cX9_make 211 = .ok (.aload_n 0, 1) := by decide +kernel
theorem dX9_make_212 : decode cX9_make 212 = .ok (.iload_n 2, 1) := by decide +kernel
theorem dX9_make_213 : decode cX9_make 213 = .ok (.iconst 3, 1) := by decide +kernel
theorem dX9_make_214 : decode cX9_make 214 = .ok (.iload_n 3, 1) := by decide +kernel
theorem dX9_make_215 : decode cX9_make 215 = .ok (.invokevirtual 96, 3) := by decide +kernel
theorem dX9_make_218 : decode cX9_make 218 = .ok (.iload 6, 2) := by decide +kernel
theorem dX9_make_220 : decode cX9_make 220 = .ok (.ireturn, 1) := by decide +kernel
theorem dX9_makeAgents_0 : decode cX9_makeAgents 0 = .ok (.aload_n 0, 1) := by decide +kernel
theorem dX9_makeAgents_1 : decode cX9_makeAgents 1 = .ok (.getfield 7, 3) := by decide +kernel
theorem dX9_makeAgents_4 : decode cX9_makeAgents 4 = .ok (.bipush 15, 2) := by decide +kernel
theorem dX9_makeAgents_6 : decode cX9_makeAgents 6 = .ok (.iload_n 1, 1) := by decide +kernel
theorem dX9_makeAgents_7 : decode cX9_makeAgents 7 = .ok (.iadd, 1) := by decide +kernel
theorem dX9_makeAgents_8 : decode cX9_makeAgents 8 = .ok (.iaload, 1) := by decide +kernel
theorem dX9_makeAgents_9 : decode cX9_makeAgents 9 = .ok (.istore_n 3, 1) := by decide +kernel
theorem dX9_makeAgents_10 : decode cX9_makeAgents 10 = .ok (.aload_n 0, 1) := by decide +kernel
theorem dX9_makeAgents_11 : decode cX9_makeAgents 11 = .ok (.getfield 7, 3) := by decide +kernel
theorem dX9_makeAgents_14 : decode cX9_makeAgents 14 = .ok (.bipush 15, 2) := by decide +kernel
theorem dX9_makeAgents_16 : decode cX9_makeAgents 16 = .ok (.iload_n 1, 1) := by decide +kernel
theorem dX9_makeAgents_17 : decode cX9_makeAgents 17 = .ok (.iadd, 1) := by decide +kernel
theorem dX9_makeAgents_18 : decode cX9_makeAgents 18 = .ok (.iload_n 2, 1) := by decide +kernel
theorem dX9_makeAgents_19 : decode cX9_makeAgents 19 = .ok (.iastore, 1) := by decide +kernel
theorem dX9_makeAgents_20 : decode cX9_makeAgents 20 = .ok (.aload_n 0, 1) := by decide +kernel
theorem dX9_makeAgents_21 : decode cX9_makeAgents 21 = .ok (.getfield 7, 3) := by decide +kernel
theorem dX9_makeAgents_24 : decode cX9_makeAgents 24 = .ok (.bipush 56, 2) := by decide +kernel
theorem dX9_makeAgents_26 : decode cX9_makeAgents 26 = .ok (.iaload, 1) := by decide +kernel
theorem dX9_makeAgents_27 : decode cX9_makeAgents 27 = .ok (.iconst 1, 1) := by decide +kernel
theorem dX9_makeAgents_28 : decode cX9_makeAgents 28 = .ok (.isub, 1) := by decide +kernel
theorem dX9_makeAgents_29 : decode cX9_makeAgents 29 = .ok (.istore 4, 2) := by decide +kernel
theorem dX9_makeAgents_31 : decode cX9_makeAgents 31 = .ok (.iload 4, 2) := by decide +kernel
theorem dX9_makeAgents_33 : decode cX9_makeAgents 33 = .ok (.ifCond .lt 48, 3) := by decide +kernel
theorem dX9_makeAgents_36 : decode cX9_makeAgents 36 = .ok (.aload_n 0, 1) := by decide +kernel
theorem dX9_makeAgents_37 : decode cX9_makeAgents 37 = .ok (.iload_n 1, 1) := by decide +kernel
theorem dX9_makeAgents_38 : decode cX9_makeAgents 38 = .ok (.invokevirtual 121, 3) := by decide +kernel
theorem dX9_makeAgents_41 : decode cX9_makeAgents 41 = .ok (.iload_n 2, 1) := by decide +kernel
theorem dX9_makeAgents_42 : decode cX9_makeAgents 42 = .ok (.if_icmp .le 39, 3) := by decide +kernel
theorem dX9_makeAgents_45 : decode cX9_makeAgents 45 = .ok (.aload_n 0, 1) := by decide +kernel
theorem dX9_makeAgents_46 : decode cX9_makeAgents 46 = .ok (.iload 4, 2) := by decide +kernel
theorem dX9_makeAgents_48 : decode cX9_makeAgents 48 = .ok (.iconst 1, 1) := by decide +kernel
theorem dX9_makeAgents_49 : decode cX9_makeAgents 49 = .ok (.invokevirtual 87, 3) := by decide +kernel
theorem dX9_makeAgents_52 : decode cX9_makeAgents 52 = .ok (.ifCond .eq 23, 3) := by decide +kernel
theorem dX9_makeAgents_55 : decode cX9_makeAgents 55 = .ok (.aload_n 0, 1) := by decide +kernel
theorem dX9_makeAgents_56 : decode cX9_makeAgents 56 = .ok (.iload 4, 2) := by decide +kernel
theorem dX9_makeAgents_58 : decode cX9_makeAgents 58 = .ok (.iconst 4, 1) := by decide +kernel
theorem dX9_makeAgents_59 : decode cX9_makeAgents 59 = .ok (.invokevirtual 36, 3) := by decide +kernel
theorem dX9_makeAgents_62 : decode cX9_makeAgents 62 = .ok (.iload_n 1, 1) := by decide +kernel
theorem dX9_makeAgents_63 : decode cX9_makeAgents 63 = .ok (.if_icmp .ne 12, 3) := by decide +kernel
theorem dX9_makeAgents_66 : decode cX9_makeAgents 66 = .ok (.aload_n 0, 1) := by decide +kernel
theorem dX9_makeAgents_67 : decode cX9_makeAgents 67 = .ok (.iload 4, 2) := by decide +kernel
theorem dX9_makeAgents_69 : decode cX9_makeAgents 69 = .ok (.bipush 9, 2) := by decide +kernel
theorem dX9_makeAgents_71 : decode cX9_makeAgents 71 = .ok (.iconst 0, 1) := by decide +kernel
theorem dX9_makeAgents_72 : decode cX9_makeAgents 72 = .ok (.invokevirtual 96, 3) := by decide +kernel
theorem dX9_makeAgents_75 : decode cX9_makeAgents 75 = .ok (.iinc 4 (-1), 3) := by decide +kernel
theorem dX9_makeAgents_78 : decode cX9_makeAgents 78 = .ok (.goto (-47), 3) := by decide +kernel
theorem dX9_makeAgents_81 : decode cX9_makeAgents 81 = .ok (.iload_n 3, 1) := by decide +kernel
theorem dX9_makeAgents_82 : decode cX9_makeAgents 82 = .ok (.ireturn, 1) := by decide +kernel
theorem dX9_makeTicket_0 : decode cX9_makeTicket 0 = .ok (.aload_n 0, 1) := by decide +kernel
theorem dX9_makeTicket_1 : decode cX9_makeTicket 1 = .ok (.getfield 7, 3) := by decide +kernel
theorem dX9_makeTicket_4 : decode cX9_makeTicket 4 = .ok (.bipush 56, 2) := by decide +kernel
theorem dX9_makeTicket_6 : decode cX9_makeTicket 6 = .ok (.iaload, 1) := by decide +kernel
theorem dX9_makeTicket_7 : decode cX9_makeTicket 7 = .ok (.istore 5, 2) := by decide +kernel
theorem dX9_makeTicket_9 : decode cX9_makeTicket 9 = .ok (.iconst 0, 1) := by decide +kernel
theorem dX9_makeTicket_10 : decode cX9_makeTicket 10 = .ok (.istore 6, 2) := by decide +kernel
theorem dX9_makeTicket_12 : decode cX9_makeTicket 12 = .ok (.iload 6, 2) := by decide +kernel
theorem dX9_makeTicket_14 : decode cX9_makeTicket 14 = .ok (.bipush 16, 2) := by decide +kernel
theorem dX9_makeTicket_16 : decode cX9_makeTicket 16 = .ok (.if_icmp .ge 18, 3) := by decide +kernel
theorem dX9_makeTicket_19 : decode cX9_makeTicket 19 = .ok (.aload_n 0, 1) := by decide +kernel
theorem dX9_makeTicket_20 : decode cX9_makeTicket 20 = .ok (.iload 5, 2) := by decide +kernel
theorem dX9_makeTicket_22 : decode cX9_makeTicket 22 = .ok (.iload 6, 2) := by decide +kernel
theorem dX9_makeTicket_24 : decode cX9_makeTicket 24 = .ok (.iconst 0, 1) := by decide +kernel
theorem dX9_makeTicket_25 : decode cX9_makeTicket 25 = .ok (.invokevirtual 96, 3) := by decide +kernel
theorem dX9_makeTicket_28 : decode cX9_makeTicket 28 = .ok (.iinc 6 1, 3) := by decide +kernel
theorem dX9_makeTicket_31 : decode cX9_makeTicket 31 = .ok (.goto (-19), 3) := by decide +kernel
theorem dX9_makeTicket_34 : decode cX9_makeTicket 34 = .ok (.aload_n 0, 1) := by decide +kernel
theorem dX9_makeTicket_35 : decode cX9_makeTicket 35 = .ok (.iload 5, 2) := by decide +kernel
theorem dX9_makeTicket_37 : decode cX9_makeTicket 37 = .ok (.iconst 0, 1) := by decide +kernel
theorem dX9_makeTicket_38 : decode cX9_makeTicket 38 = .ok (.iload_n 1, 1) := by decide +kernel
theorem dX9_makeTicket_39 : decode cX9_makeTicket 39 = .ok (.invokevirtual 96, 3) := by decide +kernel
theorem dX9_makeTicket_42 : decode cX9_makeTicket 42 = .ok (.aload_n 0, 1) := by decide +kernel
theorem dX9_makeTicket_43 : decode cX9_makeTicket 43 = .ok (.iload 5, 2) := by decide +kernel
theorem dX9_makeTicket_45 : decode cX9_makeTicket 45 = .ok (.iconst 1, 1) := by decide +kernel
theorem dX9_makeTicket_46 : decode cX9_makeTicket 46 = .ok (.iload_n 2, 1) := by decide +kernel
theorem dX9_makeTicket_47 : decode cX9_makeTicket 47 = .ok (.invokevirtual 96, 3) := by decide +kernel
theorem dX9_makeTicket_50 : decode cX9_makeTicket 50 = .ok (.aload_n 0, 1) := by decide +kernel
theorem dX9_makeTicket_51 : decode cX9_makeTicket 51 = .ok (.iload 5, 2) := by decide +kernel
theorem dX9_makeTicket_53 : decode cX9_makeTicket 53 = .ok (.iconst 2, 1) := by decide +kernel
theorem dX9_makeTicket_54 : decode cX9_makeTicket 54 = .ok (.iload_n 3, 1) := by decide +kernel
theorem dX9_makeTicket_55 : decode cX9_makeTicket 55 = .ok (.invokevirtual 96, 3) := by decide +kernel
theorem dX9_makeTicket_58 : decode cX9_makeTicket 58 = .ok (.aload_n 0, 1) := by decide +kernel
theorem dX9_makeTicket_59 : decode cX9_makeTicket 59 = .ok (.iload 5, 2) := by decide +kernel
theorem dX9_makeTicket_61 : decode cX9_makeTicket 61 = .ok (.iconst 3, 1) := by decide +kernel
theorem dX9_makeTicket_62 : decode cX9_makeTicket 62 = .ok (.iload 4, 2) := by decide +kernel
theorem dX9_makeTicket_64 : decode cX9_makeTicket 64 = .ok (.invokevirtual 96, 3) := by decide +kernel
theorem dX9_makeTicket_67 : decode cX9_makeTicket 67 = .ok (.aload_n 0, 1) := by decide +kernel
theorem dX9_makeTicket_68 : decode cX9_makeTicket 68 = .ok (.iload 5, 2) := by decide +kernel
theorem dX9_makeTicket_70 : decode cX9_makeTicket 70 = .ok (.bipush 10, 2) := by decide +kernel
theorem dX9_makeTicket_72 : decode cX9_makeTicket 72 = .ok (.iconst (-1), 1) := by decide +kernel
theorem dX9_makeTicket_73 : decode cX9_makeTicket 73 = .ok (.invokevirtual 96, 3) := by decide +kernel
theorem dX9_makeTicket_76 : decode cX9_makeTicket 76 = .ok (.aload_n 0, 1) := by decide +kernel
theorem dX9_makeTicket_77 : decode cX9_makeTicket 77 = .ok (.iload 5, 2) := by decide +kernel
theorem dX9_makeTicket_79 : decode cX9_makeTicket 79 = .ok (.bipush 11, 2) := by decide +kernel
theorem dX9_makeTicket_81 : decode cX9_makeTicket 81 = .ok (.aload_n 0, 1) := by decide +kernel
theorem dX9_makeTicket_82 : decode cX9_makeTicket 82 = .ok (.getfield 7, 3) := by decide +kernel
theorem dX9_makeTicket_85 : decode cX9_makeTicket 85 = .ok (.iconst 0, 1) := by decide +kernel
theorem dX9_makeTicket_86 : decode cX9_makeTicket 86 = .ok (.iaload, 1) := by decide +kernel
theorem dX9_makeTicket_87 : decode cX9_makeTicket 87 = .ok (.invokevirtual 96, 3) := by decide +kernel
theorem dX9_makeTicket_90 : decode cX9_makeTicket 90 = .ok (.aload_n 0, 1) := by decide +kernel
theorem dX9_makeTicket_91 : decode cX9_makeTicket 91 = .ok (.iload 5, 2) := by decide +kernel
theorem dX9_makeTicket_93 : decode cX9_makeTicket 93 = .ok (.bipush 12, 2) := by decide +kernel
theorem dX9_makeTicket_95 : decode cX9_makeTicket 95 = .ok (.iconst (-1), 1) := by decide +kernel
theorem dX9_makeTicket_96 : decode cX9_makeTicket 96 = .ok (.invokevirtual 96, 3) := by decide +kernel
theorem dX9_makeTicket_99 : decode cX9_makeTicket 99 = .ok (.aload_n 0, 1) := by decide +kernel
theorem dX9_makeTicket_100 : decode cX9_makeTicket 100 = .ok (.iload 5, 2) := by decide +kernel
theorem dX9_makeTicket_102 : decode cX9_makeTicket 102 = .ok (.bipush 13, 2) := by decide +kernel
theorem dX9_makeTicket_104 : decode cX9_makeTicket 104 = .ok (.iconst (-1), 1) := by decide +kernel
theorem dX9_makeTicket_105 : decode cX9_makeTicket 105 = .ok (.invokevirtual 96, 3) := by decide +kernel
theorem dX9_makeTicket_108 : decode cX9_makeTicket 108 = .ok (.aload_n 0, 1) := by decide +kernel
theorem dX9_makeTicket_109 : decode cX9_makeTicket 109 = .ok (.getfield 7, 3) := by decide +kernel
theorem dX9_makeTicket_112 : decode cX9_makeTicket 112 = .ok (.bipush 56, 2) := by decide +kernel
theorem dX9_makeTicket_114 : decode cX9_makeTicket 114 = .ok (.dup2, 1) := by decide +kernel
theorem dX9_makeTicket_115 : decode cX9_makeTicket 115 = .ok (.iaload, 1) := by decide +kernel
theorem dX9_makeTicket_116 : decode cX9_makeTicket 116 = .ok (.iconst 1, 1) := by decide +kernel
theorem dX9_makeTicket_117 : decode cX9_makeTicket 117 = .ok (.iadd, 1) := by decide +kernel
theorem dX9_makeTicket_118 : decode cX9_makeTicket 118 = .ok (.iastore, 1) := by decide +kernel
theorem dX9_makeTicket_119 : decode cX9_makeTicket 119 = .ok (.aload_n 0, 1) := by decide +kernel
theorem dX9_makeTicket_120 : decode cX9_makeTicket 120 = .ok (.aload_n 0, 1) := by decide +kernel
theorem dX9_makeTicket_121 : decode cX9_makeTicket 121 = .ok (.getfield 7, 3) := by decide +kernel
theorem dX9_makeTicket_124 : decode cX9_makeTicket 124 = .ok (.iconst 0, 1) := by decide +kernel
theorem dX9_makeTicket_125 : decode cX9_makeTicket 125 = .ok (.iaload, 1) := by decide +kernel
theorem dX9_makeTicket_126 : decode cX9_makeTicket 126 = .ok (.iconst 0, 1) := by decide +kernel
theorem dX9_makeTicket_127 : decode cX9_makeTicket 127 = .ok (.iload 5, 2) := by decide +kernel
theorem dX9_makeTicket_129 : decode cX9_makeTicket 129 = .ok (.iload_n 1, 1) := by decide +kernel
theorem dX9_makeTicket_130 : decode cX9_makeTicket 130 = .ok (.invokevirtual 100, 3) := by decide +kernel
theorem dX9_makeTicket_133 : decode cX9_makeTicket 133 = .ok (.iload 5, 2) := by decide +kernel
theorem dX9_makeTicket_135 : decode cX9_makeTicket 135 = .ok (.ireturn, 1) := by decide +kernel
theorem dX9_letClimb_0 : decode cX9_letClimb 0 = .ok (.aload_n 0, 1) := by decide +kernel
theorem dX9_letClimb_1 : decode cX9_letClimb 1 = .ok (.iload_n 1, 1) := by decide +kernel
theorem dX9_letClimb_2 : decode cX9_letClimb 2 = .ok (.iconst 4, 1) := by decide +kernel
theorem dX9_letClimb_3 : decode cX9_letClimb 3 = .ok (.aload_n 0, 1) := by decide +kernel
theorem dX9_letClimb_4 : decode cX9_letClimb 4 = .ok (.iload_n 1, 1) := by decide +kernel
theorem dX9_letClimb_5 : decode cX9_letClimb 5 = .ok (.iconst 4, 1) := by decide +kernel
theorem dX9_letClimb_6 : decode cX9_letClimb 6 = .ok (.invokevirtual 36, 3) := by decide +kernel
theorem dX9_letClimb_9 : decode cX9_letClimb 9 = .ok (.iconst 1, 1) := by decide +kernel
theorem dX9_letClimb_10 : decode cX9_letClimb 10 = .ok (.iadd, 1) := by decide +kernel
theorem dX9_letClimb_11 : decode cX9_letClimb 11 = .ok (.invokevirtual 96, 3) := by decide +kernel
theorem dX9_letClimb_14 : decode cX9_letClimb 14 = .ok (.aload_n 0, 1) := by decide +kernel
theorem dX9_letClimb_15 : decode cX9_letClimb 15 = .ok (.iload_n 1, 1) := by decide +kernel
theorem dX9_letClimb_16 : decode cX9_letClimb 16 = .ok (.bipush 9, 2) := by decide +kernel
theorem dX9_letClimb_18 : decode cX9_letClimb 18 = .ok (.iconst 0, 1) := by decide +kernel
theorem dX9_letClimb_19 : decode cX9_letClimb 19 = .ok (.invokevirtual 96, 3) := by decide +kernel
theorem dX9_letClimb_22 : decode cX9_letClimb 22 = .ok (.aload_n 0, 1) := by decide +kernel
theorem dX9_letClimb_23 : decode cX9_letClimb 23 = .ok (.iload_n 1, 1) := by decide +kernel
theorem dX9_letClimb_24 : decode cX9_letClimb 24 = .ok (.iconst 5, 1) := by decide +kernel
theorem dX9_letClimb_25 : decode cX9_letClimb 25 = .ok (.iconst 0, 1) := by decide +kernel
theorem dX9_letClimb_26 : decode cX9_letClimb 26 = .ok (.invokevirtual 96, 3) := by decide +kernel
theorem dX9_letClimb_29 : decode cX9_letClimb 29 = .ok (.aload_n 0, 1) := by decide +kernel
theorem dX9_letClimb_30 : decode cX9_letClimb 30 = .ok (.iload_n 1, 1) := by decide +kernel
theorem dX9_letClimb_31 : decode cX9_letClimb 31 = .ok (.bipush 6, 2) := by decide +kernel
theorem dX9_letClimb_33 : decode cX9_letClimb 33 = .ok (.iconst 0, 1) := by decide +kernel
theorem dX9_letClimb_34 : decode cX9_letClimb 34 = .ok (.invokevirtual 96, 3) := by decide +kernel
theorem dX9_letClimb_37 : decode cX9_letClimb 37 = .ok (.aload_n 0, 1) := by decide +kernel
theorem dX9_letClimb_38 : decode cX9_letClimb 38 = .ok (.iload_n 2, 1) := by decide +kernel
theorem dX9_letClimb_39 : decode cX9_letClimb 39 = .ok (.iconst 4, 1) := by decide +kernel
theorem dX9_letClimb_40 : decode cX9_letClimb 40 = .ok (.iload_n 1, 1) := by decide +kernel
theorem dX9_letClimb_41 : decode cX9_letClimb 41 = .ok (.aload_n 0, 1) := by decide +kernel
theorem dX9_letClimb_42 : decode cX9_letClimb 42 = .ok (.iload_n 1, 1) := by decide +kernel
theorem dX9_letClimb_43 : decode cX9_letClimb 43 = .ok (.iconst 4, 1) := by decide +kernel
theorem dX9_letClimb_44 : decode cX9_letClimb 44 = .ok (.invokevirtual 36, 3) := by decide +kernel
theorem dX9_letClimb_47 : decode cX9_letClimb 47 = .ok (.invokevirtual 100, 3) := by decide +kernel
theorem dX9_letClimb_50 : decode cX9_letClimb 50 = .ok (.return_, 1) := by decide +kernel
theorem dX9_solveOne_0 : decode cX9_solveOne 0 = .ok (.aload_n 0, 1) := by decide +kernel
theorem dX9_solveOne_1 : decode cX9_solveOne 1 = .ok (.iload_n 1, 1) := by decide +kernel
theorem dX9_solveOne_2 : decode cX9_solveOne 2 = .ok (.bipush 9, 2) := by decide +kernel
theorem dX9_solveOne_4 : decode cX9_solveOne 4 = .ok (.iconst 3, 1) := by decide +kernel
theorem dX9_solveOne_5 : decode cX9_solveOne 5 = .ok (.invokevirtual 96, 3) := by decide +kernel
theorem dX9_solveOne_8 : decode cX9_solveOne 8 = .ok (.aload_n 0, 1) := by decide +kernel
theorem dX9_solveOne_9 : decode cX9_solveOne 9 = .ok (.iload_n 1, 1) := by decide +kernel
theorem dX9_solveOne_10 : decode cX9_solveOne 10 = .ok (.bipush 13, 2) := by decide +kernel
theorem dX9_solveOne_12 : decode cX9_solveOne 12 = .ok (.iload_n 2, 1) := by decide +kernel
theorem dX9_solveOne_13 : decode cX9_solveOne 13 = .ok (.invokevirtual 96, 3) := by decide +kernel
theorem dX9_solveOne_16 : decode cX9_solveOne 16 = .ok (.aload_n 0, 1) := by decide +kernel
theorem dX9_solveOne_17 : decode cX9_solveOne 17 = .ok (.iload_n 2, 1) := by decide +kernel
theorem dX9_solveOne_18 : decode cX9_solveOne 18 = .ok (.iconst 5, 1) := by decide +kernel
theorem dX9_solveOne_19 : decode cX9_solveOne 19 = .ok (.iload_n 1, 1) := by decide +kernel
theorem dX9_solveOne_20 : decode cX9_solveOne 20 = .ok (.iconst 0, 1) := by decide +kernel
theorem dX9_solveOne_21 : decode cX9_solveOne 21 = .ok (.invokevirtual 100, 3) := by decide +kernel
theorem dX9_solveOne_24 : decode cX9_solveOne 24 = .ok (.return_, 1) := by decide +kernel
theorem dX9_makeSolved_0 : decode cX9_makeSolved 0 = .ok (.aload_n 0, 1) := by decide +kernel
theorem dX9_makeSolved_1 : decode cX9_makeSolved 1 = .ok (.iload_n 1, 1) := by decide +kernel
theorem dX9_makeSolved_2 : decode cX9_makeSolved 2 = .ok (.iload_n 2, 1) := by decide +kernel
theorem dX9_makeSolved_3 : decode cX9_makeSolved 3 = .ok (.invokevirtual 124, 3) := by decide +kernel
theorem dX9_makeSolved_6 : decode cX9_makeSolved 6 = .ok (.iconst 1, 1) := by decide +kernel
theorem dX9_makeSolved_7 : decode cX9_makeSolved 7 = .ok (.istore_n 3, 1) := by decide +kernel
theorem dX9_makeSolved_8 : decode cX9_makeSolved 8 = .ok (.iconst 0, 1) := by decide +kernel
theorem dX9_makeSolved_9 : decode cX9_makeSolved 9 = .ok (.istore 4, 2) := by decide +kernel
theorem dX9_makeSolved_11 : decode cX9_makeSolved 11 = .ok (.iload 4, 2) := by decide +kernel
theorem dX9_makeSolved_13 : decode cX9_makeSolved 13 = .ok (.aload_n 0, 1) := by decide +kernel
theorem dX9_makeSolved_14 : decode cX9_makeSolved 14 = .ok (.getfield 7, 3) := by decide +kernel
theorem dX9_makeSolved_17 : decode cX9_makeSolved 17 = .ok (.bipush 56, 2) := by decide +kernel
theorem dX9_makeSolved_19 : decode cX9_makeSolved 19 = .ok (.iaload, 1) := by decide +kernel
theorem dX9_makeSolved_20 : decode cX9_makeSolved 20 = .ok (.if_icmp .ge 31, 3) := by decide +kernel
theorem dX9_makeSolved_23 : decode cX9_makeSolved 23 = .ok (.aload_n 0, 1) := by decide +kernel
theorem dX9_makeSolved_24 : decode cX9_makeSolved 24 = .ok (.iload 4, 2) := by decide +kernel
theorem dX9_makeSolved_26 : decode cX9_makeSolved 26 = .ok (.bipush 10, 2) := by decide +kernel
theorem dX9_makeSolved_28 : decode cX9_makeSolved 28 = .ok (.invokevirtual 36, 3) := by decide +kernel
theorem dX9_makeSolved_31 : decode cX9_makeSolved 31 = .ok (.iload_n 1, 1) := by decide +kernel
theorem dX9_makeSolved_32 : decode cX9_makeSolved 32 = .ok (.if_icmp .ne 13, 3) := by decide +kernel
theorem dX9_makeSolved_35 : decode cX9_makeSolved 35 = .ok (.aload_n 0, 1) := by decide +kernel
theorem dX9_makeSolved_36 : decode cX9_makeSolved 36 = .ok (.iload 4, 2) := by decide +kernel
theorem dX9_makeSolved_38 : decode cX9_makeSolved 38 = .ok (.iload_n 2, 1) := by decide +kernel
theorem dX9_makeSolved_39 : decode cX9_makeSolved 39 = .ok (.invokevirtual 124, 3) := by decide +kernel
theorem dX9_makeSolved_42 : decode cX9_makeSolved 42 = .ok (.iinc 3 1, 3) := by decide +kernel
theorem dX9_makeSolved_45 : decode cX9_makeSolved 45 = .ok (.iinc 4 1, 3) := by decide +kernel
theorem dX9_makeSolved_48 : decode cX9_makeSolved 48 = .ok (.goto (-37), 3) := by decide +kernel
theorem dX9_makeSolved_51 : decode cX9_makeSolved 51 = .ok (.iload_n 3, 1) := by decide +kernel
theorem dX9_makeSolved_52 : decode cX9_makeSolved 52 = .ok (.ireturn, 1) := by decide +kernel
theorem dX9_makeOpen_0 : decode cX9_makeOpen 0 = .ok (.aload_n 0, 1) := by decide +kernel
theorem dX9_makeOpen_1 : decode cX9_makeOpen 1 = .ok (.iload_n 1, 1) := by decide +kernel
theorem dX9_makeOpen_2 : decode cX9_makeOpen 2 = .ok (.bipush 9, 2) := by decide +kernel
theorem dX9_makeOpen_4 : decode cX9_makeOpen 4 = .ok (.iconst 0, 1) := by decide +kernel
theorem dX9_makeOpen_5 : decode cX9_makeOpen 5 = .ok (.invokevirtual 96, 3) := by decide +kernel
theorem dX9_makeOpen_8 : decode cX9_makeOpen 8 = .ok (.aload_n 0, 1) := by decide +kernel
theorem dX9_makeOpen_9 : decode cX9_makeOpen 9 = .ok (.iload_n 1, 1) := by decide +kernel
theorem dX9_makeOpen_10 : decode cX9_makeOpen 10 = .ok (.bipush 13, 2) := by decide +kernel
theorem dX9_makeOpen_12 : decode cX9_makeOpen 12 = .ok (.iconst (-1), 1) := by decide +kernel
theorem dX9_makeOpen_13 : decode cX9_makeOpen 13 = .ok (.invokevirtual 96, 3) := by decide +kernel
theorem dX9_makeOpen_16 : decode cX9_makeOpen 16 = .ok (.aload_n 0, 1) := by decide +kernel
theorem dX9_makeOpen_17 : decode cX9_makeOpen 17 = .ok (.iload_n 1, 1) := by decide +kernel
theorem dX9_makeOpen_18 : decode cX9_makeOpen 18 = .ok (.iconst 5, 1) := by decide +kernel
theorem dX9_makeOpen_19 : decode cX9_makeOpen 19 = .ok (.iconst 0, 1) := by decide +kernel
theorem dX9_makeOpen_20 : decode cX9_makeOpen 20 = .ok (.invokevirtual 96, 3) := by decide +kernel
theorem dX9_makeOpen_23 : decode cX9_makeOpen 23 = .ok (.aload_n 0, 1) := by decide +kernel
theorem dX9_makeOpen_24 : decode cX9_makeOpen 24 = .ok (.iload_n 1, 1) := by decide +kernel
theorem dX9_makeOpen_25 : decode cX9_makeOpen 25 = .ok (.bipush 6, 2) := by decide +kernel
theorem dX9_makeOpen_27 : decode cX9_makeOpen 27 = .ok (.iconst 0, 1) := by decide +kernel
theorem dX9_makeOpen_28 : decode cX9_makeOpen 28 = .ok (.invokevirtual 96, 3) := by decide +kernel
theorem dX9_makeOpen_31 : decode cX9_makeOpen 31 = .ok (.aload_n 0, 1) := by decide +kernel
theorem dX9_makeOpen_32 : decode cX9_makeOpen 32 = .ok (.aload_n 0, 1) := by decide +kernel
theorem dX9_makeOpen_33 : decode cX9_makeOpen 33 = .ok (.getfield 7, 3) := by decide +kernel
theorem dX9_makeOpen_36 : decode cX9_makeOpen 36 = .ok (.iconst 0, 1) := by decide +kernel
theorem dX9_makeOpen_37 : decode cX9_makeOpen 37 = .ok (.iaload, 1) := by decide +kernel
theorem dX9_makeOpen_38 : decode cX9_makeOpen 38 = .ok (.bipush 10, 2) := by decide +kernel
theorem dX9_makeOpen_40 : decode cX9_makeOpen 40 = .ok (.iload_n 1, 1) := by decide +kernel
theorem dX9_makeOpen_41 : decode cX9_makeOpen 41 = .ok (.iconst 0, 1) := by decide +kernel
theorem dX9_makeOpen_42 : decode cX9_makeOpen 42 = .ok (.invokevirtual 100, 3) := by decide +kernel
theorem dX9_makeOpen_45 : decode cX9_makeOpen 45 = .ok (.iconst 1, 1) := by decide +kernel
theorem dX9_makeOpen_46 : decode cX9_makeOpen 46 = .ok (.istore_n 2, 1) := by decide +kernel
theorem dX9_makeOpen_47 : decode cX9_makeOpen 47 = .ok (.iconst 0, 1) := by decide +kernel
theorem dX9_makeOpen_48 : decode cX9_makeOpen 48 = .ok (.istore_n 3, 1) := by decide +kernel
theorem dX9_makeOpen_49 : decode cX9_makeOpen 49 = .ok (.iload_n 3, 1) := by decide +kernel
theorem dX9_makeOpen_50 : decode cX9_makeOpen 50 = .ok (.aload_n 0, 1) := by decide +kernel
theorem dX9_makeOpen_51 : decode cX9_makeOpen 51 = .ok (.getfield 7, 3) := by decide +kernel
theorem dX9_makeOpen_54 : decode cX9_makeOpen 54 = .ok (.bipush 56, 2) := by decide +kernel
theorem dX9_makeOpen_56 : decode cX9_makeOpen 56 = .ok (.iaload, 1) := by decide +kernel
theorem dX9_makeOpen_57 : decode cX9_makeOpen 57 = .ok (.if_icmp .ge 39, 3) := by decide +kernel
theorem dX9_makeOpen_60 : decode cX9_makeOpen 60 = .ok (.aload_n 0, 1) := by decide +kernel
theorem dX9_makeOpen_61 : decode cX9_makeOpen 61 = .ok (.iload_n 3, 1) := by decide +kernel
theorem dX9_makeOpen_62 : decode cX9_makeOpen 62 = .ok (.bipush 10, 2) := by decide +kernel
theorem dX9_makeOpen_64 : decode cX9_makeOpen 64 = .ok (.invokevirtual 36, 3) := by decide +kernel
theorem dX9_makeOpen_67 : decode cX9_makeOpen 67 = .ok (.iload_n 1, 1) := by decide +kernel
theorem dX9_makeOpen_68 : decode cX9_makeOpen 68 = .ok (.if_icmp .ne 22, 3) := by decide +kernel
theorem dX9_makeOpen_71 : decode cX9_makeOpen 71 = .ok (.aload_n 0, 1) := by decide +kernel
theorem dX9_makeOpen_72 : decode cX9_makeOpen 72 = .ok (.iload_n 3, 1) := by decide +kernel
theorem dX9_makeOpen_73 : decode cX9_makeOpen 73 = .ok (.bipush 9, 2) := by decide +kernel
theorem dX9_makeOpen_75 : decode cX9_makeOpen 75 = .ok (.iconst 4, 1) := by decide +kernel
theorem dX9_makeOpen_76 : decode cX9_makeOpen 76 = .ok (.invokevirtual 96, 3) := by decide +kernel
theorem dX9_makeOpen_79 : decode cX9_makeOpen 79 = .ok (.aload_n 0, 1) := by decide +kernel
theorem dX9_makeOpen_80 : decode cX9_makeOpen 80 = .ok (.iload_n 3, 1) := by decide +kernel
theorem dX9_makeOpen_81 : decode cX9_makeOpen 81 = .ok (.bipush 13, 2) := by decide +kernel
theorem dX9_makeOpen_83 : decode cX9_makeOpen 83 = .ok (.iconst (-1), 1) := by decide +kernel
theorem dX9_makeOpen_84 : decode cX9_makeOpen 84 = .ok (.invokevirtual 96, 3) := by decide +kernel
theorem dX9_makeOpen_87 : decode cX9_makeOpen 87 = .ok (.iinc 2 1, 3) := by decide +kernel
theorem dX9_makeOpen_90 : decode cX9_makeOpen 90 = .ok (.iinc 3 1, 3) := by decide +kernel
theorem dX9_makeOpen_93 : decode cX9_makeOpen 93 = .ok (.goto (-44), 3) := by decide +kernel
theorem dX9_makeOpen_96 : decode cX9_makeOpen 96 = .ok (.iload_n 2, 1) := by decide +kernel
theorem dX9_makeOpen_97 : decode cX9_makeOpen 97 = .ok (.ireturn, 1) := by decide +kernel
theorem dX9_makeTwin_0 : decode cX9_makeTwin 0 = .ok (.aload_n 0, 1) := by decide +kernel
theorem dX9_makeTwin_1 : decode cX9_makeTwin 1 = .ok (.iload_n 1, 1) := by decide +kernel
theorem dX9_makeTwin_2 : decode cX9_makeTwin 2 = .ok (.bipush 9, 2) := by decide +kernel
theorem dX9_makeTwin_4 : decode cX9_makeTwin 4 = .ok (.iconst 4, 1) := by decide +kernel
theorem dX9_makeTwin_5 : decode cX9_makeTwin 5 = .ok (.invokevirtual 96, 3) := by decide +kernel
theorem dX9_makeTwin_8 : decode cX9_makeTwin 8 = .ok (.iconst 0, 1) := by decide +kernel
theorem dX9_makeTwin_9 : decode cX9_makeTwin 9 = .ok (.istore_n 3, 1) := by decide +kernel
theorem dX9_makeTwin_10 : decode cX9_makeTwin 10 = .ok (.iconst 0, 1) := by decide +kernel
theorem dX9_makeTwin_11 : decode cX9_makeTwin 11 = .ok (.istore 4, 2) := by decide +kernel
theorem dX9_makeTwin_13 : decode cX9_makeTwin 13 = .ok (.iload 4, 2) := by decide +kernel
theorem dX9_makeTwin_15 : decode cX9_makeTwin 15 = .ok (.aload_n 0, 1) := by decide +kernel
theorem dX9_makeTwin_16 : decode cX9_makeTwin 16 = .ok (.getfield 7, 3) := by decide +kernel
theorem dX9_makeTwin_19 : decode cX9_makeTwin 19 = .ok (.bipush 56, 2) := by decide +kernel
theorem dX9_makeTwin_21 : decode cX9_makeTwin 21 = .ok (.iaload, 1) := by decide +kernel
theorem dX9_makeTwin_22 : decode cX9_makeTwin 22 = .ok (.if_icmp .ge 56, 3) := by decide +kernel
theorem dX9_makeTwin_25 : decode cX9_makeTwin 25 = .ok (.iload 4, 2) := by decide +kernel
theorem dX9_makeTwin_27 : decode cX9_makeTwin 27 = .ok (.iload_n 1, 1) := by decide +kernel
theorem dX9_makeTwin_28 : decode cX9_makeTwin 28 = .ok (.if_icmp .eq 15, 3) := by decide +kernel
theorem dX9_makeTwin_31 : decode cX9_makeTwin 31 = .ok (.aload_n 0, 1) := by decide +kernel
theorem dX9_makeTwin_32 : decode cX9_makeTwin 32 = .ok (.iload 4, 2) := by decide +kernel
theorem dX9_makeTwin_34 : decode cX9_makeTwin 34 = .ok (.bipush 10, 2) := by decide +kernel
theorem dX9_makeTwin_36 : decode cX9_makeTwin 36 = .ok (.invokevirtual 36, 3) := by decide +kernel
theorem dX9_makeTwin_39 : decode cX9_makeTwin 39 = .ok (.iload_n 1, 1) := by decide +kernel
theorem dX9_makeTwin_40 : decode cX9_makeTwin 40 = .ok (.if_icmp .ne 12, 3) := by decide +kernel
theorem dX9_makeTwin_43 : decode cX9_makeTwin 43 = .ok (.aload_n 0, 1) := by decide +kernel
theorem dX9_makeTwin_44 : decode cX9_makeTwin 44 = .ok (.iload 4, 2) := by decide +kernel
theorem dX9_makeTwin_46 : decode cX9_makeTwin 46 = .ok (.bipush 10, 2) := by decide +kernel
theorem dX9_makeTwin_48 : decode cX9_makeTwin 48 = .ok (.iload_n 2, 1) := by decide +kernel
theorem dX9_makeTwin_49 : decode cX9_makeTwin 49 = .ok (.invokevirtual 96, 3) := by decide +kernel
theorem dX9_makeTwin_52 : decode cX9_makeTwin 52 = .ok (.iload_n 3, 1) := by decide +kernel
theorem dX9_makeTwin_53 : decode cX9_makeTwin 53 = .ok (.aload_n 0, 1) := by decide +kernel
theorem dX9_makeTwin_54 : decode cX9_makeTwin 54 = .ok (.iload 4, 2) := by decide +kernel
theorem dX9_makeTwin_56 : decode cX9_makeTwin 56 = .ok (.bipush 10, 2) := by decide +kernel
theorem dX9_makeTwin_58 : decode cX9_makeTwin 58 = .ok (.invokevirtual 36, 3) := by decide +kernel
theorem dX9_makeTwin_61 : decode cX9_makeTwin 61 = .ok (.iload_n 2, 1) := by decide +kernel
theorem dX9_makeTwin_62 : decode cX9_makeTwin 62 = .ok (.if_icmp .ne 7, 3) := by decide +kernel
theorem dX9_makeTwin_65 : decode cX9_makeTwin 65 = .ok (.iconst 1, 1) := by decide +kernel
theorem dX9_makeTwin_66 : decode cX9_makeTwin 66 = .ok (.goto 4, 3) := by decide +kernel
theorem dX9_makeTwin_69 : decode cX9_makeTwin 69 = .ok (.iconst 0, 1) := by decide +kernel
theorem dX9_makeTwin_70 : decode cX9_makeTwin 70 = .ok (.iadd, 1) := by decide +kernel
theorem dX9_makeTwin_71 : decode cX9_makeTwin 71 = .ok (.istore_n 3, 1) := by decide +kernel
theorem dX9_makeTwin_72 : decode cX9_makeTwin 72 = .ok (.iinc 4 1, 3) := by decide +kernel
theorem dX9_makeTwin_75 : decode cX9_makeTwin 75 = .ok (.goto (-62), 3) := by decide +kernel
theorem dX9_makeTwin_78 : decode cX9_makeTwin 78 = .ok (.aload_n 0, 1) := by decide +kernel
theorem dX9_makeTwin_79 : decode cX9_makeTwin 79 = .ok (.aload_n 0, 1) := by decide +kernel
theorem dX9_makeTwin_80 : decode cX9_makeTwin 80 = .ok (.getfield 7, 3) := by decide +kernel
theorem dX9_makeTwin_83 : decode cX9_makeTwin 83 = .ok (.iconst 0, 1) := by decide +kernel
theorem dX9_makeTwin_84 : decode cX9_makeTwin 84 = .ok (.iaload, 1) := by decide +kernel
theorem dX9_makeTwin_85 : decode cX9_makeTwin 85 = .ok (.bipush 6, 2) := by decide +kernel
theorem dX9_makeTwin_87 : decode cX9_makeTwin 87 = .ok (.iload_n 1, 1) := by decide +kernel
theorem dX9_makeTwin_88 : decode cX9_makeTwin 88 = .ok (.iload_n 2, 1) := by decide +kernel
theorem dX9_makeTwin_89 : decode cX9_makeTwin 89 = .ok (.invokevirtual 100, 3) := by decide +kernel
theorem dX9_makeTwin_92 : decode cX9_makeTwin 92 = .ok (.iload_n 3, 1) := by decide +kernel
theorem dX9_makeTwin_93 : decode cX9_makeTwin 93 = .ok (.ireturn, 1) := by decide +kernel
theorem dX9_makeOwn_0 : decode cX9_makeOwn 0 = .ok (.aload_n 0, 1) := by decide +kernel
theorem dX9_makeOwn_1 : decode cX9_makeOwn 1 = .ok (.iload_n 1, 1) := by decide +kernel
theorem dX9_makeOwn_2 : decode cX9_makeOwn 2 = .ok (.bipush 10, 2) := by decide +kernel
theorem dX9_makeOwn_4 : decode cX9_makeOwn 4 = .ok (.invokevirtual 36, 3) := by decide +kernel
theorem dX9_makeOwn_7 : decode cX9_makeOwn 7 = .ok (.istore_n 2, 1) := by decide +kernel
theorem dX9_makeOwn_8 : decode cX9_makeOwn 8 = .ok (.aload_n 0, 1) := by decide +kernel
theorem dX9_makeOwn_9 : decode cX9_makeOwn 9 = .ok (.iload_n 1, 1) := by decide +kernel
theorem dX9_makeOwn_10 : decode cX9_makeOwn 10 = .ok (.bipush 10, 2) := by decide +kernel
theorem dX9_makeOwn_12 : decode cX9_makeOwn 12 = .ok (.iconst (-1), 1) := by decide +kernel
theorem dX9_makeOwn_13 : decode cX9_makeOwn 13 = .ok (.invokevirtual 96, 3) := by decide +kernel
theorem dX9_makeOwn_16 : decode cX9_makeOwn 16 = .ok (.aload_n 0, 1) := by decide +kernel
theorem dX9_makeOwn_17 : decode cX9_makeOwn 17 = .ok (.iload_n 1, 1) := by decide +kernel
theorem dX9_makeOwn_18 : decode cX9_makeOwn 18 = .ok (.bipush 9, 2) := by decide +kernel
theorem dX9_makeOwn_20 : decode cX9_makeOwn 20 = .ok (.iconst 0, 1) := by decide +kernel
theorem dX9_makeOwn_21 : decode cX9_makeOwn 21 = .ok (.invokevirtual 96, 3) := by decide +kernel
theorem dX9_makeOwn_24 : decode cX9_makeOwn 24 = .ok (.aload_n 0, 1) := by decide +kernel
theorem dX9_makeOwn_25 : decode cX9_makeOwn 25 = .ok (.aload_n 0, 1) := by decide +kernel
theorem dX9_makeOwn_26 : decode cX9_makeOwn 26 = .ok (.getfield 7, 3) := by decide +kernel
theorem dX9_makeOwn_29 : decode cX9_makeOwn 29 = .ok (.iconst 0, 1) := by decide +kernel
theorem dX9_makeOwn_30 : decode cX9_makeOwn 30 = .ok (.iaload, 1) := by decide +kernel
theorem dX9_makeOwn_31 : decode cX9_makeOwn 31 = .ok (.bipush 7, 2) := by decide +kernel
theorem dX9_makeOwn_33 : decode cX9_makeOwn 33 = .ok (.iload_n 1, 1) := by decide +kernel
theorem dX9_makeOwn_34 : decode cX9_makeOwn 34 = .ok (.iload_n 2, 1) := by decide +kernel
theorem dX9_makeOwn_35 : decode cX9_makeOwn 35 = .ok (.invokevirtual 100, 3) := by decide +kernel
theorem dX9_makeOwn_38 : decode cX9_makeOwn 38 = .ok (.iload_n 2, 1) := by decide +kernel
theorem dX9_makeOwn_39 : decode cX9_makeOwn 39 = .ok (.ireturn, 1) := by decide +kernel
theorem dX9_setDay_0 : decode cX9_setDay 0 = .ok (.aload_n 0, 1) := by decide +kernel
theorem dX9_setDay_1 : decode cX9_setDay 1 = .ok (.iconst 0, 1) := by decide +kernel
theorem dX9_setDay_2 : decode cX9_setDay 2 = .ok (.iload_n 1, 1) := by decide +kernel
theorem dX9_setDay_3 : decode cX9_setDay 3 = .ok (.iload_n 2, 1) := by decide +kernel
theorem dX9_setDay_4 : decode cX9_setDay 4 = .ok (.iload_n 3, 1) := by decide +kernel
theorem dX9_setDay_5 : decode cX9_setDay 5 = .ok (.iconst 0, 1) := by decide +kernel
theorem dX9_setDay_6 : decode cX9_setDay 6 = .ok (.invokevirtual 127, 3) := by decide +kernel
theorem dX9_setDay_9 : decode cX9_setDay 9 = .ok (.ireturn, 1) := by decide +kernel
theorem dX9_openingMinute_0 : decode cX9_openingMinute 0 = .ok (.iload_n 1, 1) := by decide +kernel
theorem dX9_openingMinute_1 : decode cX9_openingMinute 1 = .ok (.invokestatic 54, 3) := by decide +kernel
theorem dX9_openingMinute_4 : decode cX9_openingMinute 4 = .ok (.ifCond .eq 14, 3) := by decide +kernel
theorem dX9_openingMinute_7 : decode cX9_openingMinute 7 = .ok (.aload_n 0, 1) := by decide +kernel
theorem dX9_openingMinute_8 : decode cX9_openingMinute 8 = .ok (.getfield 7, 3) := by decide +kernel
theorem dX9_openingMinute_11 : decode cX9_openingMinute 11 = .ok (.iconst 1, 1) := by decide +kernel
theorem dX9_openingMinute_12 : decode cX9_openingMinute 12 = .ok (.iload_n 1, 1) := by decide +kernel
theorem dX9_openingMinute_13 : decode cX9_openingMinute 13 = .ok (.iadd, 1) := by decide +kernel
theorem dX9_openingMinute_14 : decode cX9_openingMinute 14 = .ok (.iaload, 1) := by decide +kernel
theorem dX9_openingMinute_15 : decode cX9_openingMinute 15 = .ok (.goto 5, 3) := by decide +kernel
theorem dX9_openingMinute_18 : decode cX9_openingMinute 18 = .ok (.bipush (-4), 2) := by decide +kernel
theorem dX9_openingMinute_20 : decode cX9_openingMinute 20 = .ok (.ireturn, 1) := by decide +kernel
theorem dX9_closingMinute_0 : decode cX9_closingMinute 0 = .ok (.iload_n 1, 1) := by decide +kernel
theorem dX9_closingMinute_1 : decode cX9_closingMinute 1 = .ok (.invokestatic 54, 3) := by decide +kernel
theorem dX9_closingMinute_4 : decode cX9_closingMinute 4 = .ok (.ifCond .eq 15, 3) := by decide +kernel
theorem dX9_closingMinute_7 : decode cX9_closingMinute 7 = .ok (.aload_n 0, 1) := by decide +kernel
theorem dX9_closingMinute_8 : decode cX9_closingMinute 8 = .ok (.getfield 7, 3) := by decide +kernel
theorem dX9_closingMinute_11 : decode cX9_closingMinute 11 = .ok (.bipush 8, 2) := by decide +kernel
theorem dX9_closingMinute_13 : decode cX9_closingMinute 13 = .ok (.iload_n 1, 1) := by decide +kernel
theorem dX9_closingMinute_14 : decode cX9_closingMinute 14 = .ok (.iadd, 1) := by decide +kernel
theorem dX9_closingMinute_15 : decode cX9_closingMinute 15 = .ok (.iaload, 1) := by decide +kernel
theorem dX9_closingMinute_16 : decode cX9_closingMinute 16 = .ok (.goto 5, 3) := by decide +kernel
theorem dX9_closingMinute_19 : decode cX9_closingMinute 19 = .ok (.bipush (-4), 2) := by decide +kernel
theorem dX9_closingMinute_21 : decode cX9_closingMinute 21 = .ok (.ireturn, 1) := by decide +kernel
theorem dX9_isOpenMinute_0 : decode cX9_isOpenMinute 0 = .ok (.iload_n 1, 1) := by decide +kernel
theorem dX9_isOpenMinute_1 : decode cX9_isOpenMinute 1 = .ok (.sipush 1440, 3) := by decide +kernel
theorem dX9_isOpenMinute_4 : decode cX9_isOpenMinute 4 = .ok (.idiv, 1) := by decide +kernel
theorem dX9_isOpenMinute_5 : decode cX9_isOpenMinute 5 = .ok (.istore_n 2, 1) := by decide +kernel
theorem dX9_isOpenMinute_6 : decode cX9_isOpenMinute 6 = .ok (.iload_n 1, 1) := by decide +kernel
theorem dX9_isOpenMinute_7 : decode cX9_isOpenMinute 7 = .ok (.sipush 1440, 3) := by decide +kernel
theorem dX9_isOpenMinute_10 : decode cX9_isOpenMinute 10 = .ok (.irem, 1) := by decide +kernel
theorem dX9_isOpenMinute_11 : decode cX9_isOpenMinute 11 = .ok (.istore_n 3, 1) := by decide +kernel
theorem dX9_isOpenMinute_12 : decode cX9_isOpenMinute 12 = .ok (.iload_n 3, 1) := by decide +kernel
theorem dX9_isOpenMinute_13 : decode cX9_isOpenMinute 13 = .ok (.aload_n 0, 1) := by decide +kernel
theorem dX9_isOpenMinute_14 : decode cX9_isOpenMinute 14 = .ok (.getfield 7, 3) := by decide +kernel
theorem dX9_isOpenMinute_17 : decode cX9_isOpenMinute 17 = .ok (.iconst 1, 1) := by decide +kernel
theorem dX9_isOpenMinute_18 : decode cX9_isOpenMinute 18 = .ok (.iload_n 2, 1) := by decide +kernel
theorem dX9_isOpenMinute_19 : decode cX9_isOpenMinute 19 = .ok (.iadd, 1) := by decide +kernel
theorem dX9_isOpenMinute_20 : decode cX9_isOpenMinute 20 = .ok (.iaload, 1) := by decide +kernel
theorem dX9_isOpenMinute_21 : decode cX9_isOpenMinute 21 = .ok (.if_icmp .lt 20, 3) := by decide +kernel
theorem dX9_isOpenMinute_24 : decode cX9_isOpenMinute 24 = .ok (.iload_n 3, 1) := by decide +kernel
theorem dX9_isOpenMinute_25 : decode cX9_isOpenMinute 25 = .ok (.aload_n 0, 1) := by decide +kernel
theorem dX9_isOpenMinute_26 : decode cX9_isOpenMinute 26 = .ok (.getfield 7, 3) := by decide +kernel
theorem dX9_isOpenMinute_29 : decode cX9_isOpenMinute 29 = .ok (.bipush 8, 2) := by decide +kernel
theorem dX9_isOpenMinute_31 : decode cX9_isOpenMinute 31 = .ok (.iload_n 2, 1) := by decide +kernel
theorem dX9_isOpenMinute_32 : decode cX9_isOpenMinute 32 = .ok (.iadd, 1) := by decide +kernel
theorem dX9_isOpenMinute_33 : decode cX9_isOpenMinute 33 = .ok (.iaload, 1) := by decide +kernel
theorem dX9_isOpenMinute_34 : decode cX9_isOpenMinute 34 = .ok (.if_icmp .ge 7, 3) := by decide +kernel
theorem dX9_isOpenMinute_37 : decode cX9_isOpenMinute 37 = .ok (.iconst 1, 1) := by decide +kernel
theorem dX9_isOpenMinute_38 : decode cX9_isOpenMinute 38 = .ok (.goto 4, 3) := by decide +kernel
theorem dX9_isOpenMinute_41 : decode cX9_isOpenMinute 41 = .ok (.iconst 0, 1) := by decide +kernel
theorem dX9_isOpenMinute_42 : decode cX9_isOpenMinute 42 = .ok (.ireturn, 1) := by decide +kernel
theorem dX9_isOpen_0 : decode cX9_isOpen 0 = .ok (.iload_n 1, 1) := by decide +kernel
theorem dX9_isOpen_1 : decode cX9_isOpen 1 = .ok (.iconst 0, 1) := by decide +kernel
theorem dX9_isOpen_2 : decode cX9_isOpen 2 = .ok (.sipush 10079, 3) := by decide +kernel
theorem dX9_isOpen_5 : decode cX9_isOpen 5 = .ok (.invokestatic 43, 3) := by decide +kernel
theorem dX9_isOpen_8 : decode cX9_isOpen 8 = .ok (.ifCond .ne 6, 3) := by decide +kernel
theorem dX9_isOpen_11 : decode cX9_isOpen 11 = .ok (.bipush (-4), 2) := by decide +kernel
theorem dX9_isOpen_13 : decode cX9_isOpen 13 = .ok (.ireturn, 1) := by decide +kernel
theorem dX9_isOpen_14 : decode cX9_isOpen 14 = .ok (.aload_n 0, 1) := by decide +kernel
theorem dX9_isOpen_15 : decode cX9_isOpen 15 = .ok (.iload_n 1, 1) := by decide +kernel
theorem dX9_isOpen_16 : decode cX9_isOpen 16 = .ok (.invokevirtual 130, 3) := by decide +kernel
theorem dX9_isOpen_19 : decode cX9_isOpen 19 = .ok (.ifCond .eq 7, 3) := by decide +kernel
theorem dX9_isOpen_22 : decode cX9_isOpen 22 = .ok (.iconst 1, 1) := by decide +kernel
theorem dX9_isOpen_23 : decode cX9_isOpen 23 = .ok (.goto 4, 3) := by decide +kernel
theorem dX9_isOpen_26 : decode cX9_isOpen 26 = .ok (.iconst 0, 1) := by decide +kernel
theorem dX9_isOpen_27 : decode cX9_isOpen 27 = .ok (.ireturn, 1) := by decide +kernel
theorem dX9_openMinutes_0 : decode cX9_openMinutes 0 = .ok (.iload_n 1, 1) := by decide +kernel
theorem dX9_openMinutes_1 : decode cX9_openMinutes 1 = .ok (.iconst 0, 1) := by decide +kernel
theorem dX9_openMinutes_2 : decode cX9_openMinutes 2 = .ok (.sipush 10080, 3) := by decide +kernel
theorem dX9_openMinutes_5 : decode cX9_openMinutes 5 = .ok (.invokestatic 43, 3) := by decide +kernel
theorem dX9_openMinutes_8 : decode cX9_openMinutes 8 = .ok (.ifCond .eq 14, 3) := by decide +kernel
theorem dX9_openMinutes_11 : decode cX9_openMinutes 11 = .ok (.iload_n 2, 1) := by decide +kernel
theorem dX9_openMinutes_12 : decode cX9_openMinutes 12 = .ok (.iload_n 1, 1) := by decide +kernel
theorem dX9_openMinutes_13 : decode cX9_openMinutes 13 = .ok (.sipush 10080, 3) := by decide +kernel
theorem dX9_openMinutes_16 : decode cX9_openMinutes 16 = .ok (.invokestatic 43, 3) := by decide +kernel
theorem dX9_openMinutes_19 : decode cX9_openMinutes 19 = .ok (.ifCond .ne 6, 3) := by decide +kernel
theorem dX9_openMinutes_22 : decode cX9_openMinutes 22 = .ok (.bipush (-4), 2) := by decide +kernel
theorem dX9_openMinutes_24 : decode cX9_openMinutes 24 = .ok (.ireturn, 1) := by decide +kernel
theorem dX9_openMinutes_25 : decode cX9_openMinutes 25 = .ok (.iconst 0, 1) := by decide +kernel
theorem dX9_openMinutes_26 : decode cX9_openMinutes 26 = .ok (.istore_n 3, 1) := by decide +kernel
theorem dX9_openMinutes_27 : decode cX9_openMinutes 27 = .ok (.iconst 0, 1) := by decide +kernel
theorem dX9_openMinutes_28 : decode cX9_openMinutes 28 = .ok (.istore 4, 2) := by decide +kernel
theorem dX9_openMinutes_30 : decode cX9_openMinutes 30 = .ok (.iload 4, 2) := by decide +kernel
theorem dX9_openMinutes_32 : decode cX9_openMinutes 32 = .ok (.bipush 7, 2) := by decide +kernel
theorem dX9_openMinutes_34 : decode cX9_openMinutes 34 = .ok (.if_icmp .ge 66, 3) := by decide +kernel
theorem dX9_openMinutes_37 : decode cX9_openMinutes 37 = .ok (.iload_n 1, 1) := by decide +kernel
theorem dX9_openMinutes_38 : decode cX9_openMinutes 38 = .ok (.sipush 1440, 3) := by decide +kernel
theorem dX9_openMinutes_41 : decode cX9_openMinutes 41 = .ok (.iload 4, 2) := by decide +kernel
theorem dX9_openMinutes_43 : decode cX9_openMinutes 43 = .ok (.imul, 1) := by decide +kernel
theorem dX9_openMinutes_44 : decode cX9_openMinutes 44 = .ok (.aload_n 0, 1) := by decide +kernel
theorem dX9_openMinutes_45 : decode cX9_openMinutes 45 = .ok (.getfield 7, 3) := by decide +kernel
theorem dX9_openMinutes_48 : decode cX9_openMinutes 48 = .ok (.iconst 1, 1) := by decide +kernel
theorem dX9_openMinutes_49 : decode cX9_openMinutes 49 = .ok (.iload 4, 2) := by decide +kernel
theorem dX9_openMinutes_51 : decode cX9_openMinutes 51 = .ok (.iadd, 1) := by decide +kernel
theorem dX9_openMinutes_52 : decode cX9_openMinutes 52 = .ok (.iaload, 1) := by decide +kernel
theorem dX9_openMinutes_53 : decode cX9_openMinutes 53 = .ok (.iadd, 1) := by decide +kernel
theorem dX9_openMinutes_54 : decode cX9_openMinutes 54 = .ok (.invokestatic 133, 3) := by decide +kernel
theorem dX9_openMinutes_57 : decode cX9_openMinutes 57 = .ok (.istore 5, 2) := by decide +kernel
theorem dX9_openMinutes_59 : decode cX9_openMinutes 59 = .ok (.iload_n 2, 1) := by decide +kernel
theorem dX9_openMinutes_60 : decode cX9_openMinutes 60 = .ok (.sipush 1440, 3) := by decide +kernel
theorem dX9_openMinutes_63 : decode cX9_openMinutes 63 = .ok (.iload 4, 2) := by decide +kernel
theorem dX9_openMinutes_65 : decode cX9_openMinutes 65 = .ok (.imul, 1) := by decide +kernel
theorem dX9_openMinutes_66 : decode cX9_openMinutes 66 = .ok (.aload_n 0, 1) := by decide +kernel
theorem dX9_openMinutes_67 : decode cX9_openMinutes 67 = .ok (.getfield 7, 3) := by decide +kernel
theorem dX9_openMinutes_70 : decode cX9_openMinutes 70 = .ok (.bipush 8, 2) := by decide +kernel
theorem dX9_openMinutes_72 : decode cX9_openMinutes 72 = .ok (.iload 4, 2) := by decide +kernel
theorem dX9_openMinutes_74 : decode cX9_openMinutes 74 = .ok (.iadd, 1) := by decide +kernel
theorem dX9_openMinutes_75 : decode cX9_openMinutes 75 = .ok (.iaload, 1) := by decide +kernel
theorem dX9_openMinutes_76 : decode cX9_openMinutes 76 = .ok (.iadd, 1) := by decide +kernel
theorem dX9_openMinutes_77 : decode cX9_openMinutes 77 = .ok (.invokestatic 138, 3) := by decide +kernel
theorem dX9_openMinutes_80 : decode cX9_openMinutes 80 = .ok (.istore 6, 2) := by decide +kernel
theorem dX9_openMinutes_82 : decode cX9_openMinutes 82 = .ok (.iload_n 3, 1) := by decide +kernel
theorem dX9_openMinutes_83 : decode cX9_openMinutes 83 = .ok (.iconst 0, 1) := by decide +kernel
theorem dX9_openMinutes_84 : decode cX9_openMinutes 84 = .ok (.iload 6, 2) := by decide +kernel
theorem dX9_openMinutes_86 : decode cX9_openMinutes 86 = .ok (.iload 5, 2) := by decide +kernel
theorem dX9_openMinutes_88 : decode cX9_openMinutes 88 = .ok (.isub, 1) := by decide +kernel
theorem dX9_openMinutes_89 : decode cX9_openMinutes 89 = .ok (.invokestatic 133, 3) := by decide +kernel
theorem dX9_openMinutes_92 : decode cX9_openMinutes 92 = .ok (.iadd, 1) := by decide +kernel
theorem dX9_openMinutes_93 : decode cX9_openMinutes 93 = .ok (.istore_n 3, 1) := by decide +kernel
theorem dX9_openMinutes_94 : decode cX9_openMinutes 94 = .ok (.iinc 4 1, 3) := by decide +kernel
theorem dX9_openMinutes_97 : decode cX9_openMinutes 97 = .ok (.goto (-67), 3) := by decide +kernel
theorem dX9_openMinutes_100 : decode cX9_openMinutes 100 = .ok (.iload_n 3, 1) := by decide +kernel
theorem dX9_openMinutes_101 : decode cX9_openMinutes 101 = .ok (.ireturn, 1) := by decide +kernel
theorem dX9_addKind_0 : decode cX9_addKind 0 = .ok (.iload_n 1, 1) := by decide +kernel
theorem dX9_addKind_1 : decode cX9_addKind 1 = .ok (.iconst 0, 1) := by decide +kernel
theorem dX9_addKind_2 : decode cX9_addKind 2 = .ok (.sipush 10080, 3) := by decide +kernel
theorem dX9_addKind_5 : decode cX9_addKind 5 = .ok (.invokestatic 43, 3) := by decide +kernel
theorem dX9_addKind_8 : decode cX9_addKind 8 = .ok (.ifCond .eq 49, 3) := by decide +kernel
theorem dX9_addKind_11 : decode cX9_addKind 11 = .ok (.iload_n 2, 1) := by decide +kernel
theorem dX9_addKind_12 : decode cX9_addKind 12 = .ok (.iconst 0, 1) := by decide +kernel
theorem dX9_addKind_13 : decode cX9_addKind 13 = .ok (.sipush 10080, 3) := by decide +kernel
theorem dX9_addKind_16 : decode cX9_addKind 16 = .ok (.invokestatic 43, 3) := by decide +kernel
theorem dX9_addKind_19 : decode cX9_addKind 19 = .ok (.ifCond .eq 38, 3) := by decide +kernel
theorem dX9_addKind_22 : decode cX9_addKind 22 = .ok (.iload_n 3, 1) := by decide +kernel
theorem dX9_addKind_23 : decode cX9_addKind 23 = .ok (.iconst 1, 1) := by decide +kernel
theorem dX9_addKind_24 : decode cX9_addKind 24 = .ok (.sipush 480, 3) := by decide +kernel
theorem dX9_addKind_27 : decode cX9_addKind 27 = .ok (.invokestatic 43, 3) := by decide +kernel
theorem dX9_addKind_30 : decode cX9_addKind 30 = .ok (.ifCond .eq 27, 3) := by decide +kernel
theorem dX9_addKind_33 : decode cX9_addKind 33 = .ok (.iload 4, 2) := by decide +kernel
theorem dX9_addKind_35 : decode cX9_addKind 35 = .ok (.invokestatic 62, 3) := by decide +kernel
theorem dX9_addKind_38 : decode cX9_addKind 38 = .ok (.ifCond .eq 19, 3) := by decide +kernel
theorem dX9_addKind_41 : decode cX9_addKind 41 = .ok (.iload 5, 2) := by decide +kernel
theorem dX9_addKind_43 : decode cX9_addKind 43 = .ok (.iconst 0, 1) := by decide +kernel
theorem dX9_addKind_44 : decode cX9_addKind 44 = .ok (.sipush 10080, 3) := by decide +kernel
theorem dX9_addKind_47 : decode cX9_addKind 47 = .ok (.invokestatic 43, 3) := by decide +kernel
theorem dX9_addKind_50 : decode cX9_addKind 50 = .ok (.ifCond .eq 7, 3) := by decide +kernel
theorem dX9_addKind_53 : decode cX9_addKind 53 = .ok (.iconst 1, 1) := by decide +kernel
theorem dX9_addKind_54 : decode cX9_addKind 54 = .ok (.goto 4, 3) := by decide +kernel
theorem dX9_addKind_57 : decode cX9_addKind 57 = .ok (.iconst 0, 1) := by decide +kernel
theorem dX9_addKind_58 : decode cX9_addKind 58 = .ok (.istore 7, 2) := by decide +kernel
theorem dX9_addKind_60 : decode cX9_addKind 60 = .ok (.iload 7, 2) := by decide +kernel
theorem dX9_addKind_62 : decode cX9_addKind 62 = .ok (.ifCond .ne 6, 3) := by decide +kernel
theorem dX9_addKind_65 : decode cX9_addKind 65 = .ok (.bipush (-4), 2) := by decide +kernel
theorem dX9_addKind_67 : decode cX9_addKind 67 = .ok (.ireturn, 1) := by decide +kernel
theorem dX9_addKind_68 : decode cX9_addKind 68 = .ok (.aload_n 0, 1) := by decide +kernel
theorem dX9_addKind_69 : decode cX9_addKind 69 = .ok (.getfield 7, 3) := by decide +kernel
theorem dX9_addKind_72 : decode cX9_addKind 72 = .ok (.bipush 19, 2) := by decide +kernel
theorem dX9_addKind_74 : decode cX9_addKind 74 = .ok (.iaload, 1) := by decide +kernel
theorem dX9_addKind_75 : decode cX9_addKind 75 = .ok (.istore 8, 2) := by decide +kernel
theorem dX9_addKind_77 : decode cX9_addKind 77 = .ok (.iload 8, 2) := by decide +kernel
theorem dX9_addKind_79 : decode cX9_addKind 79 = .ok (.bipush 6, 2) := by decide +kernel
theorem dX9_addKind_81 : decode cX9_addKind 81 = .ok (.if_icmp .ne 6, 3) := by decide +kernel
theorem dX9_addKind_84 : decode cX9_addKind 84 = .ok (.bipush (-6), 2) := by decide +kernel
theorem dX9_addKind_86 : decode cX9_addKind 86 = .ok (.ireturn, 1) := by decide +kernel
theorem dX9_addKind_87 : decode cX9_addKind 87 = .ok (.bipush 20, 2) := by decide +kernel
theorem dX9_addKind_89 : decode cX9_addKind 89 = .ok (.bipush 6, 2) := by decide +kernel
theorem dX9_addKind_91 : decode cX9_addKind 91 = .ok (.iload 8, 2) := by decide +kernel
theorem dX9_addKind_93 : decode cX9_addKind 93 = .ok (.imul, 1) := by decide +kernel
theorem dX9_addKind_94 : decode cX9_addKind 94 = .ok (.iadd, 1) := by decide +kernel
theorem dX9_addKind_95 : decode cX9_addKind 95 = .ok (.istore 9, 2) := by decide +kernel
theorem dX9_addKind_97 : decode cX9_addKind 97 = .ok (.aload_n 0, 1) := by decide +kernel
theorem dX9_addKind_98 : decode cX9_addKind 98 = .ok (.getfield 7, 3) := by decide +kernel
theorem dX9_addKind_101 : decode cX9_addKind 101 = .ok (.iload 9, 2) := by decide +kernel
theorem dX9_addKind_103 : decode cX9_addKind 103 = .ok (.iconst 0, 1) := by decide +kernel
theorem dX9_addKind_104 : decode cX9_addKind 104 = .ok (.iadd, 1) := by decide +kernel
theorem dX9_addKind_105 : decode cX9_addKind 105 = .ok (.iload_n 1, 1) := by decide +kernel
theorem dX9_addKind_106 : decode cX9_addKind 106 = .ok (.iastore, 1) := by decide +kernel
theorem dX9_addKind_107 : decode cX9_addKind 107 = .ok (.aload_n 0, 1) := by decide +kernel
theorem dX9_addKind_108 : decode cX9_addKind 108 = .ok (.getfield 7, 3) := by decide +kernel
theorem dX9_addKind_111 : decode cX9_addKind 111 = .ok (.iload 9, 2) := by decide +kernel
theorem dX9_addKind_113 : decode cX9_addKind 113 = .ok (.iconst 1, 1) := by decide +kernel
theorem dX9_addKind_114 : decode cX9_addKind 114 = .ok (.iadd, 1) := by decide +kernel
theorem dX9_addKind_115 : decode cX9_addKind 115 = .ok (.iload_n 2, 1) := by decide +kernel
theorem dX9_addKind_116 : decode cX9_addKind 116 = .ok (.iastore, 1) := by decide +kernel
theorem dX9_addKind_117 : decode cX9_addKind 117 = .ok (.aload_n 0, 1) := by decide +kernel
theorem dX9_addKind_118 : decode cX9_addKind 118 = .ok (.getfield 7, 3) := by decide +kernel
theorem dX9_addKind_121 : decode cX9_addKind 121 = .ok (.iload 9, 2) := by decide +kernel
theorem dX9_addKind_123 : decode cX9_addKind 123 = .ok (.iconst 2, 1) := by decide +kernel
theorem dX9_addKind_124 : decode cX9_addKind 124 = .ok (.iadd, 1) := by decide +kernel
theorem dX9_addKind_125 : decode cX9_addKind 125 = .ok (.iload_n 3, 1) := by decide +kernel
theorem dX9_addKind_126 : decode cX9_addKind 126 = .ok (.iastore, 1) := by decide +kernel
theorem dX9_addKind_127 : decode cX9_addKind 127 = .ok (.aload_n 0, 1) := by decide +kernel
theorem dX9_addKind_128 : decode cX9_addKind 128 = .ok (.getfield 7, 3) := by decide +kernel
theorem dX9_addKind_131 : decode cX9_addKind 131 = .ok (.iload 9, 2) := by decide +kernel
theorem dX9_addKind_133 : decode cX9_addKind 133 = .ok (.iconst 3, 1) := by decide +kernel
theorem dX9_addKind_134 : decode cX9_addKind 134 = .ok (.iadd, 1) := by decide +kernel
theorem dX9_addKind_135 : decode cX9_addKind 135 = .ok (.iload 4, 2) := by decide +kernel
theorem dX9_addKind_137 : decode cX9_addKind 137 = .ok (.iastore, 1) := by decide +kernel
theorem dX9_addKind_138 : decode cX9_addKind 138 = .ok (.aload_n 0, 1) := by decide +kernel
theorem dX9_addKind_139 : decode cX9_addKind 139 = .ok (.getfield 7, 3) := by decide +kernel
theorem dX9_addKind_142 : decode cX9_addKind 142 = .ok (.iload 9, 2) := by decide +kernel
theorem dX9_addKind_144 : decode cX9_addKind 144 = .ok (.iconst 4, 1) := by decide +kernel
theorem dX9_addKind_145 : decode cX9_addKind 145 = .ok (.iadd, 1) := by decide +kernel
theorem dX9_addKind_146 : decode cX9_addKind 146 = .ok (.iload 5, 2) := by decide +kernel
theorem dX9_addKind_148 : decode cX9_addKind 148 = .ok (.iastore, 1) := by decide +kernel
theorem dX9_addKind_149 : decode cX9_addKind 149 = .ok (.aload_n 0, 1) := by decide +kernel
theorem dX9_addKind_150 : decode cX9_addKind 150 = .ok (.getfield 7, 3) := by decide +kernel
theorem dX9_addKind_153 : decode cX9_addKind 153 = .ok (.iload 9, 2) := by decide +kernel
theorem dX9_addKind_155 : decode cX9_addKind 155 = .ok (.iconst 5, 1) := by decide +kernel
theorem dX9_addKind_156 : decode cX9_addKind 156 = .ok (.iadd, 1) := by decide +kernel
theorem dX9_addKind_157 : decode cX9_addKind 157 = .ok (.iload 6, 2) := by decide +kernel
theorem dX9_addKind_159 : decode cX9_addKind 159 = .ok (.ifCond .eq 7, 3) := by decide +kernel
theorem dX9_addKind_162 : decode cX9_addKind 162 = .ok (.iconst 1, 1) := by decide +kernel
theorem dX9_addKind_163 : decode cX9_addKind 163 = .ok (.goto 4, 3) := by decide +kernel
theorem dX9_addKind_166 : decode cX9_addKind 166 = .ok (.iconst 0, 1) := by decide +kernel
theorem dX9_addKind_167 : decode cX9_addKind 167 = .ok (.iastore, 1) := by decide +kernel
theorem dX9_addKind_168 : decode cX9_addKind 168 = .ok (.aload_n 0, 1) := by decide +kernel
theorem dX9_addKind_169 : decode cX9_addKind 169 = .ok (.getfield 7, 3) := by decide +kernel
theorem dX9_addKind_172 : decode cX9_addKind 172 = .ok (.bipush 19, 2) := by decide +kernel
theorem dX9_addKind_174 : decode cX9_addKind 174 = .ok (.dup2, 1) := by decide +kernel
theorem dX9_addKind_175 : decode cX9_addKind 175 = .ok (.iaload, 1) := by decide +kernel
theorem dX9_addKind_176 : decode cX9_addKind 176 = .ok (.iconst 1, 1) := by decide +kernel
theorem dX9_addKind_177 : decode cX9_addKind 177 = .ok (.iadd, 1) := by decide +kernel
theorem dX9_addKind_178 : decode cX9_addKind 178 = .ok (.iastore, 1) := by decide +kernel
theorem dX9_addKind_179 : decode cX9_addKind 179 = .ok (.iload 8, 2) := by decide +kernel
theorem dX9_addKind_181 : decode cX9_addKind 181 = .ok (.ireturn, 1) := by decide +kernel
theorem dX9_kindCount_0 : decode cX9_kindCount 0 = .ok (.aload_n 0, 1) := by decide +kernel
theorem dX9_kindCount_1 : decode cX9_kindCount 1 = .ok (.getfield 7, 3) := by decide +kernel
theorem dX9_kindCount_4 : decode cX9_kindCount 4 = .ok (.bipush 19, 2) := by decide +kernel
theorem dX9_kindCount_6 : decode cX9_kindCount 6 = .ok (.iaload, 1) := by decide +kernel
theorem dX9_kindCount_7 : decode cX9_kindCount 7 = .ok (.ireturn, 1) := by decide +kernel
theorem dX9_setAgents_0 : decode cX9_setAgents 0 = .ok (.aload_n 0, 1) := by decide +kernel
theorem dX9_setAgents_1 : decode cX9_setAgents 1 = .ok (.iconst 1, 1) := by decide +kernel
theorem dX9_setAgents_2 : decode cX9_setAgents 2 = .ok (.iload_n 1, 1) := by decide +kernel
theorem dX9_setAgents_3 : decode cX9_setAgents 3 = .ok (.iload_n 2, 1) := by decide +kernel
theorem dX9_setAgents_4 : decode cX9_setAgents 4 = .ok (.iconst 0, 1) := by decide +kernel
theorem dX9_setAgents_5 : decode cX9_setAgents 5 = .ok (.iconst 0, 1) := by decide +kernel
theorem dX9_setAgents_6 : decode cX9_setAgents 6 = .ok (.invokevirtual 127, 3) := by decide +kernel
theorem dX9_setAgents_9 : decode cX9_setAgents 9 = .ok (.ireturn, 1) := by decide +kernel
theorem dX9_agents_0 : decode cX9_agents 0 = .ok (.iload_n 1, 1) := by decide +kernel
theorem dX9_agents_1 : decode cX9_agents 1 = .ok (.invokestatic 62, 3) := by decide +kernel
theorem dX9_agents_4 : decode cX9_agents 4 = .ok (.ifCond .eq 15, 3) := by decide +kernel
theorem dX9_agents_7 : decode cX9_agents 7 = .ok (.aload_n 0, 1) := by decide +kernel
theorem dX9_agents_8 : decode cX9_agents 8 = .ok (.getfield 7, 3) := by decide +kernel
theorem dX9_agents_11 : decode cX9_agents 11 = .ok (.bipush 15, 2) := by decide +kernel
theorem dX9_agents_13 : decode cX9_agents 13 = .ok (.iload_n 1, 1) := by decide +kernel
theorem dX9_agents_14 : decode cX9_agents 14 = .ok (.iadd, 1) := by decide +kernel
theorem dX9_agents_15 : decode cX9_agents 15 = .ok (.iaload, 1) := by decide +kernel
theorem dX9_agents_16 : decode cX9_agents 16 = .ok (.goto 5, 3) := by decide +kernel
theorem dX9_agents_19 : decode cX9_agents 19 = .ok (.bipush (-4), 2) := by decide +kernel
theorem dX9_agents_21 : decode cX9_agents 21 = .ok (.ireturn, 1) := by decide +kernel
theorem dX9_report_0 : decode cX9_report 0 = .ok (.aload_n 0, 1) := by decide +kernel
theorem dX9_report_1 : decode cX9_report 1 = .ok (.iconst 2, 1) := by decide +kernel
theorem dX9_report_2 : decode cX9_report 2 = .ok (.iload_n 1, 1) := by decide +kernel
theorem dX9_report_3 : decode cX9_report 3 = .ok (.iload_n 2, 1) := by decide +kernel
theorem dX9_report_4 : decode cX9_report 4 = .ok (.iload_n 3, 1) := by decide +kernel
theorem dX9_report_5 : decode cX9_report 5 = .ok (.iload 4, 2) := by decide +kernel
theorem dX9_report_7 : decode cX9_report 7 = .ok (.invokevirtual 127, 3) := by decide +kernel
theorem dX9_report_10 : decode cX9_report 10 = .ok (.ireturn, 1) := by decide +kernel
theorem dX9_pause_0 : decode cX9_pause 0 = .ok (.aload_n 0, 1) := by decide +kernel
theorem dX9_pause_1 : decode cX9_pause 1 = .ok (.iconst 3, 1) := by decide +kernel
theorem dX9_pause_2 : decode cX9_pause 2 = .ok (.iload_n 1, 1) := by decide +kernel
theorem dX9_pause_3 : decode cX9_pause 3 = .ok (.iconst 0, 1) := by decide +kernel
theorem dX9_pause_4 : decode cX9_pause 4 = .ok (.iconst 0, 1) := by decide +kernel
theorem dX9_pause_5 : decode cX9_pause 5 = .ok (.iconst 0, 1) := by decide +kernel
theorem dX9_pause_6 : decode cX9_pause 6 = .ok (.invokevirtual 127, 3) := by decide +kernel
theorem dX9_pause_9 : decode cX9_pause 9 = .ok (.ireturn, 1) := by decide +kernel
theorem dX9_resume_0 : decode cX9_resume 0 = .ok (.aload_n 0, 1) := by decide +kernel
theorem dX9_resume_1 : decode cX9_resume 1 = .ok (.iconst 4, 1) := by decide +kernel
theorem dX9_resume_2 : decode cX9_resume 2 = .ok (.iload_n 1, 1) := by decide +kernel
theorem dX9_resume_3 : decode cX9_resume 3 = .ok (.iconst 0, 1) := by decide +kernel
theorem dX9_resume_4 : decode cX9_resume 4 = .ok (.iconst 0, 1) := by decide +kernel
theorem dX9_resume_5 : decode cX9_resume 5 = .ok (.iconst 0, 1) := by decide +kernel
theorem dX9_resume_6 : decode cX9_resume 6 = .ok (.invokevirtual 127, 3) := by decide +kernel
theorem dX9_resume_9 : decode cX9_resume 9 = .ok (.ireturn, 1) := by decide +kernel
theorem dX9_climb_0 : decode cX9_climb 0 = .ok (.aload_n 0, 1) := by decide +kernel
theorem dX9_climb_1 : decode cX9_climb 1 = .ok (.iconst 5, 1) := by decide +kernel
theorem dX9_climb_2 : decode cX9_climb 2 = .ok (.iload_n 1, 1) := by decide +kernel
theorem dX9_climb_3 : decode cX9_climb 3 = .ok (.iconst 0, 1) := by decide +kernel
theorem dX9_climb_4 : decode cX9_climb 4 = .ok (.iconst 0, 1) := by decide +kernel
theorem dX9_climb_5 : decode cX9_climb 5 = .ok (.iconst 0, 1) := by decide +kernel
theorem dX9_climb_6 : decode cX9_climb 6 = .ok (.invokevirtual 127, 3) := by decide +kernel
theorem dX9_climb_9 : decode cX9_climb 9 = .ok (.ireturn, 1) := by decide +kernel
theorem dX9_solve_0 : decode cX9_solve 0 = .ok (.aload_n 0, 1) := by decide +kernel
theorem dX9_solve_1 : decode cX9_solve 1 = .ok (.bipush 6, 2) := by decide +kernel
theorem dX9_solve_3 : decode cX9_solve 3 = .ok (.iload_n 1, 1) := by decide +kernel
theorem dX9_solve_4 : decode cX9_solve 4 = .ok (.iconst 0, 1) := by decide +kernel
theorem dX9_solve_5 : decode cX9_solve 5 = .ok (.iconst 0, 1) := by decide +kernel
theorem dX9_solve_6 : decode cX9_solve 6 = .ok (.iconst 0, 1) := by decide +kernel
theorem dX9_solve_7 : decode cX9_solve 7 = .ok (.invokevirtual 127, 3) := by decide +kernel
theorem dX9_solve_10 : decode cX9_solve 10 = .ok (.ireturn, 1) := by decide +kernel
theorem dX9_reopen_0 : decode cX9_reopen 0 = .ok (.aload_n 0, 1) := by decide +kernel
theorem dX9_reopen_1 : decode cX9_reopen 1 = .ok (.bipush 7, 2) := by decide +kernel
theorem dX9_reopen_3 : decode cX9_reopen 3 = .ok (.iload_n 1, 1) := by decide +kernel
theorem dX9_reopen_4 : decode cX9_reopen 4 = .ok (.iconst 0, 1) := by decide +kernel
theorem dX9_reopen_5 : decode cX9_reopen 5 = .ok (.iconst 0, 1) := by decide +kernel
theorem dX9_reopen_6 : decode cX9_reopen 6 = .ok (.iconst 0, 1) := by decide +kernel
theorem dX9_reopen_7 : decode cX9_reopen 7 = .ok (.invokevirtual 127, 3) := by decide +kernel
theorem dX9_reopen_10 : decode cX9_reopen 10 = .ok (.ireturn, 1) := by decide +kernel
theorem dX9_join_0 : decode cX9_join 0 = .ok (.aload_n 0, 1) := by decide +kernel
theorem dX9_join_1 : decode cX9_join 1 = .ok (.bipush 8, 2) := by decide +kernel
theorem dX9_join_3 : decode cX9_join 3 = .ok (.iload_n 1, 1) := by decide +kernel
theorem dX9_join_4 : decode cX9_join 4 = .ok (.iload_n 2, 1) := by decide +kernel
theorem dX9_join_5 : decode cX9_join 5 = .ok (.iconst 0, 1) := by decide +kernel
theorem dX9_join_6 : decode cX9_join 6 = .ok (.iconst 0, 1) := by decide +kernel
theorem dX9_join_7 : decode cX9_join 7 = .ok (.invokevirtual 127, 3) := by decide +kernel
theorem dX9_join_10 : decode cX9_join 10 = .ok (.ireturn, 1) := by decide +kernel
theorem dX9_part_0 : decode cX9_part 0 = .ok (.aload_n 0, 1) := by decide +kernel
theorem dX9_part_1 : decode cX9_part 1 = .ok (.bipush 9, 2) := by decide +kernel
theorem dX9_part_3 : decode cX9_part 3 = .ok (.iload_n 1, 1) := by decide +kernel
theorem dX9_part_4 : decode cX9_part 4 = .ok (.iconst 0, 1) := by decide +kernel
theorem dX9_part_5 : decode cX9_part 5 = .ok (.iconst 0, 1) := by decide +kernel
theorem dX9_part_6 : decode cX9_part 6 = .ok (.iconst 0, 1) := by decide +kernel
theorem dX9_part_7 : decode cX9_part 7 = .ok (.invokevirtual 127, 3) := by decide +kernel
theorem dX9_part_10 : decode cX9_part 10 = .ok (.ireturn, 1) := by decide +kernel
theorem dX9_setPriority_0 : decode cX9_setPriority 0 = .ok (.aload_n 0, 1) := by decide +kernel
theorem dX9_setPriority_1 : decode cX9_setPriority 1 = .ok (.bipush 10, 2) := by decide +kernel
theorem dX9_setPriority_3 : decode cX9_setPriority 3 = .ok (.iload_n 1, 1) := by decide +kernel
theorem dX9_setPriority_4 : decode cX9_setPriority 4 = .ok (.iload_n 2, 1) := by decide +kernel
theorem dX9_setPriority_5 : decode cX9_setPriority 5 = .ok (.iconst 0, 1) := by decide +kernel
theorem dX9_setPriority_6 : decode cX9_setPriority 6 = .ok (.iconst 0, 1) := by decide +kernel
theorem dX9_setPriority_7 : decode cX9_setPriority 7 = .ok (.invokevirtual 127, 3) := by decide +kernel
theorem dX9_setPriority_10 : decode cX9_setPriority 10 = .ok (.ireturn, 1) := by decide +kernel
theorem dX9_countOf_0 : decode cX9_countOf 0 = .ok (.iconst 0, 1) := by decide +kernel
theorem dX9_countOf_1 : decode cX9_countOf 1 = .ok (.istore_n 3, 1) := by decide +kernel
theorem dX9_countOf_2 : decode cX9_countOf 2 = .ok (.iconst 0, 1) := by decide +kernel
theorem dX9_countOf_3 : decode cX9_countOf 3 = .ok (.istore 4, 2) := by decide +kernel
theorem dX9_countOf_5 : decode cX9_countOf 5 = .ok (.iload 4, 2) := by decide +kernel
theorem dX9_countOf_7 : decode cX9_countOf 7 = .ok (.aload_n 0, 1) := by decide +kernel
theorem dX9_countOf_8 : decode cX9_countOf 8 = .ok (.getfield 7, 3) := by decide +kernel
theorem dX9_countOf_11 : decode cX9_countOf 11 = .ok (.bipush 56, 2) := by decide +kernel
theorem dX9_countOf_13 : decode cX9_countOf 13 = .ok (.iaload, 1) := by decide +kernel
theorem dX9_countOf_14 : decode cX9_countOf 14 = .ok (.if_icmp .ge 38, 3) := by decide +kernel
theorem dX9_countOf_17 : decode cX9_countOf 17 = .ok (.iload_n 3, 1) := by decide +kernel
theorem dX9_countOf_18 : decode cX9_countOf 18 = .ok (.aload_n 0, 1) := by decide +kernel
theorem dX9_countOf_19 : decode cX9_countOf 19 = .ok (.iload 4, 2) := by decide +kernel
theorem dX9_countOf_21 : decode cX9_countOf 21 = .ok (.iload_n 2, 1) := by decide +kernel
theorem dX9_countOf_22 : decode cX9_countOf 22 = .ok (.invokevirtual 87, 3) := by decide +kernel
theorem dX9_countOf_25 : decode cX9_countOf 25 = .ok (.ifCond .eq 18, 3) := by decide +kernel
theorem dX9_countOf_28 : decode cX9_countOf 28 = .ok (.aload_n 0, 1) := by decide +kernel
theorem dX9_countOf_29 : decode cX9_countOf 29 = .ok (.iload 4, 2) := by decide +kernel
theorem dX9_countOf_31 : decode cX9_countOf 31 = .ok (.iconst 4, 1) := by decide +kernel
theorem dX9_countOf_32 : decode cX9_countOf 32 = .ok (.invokevirtual 36, 3) := by decide +kernel
theorem dX9_countOf_35 : decode cX9_countOf 35 = .ok (.iload_n 1, 1) := by decide +kernel
theorem dX9_countOf_36 : decode cX9_countOf 36 = .ok (.if_icmp .ne 7, 3) := by decide +kernel
theorem dX9_countOf_39 : decode cX9_countOf 39 = .ok (.iconst 1, 1) := by decide +kernel
theorem dX9_countOf_40 : decode cX9_countOf 40 = .ok (.goto 4, 3) := by decide +kernel
theorem dX9_countOf_43 : decode cX9_countOf 43 = .ok (.iconst 0, 1) := by decide +kernel
theorem dX9_countOf_44 : decode cX9_countOf 44 = .ok (.iadd, 1) := by decide +kernel
theorem dX9_countOf_45 : decode cX9_countOf 45 = .ok (.istore_n 3, 1) := by decide +kernel
theorem dX9_countOf_46 : decode cX9_countOf 46 = .ok (.iinc 4 1, 3) := by decide +kernel
theorem dX9_countOf_49 : decode cX9_countOf 49 = .ok (.goto (-44), 3) := by decide +kernel
theorem dX9_countOf_52 : decode cX9_countOf 52 = .ok (.iload_n 3, 1) := by decide +kernel
theorem dX9_countOf_53 : decode cX9_countOf 53 = .ok (.ireturn, 1) := by decide +kernel
theorem dX9_busy_0 : decode cX9_busy 0 = .ok (.aload_n 0, 1) := by decide +kernel
theorem dX9_busy_1 : decode cX9_busy 1 = .ok (.iload_n 1, 1) := by decide +kernel
theorem dX9_busy_2 : decode cX9_busy 2 = .ok (.iconst 1, 1) := by decide +kernel
theorem dX9_busy_3 : decode cX9_busy 3 = .ok (.invokevirtual 141, 3) := by decide +kernel
theorem dX9_busy_6 : decode cX9_busy 6 = .ok (.ireturn, 1) := by decide +kernel
theorem dX9_timeLeft_0 : decode cX9_timeLeft 0 = .ok (.aload_n 0, 1) := by decide +kernel
theorem dX9_timeLeft_1 : decode cX9_timeLeft 1 = .ok (.iload_n 1, 1) := by decide +kernel
theorem dX9_timeLeft_2 : decode cX9_timeLeft 2 = .ok (.iconst 1, 1) := by decide +kernel
theorem dX9_timeLeft_3 : decode cX9_timeLeft 3 = .ok (.invokevirtual 144, 3) := by decide +kernel
theorem dX9_timeLeft_6 : decode cX9_timeLeft 6 = .ok (.aload_n 0, 1) := by decide +kernel
theorem dX9_timeLeft_7 : decode cX9_timeLeft 7 = .ok (.iload_n 1, 1) := by decide +kernel
theorem dX9_timeLeft_8 : decode cX9_timeLeft 8 = .ok (.bipush 8, 2) := by decide +kernel
theorem dX9_timeLeft_10 : decode cX9_timeLeft 10 = .ok (.invokevirtual 36, 3) := by decide +kernel
theorem dX9_timeLeft_13 : decode cX9_timeLeft 13 = .ok (.isub, 1) := by decide +kernel
theorem dX9_timeLeft_14 : decode cX9_timeLeft 14 = .ok (.ireturn, 1) := by decide +kernel
theorem dX9_mostUrgent_0 : decode cX9_mostUrgent 0 = .ok (.iconst (-1), 1) := by decide +kernel
theorem dX9_mostUrgent_1 : decode cX9_mostUrgent 1 = .ok (.istore_n 2, 1) := by decide +kernel
theorem dX9_mostUrgent_2 : decode cX9_mostUrgent 2 = .ok (.iconst 0, 1) := by decide +kernel
theorem dX9_mostUrgent_3 : decode cX9_mostUrgent 3 = .ok (.istore_n 3, 1) := by decide +kernel
theorem dX9_mostUrgent_4 : decode cX9_mostUrgent 4 = .ok (.iload_n 3, 1) := by decide +kernel
theorem dX9_mostUrgent_5 : decode cX9_mostUrgent 5 = .ok (.aload_n 0, 1) := by decide +kernel
theorem dX9_mostUrgent_6 : decode cX9_mostUrgent 6 = .ok (.getfield 7, 3) := by decide +kernel
theorem dX9_mostUrgent_9 : decode cX9_mostUrgent 9 = .ok (.bipush 56, 2) := by decide +kernel
theorem dX9_mostUrgent_11 : decode cX9_mostUrgent 11 = .ok (.iaload, 1) := by decide +kernel
theorem dX9_mostUrgent_12 : decode cX9_mostUrgent 12 = .ok (.if_icmp .ge 99, 3) := by decide +kernel
theorem dX9_mostUrgent_15 : decode cX9_mostUrgent 15 = .ok (.aload_n 0, 1) := by decide +kernel
theorem dX9_mostUrgent_16 : decode cX9_mostUrgent 16 = .ok (.iload_n 3, 1) := by decide +kernel
theorem dX9_mostUrgent_17 : decode cX9_mostUrgent 17 = .ok (.iconst 0, 1) := by decide +kernel
theorem dX9_mostUrgent_18 : decode cX9_mostUrgent 18 = .ok (.invokevirtual 87, 3) := by decide +kernel
theorem dX9_mostUrgent_21 : decode cX9_mostUrgent 21 = .ok (.ifCond .eq 84, 3) := by decide +kernel
theorem dX9_mostUrgent_24 : decode cX9_mostUrgent 24 = .ok (.aload_n 0, 1) := by decide +kernel
theorem dX9_mostUrgent_25 : decode cX9_mostUrgent 25 = .ok (.iload_n 3, 1) := by decide +kernel
theorem dX9_mostUrgent_26 : decode cX9_mostUrgent 26 = .ok (.iconst 4, 1) := by decide +kernel
theorem dX9_mostUrgent_27 : decode cX9_mostUrgent 27 = .ok (.invokevirtual 36, 3) := by decide +kernel
theorem dX9_mostUrgent_30 : decode cX9_mostUrgent 30 = .ok (.iload_n 1, 1) := by decide +kernel
theorem dX9_mostUrgent_31 : decode cX9_mostUrgent 31 = .ok (.if_icmp .eq 6, 3) := by decide +kernel
theorem dX9_mostUrgent_34 : decode cX9_mostUrgent 34 = .ok (.goto 71, 3) := by decide +kernel
theorem dX9_mostUrgent_37 : decode cX9_mostUrgent 37 = .ok (.iload_n 2, 1) := by decide +kernel
theorem dX9_mostUrgent_38 : decode cX9_mostUrgent 38 = .ok (.iconst (-1), 1) := by decide +kernel
theorem dX9_mostUrgent_39 : decode cX9_mostUrgent 39 = .ok (.if_icmp .ne 8, 3) := by decide +kernel
theorem dX9_mostUrgent_42 : decode cX9_mostUrgent 42 = .ok (.iload_n 3, 1) := by decide +kernel
theorem dX9_mostUrgent_43 : decode cX9_mostUrgent 43 = .ok (.istore_n 2, 1) := by decide +kernel
theorem dX9_mostUrgent_44 : decode cX9_mostUrgent 44 = .ok (.goto 61, 3) := by decide +kernel
theorem dX9_mostUrgent_47 : decode cX9_mostUrgent 47 = .ok (.aload_n 0, 1) := by decide +kernel
theorem dX9_mostUrgent_48 : decode cX9_mostUrgent 48 = .ok (.iload_n 3, 1) := by decide +kernel
theorem dX9_mostUrgent_49 : decode cX9_mostUrgent 49 = .ok (.iconst 3, 1) := by decide +kernel
theorem dX9_mostUrgent_50 : decode cX9_mostUrgent 50 = .ok (.invokevirtual 36, 3) := by decide +kernel
theorem dX9_mostUrgent_53 : decode cX9_mostUrgent 53 = .ok (.aload_n 0, 1) := by decide +kernel
theorem dX9_mostUrgent_54 : decode cX9_mostUrgent 54 = .ok (.iload_n 2, 1) := by decide +kernel
theorem dX9_mostUrgent_55 : decode cX9_mostUrgent 55 = .ok (.iconst 3, 1) := by decide +kernel
theorem dX9_mostUrgent_56 : decode cX9_mostUrgent 56 = .ok (.invokevirtual 36, 3) := by decide +kernel
theorem dX9_mostUrgent_59 : decode cX9_mostUrgent 59 = .ok (.if_icmp .eq 27, 3) := by decide +kernel
theorem dX9_mostUrgent_62 : decode cX9_mostUrgent 62 = .ok (.aload_n 0, 1) := by decide +kernel
theorem dX9_mostUrgent_63 : decode cX9_mostUrgent 63 = .ok (.iload_n 3, 1) := by decide +kernel
theorem dX9_mostUrgent_64 : decode cX9_mostUrgent 64 = .ok (.iconst 3, 1) := by decide +kernel
theorem dX9_mostUrgent_65 : decode cX9_mostUrgent 65 = .ok (.invokevirtual 36, 3) := by decide +kernel
theorem dX9_mostUrgent_68 : decode cX9_mostUrgent 68 = .ok (.aload_n 0, 1) := by decide +kernel
theorem dX9_mostUrgent_69 : decode cX9_mostUrgent 69 = .ok (.iload_n 2, 1) := by decide +kernel
theorem dX9_mostUrgent_70 : decode cX9_mostUrgent 70 = .ok (.iconst 3, 1) := by decide +kernel
theorem dX9_mostUrgent_71 : decode cX9_mostUrgent 71 = .ok (.invokevirtual 36, 3) := by decide +kernel
theorem dX9_mostUrgent_74 : decode cX9_mostUrgent 74 = .ok (.if_icmp .le 7, 3) := by decide +kernel
theorem dX9_mostUrgent_77 : decode cX9_mostUrgent 77 = .ok (.iload_n 3, 1) := by decide +kernel
theorem dX9_mostUrgent_78 : decode cX9_mostUrgent 78 = .ok (.goto 4, 3) := by decide +kernel
theorem dX9_mostUrgent_81 : decode cX9_mostUrgent 81 = .ok (.iload_n 2, 1) := by decide +kernel
theorem dX9_mostUrgent_82 : decode cX9_mostUrgent 82 = .ok (.istore_n 2, 1) := by decide +kernel
theorem dX9_mostUrgent_83 : decode cX9_mostUrgent 83 = .ok (.goto 22, 3) := by decide +kernel
theorem dX9_mostUrgent_86 : decode cX9_mostUrgent 86 = .ok (.aload_n 0, 1) := by decide +kernel
theorem dX9_mostUrgent_87 : decode cX9_mostUrgent 87 = .ok (.iload_n 3, 1) := by decide +kernel
theorem dX9_mostUrgent_88 : decode cX9_mostUrgent 88 = .ok (.invokevirtual 147, 3) := by decide +kernel
theorem dX9_mostUrgent_91 : decode cX9_mostUrgent 91 = .ok (.aload_n 0, 1) := by decide +kernel
theorem dX9_mostUrgent_92 : decode cX9_mostUrgent 92 = .ok (.iload_n 2, 1) := by decide +kernel
theorem dX9_mostUrgent_93 : decode cX9_mostUrgent 93 = .ok (.invokevirtual 147, 3) := by decide +kernel
theorem dX9_mostUrgent_96 : decode cX9_mostUrgent 96 = .ok (.if_icmp .ge 7, 3) := by decide +kernel
theorem dX9_mostUrgent_99 : decode cX9_mostUrgent 99 = .ok (.iload_n 3, 1) := by decide +kernel
theorem dX9_mostUrgent_100 : decode cX9_mostUrgent 100 = .ok (.goto 4, 3) := by decide +kernel
theorem dX9_mostUrgent_103 : decode cX9_mostUrgent 103 = .ok (.iload_n 2, 1) := by decide +kernel
theorem dX9_mostUrgent_104 : decode cX9_mostUrgent 104 = .ok (.istore_n 2, 1) := by decide +kernel
theorem dX9_mostUrgent_105 : decode cX9_mostUrgent 105 = .ok (.iinc 3 1, 3) := by decide +kernel
theorem dX9_mostUrgent_108 : decode cX9_mostUrgent 108 = .ok (.goto (-104), 3) := by decide +kernel
theorem dX9_mostUrgent_111 : decode cX9_mostUrgent 111 = .ok (.iload_n 2, 1) := by decide +kernel
theorem dX9_mostUrgent_112 : decode cX9_mostUrgent 112 = .ok (.ireturn, 1) := by decide +kernel
theorem dX9_takeTickets_0 : decode cX9_takeTickets 0 = .ok (.aload_n 0, 1) := by decide +kernel
theorem dX9_takeTickets_1 : decode cX9_takeTickets 1 = .ok (.getfield 7, 3) := by decide +kernel
theorem dX9_takeTickets_4 : decode cX9_takeTickets 4 = .ok (.bipush 15, 2) := by decide +kernel
theorem dX9_takeTickets_6 : decode cX9_takeTickets 6 = .ok (.iload_n 1, 1) := by decide +kernel
theorem dX9_takeTickets_7 : decode cX9_takeTickets 7 = .ok (.iadd, 1) := by decide +kernel
theorem dX9_takeTickets_8 : decode cX9_takeTickets 8 = .ok (.iaload, 1) := by decide +kernel
theorem dX9_takeTickets_9 : decode cX9_takeTickets 9 = .ok (.aload_n 0, 1) := by decide +kernel
theorem dX9_takeTickets_10 : decode cX9_takeTickets 10 = .ok (.iload_n 1, 1) := by decide +kernel
theorem dX9_takeTickets_11 : decode cX9_takeTickets 11 = .ok (.invokevirtual 121, 3) := by decide +kernel
theorem dX9_takeTickets_14 : decode cX9_takeTickets 14 = .ok (.isub, 1) := by decide +kernel
theorem dX9_takeTickets_15 : decode cX9_takeTickets 15 = .ok (.istore_n 2, 1) := by decide +kernel
theorem dX9_takeTickets_16 : decode cX9_takeTickets 16 = .ok (.iload_n 2, 1) := by decide +kernel
theorem dX9_takeTickets_17 : decode cX9_takeTickets 17 = .ok (.ifCond .le 11, 3) := by decide +kernel
theorem dX9_takeTickets_20 : decode cX9_takeTickets 20 = .ok (.aload_n 0, 1) := by decide +kernel
theorem dX9_takeTickets_21 : decode cX9_takeTickets 21 = .ok (.iload_n 1, 1) := by decide +kernel
theorem dX9_takeTickets_22 : decode cX9_takeTickets 22 = .ok (.invokevirtual 150, 3) := by decide +kernel
theorem dX9_takeTickets_25 : decode cX9_takeTickets 25 = .ok (.goto 4, 3) := by decide +kernel
theorem dX9_takeTickets_28 : decode cX9_takeTickets 28 = .ok (.iconst (-1), 1) := by decide +kernel
theorem dX9_takeTickets_29 : decode cX9_takeTickets 29 = .ok (.istore_n 3, 1) := by decide +kernel
theorem dX9_takeTickets_30 : decode cX9_takeTickets 30 = .ok (.iload_n 3, 1) := by decide +kernel
theorem dX9_takeTickets_31 : decode cX9_takeTickets 31 = .ok (.iconst (-1), 1) := by decide +kernel
theorem dX9_takeTickets_32 : decode cX9_takeTickets 32 = .ok (.if_icmp .eq 68, 3) := by decide +kernel
theorem dX9_takeTickets_35 : decode cX9_takeTickets 35 = .ok (.aload_n 0, 1) := by decide +kernel
theorem dX9_takeTickets_36 : decode cX9_takeTickets 36 = .ok (.iload_n 3, 1) := by decide +kernel
theorem dX9_takeTickets_37 : decode cX9_takeTickets 37 = .ok (.bipush 9, 2) := by decide +kernel
theorem dX9_takeTickets_39 : decode cX9_takeTickets 39 = .ok (.iconst 1, 1) := by decide +kernel
theorem dX9_takeTickets_40 : decode cX9_takeTickets 40 = .ok (.invokevirtual 96, 3) := by decide +kernel
theorem dX9_takeTickets_43 : decode cX9_takeTickets 43 = .ok (.aload_n 0, 1) := by decide +kernel
theorem dX9_takeTickets_44 : decode cX9_takeTickets 44 = .ok (.iload_n 3, 1) := by decide +kernel
theorem dX9_takeTickets_45 : decode cX9_takeTickets 45 = .ok (.bipush 12, 2) := by decide +kernel
theorem dX9_takeTickets_47 : decode cX9_takeTickets 47 = .ok (.invokevirtual 36, 3) := by decide +kernel
theorem dX9_takeTickets_50 : decode cX9_takeTickets 50 = .ok (.iconst (-1), 1) := by decide +kernel
theorem dX9_takeTickets_51 : decode cX9_takeTickets 51 = .ok (.if_icmp .ne 16, 3) := by decide +kernel
theorem dX9_takeTickets_54 : decode cX9_takeTickets 54 = .ok (.aload_n 0, 1) := by decide +kernel
theorem dX9_takeTickets_55 : decode cX9_takeTickets 55 = .ok (.iload_n 3, 1) := by decide +kernel
theorem dX9_takeTickets_56 : decode cX9_takeTickets 56 = .ok (.bipush 12, 2) := by decide +kernel
theorem dX9_takeTickets_58 : decode cX9_takeTickets 58 = .ok (.aload_n 0, 1) := by decide +kernel
theorem dX9_takeTickets_59 : decode cX9_takeTickets 59 = .ok (.getfield 7, 3) := by decide +kernel
theorem dX9_takeTickets_62 : decode cX9_takeTickets 62 = .ok (.iconst 0, 1) := by decide +kernel
theorem dX9_takeTickets_63 : decode cX9_takeTickets 63 = .ok (.iaload, 1) := by decide +kernel
theorem dX9_takeTickets_64 : decode cX9_takeTickets 64 = .ok (.invokevirtual 96, 3) := by decide +kernel
theorem dX9_takeTickets_67 : decode cX9_takeTickets 67 = .ok (.aload_n 0, 1) := by decide +kernel
theorem dX9_takeTickets_68 : decode cX9_takeTickets 68 = .ok (.aload_n 0, 1) := by decide +kernel
theorem dX9_takeTickets_69 : decode cX9_takeTickets 69 = .ok (.getfield 7, 3) := by decide +kernel
theorem dX9_takeTickets_72 : decode cX9_takeTickets 72 = .ok (.iconst 0, 1) := by decide +kernel
theorem dX9_takeTickets_73 : decode cX9_takeTickets 73 = .ok (.iaload, 1) := by decide +kernel
theorem dX9_takeTickets_74 : decode cX9_takeTickets 74 = .ok (.iconst 1, 1) := by decide +kernel
theorem dX9_takeTickets_75 : decode cX9_takeTickets 75 = .ok (.iload_n 3, 1) := by decide +kernel
theorem dX9_takeTickets_76 : decode cX9_takeTickets 76 = .ok (.iload_n 1, 1) := by decide +kernel
theorem dX9_takeTickets_77 : decode cX9_takeTickets 77 = .ok (.invokevirtual 100, 3) := by decide +kernel
theorem dX9_takeTickets_80 : decode cX9_takeTickets 80 = .ok (.iinc 2 (-1), 3) := by decide +kernel
theorem dX9_takeTickets_83 : decode cX9_takeTickets 83 = .ok (.iload_n 2, 1) := by decide +kernel
theorem dX9_takeTickets_84 : decode cX9_takeTickets 84 = .ok (.ifCond .le 11, 3) := by decide +kernel
theorem dX9_takeTickets_87 : decode cX9_takeTickets 87 = .ok (.aload_n 0, 1) := by decide +kernel
theorem dX9_takeTickets_88 : decode cX9_takeTickets 88 = .ok (.iload_n 1, 1) := by decide +kernel
theorem dX9_takeTickets_89 : decode cX9_takeTickets 89 = .ok (.invokevirtual 150, 3) := by decide +kernel
theorem dX9_takeTickets_92 : decode cX9_takeTickets 92 = .ok (.goto 4, 3) := by decide +kernel
theorem dX9_takeTickets_95 : decode cX9_takeTickets 95 = .ok (.iconst (-1), 1) := by decide +kernel
theorem dX9_takeTickets_96 : decode cX9_takeTickets 96 = .ok (.istore_n 3, 1) := by decide +kernel
theorem dX9_takeTickets_97 : decode cX9_takeTickets 97 = .ok (.goto (-67), 3) := by decide +kernel
theorem dX9_takeTickets_100 : decode cX9_takeTickets 100 = .ok (.return_, 1) := by decide +kernel
theorem dX9_runsResponse_0 : decode cX9_runsResponse 0 = .ok (.aload_n 0, 1) := by decide +kernel
theorem dX9_runsResponse_1 : decode cX9_runsResponse 1 = .ok (.iload_n 1, 1) := by decide +kernel
theorem dX9_runsResponse_2 : decode cX9_runsResponse 2 = .ok (.bipush 12, 2) := by decide +kernel
theorem dX9_runsResponse_4 : decode cX9_runsResponse 4 = .ok (.invokevirtual 36, 3) := by decide +kernel
theorem dX9_runsResponse_7 : decode cX9_runsResponse 7 = .ok (.iconst (-1), 1) := by decide +kernel
theorem dX9_runsResponse_8 : decode cX9_runsResponse 8 = .ok (.if_icmp .eq 5, 3) := by decide +kernel
theorem dX9_runsResponse_11 : decode cX9_runsResponse 11 = .ok (.iconst 0, 1) := by decide +kernel
theorem dX9_runsResponse_12 : decode cX9_runsResponse 12 = .ok (.ireturn, 1) := by decide +kernel
theorem dX9_runsResponse_13 : decode cX9_runsResponse 13 = .ok (.aload_n 0, 1) := by decide +kernel
theorem dX9_runsResponse_14 : decode cX9_runsResponse 14 = .ok (.iload_n 1, 1) := by decide +kernel
theorem dX9_runsResponse_15 : decode cX9_runsResponse 15 = .ok (.iconst 0, 1) := by decide +kernel
theorem dX9_runsResponse_16 : decode cX9_runsResponse 16 = .ok (.invokevirtual 87, 3) := by decide +kernel
theorem dX9_runsResponse_19 : decode cX9_runsResponse 19 = .ok (.ifCond .ne 38, 3) := by decide +kernel
theorem dX9_runsResponse_22 : decode cX9_runsResponse 22 = .ok (.aload_n 0, 1) := by decide +kernel
theorem dX9_runsResponse_23 : decode cX9_runsResponse 23 = .ok (.iload_n 1, 1) := by decide +kernel
theorem dX9_runsResponse_24 : decode cX9_runsResponse 24 = .ok (.iconst 2, 1) := by decide +kernel
theorem dX9_runsResponse_25 : decode cX9_runsResponse 25 = .ok (.invokevirtual 87, 3) := by decide +kernel
theorem dX9_runsResponse_28 : decode cX9_runsResponse 28 = .ok (.ifCond .ne 29, 3) := by decide +kernel
theorem dX9_runsResponse_31 : decode cX9_runsResponse 31 = .ok (.aload_n 0, 1) := by decide +kernel
theorem dX9_runsResponse_32 : decode cX9_runsResponse 32 = .ok (.iload_n 1, 1) := by decide +kernel
theorem dX9_runsResponse_33 : decode cX9_runsResponse 33 = .ok (.iconst 4, 1) := by decide +kernel
theorem dX9_runsResponse_34 : decode cX9_runsResponse 34 = .ok (.invokevirtual 87, 3) := by decide +kernel
theorem dX9_runsResponse_37 : decode cX9_runsResponse 37 = .ok (.ifCond .eq 24, 3) := by decide +kernel
theorem dX9_runsResponse_40 : decode cX9_runsResponse 40 = .ok (.aload_n 0, 1) := by decide +kernel
theorem dX9_runsResponse_41 : decode cX9_runsResponse 41 = .ok (.aload_n 0, 1) := by decide +kernel
theorem dX9_runsResponse_42 : decode cX9_runsResponse 42 = .ok (.iload_n 1, 1) := by decide +kernel
theorem dX9_runsResponse_43 : decode cX9_runsResponse 43 = .ok (.bipush 10, 2) := by decide +kernel
theorem dX9_runsResponse_45 : decode cX9_runsResponse 45 = .ok (.invokevirtual 36, 3) := by decide +kernel
theorem dX9_runsResponse_48 : decode cX9_runsResponse 48 = .ok (.bipush 12, 2) := by decide +kernel
theorem dX9_runsResponse_50 : decode cX9_runsResponse 50 = .ok (.invokevirtual 36, 3) := by decide +kernel
theorem dX9_runsResponse_53 : decode cX9_runsResponse 53 = .ok (.iconst (-1), 1) := by decide +kernel
theorem dX9_runsResponse_54 : decode cX9_runsResponse 54 = .ok (.if_icmp .ne 7, 3) := by decide +kernel
theorem dX9_runsResponse_57 : decode cX9_runsResponse 57 = .ok (.iconst 1, 1) := by decide +kernel
theorem dX9_runsResponse_58 : decode cX9_runsResponse 58 = .ok (.goto 4, 3) := by decide +kernel
theorem dX9_runsResponse_61 : decode cX9_runsResponse 61 = .ok (.iconst 0, 1) := by decide +kernel
theorem dX9_runsResponse_62 : decode cX9_runsResponse 62 = .ok (.ireturn, 1) := by decide +kernel
theorem dX9_runsResolve_0 : decode cX9_runsResolve 0 = .ok (.aload_n 0, 1) := by decide +kernel
theorem dX9_runsResolve_1 : decode cX9_runsResolve 1 = .ok (.iload_n 1, 1) := by decide +kernel
theorem dX9_runsResolve_2 : decode cX9_runsResolve 2 = .ok (.iconst 4, 1) := by decide +kernel
theorem dX9_runsResolve_3 : decode cX9_runsResolve 3 = .ok (.invokevirtual 87, 3) := by decide +kernel
theorem dX9_runsResolve_6 : decode cX9_runsResolve 6 = .ok (.ifCond .eq 19, 3) := by decide +kernel
theorem dX9_runsResolve_9 : decode cX9_runsResolve 9 = .ok (.aload_n 0, 1) := by decide +kernel
theorem dX9_runsResolve_10 : decode cX9_runsResolve 10 = .ok (.aload_n 0, 1) := by decide +kernel
theorem dX9_runsResolve_11 : decode cX9_runsResolve 11 = .ok (.iload_n 1, 1) := by decide +kernel
theorem dX9_runsResolve_12 : decode cX9_runsResolve 12 = .ok (.bipush 10, 2) := by decide +kernel
theorem dX9_runsResolve_14 : decode cX9_runsResolve 14 = .ok (.invokevirtual 36, 3) := by decide +kernel
theorem dX9_runsResolve_17 : decode cX9_runsResolve 17 = .ok (.bipush 9, 2) := by decide +kernel
theorem dX9_runsResolve_19 : decode cX9_runsResolve 19 = .ok (.invokevirtual 36, 3) := by decide +kernel
theorem dX9_runsResolve_22 : decode cX9_runsResolve 22 = .ok (.goto 10, 3) := by decide +kernel
theorem dX9_runsResolve_25 : decode cX9_runsResolve 25 = .ok (.aload_n 0, 1) := by decide +kernel
theorem dX9_runsResolve_26 : decode cX9_runsResolve 26 = .ok (.iload_n 1, 1) := by decide +kernel
theorem dX9_runsResolve_27 : decode cX9_runsResolve 27 = .ok (.bipush 9, 2) := by decide +kernel
theorem dX9_runsResolve_29 : decode cX9_runsResolve 29 = .ok (.invokevirtual 36, 3) := by decide +kernel
theorem dX9_runsResolve_32 : decode cX9_runsResolve 32 = .ok (.istore_n 2, 1) := by decide +kernel
theorem dX9_runsResolve_33 : decode cX9_runsResolve 33 = .ok (.iload_n 2, 1) := by decide +kernel
theorem dX9_runsResolve_34 : decode cX9_runsResolve 34 = .ok (.ifCond .eq 8, 3) := by decide +kernel
theorem dX9_runsResolve_37 : decode cX9_runsResolve 37 = .ok (.iload_n 2, 1) := by decide +kernel
theorem dX9_runsResolve_38 : decode cX9_runsResolve 38 = .ok (.iconst 1, 1) := by decide +kernel
theorem dX9_runsResolve_39 : decode cX9_runsResolve 39 = .ok (.if_icmp .ne 7, 3) := by decide +kernel
theorem dX9_runsResolve_42 : decode cX9_runsResolve 42 = .ok (.iconst 1, 1) := by decide +kernel
theorem dX9_runsResolve_43 : decode cX9_runsResolve 43 = .ok (.goto 4, 3) := by decide +kernel
theorem dX9_runsResolve_46 : decode cX9_runsResolve 46 = .ok (.iconst 0, 1) := by decide +kernel
theorem dX9_runsResolve_47 : decode cX9_runsResolve 47 = .ok (.ireturn, 1) := by decide +kernel
theorem dX9_grow_0 : decode cX9_grow 0 = .ok (.aload_n 0, 1) := by decide +kernel
theorem dX9_grow_1 : decode cX9_grow 1 = .ok (.iload_n 1, 1) := by decide +kernel
theorem dX9_grow_2 : decode cX9_grow 2 = .ok (.iload_n 2, 1) := by decide +kernel
theorem dX9_grow_3 : decode cX9_grow 3 = .ok (.aload_n 0, 1) := by decide +kernel
theorem dX9_grow_4 : decode cX9_grow 4 = .ok (.iload_n 1, 1) := by decide +kernel
theorem dX9_grow_5 : decode cX9_grow 5 = .ok (.iload_n 2, 1) := by decide +kernel
theorem dX9_grow_6 : decode cX9_grow 6 = .ok (.invokevirtual 36, 3) := by decide +kernel
theorem dX9_grow_9 : decode cX9_grow 9 = .ok (.iconst 1, 1) := by decide +kernel
theorem dX9_grow_10 : decode cX9_grow 10 = .ok (.iadd, 1) := by decide +kernel
theorem dX9_grow_11 : decode cX9_grow 11 = .ok (.invokevirtual 96, 3) := by decide +kernel
theorem dX9_grow_14 : decode cX9_grow 14 = .ok (.return_, 1) := by decide +kernel
theorem dX9_noteBreach_0 : decode cX9_noteBreach 0 = .ok (.aload_n 0, 1) := by decide +kernel
theorem dX9_noteBreach_1 : decode cX9_noteBreach 1 = .ok (.iload_n 1, 1) := by decide +kernel
theorem dX9_noteBreach_2 : decode cX9_noteBreach 2 = .ok (.iload_n 3, 1) := by decide +kernel
theorem dX9_noteBreach_3 : decode cX9_noteBreach 3 = .ok (.invokevirtual 36, 3) := by decide +kernel
theorem dX9_noteBreach_6 : decode cX9_noteBreach 6 = .ok (.ifCond .ne 48, 3) := by decide +kernel
theorem dX9_noteBreach_9 : decode cX9_noteBreach 9 = .ok (.aload_n 0, 1) := by decide +kernel
theorem dX9_noteBreach_10 : decode cX9_noteBreach 10 = .ok (.iload_n 1, 1) := by decide +kernel
theorem dX9_noteBreach_11 : decode cX9_noteBreach 11 = .ok (.iload_n 2, 1) := by decide +kernel
theorem dX9_noteBreach_12 : decode cX9_noteBreach 12 = .ok (.invokevirtual 36, 3) := by decide +kernel
theorem dX9_noteBreach_15 : decode cX9_noteBreach 15 = .ok (.aload_n 0, 1) := by decide +kernel
theorem dX9_noteBreach_16 : decode cX9_noteBreach 16 = .ok (.iload_n 1, 1) := by decide +kernel
theorem dX9_noteBreach_17 : decode cX9_noteBreach 17 = .ok (.iload 4, 2) := by decide +kernel
theorem dX9_noteBreach_19 : decode cX9_noteBreach 19 = .ok (.invokevirtual 144, 3) := by decide +kernel
theorem dX9_noteBreach_22 : decode cX9_noteBreach 22 = .ok (.if_icmp .le 32, 3) := by decide +kernel
theorem dX9_noteBreach_25 : decode cX9_noteBreach 25 = .ok (.aload_n 0, 1) := by decide +kernel
theorem dX9_noteBreach_26 : decode cX9_noteBreach 26 = .ok (.iload_n 1, 1) := by decide +kernel
theorem dX9_noteBreach_27 : decode cX9_noteBreach 27 = .ok (.iload_n 3, 1) := by decide +kernel
theorem dX9_noteBreach_28 : decode cX9_noteBreach 28 = .ok (.iconst 1, 1) := by decide +kernel
theorem dX9_noteBreach_29 : decode cX9_noteBreach 29 = .ok (.invokevirtual 96, 3) := by decide +kernel
theorem dX9_noteBreach_32 : decode cX9_noteBreach 32 = .ok (.aload_n 0, 1) := by decide +kernel
theorem dX9_noteBreach_33 : decode cX9_noteBreach 33 = .ok (.aload_n 0, 1) := by decide +kernel
theorem dX9_noteBreach_34 : decode cX9_noteBreach 34 = .ok (.getfield 7, 3) := by decide +kernel
theorem dX9_noteBreach_37 : decode cX9_noteBreach 37 = .ok (.iconst 0, 1) := by decide +kernel
theorem dX9_noteBreach_38 : decode cX9_noteBreach 38 = .ok (.iaload, 1) := by decide +kernel
theorem dX9_noteBreach_39 : decode cX9_noteBreach 39 = .ok (.iconst 1, 1) := by decide +kernel
theorem dX9_noteBreach_40 : decode cX9_noteBreach 40 = .ok (.iadd, 1) := by decide +kernel
theorem dX9_noteBreach_41 : decode cX9_noteBreach 41 = .ok (.iload 5, 2) := by decide +kernel
theorem dX9_noteBreach_43 : decode cX9_noteBreach 43 = .ok (.iload_n 1, 1) := by decide +kernel
theorem dX9_noteBreach_44 : decode cX9_noteBreach 44 = .ok (.aload_n 0, 1) := by decide +kernel
theorem dX9_noteBreach_45 : decode cX9_noteBreach 45 = .ok (.iload_n 1, 1) := by decide +kernel
theorem dX9_noteBreach_46 : decode cX9_noteBreach 46 = .ok (.iload 4, 2) := by decide +kernel
theorem dX9_noteBreach_48 : decode cX9_noteBreach 48 = .ok (.invokevirtual 144, 3) := by decide +kernel
theorem dX9_noteBreach_51 : decode cX9_noteBreach 51 = .ok (.invokevirtual 100, 3) := by decide +kernel
theorem dX9_noteBreach_54 : decode cX9_noteBreach 54 = .ok (.return_, 1) := by decide +kernel
theorem dX9_runClocks_0 : decode cX9_runClocks 0 = .ok (.aload_n 0, 1) := by decide +kernel
theorem dX9_runClocks_1 : decode cX9_runClocks 1 = .ok (.iload_n 1, 1) := by decide +kernel
theorem dX9_runClocks_2 : decode cX9_runClocks 2 = .ok (.invokevirtual 153, 3) := by decide +kernel
theorem dX9_runClocks_5 : decode cX9_runClocks 5 = .ok (.istore_n 2, 1) := by decide +kernel
theorem dX9_runClocks_6 : decode cX9_runClocks 6 = .ok (.aload_n 0, 1) := by decide +kernel
theorem dX9_runClocks_7 : decode cX9_runClocks 7 = .ok (.iload_n 1, 1) := by decide +kernel
theorem dX9_runClocks_8 : decode cX9_runClocks 8 = .ok (.invokevirtual 156, 3) := by decide +kernel
theorem dX9_runClocks_11 : decode cX9_runClocks 11 = .ok (.istore_n 3, 1) := by decide +kernel
theorem dX9_runClocks_12 : decode cX9_runClocks 12 = .ok (.aload_n 0, 1) := by decide +kernel
theorem dX9_runClocks_13 : decode cX9_runClocks 13 = .ok (.iload_n 1, 1) := by decide +kernel
theorem dX9_runClocks_14 : decode cX9_runClocks 14 = .ok (.iconst 0, 1) := by decide +kernel
theorem dX9_runClocks_15 : decode cX9_runClocks 15 = .ok (.invokevirtual 87, 3) := by decide +kernel
theorem dX9_runClocks_18 : decode cX9_runClocks 18 = .ok (.ifCond .eq 10, 3) := by decide +kernel
theorem dX9_runClocks_21 : decode cX9_runClocks 21 = .ok (.aload_n 0, 1) := by decide +kernel
theorem dX9_runClocks_22 : decode cX9_runClocks 22 = .ok (.iload_n 1, 1) := by decide +kernel
theorem dX9_runClocks_23 : decode cX9_runClocks 23 = .ok (.bipush 6, 2) := by decide +kernel
theorem dX9_runClocks_25 : decode cX9_runClocks 25 = .ok (.invokevirtual 159, 3) := by decide +kernel
theorem dX9_runClocks_28 : decode cX9_runClocks 28 = .ok (.iload_n 2, 1) := by decide +kernel
theorem dX9_runClocks_29 : decode cX9_runClocks 29 = .ok (.ifCond .eq 22, 3) := by decide +kernel
theorem dX9_runClocks_32 : decode cX9_runClocks 32 = .ok (.aload_n 0, 1) := by decide +kernel
theorem dX9_runClocks_33 : decode cX9_runClocks 33 = .ok (.iload_n 1, 1) := by decide +kernel
theorem dX9_runClocks_34 : decode cX9_runClocks 34 = .ok (.bipush 7, 2) := by decide +kernel
theorem dX9_runClocks_36 : decode cX9_runClocks 36 = .ok (.invokevirtual 159, 3) := by decide +kernel
theorem dX9_runClocks_39 : decode cX9_runClocks 39 = .ok (.aload_n 0, 1) := by decide +kernel
theorem dX9_runClocks_40 : decode cX9_runClocks 40 = .ok (.iload_n 1, 1) := by decide +kernel
theorem dX9_runClocks_41 : decode cX9_runClocks 41 = .ok (.bipush 7, 2) := by decide +kernel
theorem dX9_runClocks_43 : decode cX9_runClocks 43 = .ok (.bipush 14, 2) := by decide +kernel
theorem dX9_runClocks_45 : decode cX9_runClocks 45 = .ok (.iconst 0, 1) := by decide +kernel
theorem dX9_runClocks_46 : decode cX9_runClocks 46 = .ok (.bipush 8, 2) := by decide +kernel
theorem dX9_runClocks_48 : decode cX9_runClocks 48 = .ok (.invokevirtual 162, 3) := by decide +kernel
theorem dX9_runClocks_51 : decode cX9_runClocks 51 = .ok (.iload_n 3, 1) := by decide +kernel
theorem dX9_runClocks_52 : decode cX9_runClocks 52 = .ok (.ifCond .eq 22, 3) := by decide +kernel
theorem dX9_runClocks_55 : decode cX9_runClocks 55 = .ok (.aload_n 0, 1) := by decide +kernel
theorem dX9_runClocks_56 : decode cX9_runClocks 56 = .ok (.iload_n 1, 1) := by decide +kernel
theorem dX9_runClocks_57 : decode cX9_runClocks 57 = .ok (.bipush 8, 2) := by decide +kernel
theorem dX9_runClocks_59 : decode cX9_runClocks 59 = .ok (.invokevirtual 159, 3) := by decide +kernel
theorem dX9_runClocks_62 : decode cX9_runClocks 62 = .ok (.aload_n 0, 1) := by decide +kernel
theorem dX9_runClocks_63 : decode cX9_runClocks 63 = .ok (.iload_n 1, 1) := by decide +kernel
theorem dX9_runClocks_64 : decode cX9_runClocks 64 = .ok (.bipush 8, 2) := by decide +kernel
theorem dX9_runClocks_66 : decode cX9_runClocks 66 = .ok (.bipush 15, 2) := by decide +kernel
theorem dX9_runClocks_68 : decode cX9_runClocks 68 = .ok (.iconst 1, 1) := by decide +kernel
theorem dX9_runClocks_69 : decode cX9_runClocks 69 = .ok (.bipush 9, 2) := by decide +kernel
theorem dX9_runClocks_71 : decode cX9_runClocks 71 = .ok (.invokevirtual 162, 3) := by decide +kernel
theorem dX9_runClocks_74 : decode cX9_runClocks 74 = .ok (.return_, 1) := by decide +kernel
theorem dX9_workOn_0 : decode cX9_workOn 0 = .ok (.aload_n 0, 1) := by decide +kernel
theorem dX9_workOn_1 : decode cX9_workOn 1 = .ok (.iload_n 1, 1) := by decide +kernel
theorem dX9_workOn_2 : decode cX9_workOn 2 = .ok (.iconst 5, 1) := by decide +kernel
theorem dX9_workOn_3 : decode cX9_workOn 3 = .ok (.invokevirtual 159, 3) := by decide +kernel
theorem dX9_workOn_6 : decode cX9_workOn 6 = .ok (.aload_n 0, 1) := by decide +kernel
theorem dX9_workOn_7 : decode cX9_workOn 7 = .ok (.iload_n 1, 1) := by decide +kernel
theorem dX9_workOn_8 : decode cX9_workOn 8 = .ok (.iconst 5, 1) := by decide +kernel
theorem dX9_workOn_9 : decode cX9_workOn 9 = .ok (.invokevirtual 36, 3) := by decide +kernel
theorem dX9_workOn_12 : decode cX9_workOn 12 = .ok (.aload_n 0, 1) := by decide +kernel
theorem dX9_workOn_13 : decode cX9_workOn 13 = .ok (.iload_n 1, 1) := by decide +kernel
theorem dX9_workOn_14 : decode cX9_workOn 14 = .ok (.iconst 2, 1) := by decide +kernel
theorem dX9_workOn_15 : decode cX9_workOn 15 = .ok (.invokevirtual 144, 3) := by decide +kernel
theorem dX9_workOn_18 : decode cX9_workOn 18 = .ok (.if_icmp .ge 5, 3) := by decide +kernel
theorem dX9_workOn_21 : decode cX9_workOn 21 = .ok (.iconst 0, 1) := by decide +kernel
theorem dX9_workOn_22 : decode cX9_workOn 22 = .ok (.ireturn, 1) := by decide +kernel
theorem dX9_workOn_23 : decode cX9_workOn 23 = .ok (.aload_n 0, 1) := by decide +kernel
theorem dX9_workOn_24 : decode cX9_workOn 24 = .ok (.iload_n 1, 1) := by decide +kernel
theorem dX9_workOn_25 : decode cX9_workOn 25 = .ok (.iconst 4, 1) := by decide +kernel
theorem dX9_workOn_26 : decode cX9_workOn 26 = .ok (.invokevirtual 36, 3) := by decide +kernel
theorem dX9_workOn_29 : decode cX9_workOn 29 = .ok (.aload_n 0, 1) := by decide +kernel
theorem dX9_workOn_30 : decode cX9_workOn 30 = .ok (.iload_n 1, 1) := by decide +kernel
theorem dX9_workOn_31 : decode cX9_workOn 31 = .ok (.iconst 3, 1) := by decide +kernel
theorem dX9_workOn_32 : decode cX9_workOn 32 = .ok (.invokevirtual 144, 3) := by decide +kernel
theorem dX9_workOn_35 : decode cX9_workOn 35 = .ok (.if_icmp .lt 17, 3) := by decide +kernel
theorem dX9_workOn_38 : decode cX9_workOn 38 = .ok (.aload_n 0, 1) := by decide +kernel
theorem dX9_workOn_39 : decode cX9_workOn 39 = .ok (.iload_n 1, 1) := by decide +kernel
theorem dX9_workOn_40 : decode cX9_workOn 40 = .ok (.aload_n 0, 1) := by decide +kernel
theorem dX9_workOn_41 : decode cX9_workOn 41 = .ok (.getfield 7, 3) := by decide +kernel
theorem dX9_workOn_44 : decode cX9_workOn 44 = .ok (.iconst 0, 1) := by decide +kernel
theorem dX9_workOn_45 : decode cX9_workOn 45 = .ok (.iaload, 1) := by decide +kernel
theorem dX9_workOn_46 : decode cX9_workOn 46 = .ok (.iconst 1, 1) := by decide +kernel
theorem dX9_workOn_47 : decode cX9_workOn 47 = .ok (.iadd, 1) := by decide +kernel
theorem dX9_workOn_48 : decode cX9_workOn 48 = .ok (.invokevirtual 108, 3) := by decide +kernel
theorem dX9_workOn_51 : decode cX9_workOn 51 = .ok (.ireturn, 1) := by decide +kernel
theorem dX9_workOn_52 : decode cX9_workOn 52 = .ok (.aload_n 0, 1) := by decide +kernel
theorem dX9_workOn_53 : decode cX9_workOn 53 = .ok (.iload_n 1, 1) := by decide +kernel
theorem dX9_workOn_54 : decode cX9_workOn 54 = .ok (.aload_n 0, 1) := by decide +kernel
theorem dX9_workOn_55 : decode cX9_workOn 55 = .ok (.getfield 7, 3) := by decide +kernel
theorem dX9_workOn_58 : decode cX9_workOn 58 = .ok (.iconst 0, 1) := by decide +kernel
theorem dX9_workOn_59 : decode cX9_workOn 59 = .ok (.iaload, 1) := by decide +kernel
theorem dX9_workOn_60 : decode cX9_workOn 60 = .ok (.iconst 1, 1) := by decide +kernel
theorem dX9_workOn_61 : decode cX9_workOn 61 = .ok (.iadd, 1) := by decide +kernel
theorem dX9_workOn_62 : decode cX9_workOn 62 = .ok (.invokevirtual 104, 3) := by decide +kernel
theorem dX9_workOn_65 : decode cX9_workOn 65 = .ok (.iconst 0, 1) := by decide +kernel
theorem dX9_workOn_66 : decode cX9_workOn 66 = .ok (.ireturn, 1) := by decide +kernel
theorem dX9_climbsByItself_0 : decode cX9_climbsByItself 0 = .ok (.aload_n 0, 1) := by decide +kernel
theorem dX9_climbsByItself_1 : decode cX9_climbsByItself 1 = .ok (.iload_n 1, 1) := by decide +kernel
theorem dX9_climbsByItself_2 : decode cX9_climbsByItself 2 = .ok (.iconst 4, 1) := by decide +kernel
theorem dX9_climbsByItself_3 : decode cX9_climbsByItself 3 = .ok (.invokevirtual 144, 3) := by decide +kernel
theorem dX9_climbsByItself_6 : decode cX9_climbsByItself 6 = .ok (.istore_n 2, 1) := by decide +kernel
theorem dX9_climbsByItself_7 : decode cX9_climbsByItself 7 = .ok (.aload_n 0, 1) := by decide +kernel
theorem dX9_climbsByItself_8 : decode cX9_climbsByItself 8 = .ok (.iload_n 1, 1) := by decide +kernel
theorem dX9_climbsByItself_9 : decode cX9_climbsByItself 9 = .ok (.iconst 0, 1) := by decide +kernel
theorem dX9_climbsByItself_10 : decode cX9_climbsByItself 10 = .ok (.invokevirtual 87, 3) := by decide +kernel
theorem dX9_climbsByItself_13 : decode cX9_climbsByItself 13 = .ok (.ifCond .eq 32, 3) := by decide +kernel
theorem dX9_climbsByItself_16 : decode cX9_climbsByItself 16 = .ok (.iload_n 2, 1) := by decide +kernel
theorem dX9_climbsByItself_17 : decode cX9_climbsByItself 17 = .ok (.ifCond .le 28, 3) := by decide +kernel
theorem dX9_climbsByItself_20 : decode cX9_climbsByItself 20 = .ok (.aload_n 0, 1) := by decide +kernel
theorem dX9_climbsByItself_21 : decode cX9_climbsByItself 21 = .ok (.iload_n 1, 1) := by decide +kernel
theorem dX9_climbsByItself_22 : decode cX9_climbsByItself 22 = .ok (.bipush 6, 2) := by decide +kernel
theorem dX9_climbsByItself_24 : decode cX9_climbsByItself 24 = .ok (.invokevirtual 36, 3) := by decide +kernel
theorem dX9_climbsByItself_27 : decode cX9_climbsByItself 27 = .ok (.iload_n 2, 1) := by decide +kernel
