theorem dX7_solvedBelow_38 : decode cX7_solvedBelow 38 = .ok (.goto (-34), 3) := by decide +kernel
theorem dX7_solvedBelow_41 : decode cX7_solvedBelow 41 = .ok (.iload_n 2, 1) := by decide +kernel
theorem dX7_solvedBelow_42 : decode cX7_solvedBelow 42 = .ok (.ireturn, 1) := by decide +kernel
theorem dX7_copyFrom_0 : decode cX7_copyFrom 0 = .ok (.aload_n 0, 1) := by decide +kernel
theorem dX7_copyFrom_1 : decode cX7_copyFrom 1 = .ok (.aload_n 1, 1) := by decide +kernel
theorem dX7_copyFrom_2 : decode cX7_copyFrom 2 = .ok (.getfield 54, 3) := by decide +kernel
theorem dX7_copyFrom_5 : decode cX7_copyFrom 5 = .ok (.putfield 54, 3) := by decide +kernel
theorem dX7_copyFrom_8 : decode cX7_copyFrom 8 = .ok (.aload_n 1, 1) := by decide +kernel
theorem dX7_copyFrom_9 : decode cX7_copyFrom 9 = .ok (.getfield 9, 3) := by decide +kernel
theorem dX7_copyFrom_12 : decode cX7_copyFrom 12 = .ok (.iconst 0, 1) := by decide +kernel
theorem dX7_copyFrom_13 : decode cX7_copyFrom 13 = .ok (.aload_n 0, 1) := by decide +kernel
theorem dX7_copyFrom_14 : decode cX7_copyFrom 14 = .ok (.getfield 9, 3) := by decide +kernel
theorem dX7_copyFrom_17 : decode cX7_copyFrom 17 = .ok (.iconst 0, 1) := by decide +kernel
theorem dX7_copyFrom_18 : decode cX7_copyFrom 18 = .ok (.bipush 60, 2) := by decide +kernel
theorem dX7_copyFrom_20 : decode cX7_copyFrom 20 = .ok (.invokestatic 75, 3) := by decide +kernel
theorem dX7_copyFrom_23 : decode cX7_copyFrom 23 = .ok (.aload_n 1, 1) := by decide +kernel
theorem dX7_copyFrom_24 : decode cX7_copyFrom 24 = .ok (.getfield 15, 3) := by decide +kernel
theorem dX7_copyFrom_27 : decode cX7_copyFrom 27 = .ok (.iconst 0, 1) := by decide +kernel
theorem dX7_copyFrom_28 : decode cX7_copyFrom 28 = .ok (.aload_n 0, 1) := by decide +kernel
theorem dX7_copyFrom_29 : decode cX7_copyFrom 29 = .ok (.getfield 15, 3) := by decide +kernel
theorem dX7_copyFrom_32 : decode cX7_copyFrom 32 = .ok (.iconst 0, 1) := by decide +kernel
theorem dX7_copyFrom_33 : decode cX7_copyFrom 33 = .ok (.bipush 60, 2) := by decide +kernel
theorem dX7_copyFrom_35 : decode cX7_copyFrom 35 = .ok (.invokestatic 75, 3) := by decide +kernel
theorem dX7_copyFrom_38 : decode cX7_copyFrom 38 = .ok (.aload_n 1, 1) := by decide +kernel
theorem dX7_copyFrom_39 : decode cX7_copyFrom 39 = .ok (.getfield 18, 3) := by decide +kernel
theorem dX7_copyFrom_42 : decode cX7_copyFrom 42 = .ok (.iconst 0, 1) := by decide +kernel
theorem dX7_copyFrom_43 : decode cX7_copyFrom 43 = .ok (.aload_n 0, 1) := by decide +kernel
theorem dX7_copyFrom_44 : decode cX7_copyFrom 44 = .ok (.getfield 18, 3) := by decide +kernel
theorem dX7_copyFrom_47 : decode cX7_copyFrom 47 = .ok (.iconst 0, 1) := by decide +kernel
theorem dX7_copyFrom_48 : decode cX7_copyFrom 48 = .ok (.bipush 60, 2) := by decide +kernel
theorem dX7_copyFrom_50 : decode cX7_copyFrom 50 = .ok (.invokestatic 75, 3) := by decide +kernel
theorem dX7_copyFrom_53 : decode cX7_copyFrom 53 = .ok (.aload_n 1, 1) := by decide +kernel
theorem dX7_copyFrom_54 : decode cX7_copyFrom 54 = .ok (.getfield 21, 3) := by decide +kernel
theorem dX7_copyFrom_57 : decode cX7_copyFrom 57 = .ok (.iconst 0, 1) := by decide +kernel
theorem dX7_copyFrom_58 : decode cX7_copyFrom 58 = .ok (.aload_n 0, 1) := by decide +kernel
theorem dX7_copyFrom_59 : decode cX7_copyFrom 59 = .ok (.getfield 21, 3) := by decide +kernel
theorem dX7_copyFrom_62 : decode cX7_copyFrom 62 = .ok (.iconst 0, 1) := by decide +kernel
theorem dX7_copyFrom_63 : decode cX7_copyFrom 63 = .ok (.bipush 60, 2) := by decide +kernel
theorem dX7_copyFrom_65 : decode cX7_copyFrom 65 = .ok (.invokestatic 75, 3) := by decide +kernel
theorem dX7_copyFrom_68 : decode cX7_copyFrom 68 = .ok (.aload_n 1, 1) := by decide +kernel
theorem dX7_copyFrom_69 : decode cX7_copyFrom 69 = .ok (.getfield 24, 3) := by decide +kernel
theorem dX7_copyFrom_72 : decode cX7_copyFrom 72 = .ok (.iconst 0, 1) := by decide +kernel
theorem dX7_copyFrom_73 : decode cX7_copyFrom 73 = .ok (.aload_n 0, 1) := by decide +kernel
theorem dX7_copyFrom_74 : decode cX7_copyFrom 74 = .ok (.getfield 24, 3) := by decide +kernel
theorem dX7_copyFrom_77 : decode cX7_copyFrom 77 = .ok (.iconst 0, 1) := by decide +kernel
theorem dX7_copyFrom_78 : decode cX7_copyFrom 78 = .ok (.bipush 60, 2) := by decide +kernel
theorem dX7_copyFrom_80 : decode cX7_copyFrom 80 = .ok (.invokestatic 75, 3) := by decide +kernel
theorem dX7_copyFrom_83 : decode cX7_copyFrom 83 = .ok (.aload_n 1, 1) := by decide +kernel
theorem dX7_copyFrom_84 : decode cX7_copyFrom 84 = .ok (.getfield 27, 3) := by decide +kernel
theorem dX7_copyFrom_87 : decode cX7_copyFrom 87 = .ok (.iconst 0, 1) := by decide +kernel
theorem dX7_copyFrom_88 : decode cX7_copyFrom 88 = .ok (.aload_n 0, 1) := by decide +kernel
theorem dX7_copyFrom_89 : decode cX7_copyFrom 89 = .ok (.getfield 27, 3) := by decide +kernel
theorem dX7_copyFrom_92 : decode cX7_copyFrom 92 = .ok (.iconst 0, 1) := by decide +kernel
theorem dX7_copyFrom_93 : decode cX7_copyFrom 93 = .ok (.bipush 60, 2) := by decide +kernel
theorem dX7_copyFrom_95 : decode cX7_copyFrom 95 = .ok (.invokestatic 75, 3) := by decide +kernel
theorem dX7_copyFrom_98 : decode cX7_copyFrom 98 = .ok (.aload_n 1, 1) := by decide +kernel
theorem dX7_copyFrom_99 : decode cX7_copyFrom 99 = .ok (.getfield 30, 3) := by decide +kernel
theorem dX7_copyFrom_102 : decode cX7_copyFrom 102 = .ok (.iconst 0, 1) := by decide +kernel
theorem dX7_copyFrom_103 : decode cX7_copyFrom 103 = .ok (.aload_n 0, 1) := by decide +kernel
theorem dX7_copyFrom_104 : decode cX7_copyFrom 104 = .ok (.getfield 30, 3) := by decide +kernel
theorem dX7_copyFrom_107 : decode cX7_copyFrom 107 = .ok (.iconst 0, 1) := by decide +kernel
theorem dX7_copyFrom_108 : decode cX7_copyFrom 108 = .ok (.bipush 60, 2) := by decide +kernel
theorem dX7_copyFrom_110 : decode cX7_copyFrom 110 = .ok (.invokestatic 75, 3) := by decide +kernel
theorem dX7_copyFrom_113 : decode cX7_copyFrom 113 = .ok (.aload_n 1, 1) := by decide +kernel
theorem dX7_copyFrom_114 : decode cX7_copyFrom 114 = .ok (.getfield 33, 3) := by decide +kernel
theorem dX7_copyFrom_117 : decode cX7_copyFrom 117 = .ok (.iconst 0, 1) := by decide +kernel
theorem dX7_copyFrom_118 : decode cX7_copyFrom 118 = .ok (.aload_n 0, 1) := by decide +kernel
theorem dX7_copyFrom_119 : decode cX7_copyFrom 119 = .ok (.getfield 33, 3) := by decide +kernel
theorem dX7_copyFrom_122 : decode cX7_copyFrom 122 = .ok (.iconst 0, 1) := by decide +kernel
theorem dX7_copyFrom_123 : decode cX7_copyFrom 123 = .ok (.bipush 60, 2) := by decide +kernel
theorem dX7_copyFrom_125 : decode cX7_copyFrom 125 = .ok (.invokestatic 75, 3) := by decide +kernel
theorem dX7_copyFrom_128 : decode cX7_copyFrom 128 = .ok (.aload_n 1, 1) := by decide +kernel
theorem dX7_copyFrom_129 : decode cX7_copyFrom 129 = .ok (.getfield 36, 3) := by decide +kernel
theorem dX7_copyFrom_132 : decode cX7_copyFrom 132 = .ok (.iconst 0, 1) := by decide +kernel
theorem dX7_copyFrom_133 : decode cX7_copyFrom 133 = .ok (.aload_n 0, 1) := by decide +kernel
theorem dX7_copyFrom_134 : decode cX7_copyFrom 134 = .ok (.getfield 36, 3) := by decide +kernel
theorem dX7_copyFrom_137 : decode cX7_copyFrom 137 = .ok (.iconst 0, 1) := by decide +kernel
theorem dX7_copyFrom_138 : decode cX7_copyFrom 138 = .ok (.bipush 60, 2) := by decide +kernel
theorem dX7_copyFrom_140 : decode cX7_copyFrom 140 = .ok (.invokestatic 75, 3) := by decide +kernel
theorem dX7_copyFrom_143 : decode cX7_copyFrom 143 = .ok (.aload_n 1, 1) := by decide +kernel
theorem dX7_copyFrom_144 : decode cX7_copyFrom 144 = .ok (.getfield 39, 3) := by decide +kernel
theorem dX7_copyFrom_147 : decode cX7_copyFrom 147 = .ok (.iconst 0, 1) := by decide +kernel
theorem dX7_copyFrom_148 : decode cX7_copyFrom 148 = .ok (.aload_n 0, 1) := by decide +kernel
theorem dX7_copyFrom_149 : decode cX7_copyFrom 149 = .ok (.getfield 39, 3) := by decide +kernel
theorem dX7_copyFrom_152 : decode cX7_copyFrom 152 = .ok (.iconst 0, 1) := by decide +kernel
theorem dX7_copyFrom_153 : decode cX7_copyFrom 153 = .ok (.bipush 60, 2) := by decide +kernel
theorem dX7_copyFrom_155 : decode cX7_copyFrom 155 = .ok (.invokestatic 75, 3) := by decide +kernel
theorem dX7_copyFrom_158 : decode cX7_copyFrom 158 = .ok (.aload_n 1, 1) := by decide +kernel
theorem dX7_copyFrom_159 : decode cX7_copyFrom 159 = .ok (.getfield 42, 3) := by decide +kernel
theorem dX7_copyFrom_162 : decode cX7_copyFrom 162 = .ok (.iconst 0, 1) := by decide +kernel
theorem dX7_copyFrom_163 : decode cX7_copyFrom 163 = .ok (.aload_n 0, 1) := by decide +kernel
theorem dX7_copyFrom_164 : decode cX7_copyFrom 164 = .ok (.getfield 42, 3) := by decide +kernel
theorem dX7_copyFrom_167 : decode cX7_copyFrom 167 = .ok (.iconst 0, 1) := by decide +kernel
theorem dX7_copyFrom_168 : decode cX7_copyFrom 168 = .ok (.bipush 60, 2) := by decide +kernel
theorem dX7_copyFrom_170 : decode cX7_copyFrom 170 = .ok (.invokestatic 75, 3) := by decide +kernel
theorem dX7_copyFrom_173 : decode cX7_copyFrom 173 = .ok (.aload_n 1, 1) := by decide +kernel
theorem dX7_copyFrom_174 : decode cX7_copyFrom 174 = .ok (.getfield 45, 3) := by decide +kernel
theorem dX7_copyFrom_177 : decode cX7_copyFrom 177 = .ok (.iconst 0, 1) := by decide +kernel
theorem dX7_copyFrom_178 : decode cX7_copyFrom 178 = .ok (.aload_n 0, 1) := by decide +kernel
theorem dX7_copyFrom_179 : decode cX7_copyFrom 179 = .ok (.getfield 45, 3) := by decide +kernel
theorem dX7_copyFrom_182 : decode cX7_copyFrom 182 = .ok (.iconst 0, 1) := by decide +kernel
theorem dX7_copyFrom_183 : decode cX7_copyFrom 183 = .ok (.bipush 60, 2) := by decide +kernel
theorem dX7_copyFrom_185 : decode cX7_copyFrom 185 = .ok (.invokestatic 75, 3) := by decide +kernel
theorem dX7_copyFrom_188 : decode cX7_copyFrom 188 = .ok (.aload_n 1, 1) := by decide +kernel
theorem dX7_copyFrom_189 : decode cX7_copyFrom 189 = .ok (.getfield 48, 3) := by decide +kernel
theorem dX7_copyFrom_192 : decode cX7_copyFrom 192 = .ok (.iconst 0, 1) := by decide +kernel
theorem dX7_copyFrom_193 : decode cX7_copyFrom 193 = .ok (.aload_n 0, 1) := by decide +kernel
theorem dX7_copyFrom_194 : decode cX7_copyFrom 194 = .ok (.getfield 48, 3) := by decide +kernel
theorem dX7_copyFrom_197 : decode cX7_copyFrom 197 = .ok (.iconst 0, 1) := by decide +kernel
theorem dX7_copyFrom_198 : decode cX7_copyFrom 198 = .ok (.bipush 60, 2) := by decide +kernel
theorem dX7_copyFrom_200 : decode cX7_copyFrom 200 = .ok (.invokestatic 75, 3) := by decide +kernel
theorem dX7_copyFrom_203 : decode cX7_copyFrom 203 = .ok (.aload_n 1, 1) := by decide +kernel
theorem dX7_copyFrom_204 : decode cX7_copyFrom 204 = .ok (.getfield 51, 3) := by decide +kernel
theorem dX7_copyFrom_207 : decode cX7_copyFrom 207 = .ok (.iconst 0, 1) := by decide +kernel
theorem dX7_copyFrom_208 : decode cX7_copyFrom 208 = .ok (.aload_n 0, 1) := by decide +kernel
theorem dX7_copyFrom_209 : decode cX7_copyFrom 209 = .ok (.getfield 51, 3) := by decide +kernel
theorem dX7_copyFrom_212 : decode cX7_copyFrom 212 = .ok (.iconst 0, 1) := by decide +kernel
theorem dX7_copyFrom_213 : decode cX7_copyFrom 213 = .ok (.bipush 60, 2) := by decide +kernel
theorem dX7_copyFrom_215 : decode cX7_copyFrom 215 = .ok (.invokestatic 75, 3) := by decide +kernel
theorem dX7_copyFrom_218 : decode cX7_copyFrom 218 = .ok (.return_, 1) := by decide +kernel
theorem dX8_init_0 : decode cX8_init 0 = .ok (.aload_n 0, 1) := by decide +kernel
theorem dX8_init_1 : decode cX8_init 1 = .ok (.invokespecial 3, 3) := by decide +kernel
theorem dX8_init_4 : decode cX8_init 4 = .ok (.aload_n 0, 1) := by decide +kernel
theorem dX8_init_5 : decode cX8_init 5 = .ok (.new 9, 3) := by decide +kernel
theorem dX8_init_8 : decode cX8_init 8 = .ok (.dup, 1) := by decide +kernel
theorem dX8_init_9 : decode cX8_init 9 = .ok (.invokespecial 11, 3) := by decide +kernel
theorem dX8_init_12 : decode cX8_init 12 = .ok (.putfield 12, 3) := by decide +kernel
theorem dX8_init_15 : decode cX8_init 15 = .ok (.aload_n 0, 1) := by decide +kernel
theorem dX8_init_16 : decode cX8_init 16 = .ok (.iconst 2, 1) := by decide +kernel
theorem dX8_init_17 : decode cX8_init 17 = .ok (.anewarray 9, 3) := by decide +kernel
theorem dX8_init_20 : decode cX8_init 20 = .ok (.putfield 16, 3) := by decide +kernel
theorem dX8_init_23 : decode cX8_init 23 = .ok (.aload_n 0, 1) := by decide +kernel
theorem dX8_init_24 : decode cX8_init 24 = .ok (.new 20, 3) := by decide +kernel
theorem dX8_init_27 : decode cX8_init 27 = .ok (.dup, 1) := by decide +kernel
theorem dX8_init_28 : decode cX8_init 28 = .ok (.iconst 0, 1) := by decide +kernel
theorem dX8_init_29 : decode cX8_init 29 = .ok (.invokespecial 22, 3) := by decide +kernel
theorem dX8_init_32 : decode cX8_init 32 = .ok (.putfield 25, 3) := by decide +kernel
theorem dX8_init_35 : decode cX8_init 35 = .ok (.aload_n 0, 1) := by decide +kernel
theorem dX8_init_36 : decode cX8_init 36 = .ok (.new 29, 3) := by decide +kernel
theorem dX8_init_39 : decode cX8_init 39 = .ok (.dup, 1) := by decide +kernel
theorem dX8_init_40 : decode cX8_init 40 = .ok (.invokespecial 31, 3) := by decide +kernel
theorem dX8_init_43 : decode cX8_init 43 = .ok (.putfield 32, 3) := by decide +kernel
theorem dX8_init_46 : decode cX8_init 46 = .ok (.return_, 1) := by decide +kernel
theorem dX8_setDay_0 : decode cX8_setDay 0 = .ok (.aload_n 0, 1) := by decide +kernel
theorem dX8_setDay_1 : decode cX8_setDay 1 = .ok (.iconst 0, 1) := by decide +kernel
theorem dX8_setDay_2 : decode cX8_setDay 2 = .ok (.iload_n 1, 1) := by decide +kernel
theorem dX8_setDay_3 : decode cX8_setDay 3 = .ok (.iload_n 2, 1) := by decide +kernel
theorem dX8_setDay_4 : decode cX8_setDay 4 = .ok (.iload_n 3, 1) := by decide +kernel
theorem dX8_setDay_5 : decode cX8_setDay 5 = .ok (.iconst 0, 1) := by decide +kernel
theorem dX8_setDay_6 : decode cX8_setDay 6 = .ok (.invokevirtual 36, 3) := by decide +kernel
theorem dX8_setDay_9 : decode cX8_setDay 9 = .ok (.ireturn, 1) := by decide +kernel
theorem dX8_openingMinute_0 : decode cX8_openingMinute 0 = .ok (.iload_n 1, 1) := by decide +kernel
theorem dX8_openingMinute_1 : decode cX8_openingMinute 1 = .ok (.iconst 0, 1) := by decide +kernel
theorem dX8_openingMinute_2 : decode cX8_openingMinute 2 = .ok (.bipush 6, 2) := by decide +kernel
theorem dX8_openingMinute_4 : decode cX8_openingMinute 4 = .ok (.invokestatic 40, 3) := by decide +kernel
theorem dX8_openingMinute_7 : decode cX8_openingMinute 7 = .ok (.ifCond .eq 21, 3) := by decide +kernel
theorem dX8_openingMinute_10 : decode cX8_openingMinute 10 = .ok (.aload_n 0, 1) := by decide +kernel
theorem dX8_openingMinute_11 : decode cX8_openingMinute 11 = .ok (.getfield 12, 3) := by decide +kernel
theorem dX8_openingMinute_14 : decode cX8_openingMinute 14 = .ok (.getfield 44, 3) := by decide +kernel
theorem dX8_openingMinute_17 : decode cX8_openingMinute 17 = .ok (.getfield 47, 3) := by decide +kernel
theorem dX8_openingMinute_20 : decode cX8_openingMinute 20 = .ok (.getfield 51, 3) := by decide +kernel
theorem dX8_openingMinute_23 : decode cX8_openingMinute 23 = .ok (.iload_n 1, 1) := by decide +kernel
theorem dX8_openingMinute_24 : decode cX8_openingMinute 24 = .ok (.iaload, 1) := by decide +kernel
theorem dX8_openingMinute_25 : decode cX8_openingMinute 25 = .ok (.goto 5, 3) := by decide +kernel
theorem dX8_openingMinute_28 : decode cX8_openingMinute 28 = .ok (.bipush (-4), 2) := by decide +kernel
theorem dX8_openingMinute_30 : decode cX8_openingMinute 30 = .ok (.ireturn, 1) := by decide +kernel
theorem dX8_closingMinute_0 : decode cX8_closingMinute 0 = .ok (.iload_n 1, 1) := by decide +kernel
theorem dX8_closingMinute_1 : decode cX8_closingMinute 1 = .ok (.iconst 0, 1) := by decide +kernel
theorem dX8_closingMinute_2 : decode cX8_closingMinute 2 = .ok (.bipush 6, 2) := by decide +kernel
theorem dX8_closingMinute_4 : decode cX8_closingMinute 4 = .ok (.invokestatic 40, 3) := by decide +kernel
theorem dX8_closingMinute_7 : decode cX8_closingMinute 7 = .ok (.ifCond .eq 21, 3) := by decide +kernel
theorem dX8_closingMinute_10 : decode cX8_closingMinute 10 = .ok (.aload_n 0, 1) := by decide +kernel
theorem dX8_closingMinute_11 : decode cX8_closingMinute 11 = .ok (.getfield 12, 3) := by decide +kernel
theorem dX8_closingMinute_14 : decode cX8_closingMinute 14 = .ok (.getfield 44, 3) := by decide +kernel
theorem dX8_closingMinute_17 : decode cX8_closingMinute 17 = .ok (.getfield 47, 3) := by decide +kernel
theorem dX8_closingMinute_20 : decode cX8_closingMinute 20 = .ok (.getfield 57, 3) := by decide +kernel
theorem dX8_closingMinute_23 : decode cX8_closingMinute 23 = .ok (.iload_n 1, 1) := by decide +kernel
theorem dX8_closingMinute_24 : decode cX8_closingMinute 24 = .ok (.iaload, 1) := by decide +kernel
theorem dX8_closingMinute_25 : decode cX8_closingMinute 25 = .ok (.goto 5, 3) := by decide +kernel
theorem dX8_closingMinute_28 : decode cX8_closingMinute 28 = .ok (.bipush (-4), 2) := by decide +kernel
theorem dX8_closingMinute_30 : decode cX8_closingMinute 30 = .ok (.ireturn, 1) := by decide +kernel
theorem dX8_isOpen_0 : decode cX8_isOpen 0 = .ok (.iload_n 1, 1) := by decide +kernel
theorem dX8_isOpen_1 : decode cX8_isOpen 1 = .ok (.iconst 0, 1) := by decide +kernel
theorem dX8_isOpen_2 : decode cX8_isOpen 2 = .ok (.sipush 10079, 3) := by decide +kernel
theorem dX8_isOpen_5 : decode cX8_isOpen 5 = .ok (.invokestatic 40, 3) := by decide +kernel
theorem dX8_isOpen_8 : decode cX8_isOpen 8 = .ok (.ifCond .ne 6, 3) := by decide +kernel
theorem dX8_isOpen_11 : decode cX8_isOpen 11 = .ok (.bipush (-4), 2) := by decide +kernel
theorem dX8_isOpen_13 : decode cX8_isOpen 13 = .ok (.ireturn, 1) := by decide +kernel
theorem dX8_isOpen_14 : decode cX8_isOpen 14 = .ok (.aload_n 0, 1) := by decide +kernel
theorem dX8_isOpen_15 : decode cX8_isOpen 15 = .ok (.getfield 12, 3) := by decide +kernel
theorem dX8_isOpen_18 : decode cX8_isOpen 18 = .ok (.getfield 44, 3) := by decide +kernel
theorem dX8_isOpen_21 : decode cX8_isOpen 21 = .ok (.getfield 47, 3) := by decide +kernel
theorem dX8_isOpen_24 : decode cX8_isOpen 24 = .ok (.iload_n 1, 1) := by decide +kernel
theorem dX8_isOpen_25 : decode cX8_isOpen 25 = .ok (.invokevirtual 60, 3) := by decide +kernel
theorem dX8_isOpen_28 : decode cX8_isOpen 28 = .ok (.ifCond .eq 7, 3) := by decide +kernel
theorem dX8_isOpen_31 : decode cX8_isOpen 31 = .ok (.iconst 1, 1) := by decide +kernel
theorem dX8_isOpen_32 : decode cX8_isOpen 32 = .ok (.goto 4, 3) := by decide +kernel
theorem dX8_isOpen_35 : decode cX8_isOpen 35 = .ok (.iconst 0, 1) := by decide +kernel
theorem dX8_isOpen_36 : decode cX8_isOpen 36 = .ok (.ireturn, 1) := by decide +kernel
theorem dX8_openMinutes_0 : decode cX8_openMinutes 0 = .ok (.iload_n 1, 1) := by decide +kernel
theorem dX8_openMinutes_1 : decode cX8_openMinutes 1 = .ok (.iconst 0, 1) := by decide +kernel
theorem dX8_openMinutes_2 : decode cX8_openMinutes 2 = .ok (.sipush 10080, 3) := by decide +kernel
theorem dX8_openMinutes_5 : decode cX8_openMinutes 5 = .ok (.invokestatic 40, 3) := by decide +kernel
theorem dX8_openMinutes_8 : decode cX8_openMinutes 8 = .ok (.ifCond .eq 14, 3) := by decide +kernel
theorem dX8_openMinutes_11 : decode cX8_openMinutes 11 = .ok (.iload_n 2, 1) := by decide +kernel
theorem dX8_openMinutes_12 : decode cX8_openMinutes 12 = .ok (.iload_n 1, 1) := by decide +kernel
theorem dX8_openMinutes_13 : decode cX8_openMinutes 13 = .ok (.sipush 10080, 3) := by decide +kernel
theorem dX8_openMinutes_16 : decode cX8_openMinutes 16 = .ok (.invokestatic 40, 3) := by decide +kernel
theorem dX8_openMinutes_19 : decode cX8_openMinutes 19 = .ok (.ifCond .ne 6, 3) := by decide +kernel
theorem dX8_openMinutes_22 : decode cX8_openMinutes 22 = .ok (.bipush (-4), 2) := by decide +kernel
theorem dX8_openMinutes_24 : decode cX8_openMinutes 24 = .ok (.ireturn, 1) := by decide +kernel
theorem dX8_openMinutes_25 : decode cX8_openMinutes 25 = .ok (.aload_n 0, 1) := by decide +kernel
theorem dX8_openMinutes_26 : decode cX8_openMinutes 26 = .ok (.getfield 12, 3) := by decide +kernel
theorem dX8_openMinutes_29 : decode cX8_openMinutes 29 = .ok (.getfield 44, 3) := by decide +kernel
theorem dX8_openMinutes_32 : decode cX8_openMinutes 32 = .ok (.getfield 47, 3) := by decide +kernel
theorem dX8_openMinutes_35 : decode cX8_openMinutes 35 = .ok (.iload_n 1, 1) := by decide +kernel
theorem dX8_openMinutes_36 : decode cX8_openMinutes 36 = .ok (.iload_n 2, 1) := by decide +kernel
theorem dX8_openMinutes_37 : decode cX8_openMinutes 37 = .ok (.invokevirtual 64, 3) := by decide +kernel
theorem dX8_openMinutes_40 : decode cX8_openMinutes 40 = .ok (.ireturn, 1) := by decide +kernel
theorem dX8_addKind_0 : decode cX8_addKind 0 = .ok (.iload_n 1, 1) := by decide +kernel
theorem dX8_addKind_1 : decode cX8_addKind 1 = .ok (.iconst 0, 1) := by decide +kernel
theorem dX8_addKind_2 : decode cX8_addKind 2 = .ok (.sipush 10080, 3) := by decide +kernel
theorem dX8_addKind_5 : decode cX8_addKind 5 = .ok (.invokestatic 40, 3) := by decide +kernel
theorem dX8_addKind_8 : decode cX8_addKind 8 = .ok (.ifCond .eq 47, 3) := by decide +kernel
theorem dX8_addKind_11 : decode cX8_addKind 11 = .ok (.iload_n 2, 1) := by decide +kernel
theorem dX8_addKind_12 : decode cX8_addKind 12 = .ok (.iconst 0, 1) := by decide +kernel
theorem dX8_addKind_13 : decode cX8_addKind 13 = .ok (.sipush 10080, 3) := by decide +kernel
theorem dX8_addKind_16 : decode cX8_addKind 16 = .ok (.invokestatic 40, 3) := by decide +kernel
theorem dX8_addKind_19 : decode cX8_addKind 19 = .ok (.ifCond .eq 36, 3) := by decide +kernel
theorem dX8_addKind_22 : decode cX8_addKind 22 = .ok (.iload_n 3, 1) := by decide +kernel
theorem dX8_addKind_23 : decode cX8_addKind 23 = .ok (.iconst 1, 1) := by decide +kernel
theorem dX8_addKind_24 : decode cX8_addKind 24 = .ok (.sipush 480, 3) := by decide +kernel
theorem dX8_addKind_27 : decode cX8_addKind 27 = .ok (.invokestatic 40, 3) := by decide +kernel
theorem dX8_addKind_30 : decode cX8_addKind 30 = .ok (.ifCond .eq 25, 3) := by decide +kernel
theorem dX8_addKind_33 : decode cX8_addKind 33 = .ok (.iload 4, 2) := by decide +kernel
theorem dX8_addKind_35 : decode cX8_addKind 35 = .ok (.iconst 0, 1) := by decide +kernel
theorem dX8_addKind_36 : decode cX8_addKind 36 = .ok (.iconst 3, 1) := by decide +kernel
theorem dX8_addKind_37 : decode cX8_addKind 37 = .ok (.invokestatic 40, 3) := by decide +kernel
theorem dX8_addKind_40 : decode cX8_addKind 40 = .ok (.ifCond .eq 15, 3) := by decide +kernel
theorem dX8_addKind_43 : decode cX8_addKind 43 = .ok (.iload 5, 2) := by decide +kernel
theorem dX8_addKind_45 : decode cX8_addKind 45 = .ok (.iconst 0, 1) := by decide +kernel
theorem dX8_addKind_46 : decode cX8_addKind 46 = .ok (.sipush 10080, 3) := by decide +kernel
theorem dX8_addKind_49 : decode cX8_addKind 49 = .ok (.invokestatic 40, 3) := by decide +kernel
theorem dX8_addKind_52 : decode cX8_addKind 52 = .ok (.ifCond .ne 6, 3) := by decide +kernel
theorem dX8_addKind_55 : decode cX8_addKind 55 = .ok (.bipush (-4), 2) := by decide +kernel
theorem dX8_addKind_57 : decode cX8_addKind 57 = .ok (.ireturn, 1) := by decide +kernel
theorem dX8_addKind_58 : decode cX8_addKind 58 = .ok (.aload_n 0, 1) := by decide +kernel
theorem dX8_addKind_59 : decode cX8_addKind 59 = .ok (.getfield 12, 3) := by decide +kernel
theorem dX8_addKind_62 : decode cX8_addKind 62 = .ok (.getfield 44, 3) := by decide +kernel
theorem dX8_addKind_65 : decode cX8_addKind 65 = .ok (.getfield 68, 3) := by decide +kernel
theorem dX8_addKind_68 : decode cX8_addKind 68 = .ok (.iload_n 1, 1) := by decide +kernel
theorem dX8_addKind_69 : decode cX8_addKind 69 = .ok (.iload_n 2, 1) := by decide +kernel
theorem dX8_addKind_70 : decode cX8_addKind 70 = .ok (.iload_n 3, 1) := by decide +kernel
theorem dX8_addKind_71 : decode cX8_addKind 71 = .ok (.iload 4, 2) := by decide +kernel
theorem dX8_addKind_73 : decode cX8_addKind 73 = .ok (.iload 5, 2) := by decide +kernel
theorem dX8_addKind_75 : decode cX8_addKind 75 = .ok (.iload 6, 2) := by decide +kernel
theorem dX8_addKind_77 : decode cX8_addKind 77 = .ok (.invokevirtual 72, 3) := by decide +kernel
theorem dX8_addKind_80 : decode cX8_addKind 80 = .ok (.ireturn, 1) := by decide +kernel
theorem dX8_kindCount_0 : decode cX8_kindCount 0 = .ok (.aload_n 0, 1) := by decide +kernel
theorem dX8_kindCount_1 : decode cX8_kindCount 1 = .ok (.getfield 12, 3) := by decide +kernel
theorem dX8_kindCount_4 : decode cX8_kindCount 4 = .ok (.getfield 44, 3) := by decide +kernel
theorem dX8_kindCount_7 : decode cX8_kindCount 7 = .ok (.getfield 68, 3) := by decide +kernel
theorem dX8_kindCount_10 : decode cX8_kindCount 10 = .ok (.getfield 78, 3) := by decide +kernel
theorem dX8_kindCount_13 : decode cX8_kindCount 13 = .ok (.ireturn, 1) := by decide +kernel
theorem dX8_setAgents_0 : decode cX8_setAgents 0 = .ok (.aload_n 0, 1) := by decide +kernel
theorem dX8_setAgents_1 : decode cX8_setAgents 1 = .ok (.iconst 2, 1) := by decide +kernel
theorem dX8_setAgents_2 : decode cX8_setAgents 2 = .ok (.iload_n 1, 1) := by decide +kernel
theorem dX8_setAgents_3 : decode cX8_setAgents 3 = .ok (.iload_n 2, 1) := by decide +kernel
theorem dX8_setAgents_4 : decode cX8_setAgents 4 = .ok (.iconst 0, 1) := by decide +kernel
theorem dX8_setAgents_5 : decode cX8_setAgents 5 = .ok (.iconst 0, 1) := by decide +kernel
theorem dX8_setAgents_6 : decode cX8_setAgents 6 = .ok (.invokevirtual 36, 3) := by decide +kernel
theorem dX8_setAgents_9 : decode cX8_setAgents 9 = .ok (.ireturn, 1) := by decide +kernel
theorem dX8_agents_0 : decode cX8_agents 0 = .ok (.iload_n 1, 1) := by decide +kernel
theorem dX8_agents_1 : decode cX8_agents 1 = .ok (.iconst 0, 1) := by decide +kernel
theorem dX8_agents_2 : decode cX8_agents 2 = .ok (.iconst 3, 1) := by decide +kernel
theorem dX8_agents_3 : decode cX8_agents 3 = .ok (.invokestatic 40, 3) := by decide +kernel
theorem dX8_agents_6 : decode cX8_agents 6 = .ok (.ifCond .eq 18, 3) := by decide +kernel
theorem dX8_agents_9 : decode cX8_agents 9 = .ok (.aload_n 0, 1) := by decide +kernel
theorem dX8_agents_10 : decode cX8_agents 10 = .ok (.getfield 12, 3) := by decide +kernel
theorem dX8_agents_13 : decode cX8_agents 13 = .ok (.getfield 44, 3) := by decide +kernel
theorem dX8_agents_16 : decode cX8_agents 16 = .ok (.getfield 82, 3) := by decide +kernel
theorem dX8_agents_19 : decode cX8_agents 19 = .ok (.iload_n 1, 1) := by decide +kernel
theorem dX8_agents_20 : decode cX8_agents 20 = .ok (.iaload, 1) := by decide +kernel
theorem dX8_agents_21 : decode cX8_agents 21 = .ok (.goto 5, 3) := by decide +kernel
theorem dX8_agents_24 : decode cX8_agents 24 = .ok (.bipush (-4), 2) := by decide +kernel
theorem dX8_agents_26 : decode cX8_agents 26 = .ok (.ireturn, 1) := by decide +kernel
theorem dX8_report_0 : decode cX8_report 0 = .ok (.aload_n 0, 1) := by decide +kernel
theorem dX8_report_1 : decode cX8_report 1 = .ok (.iconst 3, 1) := by decide +kernel
theorem dX8_report_2 : decode cX8_report 2 = .ok (.iload_n 1, 1) := by decide +kernel
theorem dX8_report_3 : decode cX8_report 3 = .ok (.iload_n 2, 1) := by decide +kernel
theorem dX8_report_4 : decode cX8_report 4 = .ok (.iload_n 3, 1) := by decide +kernel
theorem dX8_report_5 : decode cX8_report 5 = .ok (.iload 4, 2) := by decide +kernel
theorem dX8_report_7 : decode cX8_report 7 = .ok (.invokevirtual 36, 3) := by decide +kernel
theorem dX8_report_10 : decode cX8_report 10 = .ok (.ireturn, 1) := by decide +kernel
theorem dX8_pause_0 : decode cX8_pause 0 = .ok (.aload_n 0, 1) := by decide +kernel
theorem dX8_pause_1 : decode cX8_pause 1 = .ok (.iconst 4, 1) := by decide +kernel
theorem dX8_pause_2 : decode cX8_pause 2 = .ok (.iload_n 1, 1) := by decide +kernel
theorem dX8_pause_3 : decode cX8_pause 3 = .ok (.iconst 0, 1) := by decide +kernel
theorem dX8_pause_4 : decode cX8_pause 4 = .ok (.iconst 0, 1) := by decide +kernel
theorem dX8_pause_5 : decode cX8_pause 5 = .ok (.iconst 0, 1) := by decide +kernel
theorem dX8_pause_6 : decode cX8_pause 6 = .ok (.invokevirtual 36, 3) := by decide +kernel
theorem dX8_pause_9 : decode cX8_pause 9 = .ok (.ireturn, 1) := by decide +kernel
theorem dX8_resume_0 : decode cX8_resume 0 = .ok (.aload_n 0, 1) := by decide +kernel
theorem dX8_resume_1 : decode cX8_resume 1 = .ok (.iconst 5, 1) := by decide +kernel
theorem dX8_resume_2 : decode cX8_resume 2 = .ok (.iload_n 1, 1) := by decide +kernel
theorem dX8_resume_3 : decode cX8_resume 3 = .ok (.iconst 0, 1) := by decide +kernel
theorem dX8_resume_4 : decode cX8_resume 4 = .ok (.iconst 0, 1) := by decide +kernel
theorem dX8_resume_5 : decode cX8_resume 5 = .ok (.iconst 0, 1) := by decide +kernel
theorem dX8_resume_6 : decode cX8_resume 6 = .ok (.invokevirtual 36, 3) := by decide +kernel
theorem dX8_resume_9 : decode cX8_resume 9 = .ok (.ireturn, 1) := by decide +kernel
theorem dX8_climb_0 : decode cX8_climb 0 = .ok (.aload_n 0, 1) := by decide +kernel
theorem dX8_climb_1 : decode cX8_climb 1 = .ok (.bipush 6, 2) := by decide +kernel
theorem dX8_climb_3 : decode cX8_climb 3 = .ok (.iload_n 1, 1) := by decide +kernel
theorem dX8_climb_4 : decode cX8_climb 4 = .ok (.iconst 0, 1) := by decide +kernel
theorem dX8_climb_5 : decode cX8_climb 5 = .ok (.iconst 0, 1) := by decide +kernel
theorem dX8_climb_6 : decode cX8_climb 6 = .ok (.iconst 0, 1) := by decide +kernel
theorem dX8_climb_7 : decode cX8_climb 7 = .ok (.invokevirtual 36, 3) := by decide +kernel
theorem dX8_climb_10 : decode cX8_climb 10 = .ok (.ireturn, 1) := by decide +kernel
theorem dX8_solve_0 : decode cX8_solve 0 = .ok (.aload_n 0, 1) := by decide +kernel
theorem dX8_solve_1 : decode cX8_solve 1 = .ok (.bipush 7, 2) := by decide +kernel
theorem dX8_solve_3 : decode cX8_solve 3 = .ok (.iload_n 1, 1) := by decide +kernel
theorem dX8_solve_4 : decode cX8_solve 4 = .ok (.iconst 0, 1) := by decide +kernel
theorem dX8_solve_5 : decode cX8_solve 5 = .ok (.iconst 0, 1) := by decide +kernel
theorem dX8_solve_6 : decode cX8_solve 6 = .ok (.iconst 0, 1) := by decide +kernel
theorem dX8_solve_7 : decode cX8_solve 7 = .ok (.invokevirtual 36, 3) := by decide +kernel
theorem dX8_solve_10 : decode cX8_solve 10 = .ok (.ireturn, 1) := by decide +kernel
theorem dX8_reopen_0 : decode cX8_reopen 0 = .ok (.aload_n 0, 1) := by decide +kernel
theorem dX8_reopen_1 : decode cX8_reopen 1 = .ok (.bipush 8, 2) := by decide +kernel
theorem dX8_reopen_3 : decode cX8_reopen 3 = .ok (.iload_n 1, 1) := by decide +kernel
theorem dX8_reopen_4 : decode cX8_reopen 4 = .ok (.iconst 0, 1) := by decide +kernel
theorem dX8_reopen_5 : decode cX8_reopen 5 = .ok (.iconst 0, 1) := by decide +kernel
theorem dX8_reopen_6 : decode cX8_reopen 6 = .ok (.iconst 0, 1) := by decide +kernel
theorem dX8_reopen_7 : decode cX8_reopen 7 = .ok (.invokevirtual 36, 3) := by decide +kernel
theorem dX8_reopen_10 : decode cX8_reopen 10 = .ok (.ireturn, 1) := by decide +kernel
theorem dX8_join_0 : decode cX8_join 0 = .ok (.aload_n 0, 1) := by decide +kernel
theorem dX8_join_1 : decode cX8_join 1 = .ok (.bipush 9, 2) := by decide +kernel
theorem dX8_join_3 : decode cX8_join 3 = .ok (.iload_n 1, 1) := by decide +kernel
theorem dX8_join_4 : decode cX8_join 4 = .ok (.iload_n 2, 1) := by decide +kernel
theorem dX8_join_5 : decode cX8_join 5 = .ok (.iconst 0, 1) := by decide +kernel
theorem dX8_join_6 : decode cX8_join 6 = .ok (.iconst 0, 1) := by decide +kernel
theorem dX8_join_7 : decode cX8_join 7 = .ok (.invokevirtual 36, 3) := by decide +kernel
theorem dX8_join_10 : decode cX8_join 10 = .ok (.ireturn, 1) := by decide +kernel
theorem dX8_part_0 : decode cX8_part 0 = .ok (.aload_n 0, 1) := by decide +kernel
theorem dX8_part_1 : decode cX8_part 1 = .ok (.bipush 10, 2) := by decide +kernel
theorem dX8_part_3 : decode cX8_part 3 = .ok (.iload_n 1, 1) := by decide +kernel
theorem dX8_part_4 : decode cX8_part 4 = .ok (.iconst 0, 1) := by decide +kernel
theorem dX8_part_5 : decode cX8_part 5 = .ok (.iconst 0, 1) := by decide +kernel
theorem dX8_part_6 : decode cX8_part 6 = .ok (.iconst 0, 1) := by decide +kernel
theorem dX8_part_7 : decode cX8_part 7 = .ok (.invokevirtual 36, 3) := by decide +kernel
theorem dX8_part_10 : decode cX8_part 10 = .ok (.ireturn, 1) := by decide +kernel
theorem dX8_setPriority_0 : decode cX8_setPriority 0 = .ok (.aload_n 0, 1) := by decide +kernel
theorem dX8_setPriority_1 : decode cX8_setPriority 1 = .ok (.bipush 11, 2) := by decide +kernel
theorem dX8_setPriority_3 : decode cX8_setPriority 3 = .ok (.iload_n 1, 1) := by decide +kernel
theorem dX8_setPriority_4 : decode cX8_setPriority 4 = .ok (.iload_n 2, 1) := by decide +kernel
theorem dX8_setPriority_5 : decode cX8_setPriority 5 = .ok (.iconst 0, 1) := by decide +kernel
theorem dX8_setPriority_6 : decode cX8_setPriority 6 = .ok (.iconst 0, 1) := by decide +kernel
theorem dX8_setPriority_7 : decode cX8_setPriority 7 = .ok (.invokevirtual 36, 3) := by decide +kernel
theorem dX8_setPriority_10 : decode cX8_setPriority 10 = .ok (.ireturn, 1) := by decide +kernel
theorem dX8_change_0 : decode cX8_change 0 = .ok (.aload_n 0, 1) := by decide +kernel
theorem dX8_change_1 : decode cX8_change 1 = .ok (.getfield 12, 3) := by decide +kernel
theorem dX8_change_4 : decode cX8_change 4 = .ok (.getfield 44, 3) := by decide +kernel
theorem dX8_change_7 : decode cX8_change 7 = .ok (.iload_n 1, 1) := by decide +kernel
theorem dX8_change_8 : decode cX8_change 8 = .ok (.iload_n 2, 1) := by decide +kernel
theorem dX8_change_9 : decode cX8_change 9 = .ok (.iload_n 3, 1) := by decide +kernel
theorem dX8_change_10 : decode cX8_change 10 = .ok (.iload 4, 2) := by decide +kernel
theorem dX8_change_12 : decode cX8_change 12 = .ok (.iload 5, 2) := by decide +kernel
theorem dX8_change_14 : decode cX8_change 14 = .ok (.invokevirtual 85, 3) := by decide +kernel
theorem dX8_change_17 : decode cX8_change 17 = .ok (.istore 6, 2) := by decide +kernel
theorem dX8_change_19 : decode cX8_change 19 = .ok (.iload 6, 2) := by decide +kernel
theorem dX8_change_21 : decode cX8_change 21 = .ok (.ifCond .eq 6, 3) := by decide +kernel
theorem dX8_change_24 : decode cX8_change 24 = .ok (.iload 6, 2) := by decide +kernel
theorem dX8_change_26 : decode cX8_change 26 = .ok (.ireturn, 1) := by decide +kernel
theorem dX8_change_27 : decode cX8_change 27 = .ok (.aload_n 0, 1) := by decide +kernel
theorem dX8_change_28 : decode cX8_change 28 = .ok (.getfield 12, 3) := by decide +kernel
theorem dX8_change_31 : decode cX8_change 31 = .ok (.getfield 88, 3) := by decide +kernel
theorem dX8_change_34 : decode cX8_change 34 = .ok (.aload_n 0, 1) := by decide +kernel
theorem dX8_change_35 : decode cX8_change 35 = .ok (.getfield 12, 3) := by decide +kernel
theorem dX8_change_38 : decode cX8_change 38 = .ok (.getfield 44, 3) := by decide +kernel
theorem dX8_change_41 : decode cX8_change 41 = .ok (.getfield 92, 3) := by decide +kernel
theorem dX8_change_44 : decode cX8_change 44 = .ok (.iload_n 1, 1) := by decide +kernel
theorem dX8_change_45 : decode cX8_change 45 = .ok (.iload_n 2, 1) := by decide +kernel
theorem dX8_change_46 : decode cX8_change 46 = .ok (.iload_n 3, 1) := by decide +kernel
theorem dX8_change_47 : decode cX8_change 47 = .ok (.iload 4, 2) := by decide +kernel
theorem dX8_change_49 : decode cX8_change 49 = .ok (.iload 5, 2) := by decide +kernel
theorem dX8_change_51 : decode cX8_change 51 = .ok (.invokevirtual 95, 3) := by decide +kernel
theorem dX8_change_54 : decode cX8_change 54 = .ok (.ifCond .ne 6, 3) := by decide +kernel
theorem dX8_change_57 : decode cX8_change 57 = .ok (.bipush (-6), 2) := by decide +kernel
theorem dX8_change_59 : decode cX8_change 59 = .ok (.ireturn, 1) := by decide +kernel
theorem dX8_change_60 : decode cX8_change 60 = .ok (.aload_n 0, 1) := by decide +kernel
theorem dX8_change_61 : decode cX8_change 61 = .ok (.getfield 12, 3) := by decide +kernel
theorem dX8_change_64 : decode cX8_change 64 = .ok (.getfield 44, 3) := by decide +kernel
theorem dX8_change_67 : decode cX8_change 67 = .ok (.iload_n 1, 1) := by decide +kernel
theorem dX8_change_68 : decode cX8_change 68 = .ok (.iload_n 2, 1) := by decide +kernel
theorem dX8_change_69 : decode cX8_change 69 = .ok (.iload_n 3, 1) := by decide +kernel
theorem dX8_change_70 : decode cX8_change 70 = .ok (.iload 4, 2) := by decide +kernel
theorem dX8_change_72 : decode cX8_change 72 = .ok (.iload 5, 2) := by decide +kernel
theorem dX8_change_74 : decode cX8_change 74 = .ok (.invokevirtual 101, 3) := by decide +kernel
theorem dX8_change_77 : decode cX8_change 77 = .ok (.ireturn, 1) := by decide +kernel
theorem dX8_pass_0 : decode cX8_pass 0 = .ok (.aload_n 0, 1) := by decide +kernel
theorem dX8_pass_1 : decode cX8_pass 1 = .ok (.getfield 12, 3) := by decide +kernel
theorem dX8_pass_4 : decode cX8_pass 4 = .ok (.getfield 44, 3) := by decide +kernel
theorem dX8_pass_7 : decode cX8_pass 7 = .ok (.astore_n 2, 1) := by decide +kernel
theorem dX8_pass_8 : decode cX8_pass 8 = .ok (.iload_n 1, 1) := by decide +kernel
theorem dX8_pass_9 : decode cX8_pass 9 = .ok (.iconst 1, 1) := by decide +kernel
theorem dX8_pass_10 : decode cX8_pass 10 = .ok (.sipush 10080, 3) := by decide +kernel
theorem dX8_pass_13 : decode cX8_pass 13 = .ok (.aload_n 2, 1) := by decide +kernel
theorem dX8_pass_14 : decode cX8_pass 14 = .ok (.getfield 92, 3) := by decide +kernel
theorem dX8_pass_17 : decode cX8_pass 17 = .ok (.isub, 1) := by decide +kernel
theorem dX8_pass_18 : decode cX8_pass 18 = .ok (.invokestatic 40, 3) := by decide +kernel
theorem dX8_pass_21 : decode cX8_pass 21 = .ok (.ifCond .ne 6, 3) := by decide +kernel
theorem dX8_pass_24 : decode cX8_pass 24 = .ok (.bipush (-4), 2) := by decide +kernel
theorem dX8_pass_26 : decode cX8_pass 26 = .ok (.ireturn, 1) := by decide +kernel
theorem dX8_pass_27 : decode cX8_pass 27 = .ok (.aload_n 2, 1) := by decide +kernel
theorem dX8_pass_28 : decode cX8_pass 28 = .ok (.getfield 104, 3) := by decide +kernel
theorem dX8_pass_31 : decode cX8_pass 31 = .ok (.invokevirtual 108, 3) := by decide +kernel
theorem dX8_pass_34 : decode cX8_pass 34 = .ok (.istore_n 3, 1) := by decide +kernel
theorem dX8_pass_35 : decode cX8_pass 35 = .ok (.aload_n 2, 1) := by decide +kernel
theorem dX8_pass_36 : decode cX8_pass 36 = .ok (.aload_n 2, 1) := by decide +kernel
theorem dX8_pass_37 : decode cX8_pass 37 = .ok (.getfield 92, 3) := by decide +kernel
theorem dX8_pass_40 : decode cX8_pass 40 = .ok (.iload_n 1, 1) := by decide +kernel
theorem dX8_pass_41 : decode cX8_pass 41 = .ok (.iadd, 1) := by decide +kernel
theorem dX8_pass_42 : decode cX8_pass 42 = .ok (.invokevirtual 114, 3) := by decide +kernel
theorem dX8_pass_45 : decode cX8_pass 45 = .ok (.aload_n 2, 1) := by decide +kernel
theorem dX8_pass_46 : decode cX8_pass 46 = .ok (.getfield 104, 3) := by decide +kernel
theorem dX8_pass_49 : decode cX8_pass 49 = .ok (.invokevirtual 108, 3) := by decide +kernel
theorem dX8_pass_52 : decode cX8_pass 52 = .ok (.iload_n 3, 1) := by decide +kernel
theorem dX8_pass_53 : decode cX8_pass 53 = .ok (.isub, 1) := by decide +kernel
theorem dX8_pass_54 : decode cX8_pass 54 = .ok (.ireturn, 1) := by decide +kernel
theorem dX8_now_0 : decode cX8_now 0 = .ok (.aload_n 0, 1) := by decide +kernel
theorem dX8_now_1 : decode cX8_now 1 = .ok (.getfield 12, 3) := by decide +kernel
theorem dX8_now_4 : decode cX8_now 4 = .ok (.getfield 44, 3) := by decide +kernel
theorem dX8_now_7 : decode cX8_now 7 = .ok (.getfield 92, 3) := by decide +kernel
theorem dX8_now_10 : decode cX8_now 10 = .ok (.ireturn, 1) := by decide +kernel
theorem dX8_ticketCount_0 : decode cX8_ticketCount 0 = .ok (.aload_n 0, 1) := by decide +kernel
theorem dX8_ticketCount_1 : decode cX8_ticketCount 1 = .ok (.getfield 12, 3) := by decide +kernel
theorem dX8_ticketCount_4 : decode cX8_ticketCount 4 = .ok (.getfield 44, 3) := by decide +kernel
theorem dX8_ticketCount_7 : decode cX8_ticketCount 7 = .ok (.getfield 104, 3) := by decide +kernel
theorem dX8_ticketCount_10 : decode cX8_ticketCount 10 = .ok (.getfield 117, 3) := by decide +kernel
theorem dX8_ticketCount_13 : decode cX8_ticketCount 13 = .ok (.ireturn, 1) := by decide +kernel
theorem dX8_stateOf_0 : decode cX8_stateOf 0 = .ok (.aload_n 0, 1) := by decide +kernel
theorem dX8_stateOf_1 : decode cX8_stateOf 1 = .ok (.aload_n 0, 1) := by decide +kernel
theorem dX8_stateOf_2 : decode cX8_stateOf 2 = .ok (.getfield 12, 3) := by decide +kernel
theorem dX8_stateOf_5 : decode cX8_stateOf 5 = .ok (.getfield 44, 3) := by decide +kernel
theorem dX8_stateOf_8 : decode cX8_stateOf 8 = .ok (.getfield 104, 3) := by decide +kernel
theorem dX8_stateOf_11 : decode cX8_stateOf 11 = .ok (.getfield 118, 3) := by decide +kernel
theorem dX8_stateOf_14 : decode cX8_stateOf 14 = .ok (.iload_n 1, 1) := by decide +kernel
theorem dX8_stateOf_15 : decode cX8_stateOf 15 = .ok (.invokevirtual 121, 3) := by decide +kernel
theorem dX8_stateOf_18 : decode cX8_stateOf 18 = .ok (.ireturn, 1) := by decide +kernel
theorem dX8_kindOf_0 : decode cX8_kindOf 0 = .ok (.aload_n 0, 1) := by decide +kernel
theorem dX8_kindOf_1 : decode cX8_kindOf 1 = .ok (.aload_n 0, 1) := by decide +kernel
theorem dX8_kindOf_2 : decode cX8_kindOf 2 = .ok (.getfield 12, 3) := by decide +kernel
theorem dX8_kindOf_5 : decode cX8_kindOf 5 = .ok (.getfield 44, 3) := by decide +kernel
theorem dX8_kindOf_8 : decode cX8_kindOf 8 = .ok (.getfield 104, 3) := by decide +kernel
theorem dX8_kindOf_11 : decode cX8_kindOf 11 = .ok (.getfield 125, 3) := by decide +kernel
theorem dX8_kindOf_14 : decode cX8_kindOf 14 = .ok (.iload_n 1, 1) := by decide +kernel
theorem dX8_kindOf_15 : decode cX8_kindOf 15 = .ok (.invokevirtual 121, 3) := by decide +kernel
theorem dX8_kindOf_18 : decode cX8_kindOf 18 = .ok (.ireturn, 1) := by decide +kernel
theorem dX8_levelOf_0 : decode cX8_levelOf 0 = .ok (.aload_n 0, 1) := by decide +kernel
theorem dX8_levelOf_1 : decode cX8_levelOf 1 = .ok (.aload_n 0, 1) := by decide +kernel
theorem dX8_levelOf_2 : decode cX8_levelOf 2 = .ok (.getfield 12, 3) := by decide +kernel
theorem dX8_levelOf_5 : decode cX8_levelOf 5 = .ok (.getfield 44, 3) := by decide +kernel
theorem dX8_levelOf_8 : decode cX8_levelOf 8 = .ok (.getfield 104, 3) := by decide +kernel
theorem dX8_levelOf_11 : decode cX8_levelOf 11 = .ok (.getfield 128, 3) := by decide +kernel
theorem dX8_levelOf_14 : decode cX8_levelOf 14 = .ok (.iload_n 1, 1) := by decide +kernel
theorem dX8_levelOf_15 : decode cX8_levelOf 15 = .ok (.invokevirtual 121, 3) := by decide +kernel
theorem dX8_levelOf_18 : decode cX8_levelOf 18 = .ok (.ireturn, 1) := by decide +kernel
theorem dX8_priorityOf_0 : decode cX8_priorityOf 0 = .ok (.aload_n 0, 1) := by decide +kernel
theorem dX8_priorityOf_1 : decode cX8_priorityOf 1 = .ok (.aload_n 0, 1) := by decide +kernel
theorem dX8_priorityOf_2 : decode cX8_priorityOf 2 = .ok (.getfield 12, 3) := by decide +kernel
theorem dX8_priorityOf_5 : decode cX8_priorityOf 5 = .ok (.getfield 44, 3) := by decide +kernel
theorem dX8_priorityOf_8 : decode cX8_priorityOf 8 = .ok (.getfield 104, 3) := by decide +kernel
theorem dX8_priorityOf_11 : decode cX8_priorityOf 11 = .ok (.getfield 131, 3) := by decide +kernel
theorem dX8_priorityOf_14 : decode cX8_priorityOf 14 = .ok (.iload_n 1, 1) := by decide +kernel
theorem dX8_priorityOf_15 : decode cX8_priorityOf 15 = .ok (.invokevirtual 121, 3) := by decide +kernel
theorem dX8_priorityOf_18 : decode cX8_priorityOf 18 = .ok (.ireturn, 1) := by decide +kernel
theorem dX8_progress_0 : decode cX8_progress 0 = .ok (.aload_n 0, 1) := by decide +kernel
theorem dX8_progress_1 : decode cX8_progress 1 = .ok (.aload_n 0, 1) := by decide +kernel
theorem dX8_progress_2 : decode cX8_progress 2 = .ok (.getfield 12, 3) := by decide +kernel
theorem dX8_progress_5 : decode cX8_progress 5 = .ok (.getfield 44, 3) := by decide +kernel
theorem dX8_progress_8 : decode cX8_progress 8 = .ok (.getfield 104, 3) := by decide +kernel
theorem dX8_progress_11 : decode cX8_progress 11 = .ok (.getfield 134, 3) := by decide +kernel
theorem dX8_progress_14 : decode cX8_progress 14 = .ok (.iload_n 1, 1) := by decide +kernel
theorem dX8_progress_15 : decode cX8_progress 15 = .ok (.invokevirtual 121, 3) := by decide +kernel
theorem dX8_progress_18 : decode cX8_progress 18 = .ok (.ireturn, 1) := by decide +kernel
theorem dX8_rootOf_0 : decode cX8_rootOf 0 = .ok (.aload_n 0, 1) := by decide +kernel
theorem dX8_rootOf_1 : decode cX8_rootOf 1 = .ok (.aload_n 0, 1) := by decide +kernel
theorem dX8_rootOf_2 : decode cX8_rootOf 2 = .ok (.getfield 12, 3) := by decide +kernel
theorem dX8_rootOf_5 : decode cX8_rootOf 5 = .ok (.getfield 44, 3) := by decide +kernel
theorem dX8_rootOf_8 : decode cX8_rootOf 8 = .ok (.getfield 104, 3) := by decide +kernel
theorem dX8_rootOf_11 : decode cX8_rootOf 11 = .ok (.getfield 137, 3) := by decide +kernel
theorem dX8_rootOf_14 : decode cX8_rootOf 14 = .ok (.iload_n 1, 1) := by decide +kernel
theorem dX8_rootOf_15 : decode cX8_rootOf 15 = .ok (.invokevirtual 121, 3) := by decide +kernel
theorem dX8_rootOf_18 : decode cX8_rootOf 18 = .ok (.ireturn, 1) := by decide +kernel
theorem dX8_twins_0 : decode cX8_twins 0 = .ok (.aload_n 0, 1) := by decide +kernel
theorem dX8_twins_1 : decode cX8_twins 1 = .ok (.getfield 12, 3) := by decide +kernel
theorem dX8_twins_4 : decode cX8_twins 4 = .ok (.getfield 44, 3) := by decide +kernel
theorem dX8_twins_7 : decode cX8_twins 7 = .ok (.getfield 104, 3) := by decide +kernel
theorem dX8_twins_10 : decode cX8_twins 10 = .ok (.astore_n 2, 1) := by decide +kernel
theorem dX8_twins_11 : decode cX8_twins 11 = .ok (.aload_n 2, 1) := by decide +kernel
theorem dX8_twins_12 : decode cX8_twins 12 = .ok (.iload_n 1, 1) := by decide +kernel
theorem dX8_twins_13 : decode cX8_twins 13 = .ok (.invokevirtual 140, 3) := by decide +kernel
theorem dX8_twins_16 : decode cX8_twins 16 = .ok (.ifCond .eq 11, 3) := by decide +kernel
theorem dX8_twins_19 : decode cX8_twins 19 = .ok (.aload_n 2, 1) := by decide +kernel
theorem dX8_twins_20 : decode cX8_twins 20 = .ok (.iload_n 1, 1) := by decide +kernel
theorem dX8_twins_21 : decode cX8_twins 21 = .ok (.invokevirtual 143, 3) := by decide +kernel
theorem dX8_twins_24 : decode cX8_twins 24 = .ok (.goto 6, 3) := by decide +kernel
theorem dX8_twins_27 : decode cX8_twins 27 = .ok (.ldc2_w 147, 3) := by decide +kernel
theorem dX8_twins_30 : decode cX8_twins 30 = .ok (.lreturn, 1) := by decide +kernel
theorem dX8_reportedAt_0 : decode cX8_reportedAt 0 = .ok (.aload_n 0, 1) := by decide +kernel
theorem dX8_reportedAt_1 : decode cX8_reportedAt 1 = .ok (.aload_n 0, 1) := by decide +kernel
theorem dX8_reportedAt_2 : decode cX8_reportedAt 2 = .ok (.getfield 12, 3) := by decide +kernel
theorem dX8_reportedAt_5 : decode cX8_reportedAt 5 = .ok (.getfield 44, 3) := by decide +kernel
theorem dX8_reportedAt_8 : decode cX8_reportedAt 8 = .ok (.getfield 104, 3) := by decide +kernel
theorem dX8_reportedAt_11 : decode cX8_reportedAt 11 = .ok (.getfield 149, 3) := by decide +kernel
theorem dX8_reportedAt_14 : decode cX8_reportedAt 14 = .ok (.iload_n 1, 1) := by decide +kernel
theorem dX8_reportedAt_15 : decode cX8_reportedAt 15 = .ok (.invokevirtual 121, 3) := by decide +kernel
theorem dX8_reportedAt_18 : decode cX8_reportedAt 18 = .ok (.ireturn, 1) := by decide +kernel
theorem dX8_answeredAt_0 : decode cX8_answeredAt 0 = .ok (.aload_n 0, 1) := by decide +kernel
theorem dX8_answeredAt_1 : decode cX8_answeredAt 1 = .ok (.aload_n 0, 1) := by decide +kernel
theorem dX8_answeredAt_2 : decode cX8_answeredAt 2 = .ok (.getfield 12, 3) := by decide +kernel
theorem dX8_answeredAt_5 : decode cX8_answeredAt 5 = .ok (.getfield 44, 3) := by decide +kernel
theorem dX8_answeredAt_8 : decode cX8_answeredAt 8 = .ok (.getfield 104, 3) := by decide +kernel
theorem dX8_answeredAt_11 : decode cX8_answeredAt 11 = .ok (.getfield 152, 3) := by decide +kernel
theorem dX8_answeredAt_14 : decode cX8_answeredAt 14 = .ok (.iload_n 1, 1) := by decide +kernel
theorem dX8_answeredAt_15 : decode cX8_answeredAt 15 = .ok (.invokevirtual 121, 3) := by decide +kernel
theorem dX8_answeredAt_18 : decode cX8_answeredAt 18 = .ok (.ireturn, 1) := by decide +kernel
theorem dX8_solvedAt_0 : decode cX8_solvedAt 0 = .ok (.aload_n 0, 1) := by decide +kernel
theorem dX8_solvedAt_1 : decode cX8_solvedAt 1 = .ok (.aload_n 0, 1) := by decide +kernel
theorem dX8_solvedAt_2 : decode cX8_solvedAt 2 = .ok (.getfield 12, 3) := by decide +kernel
theorem dX8_solvedAt_5 : decode cX8_solvedAt 5 = .ok (.getfield 44, 3) := by decide +kernel
theorem dX8_solvedAt_8 : decode cX8_solvedAt 8 = .ok (.getfield 104, 3) := by decide +kernel
theorem dX8_solvedAt_11 : decode cX8_solvedAt 11 = .ok (.getfield 155, 3) := by decide +kernel
theorem dX8_solvedAt_14 : decode cX8_solvedAt 14 = .ok (.iload_n 1, 1) := by decide +kernel
theorem dX8_solvedAt_15 : decode cX8_solvedAt 15 = .ok (.invokevirtual 121, 3) := by decide +kernel
theorem dX8_solvedAt_18 : decode cX8_solvedAt 18 = .ok (.ireturn, 1) := by decide +kernel
theorem dX8_responseClock_0 : decode cX8_responseClock 0 = .ok (.aload_n 0, 1) := by decide +kernel
theorem dX8_responseClock_1 : decode cX8_responseClock 1 = .ok (.aload_n 0, 1) := by decide +kernel
theorem dX8_responseClock_2 : decode cX8_responseClock 2 = .ok (.getfield 12, 3) := by decide +kernel
theorem dX8_responseClock_5 : decode cX8_responseClock 5 = .ok (.getfield 44, 3) := by decide +kernel
theorem dX8_responseClock_8 : decode cX8_responseClock 8 = .ok (.getfield 104, 3) := by decide +kernel
theorem dX8_responseClock_11 : decode cX8_responseClock 11 = .ok (.getfield 158, 3) := by decide +kernel
theorem dX8_responseClock_14 : decode cX8_responseClock 14 = .ok (.iload_n 1, 1) := by decide +kernel
theorem dX8_responseClock_15 : decode cX8_responseClock 15 = .ok (.invokevirtual 121, 3) := by decide +kernel
theorem dX8_responseClock_18 : decode cX8_responseClock 18 = .ok (.ireturn, 1) := by decide +kernel
theorem dX8_resolveClock_0 : decode cX8_resolveClock 0 = .ok (.aload_n 0, 1) := by decide +kernel
theorem dX8_resolveClock_1 : decode cX8_resolveClock 1 = .ok (.aload_n 0, 1) := by decide +kernel
theorem dX8_resolveClock_2 : decode cX8_resolveClock 2 = .ok (.getfield 12, 3) := by decide +kernel
theorem dX8_resolveClock_5 : decode cX8_resolveClock 5 = .ok (.getfield 44, 3) := by decide +kernel
theorem dX8_resolveClock_8 : decode cX8_resolveClock 8 = .ok (.getfield 104, 3) := by decide +kernel
theorem dX8_resolveClock_11 : decode cX8_resolveClock 11 = .ok (.getfield 161, 3) := by decide +kernel
theorem dX8_resolveClock_14 : decode cX8_resolveClock 14 = .ok (.iload_n 1, 1) := by decide +kernel
theorem dX8_resolveClock_15 : decode cX8_resolveClock 15 = .ok (.invokevirtual 121, 3) := by decide +kernel
theorem dX8_resolveClock_18 : decode cX8_resolveClock 18 = .ok (.ireturn, 1) := by decide +kernel
theorem dX8_ofTicket_0 : decode cX8_ofTicket 0 = .ok (.aload_n 0, 1) := by decide +kernel
theorem dX8_ofTicket_1 : decode cX8_ofTicket 1 = .ok (.getfield 12, 3) := by decide +kernel
theorem dX8_ofTicket_4 : decode cX8_ofTicket 4 = .ok (.getfield 44, 3) := by decide +kernel
theorem dX8_ofTicket_7 : decode cX8_ofTicket 7 = .ok (.getfield 104, 3) := by decide +kernel
theorem dX8_ofTicket_10 : decode cX8_ofTicket 10 = .ok (.iload_n 2, 1) := by decide +kernel
theorem dX8_ofTicket_11 : decode cX8_ofTicket 11 = .ok (.invokevirtual 140, 3) := by decide +kernel
theorem dX8_ofTicket_14 : decode cX8_ofTicket 14 = .ok (.ifCond .eq 9, 3) := by decide +kernel
theorem dX8_ofTicket_17 : decode cX8_ofTicket 17 = .ok (.aload_n 1, 1) := by decide +kernel
theorem dX8_ofTicket_18 : decode cX8_ofTicket 18 = .ok (.iload_n 2, 1) := by decide +kernel
theorem dX8_ofTicket_19 : decode cX8_ofTicket 19 = .ok (.iaload, 1) := by decide +kernel
theorem dX8_ofTicket_20 : decode cX8_ofTicket 20 = .ok (.goto 5, 3) := by decide +kernel
theorem dX8_ofTicket_23 : decode cX8_ofTicket 23 = .ok (.bipush (-2), 2) := by decide +kernel
theorem dX8_ofTicket_25 : decode cX8_ofTicket 25 = .ok (.ireturn, 1) := by decide +kernel
theorem dX8_queueLength_0 : decode cX8_queueLength 0 = .ok (.iload_n 1, 1) := by decide +kernel
theorem dX8_queueLength_1 : decode cX8_queueLength 1 = .ok (.iconst 0, 1) := by decide +kernel
theorem dX8_queueLength_2 : decode cX8_queueLength 2 = .ok (.iconst 3, 1) := by decide +kernel
theorem dX8_queueLength_3 : decode cX8_queueLength 3 = .ok (.invokestatic 40, 3) := by decide +kernel
theorem dX8_queueLength_6 : decode cX8_queueLength 6 = .ok (.ifCond .eq 21, 3) := by decide +kernel
theorem dX8_queueLength_9 : decode cX8_queueLength 9 = .ok (.aload_n 0, 1) := by decide +kernel
theorem dX8_queueLength_10 : decode cX8_queueLength 10 = .ok (.getfield 12, 3) := by decide +kernel
theorem dX8_queueLength_13 : decode cX8_queueLength 13 = .ok (.getfield 44, 3) := by decide +kernel
theorem dX8_queueLength_16 : decode cX8_queueLength 16 = .ok (.getfield 104, 3) := by decide +kernel
theorem dX8_queueLength_19 : decode cX8_queueLength 19 = .ok (.iload_n 1, 1) := by decide +kernel
theorem dX8_queueLength_20 : decode cX8_queueLength 20 = .ok (.iconst 0, 1) := by decide +kernel
theorem dX8_queueLength_21 : decode cX8_queueLength 21 = .ok (.invokevirtual 164, 3) := by decide +kernel
theorem dX8_queueLength_24 : decode cX8_queueLength 24 = .ok (.goto 5, 3) := by decide +kernel
theorem dX8_queueLength_27 : decode cX8_queueLength 27 = .ok (.bipush (-4), 2) := by decide +kernel
theorem dX8_queueLength_29 : decode cX8_queueLength 29 = .ok (.ireturn, 1) := by decide +kernel
theorem dX8_nextTicket_0 : decode cX8_nextTicket 0 = .ok (.iload_n 1, 1) := by decide +kernel
theorem dX8_nextTicket_1 : decode cX8_nextTicket 1 = .ok (.iconst 0, 1) := by decide +kernel
theorem dX8_nextTicket_2 : decode cX8_nextTicket 2 = .ok (.iconst 3, 1) := by decide +kernel
theorem dX8_nextTicket_3 : decode cX8_nextTicket 3 = .ok (.invokestatic 40, 3) := by decide +kernel
theorem dX8_nextTicket_6 : decode cX8_nextTicket 6 = .ok (.ifCond .eq 17, 3) := by decide +kernel
theorem dX8_nextTicket_9 : decode cX8_nextTicket 9 = .ok (.aload_n 0, 1) := by decide +kernel
theorem dX8_nextTicket_10 : decode cX8_nextTicket 10 = .ok (.getfield 12, 3) := by decide +kernel
theorem dX8_nextTicket_13 : decode cX8_nextTicket 13 = .ok (.getfield 44, 3) := by decide +kernel
theorem dX8_nextTicket_16 : decode cX8_nextTicket 16 = .ok (.iload_n 1, 1) := by decide +kernel
theorem dX8_nextTicket_17 : decode cX8_nextTicket 17 = .ok (.invokevirtual 167, 3) := by decide +kernel
theorem dX8_nextTicket_20 : decode cX8_nextTicket 20 = .ok (.goto 5, 3) := by decide +kernel
theorem dX8_nextTicket_23 : decode cX8_nextTicket 23 = .ok (.bipush (-4), 2) := by decide +kernel
theorem dX8_nextTicket_25 : decode cX8_nextTicket 25 = .ok (.ireturn, 1) := by decide +kernel
theorem dX8_busyAgents_0 : decode cX8_busyAgents 0 = .ok (.iload_n 1, 1) := by decide +kernel
theorem dX8_busyAgents_1 : decode cX8_busyAgents 1 = .ok (.iconst 0, 1) := by decide +kernel
theorem dX8_busyAgents_2 : decode cX8_busyAgents 2 = .ok (.iconst 3, 1) := by decide +kernel
theorem dX8_busyAgents_3 : decode cX8_busyAgents 3 = .ok (.invokestatic 40, 3) := by decide +kernel
theorem dX8_busyAgents_6 : decode cX8_busyAgents 6 = .ok (.ifCond .eq 21, 3) := by decide +kernel
theorem dX8_busyAgents_9 : decode cX8_busyAgents 9 = .ok (.aload_n 0, 1) := by decide +kernel
theorem dX8_busyAgents_10 : decode cX8_busyAgents 10 = .ok (.getfield 12, 3) := by decide +kernel
theorem dX8_busyAgents_13 : decode cX8_busyAgents 13 = .ok (.getfield 44, 3) := by decide +kernel
theorem dX8_busyAgents_16 : decode cX8_busyAgents 16 = .ok (.getfield 104, 3) := by decide +kernel
theorem dX8_busyAgents_19 : decode cX8_busyAgents 19 = .ok (.iload_n 1, 1) := by decide +kernel
theorem dX8_busyAgents_20 : decode cX8_busyAgents 20 = .ok (.iconst 1, 1) := by decide +kernel
theorem dX8_busyAgents_21 : decode cX8_busyAgents 21 = .ok (.invokevirtual 164, 3) := by decide +kernel
theorem dX8_busyAgents_24 : decode cX8_busyAgents 24 = .ok (.goto 5, 3) := by decide +kernel
theorem dX8_busyAgents_27 : decode cX8_busyAgents 27 = .ok (.bipush (-4), 2) := by decide +kernel
theorem dX8_busyAgents_29 : decode cX8_busyAgents 29 = .ok (.ireturn, 1) := by decide +kernel
theorem dX8_suggestRoot_0 : decode cX8_suggestRoot 0 = .ok (.aload_n 0, 1) := by decide +kernel
theorem dX8_suggestRoot_1 : decode cX8_suggestRoot 1 = .ok (.getfield 12, 3) := by decide +kernel
theorem dX8_suggestRoot_4 : decode cX8_suggestRoot 4 = .ok (.getfield 44, 3) := by decide +kernel
theorem dX8_suggestRoot_7 : decode cX8_suggestRoot 7 = .ok (.getfield 104, 3) := by decide +kernel
theorem dX8_suggestRoot_10 : decode cX8_suggestRoot 10 = .ok (.astore_n 2, 1) := by decide +kernel
theorem dX8_suggestRoot_11 : decode cX8_suggestRoot 11 = .ok (.aload_n 2, 1) := by decide +kernel
theorem dX8_suggestRoot_12 : decode cX8_suggestRoot 12 = .ok (.iload_n 1, 1) := by decide +kernel
theorem dX8_suggestRoot_13 : decode cX8_suggestRoot 13 = .ok (.invokevirtual 140, 3) := by decide +kernel
theorem dX8_suggestRoot_16 : decode cX8_suggestRoot 16 = .ok (.ifCond .eq 11, 3) := by decide +kernel
theorem dX8_suggestRoot_19 : decode cX8_suggestRoot 19 = .ok (.aload_n 2, 1) := by decide +kernel
theorem dX8_suggestRoot_20 : decode cX8_suggestRoot 20 = .ok (.iload_n 1, 1) := by decide +kernel
theorem dX8_suggestRoot_21 : decode cX8_suggestRoot 21 = .ok (.invokevirtual 171, 3) := by decide +kernel
theorem dX8_suggestRoot_24 : decode cX8_suggestRoot 24 = .ok (.goto 5, 3) := by decide +kernel
theorem dX8_suggestRoot_27 : decode cX8_suggestRoot 27 = .ok (.bipush (-2), 2) := by decide +kernel
theorem dX8_suggestRoot_29 : decode cX8_suggestRoot 29 = .ok (.ireturn, 1) := by decide +kernel
theorem dX8_customerTickets_0 : decode cX8_customerTickets 0 = .ok (.iload_n 1, 1) := by decide +kernel
theorem dX8_customerTickets_1 : decode cX8_customerTickets 1 = .ok (.iconst 0, 1) := by decide +kernel
theorem dX8_customerTickets_2 : decode cX8_customerTickets 2 = .ok (.bipush 99, 2) := by decide +kernel
theorem dX8_customerTickets_4 : decode cX8_customerTickets 4 = .ok (.invokestatic 40, 3) := by decide +kernel
theorem dX8_customerTickets_7 : decode cX8_customerTickets 7 = .ok (.ifCond .eq 20, 3) := by decide +kernel
theorem dX8_customerTickets_10 : decode cX8_customerTickets 10 = .ok (.aload_n 0, 1) := by decide +kernel
theorem dX8_customerTickets_11 : decode cX8_customerTickets 11 = .ok (.getfield 12, 3) := by decide +kernel
theorem dX8_customerTickets_14 : decode cX8_customerTickets 14 = .ok (.getfield 44, 3) := by decide +kernel
theorem dX8_customerTickets_17 : decode cX8_customerTickets 17 = .ok (.getfield 104, 3) := by decide +kernel
theorem dX8_customerTickets_20 : decode cX8_customerTickets 20 = .ok (.iload_n 1, 1) := by decide +kernel
theorem dX8_customerTickets_21 : decode cX8_customerTickets 21 = .ok (.invokevirtual 174, 3) := by decide +kernel
theorem dX8_customerTickets_24 : decode cX8_customerTickets 24 = .ok (.goto 6, 3) := by decide +kernel
theorem dX8_customerTickets_27 : decode cX8_customerTickets 27 = .ok (.ldc2_w 177, 3) := by decide +kernel
theorem dX8_customerTickets_30 : decode cX8_customerTickets 30 = .ok (.lreturn, 1) := by decide +kernel
theorem dX8_responseBreaches_0 : decode cX8_responseBreaches 0 = .ok (.iload_n 1, 1) := by decide +kernel
theorem dX8_responseBreaches_1 : decode cX8_responseBreaches 1 = .ok (.iconst (-1), 1) := by decide +kernel
theorem dX8_responseBreaches_2 : decode cX8_responseBreaches 2 = .ok (.aload_n 0, 1) := by decide +kernel
theorem dX8_responseBreaches_3 : decode cX8_responseBreaches 3 = .ok (.getfield 12, 3) := by decide +kernel
theorem dX8_responseBreaches_6 : decode cX8_responseBreaches 6 = .ok (.getfield 44, 3) := by decide +kernel
theorem dX8_responseBreaches_9 : decode cX8_responseBreaches 9 = .ok (.getfield 68, 3) := by decide +kernel
theorem dX8_responseBreaches_12 : decode cX8_responseBreaches 12 = .ok (.getfield 78, 3) := by decide +kernel
theorem dX8_responseBreaches_15 : decode cX8_responseBreaches 15 = .ok (.iconst 1, 1) := by decide +kernel
theorem dX8_responseBreaches_16 : decode cX8_responseBreaches 16 = .ok (.isub, 1) := by decide +kernel
theorem dX8_responseBreaches_17 : decode cX8_responseBreaches 17 = .ok (.invokestatic 40, 3) := by decide +kernel
theorem dX8_responseBreaches_20 : decode cX8_responseBreaches 20 = .ok (.ifCond .eq 17, 3) := by decide +kernel
theorem dX8_responseBreaches_23 : decode cX8_responseBreaches 23 = .ok (.aload_n 0, 1) := by decide +kernel
theorem dX8_responseBreaches_24 : decode cX8_responseBreaches 24 = .ok (.getfield 12, 3) := by decide +kernel
theorem dX8_responseBreaches_27 : decode cX8_responseBreaches 27 = .ok (.getfield 44, 3) := by decide +kernel
theorem dX8_responseBreaches_30 : decode cX8_responseBreaches 30 = .ok (.iload_n 1, 1) := by decide +kernel
theorem dX8_responseBreaches_31 : decode cX8_responseBreaches 31 = .ok (.invokevirtual 179, 3) := by decide +kernel
theorem dX8_responseBreaches_34 : decode cX8_responseBreaches 34 = .ok (.goto 5, 3) := by decide +kernel
theorem dX8_responseBreaches_37 : decode cX8_responseBreaches 37 = .ok (.bipush (-3), 2) := by decide +kernel
theorem dX8_responseBreaches_39 : decode cX8_responseBreaches 39 = .ok (.ireturn, 1) := by decide +kernel
theorem dX8_resolveBreaches_0 : decode cX8_resolveBreaches 0 = .ok (.iload_n 1, 1) := by decide +kernel
theorem dX8_resolveBreaches_1 : decode cX8_resolveBreaches 1 = .ok (.iconst (-1), 1) := by decide +kernel
theorem dX8_resolveBreaches_2 : decode cX8_resolveBreaches 2 = .ok (.aload_n 0, 1) := by decide +kernel
theorem dX8_resolveBreaches_3 : decode cX8_resolveBreaches 3 = .ok (.getfield 12, 3) := by decide +kernel
theorem dX8_resolveBreaches_6 : decode cX8_resolveBreaches 6 = .ok (.getfield 44, 3) := by decide +kernel
theorem dX8_resolveBreaches_9 : decode cX8_resolveBreaches 9 = .ok (.getfield 68, 3) := by decide +kernel
theorem dX8_resolveBreaches_12 : decode cX8_resolveBreaches 12 = .ok (.getfield 78, 3) := by decide +kernel
theorem dX8_resolveBreaches_15 : decode cX8_resolveBreaches 15 = .ok (.iconst 1, 1) := by decide +kernel
theorem dX8_resolveBreaches_16 : decode cX8_resolveBreaches 16 = .ok (.isub, 1) := by decide +kernel
theorem dX8_resolveBreaches_17 : decode cX8_resolveBreaches 17 = .ok (.invokestatic 40, 3) := by decide +kernel
theorem dX8_resolveBreaches_20 : decode cX8_resolveBreaches 20 = .ok (.ifCond .eq 17, 3) := by decide +kernel
theorem dX8_resolveBreaches_23 : decode cX8_resolveBreaches 23 = .ok (.aload_n 0, 1) := by decide +kernel
theorem dX8_resolveBreaches_24 : decode cX8_resolveBreaches 24 = .ok (.getfield 12, 3) := by decide +kernel
theorem dX8_resolveBreaches_27 : decode cX8_resolveBreaches 27 = .ok (.getfield 44, 3) := by decide +kernel
theorem dX8_resolveBreaches_30 : decode cX8_resolveBreaches 30 = .ok (.iload_n 1, 1) := by decide +kernel
theorem dX8_resolveBreaches_31 : decode cX8_resolveBreaches 31 = .ok (.invokevirtual 182, 3) := by decide +kernel
theorem dX8_resolveBreaches_34 : decode cX8_resolveBreaches 34 = .ok (.goto 5, 3) := by decide +kernel
theorem dX8_resolveBreaches_37 : decode cX8_resolveBreaches 37 = .ok (.bipush (-3), 2) := by decide +kernel
theorem dX8_resolveBreaches_39 : decode cX8_resolveBreaches 39 = .ok (.ireturn, 1) := by decide +kernel
theorem dX8_resolvePercentile_0 : decode cX8_resolvePercentile 0 = .ok (.iload_n 1, 1) := by decide +kernel
theorem dX8_resolvePercentile_1 : decode cX8_resolvePercentile 1 = .ok (.iconst 1, 1) := by decide +kernel
theorem dX8_resolvePercentile_2 : decode cX8_resolvePercentile 2 = .ok (.bipush 100, 2) := by decide +kernel
theorem dX8_resolvePercentile_4 : decode cX8_resolvePercentile 4 = .ok (.invokestatic 40, 3) := by decide +kernel
theorem dX8_resolvePercentile_7 : decode cX8_resolvePercentile 7 = .ok (.ifCond .ne 6, 3) := by decide +kernel
theorem dX8_resolvePercentile_10 : decode cX8_resolvePercentile 10 = .ok (.bipush (-4), 2) := by decide +kernel
theorem dX8_resolvePercentile_12 : decode cX8_resolvePercentile 12 = .ok (.ireturn, 1) := by decide +kernel
theorem dX8_resolvePercentile_13 : decode cX8_resolvePercentile 13 = .ok (.aload_n 0, 1) := by decide +kernel
theorem dX8_resolvePercentile_14 : decode cX8_resolvePercentile 14 = .ok (.getfield 12, 3) := by decide +kernel
theorem dX8_resolvePercentile_17 : decode cX8_resolvePercentile 17 = .ok (.getfield 44, 3) := by decide +kernel
theorem dX8_resolvePercentile_20 : decode cX8_resolvePercentile 20 = .ok (.getfield 104, 3) := by decide +kernel
theorem dX8_resolvePercentile_23 : decode cX8_resolvePercentile 23 = .ok (.astore_n 2, 1) := by decide +kernel
theorem dX8_resolvePercentile_24 : decode cX8_resolvePercentile 24 = .ok (.aload_n 2, 1) := by decide +kernel
theorem dX8_resolvePercentile_25 : decode cX8_resolvePercentile 25 = .ok (.iload_n 1, 1) := by decide +kernel
theorem dX8_resolvePercentile_26 : decode cX8_resolvePercentile 26 = .ok (.aload_n 2, 1) := by decide +kernel
theorem dX8_resolvePercentile_27 : decode cX8_resolvePercentile 27 = .ok (.invokevirtual 108, 3) := by decide +kernel
theorem dX8_resolvePercentile_30 : decode cX8_resolvePercentile 30 = .ok (.imul, 1) := by decide +kernel
theorem dX8_resolvePercentile_31 : decode cX8_resolvePercentile 31 = .ok (.bipush 99, 2) := by decide +kernel
theorem dX8_resolvePercentile_33 : decode cX8_resolvePercentile 33 = .ok (.iadd, 1) := by decide +kernel
theorem dX8_resolvePercentile_34 : decode cX8_resolvePercentile 34 = .ok (.bipush 100, 2) := by decide +kernel
theorem dX8_resolvePercentile_36 : decode cX8_resolvePercentile 36 = .ok (.idiv, 1) := by decide +kernel
theorem dX8_resolvePercentile_37 : decode cX8_resolvePercentile 37 = .ok (.invokevirtual 185, 3) := by decide +kernel
theorem dX8_resolvePercentile_40 : decode cX8_resolvePercentile 40 = .ok (.ireturn, 1) := by decide +kernel
theorem dX8_forecast_0 : decode cX8_forecast 0 = .ok (.aload_n 0, 1) := by decide +kernel
theorem dX8_forecast_1 : decode cX8_forecast 1 = .ok (.getfield 12, 3) := by decide +kernel
theorem dX8_forecast_4 : decode cX8_forecast 4 = .ok (.getfield 44, 3) := by decide +kernel
theorem dX8_forecast_7 : decode cX8_forecast 7 = .ok (.getfield 104, 3) := by decide +kernel
theorem dX8_forecast_10 : decode cX8_forecast 10 = .ok (.iload_n 1, 1) := by decide +kernel
theorem dX8_forecast_11 : decode cX8_forecast 11 = .ok (.invokevirtual 140, 3) := by decide +kernel
theorem dX8_forecast_14 : decode cX8_forecast 14 = .ok (.ifCond .ne 6, 3) := by decide +kernel
theorem dX8_forecast_17 : decode cX8_forecast 17 = .ok (.bipush (-2), 2) := by decide +kernel
theorem dX8_forecast_19 : decode cX8_forecast 19 = .ok (.ireturn, 1) := by decide +kernel
theorem dX8_forecast_20 : decode cX8_forecast 20 = .ok (.aload_n 0, 1) := by decide +kernel
theorem dX8_forecast_21 : decode cX8_forecast 21 = .ok (.getfield 25, 3) := by decide +kernel
theorem dX8_forecast_24 : decode cX8_forecast 24 = .ok (.aload_n 0, 1) := by decide +kernel
theorem dX8_forecast_25 : decode cX8_forecast 25 = .ok (.getfield 12, 3) := by decide +kernel
theorem dX8_forecast_28 : decode cX8_forecast 28 = .ok (.getfield 44, 3) := by decide +kernel
theorem dX8_forecast_31 : decode cX8_forecast 31 = .ok (.invokevirtual 188, 3) := by decide +kernel
theorem dX8_forecast_34 : decode cX8_forecast 34 = .ok (.aload_n 0, 1) := by decide +kernel
theorem dX8_forecast_35 : decode cX8_forecast 35 = .ok (.getfield 25, 3) := by decide +kernel
theorem dX8_forecast_38 : decode cX8_forecast 38 = .ok (.sipush 10080, 3) := by decide +kernel
theorem dX8_forecast_41 : decode cX8_forecast 41 = .ok (.invokevirtual 114, 3) := by decide +kernel
theorem dX8_forecast_44 : decode cX8_forecast 44 = .ok (.aload_n 0, 1) := by decide +kernel
theorem dX8_forecast_45 : decode cX8_forecast 45 = .ok (.getfield 25, 3) := by decide +kernel
theorem dX8_forecast_48 : decode cX8_forecast 48 = .ok (.getfield 104, 3) := by decide +kernel
theorem dX8_forecast_51 : decode cX8_forecast 51 = .ok (.getfield 155, 3) := by decide +kernel
theorem dX8_forecast_54 : decode cX8_forecast 54 = .ok (.iload_n 1, 1) := by decide +kernel
theorem dX8_forecast_55 : decode cX8_forecast 55 = .ok (.iaload, 1) := by decide +kernel
theorem dX8_forecast_56 : decode cX8_forecast 56 = .ok (.ireturn, 1) := by decide +kernel
theorem dX8_breachesAhead_0 : decode cX8_breachesAhead 0 = .ok (.aload_n 0, 1) := by decide +kernel
theorem dX8_breachesAhead_1 : decode cX8_breachesAhead 1 = .ok (.getfield 25, 3) := by decide +kernel
theorem dX8_breachesAhead_4 : decode cX8_breachesAhead 4 = .ok (.aload_n 0, 1) := by decide +kernel
theorem dX8_breachesAhead_5 : decode cX8_breachesAhead 5 = .ok (.getfield 12, 3) := by decide +kernel
theorem dX8_breachesAhead_8 : decode cX8_breachesAhead 8 = .ok (.getfield 44, 3) := by decide +kernel
theorem dX8_breachesAhead_11 : decode cX8_breachesAhead 11 = .ok (.invokevirtual 188, 3) := by decide +kernel
theorem dX8_breachesAhead_14 : decode cX8_breachesAhead 14 = .ok (.aload_n 0, 1) := by decide +kernel
theorem dX8_breachesAhead_15 : decode cX8_breachesAhead 15 = .ok (.getfield 25, 3) := by decide +kernel
theorem dX8_breachesAhead_18 : decode cX8_breachesAhead 18 = .ok (.sipush 10080, 3) := by decide +kernel
theorem dX8_breachesAhead_21 : decode cX8_breachesAhead 21 = .ok (.invokevirtual 114, 3) := by decide +kernel
theorem dX8_breachesAhead_24 : decode cX8_breachesAhead 24 = .ok (.aload_n 0, 1) := by decide +kernel
theorem dX8_breachesAhead_25 : decode cX8_breachesAhead 25 = .ok (.getfield 25, 3) := by decide +kernel
theorem dX8_breachesAhead_28 : decode cX8_breachesAhead 28 = .ok (.invokevirtual 192, 3) := by decide +kernel
theorem dX8_breachesAhead_31 : decode cX8_breachesAhead 31 = .ok (.aload_n 0, 1) := by decide +kernel
theorem dX8_breachesAhead_32 : decode cX8_breachesAhead 32 = .ok (.getfield 12, 3) := by decide +kernel
theorem dX8_breachesAhead_35 : decode cX8_breachesAhead 35 = .ok (.getfield 44, 3) := by decide +kernel
theorem dX8_breachesAhead_38 : decode cX8_breachesAhead 38 = .ok (.invokevirtual 192, 3) := by decide +kernel
theorem dX8_breachesAhead_41 : decode cX8_breachesAhead 41 = .ok (.isub, 1) := by decide +kernel
theorem dX8_breachesAhead_42 : decode cX8_breachesAhead 42 = .ok (.ireturn, 1) := by decide +kernel
theorem dX8_breachesWith_0 : decode cX8_breachesWith 0 = .ok (.iload_n 1, 1) := by decide +kernel
theorem dX8_breachesWith_1 : decode cX8_breachesWith 1 = .ok (.iconst 0, 1) := by decide +kernel
theorem dX8_breachesWith_2 : decode cX8_breachesWith 2 = .ok (.iconst 3, 1) := by decide +kernel
theorem dX8_breachesWith_3 : decode cX8_breachesWith 3 = .ok (.invokestatic 40, 3) := by decide +kernel
theorem dX8_breachesWith_6 : decode cX8_breachesWith 6 = .ok (.ifCond .eq 13, 3) := by decide +kernel
theorem dX8_breachesWith_9 : decode cX8_breachesWith 9 = .ok (.iload_n 2, 1) := by decide +kernel
theorem dX8_breachesWith_10 : decode cX8_breachesWith 10 = .ok (.iconst 0, 1) := by decide +kernel
theorem dX8_breachesWith_11 : decode cX8_breachesWith 11 = .ok (.bipush 9, 2) := by decide +kernel
theorem dX8_breachesWith_13 : decode cX8_breachesWith 13 = .ok (.invokestatic 40, 3) := by decide +kernel
theorem dX8_breachesWith_16 : decode cX8_breachesWith 16 = .ok (.ifCond .ne 6, 3) := by decide +kernel
theorem dX8_breachesWith_19 : decode cX8_breachesWith 19 = .ok (.bipush (-4), 2) := by decide +kernel
theorem dX8_breachesWith_21 : decode cX8_breachesWith 21 = .ok (.ireturn, 1) := by decide +kernel
theorem dX8_breachesWith_22 : decode cX8_breachesWith 22 = .ok (.aload_n 0, 1) := by decide +kernel
theorem dX8_breachesWith_23 : decode cX8_breachesWith 23 = .ok (.iload_n 1, 1) := by decide +kernel
theorem dX8_breachesWith_24 : decode cX8_breachesWith 24 = .ok (.iload_n 2, 1) := by decide +kernel
theorem dX8_breachesWith_25 : decode cX8_breachesWith 25 = .ok (.invokevirtual 195, 3) := by decide +kernel
theorem dX8_breachesWith_28 : decode cX8_breachesWith 28 = .ok (.ireturn, 1) := by decide +kernel
theorem dX8_leastAgents_0 : decode cX8_leastAgents 0 = .ok (.iload_n 1, 1) := by decide +kernel
theorem dX8_leastAgents_1 : decode cX8_leastAgents 1 = .ok (.iconst 0, 1) := by decide +kernel
theorem dX8_leastAgents_2 : decode cX8_leastAgents 2 = .ok (.iconst 3, 1) := by decide +kernel
theorem dX8_leastAgents_3 : decode cX8_leastAgents 3 = .ok (.invokestatic 40, 3) := by decide +kernel
theorem dX8_leastAgents_6 : decode cX8_leastAgents 6 = .ok (.ifCond .ne 6, 3) := by decide +kernel
theorem dX8_leastAgents_9 : decode cX8_leastAgents 9 = .ok (.bipush (-4), 2) := by decide +kernel
theorem dX8_leastAgents_11 : decode cX8_leastAgents 11 = .ok (.ireturn, 1) := by decide +kernel
theorem dX8_leastAgents_12 : decode cX8_leastAgents 12 = .ok (.iconst 0, 1) := by decide +kernel
theorem dX8_leastAgents_13 : decode cX8_leastAgents 13 = .ok (.istore_n 2, 1) := by decide +kernel
theorem dX8_leastAgents_14 : decode cX8_leastAgents 14 = .ok (.iload_n 2, 1) := by decide +kernel
theorem dX8_leastAgents_15 : decode cX8_leastAgents 15 = .ok (.bipush 9, 2) := by decide +kernel
theorem dX8_leastAgents_17 : decode cX8_leastAgents 17 = .ok (.if_icmp .gt 20, 3) := by decide +kernel
theorem dX8_leastAgents_20 : decode cX8_leastAgents 20 = .ok (.aload_n 0, 1) := by decide +kernel
theorem dX8_leastAgents_21 : decode cX8_leastAgents 21 = .ok (.iload_n 1, 1) := by decide +kernel
theorem dX8_leastAgents_22 : decode cX8_leastAgents 22 = .ok (.iload_n 2, 1) := by decide +kernel
theorem dX8_leastAgents_23 : decode cX8_leastAgents 23 = .ok (.invokevirtual 195, 3) := by decide +kernel
theorem dX8_leastAgents_26 : decode cX8_leastAgents 26 = .ok (.ifCond .ne 5, 3) := by decide +kernel
theorem dX8_leastAgents_29 : decode cX8_leastAgents 29 = .ok (.iload_n 2, 1) := by decide +kernel
theorem dX8_leastAgents_30 : decode cX8_leastAgents 30 = .ok (.ireturn, 1) := by decide +kernel
theorem dX8_leastAgents_31 : decode cX8_leastAgents 31 = .ok (.iinc 2 1, 3) := by decide +kernel
theorem dX8_leastAgents_34 : decode cX8_leastAgents 34 = .ok (.goto (-20), 3) := by decide +kernel
theorem dX8_leastAgents_37 : decode cX8_leastAgents 37 = .ok (.iconst (-1), 1) := by decide +kernel
theorem dX8_leastAgents_38 : decode cX8_leastAgents 38 = .ok (.ireturn, 1) := by decide +kernel
theorem dX8_historyLength_0 : decode cX8_historyLength 0 = .ok (.aload_n 0, 1) := by decide +kernel
theorem dX8_historyLength_1 : decode cX8_historyLength 1 = .ok (.getfield 12, 3) := by decide +kernel
theorem dX8_historyLength_4 : decode cX8_historyLength 4 = .ok (.getfield 88, 3) := by decide +kernel
theorem dX8_historyLength_7 : decode cX8_historyLength 7 = .ok (.getfield 198, 3) := by decide +kernel
theorem dX8_historyLength_10 : decode cX8_historyLength 10 = .ok (.ireturn, 1) := by decide +kernel
theorem dX8_breachesInReplay_0 : decode cX8_breachesInReplay 0 = .ok (.aload_n 0, 1) := by decide +kernel
theorem dX8_breachesInReplay_1 : decode cX8_breachesInReplay 1 = .ok (.getfield 25, 3) := by decide +kernel
theorem dX8_breachesInReplay_4 : decode cX8_breachesInReplay 4 = .ok (.invokevirtual 201, 3) := by decide +kernel
theorem dX8_breachesInReplay_7 : decode cX8_breachesInReplay 7 = .ok (.aload_n 0, 1) := by decide +kernel
theorem dX8_breachesInReplay_8 : decode cX8_breachesInReplay 8 = .ok (.getfield 25, 3) := by decide +kernel
theorem dX8_breachesInReplay_11 : decode cX8_breachesInReplay 11 = .ok (.getfield 68, 3) := by decide +kernel
theorem dX8_breachesInReplay_14 : decode cX8_breachesInReplay 14 = .ok (.aload_n 0, 1) := by decide +kernel
theorem dX8_breachesInReplay_15 : decode cX8_breachesInReplay 15 = .ok (.getfield 12, 3) := by decide +kernel
theorem dX8_breachesInReplay_18 : decode cX8_breachesInReplay 18 = .ok (.getfield 44, 3) := by decide +kernel
theorem dX8_breachesInReplay_21 : decode cX8_breachesInReplay 21 = .ok (.getfield 68, 3) := by decide +kernel
theorem dX8_breachesInReplay_24 : decode cX8_breachesInReplay 24 = .ok (.invokevirtual 204, 3) := by decide +kernel
theorem dX8_breachesInReplay_27 : decode cX8_breachesInReplay 27 = .ok (.aload_n 0, 1) := by decide +kernel
theorem dX8_breachesInReplay_28 : decode cX8_breachesInReplay 28 = .ok (.getfield 25, 3) := by decide +kernel
theorem dX8_breachesInReplay_31 : decode cX8_breachesInReplay 31 = .ok (.getfield 82, 3) := by decide +kernel
theorem dX8_breachesInReplay_34 : decode cX8_breachesInReplay 34 = .ok (.iload_n 1, 1) := by decide +kernel
theorem dX8_breachesInReplay_35 : decode cX8_breachesInReplay 35 = .ok (.iload_n 2, 1) := by decide +kernel
theorem dX8_breachesInReplay_36 : decode cX8_breachesInReplay 36 = .ok (.iastore, 1) := by decide +kernel
theorem dX8_breachesInReplay_37 : decode cX8_breachesInReplay 37 = .ok (.aload_n 0, 1) := by decide +kernel
theorem dX8_breachesInReplay_38 : decode cX8_breachesInReplay 38 = .ok (.getfield 12, 3) := by decide +kernel
theorem dX8_breachesInReplay_41 : decode cX8_breachesInReplay 41 = .ok (.getfield 88, 3) := by decide +kernel
theorem dX8_breachesInReplay_44 : decode cX8_breachesInReplay 44 = .ok (.astore_n 3, 1) := by decide +kernel
theorem dX8_breachesInReplay_45 : decode cX8_breachesInReplay 45 = .ok (.iconst 0, 1) := by decide +kernel
theorem dX8_breachesInReplay_46 : decode cX8_breachesInReplay 46 = .ok (.istore 4, 2) := by decide +kernel
theorem dX8_breachesInReplay_48 : decode cX8_breachesInReplay 48 = .ok (.iload 4, 2) := by decide +kernel
theorem dX8_breachesInReplay_50 : decode cX8_breachesInReplay 50 = .ok (.aload_n 3, 1) := by decide +kernel
theorem dX8_breachesInReplay_51 : decode cX8_breachesInReplay 51 = .ok (.getfield 198, 3) := by decide +kernel
theorem dX8_breachesInReplay_54 : decode cX8_breachesInReplay 54 = .ok (.if_icmp .ge 51, 3) := by decide +kernel
theorem dX8_breachesInReplay_57 : decode cX8_breachesInReplay 57 = .ok (.aload_n 0, 1) := by decide +kernel
theorem dX8_breachesInReplay_58 : decode cX8_breachesInReplay 58 = .ok (.getfield 25, 3) := by decide +kernel
theorem dX8_breachesInReplay_61 : decode cX8_breachesInReplay 61 = .ok (.aload_n 3, 1) := by decide +kernel
theorem dX8_breachesInReplay_62 : decode cX8_breachesInReplay 62 = .ok (.getfield 207, 3) := by decide +kernel
theorem dX8_breachesInReplay_65 : decode cX8_breachesInReplay 65 = .ok (.iload 4, 2) := by decide +kernel
theorem dX8_breachesInReplay_67 : decode cX8_breachesInReplay 67 = .ok (.iaload, 1) := by decide +kernel
theorem dX8_breachesInReplay_68 : decode cX8_breachesInReplay 68 = .ok (.invokevirtual 114, 3) := by decide +kernel
theorem dX8_breachesInReplay_71 : decode cX8_breachesInReplay 71 = .ok (.aload_n 3, 1) := by decide +kernel
theorem dX8_breachesInReplay_72 : decode cX8_breachesInReplay 72 = .ok (.getfield 209, 3) := by decide +kernel
theorem dX8_breachesInReplay_75 : decode cX8_breachesInReplay 75 = .ok (.iload 4, 2) := by decide +kernel
theorem dX8_breachesInReplay_77 : decode cX8_breachesInReplay 77 = .ok (.iaload, 1) := by decide +kernel
theorem dX8_breachesInReplay_78 : decode cX8_breachesInReplay 78 = .ok (.iconst 2, 1) := by decide +kernel
theorem dX8_breachesInReplay_79 : decode cX8_breachesInReplay 79 = .ok (.if_icmp .ne 14, 3) := by decide +kernel
theorem dX8_breachesInReplay_82 : decode cX8_breachesInReplay 82 = .ok (.aload_n 3, 1) := by decide +kernel
theorem dX8_breachesInReplay_83 : decode cX8_breachesInReplay 83 = .ok (.getfield 212, 3) := by decide +kernel
theorem dX8_breachesInReplay_86 : decode cX8_breachesInReplay 86 = .ok (.iload 4, 2) := by decide +kernel
theorem dX8_breachesInReplay_88 : decode cX8_breachesInReplay 88 = .ok (.iaload, 1) := by decide +kernel
theorem dX8_breachesInReplay_89 : decode cX8_breachesInReplay 89 = .ok (.iload_n 1, 1) := by decide +kernel
theorem dX8_breachesInReplay_90 : decode cX8_breachesInReplay 90 = .ok (.if_icmp .eq 9, 3) := by decide +kernel
theorem dX8_breachesInReplay_93 : decode cX8_breachesInReplay 93 = .ok (.aload_n 0, 1) := by decide +kernel
theorem dX8_breachesInReplay_94 : decode cX8_breachesInReplay 94 = .ok (.iload 4, 2) := by decide +kernel
theorem dX8_breachesInReplay_96 : decode cX8_breachesInReplay 96 = .ok (.invokevirtual 215, 3) := by decide +kernel
theorem dX8_breachesInReplay_99 : decode cX8_breachesInReplay 99 = .ok (.iinc 4 1, 3) := by decide +kernel
theorem dX8_breachesInReplay_102 : decode cX8_breachesInReplay 102 = .ok (.goto (-54), 3) := by decide +kernel
theorem dX8_breachesInReplay_105 : decode cX8_breachesInReplay 105 = .ok (.aload_n 0, 1) := by decide +kernel
theorem dX8_breachesInReplay_106 : decode cX8_breachesInReplay 106 = .ok (.getfield 25, 3) := by decide +kernel
theorem dX8_breachesInReplay_109 : decode cX8_breachesInReplay 109 = .ok (.aload_n 0, 1) := by decide +kernel
theorem dX8_breachesInReplay_110 : decode cX8_breachesInReplay 110 = .ok (.getfield 12, 3) := by decide +kernel
theorem dX8_breachesInReplay_113 : decode cX8_breachesInReplay 113 = .ok (.getfield 44, 3) := by decide +kernel
theorem dX8_breachesInReplay_116 : decode cX8_breachesInReplay 116 = .ok (.getfield 92, 3) := by decide +kernel
theorem dX8_breachesInReplay_119 : decode cX8_breachesInReplay 119 = .ok (.invokevirtual 114, 3) := by decide +kernel
theorem dX8_breachesInReplay_122 : decode cX8_breachesInReplay 122 = .ok (.aload_n 0, 1) := by decide +kernel
theorem dX8_breachesInReplay_123 : decode cX8_breachesInReplay 123 = .ok (.getfield 25, 3) := by decide +kernel
theorem dX8_breachesInReplay_126 : decode cX8_breachesInReplay 126 = .ok (.invokevirtual 192, 3) := by decide +kernel
theorem dX8_breachesInReplay_129 : decode cX8_breachesInReplay 129 = .ok (.ireturn, 1) := by decide +kernel
theorem dX8_repeatOnTrial_0 : decode cX8_repeatOnTrial 0 = .ok (.aload_n 0, 1) := by decide +kernel
theorem dX8_repeatOnTrial_1 : decode cX8_repeatOnTrial 1 = .ok (.getfield 12, 3) := by decide +kernel
theorem dX8_repeatOnTrial_4 : decode cX8_repeatOnTrial 4 = .ok (.getfield 88, 3) := by decide +kernel
theorem dX8_repeatOnTrial_7 : decode cX8_repeatOnTrial 7 = .ok (.astore_n 2, 1) := by decide +kernel
theorem dX8_repeatOnTrial_8 : decode cX8_repeatOnTrial 8 = .ok (.aload_n 2, 1) := by decide +kernel
theorem dX8_repeatOnTrial_9 : decode cX8_repeatOnTrial 9 = .ok (.getfield 209, 3) := by decide +kernel
theorem dX8_repeatOnTrial_12 : decode cX8_repeatOnTrial 12 = .ok (.iload_n 1, 1) := by decide +kernel
theorem dX8_repeatOnTrial_13 : decode cX8_repeatOnTrial 13 = .ok (.iaload, 1) := by decide +kernel
theorem dX8_repeatOnTrial_14 : decode cX8_repeatOnTrial 14 = .ok (.istore_n 3, 1) := by decide +kernel
theorem dX8_repeatOnTrial_15 : decode cX8_repeatOnTrial 15 = .ok (.aload_n 2, 1) := by decide +kernel
theorem dX8_repeatOnTrial_16 : decode cX8_repeatOnTrial 16 = .ok (.getfield 212, 3) := by decide +kernel
theorem dX8_repeatOnTrial_19 : decode cX8_repeatOnTrial 19 = .ok (.iload_n 1, 1) := by decide +kernel
theorem dX8_repeatOnTrial_20 : decode cX8_repeatOnTrial 20 = .ok (.iaload, 1) := by decide +kernel
theorem dX8_repeatOnTrial_21 : decode cX8_repeatOnTrial 21 = .ok (.istore 4, 2) := by decide +kernel
theorem dX8_repeatOnTrial_23 : decode cX8_repeatOnTrial 23 = .ok (.aload_n 2, 1) := by decide +kernel
theorem dX8_repeatOnTrial_24 : decode cX8_repeatOnTrial 24 = .ok (.getfield 218, 3) := by decide +kernel
theorem dX8_repeatOnTrial_27 : decode cX8_repeatOnTrial 27 = .ok (.iload_n 1, 1) := by decide +kernel
theorem dX8_repeatOnTrial_28 : decode cX8_repeatOnTrial 28 = .ok (.iaload, 1) := by decide +kernel
theorem dX8_repeatOnTrial_29 : decode cX8_repeatOnTrial 29 = .ok (.istore 5, 2) := by decide +kernel
theorem dX8_repeatOnTrial_31 : decode cX8_repeatOnTrial 31 = .ok (.aload_n 2, 1) := by decide +kernel
theorem dX8_repeatOnTrial_32 : decode cX8_repeatOnTrial 32 = .ok (.getfield 221, 3) := by decide +kernel
theorem dX8_repeatOnTrial_35 : decode cX8_repeatOnTrial 35 = .ok (.iload_n 1, 1) := by decide +kernel
theorem dX8_repeatOnTrial_36 : decode cX8_repeatOnTrial 36 = .ok (.iaload, 1) := by decide +kernel
theorem dX8_repeatOnTrial_37 : decode cX8_repeatOnTrial 37 = .ok (.istore 6, 2) := by decide +kernel
theorem dX8_repeatOnTrial_39 : decode cX8_repeatOnTrial 39 = .ok (.aload_n 2, 1) := by decide +kernel
theorem dX8_repeatOnTrial_40 : decode cX8_repeatOnTrial 40 = .ok (.getfield 224, 3) := by decide +kernel
theorem dX8_repeatOnTrial_43 : decode cX8_repeatOnTrial 43 = .ok (.iload_n 1, 1) := by decide +kernel
theorem dX8_repeatOnTrial_44 : decode cX8_repeatOnTrial 44 = .ok (.iaload, 1) := by decide +kernel
theorem dX8_repeatOnTrial_45 : decode cX8_repeatOnTrial 45 = .ok (.istore 7, 2) := by decide +kernel
theorem dX8_repeatOnTrial_47 : decode cX8_repeatOnTrial 47 = .ok (.aload_n 0, 1) := by decide +kernel
theorem dX8_repeatOnTrial_48 : decode cX8_repeatOnTrial 48 = .ok (.getfield 25, 3) := by decide +kernel
theorem dX8_repeatOnTrial_51 : decode cX8_repeatOnTrial 51 = .ok (.iload_n 3, 1) := by decide +kernel
theorem dX8_repeatOnTrial_52 : decode cX8_repeatOnTrial 52 = .ok (.iload 4, 2) := by decide +kernel
theorem dX8_repeatOnTrial_54 : decode cX8_repeatOnTrial 54 = .ok (.iload 5, 2) := by decide +kernel
theorem dX8_repeatOnTrial_56 : decode cX8_repeatOnTrial 56 = .ok (.iload 6, 2) := by decide +kernel
theorem dX8_repeatOnTrial_58 : decode cX8_repeatOnTrial 58 = .ok (.iload 7, 2) := by decide +kernel
theorem dX8_repeatOnTrial_60 : decode cX8_repeatOnTrial 60 = .ok (.invokevirtual 85, 3) := by decide +kernel
theorem dX8_repeatOnTrial_63 : decode cX8_repeatOnTrial 63 = .ok (.ifCond .ne 20, 3) := by decide +kernel
theorem dX8_repeatOnTrial_66 : decode cX8_repeatOnTrial 66 = .ok (.aload_n 0, 1) := by decide +kernel
theorem dX8_repeatOnTrial_67 : decode cX8_repeatOnTrial 67 = .ok (.getfield 25, 3) := by decide +kernel
theorem dX8_repeatOnTrial_70 : decode cX8_repeatOnTrial 70 = .ok (.iload_n 3, 1) := by decide +kernel
theorem dX8_repeatOnTrial_71 : decode cX8_repeatOnTrial 71 = .ok (.iload 4, 2) := by decide +kernel
theorem dX8_repeatOnTrial_73 : decode cX8_repeatOnTrial 73 = .ok (.iload 5, 2) := by decide +kernel
theorem dX8_repeatOnTrial_75 : decode cX8_repeatOnTrial 75 = .ok (.iload 6, 2) := by decide +kernel
theorem dX8_repeatOnTrial_77 : decode cX8_repeatOnTrial 77 = .ok (.iload 7, 2) := by decide +kernel
theorem dX8_repeatOnTrial_79 : decode cX8_repeatOnTrial 79 = .ok (.invokevirtual 101, 3) := by decide +kernel
theorem dX8_repeatOnTrial_82 : decode cX8_repeatOnTrial 82 = .ok (.pop, 1) := by decide +kernel
theorem dX8_repeatOnTrial_83 : decode cX8_repeatOnTrial 83 = .ok (.return_, 1) := by decide +kernel
theorem dX8_logSize_0 : decode cX8_logSize 0 = .ok (.aload_n 0, 1) := by decide +kernel
theorem dX8_logSize_1 : decode cX8_logSize 1 = .ok (.getfield 12, 3) := by decide +kernel
theorem dX8_logSize_4 : decode cX8_logSize 4 = .ok (.getfield 44, 3) := by decide +kernel
theorem dX8_logSize_7 : decode cX8_logSize 7 = .ok (.getfield 227, 3) := by decide +kernel
theorem dX8_logSize_10 : decode cX8_logSize 10 = .ok (.getfield 231, 3) := by decide +kernel
theorem dX8_logSize_13 : decode cX8_logSize 13 = .ok (.ireturn, 1) := by decide +kernel
theorem dX8_logTime_0 : decode cX8_logTime 0 = .ok (.aload_n 0, 1) := by decide +kernel
theorem dX8_logTime_1 : decode cX8_logTime 1 = .ok (.aload_n 0, 1) := by decide +kernel
theorem dX8_logTime_2 : decode cX8_logTime 2 = .ok (.getfield 12, 3) := by decide +kernel
theorem dX8_logTime_5 : decode cX8_logTime 5 = .ok (.getfield 44, 3) := by decide +kernel
theorem dX8_logTime_8 : decode cX8_logTime 8 = .ok (.getfield 227, 3) := by decide +kernel
theorem dX8_logTime_11 : decode cX8_logTime 11 = .ok (.getfield 236, 3) := by decide +kernel
theorem dX8_logTime_14 : decode cX8_logTime 14 = .ok (.iload_n 1, 1) := by decide +kernel
theorem dX8_logTime_15 : decode cX8_logTime 15 = .ok (.invokevirtual 237, 3) := by decide +kernel
theorem dX8_logTime_18 : decode cX8_logTime 18 = .ok (.ireturn, 1) := by decide +kernel
theorem dX8_logType_0 : decode cX8_logType 0 = .ok (.aload_n 0, 1) := by decide +kernel
theorem dX8_logType_1 : decode cX8_logType 1 = .ok (.aload_n 0, 1) := by decide +kernel
theorem dX8_logType_2 : decode cX8_logType 2 = .ok (.getfield 12, 3) := by decide +kernel
theorem dX8_logType_5 : decode cX8_logType 5 = .ok (.getfield 44, 3) := by decide +kernel
theorem dX8_logType_8 : decode cX8_logType 8 = .ok (.getfield 227, 3) := by decide +kernel
theorem dX8_logType_11 : decode cX8_logType 11 = .ok (.getfield 240, 3) := by decide +kernel
theorem dX8_logType_14 : decode cX8_logType 14 = .ok (.iload_n 1, 1) := by decide +kernel
theorem dX8_logType_15 : decode cX8_logType 15 = .ok (.invokevirtual 237, 3) := by decide +kernel
theorem dX8_logType_18 : decode cX8_logType 18 = .ok (.ireturn, 1) := by decide +kernel
theorem dX8_logTicket_0 : decode cX8_logTicket 0 = .ok (.aload_n 0, 1) := by decide +kernel
theorem dX8_logTicket_1 : decode cX8_logTicket 1 = .ok (.aload_n 0, 1) := by decide +kernel
theorem dX8_logTicket_2 : decode cX8_logTicket 2 = .ok (.getfield 12, 3) := by decide +kernel
theorem dX8_logTicket_5 : decode cX8_logTicket 5 = .ok (.getfield 44, 3) := by decide +kernel
theorem dX8_logTicket_8 : decode cX8_logTicket 8 = .ok (.getfield 227, 3) := by decide +kernel
theorem dX8_logTicket_11 : decode cX8_logTicket 11 = .ok (.getfield 241, 3) := by decide +kernel
theorem dX8_logTicket_14 : decode cX8_logTicket 14 = .ok (.iload_n 1, 1) := by decide +kernel
theorem dX8_logTicket_15 : decode cX8_logTicket 15 = .ok (.invokevirtual 237, 3) := by decide +kernel
theorem dX8_logTicket_18 : decode cX8_logTicket 18 = .ok (.ireturn, 1) := by decide +kernel
theorem dX8_logDetail_0 : decode cX8_logDetail 0 = .ok (.aload_n 0, 1) := by decide +kernel
theorem dX8_logDetail_1 : decode cX8_logDetail 1 = .ok (.aload_n 0, 1) := by decide +kernel
theorem dX8_logDetail_2 : decode cX8_logDetail 2 = .ok (.getfield 12, 3) := by decide +kernel
theorem dX8_logDetail_5 : decode cX8_logDetail 5 = .ok (.getfield 44, 3) := by decide +kernel
theorem dX8_logDetail_8 : decode cX8_logDetail 8 = .ok (.getfield 227, 3) := by decide +kernel
theorem dX8_logDetail_11 : decode cX8_logDetail 11 = .ok (.getfield 244, 3) := by decide +kernel
theorem dX8_logDetail_14 : decode cX8_logDetail 14 = .ok (.iload_n 1, 1) := by decide +kernel
theorem dX8_logDetail_15 : decode cX8_logDetail 15 = .ok (.invokevirtual 237, 3) := by decide +kernel
theorem dX8_logDetail_18 : decode cX8_logDetail 18 = .ok (.ireturn, 1) := by decide +kernel
theorem dX8_ofEvent_0 : decode cX8_ofEvent 0 = .ok (.iload_n 2, 1) := by decide +kernel
theorem dX8_ofEvent_1 : decode cX8_ofEvent 1 = .ok (.iconst 0, 1) := by decide +kernel
theorem dX8_ofEvent_2 : decode cX8_ofEvent 2 = .ok (.aload_n 0, 1) := by decide +kernel
theorem dX8_ofEvent_3 : decode cX8_ofEvent 3 = .ok (.getfield 12, 3) := by decide +kernel
theorem dX8_ofEvent_6 : decode cX8_ofEvent 6 = .ok (.getfield 44, 3) := by decide +kernel
theorem dX8_ofEvent_9 : decode cX8_ofEvent 9 = .ok (.getfield 227, 3) := by decide +kernel
theorem dX8_ofEvent_12 : decode cX8_ofEvent 12 = .ok (.getfield 231, 3) := by decide +kernel
theorem dX8_ofEvent_15 : decode cX8_ofEvent 15 = .ok (.iconst 1, 1) := by decide +kernel
theorem dX8_ofEvent_16 : decode cX8_ofEvent 16 = .ok (.isub, 1) := by decide +kernel
theorem dX8_ofEvent_17 : decode cX8_ofEvent 17 = .ok (.invokestatic 40, 3) := by decide +kernel
theorem dX8_ofEvent_20 : decode cX8_ofEvent 20 = .ok (.ifCond .eq 9, 3) := by decide +kernel
theorem dX8_ofEvent_23 : decode cX8_ofEvent 23 = .ok (.aload_n 1, 1) := by decide +kernel
theorem dX8_ofEvent_24 : decode cX8_ofEvent 24 = .ok (.iload_n 2, 1) := by decide +kernel
theorem dX8_ofEvent_25 : decode cX8_ofEvent 25 = .ok (.iaload, 1) := by decide +kernel
theorem dX8_ofEvent_26 : decode cX8_ofEvent 26 = .ok (.goto 5, 3) := by decide +kernel
theorem dX8_ofEvent_29 : decode cX8_ofEvent 29 = .ok (.bipush (-4), 2) := by decide +kernel
theorem dX8_ofEvent_31 : decode cX8_ofEvent 31 = .ok (.ireturn, 1) := by decide +kernel
theorem dX8_appendText_0 : decode cX8_appendText 0 = .ok (.aload_n 0, 1) := by decide +kernel
theorem dX8_appendText_1 : decode cX8_appendText 1 = .ok (.getfield 32, 3) := by decide +kernel
theorem dX8_appendText_4 : decode cX8_appendText 4 = .ok (.iload_n 1, 1) := by decide +kernel
theorem dX8_appendText_5 : decode cX8_appendText 5 = .ok (.invokevirtual 247, 3) := by decide +kernel
theorem dX8_appendText_8 : decode cX8_appendText 8 = .ok (.ifCond .eq 13, 3) := by decide +kernel
theorem dX8_appendText_11 : decode cX8_appendText 11 = .ok (.aload_n 0, 1) := by decide +kernel
theorem dX8_appendText_12 : decode cX8_appendText 12 = .ok (.getfield 32, 3) := by decide +kernel
theorem dX8_appendText_15 : decode cX8_appendText 15 = .ok (.getfield 250, 3) := by decide +kernel
theorem dX8_appendText_18 : decode cX8_appendText 18 = .ok (.goto 5, 3) := by decide +kernel
theorem dX8_appendText_21 : decode cX8_appendText 21 = .ok (.bipush (-6), 2) := by decide +kernel
theorem dX8_appendText_23 : decode cX8_appendText 23 = .ok (.ireturn, 1) := by decide +kernel
theorem dX8_truncateText_0 : decode cX8_truncateText 0 = .ok (.iload_n 1, 1) := by decide +kernel
theorem dX8_truncateText_1 : decode cX8_truncateText 1 = .ok (.iconst 0, 1) := by decide +kernel
theorem dX8_truncateText_2 : decode cX8_truncateText 2 = .ok (.aload_n 0, 1) := by decide +kernel
theorem dX8_truncateText_3 : decode cX8_truncateText 3 = .ok (.getfield 32, 3) := by decide +kernel
theorem dX8_truncateText_6 : decode cX8_truncateText 6 = .ok (.getfield 250, 3) := by decide +kernel
theorem dX8_truncateText_9 : decode cX8_truncateText 9 = .ok (.invokestatic 40, 3) := by decide +kernel
theorem dX8_truncateText_12 : decode cX8_truncateText 12 = .ok (.ifCond .ne 6, 3) := by decide +kernel
theorem dX8_truncateText_15 : decode cX8_truncateText 15 = .ok (.bipush (-4), 2) := by decide +kernel
theorem dX8_truncateText_17 : decode cX8_truncateText 17 = .ok (.ireturn, 1) := by decide +kernel
theorem dX8_truncateText_18 : decode cX8_truncateText 18 = .ok (.aload_n 0, 1) := by decide +kernel
theorem dX8_truncateText_19 : decode cX8_truncateText 19 = .ok (.getfield 32, 3) := by decide +kernel
theorem dX8_truncateText_22 : decode cX8_truncateText 22 = .ok (.iload_n 1, 1) := by decide +kernel
theorem dX8_truncateText_23 : decode cX8_truncateText 23 = .ok (.putfield 250, 3) := by decide +kernel
theorem dX8_truncateText_26 : decode cX8_truncateText 26 = .ok (.iload_n 1, 1) := by decide +kernel
theorem dX8_truncateText_27 : decode cX8_truncateText 27 = .ok (.ireturn, 1) := by decide +kernel
theorem dX8_runScript_0 : decode cX8_runScript 0 = .ok (.aload_n 0, 1) := by decide +kernel
theorem dX8_runScript_1 : decode cX8_runScript 1 = .ok (.getfield 32, 3) := by decide +kernel
theorem dX8_runScript_4 : decode cX8_runScript 4 = .ok (.iconst 0, 1) := by decide +kernel
theorem dX8_runScript_5 : decode cX8_runScript 5 = .ok (.putfield 251, 3) := by decide +kernel
theorem dX8_runScript_8 : decode cX8_runScript 8 = .ok (.aload_n 0, 1) := by decide +kernel
theorem dX8_runScript_9 : decode cX8_runScript 9 = .ok (.getfield 32, 3) := by decide +kernel
theorem dX8_runScript_12 : decode cX8_runScript 12 = .ok (.invokevirtual 254, 3) := by decide +kernel
theorem dX8_runScript_15 : decode cX8_runScript 15 = .ok (.istore_n 1, 1) := by decide +kernel
theorem dX8_runScript_16 : decode cX8_runScript 16 = .ok (.aload_n 0, 1) := by decide +kernel
theorem dX8_runScript_17 : decode cX8_runScript 17 = .ok (.getfield 32, 3) := by decide +kernel
theorem dX8_runScript_20 : decode cX8_runScript 20 = .ok (.iconst 0, 1) := by decide +kernel
theorem dX8_runScript_21 : decode cX8_runScript 21 = .ok (.putfield 250, 3) := by decide +kernel
theorem dX8_runScript_24 : decode cX8_runScript 24 = .ok (.iload_n 1, 1) := by decide +kernel
theorem dX8_runScript_25 : decode cX8_runScript 25 = .ok (.ifCond .ne 6, 3) := by decide +kernel
theorem dX8_runScript_28 : decode cX8_runScript 28 = .ok (.bipush (-7), 2) := by decide +kernel
theorem dX8_runScript_30 : decode cX8_runScript 30 = .ok (.ireturn, 1) := by decide +kernel
theorem dX8_runScript_31 : decode cX8_runScript 31 = .ok (.iconst 0, 1) := by decide +kernel
theorem dX8_runScript_32 : decode cX8_runScript 32 = .ok (.istore_n 2, 1) := by decide +kernel
theorem dX8_runScript_33 : decode cX8_runScript 33 = .ok (.iload_n 2, 1) := by decide +kernel
theorem dX8_runScript_34 : decode cX8_runScript 34 = .ok (.aload_n 0, 1) := by decide +kernel
theorem dX8_runScript_35 : decode cX8_runScript 35 = .ok (.getfield 32, 3) := by decide +kernel
theorem dX8_runScript_38 : decode cX8_runScript 38 = .ok (.getfield 258, 3) := by decide +kernel
theorem dX8_runScript_41 : decode cX8_runScript 41 = .ok (.if_icmp .ge 142, 3) := by decide +kernel
theorem dX8_runScript_44 : decode cX8_runScript 44 = .ok (.aload_n 0, 1) := by decide +kernel
theorem dX8_runScript_45 : decode cX8_runScript 45 = .ok (.getfield 32, 3) := by decide +kernel
theorem dX8_runScript_48 : decode cX8_runScript 48 = .ok (.getfield 261, 3) := by decide +kernel
theorem dX8_runScript_51 : decode cX8_runScript 51 = .ok (.iload_n 2, 1) := by decide +kernel
theorem dX8_runScript_52 : decode cX8_runScript 52 = .ok (.aaload, 1) := by decide +kernel
theorem dX8_runScript_53 : decode cX8_runScript 53 = .ok (.astore_n 3, 1) := by decide +kernel
theorem dX8_runScript_54 : decode cX8_runScript 54 = .ok (.aload_n 0, 1) := by decide +kernel
theorem dX8_runScript_55 : decode cX8_runScript 55 = .ok (.getfield 32, 3) := by decide +kernel
theorem dX8_runScript_58 : decode cX8_runScript 58 = .ok (.getfield 265, 3) := by decide +kernel
theorem dX8_runScript_61 : decode cX8_runScript 61 = .ok (.iload_n 2, 1) := by decide +kernel
theorem dX8_runScript_62 : decode cX8_runScript 62 = .ok (.iaload, 1) := by decide +kernel
theorem dX8_runScript_63 : decode cX8_runScript 63 = .ok (.lookupswitch 70 #[(1, 25), (12, 58)], 25) := by decide +kernel
theorem dX8_runScript_88 : decode cX8_runScript 88 = .ok (.aload_n 0, 1) := by decide +kernel
theorem dX8_runScript_89 : decode cX8_runScript 89 = .ok (.aload_n 3, 1) := by decide +kernel
theorem dX8_runScript_90 : decode cX8_runScript 90 = .ok (.iconst 0, 1) := by decide +kernel
theorem dX8_runScript_91 : decode cX8_runScript 91 = .ok (.iaload, 1) := by decide +kernel
theorem dX8_runScript_92 : decode cX8_runScript 92 = .ok (.aload_n 3, 1) := by decide +kernel
theorem dX8_runScript_93 : decode cX8_runScript 93 = .ok (.iconst 1, 1) := by decide +kernel
theorem dX8_runScript_94 : decode cX8_runScript 94 = .ok (.iaload, 1) := by decide +kernel
theorem dX8_runScript_95 : decode cX8_runScript 95 = .ok (.aload_n 3, 1) := by decide +kernel
theorem dX8_runScript_96 : decode cX8_runScript 96 = .ok (.iconst 2, 1) := by decide +kernel
theorem dX8_runScript_97 : decode cX8_runScript 97 = .ok (.iaload, 1) := by decide +kernel
theorem dX8_runScript_98 : decode cX8_runScript 98 = .ok (.aload_n 3, 1) := by decide +kernel
theorem dX8_runScript_99 : decode cX8_runScript 99 = .ok (.iconst 3, 1) := by decide +kernel
theorem dX8_runScript_100 : decode cX8_runScript 100 = .ok (.iaload, 1) := by decide +kernel
theorem dX8_runScript_101 : decode cX8_runScript 101 = .ok (.aload_n 3, 1) := by decide +kernel
theorem dX8_runScript_102 : decode cX8_runScript 102 = .ok (.iconst 4, 1) := by decide +kernel
theorem dX8_runScript_103 : decode cX8_runScript 103 = .ok (.iaload, 1) := by decide +kernel
theorem dX8_runScript_104 : decode cX8_runScript 104 = .ok (.aload_n 0, 1) := by decide +kernel
theorem dX8_runScript_105 : decode cX8_runScript 105 = .ok (.getfield 32, 3) := by decide +kernel
theorem dX8_runScript_108 : decode cX8_runScript 108 = .ok (.getfield 268, 3) := by decide +kernel
theorem dX8_runScript_111 : decode cX8_runScript 111 = .ok (.iload_n 2, 1) := by decide +kernel
theorem dX8_runScript_112 : decode cX8_runScript 112 = .ok (.baload, 1) := by decide +kernel
theorem dX8_runScript_113 : decode cX8_runScript 113 = .ok (.invokevirtual 272, 3) := by decide +kernel
theorem dX8_runScript_116 : decode cX8_runScript 116 = .ok (.istore 4, 2) := by decide +kernel
theorem dX8_runScript_118 : decode cX8_runScript 118 = .ok (.goto 42, 3) := by decide +kernel
theorem dX8_runScript_121 : decode cX8_runScript 121 = .ok (.aload_n 0, 1) := by decide +kernel
theorem dX8_runScript_122 : decode cX8_runScript 122 = .ok (.aload_n 3, 1) := by decide +kernel
theorem dX8_runScript_123 : decode cX8_runScript 123 = .ok (.iconst 0, 1) := by decide +kernel
theorem dX8_runScript_124 : decode cX8_runScript 124 = .ok (.iaload, 1) := by decide +kernel
theorem dX8_runScript_125 : decode cX8_runScript 125 = .ok (.invokevirtual 275, 3) := by decide +kernel
theorem dX8_runScript_128 : decode cX8_runScript 128 = .ok (.istore 4, 2) := by decide +kernel
theorem dX8_runScript_130 : decode cX8_runScript 130 = .ok (.goto 30, 3) := by decide +kernel
theorem dX8_runScript_133 : decode cX8_runScript 133 = .ok (.aload_n 0, 1) := by decide +kernel
theorem dX8_runScript_134 : decode cX8_runScript 134 = .ok (.aload_n 0, 1) := by decide +kernel
theorem dX8_runScript_135 : decode cX8_runScript 135 = .ok (.getfield 32, 3) := by decide +kernel
theorem dX8_runScript_138 : decode cX8_runScript 138 = .ok (.getfield 265, 3) := by decide +kernel
theorem dX8_runScript_141 : decode cX8_runScript 141 = .ok (.iload_n 2, 1) := by decide +kernel
theorem dX8_runScript_142 : decode cX8_runScript 142 = .ok (.iaload, 1) := by decide +kernel
theorem dX8_runScript_143 : decode cX8_runScript 143 = .ok (.aload_n 3, 1) := by decide +kernel
theorem dX8_runScript_144 : decode cX8_runScript 144 = .ok (.iconst 0, 1) := by decide +kernel
theorem dX8_runScript_145 : decode cX8_runScript 145 = .ok (.iaload, 1) := by decide +kernel
theorem dX8_runScript_146 : decode cX8_runScript 146 = .ok (.aload_n 3, 1) := by decide +kernel
theorem dX8_runScript_147 : decode cX8_runScript 147 = .ok (.iconst 1, 1) := by decide +kernel
theorem dX8_runScript_148 : decode cX8_runScript 148 = .ok (.iaload, 1) := by decide +kernel
theorem dX8_runScript_149 : decode cX8_runScript 149 = .ok (.aload_n 3, 1) := by decide +kernel
theorem dX8_runScript_150 : decode cX8_runScript 150 = .ok (.iconst 2, 1) := by decide +kernel
theorem dX8_runScript_151 : decode cX8_runScript 151 = .ok (.iaload, 1) := by decide +kernel
theorem dX8_runScript_152 : decode cX8_runScript 152 = .ok (.aload_n 3, 1) := by decide +kernel
theorem dX8_runScript_153 : decode cX8_runScript 153 = .ok (.iconst 3, 1) := by decide +kernel
theorem dX8_runScript_154 : decode cX8_runScript 154 = .ok (.iaload, 1) := by decide +kernel
theorem dX8_runScript_155 : decode cX8_runScript 155 = .ok (.invokevirtual 36, 3) := by decide +kernel
theorem dX8_runScript_158 : decode cX8_runScript 158 = .ok (.istore 4, 2) := by decide +kernel
theorem dX8_runScript_160 : decode cX8_runScript 160 = .ok (.iload 4, 2) := by decide +kernel
theorem dX8_runScript_162 : decode cX8_runScript 162 = .ok (.iconst (-1), 1) := by decide +kernel
theorem dX8_runScript_163 : decode cX8_runScript 163 = .ok (.if_icmp .ge 14, 3) := by decide +kernel
theorem dX8_runScript_166 : decode cX8_runScript 166 = .ok (.aload_n 0, 1) := by decide +kernel
theorem dX8_runScript_167 : decode cX8_runScript 167 = .ok (.getfield 32, 3) := by decide +kernel
theorem dX8_runScript_170 : decode cX8_runScript 170 = .ok (.iload 4, 2) := by decide +kernel
theorem dX8_runScript_172 : decode cX8_runScript 172 = .ok (.putfield 251, 3) := by decide +kernel
theorem dX8_runScript_175 : decode cX8_runScript 175 = .ok (.iload_n 2, 1) := by decide +kernel
theorem dX8_runScript_176 : decode cX8_runScript 176 = .ok (.ireturn, 1) := by decide +kernel
theorem dX8_runScript_177 : decode cX8_runScript 177 = .ok (.iinc 2 1, 3) := by decide +kernel
theorem dX8_runScript_180 : decode cX8_runScript 180 = .ok (.goto (-147), 3) := by decide +kernel
theorem dX8_runScript_183 : decode cX8_runScript 183 = .ok (.aload_n 0, 1) := by decide +kernel
theorem dX8_runScript_184 : decode cX8_runScript 184 = .ok (.getfield 32, 3) := by decide +kernel
theorem dX8_runScript_187 : decode cX8_runScript 187 = .ok (.getfield 258, 3) := by decide +kernel
theorem dX8_runScript_190 : decode cX8_runScript 190 = .ok (.ireturn, 1) := by decide +kernel
theorem dX8_errorCode_0 : decode cX8_errorCode 0 = .ok (.aload_n 0, 1) := by decide +kernel
theorem dX8_errorCode_1 : decode cX8_errorCode 1 = .ok (.getfield 32, 3) := by decide +kernel
theorem dX8_errorCode_4 : decode cX8_errorCode 4 = .ok (.getfield 278, 3) := by decide +kernel
theorem dX8_errorCode_7 : decode cX8_errorCode 7 = .ok (.ireturn, 1) := by decide +kernel
theorem dX8_errorPosition_0 : decode cX8_errorPosition 0 = .ok (.aload_n 0, 1) := by decide +kernel
theorem dX8_errorPosition_1 : decode cX8_errorPosition 1 = .ok (.getfield 32, 3) := by decide +kernel
theorem dX8_errorPosition_4 : decode cX8_errorPosition 4 = .ok (.getfield 281, 3) := by decide +kernel
theorem dX8_errorPosition_7 : decode cX8_errorPosition 7 = .ok (.ireturn, 1) := by decide +kernel
theorem dX8_scriptFailure_0 : decode cX8_scriptFailure 0 = .ok (.aload_n 0, 1) := by decide +kernel
theorem dX8_scriptFailure_1 : decode cX8_scriptFailure 1 = .ok (.getfield 32, 3) := by decide +kernel
theorem dX8_scriptFailure_4 : decode cX8_scriptFailure 4 = .ok (.getfield 251, 3) := by decide +kernel
theorem dX8_scriptFailure_7 : decode cX8_scriptFailure 7 = .ok (.ireturn, 1) := by decide +kernel
theorem dX8_save_0 : decode cX8_save 0 = .ok (.iload_n 1, 1) := by decide +kernel
theorem dX8_save_1 : decode cX8_save 1 = .ok (.iconst 0, 1) := by decide +kernel
theorem dX8_save_2 : decode cX8_save 2 = .ok (.iconst 1, 1) := by decide +kernel
theorem dX8_save_3 : decode cX8_save 3 = .ok (.invokestatic 40, 3) := by decide +kernel
theorem dX8_save_6 : decode cX8_save 6 = .ok (.ifCond .ne 5, 3) := by decide +kernel
theorem dX8_save_9 : decode cX8_save 9 = .ok (.iconst 0, 1) := by decide +kernel
theorem dX8_save_10 : decode cX8_save 10 = .ok (.ireturn, 1) := by decide +kernel
theorem dX8_save_11 : decode cX8_save 11 = .ok (.aload_n 0, 1) := by decide +kernel
theorem dX8_save_12 : decode cX8_save 12 = .ok (.getfield 16, 3) := by decide +kernel
theorem dX8_save_15 : decode cX8_save 15 = .ok (.iload_n 1, 1) := by decide +kernel
theorem dX8_save_16 : decode cX8_save 16 = .ok (.aaload, 1) := by decide +kernel
theorem dX8_save_17 : decode cX8_save 17 = .ok (.astore_n 2, 1) := by decide +kernel
theorem dX8_save_18 : decode cX8_save 18 = .ok (.aload_n 2, 1) := by decide +kernel
theorem dX8_save_19 : decode cX8_save 19 = .ok (.ifnonnull 18, 3) := by decide +kernel
theorem dX8_save_22 : decode cX8_save 22 = .ok (.new 9, 3) := by decide +kernel
theorem dX8_save_25 : decode cX8_save 25 = .ok (.dup, 1) := by decide +kernel
theorem dX8_save_26 : decode cX8_save 26 = .ok (.invokespecial 11, 3) := by decide +kernel
theorem dX8_save_29 : decode cX8_save 29 = .ok (.astore_n 2, 1) := by decide +kernel
theorem dX8_save_30 : decode cX8_save 30 = .ok (.aload_n 0, 1) := by decide +kernel
theorem dX8_save_31 : decode cX8_save 31 = .ok (.getfield 16, 3) := by decide +kernel
theorem dX8_save_34 : decode cX8_save 34 = .ok (.iload_n 1, 1) := by decide +kernel
theorem dX8_save_35 : decode cX8_save 35 = .ok (.aload_n 2, 1) := by decide +kernel
theorem dX8_save_36 : decode cX8_save 36 = .ok (.aastore, 1) := by decide +kernel
theorem dX8_save_37 : decode cX8_save 37 = .ok (.aload_n 2, 1) := by decide +kernel
theorem dX8_save_38 : decode cX8_save 38 = .ok (.aload_n 0, 1) := by decide +kernel
theorem dX8_save_39 : decode cX8_save 39 = .ok (.getfield 12, 3) := by decide +kernel
theorem dX8_save_42 : decode cX8_save 42 = .ok (.invokevirtual 284, 3) := by decide +kernel
theorem dX8_save_45 : decode cX8_save 45 = .ok (.iconst 1, 1) := by decide +kernel
theorem dX8_save_46 : decode cX8_save 46 = .ok (.ireturn, 1) := by decide +kernel
theorem dX8_restore_0 : decode cX8_restore 0 = .ok (.iload_n 1, 1) := by decide +kernel
theorem dX8_restore_1 : decode cX8_restore 1 = .ok (.iconst 0, 1) := by decide +kernel
theorem dX8_restore_2 : decode cX8_restore 2 = .ok (.iconst 1, 1) := by decide +kernel
theorem dX8_restore_3 : decode cX8_restore 3 = .ok (.invokestatic 40, 3) := by decide +kernel
theorem dX8_restore_6 : decode cX8_restore 6 = .ok (.ifCond .ne 5, 3) := by decide +kernel
theorem dX8_restore_9 : decode cX8_restore 9 = .ok (.iconst 0, 1) := by decide +kernel
theorem dX8_restore_10 : decode cX8_restore 10 = .ok (.ireturn, 1) := by decide +kernel
theorem dX8_restore_11 : decode cX8_restore 11 = .ok (.aload_n 0, 1) := by decide +kernel
theorem dX8_restore_12 : decode cX8_restore 12 = .ok (.getfield 16, 3) := by decide +kernel
theorem dX8_restore_15 : decode cX8_restore 15 = .ok (.iload_n 1, 1) := by decide +kernel
theorem dX8_restore_16 : decode cX8_restore 16 = .ok (.aaload, 1) := by decide +kernel
theorem dX8_restore_17 : decode cX8_restore 17 = .ok (.astore_n 2, 1) := by decide +kernel
theorem dX8_restore_18 : decode cX8_restore 18 = .ok (.aload_n 2, 1) := by decide +kernel
theorem dX8_restore_19 : decode cX8_restore 19 = .ok (.ifnonnull 5, 3) := by decide +kernel
theorem dX8_restore_22 : decode cX8_restore 22 = .ok (.iconst 0, 1) := by decide +kernel
theorem dX8_restore_23 : decode cX8_restore 23 = .ok (.ireturn, 1) := by decide +kernel
theorem dX8_restore_24 : decode cX8_restore 24 = .ok (.aload_n 0, 1) := by decide +kernel
theorem dX8_restore_25 : decode cX8_restore 25 = .ok (.getfield 12, 3) := by decide +kernel
theorem dX8_restore_28 : decode cX8_restore 28 = .ok (.aload_n 2, 1) := by decide +kernel
theorem dX8_restore_29 : decode cX8_restore 29 = .ok (.invokevirtual 284, 3) := by decide +kernel
theorem dX8_restore_32 : decode cX8_restore 32 = .ok (.iconst 1, 1) := by decide +kernel
theorem dX8_restore_33 : decode cX8_restore 33 = .ok (.ireturn, 1) := by decide +kernel
theorem dX8_within_0 : decode cX8_within 0 = .ok (.iload_n 0, 1) := by decide +kernel
theorem dX8_within_1 : decode cX8_within 1 = .ok (.iload_n 1, 1) := by decide +kernel
theorem dX8_within_2 : decode cX8_within 2 = .ok (.if_icmp .lt 12, 3) := by decide +kernel
theorem dX8_within_5 : decode cX8_within 5 = .ok (.iload_n 0, 1) := by decide +kernel
theorem dX8_within_6 : decode cX8_within 6 = .ok (.iload_n 2, 1) := by decide +kernel
theorem dX8_within_7 : decode cX8_within 7 = .ok (.if_icmp .gt 7, 3) := by decide +kernel
theorem dX8_within_10 : decode cX8_within 10 = .ok (.iconst 1, 1) := by decide +kernel
theorem dX8_within_11 : decode cX8_within 11 = .ok (.goto 4, 3) := by decide +kernel
theorem dX8_within_14 : decode cX8_within 14 = .ok (.iconst 0, 1) := by decide +kernel
theorem dX8_within_15 : decode cX8_within 15 = .ok (.ireturn, 1) := by decide +kernel
theorem dX9_init_0 : decode cX9_init 0 = .ok (.aload_n 0, 1) := by decide +kernel
theorem dX9_init_1 : decode cX9_init 1 = .ok (.invokespecial 1, 3) := by decide +kernel
theorem dX9_init_4 : decode cX9_init 4 = .ok (.aload_n 0, 1) := by decide +kernel
theorem dX9_init_5 : decode cX9_init 5 = .ok (.sipush 4619, 3) := by decide +kernel
theorem dX9_init_8 : decode cX9_init 8 = .ok (.newarray .int, 2) := by decide +kernel
theorem dX9_init_10 : decode cX9_init 10 = .ok (.putfield 7, 3) := by decide +kernel
theorem dX9_init_13 : decode cX9_init 13 = .ok (.aload_n 0, 1) := by decide +kernel
theorem dX9_init_14 : decode cX9_init 14 = .ok (.sipush 4619, 3) := by decide +kernel
theorem dX9_init_17 : decode cX9_init 17 = .ok (.newarray .int, 2) := by decide +kernel
theorem dX9_init_19 : decode cX9_init 19 = .ok (.putfield 13, 3) := by decide +kernel
theorem dX9_init_22 : decode cX9_init 22 = .ok (.aload_n 0, 1) := by decide +kernel
theorem dX9_init_23 : decode cX9_init 23 = .ok (.sipush 9238, 3) := by decide +kernel
theorem dX9_init_26 : decode cX9_init 26 = .ok (.newarray .int, 2) := by decide +kernel
theorem dX9_init_28 : decode cX9_init 28 = .ok (.putfield 16, 3) := by decide +kernel
theorem dX9_init_31 : decode cX9_init 31 = .ok (.aload_n 0, 1) := by decide +kernel
theorem dX9_init_32 : decode cX9_init 32 = .ok (.iconst 2, 1) := by decide +kernel
theorem dX9_init_33 : decode cX9_init 33 = .ok (.newarray .boolean, 2) := by decide +kernel
theorem dX9_init_35 : decode cX9_init 35 = .ok (.putfield 19, 3) := by decide +kernel
theorem dX9_init_38 : decode cX9_init 38 = .ok (.aload_n 0, 1) := by decide +kernel
theorem dX9_init_39 : decode cX9_init 39 = .ok (.sipush 400, 3) := by decide +kernel
theorem dX9_init_42 : decode cX9_init 42 = .ok (.newarray .int, 2) := by decide +kernel
theorem dX9_init_44 : decode cX9_init 44 = .ok (.putfield 23, 3) := by decide +kernel
theorem dX9_init_47 : decode cX9_init 47 = .ok (.aload_n 0, 1) := by decide +kernel
theorem dX9_init_48 : decode cX9_init 48 = .ok (.iconst (-1), 1) := by decide +kernel
theorem dX9_init_49 : decode cX9_init 49 = .ok (.putfield 26, 3) := by decide +kernel
theorem dX9_init_52 : decode cX9_init 52 = .ok (.aload_n 0, 1) := by decide +kernel
theorem dX9_init_53 : decode cX9_init 53 = .ok (.sipush 280, 3) := by decide +kernel
theorem dX9_init_56 : decode cX9_init 56 = .ok (.newarray .int, 2) := by decide +kernel
theorem dX9_init_58 : decode cX9_init 58 = .ok (.putfield 30, 3) := by decide +kernel
theorem dX9_init_61 : decode cX9_init 61 = .ok (.aload_n 0, 1) := by decide +kernel
theorem dX9_init_62 : decode cX9_init 62 = .ok (.invokevirtual 33, 3) := by decide +kernel
theorem dX9_init_65 : decode cX9_init 65 = .ok (.return_, 1) := by decide +kernel
theorem dX9_isBetween_0 : decode cX9_isBetween 0 = .ok (.iload_n 0, 1) := by decide +kernel
theorem dX9_isBetween_1 : decode cX9_isBetween 1 = .ok (.iload_n 1, 1) := by decide +kernel
theorem dX9_isBetween_2 : decode cX9_isBetween 2 = .ok (.if_icmp .lt 12, 3) := by decide +kernel
theorem dX9_isBetween_5 : decode cX9_isBetween 5 = .ok (.iload_n 0, 1) := by decide +kernel
theorem dX9_isBetween_6 : decode cX9_isBetween 6 = .ok (.iload_n 2, 1) := by decide +kernel
theorem dX9_isBetween_7 : decode cX9_isBetween 7 = .ok (.if_icmp .gt 7, 3) := by decide +kernel
theorem dX9_isBetween_10 : decode cX9_isBetween 10 = .ok (.iconst 1, 1) := by decide +kernel
theorem dX9_isBetween_11 : decode cX9_isBetween 11 = .ok (.goto 4, 3) := by decide +kernel
theorem dX9_isBetween_14 : decode cX9_isBetween 14 = .ok (.iconst 0, 1) := by decide +kernel
theorem dX9_isBetween_15 : decode cX9_isBetween 15 = .ok (.ireturn, 1) := by decide +kernel
theorem dX9_beginAtZero_0 : decode cX9_beginAtZero 0 = .ok (.aload_n 0, 1) := by decide +kernel
theorem dX9_beginAtZero_1 : decode cX9_beginAtZero 1 = .ok (.getfield 7, 3) := by decide +kernel
theorem dX9_beginAtZero_4 : decode cX9_beginAtZero 4 = .ok (.iconst 0, 1) := by decide +kernel
theorem dX9_beginAtZero_5 : decode cX9_beginAtZero 5 = .ok (.iconst 0, 1) := by decide +kernel
theorem dX9_beginAtZero_6 : decode cX9_beginAtZero 6 = .ok (.iastore, 1) := by decide +kernel
theorem dX9_beginAtZero_7 : decode cX9_beginAtZero 7 = .ok (.iconst 0, 1) := by decide +kernel
theorem dX9_beginAtZero_8 : decode cX9_beginAtZero 8 = .ok (.istore_n 1, 1) := by decide +kernel
theorem dX9_beginAtZero_9 : decode cX9_beginAtZero 9 = .ok (.iload_n 1, 1) := by decide +kernel
theorem dX9_beginAtZero_10 : decode cX9_beginAtZero 10 = .ok (.bipush 7, 2) := by decide +kernel
theorem dX9_beginAtZero_12 : decode cX9_beginAtZero 12 = .ok (.if_icmp .ge 50, 3) := by decide +kernel
theorem dX9_beginAtZero_15 : decode cX9_beginAtZero 15 = .ok (.aload_n 0, 1) := by decide +kernel
theorem dX9_beginAtZero_16 : decode cX9_beginAtZero 16 = .ok (.getfield 7, 3) := by decide +kernel
theorem dX9_beginAtZero_19 : decode cX9_beginAtZero 19 = .ok (.iconst 1, 1) := by decide +kernel
theorem dX9_beginAtZero_20 : decode cX9_beginAtZero 20 = .ok (.iload_n 1, 1) := by decide +kernel
theorem dX9_beginAtZero_21 : decode cX9_beginAtZero 21 = .ok (.iadd, 1) := by decide +kernel
theorem dX9_beginAtZero_22 : decode cX9_beginAtZero 22 = .ok (.iload_n 1, 1) := by decide +kernel
theorem dX9_beginAtZero_23 : decode cX9_beginAtZero 23 = .ok (.iconst 5, 1) := by decide +kernel
theorem dX9_beginAtZero_24 : decode cX9_beginAtZero 24 = .ok (.if_icmp .ge 9, 3) := by decide +kernel
theorem dX9_beginAtZero_27 : decode cX9_beginAtZero 27 = .ok (.sipush 540, 3) := by decide +kernel
theorem dX9_beginAtZero_30 : decode cX9_beginAtZero 30 = .ok (.goto 4, 3) := by decide +kernel
theorem dX9_beginAtZero_33 : decode cX9_beginAtZero 33 = .ok (.iconst 0, 1) := by decide +kernel
theorem dX9_beginAtZero_34 : decode cX9_beginAtZero 34 = .ok (.iastore, 1) := by decide +kernel
theorem dX9_beginAtZero_35 : decode cX9_beginAtZero 35 = .ok (.aload_n 0, 1) := by decide +kernel
theorem dX9_beginAtZero_36 : decode cX9_beginAtZero 36 = .ok (.getfield 7, 3) := by decide +kernel
theorem dX9_beginAtZero_39 : decode cX9_beginAtZero 39 = .ok (.bipush 8, 2) := by decide +kernel
theorem dX9_beginAtZero_41 : decode cX9_beginAtZero 41 = .ok (.iload_n 1, 1) := by decide +kernel
theorem dX9_beginAtZero_42 : decode cX9_beginAtZero 42 = .ok (.iadd, 1) := by decide +kernel
theorem dX9_beginAtZero_43 : decode cX9_beginAtZero 43 = .ok (.iload_n 1, 1) := by decide +kernel
theorem dX9_beginAtZero_44 : decode cX9_beginAtZero 44 = .ok (.iconst 5, 1) := by decide +kernel
theorem dX9_beginAtZero_45 : decode cX9_beginAtZero 45 = .ok (.if_icmp .ge 9, 3) := by decide +kernel
theorem dX9_beginAtZero_48 : decode cX9_beginAtZero 48 = .ok (.sipush 1020, 3) := by decide +kernel
theorem dX9_beginAtZero_51 : decode cX9_beginAtZero 51 = .ok (.goto 4, 3) := by decide +kernel
theorem dX9_beginAtZero_54 : decode cX9_beginAtZero 54 = .ok (.iconst 0, 1) := by decide +kernel
theorem dX9_beginAtZero_55 : decode cX9_beginAtZero 55 = .ok (.iastore, 1) := by decide +kernel
theorem dX9_beginAtZero_56 : decode cX9_beginAtZero 56 = .ok (.iinc 1 1, 3) := by decide +kernel
theorem dX9_beginAtZero_59 : decode cX9_beginAtZero 59 = .ok (.goto (-50), 3) := by decide +kernel
theorem dX9_beginAtZero_62 : decode cX9_beginAtZero 62 = .ok (.iconst 0, 1) := by decide +kernel
theorem dX9_beginAtZero_63 : decode cX9_beginAtZero 63 = .ok (.istore_n 1, 1) := by decide +kernel
theorem dX9_beginAtZero_64 : decode cX9_beginAtZero 64 = .ok (.iload_n 1, 1) := by decide +kernel
theorem dX9_beginAtZero_65 : decode cX9_beginAtZero 65 = .ok (.iconst 4, 1) := by decide +kernel
theorem dX9_beginAtZero_66 : decode cX9_beginAtZero 66 = .ok (.if_icmp .ge 19, 3) := by decide +kernel
theorem dX9_beginAtZero_69 : decode cX9_beginAtZero 69 = .ok (.aload_n 0, 1) := by decide +kernel
theorem dX9_beginAtZero_70 : decode cX9_beginAtZero 70 = .ok (.getfield 7, 3) := by decide +kernel
theorem dX9_beginAtZero_73 : decode cX9_beginAtZero 73 = .ok (.bipush 15, 2) := by decide +kernel
theorem dX9_beginAtZero_75 : decode cX9_beginAtZero 75 = .ok (.iload_n 1, 1) := by decide +kernel
theorem dX9_beginAtZero_76 : decode cX9_beginAtZero 76 = .ok (.iadd, 1) := by decide +kernel
theorem dX9_beginAtZero_77 : decode cX9_beginAtZero 77 = .ok (.iconst 1, 1) := by decide +kernel
theorem dX9_beginAtZero_78 : decode cX9_beginAtZero 78 = .ok (.iastore, 1) := by decide +kernel
theorem dX9_beginAtZero_79 : decode cX9_beginAtZero 79 = .ok (.iinc 1 1, 3) := by decide +kernel
theorem dX9_beginAtZero_82 : decode cX9_beginAtZero 82 = .ok (.goto (-18), 3) := by decide +kernel
theorem dX9_beginAtZero_85 : decode cX9_beginAtZero 85 = .ok (.aload_n 0, 1) := by decide +kernel
theorem dX9_beginAtZero_86 : decode cX9_beginAtZero 86 = .ok (.getfield 7, 3) := by decide +kernel
theorem dX9_beginAtZero_89 : decode cX9_beginAtZero 89 = .ok (.bipush 56, 2) := by decide +kernel
theorem dX9_beginAtZero_91 : decode cX9_beginAtZero 91 = .ok (.iconst 0, 1) := by decide +kernel
theorem dX9_beginAtZero_92 : decode cX9_beginAtZero 92 = .ok (.iastore, 1) := by decide +kernel
theorem dX9_beginAtZero_93 : decode cX9_beginAtZero 93 = .ok (.aload_n 0, 1) := by decide +kernel
theorem dX9_beginAtZero_94 : decode cX9_beginAtZero 94 = .ok (.getfield 7, 3) := by decide +kernel
theorem dX9_beginAtZero_97 : decode cX9_beginAtZero 97 = .ok (.bipush 58, 2) := by decide +kernel
theorem dX9_beginAtZero_99 : decode cX9_beginAtZero 99 = .ok (.iconst 0, 1) := by decide +kernel
theorem dX9_beginAtZero_100 : decode cX9_beginAtZero 100 = .ok (.iastore, 1) := by decide +kernel
theorem dX9_beginAtZero_101 : decode cX9_beginAtZero 101 = .ok (.return_, 1) := by decide +kernel
theorem dX9_ticket_0 : decode cX9_ticket 0 = .ok (.aload_n 0, 1) := by decide +kernel
theorem dX9_ticket_1 : decode cX9_ticket 1 = .ok (.getfield 7, 3) := by decide +kernel
theorem dX9_ticket_4 : decode cX9_ticket 4 = .ok (.bipush 59, 2) := by decide +kernel
theorem dX9_ticket_6 : decode cX9_ticket 6 = .ok (.bipush 16, 2) := by decide +kernel
theorem dX9_ticket_8 : decode cX9_ticket 8 = .ok (.iload_n 1, 1) := by decide +kernel
theorem dX9_ticket_9 : decode cX9_ticket 9 = .ok (.imul, 1) := by decide +kernel
theorem dX9_ticket_10 : decode cX9_ticket 10 = .ok (.iadd, 1) := by decide +kernel
theorem dX9_ticket_11 : decode cX9_ticket 11 = .ok (.iload_n 2, 1) := by decide +kernel
theorem dX9_ticket_12 : decode cX9_ticket 12 = .ok (.iadd, 1) := by decide +kernel
theorem dX9_ticket_13 : decode cX9_ticket 13 = .ok (.iaload, 1) := by decide +kernel
theorem dX9_ticket_14 : decode cX9_ticket 14 = .ok (.ireturn, 1) := by decide +kernel
theorem dX9_setTicket_0 : decode cX9_setTicket 0 = .ok (.aload_n 0, 1) := by decide +kernel
theorem dX9_setTicket_1 : decode cX9_setTicket 1 = .ok (.getfield 7, 3) := by decide +kernel
theorem dX9_setTicket_4 : decode cX9_setTicket 4 = .ok (.bipush 59, 2) := by decide +kernel
theorem dX9_setTicket_6 : decode cX9_setTicket 6 = .ok (.bipush 16, 2) := by decide +kernel
theorem dX9_setTicket_8 : decode cX9_setTicket 8 = .ok (.iload_n 1, 1) := by decide +kernel
theorem dX9_setTicket_9 : decode cX9_setTicket 9 = .ok (.imul, 1) := by decide +kernel
theorem dX9_setTicket_10 : decode cX9_setTicket 10 = .ok (.iadd, 1) := by decide +kernel
theorem dX9_setTicket_11 : decode cX9_setTicket 11 = .ok (.iload_n 2, 1) := by decide +kernel
theorem dX9_setTicket_12 : decode cX9_setTicket 12 = .ok (.iadd, 1) := by decide +kernel
theorem dX9_setTicket_13 : decode cX9_setTicket 13 = .ok (.iload_n 3, 1) := by decide +kernel
theorem dX9_setTicket_14 : decode cX9_setTicket 14 = .ok (.iastore, 1) := by decide +kernel
theorem dX9_setTicket_15 : decode cX9_setTicket 15 = .ok (.return_, 1) := by decide +kernel
theorem dX9_kind_0 : decode cX9_kind 0 = .ok (.aload_n 0, 1) := by decide +kernel
theorem dX9_kind_1 : decode cX9_kind 1 = .ok (.getfield 7, 3) := by decide +kernel
theorem dX9_kind_4 : decode cX9_kind 4 = .ok (.bipush 20, 2) := by decide +kernel
theorem dX9_kind_6 : decode cX9_kind 6 = .ok (.bipush 6, 2) := by decide +kernel
theorem dX9_kind_8 : decode cX9_kind 8 = .ok (.iload_n 1, 1) := by decide +kernel
theorem dX9_kind_9 : decode cX9_kind 9 = .ok (.imul, 1) := by decide +kernel
theorem dX9_kind_10 : decode cX9_kind 10 = .ok (.iadd, 1) := by decide +kernel
theorem dX9_kind_11 : decode cX9_kind 11 = .ok (.iload_n 2, 1) := by decide +kernel
theorem dX9_kind_12 : decode cX9_kind 12 = .ok (.iadd, 1) := by decide +kernel
theorem dX9_kind_13 : decode cX9_kind 13 = .ok (.iaload, 1) := by decide +kernel
theorem dX9_kind_14 : decode cX9_kind 14 = .ok (.ireturn, 1) := by decide +kernel
theorem dX9_ofKind_0 : decode cX9_ofKind 0 = .ok (.aload_n 0, 1) := by decide +kernel
theorem dX9_ofKind_1 : decode cX9_ofKind 1 = .ok (.aload_n 0, 1) := by decide +kernel
theorem dX9_ofKind_2 : decode cX9_ofKind 2 = .ok (.iload_n 1, 1) := by decide +kernel
theorem dX9_ofKind_3 : decode cX9_ofKind 3 = .ok (.iconst 0, 1) := by decide +kernel
theorem dX9_ofKind_4 : decode cX9_ofKind 4 = .ok (.invokevirtual 36, 3) := by decide +kernel
theorem dX9_ofKind_7 : decode cX9_ofKind 7 = .ok (.iload_n 2, 1) := by decide +kernel
theorem dX9_ofKind_8 : decode cX9_ofKind 8 = .ok (.invokevirtual 40, 3) := by decide +kernel
theorem dX9_ofKind_11 : decode cX9_ofKind 11 = .ok (.ireturn, 1) := by decide +kernel
theorem dX9_isTicket_0 : decode cX9_isTicket 0 = .ok (.iload_n 1, 1) := by decide +kernel
theorem dX9_isTicket_1 : decode cX9_isTicket 1 = .ok (.iconst 0, 1) := by decide +kernel
theorem dX9_isTicket_2 : decode cX9_isTicket 2 = .ok (.aload_n 0, 1) := by decide +kernel
theorem dX9_isTicket_3 : decode cX9_isTicket 3 = .ok (.getfield 7, 3) := by decide +kernel
theorem dX9_isTicket_6 : decode cX9_isTicket 6 = .ok (.bipush 56, 2) := by decide +kernel
theorem dX9_isTicket_8 : decode cX9_isTicket 8 = .ok (.iaload, 1) := by decide +kernel
theorem dX9_isTicket_9 : decode cX9_isTicket 9 = .ok (.iconst 1, 1) := by decide +kernel
theorem dX9_isTicket_10 : decode cX9_isTicket 10 = .ok (.isub, 1) := by decide +kernel
theorem dX9_isTicket_11 : decode cX9_isTicket 11 = .ok (.invokestatic 43, 3) := by decide +kernel
theorem dX9_isTicket_14 : decode cX9_isTicket 14 = .ok (.ireturn, 1) := by decide +kernel
theorem dX9_isKind_0 : decode cX9_isKind 0 = .ok (.iload_n 1, 1) := by decide +kernel
theorem dX9_isKind_1 : decode cX9_isKind 1 = .ok (.iconst 0, 1) := by decide +kernel
theorem dX9_isKind_2 : decode cX9_isKind 2 = .ok (.aload_n 0, 1) := by decide +kernel
theorem dX9_isKind_3 : decode cX9_isKind 3 = .ok (.getfield 7, 3) := by decide +kernel
theorem dX9_isKind_6 : decode cX9_isKind 6 = .ok (.bipush 19, 2) := by decide +kernel
theorem dX9_isKind_8 : decode cX9_isKind 8 = .ok (.iaload, 1) := by decide +kernel
theorem dX9_isKind_9 : decode cX9_isKind 9 = .ok (.iconst 1, 1) := by decide +kernel
theorem dX9_isKind_10 : decode cX9_isKind 10 = .ok (.isub, 1) := by decide +kernel
theorem dX9_isKind_11 : decode cX9_isKind 11 = .ok (.invokestatic 43, 3) := by decide +kernel
theorem dX9_isKind_14 : decode cX9_isKind 14 = .ok (.ireturn, 1) := by decide +kernel
theorem dX9_isLevel_0 : decode cX9_isLevel 0 = .ok (.iload_n 0, 1) := by decide +kernel
theorem dX9_isLevel_1 : decode cX9_isLevel 1 = .ok (.iconst 0, 1) := by decide +kernel
theorem dX9_isLevel_2 : decode cX9_isLevel 2 = .ok (.iconst 3, 1) := by decide +kernel
theorem dX9_isLevel_3 : decode cX9_isLevel 3 = .ok (.invokestatic 43, 3) := by decide +kernel
theorem dX9_isLevel_6 : decode cX9_isLevel 6 = .ok (.ireturn, 1) := by decide +kernel
theorem dX9_isDay_0 : decode cX9_isDay 0 = .ok (.iload_n 0, 1) := by decide +kernel
theorem dX9_isDay_1 : decode cX9_isDay 1 = .ok (.iconst 0, 1) := by decide +kernel
theorem dX9_isDay_2 : decode cX9_isDay 2 = .ok (.bipush 6, 2) := by decide +kernel
theorem dX9_isDay_4 : decode cX9_isDay 4 = .ok (.invokestatic 43, 3) := by decide +kernel
theorem dX9_isDay_7 : decode cX9_isDay 7 = .ok (.ireturn, 1) := by decide +kernel
theorem dX9_is_0 : decode cX9_is 0 = .ok (.aload_n 0, 1) := by decide +kernel
theorem dX9_is_1 : decode cX9_is 1 = .ok (.iload_n 1, 1) := by decide +kernel
theorem dX9_is_2 : decode cX9_is 2 = .ok (.bipush 9, 2) := by decide +kernel
theorem dX9_is_4 : decode cX9_is 4 = .ok (.invokevirtual 36, 3) := by decide +kernel
theorem dX9_is_7 : decode cX9_is 7 = .ok (.iload_n 2, 1) := by decide +kernel
theorem dX9_is_8 : decode cX9_is 8 = .ok (.if_icmp .ne 7, 3) := by decide +kernel
theorem dX9_is_11 : decode cX9_is 11 = .ok (.iconst 1, 1) := by decide +kernel
theorem dX9_is_12 : decode cX9_is 12 = .ok (.goto 4, 3) := by decide +kernel
theorem dX9_is_15 : decode cX9_is 15 = .ok (.iconst 0, 1) := by decide +kernel
theorem dX9_is_16 : decode cX9_is 16 = .ok (.ireturn, 1) := by decide +kernel
theorem dX9_isAlive_0 : decode cX9_isAlive 0 = .ok (.aload_n 0, 1) := by decide +kernel
theorem dX9_isAlive_1 : decode cX9_isAlive 1 = .ok (.iload_n 1, 1) := by decide +kernel
theorem dX9_isAlive_2 : decode cX9_isAlive 2 = .ok (.bipush 9, 2) := by decide +kernel
theorem dX9_isAlive_4 : decode cX9_isAlive 4 = .ok (.invokevirtual 36, 3) := by decide +kernel
theorem dX9_isAlive_7 : decode cX9_isAlive 7 = .ok (.iconst 2, 1) := by decide +kernel
theorem dX9_isAlive_8 : decode cX9_isAlive 8 = .ok (.if_icmp .gt 7, 3) := by decide +kernel
theorem dX9_isAlive_11 : decode cX9_isAlive 11 = .ok (.iconst 1, 1) := by decide +kernel
theorem dX9_isAlive_12 : decode cX9_isAlive 12 = .ok (.goto 4, 3) := by decide +kernel
theorem dX9_isAlive_15 : decode cX9_isAlive 15 = .ok (.iconst 0, 1) := by decide +kernel
theorem dX9_isAlive_16 : decode cX9_isAlive 16 = .ok (.ireturn, 1) := by decide +kernel
theorem dX9_log_0 : decode cX9_log 0 = .ok (.aload_n 0, 1) := by decide +kernel
theorem dX9_log_1 : decode cX9_log 1 = .ok (.getfield 7, 3) := by decide +kernel
theorem dX9_log_4 : decode cX9_log 4 = .ok (.bipush 58, 2) := by decide +kernel
theorem dX9_log_6 : decode cX9_log 6 = .ok (.iaload, 1) := by decide +kernel
theorem dX9_log_7 : decode cX9_log 7 = .ok (.sipush 600, 3) := by decide +kernel
theorem dX9_log_10 : decode cX9_log 10 = .ok (.if_icmp .ne 4, 3) := by decide +kernel
theorem dX9_log_13 : decode cX9_log 13 = .ok (.return_, 1) := by decide +kernel
theorem dX9_log_14 : decode cX9_log 14 = .ok (.sipush 2219, 3) := by decide +kernel
theorem dX9_log_17 : decode cX9_log 17 = .ok (.iconst 4, 1) := by decide +kernel
theorem dX9_log_18 : decode cX9_log 18 = .ok (.aload_n 0, 1) := by decide +kernel
theorem dX9_log_19 : decode cX9_log 19 = .ok (.getfield 7, 3) := by decide +kernel
theorem dX9_log_22 : decode cX9_log 22 = .ok (.bipush 58, 2) := by decide +kernel
theorem dX9_log_24 : decode cX9_log 24 = .ok (.iaload, 1) := by decide +kernel
theorem dX9_log_25 : decode cX9_log 25 = .ok (.imul, 1) := by decide +kernel
theorem dX9_log_26 : decode cX9_log 26 = .ok (.iadd, 1) := by decide +kernel
theorem dX9_log_27 : decode cX9_log 27 = .ok (.istore 5, 2) := by decide +kernel
theorem dX9_log_29 : decode cX9_log 29 = .ok (.aload_n 0, 1) := by decide +kernel
theorem dX9_log_30 : decode cX9_log 30 = .ok (.getfield 7, 3) := by decide +kernel
theorem dX9_log_33 : decode cX9_log 33 = .ok (.iload 5, 2) := by decide +kernel
theorem dX9_log_35 : decode cX9_log 35 = .ok (.iload_n 1, 1) := by decide +kernel
theorem dX9_log_36 : decode cX9_log 36 = .ok (.iastore, 1) := by decide +kernel
theorem dX9_log_37 : decode cX9_log 37 = .ok (.aload_n 0, 1) := by decide +kernel
theorem dX9_log_38 : decode cX9_log 38 = .ok (.getfield 7, 3) := by decide +kernel
theorem dX9_log_41 : decode cX9_log 41 = .ok (.iload 5, 2) := by decide +kernel
theorem dX9_log_43 : decode cX9_log 43 = .ok (.iconst 1, 1) := by decide +kernel
theorem dX9_log_44 : decode cX9_log 44 = .ok (.iadd, 1) := by decide +kernel
theorem dX9_log_45 : decode cX9_log 45 = .ok (.iload_n 2, 1) := by decide +kernel
theorem dX9_log_46 : decode cX9_log 46 = .ok (.iastore, 1) := by decide +kernel
theorem dX9_log_47 : decode cX9_log 47 = .ok (.aload_n 0, 1) := by decide +kernel
theorem dX9_log_48 : decode cX9_log 48 = .ok (.getfield 7, 3) := by decide +kernel
theorem dX9_log_51 : decode cX9_log 51 = .ok (.iload 5, 2) := by decide +kernel
theorem dX9_log_53 : decode cX9_log 53 = .ok (.iconst 2, 1) := by decide +kernel
theorem dX9_log_54 : decode cX9_log 54 = .ok (.iadd, 1) := by decide +kernel
theorem dX9_log_55 : decode cX9_log 55 = .ok (.iload_n 3, 1) := by decide +kernel
theorem dX9_log_56 : decode cX9_log 56 = .ok (.iastore, 1) := by decide +kernel
theorem dX9_log_57 : decode cX9_log 57 = .ok (.aload_n 0, 1) := by decide +kernel
theorem dX9_log_58 : decode cX9_log 58 = .ok (.getfield 7, 3) := by decide +kernel
theorem dX9_log_61 : decode cX9_log 61 = .ok (.iload 5, 2) := by decide +kernel
theorem dX9_log_63 : decode cX9_log 63 = .ok (.iconst 3, 1) := by decide +kernel
theorem dX9_log_64 : decode cX9_log 64 = .ok (.iadd, 1) := by decide +kernel
theorem dX9_log_65 : decode cX9_log 65 = .ok (.iload 4, 2) := by decide +kernel
theorem dX9_log_67 : decode cX9_log 67 = .ok (.iastore, 1) := by decide +kernel
theorem dX9_log_68 : decode cX9_log 68 = .ok (.aload_n 0, 1) := by decide +kernel
theorem dX9_log_69 : decode cX9_log 69 = .ok (.getfield 7, 3) := by decide +kernel
theorem dX9_log_72 : decode cX9_log 72 = .ok (.bipush 58, 2) := by decide +kernel
theorem dX9_log_74 : decode cX9_log 74 = .ok (.dup2, 1) := by decide +kernel
theorem dX9_log_75 : decode cX9_log 75 = .ok (.iaload, 1) := by decide +kernel
theorem dX9_log_76 : decode cX9_log 76 = .ok (.iconst 1, 1) := by decide +kernel
theorem dX9_log_77 : decode cX9_log 77 = .ok (.iadd, 1) := by decide +kernel
theorem dX9_log_78 : decode cX9_log 78 = .ok (.iastore, 1) := by decide +kernel
theorem dX9_log_79 : decode cX9_log 79 = .ok (.return_, 1) := by decide +kernel
theorem dX9_change_0 : decode cX9_change 0 = .ok (.aload_n 0, 1) := by decide +kernel
theorem dX9_change_1 : decode cX9_change 1 = .ok (.iload_n 1, 1) := by decide +kernel
theorem dX9_change_2 : decode cX9_change 2 = .ok (.iload_n 2, 1) := by decide +kernel
theorem dX9_change_3 : decode cX9_change 3 = .ok (.iload_n 3, 1) := by decide +kernel
theorem dX9_change_4 : decode cX9_change 4 = .ok (.iload 4, 2) := by decide +kernel
theorem dX9_change_6 : decode cX9_change 6 = .ok (.iload 5, 2) := by decide +kernel
theorem dX9_change_8 : decode cX9_change 8 = .ok (.invokevirtual 47, 3) := by decide +kernel
theorem dX9_change_11 : decode cX9_change 11 = .ok (.istore 6, 2) := by decide +kernel
theorem dX9_change_13 : decode cX9_change 13 = .ok (.iload 6, 2) := by decide +kernel
theorem dX9_change_15 : decode cX9_change 15 = .ok (.ifCond .eq 6, 3) := by decide +kernel
theorem dX9_change_18 : decode cX9_change 18 = .ok (.iload 6, 2) := by decide +kernel
theorem dX9_change_20 : decode cX9_change 20 = .ok (.ireturn, 1) := by decide +kernel
theorem dX9_change_21 : decode cX9_change 21 = .ok (.aload_n 0, 1) := by decide +kernel
theorem dX9_change_22 : decode cX9_change 22 = .ok (.getfield 7, 3) := by decide +kernel
theorem dX9_change_25 : decode cX9_change 25 = .ok (.bipush 57, 2) := by decide +kernel
theorem dX9_change_27 : decode cX9_change 27 = .ok (.iaload, 1) := by decide +kernel
theorem dX9_change_28 : decode cX9_change 28 = .ok (.sipush 200, 3) := by decide +kernel
theorem dX9_change_31 : decode cX9_change 31 = .ok (.if_icmp .ne 6, 3) := by decide +kernel
theorem dX9_change_34 : decode cX9_change 34 = .ok (.bipush (-6), 2) := by decide +kernel
theorem dX9_change_36 : decode cX9_change 36 = .ok (.ireturn, 1) := by decide +kernel
theorem dX9_change_37 : decode cX9_change 37 = .ok (.sipush 1019, 3) := by decide +kernel
theorem dX9_change_40 : decode cX9_change 40 = .ok (.bipush 6, 2) := by decide +kernel
theorem dX9_change_42 : decode cX9_change 42 = .ok (.aload_n 0, 1) := by decide +kernel
theorem dX9_change_43 : decode cX9_change 43 = .ok (.getfield 7, 3) := by decide +kernel
theorem dX9_change_46 : decode cX9_change 46 = .ok (.bipush 57, 2) := by decide +kernel
theorem dX9_change_48 : decode cX9_change 48 = .ok (.iaload, 1) := by decide +kernel
theorem dX9_change_49 : decode cX9_change 49 = .ok (.imul, 1) := by decide +kernel
theorem dX9_change_50 : decode cX9_change 50 = .ok (.iadd, 1) := by decide +kernel
theorem dX9_change_51 : decode cX9_change 51 = .ok (.istore 7, 2) := by decide +kernel
theorem dX9_change_53 : decode cX9_change 53 = .ok (.aload_n 0, 1) := by decide +kernel
theorem dX9_change_54 : decode cX9_change 54 = .ok (.getfield 7, 3) := by decide +kernel
theorem dX9_change_57 : decode cX9_change 57 = .ok (.iload 7, 2) := by decide +kernel
theorem dX9_change_59 : decode cX9_change 59 = .ok (.aload_n 0, 1) := by decide +kernel
theorem dX9_change_60 : decode cX9_change 60 = .ok (.getfield 7, 3) := by decide +kernel
theorem dX9_change_63 : decode cX9_change 63 = .ok (.iconst 0, 1) := by decide +kernel
theorem dX9_change_64 : decode cX9_change 64 = .ok (.iaload, 1) := by decide +kernel
theorem dX9_change_65 : decode cX9_change 65 = .ok (.iastore, 1) := by decide +kernel
theorem dX9_change_66 : decode cX9_change 66 = .ok (.aload_n 0, 1) := by decide +kernel
theorem dX9_change_67 : decode cX9_change 67 = .ok (.getfield 7, 3) := by decide +kernel
theorem dX9_change_70 : decode cX9_change 70 = .ok (.iload 7, 2) := by decide +kernel
theorem dX9_change_72 : decode cX9_change 72 = .ok (.iconst 1, 1) := by decide +kernel
theorem dX9_change_73 : decode cX9_change 73 = .ok (.iadd, 1) := by decide +kernel
theorem dX9_change_74 : decode cX9_change 74 = .ok (.iload_n 1, 1) := by decide +kernel
theorem dX9_change_75 : decode cX9_change 75 = .ok (.iastore, 1) := by decide +kernel
theorem dX9_change_76 : decode cX9_change 76 = .ok (.aload_n 0, 1) := by decide +kernel
theorem dX9_change_77 : decode cX9_change 77 = .ok (.getfield 7, 3) := by decide +kernel
