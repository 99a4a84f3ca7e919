theorem dX0_init_0 : decode cX0_init 0 = .ok (.aload_n 0, 1) := by decide +kernel
theorem dX0_init_1 : decode cX0_init 1 = .ok (.invokespecial 3, 3) := by decide +kernel
theorem dX0_init_4 : decode cX0_init 4 = .ok (.aload_n 0, 1) := by decide +kernel
theorem dX0_init_5 : decode cX0_init 5 = .ok (.bipush 7, 2) := by decide +kernel
theorem dX0_init_7 : decode cX0_init 7 = .ok (.newarray .int, 2) := by decide +kernel
theorem dX0_init_9 : decode cX0_init 9 = .ok (.putfield 9, 3) := by decide +kernel
theorem dX0_init_12 : decode cX0_init 12 = .ok (.aload_n 0, 1) := by decide +kernel
theorem dX0_init_13 : decode cX0_init 13 = .ok (.bipush 7, 2) := by decide +kernel
theorem dX0_init_15 : decode cX0_init 15 = .ok (.newarray .int, 2) := by decide +kernel
theorem dX0_init_17 : decode cX0_init 17 = .ok (.putfield 15, 3) := by decide +kernel
theorem dX0_init_20 : decode cX0_init 20 = .ok (.return_, 1) := by decide +kernel
theorem dX0_begin_0 : decode cX0_begin 0 = .ok (.getstatic 18, 3) := by decide +kernel
theorem dX0_begin_3 : decode cX0_begin 3 = .ok (.iconst 0, 1) := by decide +kernel
theorem dX0_begin_4 : decode cX0_begin 4 = .ok (.aload_n 0, 1) := by decide +kernel
theorem dX0_begin_5 : decode cX0_begin 5 = .ok (.getfield 9, 3) := by decide +kernel
theorem dX0_begin_8 : decode cX0_begin 8 = .ok (.iconst 0, 1) := by decide +kernel
theorem dX0_begin_9 : decode cX0_begin 9 = .ok (.bipush 7, 2) := by decide +kernel
theorem dX0_begin_11 : decode cX0_begin 11 = .ok (.invokestatic 21, 3) := by decide +kernel
theorem dX0_begin_14 : decode cX0_begin 14 = .ok (.getstatic 27, 3) := by decide +kernel
theorem dX0_begin_17 : decode cX0_begin 17 = .ok (.iconst 0, 1) := by decide +kernel
theorem dX0_begin_18 : decode cX0_begin 18 = .ok (.aload_n 0, 1) := by decide +kernel
theorem dX0_begin_19 : decode cX0_begin 19 = .ok (.getfield 15, 3) := by decide +kernel
theorem dX0_begin_22 : decode cX0_begin 22 = .ok (.iconst 0, 1) := by decide +kernel
theorem dX0_begin_23 : decode cX0_begin 23 = .ok (.bipush 7, 2) := by decide +kernel
theorem dX0_begin_25 : decode cX0_begin 25 = .ok (.invokestatic 21, 3) := by decide +kernel
theorem dX0_begin_28 : decode cX0_begin 28 = .ok (.return_, 1) := by decide +kernel
theorem dX0_setHours_0 : decode cX0_setHours 0 = .ok (.aload_n 0, 1) := by decide +kernel
theorem dX0_setHours_1 : decode cX0_setHours 1 = .ok (.getfield 9, 3) := by decide +kernel
theorem dX0_setHours_4 : decode cX0_setHours 4 = .ok (.iload_n 1, 1) := by decide +kernel
theorem dX0_setHours_5 : decode cX0_setHours 5 = .ok (.iload_n 2, 1) := by decide +kernel
theorem dX0_setHours_6 : decode cX0_setHours 6 = .ok (.iastore, 1) := by decide +kernel
theorem dX0_setHours_7 : decode cX0_setHours 7 = .ok (.aload_n 0, 1) := by decide +kernel
theorem dX0_setHours_8 : decode cX0_setHours 8 = .ok (.getfield 15, 3) := by decide +kernel
theorem dX0_setHours_11 : decode cX0_setHours 11 = .ok (.iload_n 1, 1) := by decide +kernel
theorem dX0_setHours_12 : decode cX0_setHours 12 = .ok (.iload_n 3, 1) := by decide +kernel
theorem dX0_setHours_13 : decode cX0_setHours 13 = .ok (.iastore, 1) := by decide +kernel
theorem dX0_setHours_14 : decode cX0_setHours 14 = .ok (.return_, 1) := by decide +kernel
theorem dX0_opensAt_0 : decode cX0_opensAt 0 = .ok (.iload_n 1, 1) := by decide +kernel
theorem dX0_opensAt_1 : decode cX0_opensAt 1 = .ok (.iconst 0, 1) := by decide +kernel
theorem dX0_opensAt_2 : decode cX0_opensAt 2 = .ok (.sipush 10079, 3) := by decide +kernel
theorem dX0_opensAt_5 : decode cX0_opensAt 5 = .ok (.invokestatic 30, 3) := by decide +kernel
theorem dX0_opensAt_8 : decode cX0_opensAt 8 = .ok (.ifCond .ne 5, 3) := by decide +kernel
theorem dX0_opensAt_11 : decode cX0_opensAt 11 = .ok (.iconst 0, 1) := by decide +kernel
theorem dX0_opensAt_12 : decode cX0_opensAt 12 = .ok (.ireturn, 1) := by decide +kernel
theorem dX0_opensAt_13 : decode cX0_opensAt 13 = .ok (.iload_n 1, 1) := by decide +kernel
theorem dX0_opensAt_14 : decode cX0_opensAt 14 = .ok (.sipush 1440, 3) := by decide +kernel
theorem dX0_opensAt_17 : decode cX0_opensAt 17 = .ok (.irem, 1) := by decide +kernel
theorem dX0_opensAt_18 : decode cX0_opensAt 18 = .ok (.aload_n 0, 1) := by decide +kernel
theorem dX0_opensAt_19 : decode cX0_opensAt 19 = .ok (.getfield 9, 3) := by decide +kernel
theorem dX0_opensAt_22 : decode cX0_opensAt 22 = .ok (.iload_n 1, 1) := by decide +kernel
theorem dX0_opensAt_23 : decode cX0_opensAt 23 = .ok (.sipush 1440, 3) := by decide +kernel
theorem dX0_opensAt_26 : decode cX0_opensAt 26 = .ok (.idiv, 1) := by decide +kernel
theorem dX0_opensAt_27 : decode cX0_opensAt 27 = .ok (.iaload, 1) := by decide +kernel
theorem dX0_opensAt_28 : decode cX0_opensAt 28 = .ok (.aload_n 0, 1) := by decide +kernel
theorem dX0_opensAt_29 : decode cX0_opensAt 29 = .ok (.getfield 15, 3) := by decide +kernel
theorem dX0_opensAt_32 : decode cX0_opensAt 32 = .ok (.iload_n 1, 1) := by decide +kernel
theorem dX0_opensAt_33 : decode cX0_opensAt 33 = .ok (.sipush 1440, 3) := by decide +kernel
theorem dX0_opensAt_36 : decode cX0_opensAt 36 = .ok (.idiv, 1) := by decide +kernel
theorem dX0_opensAt_37 : decode cX0_opensAt 37 = .ok (.iaload, 1) := by decide +kernel
theorem dX0_opensAt_38 : decode cX0_opensAt 38 = .ok (.iconst 1, 1) := by decide +kernel
theorem dX0_opensAt_39 : decode cX0_opensAt 39 = .ok (.isub, 1) := by decide +kernel
theorem dX0_opensAt_40 : decode cX0_opensAt 40 = .ok (.invokestatic 30, 3) := by decide +kernel
theorem dX0_opensAt_43 : decode cX0_opensAt 43 = .ok (.ireturn, 1) := by decide +kernel
theorem dX0_openBetween_0 : decode cX0_openBetween 0 = .ok (.iconst 0, 1) := by decide +kernel
theorem dX0_openBetween_1 : decode cX0_openBetween 1 = .ok (.istore_n 3, 1) := by decide +kernel
theorem dX0_openBetween_2 : decode cX0_openBetween 2 = .ok (.iconst 0, 1) := by decide +kernel
theorem dX0_openBetween_3 : decode cX0_openBetween 3 = .ok (.istore 4, 2) := by decide +kernel
theorem dX0_openBetween_5 : decode cX0_openBetween 5 = .ok (.iload 4, 2) := by decide +kernel
theorem dX0_openBetween_7 : decode cX0_openBetween 7 = .ok (.bipush 7, 2) := by decide +kernel
theorem dX0_openBetween_9 : decode cX0_openBetween 9 = .ok (.if_icmp .ge 61, 3) := by decide +kernel
theorem dX0_openBetween_12 : decode cX0_openBetween 12 = .ok (.iload_n 1, 1) := by decide +kernel
theorem dX0_openBetween_13 : decode cX0_openBetween 13 = .ok (.iload 4, 2) := by decide +kernel
theorem dX0_openBetween_15 : decode cX0_openBetween 15 = .ok (.sipush 1440, 3) := by decide +kernel
theorem dX0_openBetween_18 : decode cX0_openBetween 18 = .ok (.imul, 1) := by decide +kernel
theorem dX0_openBetween_19 : decode cX0_openBetween 19 = .ok (.aload_n 0, 1) := by decide +kernel
theorem dX0_openBetween_20 : decode cX0_openBetween 20 = .ok (.getfield 9, 3) := by decide +kernel
theorem dX0_openBetween_23 : decode cX0_openBetween 23 = .ok (.iload 4, 2) := by decide +kernel
theorem dX0_openBetween_25 : decode cX0_openBetween 25 = .ok (.iaload, 1) := by decide +kernel
theorem dX0_openBetween_26 : decode cX0_openBetween 26 = .ok (.iadd, 1) := by decide +kernel
theorem dX0_openBetween_27 : decode cX0_openBetween 27 = .ok (.invokestatic 34, 3) := by decide +kernel
theorem dX0_openBetween_30 : decode cX0_openBetween 30 = .ok (.istore 5, 2) := by decide +kernel
theorem dX0_openBetween_32 : decode cX0_openBetween 32 = .ok (.iload_n 2, 1) := by decide +kernel
theorem dX0_openBetween_33 : decode cX0_openBetween 33 = .ok (.iload 4, 2) := by decide +kernel
theorem dX0_openBetween_35 : decode cX0_openBetween 35 = .ok (.sipush 1440, 3) := by decide +kernel
theorem dX0_openBetween_38 : decode cX0_openBetween 38 = .ok (.imul, 1) := by decide +kernel
theorem dX0_openBetween_39 : decode cX0_openBetween 39 = .ok (.aload_n 0, 1) := by decide +kernel
theorem dX0_openBetween_40 : decode cX0_openBetween 40 = .ok (.getfield 15, 3) := by decide +kernel
theorem dX0_openBetween_43 : decode cX0_openBetween 43 = .ok (.iload 4, 2) := by decide +kernel
theorem dX0_openBetween_45 : decode cX0_openBetween 45 = .ok (.iaload, 1) := by decide +kernel
theorem dX0_openBetween_46 : decode cX0_openBetween 46 = .ok (.iadd, 1) := by decide +kernel
theorem dX0_openBetween_47 : decode cX0_openBetween 47 = .ok (.invokestatic 40, 3) := by decide +kernel
theorem dX0_openBetween_50 : decode cX0_openBetween 50 = .ok (.istore 6, 2) := by decide +kernel
theorem dX0_openBetween_52 : decode cX0_openBetween 52 = .ok (.iload_n 3, 1) := by decide +kernel
theorem dX0_openBetween_53 : decode cX0_openBetween 53 = .ok (.iconst 0, 1) := by decide +kernel
theorem dX0_openBetween_54 : decode cX0_openBetween 54 = .ok (.iload 6, 2) := by decide +kernel
theorem dX0_openBetween_56 : decode cX0_openBetween 56 = .ok (.iload 5, 2) := by decide +kernel
theorem dX0_openBetween_58 : decode cX0_openBetween 58 = .ok (.isub, 1) := by decide +kernel
theorem dX0_openBetween_59 : decode cX0_openBetween 59 = .ok (.invokestatic 34, 3) := by decide +kernel
theorem dX0_openBetween_62 : decode cX0_openBetween 62 = .ok (.iadd, 1) := by decide +kernel
theorem dX0_openBetween_63 : decode cX0_openBetween 63 = .ok (.istore_n 3, 1) := by decide +kernel
theorem dX0_openBetween_64 : decode cX0_openBetween 64 = .ok (.iinc 4 1, 3) := by decide +kernel
theorem dX0_openBetween_67 : decode cX0_openBetween 67 = .ok (.goto (-62), 3) := by decide +kernel
theorem dX0_openBetween_70 : decode cX0_openBetween 70 = .ok (.iload_n 3, 1) := by decide +kernel
theorem dX0_openBetween_71 : decode cX0_openBetween 71 = .ok (.ireturn, 1) := by decide +kernel
theorem dX0_alikeUntil_0 : decode cX0_alikeUntil 0 = .ok (.iload_n 1, 1) := by decide +kernel
theorem dX0_alikeUntil_1 : decode cX0_alikeUntil 1 = .ok (.iconst 0, 1) := by decide +kernel
theorem dX0_alikeUntil_2 : decode cX0_alikeUntil 2 = .ok (.sipush 10079, 3) := by decide +kernel
theorem dX0_alikeUntil_5 : decode cX0_alikeUntil 5 = .ok (.invokestatic 30, 3) := by decide +kernel
theorem dX0_alikeUntil_8 : decode cX0_alikeUntil 8 = .ok (.ifCond .ne 7, 3) := by decide +kernel
theorem dX0_alikeUntil_11 : decode cX0_alikeUntil 11 = .ok (.iload_n 1, 1) := by decide +kernel
theorem dX0_alikeUntil_12 : decode cX0_alikeUntil 12 = .ok (.iconst 1, 1) := by decide +kernel
theorem dX0_alikeUntil_13 : decode cX0_alikeUntil 13 = .ok (.iadd, 1) := by decide +kernel
theorem dX0_alikeUntil_14 : decode cX0_alikeUntil 14 = .ok (.ireturn, 1) := by decide +kernel
theorem dX0_alikeUntil_15 : decode cX0_alikeUntil 15 = .ok (.iload_n 1, 1) := by decide +kernel
theorem dX0_alikeUntil_16 : decode cX0_alikeUntil 16 = .ok (.sipush 1440, 3) := by decide +kernel
theorem dX0_alikeUntil_19 : decode cX0_alikeUntil 19 = .ok (.idiv, 1) := by decide +kernel
theorem dX0_alikeUntil_20 : decode cX0_alikeUntil 20 = .ok (.istore_n 2, 1) := by decide +kernel
theorem dX0_alikeUntil_21 : decode cX0_alikeUntil 21 = .ok (.iload_n 1, 1) := by decide +kernel
theorem dX0_alikeUntil_22 : decode cX0_alikeUntil 22 = .ok (.iload_n 2, 1) := by decide +kernel
theorem dX0_alikeUntil_23 : decode cX0_alikeUntil 23 = .ok (.sipush 1440, 3) := by decide +kernel
theorem dX0_alikeUntil_26 : decode cX0_alikeUntil 26 = .ok (.imul, 1) := by decide +kernel
theorem dX0_alikeUntil_27 : decode cX0_alikeUntil 27 = .ok (.aload_n 0, 1) := by decide +kernel
theorem dX0_alikeUntil_28 : decode cX0_alikeUntil 28 = .ok (.getfield 9, 3) := by decide +kernel
theorem dX0_alikeUntil_31 : decode cX0_alikeUntil 31 = .ok (.iload_n 2, 1) := by decide +kernel
theorem dX0_alikeUntil_32 : decode cX0_alikeUntil 32 = .ok (.iaload, 1) := by decide +kernel
theorem dX0_alikeUntil_33 : decode cX0_alikeUntil 33 = .ok (.iadd, 1) := by decide +kernel
theorem dX0_alikeUntil_34 : decode cX0_alikeUntil 34 = .ok (.if_icmp .ge 16, 3) := by decide +kernel
theorem dX0_alikeUntil_37 : decode cX0_alikeUntil 37 = .ok (.iload_n 2, 1) := by decide +kernel
theorem dX0_alikeUntil_38 : decode cX0_alikeUntil 38 = .ok (.sipush 1440, 3) := by decide +kernel
theorem dX0_alikeUntil_41 : decode cX0_alikeUntil 41 = .ok (.imul, 1) := by decide +kernel
theorem dX0_alikeUntil_42 : decode cX0_alikeUntil 42 = .ok (.aload_n 0, 1) := by decide +kernel
theorem dX0_alikeUntil_43 : decode cX0_alikeUntil 43 = .ok (.getfield 9, 3) := by decide +kernel
theorem dX0_alikeUntil_46 : decode cX0_alikeUntil 46 = .ok (.iload_n 2, 1) := by decide +kernel
theorem dX0_alikeUntil_47 : decode cX0_alikeUntil 47 = .ok (.iaload, 1) := by decide +kernel
theorem dX0_alikeUntil_48 : decode cX0_alikeUntil 48 = .ok (.iadd, 1) := by decide +kernel
theorem dX0_alikeUntil_49 : decode cX0_alikeUntil 49 = .ok (.ireturn, 1) := by decide +kernel
theorem dX0_alikeUntil_50 : decode cX0_alikeUntil 50 = .ok (.iload_n 1, 1) := by decide +kernel
theorem dX0_alikeUntil_51 : decode cX0_alikeUntil 51 = .ok (.iload_n 2, 1) := by decide +kernel
theorem dX0_alikeUntil_52 : decode cX0_alikeUntil 52 = .ok (.sipush 1440, 3) := by decide +kernel
theorem dX0_alikeUntil_55 : decode cX0_alikeUntil 55 = .ok (.imul, 1) := by decide +kernel
theorem dX0_alikeUntil_56 : decode cX0_alikeUntil 56 = .ok (.aload_n 0, 1) := by decide +kernel
theorem dX0_alikeUntil_57 : decode cX0_alikeUntil 57 = .ok (.getfield 15, 3) := by decide +kernel
theorem dX0_alikeUntil_60 : decode cX0_alikeUntil 60 = .ok (.iload_n 2, 1) := by decide +kernel
theorem dX0_alikeUntil_61 : decode cX0_alikeUntil 61 = .ok (.iaload, 1) := by decide +kernel
theorem dX0_alikeUntil_62 : decode cX0_alikeUntil 62 = .ok (.iadd, 1) := by decide +kernel
theorem dX0_alikeUntil_63 : decode cX0_alikeUntil 63 = .ok (.if_icmp .ge 16, 3) := by decide +kernel
theorem dX0_alikeUntil_66 : decode cX0_alikeUntil 66 = .ok (.iload_n 2, 1) := by decide +kernel
theorem dX0_alikeUntil_67 : decode cX0_alikeUntil 67 = .ok (.sipush 1440, 3) := by decide +kernel
theorem dX0_alikeUntil_70 : decode cX0_alikeUntil 70 = .ok (.imul, 1) := by decide +kernel
theorem dX0_alikeUntil_71 : decode cX0_alikeUntil 71 = .ok (.aload_n 0, 1) := by decide +kernel
theorem dX0_alikeUntil_72 : decode cX0_alikeUntil 72 = .ok (.getfield 15, 3) := by decide +kernel
theorem dX0_alikeUntil_75 : decode cX0_alikeUntil 75 = .ok (.iload_n 2, 1) := by decide +kernel
theorem dX0_alikeUntil_76 : decode cX0_alikeUntil 76 = .ok (.iaload, 1) := by decide +kernel
theorem dX0_alikeUntil_77 : decode cX0_alikeUntil 77 = .ok (.iadd, 1) := by decide +kernel
theorem dX0_alikeUntil_78 : decode cX0_alikeUntil 78 = .ok (.ireturn, 1) := by decide +kernel
theorem dX0_alikeUntil_79 : decode cX0_alikeUntil 79 = .ok (.iload_n 2, 1) := by decide +kernel
theorem dX0_alikeUntil_80 : decode cX0_alikeUntil 80 = .ok (.iconst 1, 1) := by decide +kernel
theorem dX0_alikeUntil_81 : decode cX0_alikeUntil 81 = .ok (.iadd, 1) := by decide +kernel
theorem dX0_alikeUntil_82 : decode cX0_alikeUntil 82 = .ok (.sipush 1440, 3) := by decide +kernel
theorem dX0_alikeUntil_85 : decode cX0_alikeUntil 85 = .ok (.imul, 1) := by decide +kernel
theorem dX0_alikeUntil_86 : decode cX0_alikeUntil 86 = .ok (.ireturn, 1) := by decide +kernel
theorem dX0_copyFrom_0 : decode cX0_copyFrom 0 = .ok (.aload_n 1, 1) := by decide +kernel
theorem dX0_copyFrom_1 : decode cX0_copyFrom 1 = .ok (.getfield 9, 3) := by decide +kernel
theorem dX0_copyFrom_4 : decode cX0_copyFrom 4 = .ok (.iconst 0, 1) := by decide +kernel
theorem dX0_copyFrom_5 : decode cX0_copyFrom 5 = .ok (.aload_n 0, 1) := by decide +kernel
theorem dX0_copyFrom_6 : decode cX0_copyFrom 6 = .ok (.getfield 9, 3) := by decide +kernel
theorem dX0_copyFrom_9 : decode cX0_copyFrom 9 = .ok (.iconst 0, 1) := by decide +kernel
theorem dX0_copyFrom_10 : decode cX0_copyFrom 10 = .ok (.bipush 7, 2) := by decide +kernel
theorem dX0_copyFrom_12 : decode cX0_copyFrom 12 = .ok (.invokestatic 21, 3) := by decide +kernel
theorem dX0_copyFrom_15 : decode cX0_copyFrom 15 = .ok (.aload_n 1, 1) := by decide +kernel
theorem dX0_copyFrom_16 : decode cX0_copyFrom 16 = .ok (.getfield 15, 3) := by decide +kernel
theorem dX0_copyFrom_19 : decode cX0_copyFrom 19 = .ok (.iconst 0, 1) := by decide +kernel
theorem dX0_copyFrom_20 : decode cX0_copyFrom 20 = .ok (.aload_n 0, 1) := by decide +kernel
theorem dX0_copyFrom_21 : decode cX0_copyFrom 21 = .ok (.getfield 15, 3) := by decide +kernel
theorem dX0_copyFrom_24 : decode cX0_copyFrom 24 = .ok (.iconst 0, 1) := by decide +kernel
theorem dX0_copyFrom_25 : decode cX0_copyFrom 25 = .ok (.bipush 7, 2) := by decide +kernel
theorem dX0_copyFrom_27 : decode cX0_copyFrom 27 = .ok (.invokestatic 21, 3) := by decide +kernel
theorem dX0_copyFrom_30 : decode cX0_copyFrom 30 = .ok (.return_, 1) := by decide +kernel
theorem dX1_init_0 : decode cX1_init 0 = .ok (.aload_n 0, 1) := by decide +kernel
theorem dX1_init_1 : decode cX1_init 1 = .ok (.invokespecial 3, 3) := by decide +kernel
theorem dX1_init_4 : decode cX1_init 4 = .ok (.aload_n 0, 1) := by decide +kernel
theorem dX1_init_5 : decode cX1_init 5 = .ok (.new 9, 3) := by decide +kernel
theorem dX1_init_8 : decode cX1_init 8 = .ok (.dup, 1) := by decide +kernel
theorem dX1_init_9 : decode cX1_init 9 = .ok (.invokespecial 11, 3) := by decide +kernel
theorem dX1_init_12 : decode cX1_init 12 = .ok (.putfield 12, 3) := by decide +kernel
theorem dX1_init_15 : decode cX1_init 15 = .ok (.aload_n 0, 1) := by decide +kernel
theorem dX1_init_16 : decode cX1_init 16 = .ok (.new 18, 3) := by decide +kernel
theorem dX1_init_19 : decode cX1_init 19 = .ok (.dup, 1) := by decide +kernel
theorem dX1_init_20 : decode cX1_init 20 = .ok (.invokespecial 20, 3) := by decide +kernel
theorem dX1_init_23 : decode cX1_init 23 = .ok (.putfield 21, 3) := by decide +kernel
theorem dX1_init_26 : decode cX1_init 26 = .ok (.aload_n 0, 1) := by decide +kernel
theorem dX1_init_27 : decode cX1_init 27 = .ok (.iconst 4, 1) := by decide +kernel
theorem dX1_init_28 : decode cX1_init 28 = .ok (.newarray .int, 2) := by decide +kernel
theorem dX1_init_30 : decode cX1_init 30 = .ok (.putfield 25, 3) := by decide +kernel
theorem dX1_init_33 : decode cX1_init 33 = .ok (.aload_n 0, 1) := by decide +kernel
theorem dX1_init_34 : decode cX1_init 34 = .ok (.new 29, 3) := by decide +kernel
theorem dX1_init_37 : decode cX1_init 37 = .ok (.dup, 1) := by decide +kernel
theorem dX1_init_38 : decode cX1_init 38 = .ok (.invokespecial 31, 3) := by decide +kernel
theorem dX1_init_41 : decode cX1_init 41 = .ok (.putfield 32, 3) := by decide +kernel
theorem dX1_init_44 : decode cX1_init 44 = .ok (.aload_n 0, 1) := by decide +kernel
theorem dX1_init_45 : decode cX1_init 45 = .ok (.new 36, 3) := by decide +kernel
theorem dX1_init_48 : decode cX1_init 48 = .ok (.dup, 1) := by decide +kernel
theorem dX1_init_49 : decode cX1_init 49 = .ok (.iload_n 1, 1) := by decide +kernel
theorem dX1_init_50 : decode cX1_init 50 = .ok (.invokespecial 38, 3) := by decide +kernel
theorem dX1_init_53 : decode cX1_init 53 = .ok (.putfield 41, 3) := by decide +kernel
theorem dX1_init_56 : decode cX1_init 56 = .ok (.aload_n 0, 1) := by decide +kernel
theorem dX1_init_57 : decode cX1_init 57 = .ok (.invokevirtual 45, 3) := by decide +kernel
theorem dX1_init_60 : decode cX1_init 60 = .ok (.return_, 1) := by decide +kernel
theorem dX1_beginWeek_0 : decode cX1_beginWeek 0 = .ok (.aload_n 0, 1) := by decide +kernel
theorem dX1_beginWeek_1 : decode cX1_beginWeek 1 = .ok (.iconst 0, 1) := by decide +kernel
theorem dX1_beginWeek_2 : decode cX1_beginWeek 2 = .ok (.putfield 48, 3) := by decide +kernel
theorem dX1_beginWeek_5 : decode cX1_beginWeek 5 = .ok (.aload_n 0, 1) := by decide +kernel
theorem dX1_beginWeek_6 : decode cX1_beginWeek 6 = .ok (.getfield 12, 3) := by decide +kernel
theorem dX1_beginWeek_9 : decode cX1_beginWeek 9 = .ok (.invokevirtual 52, 3) := by decide +kernel
theorem dX1_beginWeek_12 : decode cX1_beginWeek 12 = .ok (.aload_n 0, 1) := by decide +kernel
theorem dX1_beginWeek_13 : decode cX1_beginWeek 13 = .ok (.getfield 25, 3) := by decide +kernel
theorem dX1_beginWeek_16 : decode cX1_beginWeek 16 = .ok (.iconst 1, 1) := by decide +kernel
theorem dX1_beginWeek_17 : decode cX1_beginWeek 17 = .ok (.invokestatic 55, 3) := by decide +kernel
theorem dX1_beginWeek_20 : decode cX1_beginWeek 20 = .ok (.aload_n 0, 1) := by decide +kernel
theorem dX1_beginWeek_21 : decode cX1_beginWeek 21 = .ok (.getfield 32, 3) := by decide +kernel
theorem dX1_beginWeek_24 : decode cX1_beginWeek 24 = .ok (.iconst 0, 1) := by decide +kernel
theorem dX1_beginWeek_25 : decode cX1_beginWeek 25 = .ok (.putfield 61, 3) := by decide +kernel
theorem dX1_beginWeek_28 : decode cX1_beginWeek 28 = .ok (.return_, 1) := by decide +kernel
theorem dX1_copyFrom_0 : decode cX1_copyFrom 0 = .ok (.aload_n 0, 1) := by decide +kernel
theorem dX1_copyFrom_1 : decode cX1_copyFrom 1 = .ok (.aload_n 1, 1) := by decide +kernel
theorem dX1_copyFrom_2 : decode cX1_copyFrom 2 = .ok (.getfield 48, 3) := by decide +kernel
theorem dX1_copyFrom_5 : decode cX1_copyFrom 5 = .ok (.putfield 48, 3) := by decide +kernel
theorem dX1_copyFrom_8 : decode cX1_copyFrom 8 = .ok (.aload_n 0, 1) := by decide +kernel
theorem dX1_copyFrom_9 : decode cX1_copyFrom 9 = .ok (.getfield 12, 3) := by decide +kernel
theorem dX1_copyFrom_12 : decode cX1_copyFrom 12 = .ok (.aload_n 1, 1) := by decide +kernel
theorem dX1_copyFrom_13 : decode cX1_copyFrom 13 = .ok (.getfield 12, 3) := by decide +kernel
theorem dX1_copyFrom_16 : decode cX1_copyFrom 16 = .ok (.invokevirtual 64, 3) := by decide +kernel
theorem dX1_copyFrom_19 : decode cX1_copyFrom 19 = .ok (.aload_n 0, 1) := by decide +kernel
theorem dX1_copyFrom_20 : decode cX1_copyFrom 20 = .ok (.getfield 21, 3) := by decide +kernel
theorem dX1_copyFrom_23 : decode cX1_copyFrom 23 = .ok (.aload_n 1, 1) := by decide +kernel
theorem dX1_copyFrom_24 : decode cX1_copyFrom 24 = .ok (.getfield 21, 3) := by decide +kernel
theorem dX1_copyFrom_27 : decode cX1_copyFrom 27 = .ok (.invokevirtual 68, 3) := by decide +kernel
theorem dX1_copyFrom_30 : decode cX1_copyFrom 30 = .ok (.aload_n 1, 1) := by decide +kernel
theorem dX1_copyFrom_31 : decode cX1_copyFrom 31 = .ok (.getfield 25, 3) := by decide +kernel
theorem dX1_copyFrom_34 : decode cX1_copyFrom 34 = .ok (.iconst 0, 1) := by decide +kernel
theorem dX1_copyFrom_35 : decode cX1_copyFrom 35 = .ok (.aload_n 0, 1) := by decide +kernel
theorem dX1_copyFrom_36 : decode cX1_copyFrom 36 = .ok (.getfield 25, 3) := by decide +kernel
theorem dX1_copyFrom_39 : decode cX1_copyFrom 39 = .ok (.iconst 0, 1) := by decide +kernel
theorem dX1_copyFrom_40 : decode cX1_copyFrom 40 = .ok (.iconst 4, 1) := by decide +kernel
theorem dX1_copyFrom_41 : decode cX1_copyFrom 41 = .ok (.invokestatic 71, 3) := by decide +kernel
theorem dX1_copyFrom_44 : decode cX1_copyFrom 44 = .ok (.aload_n 0, 1) := by decide +kernel
theorem dX1_copyFrom_45 : decode cX1_copyFrom 45 = .ok (.getfield 32, 3) := by decide +kernel
theorem dX1_copyFrom_48 : decode cX1_copyFrom 48 = .ok (.aload_n 1, 1) := by decide +kernel
theorem dX1_copyFrom_49 : decode cX1_copyFrom 49 = .ok (.getfield 32, 3) := by decide +kernel
theorem dX1_copyFrom_52 : decode cX1_copyFrom 52 = .ok (.invokevirtual 77, 3) := by decide +kernel
theorem dX1_copyFrom_55 : decode cX1_copyFrom 55 = .ok (.aload_n 0, 1) := by decide +kernel
theorem dX1_copyFrom_56 : decode cX1_copyFrom 56 = .ok (.getfield 41, 3) := by decide +kernel
theorem dX1_copyFrom_59 : decode cX1_copyFrom 59 = .ok (.aload_n 1, 1) := by decide +kernel
theorem dX1_copyFrom_60 : decode cX1_copyFrom 60 = .ok (.getfield 41, 3) := by decide +kernel
theorem dX1_copyFrom_63 : decode cX1_copyFrom 63 = .ok (.invokevirtual 80, 3) := by decide +kernel
theorem dX1_copyFrom_66 : decode cX1_copyFrom 66 = .ok (.return_, 1) := by decide +kernel
theorem dX1_errorOf_0 : decode cX1_errorOf 0 = .ok (.iload_n 1, 1) := by decide +kernel
theorem dX1_errorOf_1 : decode cX1_errorOf 1 = .ok (.tableswitch 123 0 11 #[63, 123, 72, 98, 123, 123, 123, 123, 123, 109, 123, 116], 63) := by decide +kernel
theorem dX1_errorOf_64 : decode cX1_errorOf 64 = .ok (.aload_n 0, 1) := by decide +kernel
theorem dX1_errorOf_65 : decode cX1_errorOf 65 = .ok (.iload_n 2, 1) := by decide +kernel
theorem dX1_errorOf_66 : decode cX1_errorOf 66 = .ok (.iload_n 3, 1) := by decide +kernel
theorem dX1_errorOf_67 : decode cX1_errorOf 67 = .ok (.iload 4, 2) := by decide +kernel
theorem dX1_errorOf_69 : decode cX1_errorOf 69 = .ok (.invokevirtual 83, 3) := by decide +kernel
theorem dX1_errorOf_72 : decode cX1_errorOf 72 = .ok (.ireturn, 1) := by decide +kernel
theorem dX1_errorOf_73 : decode cX1_errorOf 73 = .ok (.iload_n 2, 1) := by decide +kernel
theorem dX1_errorOf_74 : decode cX1_errorOf 74 = .ok (.iconst 0, 1) := by decide +kernel
theorem dX1_errorOf_75 : decode cX1_errorOf 75 = .ok (.iconst 3, 1) := by decide +kernel
theorem dX1_errorOf_76 : decode cX1_errorOf 76 = .ok (.invokestatic 87, 3) := by decide +kernel
theorem dX1_errorOf_79 : decode cX1_errorOf 79 = .ok (.ifCond .eq 17, 3) := by decide +kernel
theorem dX1_errorOf_82 : decode cX1_errorOf 82 = .ok (.iload_n 3, 1) := by decide +kernel
theorem dX1_errorOf_83 : decode cX1_errorOf 83 = .ok (.iconst 0, 1) := by decide +kernel
theorem dX1_errorOf_84 : decode cX1_errorOf 84 = .ok (.bipush 9, 2) := by decide +kernel
theorem dX1_errorOf_86 : decode cX1_errorOf 86 = .ok (.invokestatic 87, 3) := by decide +kernel
theorem dX1_errorOf_89 : decode cX1_errorOf 89 = .ok (.ifCond .eq 7, 3) := by decide +kernel
theorem dX1_errorOf_92 : decode cX1_errorOf 92 = .ok (.iconst 0, 1) := by decide +kernel
theorem dX1_errorOf_93 : decode cX1_errorOf 93 = .ok (.goto 5, 3) := by decide +kernel
theorem dX1_errorOf_96 : decode cX1_errorOf 96 = .ok (.bipush (-4), 2) := by decide +kernel
theorem dX1_errorOf_98 : decode cX1_errorOf 98 = .ok (.ireturn, 1) := by decide +kernel
theorem dX1_errorOf_99 : decode cX1_errorOf 99 = .ok (.aload_n 0, 1) := by decide +kernel
theorem dX1_errorOf_100 : decode cX1_errorOf 100 = .ok (.iload_n 2, 1) := by decide +kernel
theorem dX1_errorOf_101 : decode cX1_errorOf 101 = .ok (.iload_n 3, 1) := by decide +kernel
theorem dX1_errorOf_102 : decode cX1_errorOf 102 = .ok (.iload 4, 2) := by decide +kernel
theorem dX1_errorOf_104 : decode cX1_errorOf 104 = .ok (.iload 5, 2) := by decide +kernel
theorem dX1_errorOf_106 : decode cX1_errorOf 106 = .ok (.invokevirtual 91, 3) := by decide +kernel
theorem dX1_errorOf_109 : decode cX1_errorOf 109 = .ok (.ireturn, 1) := by decide +kernel
theorem dX1_errorOf_110 : decode cX1_errorOf 110 = .ok (.aload_n 0, 1) := by decide +kernel
theorem dX1_errorOf_111 : decode cX1_errorOf 111 = .ok (.iload_n 2, 1) := by decide +kernel
theorem dX1_errorOf_112 : decode cX1_errorOf 112 = .ok (.iload_n 3, 1) := by decide +kernel
theorem dX1_errorOf_113 : decode cX1_errorOf 113 = .ok (.invokevirtual 95, 3) := by decide +kernel
theorem dX1_errorOf_116 : decode cX1_errorOf 116 = .ok (.ireturn, 1) := by decide +kernel
theorem dX1_errorOf_117 : decode cX1_errorOf 117 = .ok (.aload_n 0, 1) := by decide +kernel
theorem dX1_errorOf_118 : decode cX1_errorOf 118 = .ok (.iload_n 2, 1) := by decide +kernel
theorem dX1_errorOf_119 : decode cX1_errorOf 119 = .ok (.iload_n 3, 1) := by decide +kernel
theorem dX1_errorOf_120 : decode cX1_errorOf 120 = .ok (.invokevirtual 99, 3) := by decide +kernel
theorem dX1_errorOf_123 : decode cX1_errorOf 123 = .ok (.ireturn, 1) := by decide +kernel
theorem dX1_errorOf_124 : decode cX1_errorOf 124 = .ok (.aload_n 0, 1) := by decide +kernel
theorem dX1_errorOf_125 : decode cX1_errorOf 125 = .ok (.iload_n 1, 1) := by decide +kernel
theorem dX1_errorOf_126 : decode cX1_errorOf 126 = .ok (.iload_n 2, 1) := by decide +kernel
theorem dX1_errorOf_127 : decode cX1_errorOf 127 = .ok (.invokevirtual 102, 3) := by decide +kernel
theorem dX1_errorOf_130 : decode cX1_errorOf 130 = .ok (.ireturn, 1) := by decide +kernel
theorem dX1_dayError_0 : decode cX1_dayError 0 = .ok (.iload_n 2, 1) := by decide +kernel
theorem dX1_dayError_1 : decode cX1_dayError 1 = .ok (.ifCond .ne 11, 3) := by decide +kernel
theorem dX1_dayError_4 : decode cX1_dayError 4 = .ok (.iload_n 3, 1) := by decide +kernel
theorem dX1_dayError_5 : decode cX1_dayError 5 = .ok (.ifCond .ne 7, 3) := by decide +kernel
theorem dX1_dayError_8 : decode cX1_dayError 8 = .ok (.iconst 1, 1) := by decide +kernel
theorem dX1_dayError_9 : decode cX1_dayError 9 = .ok (.goto 4, 3) := by decide +kernel
theorem dX1_dayError_12 : decode cX1_dayError 12 = .ok (.iconst 0, 1) := by decide +kernel
theorem dX1_dayError_13 : decode cX1_dayError 13 = .ok (.istore 4, 2) := by decide +kernel
theorem dX1_dayError_15 : decode cX1_dayError 15 = .ok (.iload_n 2, 1) := by decide +kernel
theorem dX1_dayError_16 : decode cX1_dayError 16 = .ok (.iconst 0, 1) := by decide +kernel
theorem dX1_dayError_17 : decode cX1_dayError 17 = .ok (.sipush 1439, 3) := by decide +kernel
theorem dX1_dayError_20 : decode cX1_dayError 20 = .ok (.invokestatic 87, 3) := by decide +kernel
theorem dX1_dayError_23 : decode cX1_dayError 23 = .ok (.ifCond .eq 20, 3) := by decide +kernel
theorem dX1_dayError_26 : decode cX1_dayError 26 = .ok (.iload_n 3, 1) := by decide +kernel
theorem dX1_dayError_27 : decode cX1_dayError 27 = .ok (.iload_n 2, 1) := by decide +kernel
theorem dX1_dayError_28 : decode cX1_dayError 28 = .ok (.iconst 1, 1) := by decide +kernel
theorem dX1_dayError_29 : decode cX1_dayError 29 = .ok (.iadd, 1) := by decide +kernel
theorem dX1_dayError_30 : decode cX1_dayError 30 = .ok (.sipush 1440, 3) := by decide +kernel
theorem dX1_dayError_33 : decode cX1_dayError 33 = .ok (.invokestatic 87, 3) := by decide +kernel
theorem dX1_dayError_36 : decode cX1_dayError 36 = .ok (.ifCond .eq 7, 3) := by decide +kernel
theorem dX1_dayError_39 : decode cX1_dayError 39 = .ok (.iconst 1, 1) := by decide +kernel
theorem dX1_dayError_40 : decode cX1_dayError 40 = .ok (.goto 4, 3) := by decide +kernel
theorem dX1_dayError_43 : decode cX1_dayError 43 = .ok (.iconst 0, 1) := by decide +kernel
theorem dX1_dayError_44 : decode cX1_dayError 44 = .ok (.istore 5, 2) := by decide +kernel
theorem dX1_dayError_46 : decode cX1_dayError 46 = .ok (.iload_n 1, 1) := by decide +kernel
theorem dX1_dayError_47 : decode cX1_dayError 47 = .ok (.iconst 0, 1) := by decide +kernel
theorem dX1_dayError_48 : decode cX1_dayError 48 = .ok (.bipush 6, 2) := by decide +kernel
theorem dX1_dayError_50 : decode cX1_dayError 50 = .ok (.invokestatic 87, 3) := by decide +kernel
theorem dX1_dayError_53 : decode cX1_dayError 53 = .ok (.ifCond .eq 17, 3) := by decide +kernel
theorem dX1_dayError_56 : decode cX1_dayError 56 = .ok (.iload 4, 2) := by decide +kernel
theorem dX1_dayError_58 : decode cX1_dayError 58 = .ok (.ifCond .ne 8, 3) := by decide +kernel
theorem dX1_dayError_61 : decode cX1_dayError 61 = .ok (.iload 5, 2) := by decide +kernel
theorem dX1_dayError_63 : decode cX1_dayError 63 = .ok (.ifCond .eq 7, 3) := by decide +kernel
theorem dX1_dayError_66 : decode cX1_dayError 66 = .ok (.iconst 0, 1) := by decide +kernel
theorem dX1_dayError_67 : decode cX1_dayError 67 = .ok (.goto 5, 3) := by decide +kernel
theorem dX1_dayError_70 : decode cX1_dayError 70 = .ok (.bipush (-4), 2) := by decide +kernel
theorem dX1_dayError_72 : decode cX1_dayError 72 = .ok (.ireturn, 1) := by decide +kernel
theorem dX1_reportError_0 : decode cX1_reportError 0 = .ok (.iload_n 1, 1) := by decide +kernel
theorem dX1_reportError_1 : decode cX1_reportError 1 = .ok (.iconst 0, 1) := by decide +kernel
theorem dX1_reportError_2 : decode cX1_reportError 2 = .ok (.aload_n 0, 1) := by decide +kernel
theorem dX1_reportError_3 : decode cX1_reportError 3 = .ok (.getfield 21, 3) := by decide +kernel
theorem dX1_reportError_6 : decode cX1_reportError 6 = .ok (.getfield 105, 3) := by decide +kernel
theorem dX1_reportError_9 : decode cX1_reportError 9 = .ok (.iconst 1, 1) := by decide +kernel
theorem dX1_reportError_10 : decode cX1_reportError 10 = .ok (.isub, 1) := by decide +kernel
theorem dX1_reportError_11 : decode cX1_reportError 11 = .ok (.invokestatic 87, 3) := by decide +kernel
theorem dX1_reportError_14 : decode cX1_reportError 14 = .ok (.ifCond .ne 6, 3) := by decide +kernel
theorem dX1_reportError_17 : decode cX1_reportError 17 = .ok (.bipush (-3), 2) := by decide +kernel
theorem dX1_reportError_19 : decode cX1_reportError 19 = .ok (.ireturn, 1) := by decide +kernel
theorem dX1_reportError_20 : decode cX1_reportError 20 = .ok (.iload_n 2, 1) := by decide +kernel
theorem dX1_reportError_21 : decode cX1_reportError 21 = .ok (.iconst 0, 1) := by decide +kernel
theorem dX1_reportError_22 : decode cX1_reportError 22 = .ok (.bipush 99, 2) := by decide +kernel
theorem dX1_reportError_24 : decode cX1_reportError 24 = .ok (.invokestatic 87, 3) := by decide +kernel
theorem dX1_reportError_27 : decode cX1_reportError 27 = .ok (.ifCond .eq 24, 3) := by decide +kernel
theorem dX1_reportError_30 : decode cX1_reportError 30 = .ok (.iload_n 3, 1) := by decide +kernel
theorem dX1_reportError_31 : decode cX1_reportError 31 = .ok (.iconst 0, 1) := by decide +kernel
theorem dX1_reportError_32 : decode cX1_reportError 32 = .ok (.sipush 999, 3) := by decide +kernel
theorem dX1_reportError_35 : decode cX1_reportError 35 = .ok (.invokestatic 87, 3) := by decide +kernel
theorem dX1_reportError_38 : decode cX1_reportError 38 = .ok (.ifCond .eq 13, 3) := by decide +kernel
theorem dX1_reportError_41 : decode cX1_reportError 41 = .ok (.iload 4, 2) := by decide +kernel
theorem dX1_reportError_43 : decode cX1_reportError 43 = .ok (.iconst 0, 1) := by decide +kernel
theorem dX1_reportError_44 : decode cX1_reportError 44 = .ok (.iconst 3, 1) := by decide +kernel
theorem dX1_reportError_45 : decode cX1_reportError 45 = .ok (.invokestatic 87, 3) := by decide +kernel
theorem dX1_reportError_48 : decode cX1_reportError 48 = .ok (.ifCond .ne 6, 3) := by decide +kernel
theorem dX1_reportError_51 : decode cX1_reportError 51 = .ok (.bipush (-4), 2) := by decide +kernel
theorem dX1_reportError_53 : decode cX1_reportError 53 = .ok (.ireturn, 1) := by decide +kernel
theorem dX1_reportError_54 : decode cX1_reportError 54 = .ok (.aload_n 0, 1) := by decide +kernel
theorem dX1_reportError_55 : decode cX1_reportError 55 = .ok (.getfield 32, 3) := by decide +kernel
theorem dX1_reportError_58 : decode cX1_reportError 58 = .ok (.invokevirtual 106, 3) := by decide +kernel
theorem dX1_reportError_61 : decode cX1_reportError 61 = .ok (.ifCond .eq 8, 3) := by decide +kernel
theorem dX1_reportError_64 : decode cX1_reportError 64 = .ok (.bipush (-6), 2) := by decide +kernel
theorem dX1_reportError_66 : decode cX1_reportError 66 = .ok (.goto 4, 3) := by decide +kernel
theorem dX1_reportError_69 : decode cX1_reportError 69 = .ok (.iconst 0, 1) := by decide +kernel
theorem dX1_reportError_70 : decode cX1_reportError 70 = .ok (.ireturn, 1) := by decide +kernel
theorem dX1_joinError_0 : decode cX1_joinError 0 = .ok (.aload_n 0, 1) := by decide +kernel
theorem dX1_joinError_1 : decode cX1_joinError 1 = .ok (.getfield 32, 3) := by decide +kernel
theorem dX1_joinError_4 : decode cX1_joinError 4 = .ok (.iload_n 1, 1) := by decide +kernel
theorem dX1_joinError_5 : decode cX1_joinError 5 = .ok (.invokevirtual 110, 3) := by decide +kernel
theorem dX1_joinError_8 : decode cX1_joinError 8 = .ok (.ifCond .eq 14, 3) := by decide +kernel
theorem dX1_joinError_11 : decode cX1_joinError 11 = .ok (.aload_n 0, 1) := by decide +kernel
theorem dX1_joinError_12 : decode cX1_joinError 12 = .ok (.getfield 32, 3) := by decide +kernel
theorem dX1_joinError_15 : decode cX1_joinError 15 = .ok (.iload_n 2, 1) := by decide +kernel
theorem dX1_joinError_16 : decode cX1_joinError 16 = .ok (.invokevirtual 110, 3) := by decide +kernel
theorem dX1_joinError_19 : decode cX1_joinError 19 = .ok (.ifCond .ne 6, 3) := by decide +kernel
theorem dX1_joinError_22 : decode cX1_joinError 22 = .ok (.bipush (-2), 2) := by decide +kernel
theorem dX1_joinError_24 : decode cX1_joinError 24 = .ok (.ireturn, 1) := by decide +kernel
theorem dX1_joinError_25 : decode cX1_joinError 25 = .ok (.iload_n 1, 1) := by decide +kernel
theorem dX1_joinError_26 : decode cX1_joinError 26 = .ok (.iload_n 2, 1) := by decide +kernel
theorem dX1_joinError_27 : decode cX1_joinError 27 = .ok (.if_icmp .eq 29, 3) := by decide +kernel
theorem dX1_joinError_30 : decode cX1_joinError 30 = .ok (.aload_n 0, 1) := by decide +kernel
theorem dX1_joinError_31 : decode cX1_joinError 31 = .ok (.getfield 32, 3) := by decide +kernel
theorem dX1_joinError_34 : decode cX1_joinError 34 = .ok (.iload_n 1, 1) := by decide +kernel
theorem dX1_joinError_35 : decode cX1_joinError 35 = .ok (.invokevirtual 114, 3) := by decide +kernel
theorem dX1_joinError_38 : decode cX1_joinError 38 = .ok (.ifCond .eq 18, 3) := by decide +kernel
theorem dX1_joinError_41 : decode cX1_joinError 41 = .ok (.aload_n 0, 1) := by decide +kernel
theorem dX1_joinError_42 : decode cX1_joinError 42 = .ok (.getfield 32, 3) := by decide +kernel
theorem dX1_joinError_45 : decode cX1_joinError 45 = .ok (.iload_n 2, 1) := by decide +kernel
theorem dX1_joinError_46 : decode cX1_joinError 46 = .ok (.invokevirtual 114, 3) := by decide +kernel
theorem dX1_joinError_49 : decode cX1_joinError 49 = .ok (.ifCond .eq 7, 3) := by decide +kernel
theorem dX1_joinError_52 : decode cX1_joinError 52 = .ok (.iconst 1, 1) := by decide +kernel
theorem dX1_joinError_53 : decode cX1_joinError 53 = .ok (.goto 4, 3) := by decide +kernel
theorem dX1_joinError_56 : decode cX1_joinError 56 = .ok (.iconst 0, 1) := by decide +kernel
theorem dX1_joinError_57 : decode cX1_joinError 57 = .ok (.istore_n 3, 1) := by decide +kernel
theorem dX1_joinError_58 : decode cX1_joinError 58 = .ok (.iload_n 3, 1) := by decide +kernel
theorem dX1_joinError_59 : decode cX1_joinError 59 = .ok (.ifCond .eq 7, 3) := by decide +kernel
theorem dX1_joinError_62 : decode cX1_joinError 62 = .ok (.iconst 0, 1) := by decide +kernel
theorem dX1_joinError_63 : decode cX1_joinError 63 = .ok (.goto 5, 3) := by decide +kernel
theorem dX1_joinError_66 : decode cX1_joinError 66 = .ok (.bipush (-5), 2) := by decide +kernel
theorem dX1_joinError_68 : decode cX1_joinError 68 = .ok (.ireturn, 1) := by decide +kernel
theorem dX1_priorityError_0 : decode cX1_priorityError 0 = .ok (.aload_n 0, 1) := by decide +kernel
theorem dX1_priorityError_1 : decode cX1_priorityError 1 = .ok (.getfield 32, 3) := by decide +kernel
theorem dX1_priorityError_4 : decode cX1_priorityError 4 = .ok (.iload_n 1, 1) := by decide +kernel
theorem dX1_priorityError_5 : decode cX1_priorityError 5 = .ok (.invokevirtual 110, 3) := by decide +kernel
theorem dX1_priorityError_8 : decode cX1_priorityError 8 = .ok (.ifCond .ne 6, 3) := by decide +kernel
theorem dX1_priorityError_11 : decode cX1_priorityError 11 = .ok (.bipush (-2), 2) := by decide +kernel
theorem dX1_priorityError_13 : decode cX1_priorityError 13 = .ok (.ireturn, 1) := by decide +kernel
theorem dX1_priorityError_14 : decode cX1_priorityError 14 = .ok (.iload_n 2, 1) := by decide +kernel
theorem dX1_priorityError_15 : decode cX1_priorityError 15 = .ok (.iconst 0, 1) := by decide +kernel
theorem dX1_priorityError_16 : decode cX1_priorityError 16 = .ok (.iconst 3, 1) := by decide +kernel
theorem dX1_priorityError_17 : decode cX1_priorityError 17 = .ok (.invokestatic 87, 3) := by decide +kernel
theorem dX1_priorityError_20 : decode cX1_priorityError 20 = .ok (.ifCond .ne 6, 3) := by decide +kernel
theorem dX1_priorityError_23 : decode cX1_priorityError 23 = .ok (.bipush (-4), 2) := by decide +kernel
theorem dX1_priorityError_25 : decode cX1_priorityError 25 = .ok (.ireturn, 1) := by decide +kernel
theorem dX1_priorityError_26 : decode cX1_priorityError 26 = .ok (.aload_n 0, 1) := by decide +kernel
theorem dX1_priorityError_27 : decode cX1_priorityError 27 = .ok (.getfield 32, 3) := by decide +kernel
theorem dX1_priorityError_30 : decode cX1_priorityError 30 = .ok (.getfield 117, 3) := by decide +kernel
theorem dX1_priorityError_33 : decode cX1_priorityError 33 = .ok (.iload_n 1, 1) := by decide +kernel
theorem dX1_priorityError_34 : decode cX1_priorityError 34 = .ok (.iaload, 1) := by decide +kernel
theorem dX1_priorityError_35 : decode cX1_priorityError 35 = .ok (.iconst 3, 1) := by decide +kernel
theorem dX1_priorityError_36 : decode cX1_priorityError 36 = .ok (.if_icmp .ne 8, 3) := by decide +kernel
theorem dX1_priorityError_39 : decode cX1_priorityError 39 = .ok (.bipush (-5), 2) := by decide +kernel
theorem dX1_priorityError_41 : decode cX1_priorityError 41 = .ok (.goto 4, 3) := by decide +kernel
theorem dX1_priorityError_44 : decode cX1_priorityError 44 = .ok (.iconst 0, 1) := by decide +kernel
theorem dX1_priorityError_45 : decode cX1_priorityError 45 = .ok (.ireturn, 1) := by decide +kernel
theorem dX1_ticketError_0 : decode cX1_ticketError 0 = .ok (.aload_n 0, 1) := by decide +kernel
theorem dX1_ticketError_1 : decode cX1_ticketError 1 = .ok (.getfield 32, 3) := by decide +kernel
theorem dX1_ticketError_4 : decode cX1_ticketError 4 = .ok (.iload_n 2, 1) := by decide +kernel
theorem dX1_ticketError_5 : decode cX1_ticketError 5 = .ok (.invokevirtual 110, 3) := by decide +kernel
theorem dX1_ticketError_8 : decode cX1_ticketError 8 = .ok (.ifCond .ne 6, 3) := by decide +kernel
theorem dX1_ticketError_11 : decode cX1_ticketError 11 = .ok (.bipush (-2), 2) := by decide +kernel
theorem dX1_ticketError_13 : decode cX1_ticketError 13 = .ok (.ireturn, 1) := by decide +kernel
theorem dX1_ticketError_14 : decode cX1_ticketError 14 = .ok (.aload_n 0, 1) := by decide +kernel
theorem dX1_ticketError_15 : decode cX1_ticketError 15 = .ok (.iload_n 1, 1) := by decide +kernel
theorem dX1_ticketError_16 : decode cX1_ticketError 16 = .ok (.iload_n 2, 1) := by decide +kernel
theorem dX1_ticketError_17 : decode cX1_ticketError 17 = .ok (.invokevirtual 120, 3) := by decide +kernel
theorem dX1_ticketError_20 : decode cX1_ticketError 20 = .ok (.ifCond .eq 7, 3) := by decide +kernel
theorem dX1_ticketError_23 : decode cX1_ticketError 23 = .ok (.iconst 0, 1) := by decide +kernel
theorem dX1_ticketError_24 : decode cX1_ticketError 24 = .ok (.goto 5, 3) := by decide +kernel
theorem dX1_ticketError_27 : decode cX1_ticketError 27 = .ok (.bipush (-5), 2) := by decide +kernel
theorem dX1_ticketError_29 : decode cX1_ticketError 29 = .ok (.ireturn, 1) := by decide +kernel
theorem dX1_allows_0 : decode cX1_allows 0 = .ok (.iload_n 1, 1) := by decide +kernel
theorem dX1_allows_1 : decode cX1_allows 1 = .ok (.tableswitch 161 4 10 #[43, 52, 71, 101, 110, 161, 142], 43) := by decide +kernel
theorem dX1_allows_44 : decode cX1_allows 44 = .ok (.aload_n 0, 1) := by decide +kernel
theorem dX1_allows_45 : decode cX1_allows 45 = .ok (.getfield 32, 3) := by decide +kernel
theorem dX1_allows_48 : decode cX1_allows 48 = .ok (.iload_n 2, 1) := by decide +kernel
theorem dX1_allows_49 : decode cX1_allows 49 = .ok (.invokevirtual 124, 3) := by decide +kernel
theorem dX1_allows_52 : decode cX1_allows 52 = .ok (.ireturn, 1) := by decide +kernel
theorem dX1_allows_53 : decode cX1_allows 53 = .ok (.aload_n 0, 1) := by decide +kernel
theorem dX1_allows_54 : decode cX1_allows 54 = .ok (.getfield 32, 3) := by decide +kernel
theorem dX1_allows_57 : decode cX1_allows 57 = .ok (.getfield 117, 3) := by decide +kernel
theorem dX1_allows_60 : decode cX1_allows 60 = .ok (.iload_n 2, 1) := by decide +kernel
theorem dX1_allows_61 : decode cX1_allows 61 = .ok (.iaload, 1) := by decide +kernel
theorem dX1_allows_62 : decode cX1_allows 62 = .ok (.iconst 2, 1) := by decide +kernel
theorem dX1_allows_63 : decode cX1_allows 63 = .ok (.if_icmp .ne 7, 3) := by decide +kernel
theorem dX1_allows_66 : decode cX1_allows 66 = .ok (.iconst 1, 1) := by decide +kernel
theorem dX1_allows_67 : decode cX1_allows 67 = .ok (.goto 4, 3) := by decide +kernel
theorem dX1_allows_70 : decode cX1_allows 70 = .ok (.iconst 0, 1) := by decide +kernel
theorem dX1_allows_71 : decode cX1_allows 71 = .ok (.ireturn, 1) := by decide +kernel
theorem dX1_allows_72 : decode cX1_allows 72 = .ok (.aload_n 0, 1) := by decide +kernel
theorem dX1_allows_73 : decode cX1_allows 73 = .ok (.getfield 32, 3) := by decide +kernel
theorem dX1_allows_76 : decode cX1_allows 76 = .ok (.iload_n 2, 1) := by decide +kernel
theorem dX1_allows_77 : decode cX1_allows 77 = .ok (.invokevirtual 124, 3) := by decide +kernel
theorem dX1_allows_80 : decode cX1_allows 80 = .ok (.ifCond .eq 20, 3) := by decide +kernel
theorem dX1_allows_83 : decode cX1_allows 83 = .ok (.aload_n 0, 1) := by decide +kernel
theorem dX1_allows_84 : decode cX1_allows 84 = .ok (.getfield 32, 3) := by decide +kernel
theorem dX1_allows_87 : decode cX1_allows 87 = .ok (.getfield 127, 3) := by decide +kernel
theorem dX1_allows_90 : decode cX1_allows 90 = .ok (.iload_n 2, 1) := by decide +kernel
theorem dX1_allows_91 : decode cX1_allows 91 = .ok (.iaload, 1) := by decide +kernel
theorem dX1_allows_92 : decode cX1_allows 92 = .ok (.iconst 3, 1) := by decide +kernel
theorem dX1_allows_93 : decode cX1_allows 93 = .ok (.if_icmp .ge 7, 3) := by decide +kernel
theorem dX1_allows_96 : decode cX1_allows 96 = .ok (.iconst 1, 1) := by decide +kernel
theorem dX1_allows_97 : decode cX1_allows 97 = .ok (.goto 4, 3) := by decide +kernel
theorem dX1_allows_100 : decode cX1_allows 100 = .ok (.iconst 0, 1) := by decide +kernel
theorem dX1_allows_101 : decode cX1_allows 101 = .ok (.ireturn, 1) := by decide +kernel
theorem dX1_allows_102 : decode cX1_allows 102 = .ok (.aload_n 0, 1) := by decide +kernel
theorem dX1_allows_103 : decode cX1_allows 103 = .ok (.getfield 32, 3) := by decide +kernel
theorem dX1_allows_106 : decode cX1_allows 106 = .ok (.iload_n 2, 1) := by decide +kernel
theorem dX1_allows_107 : decode cX1_allows 107 = .ok (.invokevirtual 114, 3) := by decide +kernel
theorem dX1_allows_110 : decode cX1_allows 110 = .ok (.ireturn, 1) := by decide +kernel
theorem dX1_allows_111 : decode cX1_allows 111 = .ok (.aload_n 0, 1) := by decide +kernel
theorem dX1_allows_112 : decode cX1_allows 112 = .ok (.getfield 32, 3) := by decide +kernel
theorem dX1_allows_115 : decode cX1_allows 115 = .ok (.getfield 117, 3) := by decide +kernel
theorem dX1_allows_118 : decode cX1_allows 118 = .ok (.iload_n 2, 1) := by decide +kernel
theorem dX1_allows_119 : decode cX1_allows 119 = .ok (.iaload, 1) := by decide +kernel
theorem dX1_allows_120 : decode cX1_allows 120 = .ok (.iconst 3, 1) := by decide +kernel
theorem dX1_allows_121 : decode cX1_allows 121 = .ok (.if_icmp .ne 20, 3) := by decide +kernel
theorem dX1_allows_124 : decode cX1_allows 124 = .ok (.aload_n 0, 1) := by decide +kernel
theorem dX1_allows_125 : decode cX1_allows 125 = .ok (.getfield 32, 3) := by decide +kernel
theorem dX1_allows_128 : decode cX1_allows 128 = .ok (.getfield 130, 3) := by decide +kernel
theorem dX1_allows_131 : decode cX1_allows 131 = .ok (.iload_n 2, 1) := by decide +kernel
theorem dX1_allows_132 : decode cX1_allows 132 = .ok (.iaload, 1) := by decide +kernel
theorem dX1_allows_133 : decode cX1_allows 133 = .ok (.iconst (-1), 1) := by decide +kernel
theorem dX1_allows_134 : decode cX1_allows 134 = .ok (.if_icmp .ne 7, 3) := by decide +kernel
theorem dX1_allows_137 : decode cX1_allows 137 = .ok (.iconst 1, 1) := by decide +kernel
theorem dX1_allows_138 : decode cX1_allows 138 = .ok (.goto 4, 3) := by decide +kernel
theorem dX1_allows_141 : decode cX1_allows 141 = .ok (.iconst 0, 1) := by decide +kernel
theorem dX1_allows_142 : decode cX1_allows 142 = .ok (.ireturn, 1) := by decide +kernel
theorem dX1_allows_143 : decode cX1_allows 143 = .ok (.aload_n 0, 1) := by decide +kernel
theorem dX1_allows_144 : decode cX1_allows 144 = .ok (.getfield 32, 3) := by decide +kernel
theorem dX1_allows_147 : decode cX1_allows 147 = .ok (.getfield 117, 3) := by decide +kernel
theorem dX1_allows_150 : decode cX1_allows 150 = .ok (.iload_n 2, 1) := by decide +kernel
theorem dX1_allows_151 : decode cX1_allows 151 = .ok (.iaload, 1) := by decide +kernel
theorem dX1_allows_152 : decode cX1_allows 152 = .ok (.iconst 4, 1) := by decide +kernel
theorem dX1_allows_153 : decode cX1_allows 153 = .ok (.if_icmp .ne 7, 3) := by decide +kernel
theorem dX1_allows_156 : decode cX1_allows 156 = .ok (.iconst 1, 1) := by decide +kernel
theorem dX1_allows_157 : decode cX1_allows 157 = .ok (.goto 4, 3) := by decide +kernel
theorem dX1_allows_160 : decode cX1_allows 160 = .ok (.iconst 0, 1) := by decide +kernel
theorem dX1_allows_161 : decode cX1_allows 161 = .ok (.ireturn, 1) := by decide +kernel
theorem dX1_allows_162 : decode cX1_allows 162 = .ok (.iconst 0, 1) := by decide +kernel
theorem dX1_allows_163 : decode cX1_allows 163 = .ok (.ireturn, 1) := by decide +kernel
theorem dX1_make_0 : decode cX1_make 0 = .ok (.iload_n 1, 1) := by decide +kernel
theorem dX1_make_1 : decode cX1_make 1 = .ok (.tableswitch 156 0 11 #[63, 156, 76, 83, 94, 102, 110, 120, 130, 136, 143, 149], 63) := by decide +kernel
theorem dX1_make_64 : decode cX1_make 64 = .ok (.aload_n 0, 1) := by decide +kernel
theorem dX1_make_65 : decode cX1_make 65 = .ok (.getfield 12, 3) := by decide +kernel
theorem dX1_make_68 : decode cX1_make 68 = .ok (.iload_n 2, 1) := by decide +kernel
theorem dX1_make_69 : decode cX1_make 69 = .ok (.iload_n 3, 1) := by decide +kernel
theorem dX1_make_70 : decode cX1_make 70 = .ok (.iload 4, 2) := by decide +kernel
theorem dX1_make_72 : decode cX1_make 72 = .ok (.invokevirtual 133, 3) := by decide +kernel
theorem dX1_make_75 : decode cX1_make 75 = .ok (.iconst 0, 1) := by decide +kernel
theorem dX1_make_76 : decode cX1_make 76 = .ok (.ireturn, 1) := by decide +kernel
theorem dX1_make_77 : decode cX1_make 77 = .ok (.aload_n 0, 1) := by decide +kernel
theorem dX1_make_78 : decode cX1_make 78 = .ok (.iload_n 2, 1) := by decide +kernel
theorem dX1_make_79 : decode cX1_make 79 = .ok (.iload_n 3, 1) := by decide +kernel
theorem dX1_make_80 : decode cX1_make 80 = .ok (.invokevirtual 137, 3) := by decide +kernel
theorem dX1_make_83 : decode cX1_make 83 = .ok (.ireturn, 1) := by decide +kernel
theorem dX1_make_84 : decode cX1_make 84 = .ok (.aload_n 0, 1) := by decide +kernel
theorem dX1_make_85 : decode cX1_make 85 = .ok (.iload_n 2, 1) := by decide +kernel
theorem dX1_make_86 : decode cX1_make 86 = .ok (.iload_n 3, 1) := by decide +kernel
theorem dX1_make_87 : decode cX1_make 87 = .ok (.iload 4, 2) := by decide +kernel
theorem dX1_make_89 : decode cX1_make 89 = .ok (.iload 5, 2) := by decide +kernel
theorem dX1_make_91 : decode cX1_make 91 = .ok (.invokevirtual 140, 3) := by decide +kernel
theorem dX1_make_94 : decode cX1_make 94 = .ok (.ireturn, 1) := by decide +kernel
theorem dX1_make_95 : decode cX1_make 95 = .ok (.aload_n 0, 1) := by decide +kernel
theorem dX1_make_96 : decode cX1_make 96 = .ok (.iload_n 2, 1) := by decide +kernel
theorem dX1_make_97 : decode cX1_make 97 = .ok (.iconst 2, 1) := by decide +kernel
theorem dX1_make_98 : decode cX1_make 98 = .ok (.iconst 2, 1) := by decide +kernel
theorem dX1_make_99 : decode cX1_make 99 = .ok (.invokevirtual 143, 3) := by decide +kernel
theorem dX1_make_102 : decode cX1_make 102 = .ok (.ireturn, 1) := by decide +kernel
theorem dX1_make_103 : decode cX1_make 103 = .ok (.aload_n 0, 1) := by decide +kernel
theorem dX1_make_104 : decode cX1_make 104 = .ok (.iload_n 2, 1) := by decide +kernel
theorem dX1_make_105 : decode cX1_make 105 = .ok (.iconst 0, 1) := by decide +kernel
theorem dX1_make_106 : decode cX1_make 106 = .ok (.iconst 3, 1) := by decide +kernel
theorem dX1_make_107 : decode cX1_make 107 = .ok (.invokevirtual 143, 3) := by decide +kernel
theorem dX1_make_110 : decode cX1_make 110 = .ok (.ireturn, 1) := by decide +kernel
theorem dX1_make_111 : decode cX1_make 111 = .ok (.aload_n 0, 1) := by decide +kernel
theorem dX1_make_112 : decode cX1_make 112 = .ok (.iload_n 2, 1) := by decide +kernel
theorem dX1_make_113 : decode cX1_make 113 = .ok (.aload_n 0, 1) := by decide +kernel
theorem dX1_make_114 : decode cX1_make 114 = .ok (.getfield 48, 3) := by decide +kernel
theorem dX1_make_117 : decode cX1_make 117 = .ok (.invokevirtual 146, 3) := by decide +kernel
theorem dX1_make_120 : decode cX1_make 120 = .ok (.ireturn, 1) := by decide +kernel
theorem dX1_make_121 : decode cX1_make 121 = .ok (.aload_n 0, 1) := by decide +kernel
theorem dX1_make_122 : decode cX1_make 122 = .ok (.iload_n 2, 1) := by decide +kernel
theorem dX1_make_123 : decode cX1_make 123 = .ok (.aload_n 0, 1) := by decide +kernel
theorem dX1_make_124 : decode cX1_make 124 = .ok (.getfield 48, 3) := by decide +kernel
theorem dX1_make_127 : decode cX1_make 127 = .ok (.invokevirtual 149, 3) := by decide +kernel
theorem dX1_make_130 : decode cX1_make 130 = .ok (.ireturn, 1) := by decide +kernel
theorem dX1_make_131 : decode cX1_make 131 = .ok (.aload_n 0, 1) := by decide +kernel
theorem dX1_make_132 : decode cX1_make 132 = .ok (.iload_n 2, 1) := by decide +kernel
theorem dX1_make_133 : decode cX1_make 133 = .ok (.invokevirtual 152, 3) := by decide +kernel
theorem dX1_make_136 : decode cX1_make 136 = .ok (.ireturn, 1) := by decide +kernel
theorem dX1_make_137 : decode cX1_make 137 = .ok (.aload_n 0, 1) := by decide +kernel
theorem dX1_make_138 : decode cX1_make 138 = .ok (.iload_n 2, 1) := by decide +kernel
theorem dX1_make_139 : decode cX1_make 139 = .ok (.iload_n 3, 1) := by decide +kernel
theorem dX1_make_140 : decode cX1_make 140 = .ok (.invokevirtual 156, 3) := by decide +kernel
theorem dX1_make_143 : decode cX1_make 143 = .ok (.ireturn, 1) := by decide +kernel
theorem dX1_make_144 : decode cX1_make 144 = .ok (.aload_n 0, 1) := by decide +kernel
theorem dX1_make_145 : decode cX1_make 145 = .ok (.iload_n 2, 1) := by decide +kernel
theorem dX1_make_146 : decode cX1_make 146 = .ok (.invokevirtual 159, 3) := by decide +kernel
theorem dX1_make_149 : decode cX1_make 149 = .ok (.ireturn, 1) := by decide +kernel
theorem dX1_make_150 : decode cX1_make 150 = .ok (.aload_n 0, 1) := by decide +kernel
theorem dX1_make_151 : decode cX1_make 151 = .ok (.iload_n 2, 1) := by decide +kernel
theorem dX1_make_152 : decode cX1_make 152 = .ok (.iload_n 3, 1) := by decide +kernel
theorem dX1_make_153 : decode cX1_make 153 = .ok (.invokevirtual 162, 3) := by decide +kernel
theorem dX1_make_156 : decode cX1_make 156 = .ok (.ireturn, 1) := by decide +kernel
theorem dX1_make_157 : decode cX1_make 157 = .ok (.iconst 0, 1) := by decide +kernel
theorem dX1_make_158 : decode cX1_make 158 = .ok (.ireturn, 1) := by decide +kernel
theorem dX1_staff_0 : decode cX1_staff 0 = .ok (.aload_n 0, 1) := by decide +kernel
theorem dX1_staff_1 : decode cX1_staff 1 = .ok (.getfield 25, 3) := by decide +kernel
theorem dX1_staff_4 : decode cX1_staff 4 = .ok (.iload_n 1, 1) := by decide +kernel
theorem dX1_staff_5 : decode cX1_staff 5 = .ok (.iaload, 1) := by decide +kernel
theorem dX1_staff_6 : decode cX1_staff 6 = .ok (.istore_n 3, 1) := by decide +kernel
theorem dX1_staff_7 : decode cX1_staff 7 = .ok (.aload_n 0, 1) := by decide +kernel
theorem dX1_staff_8 : decode cX1_staff 8 = .ok (.getfield 25, 3) := by decide +kernel
theorem dX1_staff_11 : decode cX1_staff 11 = .ok (.iload_n 1, 1) := by decide +kernel
theorem dX1_staff_12 : decode cX1_staff 12 = .ok (.iload_n 2, 1) := by decide +kernel
theorem dX1_staff_13 : decode cX1_staff 13 = .ok (.iastore, 1) := by decide +kernel
theorem dX1_staff_14 : decode cX1_staff 14 = .ok (.aload_n 0, 1) := by decide +kernel
theorem dX1_staff_15 : decode cX1_staff 15 = .ok (.getfield 32, 3) := by decide +kernel
theorem dX1_staff_18 : decode cX1_staff 18 = .ok (.iload_n 1, 1) := by decide +kernel
theorem dX1_staff_19 : decode cX1_staff 19 = .ok (.iconst 1, 1) := by decide +kernel
theorem dX1_staff_20 : decode cX1_staff 20 = .ok (.invokevirtual 165, 3) := by decide +kernel
theorem dX1_staff_23 : decode cX1_staff 23 = .ok (.iload_n 2, 1) := by decide +kernel
theorem dX1_staff_24 : decode cX1_staff 24 = .ok (.isub, 1) := by decide +kernel
theorem dX1_staff_25 : decode cX1_staff 25 = .ok (.istore 4, 2) := by decide +kernel
theorem dX1_staff_27 : decode cX1_staff 27 = .ok (.aload_n 0, 1) := by decide +kernel
theorem dX1_staff_28 : decode cX1_staff 28 = .ok (.getfield 32, 3) := by decide +kernel
theorem dX1_staff_31 : decode cX1_staff 31 = .ok (.getfield 61, 3) := by decide +kernel
theorem dX1_staff_34 : decode cX1_staff 34 = .ok (.iconst 1, 1) := by decide +kernel
theorem dX1_staff_35 : decode cX1_staff 35 = .ok (.isub, 1) := by decide +kernel
theorem dX1_staff_36 : decode cX1_staff 36 = .ok (.istore 5, 2) := by decide +kernel
theorem dX1_staff_38 : decode cX1_staff 38 = .ok (.iload 5, 2) := by decide +kernel
theorem dX1_staff_40 : decode cX1_staff 40 = .ok (.ifCond .lt 56, 3) := by decide +kernel
theorem dX1_staff_43 : decode cX1_staff 43 = .ok (.iload 4, 2) := by decide +kernel
theorem dX1_staff_45 : decode cX1_staff 45 = .ok (.ifCond .le 51, 3) := by decide +kernel
theorem dX1_staff_48 : decode cX1_staff 48 = .ok (.aload_n 0, 1) := by decide +kernel
theorem dX1_staff_49 : decode cX1_staff 49 = .ok (.getfield 32, 3) := by decide +kernel
theorem dX1_staff_52 : decode cX1_staff 52 = .ok (.getfield 117, 3) := by decide +kernel
theorem dX1_staff_55 : decode cX1_staff 55 = .ok (.iload 5, 2) := by decide +kernel
theorem dX1_staff_57 : decode cX1_staff 57 = .ok (.iaload, 1) := by decide +kernel
theorem dX1_staff_58 : decode cX1_staff 58 = .ok (.iconst 1, 1) := by decide +kernel
theorem dX1_staff_59 : decode cX1_staff 59 = .ok (.if_icmp .ne 31, 3) := by decide +kernel
theorem dX1_staff_62 : decode cX1_staff 62 = .ok (.aload_n 0, 1) := by decide +kernel
theorem dX1_staff_63 : decode cX1_staff 63 = .ok (.getfield 32, 3) := by decide +kernel
theorem dX1_staff_66 : decode cX1_staff 66 = .ok (.getfield 127, 3) := by decide +kernel
theorem dX1_staff_69 : decode cX1_staff 69 = .ok (.iload 5, 2) := by decide +kernel
theorem dX1_staff_71 : decode cX1_staff 71 = .ok (.iaload, 1) := by decide +kernel
theorem dX1_staff_72 : decode cX1_staff 72 = .ok (.iload_n 1, 1) := by decide +kernel
theorem dX1_staff_73 : decode cX1_staff 73 = .ok (.if_icmp .ne 17, 3) := by decide +kernel
theorem dX1_staff_76 : decode cX1_staff 76 = .ok (.aload_n 0, 1) := by decide +kernel
theorem dX1_staff_77 : decode cX1_staff 77 = .ok (.getfield 32, 3) := by decide +kernel
theorem dX1_staff_80 : decode cX1_staff 80 = .ok (.getfield 117, 3) := by decide +kernel
theorem dX1_staff_83 : decode cX1_staff 83 = .ok (.iload 5, 2) := by decide +kernel
theorem dX1_staff_85 : decode cX1_staff 85 = .ok (.iconst 0, 1) := by decide +kernel
theorem dX1_staff_86 : decode cX1_staff 86 = .ok (.iastore, 1) := by decide +kernel
theorem dX1_staff_87 : decode cX1_staff 87 = .ok (.iinc 4 (-1), 3) := by decide +kernel
theorem dX1_staff_90 : decode cX1_staff 90 = .ok (.iinc 5 (-1), 3) := by decide +kernel
theorem dX1_staff_93 : decode cX1_staff 93 = .ok (.goto (-55), 3) := by decide +kernel
theorem dX1_staff_96 : decode cX1_staff 96 = .ok (.iload_n 3, 1) := by decide +kernel
theorem dX1_staff_97 : decode cX1_staff 97 = .ok (.ireturn, 1) := by decide +kernel
theorem dX1_enter_0 : decode cX1_enter 0 = .ok (.aload_n 0, 1) := by decide +kernel
theorem dX1_enter_1 : decode cX1_enter 1 = .ok (.getfield 32, 3) := by decide +kernel
theorem dX1_enter_4 : decode cX1_enter 4 = .ok (.iload_n 1, 1) := by decide +kernel
theorem dX1_enter_5 : decode cX1_enter 5 = .ok (.iload_n 2, 1) := by decide +kernel
theorem dX1_enter_6 : decode cX1_enter 6 = .ok (.iload_n 3, 1) := by decide +kernel
theorem dX1_enter_7 : decode cX1_enter 7 = .ok (.iload 4, 2) := by decide +kernel
theorem dX1_enter_9 : decode cX1_enter 9 = .ok (.aload_n 0, 1) := by decide +kernel
theorem dX1_enter_10 : decode cX1_enter 10 = .ok (.getfield 48, 3) := by decide +kernel
theorem dX1_enter_13 : decode cX1_enter 13 = .ok (.invokevirtual 168, 3) := by decide +kernel
theorem dX1_enter_16 : decode cX1_enter 16 = .ok (.istore 5, 2) := by decide +kernel
theorem dX1_enter_18 : decode cX1_enter 18 = .ok (.aload_n 0, 1) := by decide +kernel
theorem dX1_enter_19 : decode cX1_enter 19 = .ok (.getfield 41, 3) := by decide +kernel
theorem dX1_enter_22 : decode cX1_enter 22 = .ok (.aload_n 0, 1) := by decide +kernel
theorem dX1_enter_23 : decode cX1_enter 23 = .ok (.getfield 48, 3) := by decide +kernel
theorem dX1_enter_26 : decode cX1_enter 26 = .ok (.iconst 0, 1) := by decide +kernel
theorem dX1_enter_27 : decode cX1_enter 27 = .ok (.iload 5, 2) := by decide +kernel
theorem dX1_enter_29 : decode cX1_enter 29 = .ok (.iload_n 1, 1) := by decide +kernel
theorem dX1_enter_30 : decode cX1_enter 30 = .ok (.invokevirtual 172, 3) := by decide +kernel
theorem dX1_enter_33 : decode cX1_enter 33 = .ok (.iload 5, 2) := by decide +kernel
theorem dX1_enter_35 : decode cX1_enter 35 = .ok (.ireturn, 1) := by decide +kernel
theorem dX1_move_0 : decode cX1_move 0 = .ok (.aload_n 0, 1) := by decide +kernel
theorem dX1_move_1 : decode cX1_move 1 = .ok (.getfield 32, 3) := by decide +kernel
theorem dX1_move_4 : decode cX1_move 4 = .ok (.getfield 117, 3) := by decide +kernel
theorem dX1_move_7 : decode cX1_move 7 = .ok (.iload_n 1, 1) := by decide +kernel
theorem dX1_move_8 : decode cX1_move 8 = .ok (.iload_n 2, 1) := by decide +kernel
theorem dX1_move_9 : decode cX1_move 9 = .ok (.iastore, 1) := by decide +kernel
theorem dX1_move_10 : decode cX1_move 10 = .ok (.aload_n 0, 1) := by decide +kernel
theorem dX1_move_11 : decode cX1_move 11 = .ok (.getfield 41, 3) := by decide +kernel
theorem dX1_move_14 : decode cX1_move 14 = .ok (.aload_n 0, 1) := by decide +kernel
theorem dX1_move_15 : decode cX1_move 15 = .ok (.getfield 48, 3) := by decide +kernel
theorem dX1_move_18 : decode cX1_move 18 = .ok (.iload_n 3, 1) := by decide +kernel
theorem dX1_move_19 : decode cX1_move 19 = .ok (.iload_n 1, 1) := by decide +kernel
theorem dX1_move_20 : decode cX1_move 20 = .ok (.iconst 0, 1) := by decide +kernel
theorem dX1_move_21 : decode cX1_move 21 = .ok (.invokevirtual 172, 3) := by decide +kernel
theorem dX1_move_24 : decode cX1_move 24 = .ok (.aload_n 0, 1) := by decide +kernel
theorem dX1_move_25 : decode cX1_move 25 = .ok (.getfield 32, 3) := by decide +kernel
theorem dX1_move_28 : decode cX1_move 28 = .ok (.getfield 176, 3) := by decide +kernel
theorem dX1_move_31 : decode cX1_move 31 = .ok (.iload_n 1, 1) := by decide +kernel
theorem dX1_move_32 : decode cX1_move 32 = .ok (.iaload, 1) := by decide +kernel
theorem dX1_move_33 : decode cX1_move 33 = .ok (.ireturn, 1) := by decide +kernel
theorem dX1_raise_0 : decode cX1_raise 0 = .ok (.aload_n 0, 1) := by decide +kernel
theorem dX1_raise_1 : decode cX1_raise 1 = .ok (.getfield 32, 3) := by decide +kernel
theorem dX1_raise_4 : decode cX1_raise 4 = .ok (.getfield 127, 3) := by decide +kernel
theorem dX1_raise_7 : decode cX1_raise 7 = .ok (.iload_n 1, 1) := by decide +kernel
theorem dX1_raise_8 : decode cX1_raise 8 = .ok (.dup2, 1) := by decide +kernel
theorem dX1_raise_9 : decode cX1_raise 9 = .ok (.iaload, 1) := by decide +kernel
theorem dX1_raise_10 : decode cX1_raise 10 = .ok (.iconst 1, 1) := by decide +kernel
theorem dX1_raise_11 : decode cX1_raise 11 = .ok (.iadd, 1) := by decide +kernel
theorem dX1_raise_12 : decode cX1_raise 12 = .ok (.iastore, 1) := by decide +kernel
theorem dX1_raise_13 : decode cX1_raise 13 = .ok (.aload_n 0, 1) := by decide +kernel
theorem dX1_raise_14 : decode cX1_raise 14 = .ok (.getfield 32, 3) := by decide +kernel
theorem dX1_raise_17 : decode cX1_raise 17 = .ok (.getfield 117, 3) := by decide +kernel
theorem dX1_raise_20 : decode cX1_raise 20 = .ok (.iload_n 1, 1) := by decide +kernel
theorem dX1_raise_21 : decode cX1_raise 21 = .ok (.iconst 0, 1) := by decide +kernel
theorem dX1_raise_22 : decode cX1_raise 22 = .ok (.iastore, 1) := by decide +kernel
theorem dX1_raise_23 : decode cX1_raise 23 = .ok (.aload_n 0, 1) := by decide +kernel
theorem dX1_raise_24 : decode cX1_raise 24 = .ok (.getfield 32, 3) := by decide +kernel
theorem dX1_raise_27 : decode cX1_raise 27 = .ok (.getfield 179, 3) := by decide +kernel
theorem dX1_raise_30 : decode cX1_raise 30 = .ok (.iload_n 1, 1) := by decide +kernel
theorem dX1_raise_31 : decode cX1_raise 31 = .ok (.iconst 0, 1) := by decide +kernel
theorem dX1_raise_32 : decode cX1_raise 32 = .ok (.iastore, 1) := by decide +kernel
theorem dX1_raise_33 : decode cX1_raise 33 = .ok (.aload_n 0, 1) := by decide +kernel
theorem dX1_raise_34 : decode cX1_raise 34 = .ok (.getfield 32, 3) := by decide +kernel
theorem dX1_raise_37 : decode cX1_raise 37 = .ok (.getfield 182, 3) := by decide +kernel
theorem dX1_raise_40 : decode cX1_raise 40 = .ok (.iload_n 1, 1) := by decide +kernel
theorem dX1_raise_41 : decode cX1_raise 41 = .ok (.iconst 0, 1) := by decide +kernel
theorem dX1_raise_42 : decode cX1_raise 42 = .ok (.iastore, 1) := by decide +kernel
theorem dX1_raise_43 : decode cX1_raise 43 = .ok (.aload_n 0, 1) := by decide +kernel
theorem dX1_raise_44 : decode cX1_raise 44 = .ok (.getfield 41, 3) := by decide +kernel
theorem dX1_raise_47 : decode cX1_raise 47 = .ok (.iload_n 2, 1) := by decide +kernel
theorem dX1_raise_48 : decode cX1_raise 48 = .ok (.iconst 4, 1) := by decide +kernel
theorem dX1_raise_49 : decode cX1_raise 49 = .ok (.iload_n 1, 1) := by decide +kernel
theorem dX1_raise_50 : decode cX1_raise 50 = .ok (.aload_n 0, 1) := by decide +kernel
theorem dX1_raise_51 : decode cX1_raise 51 = .ok (.getfield 32, 3) := by decide +kernel
theorem dX1_raise_54 : decode cX1_raise 54 = .ok (.getfield 127, 3) := by decide +kernel
theorem dX1_raise_57 : decode cX1_raise 57 = .ok (.iload_n 1, 1) := by decide +kernel
theorem dX1_raise_58 : decode cX1_raise 58 = .ok (.iaload, 1) := by decide +kernel
theorem dX1_raise_59 : decode cX1_raise 59 = .ok (.invokevirtual 172, 3) := by decide +kernel
theorem dX1_raise_62 : decode cX1_raise 62 = .ok (.aload_n 0, 1) := by decide +kernel
theorem dX1_raise_63 : decode cX1_raise 63 = .ok (.getfield 32, 3) := by decide +kernel
theorem dX1_raise_66 : decode cX1_raise 66 = .ok (.getfield 127, 3) := by decide +kernel
theorem dX1_raise_69 : decode cX1_raise 69 = .ok (.iload_n 1, 1) := by decide +kernel
theorem dX1_raise_70 : decode cX1_raise 70 = .ok (.iaload, 1) := by decide +kernel
theorem dX1_raise_71 : decode cX1_raise 71 = .ok (.ireturn, 1) := by decide +kernel
theorem dX1_finish_0 : decode cX1_finish 0 = .ok (.aload_n 0, 1) := by decide +kernel
theorem dX1_finish_1 : decode cX1_finish 1 = .ok (.iload_n 1, 1) := by decide +kernel
theorem dX1_finish_2 : decode cX1_finish 2 = .ok (.iload_n 2, 1) := by decide +kernel
theorem dX1_finish_3 : decode cX1_finish 3 = .ok (.invokevirtual 185, 3) := by decide +kernel
theorem dX1_finish_6 : decode cX1_finish 6 = .ok (.iconst 1, 1) := by decide +kernel
theorem dX1_finish_7 : decode cX1_finish 7 = .ok (.istore_n 3, 1) := by decide +kernel
theorem dX1_finish_8 : decode cX1_finish 8 = .ok (.iconst 0, 1) := by decide +kernel
theorem dX1_finish_9 : decode cX1_finish 9 = .ok (.istore 4, 2) := by decide +kernel
theorem dX1_finish_11 : decode cX1_finish 11 = .ok (.iload 4, 2) := by decide +kernel
theorem dX1_finish_13 : decode cX1_finish 13 = .ok (.aload_n 0, 1) := by decide +kernel
theorem dX1_finish_14 : decode cX1_finish 14 = .ok (.getfield 32, 3) := by decide +kernel
theorem dX1_finish_17 : decode cX1_finish 17 = .ok (.getfield 61, 3) := by decide +kernel
theorem dX1_finish_20 : decode cX1_finish 20 = .ok (.if_icmp .ge 33, 3) := by decide +kernel
theorem dX1_finish_23 : decode cX1_finish 23 = .ok (.aload_n 0, 1) := by decide +kernel
theorem dX1_finish_24 : decode cX1_finish 24 = .ok (.getfield 32, 3) := by decide +kernel
theorem dX1_finish_27 : decode cX1_finish 27 = .ok (.getfield 130, 3) := by decide +kernel
theorem dX1_finish_30 : decode cX1_finish 30 = .ok (.iload 4, 2) := by decide +kernel
theorem dX1_finish_32 : decode cX1_finish 32 = .ok (.iaload, 1) := by decide +kernel
theorem dX1_finish_33 : decode cX1_finish 33 = .ok (.iload_n 1, 1) := by decide +kernel
theorem dX1_finish_34 : decode cX1_finish 34 = .ok (.if_icmp .ne 13, 3) := by decide +kernel
theorem dX1_finish_37 : decode cX1_finish 37 = .ok (.aload_n 0, 1) := by decide +kernel
theorem dX1_finish_38 : decode cX1_finish 38 = .ok (.iload 4, 2) := by decide +kernel
theorem dX1_finish_40 : decode cX1_finish 40 = .ok (.iload_n 2, 1) := by decide +kernel
theorem dX1_finish_41 : decode cX1_finish 41 = .ok (.invokevirtual 185, 3) := by decide +kernel
theorem dX1_finish_44 : decode cX1_finish 44 = .ok (.iinc 3 1, 3) := by decide +kernel
theorem dX1_finish_47 : decode cX1_finish 47 = .ok (.iinc 4 1, 3) := by decide +kernel
theorem dX1_finish_50 : decode cX1_finish 50 = .ok (.goto (-39), 3) := by decide +kernel
theorem dX1_finish_53 : decode cX1_finish 53 = .ok (.iload_n 3, 1) := by decide +kernel
theorem dX1_finish_54 : decode cX1_finish 54 = .ok (.ireturn, 1) := by decide +kernel
theorem dX1_markSolved_0 : decode cX1_markSolved 0 = .ok (.aload_n 0, 1) := by decide +kernel
theorem dX1_markSolved_1 : decode cX1_markSolved 1 = .ok (.getfield 32, 3) := by decide +kernel
theorem dX1_markSolved_4 : decode cX1_markSolved 4 = .ok (.getfield 117, 3) := by decide +kernel
theorem dX1_markSolved_7 : decode cX1_markSolved 7 = .ok (.iload_n 1, 1) := by decide +kernel
theorem dX1_markSolved_8 : decode cX1_markSolved 8 = .ok (.iconst 3, 1) := by decide +kernel
theorem dX1_markSolved_9 : decode cX1_markSolved 9 = .ok (.iastore, 1) := by decide +kernel
theorem dX1_markSolved_10 : decode cX1_markSolved 10 = .ok (.aload_n 0, 1) := by decide +kernel
theorem dX1_markSolved_11 : decode cX1_markSolved 11 = .ok (.getfield 32, 3) := by decide +kernel
theorem dX1_markSolved_14 : decode cX1_markSolved 14 = .ok (.getfield 189, 3) := by decide +kernel
theorem dX1_markSolved_17 : decode cX1_markSolved 17 = .ok (.iload_n 1, 1) := by decide +kernel
theorem dX1_markSolved_18 : decode cX1_markSolved 18 = .ok (.iload_n 2, 1) := by decide +kernel
theorem dX1_markSolved_19 : decode cX1_markSolved 19 = .ok (.iastore, 1) := by decide +kernel
theorem dX1_markSolved_20 : decode cX1_markSolved 20 = .ok (.aload_n 0, 1) := by decide +kernel
theorem dX1_markSolved_21 : decode cX1_markSolved 21 = .ok (.getfield 41, 3) := by decide +kernel
theorem dX1_markSolved_24 : decode cX1_markSolved 24 = .ok (.iload_n 2, 1) := by decide +kernel
theorem dX1_markSolved_25 : decode cX1_markSolved 25 = .ok (.iconst 5, 1) := by decide +kernel
theorem dX1_markSolved_26 : decode cX1_markSolved 26 = .ok (.iload_n 1, 1) := by decide +kernel
theorem dX1_markSolved_27 : decode cX1_markSolved 27 = .ok (.iconst 0, 1) := by decide +kernel
theorem dX1_markSolved_28 : decode cX1_markSolved 28 = .ok (.invokevirtual 172, 3) := by decide +kernel
theorem dX1_markSolved_31 : decode cX1_markSolved 31 = .ok (.return_, 1) := by decide +kernel
theorem dX1_reviveWithTwins_0 : decode cX1_reviveWithTwins 0 = .ok (.aload_n 0, 1) := by decide +kernel
theorem dX1_reviveWithTwins_1 : decode cX1_reviveWithTwins 1 = .ok (.iload_n 1, 1) := by decide +kernel
theorem dX1_reviveWithTwins_2 : decode cX1_reviveWithTwins 2 = .ok (.iconst 0, 1) := by decide +kernel
theorem dX1_reviveWithTwins_3 : decode cX1_reviveWithTwins 3 = .ok (.invokevirtual 192, 3) := by decide +kernel
theorem dX1_reviveWithTwins_6 : decode cX1_reviveWithTwins 6 = .ok (.aload_n 0, 1) := by decide +kernel
theorem dX1_reviveWithTwins_7 : decode cX1_reviveWithTwins 7 = .ok (.getfield 32, 3) := by decide +kernel
theorem dX1_reviveWithTwins_10 : decode cX1_reviveWithTwins 10 = .ok (.getfield 179, 3) := by decide +kernel
theorem dX1_reviveWithTwins_13 : decode cX1_reviveWithTwins 13 = .ok (.iload_n 1, 1) := by decide +kernel
theorem dX1_reviveWithTwins_14 : decode cX1_reviveWithTwins 14 = .ok (.iconst 0, 1) := by decide +kernel
theorem dX1_reviveWithTwins_15 : decode cX1_reviveWithTwins 15 = .ok (.iastore, 1) := by decide +kernel
theorem dX1_reviveWithTwins_16 : decode cX1_reviveWithTwins 16 = .ok (.aload_n 0, 1) := by decide +kernel
theorem dX1_reviveWithTwins_17 : decode cX1_reviveWithTwins 17 = .ok (.getfield 32, 3) := by decide +kernel
theorem dX1_reviveWithTwins_20 : decode cX1_reviveWithTwins 20 = .ok (.getfield 182, 3) := by decide +kernel
theorem dX1_reviveWithTwins_23 : decode cX1_reviveWithTwins 23 = .ok (.iload_n 1, 1) := by decide +kernel
theorem dX1_reviveWithTwins_24 : decode cX1_reviveWithTwins 24 = .ok (.iconst 0, 1) := by decide +kernel
theorem dX1_reviveWithTwins_25 : decode cX1_reviveWithTwins 25 = .ok (.iastore, 1) := by decide +kernel
theorem dX1_reviveWithTwins_26 : decode cX1_reviveWithTwins 26 = .ok (.aload_n 0, 1) := by decide +kernel
theorem dX1_reviveWithTwins_27 : decode cX1_reviveWithTwins 27 = .ok (.getfield 41, 3) := by decide +kernel
theorem dX1_reviveWithTwins_30 : decode cX1_reviveWithTwins 30 = .ok (.aload_n 0, 1) := by decide +kernel
theorem dX1_reviveWithTwins_31 : decode cX1_reviveWithTwins 31 = .ok (.getfield 48, 3) := by decide +kernel
theorem dX1_reviveWithTwins_34 : decode cX1_reviveWithTwins 34 = .ok (.bipush 10, 2) := by decide +kernel
theorem dX1_reviveWithTwins_36 : decode cX1_reviveWithTwins 36 = .ok (.iload_n 1, 1) := by decide +kernel
theorem dX1_reviveWithTwins_37 : decode cX1_reviveWithTwins 37 = .ok (.iconst 0, 1) := by decide +kernel
theorem dX1_reviveWithTwins_38 : decode cX1_reviveWithTwins 38 = .ok (.invokevirtual 172, 3) := by decide +kernel
theorem dX1_reviveWithTwins_41 : decode cX1_reviveWithTwins 41 = .ok (.iconst 1, 1) := by decide +kernel
theorem dX1_reviveWithTwins_42 : decode cX1_reviveWithTwins 42 = .ok (.istore_n 2, 1) := by decide +kernel
theorem dX1_reviveWithTwins_43 : decode cX1_reviveWithTwins 43 = .ok (.iconst 0, 1) := by decide +kernel
theorem dX1_reviveWithTwins_44 : decode cX1_reviveWithTwins 44 = .ok (.istore_n 3, 1) := by decide +kernel
theorem dX1_reviveWithTwins_45 : decode cX1_reviveWithTwins 45 = .ok (.iload_n 3, 1) := by decide +kernel
theorem dX1_reviveWithTwins_46 : decode cX1_reviveWithTwins 46 = .ok (.aload_n 0, 1) := by decide +kernel
theorem dX1_reviveWithTwins_47 : decode cX1_reviveWithTwins 47 = .ok (.getfield 32, 3) := by decide +kernel
theorem dX1_reviveWithTwins_50 : decode cX1_reviveWithTwins 50 = .ok (.getfield 61, 3) := by decide +kernel
theorem dX1_reviveWithTwins_53 : decode cX1_reviveWithTwins 53 = .ok (.if_icmp .ge 31, 3) := by decide +kernel
theorem dX1_reviveWithTwins_56 : decode cX1_reviveWithTwins 56 = .ok (.aload_n 0, 1) := by decide +kernel
theorem dX1_reviveWithTwins_57 : decode cX1_reviveWithTwins 57 = .ok (.getfield 32, 3) := by decide +kernel
theorem dX1_reviveWithTwins_60 : decode cX1_reviveWithTwins 60 = .ok (.getfield 130, 3) := by decide +kernel
theorem dX1_reviveWithTwins_63 : decode cX1_reviveWithTwins 63 = .ok (.iload_n 3, 1) := by decide +kernel
theorem dX1_reviveWithTwins_64 : decode cX1_reviveWithTwins 64 = .ok (.iaload, 1) := by decide +kernel
theorem dX1_reviveWithTwins_65 : decode cX1_reviveWithTwins 65 = .ok (.iload_n 1, 1) := by decide +kernel
theorem dX1_reviveWithTwins_66 : decode cX1_reviveWithTwins 66 = .ok (.if_icmp .ne 12, 3) := by decide +kernel
theorem dX1_reviveWithTwins_69 : decode cX1_reviveWithTwins 69 = .ok (.aload_n 0, 1) := by decide +kernel
theorem dX1_reviveWithTwins_70 : decode cX1_reviveWithTwins 70 = .ok (.iload_n 3, 1) := by decide +kernel
theorem dX1_reviveWithTwins_71 : decode cX1_reviveWithTwins 71 = .ok (.iconst 4, 1) := by decide +kernel
theorem dX1_reviveWithTwins_72 : decode cX1_reviveWithTwins 72 = .ok (.invokevirtual 192, 3) := by decide +kernel
theorem dX1_reviveWithTwins_75 : decode cX1_reviveWithTwins 75 = .ok (.iinc 2 1, 3) := by decide +kernel
theorem dX1_reviveWithTwins_78 : decode cX1_reviveWithTwins 78 = .ok (.iinc 3 1, 3) := by decide +kernel
theorem dX1_reviveWithTwins_81 : decode cX1_reviveWithTwins 81 = .ok (.goto (-36), 3) := by decide +kernel
theorem dX1_reviveWithTwins_84 : decode cX1_reviveWithTwins 84 = .ok (.iload_n 2, 1) := by decide +kernel
theorem dX1_reviveWithTwins_85 : decode cX1_reviveWithTwins 85 = .ok (.ireturn, 1) := by decide +kernel
theorem dX1_revive_0 : decode cX1_revive 0 = .ok (.aload_n 0, 1) := by decide +kernel
theorem dX1_revive_1 : decode cX1_revive 1 = .ok (.getfield 32, 3) := by decide +kernel
theorem dX1_revive_4 : decode cX1_revive 4 = .ok (.getfield 117, 3) := by decide +kernel
theorem dX1_revive_7 : decode cX1_revive 7 = .ok (.iload_n 1, 1) := by decide +kernel
theorem dX1_revive_8 : decode cX1_revive 8 = .ok (.iload_n 2, 1) := by decide +kernel
theorem dX1_revive_9 : decode cX1_revive 9 = .ok (.iastore, 1) := by decide +kernel
theorem dX1_revive_10 : decode cX1_revive 10 = .ok (.aload_n 0, 1) := by decide +kernel
theorem dX1_revive_11 : decode cX1_revive 11 = .ok (.getfield 32, 3) := by decide +kernel
theorem dX1_revive_14 : decode cX1_revive 14 = .ok (.getfield 189, 3) := by decide +kernel
theorem dX1_revive_17 : decode cX1_revive 17 = .ok (.iload_n 1, 1) := by decide +kernel
theorem dX1_revive_18 : decode cX1_revive 18 = .ok (.iconst (-1), 1) := by decide +kernel
theorem dX1_revive_19 : decode cX1_revive 19 = .ok (.iastore, 1) := by decide +kernel
theorem dX1_revive_20 : decode cX1_revive 20 = .ok (.return_, 1) := by decide +kernel
theorem dX1_tie_0 : decode cX1_tie 0 = .ok (.iconst 0, 1) := by decide +kernel
theorem dX1_tie_1 : decode cX1_tie 1 = .ok (.istore_n 3, 1) := by decide +kernel
theorem dX1_tie_2 : decode cX1_tie 2 = .ok (.iload_n 3, 1) := by decide +kernel
theorem dX1_tie_3 : decode cX1_tie 3 = .ok (.aload_n 0, 1) := by decide +kernel
theorem dX1_tie_4 : decode cX1_tie 4 = .ok (.getfield 32, 3) := by decide +kernel
theorem dX1_tie_7 : decode cX1_tie 7 = .ok (.getfield 61, 3) := by decide +kernel
theorem dX1_tie_10 : decode cX1_tie 10 = .ok (.if_icmp .ge 32, 3) := by decide +kernel
theorem dX1_tie_13 : decode cX1_tie 13 = .ok (.aload_n 0, 1) := by decide +kernel
theorem dX1_tie_14 : decode cX1_tie 14 = .ok (.getfield 32, 3) := by decide +kernel
theorem dX1_tie_17 : decode cX1_tie 17 = .ok (.getfield 130, 3) := by decide +kernel
theorem dX1_tie_20 : decode cX1_tie 20 = .ok (.iload_n 3, 1) := by decide +kernel
theorem dX1_tie_21 : decode cX1_tie 21 = .ok (.iaload, 1) := by decide +kernel
theorem dX1_tie_22 : decode cX1_tie 22 = .ok (.iload_n 1, 1) := by decide +kernel
theorem dX1_tie_23 : decode cX1_tie 23 = .ok (.if_icmp .ne 13, 3) := by decide +kernel
theorem dX1_tie_26 : decode cX1_tie 26 = .ok (.aload_n 0, 1) := by decide +kernel
theorem dX1_tie_27 : decode cX1_tie 27 = .ok (.getfield 32, 3) := by decide +kernel
theorem dX1_tie_30 : decode cX1_tie 30 = .ok (.getfield 130, 3) := by decide +kernel
theorem dX1_tie_33 : decode cX1_tie 33 = .ok (.iload_n 3, 1) := by decide +kernel
theorem dX1_tie_34 : decode cX1_tie 34 = .ok (.iload_n 2, 1) := by decide +kernel
theorem dX1_tie_35 : decode cX1_tie 35 = .ok (.iastore, 1) := by decide +kernel
theorem dX1_tie_36 : decode cX1_tie 36 = .ok (.iinc 3 1, 3) := by decide +kernel
theorem dX1_tie_39 : decode cX1_tie 39 = .ok (.goto (-37), 3) := by decide +kernel
theorem dX1_tie_42 : decode cX1_tie 42 = .ok (.aload_n 0, 1) := by decide +kernel
theorem dX1_tie_43 : decode cX1_tie 43 = .ok (.getfield 32, 3) := by decide +kernel
theorem dX1_tie_46 : decode cX1_tie 46 = .ok (.getfield 117, 3) := by decide +kernel
theorem dX1_tie_49 : decode cX1_tie 49 = .ok (.iload_n 1, 1) := by decide +kernel
theorem dX1_tie_50 : decode cX1_tie 50 = .ok (.iconst 4, 1) := by decide +kernel
theorem dX1_tie_51 : decode cX1_tie 51 = .ok (.iastore, 1) := by decide +kernel
theorem dX1_tie_52 : decode cX1_tie 52 = .ok (.aload_n 0, 1) := by decide +kernel
theorem dX1_tie_53 : decode cX1_tie 53 = .ok (.getfield 32, 3) := by decide +kernel
theorem dX1_tie_56 : decode cX1_tie 56 = .ok (.getfield 130, 3) := by decide +kernel
theorem dX1_tie_59 : decode cX1_tie 59 = .ok (.iload_n 1, 1) := by decide +kernel
theorem dX1_tie_60 : decode cX1_tie 60 = .ok (.iload_n 2, 1) := by decide +kernel
theorem dX1_tie_61 : decode cX1_tie 61 = .ok (.iastore, 1) := by decide +kernel
theorem dX1_tie_62 : decode cX1_tie 62 = .ok (.aload_n 0, 1) := by decide +kernel
theorem dX1_tie_63 : decode cX1_tie 63 = .ok (.getfield 41, 3) := by decide +kernel
theorem dX1_tie_66 : decode cX1_tie 66 = .ok (.aload_n 0, 1) := by decide +kernel
theorem dX1_tie_67 : decode cX1_tie 67 = .ok (.getfield 48, 3) := by decide +kernel
theorem dX1_tie_70 : decode cX1_tie 70 = .ok (.bipush 6, 2) := by decide +kernel
theorem dX1_tie_72 : decode cX1_tie 72 = .ok (.iload_n 1, 1) := by decide +kernel
theorem dX1_tie_73 : decode cX1_tie 73 = .ok (.iload_n 2, 1) := by decide +kernel
theorem dX1_tie_74 : decode cX1_tie 74 = .ok (.invokevirtual 172, 3) := by decide +kernel
theorem dX1_tie_77 : decode cX1_tie 77 = .ok (.aload_n 0, 1) := by decide +kernel
theorem dX1_tie_78 : decode cX1_tie 78 = .ok (.getfield 32, 3) := by decide +kernel
theorem dX1_tie_81 : decode cX1_tie 81 = .ok (.iload_n 2, 1) := by decide +kernel
theorem dX1_tie_82 : decode cX1_tie 82 = .ok (.invokevirtual 195, 3) := by decide +kernel
theorem dX1_tie_85 : decode cX1_tie 85 = .ok (.invokestatic 199, 3) := by decide +kernel
theorem dX1_tie_88 : decode cX1_tie 88 = .ok (.ireturn, 1) := by decide +kernel
theorem dX1_untie_0 : decode cX1_untie 0 = .ok (.aload_n 0, 1) := by decide +kernel
theorem dX1_untie_1 : decode cX1_untie 1 = .ok (.getfield 32, 3) := by decide +kernel
theorem dX1_untie_4 : decode cX1_untie 4 = .ok (.getfield 130, 3) := by decide +kernel
theorem dX1_untie_7 : decode cX1_untie 7 = .ok (.iload_n 1, 1) := by decide +kernel
theorem dX1_untie_8 : decode cX1_untie 8 = .ok (.iaload, 1) := by decide +kernel
theorem dX1_untie_9 : decode cX1_untie 9 = .ok (.istore_n 2, 1) := by decide +kernel
theorem dX1_untie_10 : decode cX1_untie 10 = .ok (.aload_n 0, 1) := by decide +kernel
theorem dX1_untie_11 : decode cX1_untie 11 = .ok (.getfield 32, 3) := by decide +kernel
theorem dX1_untie_14 : decode cX1_untie 14 = .ok (.getfield 117, 3) := by decide +kernel
theorem dX1_untie_17 : decode cX1_untie 17 = .ok (.iload_n 1, 1) := by decide +kernel
theorem dX1_untie_18 : decode cX1_untie 18 = .ok (.iconst 0, 1) := by decide +kernel
theorem dX1_untie_19 : decode cX1_untie 19 = .ok (.iastore, 1) := by decide +kernel
theorem dX1_untie_20 : decode cX1_untie 20 = .ok (.aload_n 0, 1) := by decide +kernel
theorem dX1_untie_21 : decode cX1_untie 21 = .ok (.getfield 32, 3) := by decide +kernel
theorem dX1_untie_24 : decode cX1_untie 24 = .ok (.getfield 130, 3) := by decide +kernel
theorem dX1_untie_27 : decode cX1_untie 27 = .ok (.iload_n 1, 1) := by decide +kernel
theorem dX1_untie_28 : decode cX1_untie 28 = .ok (.iconst (-1), 1) := by decide +kernel
theorem dX1_untie_29 : decode cX1_untie 29 = .ok (.iastore, 1) := by decide +kernel
theorem dX1_untie_30 : decode cX1_untie 30 = .ok (.aload_n 0, 1) := by decide +kernel
theorem dX1_untie_31 : decode cX1_untie 31 = .ok (.getfield 41, 3) := by decide +kernel
theorem dX1_untie_34 : decode cX1_untie 34 = .ok (.aload_n 0, 1) := by decide +kernel
theorem dX1_untie_35 : decode cX1_untie 35 = .ok (.getfield 48, 3) := by decide +kernel
theorem dX1_untie_38 : decode cX1_untie 38 = .ok (.bipush 7, 2) := by decide +kernel
theorem dX1_untie_40 : decode cX1_untie 40 = .ok (.iload_n 1, 1) := by decide +kernel
theorem dX1_untie_41 : decode cX1_untie 41 = .ok (.iload_n 2, 1) := by decide +kernel
theorem dX1_untie_42 : decode cX1_untie 42 = .ok (.invokevirtual 172, 3) := by decide +kernel
theorem dX1_untie_45 : decode cX1_untie 45 = .ok (.iload_n 2, 1) := by decide +kernel
theorem dX1_untie_46 : decode cX1_untie 46 = .ok (.ireturn, 1) := by decide +kernel
theorem dX1_rank_0 : decode cX1_rank 0 = .ok (.aload_n 0, 1) := by decide +kernel
theorem dX1_rank_1 : decode cX1_rank 1 = .ok (.getfield 32, 3) := by decide +kernel
theorem dX1_rank_4 : decode cX1_rank 4 = .ok (.getfield 205, 3) := by decide +kernel
theorem dX1_rank_7 : decode cX1_rank 7 = .ok (.iload_n 1, 1) := by decide +kernel
theorem dX1_rank_8 : decode cX1_rank 8 = .ok (.iaload, 1) := by decide +kernel
theorem dX1_rank_9 : decode cX1_rank 9 = .ok (.istore_n 3, 1) := by decide +kernel
theorem dX1_rank_10 : decode cX1_rank 10 = .ok (.aload_n 0, 1) := by decide +kernel
theorem dX1_rank_11 : decode cX1_rank 11 = .ok (.getfield 32, 3) := by decide +kernel
theorem dX1_rank_14 : decode cX1_rank 14 = .ok (.getfield 205, 3) := by decide +kernel
theorem dX1_rank_17 : decode cX1_rank 17 = .ok (.iload_n 1, 1) := by decide +kernel
theorem dX1_rank_18 : decode cX1_rank 18 = .ok (.iload_n 2, 1) := by decide +kernel
theorem dX1_rank_19 : decode cX1_rank 19 = .ok (.iastore, 1) := by decide +kernel
theorem dX1_rank_20 : decode cX1_rank 20 = .ok (.iload_n 3, 1) := by decide +kernel
theorem dX1_rank_21 : decode cX1_rank 21 = .ok (.ireturn, 1) := by decide +kernel
theorem dX1_passUntil_0 : decode cX1_passUntil 0 = .ok (.iconst 0, 1) := by decide +kernel
theorem dX1_passUntil_1 : decode cX1_passUntil 1 = .ok (.istore_n 2, 1) := by decide +kernel
theorem dX1_passUntil_2 : decode cX1_passUntil 2 = .ok (.iload_n 2, 1) := by decide +kernel
theorem dX1_passUntil_3 : decode cX1_passUntil 3 = .ok (.sipush 10080, 3) := by decide +kernel
theorem dX1_passUntil_6 : decode cX1_passUntil 6 = .ok (.if_icmp .ge 84, 3) := by decide +kernel
theorem dX1_passUntil_9 : decode cX1_passUntil 9 = .ok (.aload_n 0, 1) := by decide +kernel
theorem dX1_passUntil_10 : decode cX1_passUntil 10 = .ok (.getfield 48, 3) := by decide +kernel
theorem dX1_passUntil_13 : decode cX1_passUntil 13 = .ok (.iload_n 1, 1) := by decide +kernel
theorem dX1_passUntil_14 : decode cX1_passUntil 14 = .ok (.if_icmp .ge 76, 3) := by decide +kernel
theorem dX1_passUntil_17 : decode cX1_passUntil 17 = .ok (.aload_n 0, 1) := by decide +kernel
theorem dX1_passUntil_18 : decode cX1_passUntil 18 = .ok (.getfield 12, 3) := by decide +kernel
theorem dX1_passUntil_21 : decode cX1_passUntil 21 = .ok (.aload_n 0, 1) := by decide +kernel
theorem dX1_passUntil_22 : decode cX1_passUntil 22 = .ok (.getfield 48, 3) := by decide +kernel
theorem dX1_passUntil_25 : decode cX1_passUntil 25 = .ok (.invokevirtual 208, 3) := by decide +kernel
theorem dX1_passUntil_28 : decode cX1_passUntil 28 = .ok (.istore_n 3, 1) := by decide +kernel
theorem dX1_passUntil_29 : decode cX1_passUntil 29 = .ok (.iload_n 3, 1) := by decide +kernel
theorem dX1_passUntil_30 : decode cX1_passUntil 30 = .ok (.ifCond .eq 7, 3) := by decide +kernel
theorem dX1_passUntil_33 : decode cX1_passUntil 33 = .ok (.aload_n 0, 1) := by decide +kernel
theorem dX1_passUntil_34 : decode cX1_passUntil 34 = .ok (.invokevirtual 211, 3) := by decide +kernel
theorem dX1_passUntil_37 : decode cX1_passUntil 37 = .ok (.aload_n 0, 1) := by decide +kernel
theorem dX1_passUntil_38 : decode cX1_passUntil 38 = .ok (.iload_n 1, 1) := by decide +kernel
theorem dX1_passUntil_39 : decode cX1_passUntil 39 = .ok (.iload_n 3, 1) := by decide +kernel
theorem dX1_passUntil_40 : decode cX1_passUntil 40 = .ok (.invokevirtual 214, 3) := by decide +kernel
theorem dX1_passUntil_43 : decode cX1_passUntil 43 = .ok (.istore 4, 2) := by decide +kernel
theorem dX1_passUntil_45 : decode cX1_passUntil 45 = .ok (.aload_n 0, 1) := by decide +kernel
theorem dX1_passUntil_46 : decode cX1_passUntil 46 = .ok (.iload 4, 2) := by decide +kernel
theorem dX1_passUntil_48 : decode cX1_passUntil 48 = .ok (.iload_n 3, 1) := by decide +kernel
theorem dX1_passUntil_49 : decode cX1_passUntil 49 = .ok (.invokevirtual 218, 3) := by decide +kernel
theorem dX1_passUntil_52 : decode cX1_passUntil 52 = .ok (.iload_n 3, 1) := by decide +kernel
theorem dX1_passUntil_53 : decode cX1_passUntil 53 = .ok (.ifCond .eq 9, 3) := by decide +kernel
theorem dX1_passUntil_56 : decode cX1_passUntil 56 = .ok (.aload_n 0, 1) := by decide +kernel
theorem dX1_passUntil_57 : decode cX1_passUntil 57 = .ok (.iload 4, 2) := by decide +kernel
theorem dX1_passUntil_59 : decode cX1_passUntil 59 = .ok (.invokevirtual 222, 3) := by decide +kernel
theorem dX1_passUntil_62 : decode cX1_passUntil 62 = .ok (.aload_n 0, 1) := by decide +kernel
theorem dX1_passUntil_63 : decode cX1_passUntil 63 = .ok (.aload_n 0, 1) := by decide +kernel
theorem dX1_passUntil_64 : decode cX1_passUntil 64 = .ok (.getfield 48, 3) := by decide +kernel
theorem dX1_passUntil_67 : decode cX1_passUntil 67 = .ok (.iload 4, 2) := by decide +kernel
theorem dX1_passUntil_69 : decode cX1_passUntil 69 = .ok (.iadd, 1) := by decide +kernel
theorem dX1_passUntil_70 : decode cX1_passUntil 70 = .ok (.invokevirtual 225, 3) := by decide +kernel
theorem dX1_passUntil_73 : decode cX1_passUntil 73 = .ok (.aload_n 0, 1) := by decide +kernel
theorem dX1_passUntil_74 : decode cX1_passUntil 74 = .ok (.dup, 1) := by decide +kernel
theorem dX1_passUntil_75 : decode cX1_passUntil 75 = .ok (.getfield 48, 3) := by decide +kernel
theorem dX1_passUntil_78 : decode cX1_passUntil 78 = .ok (.iload 4, 2) := by decide +kernel
theorem dX1_passUntil_80 : decode cX1_passUntil 80 = .ok (.iadd, 1) := by decide +kernel
theorem dX1_passUntil_81 : decode cX1_passUntil 81 = .ok (.putfield 48, 3) := by decide +kernel
theorem dX1_passUntil_84 : decode cX1_passUntil 84 = .ok (.iinc 2 1, 3) := by decide +kernel
theorem dX1_passUntil_87 : decode cX1_passUntil 87 = .ok (.goto (-85), 3) := by decide +kernel
theorem dX1_passUntil_90 : decode cX1_passUntil 90 = .ok (.return_, 1) := by decide +kernel
theorem dX1_takeTickets_0 : decode cX1_takeTickets 0 = .ok (.iconst 0, 1) := by decide +kernel
theorem dX1_takeTickets_1 : decode cX1_takeTickets 1 = .ok (.istore_n 1, 1) := by decide +kernel
theorem dX1_takeTickets_2 : decode cX1_takeTickets 2 = .ok (.iload_n 1, 1) := by decide +kernel
theorem dX1_takeTickets_3 : decode cX1_takeTickets 3 = .ok (.iconst 4, 1) := by decide +kernel
theorem dX1_takeTickets_4 : decode cX1_takeTickets 4 = .ok (.if_icmp .ge 54, 3) := by decide +kernel
theorem dX1_takeTickets_7 : decode cX1_takeTickets 7 = .ok (.aload_n 0, 1) := by decide +kernel
theorem dX1_takeTickets_8 : decode cX1_takeTickets 8 = .ok (.getfield 32, 3) := by decide +kernel
theorem dX1_takeTickets_11 : decode cX1_takeTickets 11 = .ok (.iload_n 1, 1) := by decide +kernel
theorem dX1_takeTickets_12 : decode cX1_takeTickets 12 = .ok (.iconst 1, 1) := by decide +kernel
theorem dX1_takeTickets_13 : decode cX1_takeTickets 13 = .ok (.invokevirtual 165, 3) := by decide +kernel
theorem dX1_takeTickets_16 : decode cX1_takeTickets 16 = .ok (.istore_n 2, 1) := by decide +kernel
theorem dX1_takeTickets_17 : decode cX1_takeTickets 17 = .ok (.iload_n 2, 1) := by decide +kernel
theorem dX1_takeTickets_18 : decode cX1_takeTickets 18 = .ok (.aload_n 0, 1) := by decide +kernel
theorem dX1_takeTickets_19 : decode cX1_takeTickets 19 = .ok (.getfield 25, 3) := by decide +kernel
theorem dX1_takeTickets_22 : decode cX1_takeTickets 22 = .ok (.iload_n 1, 1) := by decide +kernel
theorem dX1_takeTickets_23 : decode cX1_takeTickets 23 = .ok (.iaload, 1) := by decide +kernel
theorem dX1_takeTickets_24 : decode cX1_takeTickets 24 = .ok (.if_icmp .ge 28, 3) := by decide +kernel
theorem dX1_takeTickets_27 : decode cX1_takeTickets 27 = .ok (.aload_n 0, 1) := by decide +kernel
theorem dX1_takeTickets_28 : decode cX1_takeTickets 28 = .ok (.iload_n 1, 1) := by decide +kernel
theorem dX1_takeTickets_29 : decode cX1_takeTickets 29 = .ok (.invokevirtual 228, 3) := by decide +kernel
theorem dX1_takeTickets_32 : decode cX1_takeTickets 32 = .ok (.istore_n 3, 1) := by decide +kernel
theorem dX1_takeTickets_33 : decode cX1_takeTickets 33 = .ok (.iload_n 3, 1) := by decide +kernel
theorem dX1_takeTickets_34 : decode cX1_takeTickets 34 = .ok (.iconst (-1), 1) := by decide +kernel
theorem dX1_takeTickets_35 : decode cX1_takeTickets 35 = .ok (.if_icmp .ne 6, 3) := by decide +kernel
theorem dX1_takeTickets_38 : decode cX1_takeTickets 38 = .ok (.goto 14, 3) := by decide +kernel
theorem dX1_takeTickets_41 : decode cX1_takeTickets 41 = .ok (.aload_n 0, 1) := by decide +kernel
theorem dX1_takeTickets_42 : decode cX1_takeTickets 42 = .ok (.iload_n 3, 1) := by decide +kernel
theorem dX1_takeTickets_43 : decode cX1_takeTickets 43 = .ok (.invokevirtual 231, 3) := by decide +kernel
theorem dX1_takeTickets_46 : decode cX1_takeTickets 46 = .ok (.iinc 2 1, 3) := by decide +kernel
theorem dX1_takeTickets_49 : decode cX1_takeTickets 49 = .ok (.goto (-32), 3) := by decide +kernel
theorem dX1_takeTickets_52 : decode cX1_takeTickets 52 = .ok (.iinc 1 1, 3) := by decide +kernel
theorem dX1_takeTickets_55 : decode cX1_takeTickets 55 = .ok (.goto (-53), 3) := by decide +kernel
theorem dX1_takeTickets_58 : decode cX1_takeTickets 58 = .ok (.return_, 1) := by decide +kernel
theorem dX1_firstQueued_0 : decode cX1_firstQueued 0 = .ok (.iconst (-1), 1) := by decide +kernel
theorem dX1_firstQueued_1 : decode cX1_firstQueued 1 = .ok (.istore_n 2, 1) := by decide +kernel
theorem dX1_firstQueued_2 : decode cX1_firstQueued 2 = .ok (.iconst 0, 1) := by decide +kernel
theorem dX1_firstQueued_3 : decode cX1_firstQueued 3 = .ok (.istore_n 3, 1) := by decide +kernel
theorem dX1_firstQueued_4 : decode cX1_firstQueued 4 = .ok (.iload_n 3, 1) := by decide +kernel
theorem dX1_firstQueued_5 : decode cX1_firstQueued 5 = .ok (.aload_n 0, 1) := by decide +kernel
theorem dX1_firstQueued_6 : decode cX1_firstQueued 6 = .ok (.getfield 32, 3) := by decide +kernel
theorem dX1_firstQueued_9 : decode cX1_firstQueued 9 = .ok (.getfield 61, 3) := by decide +kernel
theorem dX1_firstQueued_12 : decode cX1_firstQueued 12 = .ok (.if_icmp .ge 50, 3) := by decide +kernel
theorem dX1_firstQueued_15 : decode cX1_firstQueued 15 = .ok (.aload_n 0, 1) := by decide +kernel
theorem dX1_firstQueued_16 : decode cX1_firstQueued 16 = .ok (.getfield 32, 3) := by decide +kernel
theorem dX1_firstQueued_19 : decode cX1_firstQueued 19 = .ok (.getfield 117, 3) := by decide +kernel
theorem dX1_firstQueued_22 : decode cX1_firstQueued 22 = .ok (.iload_n 3, 1) := by decide +kernel
theorem dX1_firstQueued_23 : decode cX1_firstQueued 23 = .ok (.iaload, 1) := by decide +kernel
theorem dX1_firstQueued_24 : decode cX1_firstQueued 24 = .ok (.ifCond .ne 32, 3) := by decide +kernel
theorem dX1_firstQueued_27 : decode cX1_firstQueued 27 = .ok (.aload_n 0, 1) := by decide +kernel
theorem dX1_firstQueued_28 : decode cX1_firstQueued 28 = .ok (.getfield 32, 3) := by decide +kernel
theorem dX1_firstQueued_31 : decode cX1_firstQueued 31 = .ok (.getfield 127, 3) := by decide +kernel
theorem dX1_firstQueued_34 : decode cX1_firstQueued 34 = .ok (.iload_n 3, 1) := by decide +kernel
theorem dX1_firstQueued_35 : decode cX1_firstQueued 35 = .ok (.iaload, 1) := by decide +kernel
theorem dX1_firstQueued_36 : decode cX1_firstQueued 36 = .ok (.iload_n 1, 1) := by decide +kernel
theorem dX1_firstQueued_37 : decode cX1_firstQueued 37 = .ok (.if_icmp .ne 19, 3) := by decide +kernel
theorem dX1_firstQueued_40 : decode cX1_firstQueued 40 = .ok (.iload_n 2, 1) := by decide +kernel
theorem dX1_firstQueued_41 : decode cX1_firstQueued 41 = .ok (.iconst (-1), 1) := by decide +kernel
theorem dX1_firstQueued_42 : decode cX1_firstQueued 42 = .ok (.if_icmp .eq 12, 3) := by decide +kernel
theorem dX1_firstQueued_45 : decode cX1_firstQueued 45 = .ok (.aload_n 0, 1) := by decide +kernel
theorem dX1_firstQueued_46 : decode cX1_firstQueued 46 = .ok (.iload_n 3, 1) := by decide +kernel
theorem dX1_firstQueued_47 : decode cX1_firstQueued 47 = .ok (.iload_n 2, 1) := by decide +kernel
theorem dX1_firstQueued_48 : decode cX1_firstQueued 48 = .ok (.invokevirtual 234, 3) := by decide +kernel
theorem dX1_firstQueued_51 : decode cX1_firstQueued 51 = .ok (.ifCond .eq 5, 3) := by decide +kernel
theorem dX1_firstQueued_54 : decode cX1_firstQueued 54 = .ok (.iload_n 3, 1) := by decide +kernel
theorem dX1_firstQueued_55 : decode cX1_firstQueued 55 = .ok (.istore_n 2, 1) := by decide +kernel
theorem dX1_firstQueued_56 : decode cX1_firstQueued 56 = .ok (.iinc 3 1, 3) := by decide +kernel
theorem dX1_firstQueued_59 : decode cX1_firstQueued 59 = .ok (.goto (-55), 3) := by decide +kernel
theorem dX1_firstQueued_62 : decode cX1_firstQueued 62 = .ok (.iload_n 2, 1) := by decide +kernel
theorem dX1_firstQueued_63 : decode cX1_firstQueued 63 = .ok (.ireturn, 1) := by decide +kernel
theorem dX1_isMoreUrgent_0 : decode cX1_isMoreUrgent 0 = .ok (.aload_n 0, 1) := by decide +kernel
theorem dX1_isMoreUrgent_1 : decode cX1_isMoreUrgent 1 = .ok (.getfield 32, 3) := by decide +kernel
theorem dX1_isMoreUrgent_4 : decode cX1_isMoreUrgent 4 = .ok (.getfield 205, 3) := by decide +kernel
theorem dX1_isMoreUrgent_7 : decode cX1_isMoreUrgent 7 = .ok (.iload_n 1, 1) := by decide +kernel
theorem dX1_isMoreUrgent_8 : decode cX1_isMoreUrgent 8 = .ok (.iaload, 1) := by decide +kernel
theorem dX1_isMoreUrgent_9 : decode cX1_isMoreUrgent 9 = .ok (.aload_n 0, 1) := by decide +kernel
theorem dX1_isMoreUrgent_10 : decode cX1_isMoreUrgent 10 = .ok (.getfield 32, 3) := by decide +kernel
theorem dX1_isMoreUrgent_13 : decode cX1_isMoreUrgent 13 = .ok (.getfield 205, 3) := by decide +kernel
theorem dX1_isMoreUrgent_16 : decode cX1_isMoreUrgent 16 = .ok (.iload_n 2, 1) := by decide +kernel
theorem dX1_isMoreUrgent_17 : decode cX1_isMoreUrgent 17 = .ok (.iaload, 1) := by decide +kernel
theorem dX1_isMoreUrgent_18 : decode cX1_isMoreUrgent 18 = .ok (.if_icmp .eq 30, 3) := by decide +kernel
theorem dX1_isMoreUrgent_21 : decode cX1_isMoreUrgent 21 = .ok (.aload_n 0, 1) := by decide +kernel
theorem dX1_isMoreUrgent_22 : decode cX1_isMoreUrgent 22 = .ok (.getfield 32, 3) := by decide +kernel
theorem dX1_isMoreUrgent_25 : decode cX1_isMoreUrgent 25 = .ok (.getfield 205, 3) := by decide +kernel
theorem dX1_isMoreUrgent_28 : decode cX1_isMoreUrgent 28 = .ok (.iload_n 1, 1) := by decide +kernel
theorem dX1_isMoreUrgent_29 : decode cX1_isMoreUrgent 29 = .ok (.iaload, 1) := by decide +kernel
theorem dX1_isMoreUrgent_30 : decode cX1_isMoreUrgent 30 = .ok (.aload_n 0, 1) := by decide +kernel
theorem dX1_isMoreUrgent_31 : decode cX1_isMoreUrgent 31 = .ok (.getfield 32, 3) := by decide +kernel
theorem dX1_isMoreUrgent_34 : decode cX1_isMoreUrgent 34 = .ok (.getfield 205, 3) := by decide +kernel
theorem dX1_isMoreUrgent_37 : decode cX1_isMoreUrgent 37 = .ok (.iload_n 2, 1) := by decide +kernel
theorem dX1_isMoreUrgent_38 : decode cX1_isMoreUrgent 38 = .ok (.iaload, 1) := by decide +kernel
theorem dX1_isMoreUrgent_39 : decode cX1_isMoreUrgent 39 = .ok (.if_icmp .le 7, 3) := by decide +kernel
theorem dX1_isMoreUrgent_42 : decode cX1_isMoreUrgent 42 = .ok (.iconst 1, 1) := by decide +kernel
theorem dX1_isMoreUrgent_43 : decode cX1_isMoreUrgent 43 = .ok (.goto 4, 3) := by decide +kernel
theorem dX1_isMoreUrgent_46 : decode cX1_isMoreUrgent 46 = .ok (.iconst 0, 1) := by decide +kernel
theorem dX1_isMoreUrgent_47 : decode cX1_isMoreUrgent 47 = .ok (.ireturn, 1) := by decide +kernel
theorem dX1_isMoreUrgent_48 : decode cX1_isMoreUrgent 48 = .ok (.aload_n 0, 1) := by decide +kernel
theorem dX1_isMoreUrgent_49 : decode cX1_isMoreUrgent 49 = .ok (.iload_n 1, 1) := by decide +kernel
theorem dX1_isMoreUrgent_50 : decode cX1_isMoreUrgent 50 = .ok (.invokevirtual 237, 3) := by decide +kernel
theorem dX1_isMoreUrgent_53 : decode cX1_isMoreUrgent 53 = .ok (.aload_n 0, 1) := by decide +kernel
theorem dX1_isMoreUrgent_54 : decode cX1_isMoreUrgent 54 = .ok (.iload_n 2, 1) := by decide +kernel
theorem dX1_isMoreUrgent_55 : decode cX1_isMoreUrgent 55 = .ok (.invokevirtual 237, 3) := by decide +kernel
theorem dX1_isMoreUrgent_58 : decode cX1_isMoreUrgent 58 = .ok (.if_icmp .ge 7, 3) := by decide +kernel
theorem dX1_isMoreUrgent_61 : decode cX1_isMoreUrgent 61 = .ok (.iconst 1, 1) := by decide +kernel
theorem dX1_isMoreUrgent_62 : decode cX1_isMoreUrgent 62 = .ok (.goto 4, 3) := by decide +kernel
theorem dX1_isMoreUrgent_65 : decode cX1_isMoreUrgent 65 = .ok (.iconst 0, 1) := by decide +kernel
theorem dX1_isMoreUrgent_66 : decode cX1_isMoreUrgent 66 = .ok (.ireturn, 1) := by decide +kernel
theorem dX1_minutesLeft_0 : decode cX1_minutesLeft 0 = .ok (.aload_n 0, 1) := by decide +kernel
theorem dX1_minutesLeft_1 : decode cX1_minutesLeft 1 = .ok (.getfield 21, 3) := by decide +kernel
theorem dX1_minutesLeft_4 : decode cX1_minutesLeft 4 = .ok (.getfield 240, 3) := by decide +kernel
theorem dX1_minutesLeft_7 : decode cX1_minutesLeft 7 = .ok (.aload_n 0, 1) := by decide +kernel
theorem dX1_minutesLeft_8 : decode cX1_minutesLeft 8 = .ok (.getfield 32, 3) := by decide +kernel
theorem dX1_minutesLeft_11 : decode cX1_minutesLeft 11 = .ok (.getfield 243, 3) := by decide +kernel
theorem dX1_minutesLeft_14 : decode cX1_minutesLeft 14 = .ok (.iload_n 1, 1) := by decide +kernel
theorem dX1_minutesLeft_15 : decode cX1_minutesLeft 15 = .ok (.iaload, 1) := by decide +kernel
theorem dX1_minutesLeft_16 : decode cX1_minutesLeft 16 = .ok (.iaload, 1) := by decide +kernel
theorem dX1_minutesLeft_17 : decode cX1_minutesLeft 17 = .ok (.aload_n 0, 1) := by decide +kernel
theorem dX1_minutesLeft_18 : decode cX1_minutesLeft 18 = .ok (.getfield 32, 3) := by decide +kernel
theorem dX1_minutesLeft_21 : decode cX1_minutesLeft 21 = .ok (.getfield 176, 3) := by decide +kernel
theorem dX1_minutesLeft_24 : decode cX1_minutesLeft 24 = .ok (.iload_n 1, 1) := by decide +kernel
theorem dX1_minutesLeft_25 : decode cX1_minutesLeft 25 = .ok (.iaload, 1) := by decide +kernel
theorem dX1_minutesLeft_26 : decode cX1_minutesLeft 26 = .ok (.isub, 1) := by decide +kernel
theorem dX1_minutesLeft_27 : decode cX1_minutesLeft 27 = .ok (.ireturn, 1) := by decide +kernel
theorem dX1_take_0 : decode cX1_take 0 = .ok (.aload_n 0, 1) := by decide +kernel
theorem dX1_take_1 : decode cX1_take 1 = .ok (.getfield 32, 3) := by decide +kernel
theorem dX1_take_4 : decode cX1_take 4 = .ok (.getfield 117, 3) := by decide +kernel
theorem dX1_take_7 : decode cX1_take 7 = .ok (.iload_n 1, 1) := by decide +kernel
theorem dX1_take_8 : decode cX1_take 8 = .ok (.iconst 1, 1) := by decide +kernel
theorem dX1_take_9 : decode cX1_take 9 = .ok (.iastore, 1) := by decide +kernel
theorem dX1_take_10 : decode cX1_take 10 = .ok (.aload_n 0, 1) := by decide +kernel
theorem dX1_take_11 : decode cX1_take 11 = .ok (.getfield 32, 3) := by decide +kernel
theorem dX1_take_14 : decode cX1_take 14 = .ok (.iload_n 1, 1) := by decide +kernel
theorem dX1_take_15 : decode cX1_take 15 = .ok (.invokevirtual 246, 3) := by decide +kernel
theorem dX1_take_18 : decode cX1_take 18 = .ok (.ifCond .ne 16, 3) := by decide +kernel
theorem dX1_take_21 : decode cX1_take 21 = .ok (.aload_n 0, 1) := by decide +kernel
theorem dX1_take_22 : decode cX1_take 22 = .ok (.getfield 32, 3) := by decide +kernel
theorem dX1_take_25 : decode cX1_take 25 = .ok (.getfield 249, 3) := by decide +kernel
theorem dX1_take_28 : decode cX1_take 28 = .ok (.iload_n 1, 1) := by decide +kernel
theorem dX1_take_29 : decode cX1_take 29 = .ok (.aload_n 0, 1) := by decide +kernel
theorem dX1_take_30 : decode cX1_take 30 = .ok (.getfield 48, 3) := by decide +kernel
theorem dX1_take_33 : decode cX1_take 33 = .ok (.iastore, 1) := by decide +kernel
theorem dX1_take_34 : decode cX1_take 34 = .ok (.aload_n 0, 1) := by decide +kernel
theorem dX1_take_35 : decode cX1_take 35 = .ok (.getfield 41, 3) := by decide +kernel
theorem dX1_take_38 : decode cX1_take 38 = .ok (.aload_n 0, 1) := by decide +kernel
theorem dX1_take_39 : decode cX1_take 39 = .ok (.getfield 48, 3) := by decide +kernel
theorem dX1_take_42 : decode cX1_take 42 = .ok (.iconst 1, 1) := by decide +kernel
theorem dX1_take_43 : decode cX1_take 43 = .ok (.iload_n 1, 1) := by decide +kernel
theorem dX1_take_44 : decode cX1_take 44 = .ok (.aload_n 0, 1) := by decide +kernel
theorem dX1_take_45 : decode cX1_take 45 = .ok (.getfield 32, 3) := by decide +kernel
theorem dX1_take_48 : decode cX1_take 48 = .ok (.getfield 127, 3) := by decide +kernel
theorem dX1_take_51 : decode cX1_take 51 = .ok (.iload_n 1, 1) := by decide +kernel
theorem dX1_take_52 : decode cX1_take 52 = .ok (.iaload, 1) := by decide +kernel
theorem dX1_take_53 : decode cX1_take 53 = .ok (.invokevirtual 172, 3) := by decide +kernel
theorem dX1_take_56 : decode cX1_take 56 = .ok (.return_, 1) := by decide +kernel
theorem dX1_stretch_0 : decode cX1_stretch 0 = .ok (.iload_n 1, 1) := by decide +kernel
theorem dX1_stretch_1 : decode cX1_stretch 1 = .ok (.aload_n 0, 1) := by decide +kernel
theorem dX1_stretch_2 : decode cX1_stretch 2 = .ok (.getfield 12, 3) := by decide +kernel
theorem dX1_stretch_5 : decode cX1_stretch 5 = .ok (.aload_n 0, 1) := by decide +kernel
theorem dX1_stretch_6 : decode cX1_stretch 6 = .ok (.getfield 48, 3) := by decide +kernel
theorem dX1_stretch_9 : decode cX1_stretch 9 = .ok (.invokevirtual 252, 3) := by decide +kernel
theorem dX1_stretch_12 : decode cX1_stretch 12 = .ok (.invokestatic 255, 3) := by decide +kernel
theorem dX1_stretch_15 : decode cX1_stretch 15 = .ok (.aload_n 0, 1) := by decide +kernel
theorem dX1_stretch_16 : decode cX1_stretch 16 = .ok (.getfield 48, 3) := by decide +kernel
theorem dX1_stretch_19 : decode cX1_stretch 19 = .ok (.isub, 1) := by decide +kernel
theorem dX1_stretch_20 : decode cX1_stretch 20 = .ok (.istore_n 3, 1) := by decide +kernel
theorem dX1_stretch_21 : decode cX1_stretch 21 = .ok (.iconst 0, 1) := by decide +kernel
theorem dX1_stretch_22 : decode cX1_stretch 22 = .ok (.istore 4, 2) := by decide +kernel
theorem dX1_stretch_24 : decode cX1_stretch 24 = .ok (.iload 4, 2) := by decide +kernel
theorem dX1_stretch_26 : decode cX1_stretch 26 = .ok (.aload_n 0, 1) := by decide +kernel
theorem dX1_stretch_27 : decode cX1_stretch 27 = .ok (.getfield 32, 3) := by decide +kernel
theorem dX1_stretch_30 : decode cX1_stretch 30 = .ok (.getfield 61, 3) := by decide +kernel
theorem dX1_stretch_33 : decode cX1_stretch 33 = .ok (.if_icmp .ge 82, 3) := by decide +kernel
theorem dX1_stretch_36 : decode cX1_stretch 36 = .ok (.aload_n 0, 1) := by decide +kernel
theorem dX1_stretch_37 : decode cX1_stretch 37 = .ok (.iload 4, 2) := by decide +kernel
theorem dX1_stretch_39 : decode cX1_stretch 39 = .ok (.iload_n 2, 1) := by decide +kernel
theorem dX1_stretch_40 : decode cX1_stretch 40 = .ok (.invokevirtual 260, 3) := by decide +kernel
theorem dX1_stretch_43 : decode cX1_stretch 43 = .ok (.ifCond .eq 14, 3) := by decide +kernel
theorem dX1_stretch_46 : decode cX1_stretch 46 = .ok (.iload_n 3, 1) := by decide +kernel
theorem dX1_stretch_47 : decode cX1_stretch 47 = .ok (.aload_n 0, 1) := by decide +kernel
theorem dX1_stretch_48 : decode cX1_stretch 48 = .ok (.iload 4, 2) := by decide +kernel
theorem dX1_stretch_50 : decode cX1_stretch 50 = .ok (.invokevirtual 264, 3) := by decide +kernel
theorem dX1_stretch_53 : decode cX1_stretch 53 = .ok (.invokestatic 255, 3) := by decide +kernel
theorem dX1_stretch_56 : decode cX1_stretch 56 = .ok (.istore_n 3, 1) := by decide +kernel
theorem dX1_stretch_57 : decode cX1_stretch 57 = .ok (.iload_n 2, 1) := by decide +kernel
theorem dX1_stretch_58 : decode cX1_stretch 58 = .ok (.ifCond .eq 51, 3) := by decide +kernel
theorem dX1_stretch_61 : decode cX1_stretch 61 = .ok (.aload_n 0, 1) := by decide +kernel
theorem dX1_stretch_62 : decode cX1_stretch 62 = .ok (.getfield 32, 3) := by decide +kernel
theorem dX1_stretch_65 : decode cX1_stretch 65 = .ok (.getfield 117, 3) := by decide +kernel
theorem dX1_stretch_68 : decode cX1_stretch 68 = .ok (.iload 4, 2) := by decide +kernel
theorem dX1_stretch_70 : decode cX1_stretch 70 = .ok (.iaload, 1) := by decide +kernel
theorem dX1_stretch_71 : decode cX1_stretch 71 = .ok (.iconst 1, 1) := by decide +kernel
theorem dX1_stretch_72 : decode cX1_stretch 72 = .ok (.if_icmp .ne 37, 3) := by decide +kernel
theorem dX1_stretch_75 : decode cX1_stretch 75 = .ok (.iload_n 3, 1) := by decide +kernel
theorem dX1_stretch_76 : decode cX1_stretch 76 = .ok (.aload_n 0, 1) := by decide +kernel
theorem dX1_stretch_77 : decode cX1_stretch 77 = .ok (.getfield 21, 3) := by decide +kernel
theorem dX1_stretch_80 : decode cX1_stretch 80 = .ok (.getfield 267, 3) := by decide +kernel
theorem dX1_stretch_83 : decode cX1_stretch 83 = .ok (.aload_n 0, 1) := by decide +kernel
theorem dX1_stretch_84 : decode cX1_stretch 84 = .ok (.getfield 32, 3) := by decide +kernel
theorem dX1_stretch_87 : decode cX1_stretch 87 = .ok (.getfield 243, 3) := by decide +kernel
theorem dX1_stretch_90 : decode cX1_stretch 90 = .ok (.iload 4, 2) := by decide +kernel
theorem dX1_stretch_92 : decode cX1_stretch 92 = .ok (.iaload, 1) := by decide +kernel
theorem dX1_stretch_93 : decode cX1_stretch 93 = .ok (.iaload, 1) := by decide +kernel
theorem dX1_stretch_94 : decode cX1_stretch 94 = .ok (.aload_n 0, 1) := by decide +kernel
theorem dX1_stretch_95 : decode cX1_stretch 95 = .ok (.getfield 32, 3) := by decide +kernel
theorem dX1_stretch_98 : decode cX1_stretch 98 = .ok (.getfield 179, 3) := by decide +kernel
theorem dX1_stretch_101 : decode cX1_stretch 101 = .ok (.iload 4, 2) := by decide +kernel
theorem dX1_stretch_103 : decode cX1_stretch 103 = .ok (.iaload, 1) := by decide +kernel
theorem dX1_stretch_104 : decode cX1_stretch 104 = .ok (.isub, 1) := by decide +kernel
theorem dX1_stretch_105 : decode cX1_stretch 105 = .ok (.invokestatic 255, 3) := by decide +kernel
theorem dX1_stretch_108 : decode cX1_stretch 108 = .ok (.istore_n 3, 1) := by decide +kernel
theorem dX1_stretch_109 : decode cX1_stretch 109 = .ok (.iinc 4 1, 3) := by decide +kernel
theorem dX1_stretch_112 : decode cX1_stretch 112 = .ok (.goto (-88), 3) := by decide +kernel
theorem dX1_stretch_115 : decode cX1_stretch 115 = .ok (.iconst 1, 1) := by decide +kernel
theorem dX1_stretch_116 : decode cX1_stretch 116 = .ok (.iload_n 3, 1) := by decide +kernel
theorem dX1_stretch_117 : decode cX1_stretch 117 = .ok (.invokestatic 270, 3) := by decide +kernel
theorem dX1_stretch_120 : decode cX1_stretch 120 = .ok (.ireturn, 1) := by decide +kernel
theorem dX1_minutesToClockEvent_0 : decode cX1_minutesToClockEvent 0 = .ok (.aload_n 0, 1) := by decide +kernel
theorem dX1_minutesToClockEvent_1 : decode cX1_minutesToClockEvent 1 = .ok (.getfield 32, 3) := by decide +kernel
theorem dX1_minutesToClockEvent_4 : decode cX1_minutesToClockEvent 4 = .ok (.getfield 243, 3) := by decide +kernel
theorem dX1_minutesToClockEvent_7 : decode cX1_minutesToClockEvent 7 = .ok (.iload_n 1, 1) := by decide +kernel
theorem dX1_minutesToClockEvent_8 : decode cX1_minutesToClockEvent 8 = .ok (.iaload, 1) := by decide +kernel
theorem dX1_minutesToClockEvent_9 : decode cX1_minutesToClockEvent 9 = .ok (.istore_n 2, 1) := by decide +kernel
theorem dX1_minutesToClockEvent_10 : decode cX1_minutesToClockEvent 10 = .ok (.sipush 10080, 3) := by decide +kernel
theorem dX1_minutesToClockEvent_13 : decode cX1_minutesToClockEvent 13 = .ok (.istore_n 3, 1) := by decide +kernel
theorem dX1_minutesToClockEvent_14 : decode cX1_minutesToClockEvent 14 = .ok (.aload_n 0, 1) := by decide +kernel
theorem dX1_minutesToClockEvent_15 : decode cX1_minutesToClockEvent 15 = .ok (.getfield 32, 3) := by decide +kernel
theorem dX1_minutesToClockEvent_18 : decode cX1_minutesToClockEvent 18 = .ok (.iload_n 1, 1) := by decide +kernel
theorem dX1_minutesToClockEvent_19 : decode cX1_minutesToClockEvent 19 = .ok (.invokevirtual 273, 3) := by decide +kernel
theorem dX1_minutesToClockEvent_22 : decode cX1_minutesToClockEvent 22 = .ok (.ifCond .eq 29, 3) := by decide +kernel
theorem dX1_minutesToClockEvent_25 : decode cX1_minutesToClockEvent 25 = .ok (.iload_n 3, 1) := by decide +kernel
theorem dX1_minutesToClockEvent_26 : decode cX1_minutesToClockEvent 26 = .ok (.aload_n 0, 1) := by decide +kernel
theorem dX1_minutesToClockEvent_27 : decode cX1_minutesToClockEvent 27 = .ok (.getfield 32, 3) := by decide +kernel
theorem dX1_minutesToClockEvent_30 : decode cX1_minutesToClockEvent 30 = .ok (.getfield 276, 3) := by decide +kernel
theorem dX1_minutesToClockEvent_33 : decode cX1_minutesToClockEvent 33 = .ok (.iload_n 1, 1) := by decide +kernel
theorem dX1_minutesToClockEvent_34 : decode cX1_minutesToClockEvent 34 = .ok (.iaload, 1) := by decide +kernel
theorem dX1_minutesToClockEvent_35 : decode cX1_minutesToClockEvent 35 = .ok (.aload_n 0, 1) := by decide +kernel
theorem dX1_minutesToClockEvent_36 : decode cX1_minutesToClockEvent 36 = .ok (.getfield 21, 3) := by decide +kernel
theorem dX1_minutesToClockEvent_39 : decode cX1_minutesToClockEvent 39 = .ok (.getfield 279, 3) := by decide +kernel
theorem dX1_minutesToClockEvent_42 : decode cX1_minutesToClockEvent 42 = .ok (.iload_n 2, 1) := by decide +kernel
theorem dX1_minutesToClockEvent_43 : decode cX1_minutesToClockEvent 43 = .ok (.iaload, 1) := by decide +kernel
theorem dX1_minutesToClockEvent_44 : decode cX1_minutesToClockEvent 44 = .ok (.invokestatic 282, 3) := by decide +kernel
theorem dX1_minutesToClockEvent_47 : decode cX1_minutesToClockEvent 47 = .ok (.invokestatic 255, 3) := by decide +kernel
theorem dX1_minutesToClockEvent_50 : decode cX1_minutesToClockEvent 50 = .ok (.istore_n 3, 1) := by decide +kernel
theorem dX1_minutesToClockEvent_51 : decode cX1_minutesToClockEvent 51 = .ok (.aload_n 0, 1) := by decide +kernel
theorem dX1_minutesToClockEvent_52 : decode cX1_minutesToClockEvent 52 = .ok (.getfield 32, 3) := by decide +kernel
theorem dX1_minutesToClockEvent_55 : decode cX1_minutesToClockEvent 55 = .ok (.iload_n 1, 1) := by decide +kernel
theorem dX1_minutesToClockEvent_56 : decode cX1_minutesToClockEvent 56 = .ok (.invokevirtual 285, 3) := by decide +kernel
theorem dX1_minutesToClockEvent_59 : decode cX1_minutesToClockEvent 59 = .ok (.ifCond .eq 29, 3) := by decide +kernel
theorem dX1_minutesToClockEvent_62 : decode cX1_minutesToClockEvent 62 = .ok (.iload_n 3, 1) := by decide +kernel
theorem dX1_minutesToClockEvent_63 : decode cX1_minutesToClockEvent 63 = .ok (.aload_n 0, 1) := by decide +kernel
theorem dX1_minutesToClockEvent_64 : decode cX1_minutesToClockEvent 64 = .ok (.getfield 32, 3) := by decide +kernel
theorem dX1_minutesToClockEvent_67 : decode cX1_minutesToClockEvent 67 = .ok (.getfield 176, 3) := by decide +kernel
theorem dX1_minutesToClockEvent_70 : decode cX1_minutesToClockEvent 70 = .ok (.iload_n 1, 1) := by decide +kernel
theorem dX1_minutesToClockEvent_71 : decode cX1_minutesToClockEvent 71 = .ok (.iaload, 1) := by decide +kernel
theorem dX1_minutesToClockEvent_72 : decode cX1_minutesToClockEvent 72 = .ok (.aload_n 0, 1) := by decide +kernel
theorem dX1_minutesToClockEvent_73 : decode cX1_minutesToClockEvent 73 = .ok (.getfield 21, 3) := by decide +kernel
theorem dX1_minutesToClockEvent_76 : decode cX1_minutesToClockEvent 76 = .ok (.getfield 240, 3) := by decide +kernel
theorem dX1_minutesToClockEvent_79 : decode cX1_minutesToClockEvent 79 = .ok (.iload_n 2, 1) := by decide +kernel
theorem dX1_minutesToClockEvent_80 : decode cX1_minutesToClockEvent 80 = .ok (.iaload, 1) := by decide +kernel
theorem dX1_minutesToClockEvent_81 : decode cX1_minutesToClockEvent 81 = .ok (.invokestatic 282, 3) := by decide +kernel
theorem dX1_minutesToClockEvent_84 : decode cX1_minutesToClockEvent 84 = .ok (.invokestatic 255, 3) := by decide +kernel
theorem dX1_minutesToClockEvent_87 : decode cX1_minutesToClockEvent 87 = .ok (.istore_n 3, 1) := by decide +kernel
theorem dX1_minutesToClockEvent_88 : decode cX1_minutesToClockEvent 88 = .ok (.aload_n 0, 1) := by decide +kernel
theorem dX1_minutesToClockEvent_89 : decode cX1_minutesToClockEvent 89 = .ok (.getfield 32, 3) := by decide +kernel
theorem dX1_minutesToClockEvent_92 : decode cX1_minutesToClockEvent 92 = .ok (.getfield 117, 3) := by decide +kernel
theorem dX1_minutesToClockEvent_95 : decode cX1_minutesToClockEvent 95 = .ok (.iload_n 1, 1) := by decide +kernel
theorem dX1_minutesToClockEvent_96 : decode cX1_minutesToClockEvent 96 = .ok (.iaload, 1) := by decide +kernel
theorem dX1_minutesToClockEvent_97 : decode cX1_minutesToClockEvent 97 = .ok (.ifCond .ne 35, 3) := by decide +kernel
theorem dX1_minutesToClockEvent_100 : decode cX1_minutesToClockEvent 100 = .ok (.aload_n 0, 1) := by decide +kernel
theorem dX1_minutesToClockEvent_101 : decode cX1_minutesToClockEvent 101 = .ok (.iload_n 1, 1) := by decide +kernel
theorem dX1_minutesToClockEvent_102 : decode cX1_minutesToClockEvent 102 = .ok (.invokevirtual 288, 3) := by decide +kernel
theorem dX1_minutesToClockEvent_105 : decode cX1_minutesToClockEvent 105 = .ok (.ifCond .eq 27, 3) := by decide +kernel
theorem dX1_minutesToClockEvent_108 : decode cX1_minutesToClockEvent 108 = .ok (.iload_n 3, 1) := by decide +kernel
theorem dX1_minutesToClockEvent_109 : decode cX1_minutesToClockEvent 109 = .ok (.aload_n 0, 1) := by decide +kernel
theorem dX1_minutesToClockEvent_110 : decode cX1_minutesToClockEvent 110 = .ok (.getfield 21, 3) := by decide +kernel
theorem dX1_minutesToClockEvent_113 : decode cX1_minutesToClockEvent 113 = .ok (.getfield 291, 3) := by decide +kernel
theorem dX1_minutesToClockEvent_116 : decode cX1_minutesToClockEvent 116 = .ok (.iload_n 2, 1) := by decide +kernel
theorem dX1_minutesToClockEvent_117 : decode cX1_minutesToClockEvent 117 = .ok (.iaload, 1) := by decide +kernel
theorem dX1_minutesToClockEvent_118 : decode cX1_minutesToClockEvent 118 = .ok (.aload_n 0, 1) := by decide +kernel
theorem dX1_minutesToClockEvent_119 : decode cX1_minutesToClockEvent 119 = .ok (.getfield 32, 3) := by decide +kernel
theorem dX1_minutesToClockEvent_122 : decode cX1_minutesToClockEvent 122 = .ok (.getfield 182, 3) := by decide +kernel
theorem dX1_minutesToClockEvent_125 : decode cX1_minutesToClockEvent 125 = .ok (.iload_n 1, 1) := by decide +kernel
theorem dX1_minutesToClockEvent_126 : decode cX1_minutesToClockEvent 126 = .ok (.iaload, 1) := by decide +kernel
theorem dX1_minutesToClockEvent_127 : decode cX1_minutesToClockEvent 127 = .ok (.isub, 1) := by decide +kernel
theorem dX1_minutesToClockEvent_128 : decode cX1_minutesToClockEvent 128 = .ok (.invokestatic 255, 3) := by decide +kernel
theorem dX1_minutesToClockEvent_131 : decode cX1_minutesToClockEvent 131 = .ok (.istore_n 3, 1) := by decide +kernel
theorem dX1_minutesToClockEvent_132 : decode cX1_minutesToClockEvent 132 = .ok (.iload_n 3, 1) := by decide +kernel
theorem dX1_minutesToClockEvent_133 : decode cX1_minutesToClockEvent 133 = .ok (.ireturn, 1) := by decide +kernel
theorem dX1_minutesToBreach_0 : decode cX1_minutesToBreach 0 = .ok (.iload_n 0, 1) := by decide +kernel
theorem dX1_minutesToBreach_1 : decode cX1_minutesToBreach 1 = .ok (.iload_n 1, 1) := by decide +kernel
theorem dX1_minutesToBreach_2 : decode cX1_minutesToBreach 2 = .ok (.if_icmp .le 9, 3) := by decide +kernel
theorem dX1_minutesToBreach_5 : decode cX1_minutesToBreach 5 = .ok (.sipush 10080, 3) := by decide +kernel
theorem dX1_minutesToBreach_8 : decode cX1_minutesToBreach 8 = .ok (.goto 8, 3) := by decide +kernel
theorem dX1_minutesToBreach_11 : decode cX1_minutesToBreach 11 = .ok (.iload_n 1, 1) := by decide +kernel
theorem dX1_minutesToBreach_12 : decode cX1_minutesToBreach 12 = .ok (.iconst 1, 1) := by decide +kernel
theorem dX1_minutesToBreach_13 : decode cX1_minutesToBreach 13 = .ok (.iadd, 1) := by decide +kernel
theorem dX1_minutesToBreach_14 : decode cX1_minutesToBreach 14 = .ok (.iload_n 0, 1) := by decide +kernel
theorem dX1_minutesToBreach_15 : decode cX1_minutesToBreach 15 = .ok (.isub, 1) := by decide +kernel
theorem dX1_minutesToBreach_16 : decode cX1_minutesToBreach 16 = .ok (.ireturn, 1) := by decide +kernel
theorem dX1_counts_0 : decode cX1_counts 0 = .ok (.iload_n 2, 1) := by decide +kernel
theorem dX1_counts_1 : decode cX1_counts 1 = .ok (.ifCond .ne 23, 3) := by decide +kernel
theorem dX1_counts_4 : decode cX1_counts 4 = .ok (.aload_n 0, 1) := by decide +kernel
theorem dX1_counts_5 : decode cX1_counts 5 = .ok (.getfield 21, 3) := by decide +kernel
theorem dX1_counts_8 : decode cX1_counts 8 = .ok (.getfield 294, 3) := by decide +kernel
theorem dX1_counts_11 : decode cX1_counts 11 = .ok (.aload_n 0, 1) := by decide +kernel
theorem dX1_counts_12 : decode cX1_counts 12 = .ok (.getfield 32, 3) := by decide +kernel
theorem dX1_counts_15 : decode cX1_counts 15 = .ok (.getfield 243, 3) := by decide +kernel
theorem dX1_counts_18 : decode cX1_counts 18 = .ok (.iload_n 1, 1) := by decide +kernel
theorem dX1_counts_19 : decode cX1_counts 19 = .ok (.iaload, 1) := by decide +kernel
theorem dX1_counts_20 : decode cX1_counts 20 = .ok (.baload, 1) := by decide +kernel
theorem dX1_counts_21 : decode cX1_counts 21 = .ok (.ifCond .eq 7, 3) := by decide +kernel
theorem dX1_counts_24 : decode cX1_counts 24 = .ok (.iconst 1, 1) := by decide +kernel
theorem dX1_counts_25 : decode cX1_counts 25 = .ok (.goto 4, 3) := by decide +kernel
theorem dX1_counts_28 : decode cX1_counts 28 = .ok (.iconst 0, 1) := by decide +kernel
theorem dX1_counts_29 : decode cX1_counts 29 = .ok (.ireturn, 1) := by decide +kernel
theorem dX1_climbsByItself_0 : decode cX1_climbsByItself 0 = .ok (.aload_n 0, 1) := by decide +kernel
theorem dX1_climbsByItself_1 : decode cX1_climbsByItself 1 = .ok (.getfield 21, 3) := by decide +kernel
theorem dX1_climbsByItself_4 : decode cX1_climbsByItself 4 = .ok (.getfield 291, 3) := by decide +kernel
theorem dX1_climbsByItself_7 : decode cX1_climbsByItself 7 = .ok (.aload_n 0, 1) := by decide +kernel
theorem dX1_climbsByItself_8 : decode cX1_climbsByItself 8 = .ok (.getfield 32, 3) := by decide +kernel
theorem dX1_climbsByItself_11 : decode cX1_climbsByItself 11 = .ok (.getfield 243, 3) := by decide +kernel
theorem dX1_climbsByItself_14 : decode cX1_climbsByItself 14 = .ok (.iload_n 1, 1) := by decide +kernel
theorem dX1_climbsByItself_15 : decode cX1_climbsByItself 15 = .ok (.iaload, 1) := by decide +kernel
theorem dX1_climbsByItself_16 : decode cX1_climbsByItself 16 = .ok (.iaload, 1) := by decide +kernel
theorem dX1_climbsByItself_17 : decode cX1_climbsByItself 17 = .ok (.ifCond .eq 20, 3) := by decide +kernel
theorem dX1_climbsByItself_20 : decode cX1_climbsByItself 20 = .ok (.aload_n 0, 1) := by decide +kernel
theorem dX1_climbsByItself_21 : decode cX1_climbsByItself 21 = .ok (.getfield 32, 3) := by decide +kernel
theorem dX1_climbsByItself_24 : decode cX1_climbsByItself 24 = .ok (.getfield 127, 3) := by decide +kernel
theorem dX1_climbsByItself_27 : decode cX1_climbsByItself 27 = .ok (.iload_n 1, 1) := by decide +kernel
theorem dX1_climbsByItself_28 : decode cX1_climbsByItself 28 = .ok (.iaload, 1) := by decide +kernel
theorem dX1_climbsByItself_29 : decode cX1_climbsByItself 29 = .ok (.iconst 3, 1) := by decide +kernel
theorem dX1_climbsByItself_30 : decode cX1_climbsByItself 30 = .ok (.if_icmp .ge 7, 3) := by decide +kernel
theorem dX1_climbsByItself_33 : decode cX1_climbsByItself 33 = .ok (.iconst 1, 1) := by decide +kernel
theorem dX1_climbsByItself_34 : decode cX1_climbsByItself 34 = .ok (.goto 4, 3) := by decide +kernel
theorem dX1_climbsByItself_37 : decode cX1_climbsByItself 37 = .ok (.iconst 0, 1) := by decide +kernel
theorem dX1_climbsByItself_38 : decode cX1_climbsByItself 38 = .ok (.ireturn, 1) := by decide +kernel
theorem dX1_growClocks_0 : decode cX1_growClocks 0 = .ok (.iconst 0, 1) := by decide +kernel
theorem dX1_growClocks_1 : decode cX1_growClocks 1 = .ok (.istore_n 3, 1) := by decide +kernel
theorem dX1_growClocks_2 : decode cX1_growClocks 2 = .ok (.iload_n 3, 1) := by decide +kernel
theorem dX1_growClocks_3 : decode cX1_growClocks 3 = .ok (.aload_n 0, 1) := by decide +kernel
theorem dX1_growClocks_4 : decode cX1_growClocks 4 = .ok (.getfield 32, 3) := by decide +kernel
theorem dX1_growClocks_7 : decode cX1_growClocks 7 = .ok (.getfield 61, 3) := by decide +kernel
theorem dX1_growClocks_10 : decode cX1_growClocks 10 = .ok (.if_icmp .ge 129, 3) := by decide +kernel
theorem dX1_growClocks_13 : decode cX1_growClocks 13 = .ok (.aload_n 0, 1) := by decide +kernel
theorem dX1_growClocks_14 : decode cX1_growClocks 14 = .ok (.iload_n 3, 1) := by decide +kernel
theorem dX1_growClocks_15 : decode cX1_growClocks 15 = .ok (.iload_n 2, 1) := by decide +kernel
theorem dX1_growClocks_16 : decode cX1_growClocks 16 = .ok (.invokevirtual 260, 3) := by decide +kernel
theorem dX1_growClocks_19 : decode cX1_growClocks 19 = .ok (.ifCond .ne 6, 3) := by decide +kernel
theorem dX1_growClocks_22 : decode cX1_growClocks 22 = .ok (.goto 111, 3) := by decide +kernel
theorem dX1_growClocks_25 : decode cX1_growClocks 25 = .ok (.aload_n 0, 1) := by decide +kernel
theorem dX1_growClocks_26 : decode cX1_growClocks 26 = .ok (.getfield 32, 3) := by decide +kernel
theorem dX1_growClocks_29 : decode cX1_growClocks 29 = .ok (.getfield 243, 3) := by decide +kernel
theorem dX1_growClocks_32 : decode cX1_growClocks 32 = .ok (.iload_n 3, 1) := by decide +kernel
theorem dX1_growClocks_33 : decode cX1_growClocks 33 = .ok (.iaload, 1) := by decide +kernel
theorem dX1_growClocks_34 : decode cX1_growClocks 34 = .ok (.istore 4, 2) := by decide +kernel
theorem dX1_growClocks_36 : decode cX1_growClocks 36 = .ok (.aload_n 0, 1) := by decide +kernel
theorem dX1_growClocks_37 : decode cX1_growClocks 37 = .ok (.getfield 32, 3) := by decide +kernel
theorem dX1_growClocks_40 : decode cX1_growClocks 40 = .ok (.iload_n 3, 1) := by decide +kernel
theorem dX1_growClocks_41 : decode cX1_growClocks 41 = .ok (.invokevirtual 273, 3) := by decide +kernel
theorem dX1_growClocks_44 : decode cX1_growClocks 44 = .ok (.ifCond .eq 28, 3) := by decide +kernel
theorem dX1_growClocks_47 : decode cX1_growClocks 47 = .ok (.aload_n 0, 1) := by decide +kernel
theorem dX1_growClocks_48 : decode cX1_growClocks 48 = .ok (.aload_n 0, 1) := by decide +kernel
theorem dX1_growClocks_49 : decode cX1_growClocks 49 = .ok (.getfield 32, 3) := by decide +kernel
theorem dX1_growClocks_52 : decode cX1_growClocks 52 = .ok (.getfield 276, 3) := by decide +kernel
theorem dX1_growClocks_55 : decode cX1_growClocks 55 = .ok (.iload_n 3, 1) := by decide +kernel
theorem dX1_growClocks_56 : decode cX1_growClocks 56 = .ok (.iload_n 1, 1) := by decide +kernel
theorem dX1_growClocks_57 : decode cX1_growClocks 57 = .ok (.aload_n 0, 1) := by decide +kernel
theorem dX1_growClocks_58 : decode cX1_growClocks 58 = .ok (.getfield 21, 3) := by decide +kernel
theorem dX1_growClocks_61 : decode cX1_growClocks 61 = .ok (.getfield 279, 3) := by decide +kernel
theorem dX1_growClocks_64 : decode cX1_growClocks 64 = .ok (.iload 4, 2) := by decide +kernel
theorem dX1_growClocks_66 : decode cX1_growClocks 66 = .ok (.iaload, 1) := by decide +kernel
theorem dX1_growClocks_67 : decode cX1_growClocks 67 = .ok (.bipush 8, 2) := by decide +kernel
theorem dX1_growClocks_69 : decode cX1_growClocks 69 = .ok (.invokevirtual 298, 3) := by decide +kernel
theorem dX1_growClocks_72 : decode cX1_growClocks 72 = .ok (.aload_n 0, 1) := by decide +kernel
theorem dX1_growClocks_73 : decode cX1_growClocks 73 = .ok (.getfield 32, 3) := by decide +kernel
theorem dX1_growClocks_76 : decode cX1_growClocks 76 = .ok (.iload_n 3, 1) := by decide +kernel
theorem dX1_growClocks_77 : decode cX1_growClocks 77 = .ok (.invokevirtual 285, 3) := by decide +kernel
theorem dX1_growClocks_80 : decode cX1_growClocks 80 = .ok (.ifCond .eq 28, 3) := by decide +kernel
theorem dX1_growClocks_83 : decode cX1_growClocks 83 = .ok (.aload_n 0, 1) := by decide +kernel
theorem dX1_growClocks_84 : decode cX1_growClocks 84 = .ok (.aload_n 0, 1) := by decide +kernel
theorem dX1_growClocks_85 : decode cX1_growClocks 85 = .ok (.getfield 32, 3) := by decide +kernel
theorem dX1_growClocks_88 : decode cX1_growClocks 88 = .ok (.getfield 176, 3) := by decide +kernel
theorem dX1_growClocks_91 : decode cX1_growClocks 91 = .ok (.iload_n 3, 1) := by decide +kernel
theorem dX1_growClocks_92 : decode cX1_growClocks 92 = .ok (.iload_n 1, 1) := by decide +kernel
theorem dX1_growClocks_93 : decode cX1_growClocks 93 = .ok (.aload_n 0, 1) := by decide +kernel
theorem dX1_growClocks_94 : decode cX1_growClocks 94 = .ok (.getfield 21, 3) := by decide +kernel
theorem dX1_growClocks_97 : decode cX1_growClocks 97 = .ok (.getfield 240, 3) := by decide +kernel
theorem dX1_growClocks_100 : decode cX1_growClocks 100 = .ok (.iload 4, 2) := by decide +kernel
theorem dX1_growClocks_102 : decode cX1_growClocks 102 = .ok (.iaload, 1) := by decide +kernel
theorem dX1_growClocks_103 : decode cX1_growClocks 103 = .ok (.bipush 9, 2) := by decide +kernel
theorem dX1_growClocks_105 : decode cX1_growClocks 105 = .ok (.invokevirtual 298, 3) := by decide +kernel
theorem dX1_growClocks_108 : decode cX1_growClocks 108 = .ok (.aload_n 0, 1) := by decide +kernel
theorem dX1_growClocks_109 : decode cX1_growClocks 109 = .ok (.getfield 32, 3) := by decide +kernel
theorem dX1_growClocks_112 : decode cX1_growClocks 112 = .ok (.getfield 117, 3) := by decide +kernel
theorem dX1_growClocks_115 : decode cX1_growClocks 115 = .ok (.iload_n 3, 1) := by decide +kernel
theorem dX1_growClocks_116 : decode cX1_growClocks 116 = .ok (.iaload, 1) := by decide +kernel
theorem dX1_growClocks_117 : decode cX1_growClocks 117 = .ok (.ifCond .ne 16, 3) := by decide +kernel
theorem dX1_growClocks_120 : decode cX1_growClocks 120 = .ok (.aload_n 0, 1) := by decide +kernel
theorem dX1_growClocks_121 : decode cX1_growClocks 121 = .ok (.getfield 32, 3) := by decide +kernel
theorem dX1_growClocks_124 : decode cX1_growClocks 124 = .ok (.getfield 182, 3) := by decide +kernel
theorem dX1_growClocks_127 : decode cX1_growClocks 127 = .ok (.iload_n 3, 1) := by decide +kernel
theorem dX1_growClocks_128 : decode cX1_growClocks 128 = .ok (.dup2, 1) := by decide +kernel
theorem dX1_growClocks_129 : decode cX1_growClocks 129 = .ok (.iaload, 1) := by decide +kernel
theorem dX1_growClocks_130 : decode cX1_growClocks 130 = .ok (.iload_n 1, 1) := by decide +kernel
theorem dX1_growClocks_131 : decode cX1_growClocks 131 = .ok (.iadd, 1) := by decide +kernel
theorem dX1_growClocks_132 : decode cX1_growClocks 132 = .ok (.iastore, 1) := by decide +kernel
theorem dX1_growClocks_133 : decode cX1_growClocks 133 = .ok (.iinc 3 1, 3) := by decide +kernel
theorem dX1_growClocks_136 : decode cX1_growClocks 136 = .ok (.goto (-134), 3) := by decide +kernel
theorem dX1_growClocks_139 : decode cX1_growClocks 139 = .ok (.return_, 1) := by decide +kernel
theorem dX1_grow_0 : decode cX1_grow 0 = .ok (.aload_n 1, 1) := by decide +kernel
theorem dX1_grow_1 : decode cX1_grow 1 = .ok (.iload_n 2, 1) := by decide +kernel
theorem dX1_grow_2 : decode cX1_grow 2 = .ok (.iaload, 1) := by decide +kernel
theorem dX1_grow_3 : decode cX1_grow 3 = .ok (.istore 6, 2) := by decide +kernel
theorem dX1_grow_5 : decode cX1_grow 5 = .ok (.aload_n 1, 1) := by decide +kernel
theorem dX1_grow_6 : decode cX1_grow 6 = .ok (.iload_n 2, 1) := by decide +kernel
theorem dX1_grow_7 : decode cX1_grow 7 = .ok (.iload 6, 2) := by decide +kernel
theorem dX1_grow_9 : decode cX1_grow 9 = .ok (.iload_n 3, 1) := by decide +kernel
theorem dX1_grow_10 : decode cX1_grow 10 = .ok (.iadd, 1) := by decide +kernel
theorem dX1_grow_11 : decode cX1_grow 11 = .ok (.iastore, 1) := by decide +kernel
theorem dX1_grow_12 : decode cX1_grow 12 = .ok (.iload 6, 2) := by decide +kernel
theorem dX1_grow_14 : decode cX1_grow 14 = .ok (.iload 4, 2) := by decide +kernel
theorem dX1_grow_16 : decode cX1_grow 16 = .ok (.if_icmp .gt 30, 3) := by decide +kernel
theorem dX1_grow_19 : decode cX1_grow 19 = .ok (.iload 6, 2) := by decide +kernel
theorem dX1_grow_21 : decode cX1_grow 21 = .ok (.iload_n 3, 1) := by decide +kernel
theorem dX1_grow_22 : decode cX1_grow 22 = .ok (.iadd, 1) := by decide +kernel
theorem dX1_grow_23 : decode cX1_grow 23 = .ok (.iload 4, 2) := by decide +kernel
theorem dX1_grow_25 : decode cX1_grow 25 = .ok (.if_icmp .le 21, 3) := by decide +kernel
theorem dX1_grow_28 : decode cX1_grow 28 = .ok (.aload_n 0, 1) := by decide +kernel
theorem dX1_grow_29 : decode cX1_grow 29 = .ok (.getfield 41, 3) := by decide +kernel
theorem dX1_grow_32 : decode cX1_grow 32 = .ok (.aload_n 0, 1) := by decide +kernel
theorem dX1_grow_33 : decode cX1_grow 33 = .ok (.getfield 48, 3) := by decide +kernel
theorem dX1_grow_36 : decode cX1_grow 36 = .ok (.iload_n 3, 1) := by decide +kernel
theorem dX1_grow_37 : decode cX1_grow 37 = .ok (.iadd, 1) := by decide +kernel
theorem dX1_grow_38 : decode cX1_grow 38 = .ok (.iload 5, 2) := by decide +kernel
theorem dX1_grow_40 : decode cX1_grow 40 = .ok (.iload_n 2, 1) := by decide +kernel
theorem dX1_grow_41 : decode cX1_grow 41 = .ok (.iload 4, 2) := by decide +kernel
theorem dX1_grow_43 : decode cX1_grow 43 = .ok (.invokevirtual 172, 3) := by decide +kernel
theorem dX1_grow_46 : decode cX1_grow 46 = .ok (.return_, 1) := by decide +kernel
theorem dX1_work_0 : decode cX1_work 0 = .ok (.iconst 0, 1) := by decide +kernel
theorem dX1_work_1 : decode cX1_work 1 = .ok (.istore_n 2, 1) := by decide +kernel
theorem dX1_work_2 : decode cX1_work 2 = .ok (.iload_n 2, 1) := by decide +kernel
theorem dX1_work_3 : decode cX1_work 3 = .ok (.aload_n 0, 1) := by decide +kernel
theorem dX1_work_4 : decode cX1_work 4 = .ok (.getfield 32, 3) := by decide +kernel
theorem dX1_work_7 : decode cX1_work 7 = .ok (.getfield 61, 3) := by decide +kernel
theorem dX1_work_10 : decode cX1_work 10 = .ok (.if_icmp .ge 120, 3) := by decide +kernel
theorem dX1_work_13 : decode cX1_work 13 = .ok (.aload_n 0, 1) := by decide +kernel
theorem dX1_work_14 : decode cX1_work 14 = .ok (.getfield 32, 3) := by decide +kernel
theorem dX1_work_17 : decode cX1_work 17 = .ok (.getfield 117, 3) := by decide +kernel
theorem dX1_work_20 : decode cX1_work 20 = .ok (.iload_n 2, 1) := by decide +kernel
theorem dX1_work_21 : decode cX1_work 21 = .ok (.iaload, 1) := by decide +kernel
theorem dX1_work_22 : decode cX1_work 22 = .ok (.iconst 1, 1) := by decide +kernel
theorem dX1_work_23 : decode cX1_work 23 = .ok (.if_icmp .eq 6, 3) := by decide +kernel
theorem dX1_work_26 : decode cX1_work 26 = .ok (.goto 98, 3) := by decide +kernel
theorem dX1_work_29 : decode cX1_work 29 = .ok (.aload_n 0, 1) := by decide +kernel
theorem dX1_work_30 : decode cX1_work 30 = .ok (.getfield 32, 3) := by decide +kernel
theorem dX1_work_33 : decode cX1_work 33 = .ok (.getfield 243, 3) := by decide +kernel
theorem dX1_work_36 : decode cX1_work 36 = .ok (.iload_n 2, 1) := by decide +kernel
theorem dX1_work_37 : decode cX1_work 37 = .ok (.iaload, 1) := by decide +kernel
theorem dX1_work_38 : decode cX1_work 38 = .ok (.istore_n 3, 1) := by decide +kernel
theorem dX1_work_39 : decode cX1_work 39 = .ok (.aload_n 0, 1) := by decide +kernel
theorem dX1_work_40 : decode cX1_work 40 = .ok (.getfield 32, 3) := by decide +kernel
theorem dX1_work_43 : decode cX1_work 43 = .ok (.getfield 179, 3) := by decide +kernel
theorem dX1_work_46 : decode cX1_work 46 = .ok (.iload_n 2, 1) := by decide +kernel
theorem dX1_work_47 : decode cX1_work 47 = .ok (.dup2, 1) := by decide +kernel
theorem dX1_work_48 : decode cX1_work 48 = .ok (.iaload, 1) := by decide +kernel
theorem dX1_work_49 : decode cX1_work 49 = .ok (.iload_n 1, 1) := by decide +kernel
theorem dX1_work_50 : decode cX1_work 50 = .ok (.iadd, 1) := by decide +kernel
theorem dX1_work_51 : decode cX1_work 51 = .ok (.iastore, 1) := by decide +kernel
theorem dX1_work_52 : decode cX1_work 52 = .ok (.aload_n 0, 1) := by decide +kernel
theorem dX1_work_53 : decode cX1_work 53 = .ok (.getfield 32, 3) := by decide +kernel
theorem dX1_work_56 : decode cX1_work 56 = .ok (.getfield 179, 3) := by decide +kernel
theorem dX1_work_59 : decode cX1_work 59 = .ok (.iload_n 2, 1) := by decide +kernel
theorem dX1_work_60 : decode cX1_work 60 = .ok (.iaload, 1) := by decide +kernel
theorem dX1_work_61 : decode cX1_work 61 = .ok (.aload_n 0, 1) := by decide +kernel
theorem dX1_work_62 : decode cX1_work 62 = .ok (.getfield 21, 3) := by decide +kernel
theorem dX1_work_65 : decode cX1_work 65 = .ok (.getfield 267, 3) := by decide +kernel
theorem dX1_work_68 : decode cX1_work 68 = .ok (.iload_n 3, 1) := by decide +kernel
theorem dX1_work_69 : decode cX1_work 69 = .ok (.iaload, 1) := by decide +kernel
theorem dX1_work_70 : decode cX1_work 70 = .ok (.if_icmp .ge 6, 3) := by decide +kernel
theorem dX1_work_73 : decode cX1_work 73 = .ok (.goto 51, 3) := by decide +kernel
