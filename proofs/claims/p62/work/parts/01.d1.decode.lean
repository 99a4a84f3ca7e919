theorem dX1_work_76 : decode cX1_work 76 = .ok (.aload_n 0, 1) := by decide +kernel
theorem dX1_work_77 : decode cX1_work 77 = .ok (.getfield 32, 3) := by decide +kernel
theorem dX1_work_80 : decode cX1_work 80 = .ok (.getfield 127, 3) := by decide +kernel
theorem dX1_work_83 : decode cX1_work 83 = .ok (.iload_n 2, 1) := by decide +kernel
theorem dX1_work_84 : decode cX1_work 84 = .ok (.iaload, 1) := by decide +kernel
theorem dX1_work_85 : decode cX1_work 85 = .ok (.aload_n 0, 1) := by decide +kernel
theorem dX1_work_86 : decode cX1_work 86 = .ok (.getfield 21, 3) := by decide +kernel
theorem dX1_work_89 : decode cX1_work 89 = .ok (.getfield 302, 3) := by decide +kernel
theorem dX1_work_92 : decode cX1_work 92 = .ok (.iload_n 3, 1) := by decide +kernel
theorem dX1_work_93 : decode cX1_work 93 = .ok (.iaload, 1) := by decide +kernel
theorem dX1_work_94 : decode cX1_work 94 = .ok (.if_icmp .lt 18, 3) := by decide +kernel
theorem dX1_work_97 : decode cX1_work 97 = .ok (.aload_n 0, 1) := by decide +kernel
theorem dX1_work_98 : decode cX1_work 98 = .ok (.iload_n 2, 1) := by decide +kernel
theorem dX1_work_99 : decode cX1_work 99 = .ok (.aload_n 0, 1) := by decide +kernel
theorem dX1_work_100 : decode cX1_work 100 = .ok (.getfield 48, 3) := by decide +kernel
theorem dX1_work_103 : decode cX1_work 103 = .ok (.iload_n 1, 1) := by decide +kernel
theorem dX1_work_104 : decode cX1_work 104 = .ok (.iadd, 1) := by decide +kernel
theorem dX1_work_105 : decode cX1_work 105 = .ok (.invokevirtual 149, 3) := by decide +kernel
theorem dX1_work_108 : decode cX1_work 108 = .ok (.pop, 1) := by decide +kernel
theorem dX1_work_109 : decode cX1_work 109 = .ok (.goto 15, 3) := by decide +kernel
theorem dX1_work_112 : decode cX1_work 112 = .ok (.aload_n 0, 1) := by decide +kernel
theorem dX1_work_113 : decode cX1_work 113 = .ok (.iload_n 2, 1) := by decide +kernel
theorem dX1_work_114 : decode cX1_work 114 = .ok (.aload_n 0, 1) := by decide +kernel
theorem dX1_work_115 : decode cX1_work 115 = .ok (.getfield 48, 3) := by decide +kernel
theorem dX1_work_118 : decode cX1_work 118 = .ok (.iload_n 1, 1) := by decide +kernel
theorem dX1_work_119 : decode cX1_work 119 = .ok (.iadd, 1) := by decide +kernel
theorem dX1_work_120 : decode cX1_work 120 = .ok (.invokevirtual 146, 3) := by decide +kernel
theorem dX1_work_123 : decode cX1_work 123 = .ok (.pop, 1) := by decide +kernel
theorem dX1_work_124 : decode cX1_work 124 = .ok (.iinc 2 1, 3) := by decide +kernel
theorem dX1_work_127 : decode cX1_work 127 = .ok (.goto (-125), 3) := by decide +kernel
theorem dX1_work_130 : decode cX1_work 130 = .ok (.return_, 1) := by decide +kernel
theorem dX1_climbWaiting_0 : decode cX1_climbWaiting 0 = .ok (.iconst 0, 1) := by decide +kernel
theorem dX1_climbWaiting_1 : decode cX1_climbWaiting 1 = .ok (.istore_n 2, 1) := by decide +kernel
theorem dX1_climbWaiting_2 : decode cX1_climbWaiting 2 = .ok (.iload_n 2, 1) := by decide +kernel
theorem dX1_climbWaiting_3 : decode cX1_climbWaiting 3 = .ok (.aload_n 0, 1) := by decide +kernel
theorem dX1_climbWaiting_4 : decode cX1_climbWaiting 4 = .ok (.getfield 32, 3) := by decide +kernel
theorem dX1_climbWaiting_7 : decode cX1_climbWaiting 7 = .ok (.getfield 61, 3) := by decide +kernel
theorem dX1_climbWaiting_10 : decode cX1_climbWaiting 10 = .ok (.if_icmp .ge 65, 3) := by decide +kernel
theorem dX1_climbWaiting_13 : decode cX1_climbWaiting 13 = .ok (.aload_n 0, 1) := by decide +kernel
theorem dX1_climbWaiting_14 : decode cX1_climbWaiting 14 = .ok (.getfield 32, 3) := by decide +kernel
theorem dX1_climbWaiting_17 : decode cX1_climbWaiting 17 = .ok (.getfield 117, 3) := by decide +kernel
theorem dX1_climbWaiting_20 : decode cX1_climbWaiting 20 = .ok (.iload_n 2, 1) := by decide +kernel
theorem dX1_climbWaiting_21 : decode cX1_climbWaiting 21 = .ok (.iaload, 1) := by decide +kernel
theorem dX1_climbWaiting_22 : decode cX1_climbWaiting 22 = .ok (.ifCond .ne 47, 3) := by decide +kernel
theorem dX1_climbWaiting_25 : decode cX1_climbWaiting 25 = .ok (.aload_n 0, 1) := by decide +kernel
theorem dX1_climbWaiting_26 : decode cX1_climbWaiting 26 = .ok (.iload_n 2, 1) := by decide +kernel
theorem dX1_climbWaiting_27 : decode cX1_climbWaiting 27 = .ok (.invokevirtual 288, 3) := by decide +kernel
theorem dX1_climbWaiting_30 : decode cX1_climbWaiting 30 = .ok (.ifCond .eq 39, 3) := by decide +kernel
theorem dX1_climbWaiting_33 : decode cX1_climbWaiting 33 = .ok (.aload_n 0, 1) := by decide +kernel
theorem dX1_climbWaiting_34 : decode cX1_climbWaiting 34 = .ok (.getfield 32, 3) := by decide +kernel
theorem dX1_climbWaiting_37 : decode cX1_climbWaiting 37 = .ok (.getfield 182, 3) := by decide +kernel
theorem dX1_climbWaiting_40 : decode cX1_climbWaiting 40 = .ok (.iload_n 2, 1) := by decide +kernel
theorem dX1_climbWaiting_41 : decode cX1_climbWaiting 41 = .ok (.iaload, 1) := by decide +kernel
theorem dX1_climbWaiting_42 : decode cX1_climbWaiting 42 = .ok (.aload_n 0, 1) := by decide +kernel
theorem dX1_climbWaiting_43 : decode cX1_climbWaiting 43 = .ok (.getfield 21, 3) := by decide +kernel
theorem dX1_climbWaiting_46 : decode cX1_climbWaiting 46 = .ok (.getfield 291, 3) := by decide +kernel
theorem dX1_climbWaiting_49 : decode cX1_climbWaiting 49 = .ok (.aload_n 0, 1) := by decide +kernel
theorem dX1_climbWaiting_50 : decode cX1_climbWaiting 50 = .ok (.getfield 32, 3) := by decide +kernel
theorem dX1_climbWaiting_53 : decode cX1_climbWaiting 53 = .ok (.getfield 243, 3) := by decide +kernel
theorem dX1_climbWaiting_56 : decode cX1_climbWaiting 56 = .ok (.iload_n 2, 1) := by decide +kernel
theorem dX1_climbWaiting_57 : decode cX1_climbWaiting 57 = .ok (.iaload, 1) := by decide +kernel
theorem dX1_climbWaiting_58 : decode cX1_climbWaiting 58 = .ok (.iaload, 1) := by decide +kernel
theorem dX1_climbWaiting_59 : decode cX1_climbWaiting 59 = .ok (.if_icmp .lt 10, 3) := by decide +kernel
theorem dX1_climbWaiting_62 : decode cX1_climbWaiting 62 = .ok (.aload_n 0, 1) := by decide +kernel
theorem dX1_climbWaiting_63 : decode cX1_climbWaiting 63 = .ok (.iload_n 2, 1) := by decide +kernel
theorem dX1_climbWaiting_64 : decode cX1_climbWaiting 64 = .ok (.iload_n 1, 1) := by decide +kernel
theorem dX1_climbWaiting_65 : decode cX1_climbWaiting 65 = .ok (.invokevirtual 146, 3) := by decide +kernel
theorem dX1_climbWaiting_68 : decode cX1_climbWaiting 68 = .ok (.pop, 1) := by decide +kernel
theorem dX1_climbWaiting_69 : decode cX1_climbWaiting 69 = .ok (.iinc 2 1, 3) := by decide +kernel
theorem dX1_climbWaiting_72 : decode cX1_climbWaiting 72 = .ok (.goto (-70), 3) := by decide +kernel
theorem dX1_climbWaiting_75 : decode cX1_climbWaiting 75 = .ok (.return_, 1) := by decide +kernel
theorem dX1_lateResponses_0 : decode cX1_lateResponses 0 = .ok (.aload_n 0, 1) := by decide +kernel
theorem dX1_lateResponses_1 : decode cX1_lateResponses 1 = .ok (.iload_n 1, 1) := by decide +kernel
theorem dX1_lateResponses_2 : decode cX1_lateResponses 2 = .ok (.aload_n 0, 1) := by decide +kernel
theorem dX1_lateResponses_3 : decode cX1_lateResponses 3 = .ok (.getfield 32, 3) := by decide +kernel
theorem dX1_lateResponses_6 : decode cX1_lateResponses 6 = .ok (.getfield 276, 3) := by decide +kernel
theorem dX1_lateResponses_9 : decode cX1_lateResponses 9 = .ok (.aload_n 0, 1) := by decide +kernel
theorem dX1_lateResponses_10 : decode cX1_lateResponses 10 = .ok (.getfield 21, 3) := by decide +kernel
theorem dX1_lateResponses_13 : decode cX1_lateResponses 13 = .ok (.getfield 279, 3) := by decide +kernel
theorem dX1_lateResponses_16 : decode cX1_lateResponses 16 = .ok (.invokevirtual 303, 3) := by decide +kernel
theorem dX1_lateResponses_19 : decode cX1_lateResponses 19 = .ok (.ireturn, 1) := by decide +kernel
theorem dX1_lateSolutions_0 : decode cX1_lateSolutions 0 = .ok (.aload_n 0, 1) := by decide +kernel
theorem dX1_lateSolutions_1 : decode cX1_lateSolutions 1 = .ok (.iload_n 1, 1) := by decide +kernel
theorem dX1_lateSolutions_2 : decode cX1_lateSolutions 2 = .ok (.aload_n 0, 1) := by decide +kernel
theorem dX1_lateSolutions_3 : decode cX1_lateSolutions 3 = .ok (.getfield 32, 3) := by decide +kernel
theorem dX1_lateSolutions_6 : decode cX1_lateSolutions 6 = .ok (.getfield 176, 3) := by decide +kernel
theorem dX1_lateSolutions_9 : decode cX1_lateSolutions 9 = .ok (.aload_n 0, 1) := by decide +kernel
theorem dX1_lateSolutions_10 : decode cX1_lateSolutions 10 = .ok (.getfield 21, 3) := by decide +kernel
theorem dX1_lateSolutions_13 : decode cX1_lateSolutions 13 = .ok (.getfield 240, 3) := by decide +kernel
theorem dX1_lateSolutions_16 : decode cX1_lateSolutions 16 = .ok (.invokevirtual 303, 3) := by decide +kernel
theorem dX1_lateSolutions_19 : decode cX1_lateSolutions 19 = .ok (.ireturn, 1) := by decide +kernel
theorem dX1_countLate_0 : decode cX1_countLate 0 = .ok (.iconst 0, 1) := by decide +kernel
theorem dX1_countLate_1 : decode cX1_countLate 1 = .ok (.istore 4, 2) := by decide +kernel
theorem dX1_countLate_3 : decode cX1_countLate 3 = .ok (.iconst 0, 1) := by decide +kernel
theorem dX1_countLate_4 : decode cX1_countLate 4 = .ok (.istore 5, 2) := by decide +kernel
theorem dX1_countLate_6 : decode cX1_countLate 6 = .ok (.iload 5, 2) := by decide +kernel
theorem dX1_countLate_8 : decode cX1_countLate 8 = .ok (.aload_n 0, 1) := by decide +kernel
theorem dX1_countLate_9 : decode cX1_countLate 9 = .ok (.getfield 32, 3) := by decide +kernel
theorem dX1_countLate_12 : decode cX1_countLate 12 = .ok (.getfield 61, 3) := by decide +kernel
theorem dX1_countLate_15 : decode cX1_countLate 15 = .ok (.if_icmp .ge 46, 3) := by decide +kernel
theorem dX1_countLate_18 : decode cX1_countLate 18 = .ok (.aload_n 0, 1) := by decide +kernel
theorem dX1_countLate_19 : decode cX1_countLate 19 = .ok (.getfield 32, 3) := by decide +kernel
theorem dX1_countLate_22 : decode cX1_countLate 22 = .ok (.getfield 243, 3) := by decide +kernel
theorem dX1_countLate_25 : decode cX1_countLate 25 = .ok (.iload 5, 2) := by decide +kernel
theorem dX1_countLate_27 : decode cX1_countLate 27 = .ok (.iaload, 1) := by decide +kernel
theorem dX1_countLate_28 : decode cX1_countLate 28 = .ok (.istore 6, 2) := by decide +kernel
theorem dX1_countLate_30 : decode cX1_countLate 30 = .ok (.iload_n 1, 1) := by decide +kernel
theorem dX1_countLate_31 : decode cX1_countLate 31 = .ok (.iconst (-1), 1) := by decide +kernel
theorem dX1_countLate_32 : decode cX1_countLate 32 = .ok (.if_icmp .eq 9, 3) := by decide +kernel
theorem dX1_countLate_35 : decode cX1_countLate 35 = .ok (.iload 6, 2) := by decide +kernel
theorem dX1_countLate_37 : decode cX1_countLate 37 = .ok (.iload_n 1, 1) := by decide +kernel
theorem dX1_countLate_38 : decode cX1_countLate 38 = .ok (.if_icmp .ne 17, 3) := by decide +kernel
theorem dX1_countLate_41 : decode cX1_countLate 41 = .ok (.aload_n 2, 1) := by decide +kernel
theorem dX1_countLate_42 : decode cX1_countLate 42 = .ok (.iload 5, 2) := by decide +kernel
theorem dX1_countLate_44 : decode cX1_countLate 44 = .ok (.iaload, 1) := by decide +kernel
theorem dX1_countLate_45 : decode cX1_countLate 45 = .ok (.aload_n 3, 1) := by decide +kernel
theorem dX1_countLate_46 : decode cX1_countLate 46 = .ok (.iload 6, 2) := by decide +kernel
theorem dX1_countLate_48 : decode cX1_countLate 48 = .ok (.iaload, 1) := by decide +kernel
theorem dX1_countLate_49 : decode cX1_countLate 49 = .ok (.if_icmp .le 6, 3) := by decide +kernel
theorem dX1_countLate_52 : decode cX1_countLate 52 = .ok (.iinc 4 1, 3) := by decide +kernel
theorem dX1_countLate_55 : decode cX1_countLate 55 = .ok (.iinc 5 1, 3) := by decide +kernel
theorem dX1_countLate_58 : decode cX1_countLate 58 = .ok (.goto (-52), 3) := by decide +kernel
theorem dX1_countLate_61 : decode cX1_countLate 61 = .ok (.iload 4, 2) := by decide +kernel
theorem dX1_countLate_63 : decode cX1_countLate 63 = .ok (.ireturn, 1) := by decide +kernel
theorem dX1_allBreaches_0 : decode cX1_allBreaches 0 = .ok (.aload_n 0, 1) := by decide +kernel
theorem dX1_allBreaches_1 : decode cX1_allBreaches 1 = .ok (.iconst (-1), 1) := by decide +kernel
theorem dX1_allBreaches_2 : decode cX1_allBreaches 2 = .ok (.invokevirtual 307, 3) := by decide +kernel
theorem dX1_allBreaches_5 : decode cX1_allBreaches 5 = .ok (.aload_n 0, 1) := by decide +kernel
theorem dX1_allBreaches_6 : decode cX1_allBreaches 6 = .ok (.iconst (-1), 1) := by decide +kernel
theorem dX1_allBreaches_7 : decode cX1_allBreaches 7 = .ok (.invokevirtual 310, 3) := by decide +kernel
theorem dX1_allBreaches_10 : decode cX1_allBreaches 10 = .ok (.iadd, 1) := by decide +kernel
theorem dX1_allBreaches_11 : decode cX1_allBreaches 11 = .ok (.ireturn, 1) := by decide +kernel
theorem dX2_init_0 : decode cX2_init 0 = .ok (.aload_n 0, 1) := by decide +kernel
theorem dX2_init_1 : decode cX2_init 1 = .ok (.invokespecial 3, 3) := by decide +kernel
theorem dX2_init_4 : decode cX2_init 4 = .ok (.aload_n 0, 1) := by decide +kernel
theorem dX2_init_5 : decode cX2_init 5 = .ok (.sipush 200, 3) := by decide +kernel
theorem dX2_init_8 : decode cX2_init 8 = .ok (.newarray .int, 2) := by decide +kernel
theorem dX2_init_10 : decode cX2_init 10 = .ok (.putfield 9, 3) := by decide +kernel
theorem dX2_init_13 : decode cX2_init 13 = .ok (.aload_n 0, 1) := by decide +kernel
theorem dX2_init_14 : decode cX2_init 14 = .ok (.sipush 200, 3) := by decide +kernel
theorem dX2_init_17 : decode cX2_init 17 = .ok (.newarray .int, 2) := by decide +kernel
theorem dX2_init_19 : decode cX2_init 19 = .ok (.putfield 15, 3) := by decide +kernel
theorem dX2_init_22 : decode cX2_init 22 = .ok (.aload_n 0, 1) := by decide +kernel
theorem dX2_init_23 : decode cX2_init 23 = .ok (.sipush 200, 3) := by decide +kernel
theorem dX2_init_26 : decode cX2_init 26 = .ok (.newarray .int, 2) := by decide +kernel
theorem dX2_init_28 : decode cX2_init 28 = .ok (.putfield 18, 3) := by decide +kernel
theorem dX2_init_31 : decode cX2_init 31 = .ok (.aload_n 0, 1) := by decide +kernel
theorem dX2_init_32 : decode cX2_init 32 = .ok (.sipush 200, 3) := by decide +kernel
theorem dX2_init_35 : decode cX2_init 35 = .ok (.newarray .int, 2) := by decide +kernel
theorem dX2_init_37 : decode cX2_init 37 = .ok (.putfield 21, 3) := by decide +kernel
theorem dX2_init_40 : decode cX2_init 40 = .ok (.aload_n 0, 1) := by decide +kernel
theorem dX2_init_41 : decode cX2_init 41 = .ok (.sipush 200, 3) := by decide +kernel
theorem dX2_init_44 : decode cX2_init 44 = .ok (.newarray .int, 2) := by decide +kernel
theorem dX2_init_46 : decode cX2_init 46 = .ok (.putfield 24, 3) := by decide +kernel
theorem dX2_init_49 : decode cX2_init 49 = .ok (.aload_n 0, 1) := by decide +kernel
theorem dX2_init_50 : decode cX2_init 50 = .ok (.sipush 200, 3) := by decide +kernel
theorem dX2_init_53 : decode cX2_init 53 = .ok (.newarray .int, 2) := by decide +kernel
theorem dX2_init_55 : decode cX2_init 55 = .ok (.putfield 27, 3) := by decide +kernel
theorem dX2_init_58 : decode cX2_init 58 = .ok (.return_, 1) := by decide +kernel
theorem dX2_record_0 : decode cX2_record 0 = .ok (.aload_n 0, 1) := by decide +kernel
theorem dX2_record_1 : decode cX2_record 1 = .ok (.getfield 30, 3) := by decide +kernel
theorem dX2_record_4 : decode cX2_record 4 = .ok (.sipush 200, 3) := by decide +kernel
theorem dX2_record_7 : decode cX2_record 7 = .ok (.if_icmp .lt 5, 3) := by decide +kernel
theorem dX2_record_10 : decode cX2_record 10 = .ok (.iconst 0, 1) := by decide +kernel
theorem dX2_record_11 : decode cX2_record 11 = .ok (.ireturn, 1) := by decide +kernel
theorem dX2_record_12 : decode cX2_record 12 = .ok (.aload_n 0, 1) := by decide +kernel
theorem dX2_record_13 : decode cX2_record 13 = .ok (.getfield 9, 3) := by decide +kernel
theorem dX2_record_16 : decode cX2_record 16 = .ok (.aload_n 0, 1) := by decide +kernel
theorem dX2_record_17 : decode cX2_record 17 = .ok (.getfield 30, 3) := by decide +kernel
theorem dX2_record_20 : decode cX2_record 20 = .ok (.iload_n 1, 1) := by decide +kernel
theorem dX2_record_21 : decode cX2_record 21 = .ok (.iastore, 1) := by decide +kernel
theorem dX2_record_22 : decode cX2_record 22 = .ok (.aload_n 0, 1) := by decide +kernel
theorem dX2_record_23 : decode cX2_record 23 = .ok (.getfield 15, 3) := by decide +kernel
theorem dX2_record_26 : decode cX2_record 26 = .ok (.aload_n 0, 1) := by decide +kernel
theorem dX2_record_27 : decode cX2_record 27 = .ok (.getfield 30, 3) := by decide +kernel
theorem dX2_record_30 : decode cX2_record 30 = .ok (.iload_n 2, 1) := by decide +kernel
theorem dX2_record_31 : decode cX2_record 31 = .ok (.iastore, 1) := by decide +kernel
theorem dX2_record_32 : decode cX2_record 32 = .ok (.aload_n 0, 1) := by decide +kernel
theorem dX2_record_33 : decode cX2_record 33 = .ok (.getfield 18, 3) := by decide +kernel
theorem dX2_record_36 : decode cX2_record 36 = .ok (.aload_n 0, 1) := by decide +kernel
theorem dX2_record_37 : decode cX2_record 37 = .ok (.getfield 30, 3) := by decide +kernel
theorem dX2_record_40 : decode cX2_record 40 = .ok (.iload_n 3, 1) := by decide +kernel
theorem dX2_record_41 : decode cX2_record 41 = .ok (.iastore, 1) := by decide +kernel
theorem dX2_record_42 : decode cX2_record 42 = .ok (.aload_n 0, 1) := by decide +kernel
theorem dX2_record_43 : decode cX2_record 43 = .ok (.getfield 21, 3) := by decide +kernel
theorem dX2_record_46 : decode cX2_record 46 = .ok (.aload_n 0, 1) := by decide +kernel
theorem dX2_record_47 : decode cX2_record 47 = .ok (.getfield 30, 3) := by decide +kernel
theorem dX2_record_50 : decode cX2_record 50 = .ok (.iload 4, 2) := by decide +kernel
theorem dX2_record_52 : decode cX2_record 52 = .ok (.iastore, 1) := by decide +kernel
theorem dX2_record_53 : decode cX2_record 53 = .ok (.aload_n 0, 1) := by decide +kernel
theorem dX2_record_54 : decode cX2_record 54 = .ok (.getfield 24, 3) := by decide +kernel
theorem dX2_record_57 : decode cX2_record 57 = .ok (.aload_n 0, 1) := by decide +kernel
theorem dX2_record_58 : decode cX2_record 58 = .ok (.getfield 30, 3) := by decide +kernel
theorem dX2_record_61 : decode cX2_record 61 = .ok (.iload 5, 2) := by decide +kernel
theorem dX2_record_63 : decode cX2_record 63 = .ok (.iastore, 1) := by decide +kernel
theorem dX2_record_64 : decode cX2_record 64 = .ok (.aload_n 0, 1) := by decide +kernel
theorem dX2_record_65 : decode cX2_record 65 = .ok (.getfield 27, 3) := by decide +kernel
theorem dX2_record_68 : decode cX2_record 68 = .ok (.aload_n 0, 1) := by decide +kernel
theorem dX2_record_69 : decode cX2_record 69 = .ok (.getfield 30, 3) := by decide +kernel
theorem dX2_record_72 : decode cX2_record 72 = .ok (.iload 6, 2) := by decide +kernel
theorem dX2_record_74 : decode cX2_record 74 = .ok (.iastore, 1) := by decide +kernel
theorem dX2_record_75 : decode cX2_record 75 = .ok (.aload_n 0, 1) := by decide +kernel
theorem dX2_record_76 : decode cX2_record 76 = .ok (.dup, 1) := by decide +kernel
theorem dX2_record_77 : decode cX2_record 77 = .ok (.getfield 30, 3) := by decide +kernel
theorem dX2_record_80 : decode cX2_record 80 = .ok (.iconst 1, 1) := by decide +kernel
theorem dX2_record_81 : decode cX2_record 81 = .ok (.iadd, 1) := by decide +kernel
theorem dX2_record_82 : decode cX2_record 82 = .ok (.putfield 30, 3) := by decide +kernel
theorem dX2_record_85 : decode cX2_record 85 = .ok (.iconst 1, 1) := by decide +kernel
theorem dX2_record_86 : decode cX2_record 86 = .ok (.ireturn, 1) := by decide +kernel
theorem dX2_copyFrom_0 : decode cX2_copyFrom 0 = .ok (.aload_n 0, 1) := by decide +kernel
theorem dX2_copyFrom_1 : decode cX2_copyFrom 1 = .ok (.aload_n 1, 1) := by decide +kernel
theorem dX2_copyFrom_2 : decode cX2_copyFrom 2 = .ok (.getfield 30, 3) := by decide +kernel
theorem dX2_copyFrom_5 : decode cX2_copyFrom 5 = .ok (.putfield 30, 3) := by decide +kernel
theorem dX2_copyFrom_8 : decode cX2_copyFrom 8 = .ok (.aload_n 1, 1) := by decide +kernel
theorem dX2_copyFrom_9 : decode cX2_copyFrom 9 = .ok (.getfield 9, 3) := by decide +kernel
theorem dX2_copyFrom_12 : decode cX2_copyFrom 12 = .ok (.iconst 0, 1) := by decide +kernel
theorem dX2_copyFrom_13 : decode cX2_copyFrom 13 = .ok (.aload_n 0, 1) := by decide +kernel
theorem dX2_copyFrom_14 : decode cX2_copyFrom 14 = .ok (.getfield 9, 3) := by decide +kernel
theorem dX2_copyFrom_17 : decode cX2_copyFrom 17 = .ok (.iconst 0, 1) := by decide +kernel
theorem dX2_copyFrom_18 : decode cX2_copyFrom 18 = .ok (.aload_n 0, 1) := by decide +kernel
theorem dX2_copyFrom_19 : decode cX2_copyFrom 19 = .ok (.getfield 30, 3) := by decide +kernel
theorem dX2_copyFrom_22 : decode cX2_copyFrom 22 = .ok (.invokestatic 34, 3) := by decide +kernel
theorem dX2_copyFrom_25 : decode cX2_copyFrom 25 = .ok (.aload_n 1, 1) := by decide +kernel
theorem dX2_copyFrom_26 : decode cX2_copyFrom 26 = .ok (.getfield 15, 3) := by decide +kernel
theorem dX2_copyFrom_29 : decode cX2_copyFrom 29 = .ok (.iconst 0, 1) := by decide +kernel
theorem dX2_copyFrom_30 : decode cX2_copyFrom 30 = .ok (.aload_n 0, 1) := by decide +kernel
theorem dX2_copyFrom_31 : decode cX2_copyFrom 31 = .ok (.getfield 15, 3) := by decide +kernel
theorem dX2_copyFrom_34 : decode cX2_copyFrom 34 = .ok (.iconst 0, 1) := by decide +kernel
theorem dX2_copyFrom_35 : decode cX2_copyFrom 35 = .ok (.aload_n 0, 1) := by decide +kernel
theorem dX2_copyFrom_36 : decode cX2_copyFrom 36 = .ok (.getfield 30, 3) := by decide +kernel
theorem dX2_copyFrom_39 : decode cX2_copyFrom 39 = .ok (.invokestatic 34, 3) := by decide +kernel
theorem dX2_copyFrom_42 : decode cX2_copyFrom 42 = .ok (.aload_n 1, 1) := by decide +kernel
theorem dX2_copyFrom_43 : decode cX2_copyFrom 43 = .ok (.getfield 18, 3) := by decide +kernel
theorem dX2_copyFrom_46 : decode cX2_copyFrom 46 = .ok (.iconst 0, 1) := by decide +kernel
theorem dX2_copyFrom_47 : decode cX2_copyFrom 47 = .ok (.aload_n 0, 1) := by decide +kernel
theorem dX2_copyFrom_48 : decode cX2_copyFrom 48 = .ok (.getfield 18, 3) := by decide +kernel
theorem dX2_copyFrom_51 : decode cX2_copyFrom 51 = .ok (.iconst 0, 1) := by decide +kernel
theorem dX2_copyFrom_52 : decode cX2_copyFrom 52 = .ok (.aload_n 0, 1) := by decide +kernel
theorem dX2_copyFrom_53 : decode cX2_copyFrom 53 = .ok (.getfield 30, 3) := by decide +kernel
theorem dX2_copyFrom_56 : decode cX2_copyFrom 56 = .ok (.invokestatic 34, 3) := by decide +kernel
theorem dX2_copyFrom_59 : decode cX2_copyFrom 59 = .ok (.aload_n 1, 1) := by decide +kernel
theorem dX2_copyFrom_60 : decode cX2_copyFrom 60 = .ok (.getfield 21, 3) := by decide +kernel
theorem dX2_copyFrom_63 : decode cX2_copyFrom 63 = .ok (.iconst 0, 1) := by decide +kernel
theorem dX2_copyFrom_64 : decode cX2_copyFrom 64 = .ok (.aload_n 0, 1) := by decide +kernel
theorem dX2_copyFrom_65 : decode cX2_copyFrom 65 = .ok (.getfield 21, 3) := by decide +kernel
theorem dX2_copyFrom_68 : decode cX2_copyFrom 68 = .ok (.iconst 0, 1) := by decide +kernel
theorem dX2_copyFrom_69 : decode cX2_copyFrom 69 = .ok (.aload_n 0, 1) := by decide +kernel
theorem dX2_copyFrom_70 : decode cX2_copyFrom 70 = .ok (.getfield 30, 3) := by decide +kernel
theorem dX2_copyFrom_73 : decode cX2_copyFrom 73 = .ok (.invokestatic 34, 3) := by decide +kernel
theorem dX2_copyFrom_76 : decode cX2_copyFrom 76 = .ok (.aload_n 1, 1) := by decide +kernel
theorem dX2_copyFrom_77 : decode cX2_copyFrom 77 = .ok (.getfield 24, 3) := by decide +kernel
theorem dX2_copyFrom_80 : decode cX2_copyFrom 80 = .ok (.iconst 0, 1) := by decide +kernel
theorem dX2_copyFrom_81 : decode cX2_copyFrom 81 = .ok (.aload_n 0, 1) := by decide +kernel
theorem dX2_copyFrom_82 : decode cX2_copyFrom 82 = .ok (.getfield 24, 3) := by decide +kernel
theorem dX2_copyFrom_85 : decode cX2_copyFrom 85 = .ok (.iconst 0, 1) := by decide +kernel
theorem dX2_copyFrom_86 : decode cX2_copyFrom 86 = .ok (.aload_n 0, 1) := by decide +kernel
theorem dX2_copyFrom_87 : decode cX2_copyFrom 87 = .ok (.getfield 30, 3) := by decide +kernel
theorem dX2_copyFrom_90 : decode cX2_copyFrom 90 = .ok (.invokestatic 34, 3) := by decide +kernel
theorem dX2_copyFrom_93 : decode cX2_copyFrom 93 = .ok (.aload_n 1, 1) := by decide +kernel
theorem dX2_copyFrom_94 : decode cX2_copyFrom 94 = .ok (.getfield 27, 3) := by decide +kernel
theorem dX2_copyFrom_97 : decode cX2_copyFrom 97 = .ok (.iconst 0, 1) := by decide +kernel
theorem dX2_copyFrom_98 : decode cX2_copyFrom 98 = .ok (.aload_n 0, 1) := by decide +kernel
theorem dX2_copyFrom_99 : decode cX2_copyFrom 99 = .ok (.getfield 27, 3) := by decide +kernel
theorem dX2_copyFrom_102 : decode cX2_copyFrom 102 = .ok (.iconst 0, 1) := by decide +kernel
theorem dX2_copyFrom_103 : decode cX2_copyFrom 103 = .ok (.aload_n 0, 1) := by decide +kernel
theorem dX2_copyFrom_104 : decode cX2_copyFrom 104 = .ok (.getfield 30, 3) := by decide +kernel
theorem dX2_copyFrom_107 : decode cX2_copyFrom 107 = .ok (.invokestatic 34, 3) := by decide +kernel
theorem dX2_copyFrom_110 : decode cX2_copyFrom 110 = .ok (.return_, 1) := by decide +kernel
theorem dX3_init_0 : decode cX3_init 0 = .ok (.aload_n 0, 1) := by decide +kernel
theorem dX3_init_1 : decode cX3_init 1 = .ok (.invokespecial 3, 3) := by decide +kernel
theorem dX3_init_4 : decode cX3_init 4 = .ok (.aload_n 0, 1) := by decide +kernel
theorem dX3_init_5 : decode cX3_init 5 = .ok (.bipush 6, 2) := by decide +kernel
theorem dX3_init_7 : decode cX3_init 7 = .ok (.newarray .int, 2) := by decide +kernel
theorem dX3_init_9 : decode cX3_init 9 = .ok (.putfield 9, 3) := by decide +kernel
theorem dX3_init_12 : decode cX3_init 12 = .ok (.aload_n 0, 1) := by decide +kernel
theorem dX3_init_13 : decode cX3_init 13 = .ok (.bipush 6, 2) := by decide +kernel
theorem dX3_init_15 : decode cX3_init 15 = .ok (.newarray .int, 2) := by decide +kernel
theorem dX3_init_17 : decode cX3_init 17 = .ok (.putfield 15, 3) := by decide +kernel
theorem dX3_init_20 : decode cX3_init 20 = .ok (.aload_n 0, 1) := by decide +kernel
theorem dX3_init_21 : decode cX3_init 21 = .ok (.bipush 6, 2) := by decide +kernel
theorem dX3_init_23 : decode cX3_init 23 = .ok (.newarray .int, 2) := by decide +kernel
theorem dX3_init_25 : decode cX3_init 25 = .ok (.putfield 18, 3) := by decide +kernel
theorem dX3_init_28 : decode cX3_init 28 = .ok (.aload_n 0, 1) := by decide +kernel
theorem dX3_init_29 : decode cX3_init 29 = .ok (.bipush 6, 2) := by decide +kernel
theorem dX3_init_31 : decode cX3_init 31 = .ok (.newarray .int, 2) := by decide +kernel
theorem dX3_init_33 : decode cX3_init 33 = .ok (.putfield 21, 3) := by decide +kernel
theorem dX3_init_36 : decode cX3_init 36 = .ok (.aload_n 0, 1) := by decide +kernel
theorem dX3_init_37 : decode cX3_init 37 = .ok (.bipush 6, 2) := by decide +kernel
theorem dX3_init_39 : decode cX3_init 39 = .ok (.newarray .int, 2) := by decide +kernel
theorem dX3_init_41 : decode cX3_init 41 = .ok (.putfield 24, 3) := by decide +kernel
theorem dX3_init_44 : decode cX3_init 44 = .ok (.aload_n 0, 1) := by decide +kernel
theorem dX3_init_45 : decode cX3_init 45 = .ok (.bipush 6, 2) := by decide +kernel
theorem dX3_init_47 : decode cX3_init 47 = .ok (.newarray .boolean, 2) := by decide +kernel
theorem dX3_init_49 : decode cX3_init 49 = .ok (.putfield 27, 3) := by decide +kernel
theorem dX3_init_52 : decode cX3_init 52 = .ok (.return_, 1) := by decide +kernel
theorem dX3_add_0 : decode cX3_add 0 = .ok (.aload_n 0, 1) := by decide +kernel
theorem dX3_add_1 : decode cX3_add 1 = .ok (.getfield 31, 3) := by decide +kernel
theorem dX3_add_4 : decode cX3_add 4 = .ok (.bipush 6, 2) := by decide +kernel
theorem dX3_add_6 : decode cX3_add 6 = .ok (.if_icmp .lt 6, 3) := by decide +kernel
theorem dX3_add_9 : decode cX3_add 9 = .ok (.bipush (-6), 2) := by decide +kernel
theorem dX3_add_11 : decode cX3_add 11 = .ok (.ireturn, 1) := by decide +kernel
theorem dX3_add_12 : decode cX3_add 12 = .ok (.aload_n 0, 1) := by decide +kernel
theorem dX3_add_13 : decode cX3_add 13 = .ok (.getfield 31, 3) := by decide +kernel
theorem dX3_add_16 : decode cX3_add 16 = .ok (.istore 7, 2) := by decide +kernel
theorem dX3_add_18 : decode cX3_add 18 = .ok (.aload_n 0, 1) := by decide +kernel
theorem dX3_add_19 : decode cX3_add 19 = .ok (.getfield 9, 3) := by decide +kernel
theorem dX3_add_22 : decode cX3_add 22 = .ok (.iload 7, 2) := by decide +kernel
theorem dX3_add_24 : decode cX3_add 24 = .ok (.iload_n 1, 1) := by decide +kernel
theorem dX3_add_25 : decode cX3_add 25 = .ok (.iastore, 1) := by decide +kernel
theorem dX3_add_26 : decode cX3_add 26 = .ok (.aload_n 0, 1) := by decide +kernel
theorem dX3_add_27 : decode cX3_add 27 = .ok (.getfield 15, 3) := by decide +kernel
theorem dX3_add_30 : decode cX3_add 30 = .ok (.iload 7, 2) := by decide +kernel
theorem dX3_add_32 : decode cX3_add 32 = .ok (.iload_n 2, 1) := by decide +kernel
theorem dX3_add_33 : decode cX3_add 33 = .ok (.iastore, 1) := by decide +kernel
theorem dX3_add_34 : decode cX3_add 34 = .ok (.aload_n 0, 1) := by decide +kernel
theorem dX3_add_35 : decode cX3_add 35 = .ok (.getfield 18, 3) := by decide +kernel
theorem dX3_add_38 : decode cX3_add 38 = .ok (.iload 7, 2) := by decide +kernel
theorem dX3_add_40 : decode cX3_add 40 = .ok (.iload_n 3, 1) := by decide +kernel
theorem dX3_add_41 : decode cX3_add 41 = .ok (.iastore, 1) := by decide +kernel
theorem dX3_add_42 : decode cX3_add 42 = .ok (.aload_n 0, 1) := by decide +kernel
theorem dX3_add_43 : decode cX3_add 43 = .ok (.getfield 21, 3) := by decide +kernel
theorem dX3_add_46 : decode cX3_add 46 = .ok (.iload 7, 2) := by decide +kernel
theorem dX3_add_48 : decode cX3_add 48 = .ok (.iload 4, 2) := by decide +kernel
theorem dX3_add_50 : decode cX3_add 50 = .ok (.iastore, 1) := by decide +kernel
theorem dX3_add_51 : decode cX3_add 51 = .ok (.aload_n 0, 1) := by decide +kernel
theorem dX3_add_52 : decode cX3_add 52 = .ok (.getfield 24, 3) := by decide +kernel
theorem dX3_add_55 : decode cX3_add 55 = .ok (.iload 7, 2) := by decide +kernel
theorem dX3_add_57 : decode cX3_add 57 = .ok (.iload 5, 2) := by decide +kernel
theorem dX3_add_59 : decode cX3_add 59 = .ok (.iastore, 1) := by decide +kernel
theorem dX3_add_60 : decode cX3_add 60 = .ok (.aload_n 0, 1) := by decide +kernel
theorem dX3_add_61 : decode cX3_add 61 = .ok (.getfield 27, 3) := by decide +kernel
theorem dX3_add_64 : decode cX3_add 64 = .ok (.iload 7, 2) := by decide +kernel
theorem dX3_add_66 : decode cX3_add 66 = .ok (.iload 6, 2) := by decide +kernel
theorem dX3_add_68 : decode cX3_add 68 = .ok (.bastore, 1) := by decide +kernel
theorem dX3_add_69 : decode cX3_add 69 = .ok (.aload_n 0, 1) := by decide +kernel
theorem dX3_add_70 : decode cX3_add 70 = .ok (.dup, 1) := by decide +kernel
theorem dX3_add_71 : decode cX3_add 71 = .ok (.getfield 31, 3) := by decide +kernel
theorem dX3_add_74 : decode cX3_add 74 = .ok (.iconst 1, 1) := by decide +kernel
theorem dX3_add_75 : decode cX3_add 75 = .ok (.iadd, 1) := by decide +kernel
theorem dX3_add_76 : decode cX3_add 76 = .ok (.putfield 31, 3) := by decide +kernel
theorem dX3_add_79 : decode cX3_add 79 = .ok (.iload 7, 2) := by decide +kernel
theorem dX3_add_81 : decode cX3_add 81 = .ok (.ireturn, 1) := by decide +kernel
theorem dX3_copyFrom_0 : decode cX3_copyFrom 0 = .ok (.aload_n 0, 1) := by decide +kernel
theorem dX3_copyFrom_1 : decode cX3_copyFrom 1 = .ok (.aload_n 1, 1) := by decide +kernel
theorem dX3_copyFrom_2 : decode cX3_copyFrom 2 = .ok (.getfield 31, 3) := by decide +kernel
theorem dX3_copyFrom_5 : decode cX3_copyFrom 5 = .ok (.putfield 31, 3) := by decide +kernel
theorem dX3_copyFrom_8 : decode cX3_copyFrom 8 = .ok (.iconst 0, 1) := by decide +kernel
theorem dX3_copyFrom_9 : decode cX3_copyFrom 9 = .ok (.istore_n 2, 1) := by decide +kernel
theorem dX3_copyFrom_10 : decode cX3_copyFrom 10 = .ok (.iload_n 2, 1) := by decide +kernel
theorem dX3_copyFrom_11 : decode cX3_copyFrom 11 = .ok (.bipush 6, 2) := by decide +kernel
theorem dX3_copyFrom_13 : decode cX3_copyFrom 13 = .ok (.if_icmp .ge 81, 3) := by decide +kernel
theorem dX3_copyFrom_16 : decode cX3_copyFrom 16 = .ok (.aload_n 0, 1) := by decide +kernel
theorem dX3_copyFrom_17 : decode cX3_copyFrom 17 = .ok (.getfield 9, 3) := by decide +kernel
theorem dX3_copyFrom_20 : decode cX3_copyFrom 20 = .ok (.iload_n 2, 1) := by decide +kernel
theorem dX3_copyFrom_21 : decode cX3_copyFrom 21 = .ok (.aload_n 1, 1) := by decide +kernel
theorem dX3_copyFrom_22 : decode cX3_copyFrom 22 = .ok (.getfield 9, 3) := by decide +kernel
theorem dX3_copyFrom_25 : decode cX3_copyFrom 25 = .ok (.iload_n 2, 1) := by decide +kernel
theorem dX3_copyFrom_26 : decode cX3_copyFrom 26 = .ok (.iaload, 1) := by decide +kernel
theorem dX3_copyFrom_27 : decode cX3_copyFrom 27 = .ok (.iastore, 1) := by decide +kernel
theorem dX3_copyFrom_28 : decode cX3_copyFrom 28 = .ok (.aload_n 0, 1) := by decide +kernel
theorem dX3_copyFrom_29 : decode cX3_copyFrom 29 = .ok (.getfield 15, 3) := by decide +kernel
theorem dX3_copyFrom_32 : decode cX3_copyFrom 32 = .ok (.iload_n 2, 1) := by decide +kernel
theorem dX3_copyFrom_33 : decode cX3_copyFrom 33 = .ok (.aload_n 1, 1) := by decide +kernel
theorem dX3_copyFrom_34 : decode cX3_copyFrom 34 = .ok (.getfield 15, 3) := by decide +kernel
theorem dX3_copyFrom_37 : decode cX3_copyFrom 37 = .ok (.iload_n 2, 1) := by decide +kernel
theorem dX3_copyFrom_38 : decode cX3_copyFrom 38 = .ok (.iaload, 1) := by decide +kernel
theorem dX3_copyFrom_39 : decode cX3_copyFrom 39 = .ok (.iastore, 1) := by decide +kernel
theorem dX3_copyFrom_40 : decode cX3_copyFrom 40 = .ok (.aload_n 0, 1) := by decide +kernel
theorem dX3_copyFrom_41 : decode cX3_copyFrom 41 = .ok (.getfield 18, 3) := by decide +kernel
theorem dX3_copyFrom_44 : decode cX3_copyFrom 44 = .ok (.iload_n 2, 1) := by decide +kernel
theorem dX3_copyFrom_45 : decode cX3_copyFrom 45 = .ok (.aload_n 1, 1) := by decide +kernel
theorem dX3_copyFrom_46 : decode cX3_copyFrom 46 = .ok (.getfield 18, 3) := by decide +kernel
theorem dX3_copyFrom_49 : decode cX3_copyFrom 49 = .ok (.iload_n 2, 1) := by decide +kernel
theorem dX3_copyFrom_50 : decode cX3_copyFrom 50 = .ok (.iaload, 1) := by decide +kernel
theorem dX3_copyFrom_51 : decode cX3_copyFrom 51 = .ok (.iastore, 1) := by decide +kernel
theorem dX3_copyFrom_52 : decode cX3_copyFrom 52 = .ok (.aload_n 0, 1) := by decide +kernel
theorem dX3_copyFrom_53 : decode cX3_copyFrom 53 = .ok (.getfield 21, 3) := by decide +kernel
theorem dX3_copyFrom_56 : decode cX3_copyFrom 56 = .ok (.iload_n 2, 1) := by decide +kernel
theorem dX3_copyFrom_57 : decode cX3_copyFrom 57 = .ok (.aload_n 1, 1) := by decide +kernel
theorem dX3_copyFrom_58 : decode cX3_copyFrom 58 = .ok (.getfield 21, 3) := by decide +kernel
theorem dX3_copyFrom_61 : decode cX3_copyFrom 61 = .ok (.iload_n 2, 1) := by decide +kernel
theorem dX3_copyFrom_62 : decode cX3_copyFrom 62 = .ok (.iaload, 1) := by decide +kernel
theorem dX3_copyFrom_63 : decode cX3_copyFrom 63 = .ok (.iastore, 1) := by decide +kernel
theorem dX3_copyFrom_64 : decode cX3_copyFrom 64 = .ok (.aload_n 0, 1) := by decide +kernel
theorem dX3_copyFrom_65 : decode cX3_copyFrom 65 = .ok (.getfield 24, 3) := by decide +kernel
theorem dX3_copyFrom_68 : decode cX3_copyFrom 68 = .ok (.iload_n 2, 1) := by decide +kernel
theorem dX3_copyFrom_69 : decode cX3_copyFrom 69 = .ok (.aload_n 1, 1) := by decide +kernel
theorem dX3_copyFrom_70 : decode cX3_copyFrom 70 = .ok (.getfield 24, 3) := by decide +kernel
theorem dX3_copyFrom_73 : decode cX3_copyFrom 73 = .ok (.iload_n 2, 1) := by decide +kernel
theorem dX3_copyFrom_74 : decode cX3_copyFrom 74 = .ok (.iaload, 1) := by decide +kernel
theorem dX3_copyFrom_75 : decode cX3_copyFrom 75 = .ok (.iastore, 1) := by decide +kernel
theorem dX3_copyFrom_76 : decode cX3_copyFrom 76 = .ok (.aload_n 0, 1) := by decide +kernel
theorem dX3_copyFrom_77 : decode cX3_copyFrom 77 = .ok (.getfield 27, 3) := by decide +kernel
theorem dX3_copyFrom_80 : decode cX3_copyFrom 80 = .ok (.iload_n 2, 1) := by decide +kernel
theorem dX3_copyFrom_81 : decode cX3_copyFrom 81 = .ok (.aload_n 1, 1) := by decide +kernel
theorem dX3_copyFrom_82 : decode cX3_copyFrom 82 = .ok (.getfield 27, 3) := by decide +kernel
theorem dX3_copyFrom_85 : decode cX3_copyFrom 85 = .ok (.iload_n 2, 1) := by decide +kernel
theorem dX3_copyFrom_86 : decode cX3_copyFrom 86 = .ok (.baload, 1) := by decide +kernel
theorem dX3_copyFrom_87 : decode cX3_copyFrom 87 = .ok (.bastore, 1) := by decide +kernel
theorem dX3_copyFrom_88 : decode cX3_copyFrom 88 = .ok (.iinc 2 1, 3) := by decide +kernel
theorem dX3_copyFrom_91 : decode cX3_copyFrom 91 = .ok (.goto (-81), 3) := by decide +kernel
theorem dX3_copyFrom_94 : decode cX3_copyFrom 94 = .ok (.return_, 1) := by decide +kernel
theorem dX4_init_0 : decode cX4_init 0 = .ok (.aload_n 0, 1) := by decide +kernel
theorem dX4_init_1 : decode cX4_init 1 = .ok (.invokespecial 1, 3) := by decide +kernel
theorem dX4_init_4 : decode cX4_init 4 = .ok (.iconst 0, 1) := by decide +kernel
theorem dX4_init_5 : decode cX4_init 5 = .ok (.iload_n 1, 1) := by decide +kernel
theorem dX4_init_6 : decode cX4_init 6 = .ok (.invokestatic 7, 3) := by decide +kernel
theorem dX4_init_9 : decode cX4_init 9 = .ok (.istore_n 2, 1) := by decide +kernel
theorem dX4_init_10 : decode cX4_init 10 = .ok (.aload_n 0, 1) := by decide +kernel
theorem dX4_init_11 : decode cX4_init 11 = .ok (.iload_n 2, 1) := by decide +kernel
theorem dX4_init_12 : decode cX4_init 12 = .ok (.newarray .int, 2) := by decide +kernel
theorem dX4_init_14 : decode cX4_init 14 = .ok (.putfield 13, 3) := by decide +kernel
theorem dX4_init_17 : decode cX4_init 17 = .ok (.aload_n 0, 1) := by decide +kernel
theorem dX4_init_18 : decode cX4_init 18 = .ok (.iload_n 2, 1) := by decide +kernel
theorem dX4_init_19 : decode cX4_init 19 = .ok (.newarray .int, 2) := by decide +kernel
theorem dX4_init_21 : decode cX4_init 21 = .ok (.putfield 19, 3) := by decide +kernel
theorem dX4_init_24 : decode cX4_init 24 = .ok (.aload_n 0, 1) := by decide +kernel
theorem dX4_init_25 : decode cX4_init 25 = .ok (.iload_n 2, 1) := by decide +kernel
theorem dX4_init_26 : decode cX4_init 26 = .ok (.newarray .int, 2) := by decide +kernel
theorem dX4_init_28 : decode cX4_init 28 = .ok (.putfield 22, 3) := by decide +kernel
theorem dX4_init_31 : decode cX4_init 31 = .ok (.aload_n 0, 1) := by decide +kernel
theorem dX4_init_32 : decode cX4_init 32 = .ok (.iload_n 2, 1) := by decide +kernel
theorem dX4_init_33 : decode cX4_init 33 = .ok (.newarray .int, 2) := by decide +kernel
theorem dX4_init_35 : decode cX4_init 35 = .ok (.putfield 25, 3) := by decide +kernel
theorem dX4_init_38 : decode cX4_init 38 = .ok (.return_, 1) := by decide +kernel
theorem dX4_write_0 : decode cX4_write 0 = .ok (.aload_n 0, 1) := by decide +kernel
theorem dX4_write_1 : decode cX4_write 1 = .ok (.getfield 28, 3) := by decide +kernel
theorem dX4_write_4 : decode cX4_write 4 = .ok (.aload_n 0, 1) := by decide +kernel
theorem dX4_write_5 : decode cX4_write 5 = .ok (.getfield 13, 3) := by decide +kernel
theorem dX4_write_8 : decode cX4_write 8 = .ok (.arraylength, 1) := by decide +kernel
theorem dX4_write_9 : decode cX4_write 9 = .ok (.if_icmp .lt 4, 3) := by decide +kernel
theorem dX4_write_12 : decode cX4_write 12 = .ok (.return_, 1) := by decide +kernel
theorem dX4_write_13 : decode cX4_write 13 = .ok (.aload_n 0, 1) := by decide +kernel
theorem dX4_write_14 : decode cX4_write 14 = .ok (.getfield 13, 3) := by decide +kernel
theorem dX4_write_17 : decode cX4_write 17 = .ok (.aload_n 0, 1) := by decide +kernel
theorem dX4_write_18 : decode cX4_write 18 = .ok (.getfield 28, 3) := by decide +kernel
theorem dX4_write_21 : decode cX4_write 21 = .ok (.iload_n 1, 1) := by decide +kernel
theorem dX4_write_22 : decode cX4_write 22 = .ok (.iastore, 1) := by decide +kernel
theorem dX4_write_23 : decode cX4_write 23 = .ok (.aload_n 0, 1) := by decide +kernel
theorem dX4_write_24 : decode cX4_write 24 = .ok (.getfield 19, 3) := by decide +kernel
theorem dX4_write_27 : decode cX4_write 27 = .ok (.aload_n 0, 1) := by decide +kernel
theorem dX4_write_28 : decode cX4_write 28 = .ok (.getfield 28, 3) := by decide +kernel
theorem dX4_write_31 : decode cX4_write 31 = .ok (.iload_n 2, 1) := by decide +kernel
theorem dX4_write_32 : decode cX4_write 32 = .ok (.iastore, 1) := by decide +kernel
theorem dX4_write_33 : decode cX4_write 33 = .ok (.aload_n 0, 1) := by decide +kernel
theorem dX4_write_34 : decode cX4_write 34 = .ok (.getfield 22, 3) := by decide +kernel
theorem dX4_write_37 : decode cX4_write 37 = .ok (.aload_n 0, 1) := by decide +kernel
theorem dX4_write_38 : decode cX4_write 38 = .ok (.getfield 28, 3) := by decide +kernel
theorem dX4_write_41 : decode cX4_write 41 = .ok (.iload_n 3, 1) := by decide +kernel
theorem dX4_write_42 : decode cX4_write 42 = .ok (.iastore, 1) := by decide +kernel
theorem dX4_write_43 : decode cX4_write 43 = .ok (.aload_n 0, 1) := by decide +kernel
theorem dX4_write_44 : decode cX4_write 44 = .ok (.getfield 25, 3) := by decide +kernel
theorem dX4_write_47 : decode cX4_write 47 = .ok (.aload_n 0, 1) := by decide +kernel
theorem dX4_write_48 : decode cX4_write 48 = .ok (.getfield 28, 3) := by decide +kernel
theorem dX4_write_51 : decode cX4_write 51 = .ok (.iload 4, 2) := by decide +kernel
theorem dX4_write_53 : decode cX4_write 53 = .ok (.iastore, 1) := by decide +kernel
theorem dX4_write_54 : decode cX4_write 54 = .ok (.aload_n 0, 1) := by decide +kernel
theorem dX4_write_55 : decode cX4_write 55 = .ok (.dup, 1) := by decide +kernel
theorem dX4_write_56 : decode cX4_write 56 = .ok (.getfield 28, 3) := by decide +kernel
theorem dX4_write_59 : decode cX4_write 59 = .ok (.iconst 1, 1) := by decide +kernel
theorem dX4_write_60 : decode cX4_write 60 = .ok (.iadd, 1) := by decide +kernel
theorem dX4_write_61 : decode cX4_write 61 = .ok (.putfield 28, 3) := by decide +kernel
theorem dX4_write_64 : decode cX4_write 64 = .ok (.return_, 1) := by decide +kernel
theorem dX4_copyFrom_0 : decode cX4_copyFrom 0 = .ok (.aload_n 0, 1) := by decide +kernel
theorem dX4_copyFrom_1 : decode cX4_copyFrom 1 = .ok (.aload_n 1, 1) := by decide +kernel
theorem dX4_copyFrom_2 : decode cX4_copyFrom 2 = .ok (.getfield 28, 3) := by decide +kernel
theorem dX4_copyFrom_5 : decode cX4_copyFrom 5 = .ok (.aload_n 0, 1) := by decide +kernel
theorem dX4_copyFrom_6 : decode cX4_copyFrom 6 = .ok (.getfield 13, 3) := by decide +kernel
theorem dX4_copyFrom_9 : decode cX4_copyFrom 9 = .ok (.arraylength, 1) := by decide +kernel
theorem dX4_copyFrom_10 : decode cX4_copyFrom 10 = .ok (.invokestatic 32, 3) := by decide +kernel
theorem dX4_copyFrom_13 : decode cX4_copyFrom 13 = .ok (.putfield 28, 3) := by decide +kernel
theorem dX4_copyFrom_16 : decode cX4_copyFrom 16 = .ok (.aload_n 1, 1) := by decide +kernel
theorem dX4_copyFrom_17 : decode cX4_copyFrom 17 = .ok (.getfield 13, 3) := by decide +kernel
theorem dX4_copyFrom_20 : decode cX4_copyFrom 20 = .ok (.iconst 0, 1) := by decide +kernel
theorem dX4_copyFrom_21 : decode cX4_copyFrom 21 = .ok (.aload_n 0, 1) := by decide +kernel
theorem dX4_copyFrom_22 : decode cX4_copyFrom 22 = .ok (.getfield 13, 3) := by decide +kernel
theorem dX4_copyFrom_25 : decode cX4_copyFrom 25 = .ok (.iconst 0, 1) := by decide +kernel
theorem dX4_copyFrom_26 : decode cX4_copyFrom 26 = .ok (.aload_n 0, 1) := by decide +kernel
theorem dX4_copyFrom_27 : decode cX4_copyFrom 27 = .ok (.getfield 28, 3) := by decide +kernel
theorem dX4_copyFrom_30 : decode cX4_copyFrom 30 = .ok (.invokestatic 35, 3) := by decide +kernel
theorem dX4_copyFrom_33 : decode cX4_copyFrom 33 = .ok (.aload_n 1, 1) := by decide +kernel
theorem dX4_copyFrom_34 : decode cX4_copyFrom 34 = .ok (.getfield 19, 3) := by decide +kernel
theorem dX4_copyFrom_37 : decode cX4_copyFrom 37 = .ok (.iconst 0, 1) := by decide +kernel
theorem dX4_copyFrom_38 : decode cX4_copyFrom 38 = .ok (.aload_n 0, 1) := by decide +kernel
theorem dX4_copyFrom_39 : decode cX4_copyFrom 39 = .ok (.getfield 19, 3) := by decide +kernel
theorem dX4_copyFrom_42 : decode cX4_copyFrom 42 = .ok (.iconst 0, 1) := by decide +kernel
theorem dX4_copyFrom_43 : decode cX4_copyFrom 43 = .ok (.aload_n 0, 1) := by decide +kernel
theorem dX4_copyFrom_44 : decode cX4_copyFrom 44 = .ok (.getfield 28, 3) := by decide +kernel
theorem dX4_copyFrom_47 : decode cX4_copyFrom 47 = .ok (.invokestatic 35, 3) := by decide +kernel
theorem dX4_copyFrom_50 : decode cX4_copyFrom 50 = .ok (.aload_n 1, 1) := by decide +kernel
theorem dX4_copyFrom_51 : decode cX4_copyFrom 51 = .ok (.getfield 22, 3) := by decide +kernel
theorem dX4_copyFrom_54 : decode cX4_copyFrom 54 = .ok (.iconst 0, 1) := by decide +kernel
theorem dX4_copyFrom_55 : decode cX4_copyFrom 55 = .ok (.aload_n 0, 1) := by decide +kernel
theorem dX4_copyFrom_56 : decode cX4_copyFrom 56 = .ok (.getfield 22, 3) := by decide +kernel
theorem dX4_copyFrom_59 : decode cX4_copyFrom 59 = .ok (.iconst 0, 1) := by decide +kernel
theorem dX4_copyFrom_60 : decode cX4_copyFrom 60 = .ok (.aload_n 0, 1) := by decide +kernel
theorem dX4_copyFrom_61 : decode cX4_copyFrom 61 = .ok (.getfield 28, 3) := by decide +kernel
theorem dX4_copyFrom_64 : decode cX4_copyFrom 64 = .ok (.invokestatic 35, 3) := by decide +kernel
theorem dX4_copyFrom_67 : decode cX4_copyFrom 67 = .ok (.aload_n 1, 1) := by decide +kernel
theorem dX4_copyFrom_68 : decode cX4_copyFrom 68 = .ok (.getfield 25, 3) := by decide +kernel
theorem dX4_copyFrom_71 : decode cX4_copyFrom 71 = .ok (.iconst 0, 1) := by decide +kernel
theorem dX4_copyFrom_72 : decode cX4_copyFrom 72 = .ok (.aload_n 0, 1) := by decide +kernel
theorem dX4_copyFrom_73 : decode cX4_copyFrom 73 = .ok (.getfield 25, 3) := by decide +kernel
theorem dX4_copyFrom_76 : decode cX4_copyFrom 76 = .ok (.iconst 0, 1) := by decide +kernel
theorem dX4_copyFrom_77 : decode cX4_copyFrom 77 = .ok (.aload_n 0, 1) := by decide +kernel
theorem dX4_copyFrom_78 : decode cX4_copyFrom 78 = .ok (.getfield 28, 3) := by decide +kernel
theorem dX4_copyFrom_81 : decode cX4_copyFrom 81 = .ok (.invokestatic 35, 3) := by decide +kernel
theorem dX4_copyFrom_84 : decode cX4_copyFrom 84 = .ok (.return_, 1) := by decide +kernel
theorem dX5_init_0 : decode cX5_init 0 = .ok (.aload_n 0, 1) := by decide +kernel
theorem dX5_init_1 : decode cX5_init 1 = .ok (.invokespecial 3, 3) := by decide +kernel
theorem dX5_init_4 : decode cX5_init 4 = .ok (.aload_n 0, 1) := by decide +kernel
theorem dX5_init_5 : decode cX5_init 5 = .ok (.sipush 400, 3) := by decide +kernel
theorem dX5_init_8 : decode cX5_init 8 = .ok (.newarray .byte, 2) := by decide +kernel
theorem dX5_init_10 : decode cX5_init 10 = .ok (.putfield 9, 3) := by decide +kernel
theorem dX5_init_13 : decode cX5_init 13 = .ok (.aload_n 0, 1) := by decide +kernel
theorem dX5_init_14 : decode cX5_init 14 = .ok (.bipush 40, 2) := by decide +kernel
theorem dX5_init_16 : decode cX5_init 16 = .ok (.newarray .int, 2) := by decide +kernel
theorem dX5_init_18 : decode cX5_init 18 = .ok (.putfield 15, 3) := by decide +kernel
theorem dX5_init_21 : decode cX5_init 21 = .ok (.aload_n 0, 1) := by decide +kernel
theorem dX5_init_22 : decode cX5_init 22 = .ok (.bipush 40, 2) := by decide +kernel
theorem dX5_init_24 : decode cX5_init 24 = .ok (.iconst 5, 1) := by decide +kernel
theorem dX5_init_25 : decode cX5_init 25 = .ok (.multianewarray 19 2, 4) := by decide +kernel
theorem dX5_init_29 : decode cX5_init 29 = .ok (.putfield 21, 3) := by decide +kernel
theorem dX5_init_32 : decode cX5_init 32 = .ok (.aload_n 0, 1) := by decide +kernel
theorem dX5_init_33 : decode cX5_init 33 = .ok (.bipush 40, 2) := by decide +kernel
theorem dX5_init_35 : decode cX5_init 35 = .ok (.newarray .boolean, 2) := by decide +kernel
theorem dX5_init_37 : decode cX5_init 37 = .ok (.putfield 24, 3) := by decide +kernel
theorem dX5_init_40 : decode cX5_init 40 = .ok (.aload_n 0, 1) := by decide +kernel
theorem dX5_init_41 : decode cX5_init 41 = .ok (.iconst (-1), 1) := by decide +kernel
theorem dX5_init_42 : decode cX5_init 42 = .ok (.putfield 28, 3) := by decide +kernel
theorem dX5_init_45 : decode cX5_init 45 = .ok (.return_, 1) := by decide +kernel
theorem dX6_init_0 : decode cX6_init 0 = .ok (.aload_n 0, 1) := by decide +kernel
theorem dX6_init_1 : decode cX6_init 1 = .ok (.invokespecial 3, 3) := by decide +kernel
theorem dX6_init_4 : decode cX6_init 4 = .ok (.aload_n 0, 1) := by decide +kernel
theorem dX6_init_5 : decode cX6_init 5 = .ok (.new 9, 3) := by decide +kernel
theorem dX6_init_8 : decode cX6_init 8 = .ok (.dup, 1) := by decide +kernel
theorem dX6_init_9 : decode cX6_init 9 = .ok (.sipush 600, 3) := by decide +kernel
theorem dX6_init_12 : decode cX6_init 12 = .ok (.invokespecial 11, 3) := by decide +kernel
theorem dX6_init_15 : decode cX6_init 15 = .ok (.putfield 14, 3) := by decide +kernel
theorem dX6_init_18 : decode cX6_init 18 = .ok (.aload_n 0, 1) := by decide +kernel
theorem dX6_init_19 : decode cX6_init 19 = .ok (.new 20, 3) := by decide +kernel
theorem dX6_init_22 : decode cX6_init 22 = .ok (.dup, 1) := by decide +kernel
theorem dX6_init_23 : decode cX6_init 23 = .ok (.invokespecial 22, 3) := by decide +kernel
theorem dX6_init_26 : decode cX6_init 26 = .ok (.putfield 23, 3) := by decide +kernel
theorem dX6_init_29 : decode cX6_init 29 = .ok (.return_, 1) := by decide +kernel
theorem dX6_copyFrom_0 : decode cX6_copyFrom 0 = .ok (.aload_n 0, 1) := by decide +kernel
theorem dX6_copyFrom_1 : decode cX6_copyFrom 1 = .ok (.getfield 14, 3) := by decide +kernel
theorem dX6_copyFrom_4 : decode cX6_copyFrom 4 = .ok (.aload_n 1, 1) := by decide +kernel
theorem dX6_copyFrom_5 : decode cX6_copyFrom 5 = .ok (.getfield 14, 3) := by decide +kernel
theorem dX6_copyFrom_8 : decode cX6_copyFrom 8 = .ok (.invokevirtual 27, 3) := by decide +kernel
theorem dX6_copyFrom_11 : decode cX6_copyFrom 11 = .ok (.aload_n 0, 1) := by decide +kernel
theorem dX6_copyFrom_12 : decode cX6_copyFrom 12 = .ok (.getfield 23, 3) := by decide +kernel
theorem dX6_copyFrom_15 : decode cX6_copyFrom 15 = .ok (.aload_n 1, 1) := by decide +kernel
theorem dX6_copyFrom_16 : decode cX6_copyFrom 16 = .ok (.getfield 23, 3) := by decide +kernel
theorem dX6_copyFrom_19 : decode cX6_copyFrom 19 = .ok (.invokevirtual 31, 3) := by decide +kernel
theorem dX6_copyFrom_22 : decode cX6_copyFrom 22 = .ok (.return_, 1) := by decide +kernel
theorem dX7_init_0 : decode cX7_init 0 = .ok (.aload_n 0, 1) := by decide +kernel
theorem dX7_init_1 : decode cX7_init 1 = .ok (.invokespecial 3, 3) := by decide +kernel
theorem dX7_init_4 : decode cX7_init 4 = .ok (.aload_n 0, 1) := by decide +kernel
theorem dX7_init_5 : decode cX7_init 5 = .ok (.bipush 60, 2) := by decide +kernel
theorem dX7_init_7 : decode cX7_init 7 = .ok (.newarray .int, 2) := by decide +kernel
theorem dX7_init_9 : decode cX7_init 9 = .ok (.putfield 9, 3) := by decide +kernel
theorem dX7_init_12 : decode cX7_init 12 = .ok (.aload_n 0, 1) := by decide +kernel
theorem dX7_init_13 : decode cX7_init 13 = .ok (.bipush 60, 2) := by decide +kernel
theorem dX7_init_15 : decode cX7_init 15 = .ok (.newarray .int, 2) := by decide +kernel
theorem dX7_init_17 : decode cX7_init 17 = .ok (.putfield 15, 3) := by decide +kernel
theorem dX7_init_20 : decode cX7_init 20 = .ok (.aload_n 0, 1) := by decide +kernel
theorem dX7_init_21 : decode cX7_init 21 = .ok (.bipush 60, 2) := by decide +kernel
theorem dX7_init_23 : decode cX7_init 23 = .ok (.newarray .int, 2) := by decide +kernel
theorem dX7_init_25 : decode cX7_init 25 = .ok (.putfield 18, 3) := by decide +kernel
theorem dX7_init_28 : decode cX7_init 28 = .ok (.aload_n 0, 1) := by decide +kernel
theorem dX7_init_29 : decode cX7_init 29 = .ok (.bipush 60, 2) := by decide +kernel
theorem dX7_init_31 : decode cX7_init 31 = .ok (.newarray .int, 2) := by decide +kernel
theorem dX7_init_33 : decode cX7_init 33 = .ok (.putfield 21, 3) := by decide +kernel
theorem dX7_init_36 : decode cX7_init 36 = .ok (.aload_n 0, 1) := by decide +kernel
theorem dX7_init_37 : decode cX7_init 37 = .ok (.bipush 60, 2) := by decide +kernel
theorem dX7_init_39 : decode cX7_init 39 = .ok (.newarray .int, 2) := by decide +kernel
theorem dX7_init_41 : decode cX7_init 41 = .ok (.putfield 24, 3) := by decide +kernel
theorem dX7_init_44 : decode cX7_init 44 = .ok (.aload_n 0, 1) := by decide +kernel
theorem dX7_init_45 : decode cX7_init 45 = .ok (.bipush 60, 2) := by decide +kernel
theorem dX7_init_47 : decode cX7_init 47 = .ok (.newarray .int, 2) := by decide +kernel
theorem dX7_init_49 : decode cX7_init 49 = .ok (.putfield 27, 3) := by decide +kernel
theorem dX7_init_52 : decode cX7_init 52 = .ok (.aload_n 0, 1) := by decide +kernel
theorem dX7_init_53 : decode cX7_init 53 = .ok (.bipush 60, 2) := by decide +kernel
theorem dX7_init_55 : decode cX7_init 55 = .ok (.newarray .int, 2) := by decide +kernel
theorem dX7_init_57 : decode cX7_init 57 = .ok (.putfield 30, 3) := by decide +kernel
theorem dX7_init_60 : decode cX7_init 60 = .ok (.aload_n 0, 1) := by decide +kernel
theorem dX7_init_61 : decode cX7_init 61 = .ok (.bipush 60, 2) := by decide +kernel
theorem dX7_init_63 : decode cX7_init 63 = .ok (.newarray .int, 2) := by decide +kernel
theorem dX7_init_65 : decode cX7_init 65 = .ok (.putfield 33, 3) := by decide +kernel
theorem dX7_init_68 : decode cX7_init 68 = .ok (.aload_n 0, 1) := by decide +kernel
theorem dX7_init_69 : decode cX7_init 69 = .ok (.bipush 60, 2) := by decide +kernel
theorem dX7_init_71 : decode cX7_init 71 = .ok (.newarray .int, 2) := by decide +kernel
theorem dX7_init_73 : decode cX7_init 73 = .ok (.putfield 36, 3) := by decide +kernel
theorem dX7_init_76 : decode cX7_init 76 = .ok (.aload_n 0, 1) := by decide +kernel
theorem dX7_init_77 : decode cX7_init 77 = .ok (.bipush 60, 2) := by decide +kernel
theorem dX7_init_79 : decode cX7_init 79 = .ok (.newarray .int, 2) := by decide +kernel
theorem dX7_init_81 : decode cX7_init 81 = .ok (.putfield 39, 3) := by decide +kernel
theorem dX7_init_84 : decode cX7_init 84 = .ok (.aload_n 0, 1) := by decide +kernel
theorem dX7_init_85 : decode cX7_init 85 = .ok (.bipush 60, 2) := by decide +kernel
theorem dX7_init_87 : decode cX7_init 87 = .ok (.newarray .int, 2) := by decide +kernel
theorem dX7_init_89 : decode cX7_init 89 = .ok (.putfield 42, 3) := by decide +kernel
theorem dX7_init_92 : decode cX7_init 92 = .ok (.aload_n 0, 1) := by decide +kernel
theorem dX7_init_93 : decode cX7_init 93 = .ok (.bipush 60, 2) := by decide +kernel
theorem dX7_init_95 : decode cX7_init 95 = .ok (.newarray .int, 2) := by decide +kernel
theorem dX7_init_97 : decode cX7_init 97 = .ok (.putfield 45, 3) := by decide +kernel
theorem dX7_init_100 : decode cX7_init 100 = .ok (.aload_n 0, 1) := by decide +kernel
theorem dX7_init_101 : decode cX7_init 101 = .ok (.bipush 60, 2) := by decide +kernel
theorem dX7_init_103 : decode cX7_init 103 = .ok (.newarray .int, 2) := by decide +kernel
theorem dX7_init_105 : decode cX7_init 105 = .ok (.putfield 48, 3) := by decide +kernel
theorem dX7_init_108 : decode cX7_init 108 = .ok (.aload_n 0, 1) := by decide +kernel
theorem dX7_init_109 : decode cX7_init 109 = .ok (.bipush 60, 2) := by decide +kernel
theorem dX7_init_111 : decode cX7_init 111 = .ok (.newarray .int, 2) := by decide +kernel
theorem dX7_init_113 : decode cX7_init 113 = .ok (.putfield 51, 3) := by decide +kernel
theorem dX7_init_116 : decode cX7_init 116 = .ok (.return_, 1) := by decide +kernel
theorem dX7_isFull_0 : decode cX7_isFull 0 = .ok (.aload_n 0, 1) := by decide +kernel
theorem dX7_isFull_1 : decode cX7_isFull 1 = .ok (.getfield 54, 3) := by decide +kernel
theorem dX7_isFull_4 : decode cX7_isFull 4 = .ok (.bipush 60, 2) := by decide +kernel
theorem dX7_isFull_6 : decode cX7_isFull 6 = .ok (.if_icmp .lt 7, 3) := by decide +kernel
theorem dX7_isFull_9 : decode cX7_isFull 9 = .ok (.iconst 1, 1) := by decide +kernel
theorem dX7_isFull_10 : decode cX7_isFull 10 = .ok (.goto 4, 3) := by decide +kernel
theorem dX7_isFull_13 : decode cX7_isFull 13 = .ok (.iconst 0, 1) := by decide +kernel
theorem dX7_isFull_14 : decode cX7_isFull 14 = .ok (.ireturn, 1) := by decide +kernel
theorem dX7_exists_0 : decode cX7_exists 0 = .ok (.iload_n 1, 1) := by decide +kernel
theorem dX7_exists_1 : decode cX7_exists 1 = .ok (.ifCond .lt 15, 3) := by decide +kernel
theorem dX7_exists_4 : decode cX7_exists 4 = .ok (.iload_n 1, 1) := by decide +kernel
theorem dX7_exists_5 : decode cX7_exists 5 = .ok (.aload_n 0, 1) := by decide +kernel
theorem dX7_exists_6 : decode cX7_exists 6 = .ok (.getfield 54, 3) := by decide +kernel
theorem dX7_exists_9 : decode cX7_exists 9 = .ok (.if_icmp .ge 7, 3) := by decide +kernel
theorem dX7_exists_12 : decode cX7_exists 12 = .ok (.iconst 1, 1) := by decide +kernel
theorem dX7_exists_13 : decode cX7_exists 13 = .ok (.goto 4, 3) := by decide +kernel
theorem dX7_exists_16 : decode cX7_exists 16 = .ok (.iconst 0, 1) := by decide +kernel
theorem dX7_exists_17 : decode cX7_exists 17 = .ok (.ireturn, 1) := by decide +kernel
theorem dX7_add_0 : decode cX7_add 0 = .ok (.aload_n 0, 1) := by decide +kernel
theorem dX7_add_1 : decode cX7_add 1 = .ok (.getfield 54, 3) := by decide +kernel
theorem dX7_add_4 : decode cX7_add 4 = .ok (.istore 6, 2) := by decide +kernel
theorem dX7_add_6 : decode cX7_add 6 = .ok (.aload_n 0, 1) := by decide +kernel
theorem dX7_add_7 : decode cX7_add 7 = .ok (.getfield 9, 3) := by decide +kernel
theorem dX7_add_10 : decode cX7_add 10 = .ok (.iload 6, 2) := by decide +kernel
theorem dX7_add_12 : decode cX7_add 12 = .ok (.iload_n 1, 1) := by decide +kernel
theorem dX7_add_13 : decode cX7_add 13 = .ok (.iastore, 1) := by decide +kernel
theorem dX7_add_14 : decode cX7_add 14 = .ok (.aload_n 0, 1) := by decide +kernel
theorem dX7_add_15 : decode cX7_add 15 = .ok (.getfield 15, 3) := by decide +kernel
theorem dX7_add_18 : decode cX7_add 18 = .ok (.iload 6, 2) := by decide +kernel
theorem dX7_add_20 : decode cX7_add 20 = .ok (.iload_n 2, 1) := by decide +kernel
theorem dX7_add_21 : decode cX7_add 21 = .ok (.iastore, 1) := by decide +kernel
theorem dX7_add_22 : decode cX7_add 22 = .ok (.aload_n 0, 1) := by decide +kernel
theorem dX7_add_23 : decode cX7_add 23 = .ok (.getfield 18, 3) := by decide +kernel
theorem dX7_add_26 : decode cX7_add 26 = .ok (.iload 6, 2) := by decide +kernel
theorem dX7_add_28 : decode cX7_add 28 = .ok (.iload_n 3, 1) := by decide +kernel
theorem dX7_add_29 : decode cX7_add 29 = .ok (.iastore, 1) := by decide +kernel
theorem dX7_add_30 : decode cX7_add 30 = .ok (.aload_n 0, 1) := by decide +kernel
theorem dX7_add_31 : decode cX7_add 31 = .ok (.getfield 21, 3) := by decide +kernel
theorem dX7_add_34 : decode cX7_add 34 = .ok (.iload 6, 2) := by decide +kernel
theorem dX7_add_36 : decode cX7_add 36 = .ok (.iload 4, 2) := by decide +kernel
theorem dX7_add_38 : decode cX7_add 38 = .ok (.iastore, 1) := by decide +kernel
theorem dX7_add_39 : decode cX7_add 39 = .ok (.aload_n 0, 1) := by decide +kernel
theorem dX7_add_40 : decode cX7_add 40 = .ok (.getfield 24, 3) := by decide +kernel
theorem dX7_add_43 : decode cX7_add 43 = .ok (.iload 6, 2) := by decide +kernel
theorem dX7_add_45 : decode cX7_add 45 = .ok (.iconst 0, 1) := by decide +kernel
theorem dX7_add_46 : decode cX7_add 46 = .ok (.iastore, 1) := by decide +kernel
theorem dX7_add_47 : decode cX7_add 47 = .ok (.aload_n 0, 1) := by decide +kernel
theorem dX7_add_48 : decode cX7_add 48 = .ok (.getfield 27, 3) := by decide +kernel
theorem dX7_add_51 : decode cX7_add 51 = .ok (.iload 6, 2) := by decide +kernel
theorem dX7_add_53 : decode cX7_add 53 = .ok (.iconst 0, 1) := by decide +kernel
theorem dX7_add_54 : decode cX7_add 54 = .ok (.iastore, 1) := by decide +kernel
theorem dX7_add_55 : decode cX7_add 55 = .ok (.aload_n 0, 1) := by decide +kernel
theorem dX7_add_56 : decode cX7_add 56 = .ok (.getfield 30, 3) := by decide +kernel
theorem dX7_add_59 : decode cX7_add 59 = .ok (.iload 6, 2) := by decide +kernel
theorem dX7_add_61 : decode cX7_add 61 = .ok (.iconst 0, 1) := by decide +kernel
theorem dX7_add_62 : decode cX7_add 62 = .ok (.iastore, 1) := by decide +kernel
theorem dX7_add_63 : decode cX7_add 63 = .ok (.aload_n 0, 1) := by decide +kernel
theorem dX7_add_64 : decode cX7_add 64 = .ok (.getfield 33, 3) := by decide +kernel
theorem dX7_add_67 : decode cX7_add 67 = .ok (.iload 6, 2) := by decide +kernel
theorem dX7_add_69 : decode cX7_add 69 = .ok (.iconst 0, 1) := by decide +kernel
theorem dX7_add_70 : decode cX7_add 70 = .ok (.iastore, 1) := by decide +kernel
theorem dX7_add_71 : decode cX7_add 71 = .ok (.aload_n 0, 1) := by decide +kernel
theorem dX7_add_72 : decode cX7_add 72 = .ok (.getfield 36, 3) := by decide +kernel
theorem dX7_add_75 : decode cX7_add 75 = .ok (.iload 6, 2) := by decide +kernel
theorem dX7_add_77 : decode cX7_add 77 = .ok (.iconst 0, 1) := by decide +kernel
theorem dX7_add_78 : decode cX7_add 78 = .ok (.iastore, 1) := by decide +kernel
theorem dX7_add_79 : decode cX7_add 79 = .ok (.aload_n 0, 1) := by decide +kernel
theorem dX7_add_80 : decode cX7_add 80 = .ok (.getfield 39, 3) := by decide +kernel
theorem dX7_add_83 : decode cX7_add 83 = .ok (.iload 6, 2) := by decide +kernel
theorem dX7_add_85 : decode cX7_add 85 = .ok (.iconst 0, 1) := by decide +kernel
theorem dX7_add_86 : decode cX7_add 86 = .ok (.iastore, 1) := by decide +kernel
theorem dX7_add_87 : decode cX7_add 87 = .ok (.aload_n 0, 1) := by decide +kernel
theorem dX7_add_88 : decode cX7_add 88 = .ok (.getfield 42, 3) := by decide +kernel
theorem dX7_add_91 : decode cX7_add 91 = .ok (.iload 6, 2) := by decide +kernel
theorem dX7_add_93 : decode cX7_add 93 = .ok (.iconst (-1), 1) := by decide +kernel
theorem dX7_add_94 : decode cX7_add 94 = .ok (.iastore, 1) := by decide +kernel
theorem dX7_add_95 : decode cX7_add 95 = .ok (.aload_n 0, 1) := by decide +kernel
theorem dX7_add_96 : decode cX7_add 96 = .ok (.getfield 45, 3) := by decide +kernel
theorem dX7_add_99 : decode cX7_add 99 = .ok (.iload 6, 2) := by decide +kernel
theorem dX7_add_101 : decode cX7_add 101 = .ok (.iload 5, 2) := by decide +kernel
theorem dX7_add_103 : decode cX7_add 103 = .ok (.iastore, 1) := by decide +kernel
theorem dX7_add_104 : decode cX7_add 104 = .ok (.aload_n 0, 1) := by decide +kernel
theorem dX7_add_105 : decode cX7_add 105 = .ok (.getfield 48, 3) := by decide +kernel
theorem dX7_add_108 : decode cX7_add 108 = .ok (.iload 6, 2) := by decide +kernel
theorem dX7_add_110 : decode cX7_add 110 = .ok (.iconst (-1), 1) := by decide +kernel
theorem dX7_add_111 : decode cX7_add 111 = .ok (.iastore, 1) := by decide +kernel
theorem dX7_add_112 : decode cX7_add 112 = .ok (.aload_n 0, 1) := by decide +kernel
theorem dX7_add_113 : decode cX7_add 113 = .ok (.getfield 51, 3) := by decide +kernel
theorem dX7_add_116 : decode cX7_add 116 = .ok (.iload 6, 2) := by decide +kernel
theorem dX7_add_118 : decode cX7_add 118 = .ok (.iconst (-1), 1) := by decide +kernel
theorem dX7_add_119 : decode cX7_add 119 = .ok (.iastore, 1) := by decide +kernel
theorem dX7_add_120 : decode cX7_add 120 = .ok (.aload_n 0, 1) := by decide +kernel
theorem dX7_add_121 : decode cX7_add 121 = .ok (.dup, 1) := by decide +kernel
theorem dX7_add_122 : decode cX7_add 122 = .ok (.getfield 54, 3) := by decide +kernel
theorem dX7_add_125 : decode cX7_add 125 = .ok (.iconst 1, 1) := by decide +kernel
theorem dX7_add_126 : decode cX7_add 126 = .ok (.iadd, 1) := by decide +kernel
theorem dX7_add_127 : decode cX7_add 127 = .ok (.putfield 54, 3) := by decide +kernel
theorem dX7_add_130 : decode cX7_add 130 = .ok (.iload 6, 2) := by decide +kernel
theorem dX7_add_132 : decode cX7_add 132 = .ok (.ireturn, 1) := by decide +kernel
theorem dX7_isActive_0 : decode cX7_isActive 0 = .ok (.aload_n 0, 1) := by decide +kernel
theorem dX7_isActive_1 : decode cX7_isActive 1 = .ok (.getfield 27, 3) := by decide +kernel
theorem dX7_isActive_4 : decode cX7_isActive 4 = .ok (.iload_n 1, 1) := by decide +kernel
theorem dX7_isActive_5 : decode cX7_isActive 5 = .ok (.iaload, 1) := by decide +kernel
theorem dX7_isActive_6 : decode cX7_isActive 6 = .ok (.ifCond .eq 13, 3) := by decide +kernel
theorem dX7_isActive_9 : decode cX7_isActive 9 = .ok (.aload_n 0, 1) := by decide +kernel
theorem dX7_isActive_10 : decode cX7_isActive 10 = .ok (.getfield 27, 3) := by decide +kernel
theorem dX7_isActive_13 : decode cX7_isActive 13 = .ok (.iload_n 1, 1) := by decide +kernel
theorem dX7_isActive_14 : decode cX7_isActive 14 = .ok (.iaload, 1) := by decide +kernel
theorem dX7_isActive_15 : decode cX7_isActive 15 = .ok (.iconst 1, 1) := by decide +kernel
theorem dX7_isActive_16 : decode cX7_isActive 16 = .ok (.if_icmp .ne 7, 3) := by decide +kernel
theorem dX7_isActive_19 : decode cX7_isActive 19 = .ok (.iconst 1, 1) := by decide +kernel
theorem dX7_isActive_20 : decode cX7_isActive 20 = .ok (.goto 4, 3) := by decide +kernel
theorem dX7_isActive_23 : decode cX7_isActive 23 = .ok (.iconst 0, 1) := by decide +kernel
theorem dX7_isActive_24 : decode cX7_isActive 24 = .ok (.ireturn, 1) := by decide +kernel
theorem dX7_standsAlone_0 : decode cX7_standsAlone 0 = .ok (.aload_n 0, 1) := by decide +kernel
theorem dX7_standsAlone_1 : decode cX7_standsAlone 1 = .ok (.getfield 27, 3) := by decide +kernel
theorem dX7_standsAlone_4 : decode cX7_standsAlone 4 = .ok (.iload_n 1, 1) := by decide +kernel
theorem dX7_standsAlone_5 : decode cX7_standsAlone 5 = .ok (.iaload, 1) := by decide +kernel
theorem dX7_standsAlone_6 : decode cX7_standsAlone 6 = .ok (.iconst 3, 1) := by decide +kernel
theorem dX7_standsAlone_7 : decode cX7_standsAlone 7 = .ok (.if_icmp .eq 17, 3) := by decide +kernel
theorem dX7_standsAlone_10 : decode cX7_standsAlone 10 = .ok (.aload_n 0, 1) := by decide +kernel
theorem dX7_standsAlone_11 : decode cX7_standsAlone 11 = .ok (.getfield 27, 3) := by decide +kernel
theorem dX7_standsAlone_14 : decode cX7_standsAlone 14 = .ok (.iload_n 1, 1) := by decide +kernel
theorem dX7_standsAlone_15 : decode cX7_standsAlone 15 = .ok (.iaload, 1) := by decide +kernel
theorem dX7_standsAlone_16 : decode cX7_standsAlone 16 = .ok (.iconst 4, 1) := by decide +kernel
theorem dX7_standsAlone_17 : decode cX7_standsAlone 17 = .ok (.if_icmp .eq 7, 3) := by decide +kernel
theorem dX7_standsAlone_20 : decode cX7_standsAlone 20 = .ok (.iconst 1, 1) := by decide +kernel
theorem dX7_standsAlone_21 : decode cX7_standsAlone 21 = .ok (.goto 4, 3) := by decide +kernel
theorem dX7_standsAlone_24 : decode cX7_standsAlone 24 = .ok (.iconst 0, 1) := by decide +kernel
theorem dX7_standsAlone_25 : decode cX7_standsAlone 25 = .ok (.ireturn, 1) := by decide +kernel
theorem dX7_isAnswered_0 : decode cX7_isAnswered 0 = .ok (.aload_n 0, 1) := by decide +kernel
theorem dX7_isAnswered_1 : decode cX7_isAnswered 1 = .ok (.getfield 48, 3) := by decide +kernel
theorem dX7_isAnswered_4 : decode cX7_isAnswered 4 = .ok (.iload_n 1, 1) := by decide +kernel
theorem dX7_isAnswered_5 : decode cX7_isAnswered 5 = .ok (.iaload, 1) := by decide +kernel
theorem dX7_isAnswered_6 : decode cX7_isAnswered 6 = .ok (.iconst (-1), 1) := by decide +kernel
theorem dX7_isAnswered_7 : decode cX7_isAnswered 7 = .ok (.if_icmp .eq 7, 3) := by decide +kernel
theorem dX7_isAnswered_10 : decode cX7_isAnswered 10 = .ok (.iconst 1, 1) := by decide +kernel
theorem dX7_isAnswered_11 : decode cX7_isAnswered 11 = .ok (.goto 4, 3) := by decide +kernel
theorem dX7_isAnswered_14 : decode cX7_isAnswered 14 = .ok (.iconst 0, 1) := by decide +kernel
theorem dX7_isAnswered_15 : decode cX7_isAnswered 15 = .ok (.ireturn, 1) := by decide +kernel
theorem dX7_responseRuns_0 : decode cX7_responseRuns 0 = .ok (.aload_n 0, 1) := by decide +kernel
theorem dX7_responseRuns_1 : decode cX7_responseRuns 1 = .ok (.iload_n 1, 1) := by decide +kernel
theorem dX7_responseRuns_2 : decode cX7_responseRuns 2 = .ok (.invokevirtual 58, 3) := by decide +kernel
theorem dX7_responseRuns_5 : decode cX7_responseRuns 5 = .ok (.ifCond .eq 5, 3) := by decide +kernel
theorem dX7_responseRuns_8 : decode cX7_responseRuns 8 = .ok (.iconst 0, 1) := by decide +kernel
theorem dX7_responseRuns_9 : decode cX7_responseRuns 9 = .ok (.ireturn, 1) := by decide +kernel
theorem dX7_responseRuns_10 : decode cX7_responseRuns 10 = .ok (.aload_n 0, 1) := by decide +kernel
theorem dX7_responseRuns_11 : decode cX7_responseRuns 11 = .ok (.getfield 27, 3) := by decide +kernel
theorem dX7_responseRuns_14 : decode cX7_responseRuns 14 = .ok (.iload_n 1, 1) := by decide +kernel
theorem dX7_responseRuns_15 : decode cX7_responseRuns 15 = .ok (.iaload, 1) := by decide +kernel
theorem dX7_responseRuns_16 : decode cX7_responseRuns 16 = .ok (.iconst 4, 1) := by decide +kernel
theorem dX7_responseRuns_17 : decode cX7_responseRuns 17 = .ok (.if_icmp .ne 35, 3) := by decide +kernel
theorem dX7_responseRuns_20 : decode cX7_responseRuns 20 = .ok (.aload_n 0, 1) := by decide +kernel
theorem dX7_responseRuns_21 : decode cX7_responseRuns 21 = .ok (.aload_n 0, 1) := by decide +kernel
theorem dX7_responseRuns_22 : decode cX7_responseRuns 22 = .ok (.getfield 42, 3) := by decide +kernel
theorem dX7_responseRuns_25 : decode cX7_responseRuns 25 = .ok (.iload_n 1, 1) := by decide +kernel
theorem dX7_responseRuns_26 : decode cX7_responseRuns 26 = .ok (.iaload, 1) := by decide +kernel
theorem dX7_responseRuns_27 : decode cX7_responseRuns 27 = .ok (.invokevirtual 62, 3) := by decide +kernel
theorem dX7_responseRuns_30 : decode cX7_responseRuns 30 = .ok (.ifCond .eq 20, 3) := by decide +kernel
theorem dX7_responseRuns_33 : decode cX7_responseRuns 33 = .ok (.aload_n 0, 1) := by decide +kernel
theorem dX7_responseRuns_34 : decode cX7_responseRuns 34 = .ok (.aload_n 0, 1) := by decide +kernel
theorem dX7_responseRuns_35 : decode cX7_responseRuns 35 = .ok (.getfield 42, 3) := by decide +kernel
theorem dX7_responseRuns_38 : decode cX7_responseRuns 38 = .ok (.iload_n 1, 1) := by decide +kernel
theorem dX7_responseRuns_39 : decode cX7_responseRuns 39 = .ok (.iaload, 1) := by decide +kernel
theorem dX7_responseRuns_40 : decode cX7_responseRuns 40 = .ok (.invokevirtual 58, 3) := by decide +kernel
theorem dX7_responseRuns_43 : decode cX7_responseRuns 43 = .ok (.ifCond .ne 7, 3) := by decide +kernel
theorem dX7_responseRuns_46 : decode cX7_responseRuns 46 = .ok (.iconst 1, 1) := by decide +kernel
theorem dX7_responseRuns_47 : decode cX7_responseRuns 47 = .ok (.goto 4, 3) := by decide +kernel
theorem dX7_responseRuns_50 : decode cX7_responseRuns 50 = .ok (.iconst 0, 1) := by decide +kernel
theorem dX7_responseRuns_51 : decode cX7_responseRuns 51 = .ok (.ireturn, 1) := by decide +kernel
theorem dX7_responseRuns_52 : decode cX7_responseRuns 52 = .ok (.aload_n 0, 1) := by decide +kernel
theorem dX7_responseRuns_53 : decode cX7_responseRuns 53 = .ok (.getfield 27, 3) := by decide +kernel
theorem dX7_responseRuns_56 : decode cX7_responseRuns 56 = .ok (.iload_n 1, 1) := by decide +kernel
theorem dX7_responseRuns_57 : decode cX7_responseRuns 57 = .ok (.iaload, 1) := by decide +kernel
theorem dX7_responseRuns_58 : decode cX7_responseRuns 58 = .ok (.ifCond .eq 13, 3) := by decide +kernel
theorem dX7_responseRuns_61 : decode cX7_responseRuns 61 = .ok (.aload_n 0, 1) := by decide +kernel
theorem dX7_responseRuns_62 : decode cX7_responseRuns 62 = .ok (.getfield 27, 3) := by decide +kernel
theorem dX7_responseRuns_65 : decode cX7_responseRuns 65 = .ok (.iload_n 1, 1) := by decide +kernel
theorem dX7_responseRuns_66 : decode cX7_responseRuns 66 = .ok (.iaload, 1) := by decide +kernel
theorem dX7_responseRuns_67 : decode cX7_responseRuns 67 = .ok (.iconst 2, 1) := by decide +kernel
theorem dX7_responseRuns_68 : decode cX7_responseRuns 68 = .ok (.if_icmp .ne 7, 3) := by decide +kernel
theorem dX7_responseRuns_71 : decode cX7_responseRuns 71 = .ok (.iconst 1, 1) := by decide +kernel
theorem dX7_responseRuns_72 : decode cX7_responseRuns 72 = .ok (.goto 4, 3) := by decide +kernel
theorem dX7_responseRuns_75 : decode cX7_responseRuns 75 = .ok (.iconst 0, 1) := by decide +kernel
theorem dX7_responseRuns_76 : decode cX7_responseRuns 76 = .ok (.ireturn, 1) := by decide +kernel
theorem dX7_resolveRuns_0 : decode cX7_resolveRuns 0 = .ok (.aload_n 0, 1) := by decide +kernel
theorem dX7_resolveRuns_1 : decode cX7_resolveRuns 1 = .ok (.getfield 27, 3) := by decide +kernel
theorem dX7_resolveRuns_4 : decode cX7_resolveRuns 4 = .ok (.iload_n 1, 1) := by decide +kernel
theorem dX7_resolveRuns_5 : decode cX7_resolveRuns 5 = .ok (.iaload, 1) := by decide +kernel
theorem dX7_resolveRuns_6 : decode cX7_resolveRuns 6 = .ok (.iconst 4, 1) := by decide +kernel
theorem dX7_resolveRuns_7 : decode cX7_resolveRuns 7 = .ok (.if_icmp .ne 35, 3) := by decide +kernel
theorem dX7_resolveRuns_10 : decode cX7_resolveRuns 10 = .ok (.aload_n 0, 1) := by decide +kernel
theorem dX7_resolveRuns_11 : decode cX7_resolveRuns 11 = .ok (.aload_n 0, 1) := by decide +kernel
theorem dX7_resolveRuns_12 : decode cX7_resolveRuns 12 = .ok (.getfield 42, 3) := by decide +kernel
theorem dX7_resolveRuns_15 : decode cX7_resolveRuns 15 = .ok (.iload_n 1, 1) := by decide +kernel
theorem dX7_resolveRuns_16 : decode cX7_resolveRuns 16 = .ok (.iaload, 1) := by decide +kernel
theorem dX7_resolveRuns_17 : decode cX7_resolveRuns 17 = .ok (.invokevirtual 62, 3) := by decide +kernel
theorem dX7_resolveRuns_20 : decode cX7_resolveRuns 20 = .ok (.ifCond .eq 20, 3) := by decide +kernel
theorem dX7_resolveRuns_23 : decode cX7_resolveRuns 23 = .ok (.aload_n 0, 1) := by decide +kernel
theorem dX7_resolveRuns_24 : decode cX7_resolveRuns 24 = .ok (.aload_n 0, 1) := by decide +kernel
theorem dX7_resolveRuns_25 : decode cX7_resolveRuns 25 = .ok (.getfield 42, 3) := by decide +kernel
theorem dX7_resolveRuns_28 : decode cX7_resolveRuns 28 = .ok (.iload_n 1, 1) := by decide +kernel
theorem dX7_resolveRuns_29 : decode cX7_resolveRuns 29 = .ok (.iaload, 1) := by decide +kernel
theorem dX7_resolveRuns_30 : decode cX7_resolveRuns 30 = .ok (.invokevirtual 65, 3) := by decide +kernel
theorem dX7_resolveRuns_33 : decode cX7_resolveRuns 33 = .ok (.ifCond .eq 7, 3) := by decide +kernel
theorem dX7_resolveRuns_36 : decode cX7_resolveRuns 36 = .ok (.iconst 1, 1) := by decide +kernel
theorem dX7_resolveRuns_37 : decode cX7_resolveRuns 37 = .ok (.goto 4, 3) := by decide +kernel
theorem dX7_resolveRuns_40 : decode cX7_resolveRuns 40 = .ok (.iconst 0, 1) := by decide +kernel
theorem dX7_resolveRuns_41 : decode cX7_resolveRuns 41 = .ok (.ireturn, 1) := by decide +kernel
theorem dX7_resolveRuns_42 : decode cX7_resolveRuns 42 = .ok (.aload_n 0, 1) := by decide +kernel
theorem dX7_resolveRuns_43 : decode cX7_resolveRuns 43 = .ok (.iload_n 1, 1) := by decide +kernel
theorem dX7_resolveRuns_44 : decode cX7_resolveRuns 44 = .ok (.invokevirtual 65, 3) := by decide +kernel
theorem dX7_resolveRuns_47 : decode cX7_resolveRuns 47 = .ok (.ireturn, 1) := by decide +kernel
theorem dX7_countAt_0 : decode cX7_countAt 0 = .ok (.iconst 0, 1) := by decide +kernel
theorem dX7_countAt_1 : decode cX7_countAt 1 = .ok (.istore_n 3, 1) := by decide +kernel
theorem dX7_countAt_2 : decode cX7_countAt 2 = .ok (.iconst 0, 1) := by decide +kernel
theorem dX7_countAt_3 : decode cX7_countAt 3 = .ok (.istore 4, 2) := by decide +kernel
theorem dX7_countAt_5 : decode cX7_countAt 5 = .ok (.iload 4, 2) := by decide +kernel
theorem dX7_countAt_7 : decode cX7_countAt 7 = .ok (.aload_n 0, 1) := by decide +kernel
theorem dX7_countAt_8 : decode cX7_countAt 8 = .ok (.getfield 54, 3) := by decide +kernel
theorem dX7_countAt_11 : decode cX7_countAt 11 = .ok (.if_icmp .ge 34, 3) := by decide +kernel
theorem dX7_countAt_14 : decode cX7_countAt 14 = .ok (.aload_n 0, 1) := by decide +kernel
theorem dX7_countAt_15 : decode cX7_countAt 15 = .ok (.getfield 27, 3) := by decide +kernel
theorem dX7_countAt_18 : decode cX7_countAt 18 = .ok (.iload 4, 2) := by decide +kernel
theorem dX7_countAt_20 : decode cX7_countAt 20 = .ok (.iaload, 1) := by decide +kernel
theorem dX7_countAt_21 : decode cX7_countAt 21 = .ok (.iload_n 2, 1) := by decide +kernel
theorem dX7_countAt_22 : decode cX7_countAt 22 = .ok (.if_icmp .ne 17, 3) := by decide +kernel
theorem dX7_countAt_25 : decode cX7_countAt 25 = .ok (.aload_n 0, 1) := by decide +kernel
theorem dX7_countAt_26 : decode cX7_countAt 26 = .ok (.getfield 24, 3) := by decide +kernel
theorem dX7_countAt_29 : decode cX7_countAt 29 = .ok (.iload 4, 2) := by decide +kernel
theorem dX7_countAt_31 : decode cX7_countAt 31 = .ok (.iaload, 1) := by decide +kernel
theorem dX7_countAt_32 : decode cX7_countAt 32 = .ok (.iload_n 1, 1) := by decide +kernel
theorem dX7_countAt_33 : decode cX7_countAt 33 = .ok (.if_icmp .ne 6, 3) := by decide +kernel
theorem dX7_countAt_36 : decode cX7_countAt 36 = .ok (.iinc 3 1, 3) := by decide +kernel
theorem dX7_countAt_39 : decode cX7_countAt 39 = .ok (.iinc 4 1, 3) := by decide +kernel
theorem dX7_countAt_42 : decode cX7_countAt 42 = .ok (.goto (-37), 3) := by decide +kernel
theorem dX7_countAt_45 : decode cX7_countAt 45 = .ok (.iload_n 3, 1) := by decide +kernel
theorem dX7_countAt_46 : decode cX7_countAt 46 = .ok (.ireturn, 1) := by decide +kernel
theorem dX7_countSolved_0 : decode cX7_countSolved 0 = .ok (.iconst 0, 1) := by decide +kernel
theorem dX7_countSolved_1 : decode cX7_countSolved 1 = .ok (.istore_n 1, 1) := by decide +kernel
theorem dX7_countSolved_2 : decode cX7_countSolved 2 = .ok (.iconst 0, 1) := by decide +kernel
theorem dX7_countSolved_3 : decode cX7_countSolved 3 = .ok (.istore_n 2, 1) := by decide +kernel
theorem dX7_countSolved_4 : decode cX7_countSolved 4 = .ok (.iload_n 2, 1) := by decide +kernel
theorem dX7_countSolved_5 : decode cX7_countSolved 5 = .ok (.aload_n 0, 1) := by decide +kernel
theorem dX7_countSolved_6 : decode cX7_countSolved 6 = .ok (.getfield 54, 3) := by decide +kernel
theorem dX7_countSolved_9 : decode cX7_countSolved 9 = .ok (.if_icmp .ge 22, 3) := by decide +kernel
theorem dX7_countSolved_12 : decode cX7_countSolved 12 = .ok (.aload_n 0, 1) := by decide +kernel
theorem dX7_countSolved_13 : decode cX7_countSolved 13 = .ok (.getfield 27, 3) := by decide +kernel
theorem dX7_countSolved_16 : decode cX7_countSolved 16 = .ok (.iload_n 2, 1) := by decide +kernel
theorem dX7_countSolved_17 : decode cX7_countSolved 17 = .ok (.iaload, 1) := by decide +kernel
theorem dX7_countSolved_18 : decode cX7_countSolved 18 = .ok (.iconst 3, 1) := by decide +kernel
theorem dX7_countSolved_19 : decode cX7_countSolved 19 = .ok (.if_icmp .ne 6, 3) := by decide +kernel
theorem dX7_countSolved_22 : decode cX7_countSolved 22 = .ok (.iinc 1 1, 3) := by decide +kernel
theorem dX7_countSolved_25 : decode cX7_countSolved 25 = .ok (.iinc 2 1, 3) := by decide +kernel
theorem dX7_countSolved_28 : decode cX7_countSolved 28 = .ok (.goto (-24), 3) := by decide +kernel
theorem dX7_countSolved_31 : decode cX7_countSolved 31 = .ok (.iload_n 1, 1) := by decide +kernel
theorem dX7_countSolved_32 : decode cX7_countSolved 32 = .ok (.ireturn, 1) := by decide +kernel
theorem dX7_twinMask_0 : decode cX7_twinMask 0 = .ok (.lconst 0, 1) := by decide +kernel
theorem dX7_twinMask_1 : decode cX7_twinMask 1 = .ok (.lstore_n 2, 1) := by decide +kernel
theorem dX7_twinMask_2 : decode cX7_twinMask 2 = .ok (.iconst 0, 1) := by decide +kernel
theorem dX7_twinMask_3 : decode cX7_twinMask 3 = .ok (.istore 4, 2) := by decide +kernel
theorem dX7_twinMask_5 : decode cX7_twinMask 5 = .ok (.iload 4, 2) := by decide +kernel
theorem dX7_twinMask_7 : decode cX7_twinMask 7 = .ok (.aload_n 0, 1) := by decide +kernel
theorem dX7_twinMask_8 : decode cX7_twinMask 8 = .ok (.getfield 54, 3) := by decide +kernel
theorem dX7_twinMask_11 : decode cX7_twinMask 11 = .ok (.if_icmp .ge 27, 3) := by decide +kernel
theorem dX7_twinMask_14 : decode cX7_twinMask 14 = .ok (.aload_n 0, 1) := by decide +kernel
theorem dX7_twinMask_15 : decode cX7_twinMask 15 = .ok (.getfield 42, 3) := by decide +kernel
theorem dX7_twinMask_18 : decode cX7_twinMask 18 = .ok (.iload 4, 2) := by decide +kernel
theorem dX7_twinMask_20 : decode cX7_twinMask 20 = .ok (.iaload, 1) := by decide +kernel
theorem dX7_twinMask_21 : decode cX7_twinMask 21 = .ok (.iload_n 1, 1) := by decide +kernel
theorem dX7_twinMask_22 : decode cX7_twinMask 22 = .ok (.if_icmp .ne 10, 3) := by decide +kernel
theorem dX7_twinMask_25 : decode cX7_twinMask 25 = .ok (.lload_n 2, 1) := by decide +kernel
theorem dX7_twinMask_26 : decode cX7_twinMask 26 = .ok (.lconst 1, 1) := by decide +kernel
theorem dX7_twinMask_27 : decode cX7_twinMask 27 = .ok (.iload 4, 2) := by decide +kernel
theorem dX7_twinMask_29 : decode cX7_twinMask 29 = .ok (.lshl, 1) := by decide +kernel
theorem dX7_twinMask_30 : decode cX7_twinMask 30 = .ok (.lor, 1) := by decide +kernel
theorem dX7_twinMask_31 : decode cX7_twinMask 31 = .ok (.lstore_n 2, 1) := by decide +kernel
theorem dX7_twinMask_32 : decode cX7_twinMask 32 = .ok (.iinc 4 1, 3) := by decide +kernel
theorem dX7_twinMask_35 : decode cX7_twinMask 35 = .ok (.goto (-30), 3) := by decide +kernel
theorem dX7_twinMask_38 : decode cX7_twinMask 38 = .ok (.lload_n 2, 1) := by decide +kernel
theorem dX7_twinMask_39 : decode cX7_twinMask 39 = .ok (.lreturn, 1) := by decide +kernel
theorem dX7_copyFrom_0 : decode cX7_copyFrom 0 = .ok (.aload_n 0, 1) := by decide +kernel
theorem dX7_copyFrom_1 : decode cX7_copyFrom 1 = .ok (.aload_n 1, 1) := by decide +kernel
theorem dX7_copyFrom_2 : decode cX7_copyFrom 2 = .ok (.getfield 54, 3) := by decide +kernel
theorem dX7_copyFrom_5 : decode cX7_copyFrom 5 = .ok (.putfield 54, 3) := by decide +kernel
theorem dX7_copyFrom_8 : decode cX7_copyFrom 8 = .ok (.aload_n 1, 1) := by decide +kernel
theorem dX7_copyFrom_9 : decode cX7_copyFrom 9 = .ok (.getfield 9, 3) := by decide +kernel
theorem dX7_copyFrom_12 : decode cX7_copyFrom 12 = .ok (.iconst 0, 1) := by decide +kernel
theorem dX7_copyFrom_13 : decode cX7_copyFrom 13 = .ok (.aload_n 0, 1) := by decide +kernel
theorem dX7_copyFrom_14 : decode cX7_copyFrom 14 = .ok (.getfield 9, 3) := by decide +kernel
theorem dX7_copyFrom_17 : decode cX7_copyFrom 17 = .ok (.iconst 0, 1) := by decide +kernel
theorem dX7_copyFrom_18 : decode cX7_copyFrom 18 = .ok (.bipush 60, 2) := by decide +kernel
theorem dX7_copyFrom_20 : decode cX7_copyFrom 20 = .ok (.invokestatic 75, 3) := by decide +kernel
theorem dX7_copyFrom_23 : decode cX7_copyFrom 23 = .ok (.aload_n 1, 1) := by decide +kernel
theorem dX7_copyFrom_24 : decode cX7_copyFrom 24 = .ok (.getfield 15, 3) := by decide +kernel
theorem dX7_copyFrom_27 : decode cX7_copyFrom 27 = .ok (.iconst 0, 1) := by decide +kernel
theorem dX7_copyFrom_28 : decode cX7_copyFrom 28 = .ok (.aload_n 0, 1) := by decide +kernel
theorem dX7_copyFrom_29 : decode cX7_copyFrom 29 = .ok (.getfield 15, 3) := by decide +kernel
theorem dX7_copyFrom_32 : decode cX7_copyFrom 32 = .ok (.iconst 0, 1) := by decide +kernel
theorem dX7_copyFrom_33 : decode cX7_copyFrom 33 = .ok (.bipush 60, 2) := by decide +kernel
theorem dX7_copyFrom_35 : decode cX7_copyFrom 35 = .ok (.invokestatic 75, 3) := by decide +kernel
theorem dX7_copyFrom_38 : decode cX7_copyFrom 38 = .ok (.aload_n 1, 1) := by decide +kernel
theorem dX7_copyFrom_39 : decode cX7_copyFrom 39 = .ok (.getfield 18, 3) := by decide +kernel
theorem dX7_copyFrom_42 : decode cX7_copyFrom 42 = .ok (.iconst 0, 1) := by decide +kernel
theorem dX7_copyFrom_43 : decode cX7_copyFrom 43 = .ok (.aload_n 0, 1) := by decide +kernel
theorem dX7_copyFrom_44 : decode cX7_copyFrom 44 = .ok (.getfield 18, 3) := by decide +kernel
theorem dX7_copyFrom_47 : decode cX7_copyFrom 47 = .ok (.iconst 0, 1) := by decide +kernel
theorem dX7_copyFrom_48 : decode cX7_copyFrom 48 = .ok (.bipush 60, 2) := by decide +kernel
theorem dX7_copyFrom_50 : decode cX7_copyFrom 50 = .ok (.invokestatic 75, 3) := by decide +kernel
theorem dX7_copyFrom_53 : decode cX7_copyFrom 53 = .ok (.aload_n 1, 1) := by decide +kernel
theorem dX7_copyFrom_54 : decode cX7_copyFrom 54 = .ok (.getfield 21, 3) := by decide +kernel
theorem dX7_copyFrom_57 : decode cX7_copyFrom 57 = .ok (.iconst 0, 1) := by decide +kernel
theorem dX7_copyFrom_58 : decode cX7_copyFrom 58 = .ok (.aload_n 0, 1) := by decide +kernel
theorem dX7_copyFrom_59 : decode cX7_copyFrom 59 = .ok (.getfield 21, 3) := by decide +kernel
theorem dX7_copyFrom_62 : decode cX7_copyFrom 62 = .ok (.iconst 0, 1) := by decide +kernel
theorem dX7_copyFrom_63 : decode cX7_copyFrom 63 = .ok (.bipush 60, 2) := by decide +kernel
theorem dX7_copyFrom_65 : decode cX7_copyFrom 65 = .ok (.invokestatic 75, 3) := by decide +kernel
theorem dX7_copyFrom_68 : decode cX7_copyFrom 68 = .ok (.aload_n 1, 1) := by decide +kernel
theorem dX7_copyFrom_69 : decode cX7_copyFrom 69 = .ok (.getfield 24, 3) := by decide +kernel
theorem dX7_copyFrom_72 : decode cX7_copyFrom 72 = .ok (.iconst 0, 1) := by decide +kernel
theorem dX7_copyFrom_73 : decode cX7_copyFrom 73 = .ok (.aload_n 0, 1) := by decide +kernel
theorem dX7_copyFrom_74 : decode cX7_copyFrom 74 = .ok (.getfield 24, 3) := by decide +kernel
theorem dX7_copyFrom_77 : decode cX7_copyFrom 77 = .ok (.iconst 0, 1) := by decide +kernel
theorem dX7_copyFrom_78 : decode cX7_copyFrom 78 = .ok (.bipush 60, 2) := by decide +kernel
theorem dX7_copyFrom_80 : decode cX7_copyFrom 80 = .ok (.invokestatic 75, 3) := by decide +kernel
theorem dX7_copyFrom_83 : decode cX7_copyFrom 83 = .ok (.aload_n 1, 1) := by decide +kernel
theorem dX7_copyFrom_84 : decode cX7_copyFrom 84 = .ok (.getfield 27, 3) := by decide +kernel
theorem dX7_copyFrom_87 : decode cX7_copyFrom 87 = .ok (.iconst 0, 1) := by decide +kernel
theorem dX7_copyFrom_88 : decode cX7_copyFrom 88 = .ok (.aload_n 0, 1) := by decide +kernel
theorem dX7_copyFrom_89 : decode cX7_copyFrom 89 = .ok (.getfield 27, 3) := by decide +kernel
theorem dX7_copyFrom_92 : decode cX7_copyFrom 92 = .ok (.iconst 0, 1) := by decide +kernel
theorem dX7_copyFrom_93 : decode cX7_copyFrom 93 = .ok (.bipush 60, 2) := by decide +kernel
theorem dX7_copyFrom_95 : decode cX7_copyFrom 95 = .ok (.invokestatic 75, 3) := by decide +kernel
theorem dX7_copyFrom_98 : decode cX7_copyFrom 98 = .ok (.aload_n 1, 1) := by decide +kernel
theorem dX7_copyFrom_99 : decode cX7_copyFrom 99 = .ok (.getfield 30, 3) := by decide +kernel
theorem dX7_copyFrom_102 : decode cX7_copyFrom 102 = .ok (.iconst 0, 1) := by decide +kernel
theorem dX7_copyFrom_103 : decode cX7_copyFrom 103 = .ok (.aload_n 0, 1) := by decide +kernel
theorem dX7_copyFrom_104 : decode cX7_copyFrom 104 = .ok (.getfield 30, 3) := by decide +kernel
theorem dX7_copyFrom_107 : decode cX7_copyFrom 107 = .ok (.iconst 0, 1) := by decide +kernel
theorem dX7_copyFrom_108 : decode cX7_copyFrom 108 = .ok (.bipush 60, 2) := by decide +kernel
theorem dX7_copyFrom_110 : decode cX7_copyFrom 110 = .ok (.invokestatic 75, 3) := by decide +kernel
theorem dX7_copyFrom_113 : decode cX7_copyFrom 113 = .ok (.aload_n 1, 1) := by decide +kernel
theorem dX7_copyFrom_114 : decode cX7_copyFrom 114 = .ok (.getfield 33, 3) := by decide +kernel
theorem dX7_copyFrom_117 : decode cX7_copyFrom 117 = .ok (.iconst 0, 1) := by decide +kernel
theorem dX7_copyFrom_118 : decode cX7_copyFrom 118 = .ok (.aload_n 0, 1) := by decide +kernel
theorem dX7_copyFrom_119 : decode cX7_copyFrom 119 = .ok (.getfield 33, 3) := by decide +kernel
theorem dX7_copyFrom_122 : decode cX7_copyFrom 122 = .ok (.iconst 0, 1) := by decide +kernel
theorem dX7_copyFrom_123 : decode cX7_copyFrom 123 = .ok (.bipush 60, 2) := by decide +kernel
theorem dX7_copyFrom_125 : decode cX7_copyFrom 125 = .ok (.invokestatic 75, 3) := by decide +kernel
theorem dX7_copyFrom_128 : decode cX7_copyFrom 128 = .ok (.aload_n 1, 1) := by decide +kernel
theorem dX7_copyFrom_129 : decode cX7_copyFrom 129 = .ok (.getfield 36, 3) := by decide +kernel
theorem dX7_copyFrom_132 : decode cX7_copyFrom 132 = .ok (.iconst 0, 1) := by decide +kernel
theorem dX7_copyFrom_133 : decode cX7_copyFrom 133 = .ok (.aload_n 0, 1) := by decide +kernel
theorem dX7_copyFrom_134 : decode cX7_copyFrom 134 = .ok (.getfield 36, 3) := by decide +kernel
theorem dX7_copyFrom_137 : decode cX7_copyFrom 137 = .ok (.iconst 0, 1) := by decide +kernel
theorem dX7_copyFrom_138 : decode cX7_copyFrom 138 = .ok (.bipush 60, 2) := by decide +kernel
theorem dX7_copyFrom_140 : decode cX7_copyFrom 140 = .ok (.invokestatic 75, 3) := by decide +kernel
theorem dX7_copyFrom_143 : decode cX7_copyFrom 143 = .ok (.aload_n 1, 1) := by decide +kernel
theorem dX7_copyFrom_144 : decode cX7_copyFrom 144 = .ok (.getfield 39, 3) := by decide +kernel
theorem dX7_copyFrom_147 : decode cX7_copyFrom 147 = .ok (.iconst 0, 1) := by decide +kernel
theorem dX7_copyFrom_148 : decode cX7_copyFrom 148 = .ok (.aload_n 0, 1) := by decide +kernel
theorem dX7_copyFrom_149 : decode cX7_copyFrom 149 = .ok (.getfield 39, 3) := by decide +kernel
theorem dX7_copyFrom_152 : decode cX7_copyFrom 152 = .ok (.iconst 0, 1) := by decide +kernel
theorem dX7_copyFrom_153 : decode cX7_copyFrom 153 = .ok (.bipush 60, 2) := by decide +kernel
theorem dX7_copyFrom_155 : decode cX7_copyFrom 155 = .ok (.invokestatic 75, 3) := by decide +kernel
theorem dX7_copyFrom_158 : decode cX7_copyFrom 158 = .ok (.aload_n 1, 1) := by decide +kernel
theorem dX7_copyFrom_159 : decode cX7_copyFrom 159 = .ok (.getfield 42, 3) := by decide +kernel
theorem dX7_copyFrom_162 : decode cX7_copyFrom 162 = .ok (.iconst 0, 1) := by decide +kernel
theorem dX7_copyFrom_163 : decode cX7_copyFrom 163 = .ok (.aload_n 0, 1) := by decide +kernel
theorem dX7_copyFrom_164 : decode cX7_copyFrom 164 = .ok (.getfield 42, 3) := by decide +kernel
theorem dX7_copyFrom_167 : decode cX7_copyFrom 167 = .ok (.iconst 0, 1) := by decide +kernel
theorem dX7_copyFrom_168 : decode cX7_copyFrom 168 = .ok (.bipush 60, 2) := by decide +kernel
theorem dX7_copyFrom_170 : decode cX7_copyFrom 170 = .ok (.invokestatic 75, 3) := by decide +kernel
theorem dX7_copyFrom_173 : decode cX7_copyFrom 173 = .ok (.aload_n 1, 1) := by decide +kernel
theorem dX7_copyFrom_174 : decode cX7_copyFrom 174 = .ok (.getfield 45, 3) := by decide +kernel
theorem dX7_copyFrom_177 : decode cX7_copyFrom 177 = .ok (.iconst 0, 1) := by decide +kernel
theorem dX7_copyFrom_178 : decode cX7_copyFrom 178 = .ok (.aload_n 0, 1) := by decide +kernel
theorem dX7_copyFrom_179 : decode cX7_copyFrom 179 = .ok (.getfield 45, 3) := by decide +kernel
theorem dX7_copyFrom_182 : decode cX7_copyFrom 182 = .ok (.iconst 0, 1) := by decide +kernel
theorem dX7_copyFrom_183 : decode cX7_copyFrom 183 = .ok (.bipush 60, 2) := by decide +kernel
theorem dX7_copyFrom_185 : decode cX7_copyFrom 185 = .ok (.invokestatic 75, 3) := by decide +kernel
theorem dX7_copyFrom_188 : decode cX7_copyFrom 188 = .ok (.aload_n 1, 1) := by decide +kernel
theorem dX7_copyFrom_189 : decode cX7_copyFrom 189 = .ok (.getfield 48, 3) := by decide +kernel
theorem dX7_copyFrom_192 : decode cX7_copyFrom 192 = .ok (.iconst 0, 1) := by decide +kernel
theorem dX7_copyFrom_193 : decode cX7_copyFrom 193 = .ok (.aload_n 0, 1) := by decide +kernel
theorem dX7_copyFrom_194 : decode cX7_copyFrom 194 = .ok (.getfield 48, 3) := by decide +kernel
theorem dX7_copyFrom_197 : decode cX7_copyFrom 197 = .ok (.iconst 0, 1) := by decide +kernel
theorem dX7_copyFrom_198 : decode cX7_copyFrom 198 = .ok (.bipush 60, 2) := by decide +kernel
theorem dX7_copyFrom_200 : decode cX7_copyFrom 200 = .ok (.invokestatic 75, 3) := by decide +kernel
theorem dX7_copyFrom_203 : decode cX7_copyFrom 203 = .ok (.aload_n 1, 1) := by decide +kernel
theorem dX7_copyFrom_204 : decode cX7_copyFrom 204 = .ok (.getfield 51, 3) := by decide +kernel
theorem dX7_copyFrom_207 : decode cX7_copyFrom 207 = .ok (.iconst 0, 1) := by decide +kernel
theorem dX7_copyFrom_208 : decode cX7_copyFrom 208 = .ok (.aload_n 0, 1) := by decide +kernel
theorem dX7_copyFrom_209 : decode cX7_copyFrom 209 = .ok (.getfield 51, 3) := by decide +kernel
theorem dX7_copyFrom_212 : decode cX7_copyFrom 212 = .ok (.iconst 0, 1) := by decide +kernel
theorem dX7_copyFrom_213 : decode cX7_copyFrom 213 = .ok (.bipush 60, 2) := by decide +kernel
theorem dX7_copyFrom_215 : decode cX7_copyFrom 215 = .ok (.invokestatic 75, 3) := by decide +kernel
theorem dX7_copyFrom_218 : decode cX7_copyFrom 218 = .ok (.return_, 1) := by decide +kernel
theorem dX8_init_0 : decode cX8_init 0 = .ok (.aload_n 0, 1) := by decide +kernel
theorem dX8_init_1 : decode cX8_init 1 = .ok (.invokespecial 3, 3) := by decide +kernel
theorem dX8_init_4 : decode cX8_init 4 = .ok (.aload_n 0, 1) := by decide +kernel
theorem dX8_init_5 : decode cX8_init 5 = .ok (.new 9, 3) := by decide +kernel
theorem dX8_init_8 : decode cX8_init 8 = .ok (.dup, 1) := by decide +kernel
theorem dX8_init_9 : decode cX8_init 9 = .ok (.invokespecial 11, 3) := by decide +kernel
theorem dX8_init_12 : decode cX8_init 12 = .ok (.putfield 12, 3) := by decide +kernel
theorem dX8_init_15 : decode cX8_init 15 = .ok (.aload_n 0, 1) := by decide +kernel
theorem dX8_init_16 : decode cX8_init 16 = .ok (.iconst 2, 1) := by decide +kernel
theorem dX8_init_17 : decode cX8_init 17 = .ok (.anewarray 9, 3) := by decide +kernel
theorem dX8_init_20 : decode cX8_init 20 = .ok (.putfield 16, 3) := by decide +kernel
theorem dX8_init_23 : decode cX8_init 23 = .ok (.aload_n 0, 1) := by decide +kernel
theorem dX8_init_24 : decode cX8_init 24 = .ok (.new 20, 3) := by decide +kernel
theorem dX8_init_27 : decode cX8_init 27 = .ok (.dup, 1) := by decide +kernel
theorem dX8_init_28 : decode cX8_init 28 = .ok (.iconst 0, 1) := by decide +kernel
theorem dX8_init_29 : decode cX8_init 29 = .ok (.invokespecial 22, 3) := by decide +kernel
theorem dX8_init_32 : decode cX8_init 32 = .ok (.putfield 25, 3) := by decide +kernel
theorem dX8_init_35 : decode cX8_init 35 = .ok (.aload_n 0, 1) := by decide +kernel
theorem dX8_init_36 : decode cX8_init 36 = .ok (.new 29, 3) := by decide +kernel
theorem dX8_init_39 : decode cX8_init 39 = .ok (.dup, 1) := by decide +kernel
theorem dX8_init_40 : decode cX8_init 40 = .ok (.invokespecial 31, 3) := by decide +kernel
theorem dX8_init_43 : decode cX8_init 43 = .ok (.putfield 32, 3) := by decide +kernel
theorem dX8_init_46 : decode cX8_init 46 = .ok (.return_, 1) := by decide +kernel
theorem dX8_openMinutes_0 : decode cX8_openMinutes 0 = .ok (.iload_n 1, 1) := by decide +kernel
theorem dX8_openMinutes_1 : decode cX8_openMinutes 1 = .ok (.iconst 0, 1) := by decide +kernel
theorem dX8_openMinutes_2 : decode cX8_openMinutes 2 = .ok (.sipush 10080, 3) := by decide +kernel
theorem dX8_openMinutes_5 : decode cX8_openMinutes 5 = .ok (.invokestatic 40, 3) := by decide +kernel
theorem dX8_openMinutes_8 : decode cX8_openMinutes 8 = .ok (.ifCond .eq 14, 3) := by decide +kernel
theorem dX8_openMinutes_11 : decode cX8_openMinutes 11 = .ok (.iload_n 2, 1) := by decide +kernel
theorem dX8_openMinutes_12 : decode cX8_openMinutes 12 = .ok (.iload_n 1, 1) := by decide +kernel
theorem dX8_openMinutes_13 : decode cX8_openMinutes 13 = .ok (.sipush 10080, 3) := by decide +kernel
theorem dX8_openMinutes_16 : decode cX8_openMinutes 16 = .ok (.invokestatic 40, 3) := by decide +kernel
theorem dX8_openMinutes_19 : decode cX8_openMinutes 19 = .ok (.ifCond .ne 6, 3) := by decide +kernel
theorem dX8_openMinutes_22 : decode cX8_openMinutes 22 = .ok (.bipush (-4), 2) := by decide +kernel
theorem dX8_openMinutes_24 : decode cX8_openMinutes 24 = .ok (.ireturn, 1) := by decide +kernel
theorem dX8_openMinutes_25 : decode cX8_openMinutes 25 = .ok (.aload_n 0, 1) := by decide +kernel
theorem dX8_openMinutes_26 : decode cX8_openMinutes 26 = .ok (.getfield 12, 3) := by decide +kernel
theorem dX8_openMinutes_29 : decode cX8_openMinutes 29 = .ok (.getfield 44, 3) := by decide +kernel
theorem dX8_openMinutes_32 : decode cX8_openMinutes 32 = .ok (.getfield 47, 3) := by decide +kernel
theorem dX8_openMinutes_35 : decode cX8_openMinutes 35 = .ok (.iload_n 1, 1) := by decide +kernel
theorem dX8_openMinutes_36 : decode cX8_openMinutes 36 = .ok (.iload_n 2, 1) := by decide +kernel
theorem dX8_openMinutes_37 : decode cX8_openMinutes 37 = .ok (.invokevirtual 64, 3) := by decide +kernel
theorem dX8_openMinutes_40 : decode cX8_openMinutes 40 = .ok (.ireturn, 1) := by decide +kernel
theorem dX8_addKind_0 : decode cX8_addKind 0 = .ok (.iload_n 1, 1) := by decide +kernel
theorem dX8_addKind_1 : decode cX8_addKind 1 = .ok (.iconst 0, 1) := by decide +kernel
theorem dX8_addKind_2 : decode cX8_addKind 2 = .ok (.sipush 10080, 3) := by decide +kernel
theorem dX8_addKind_5 : decode cX8_addKind 5 = .ok (.invokestatic 40, 3) := by decide +kernel
theorem dX8_addKind_8 : decode cX8_addKind 8 = .ok (.ifCond .eq 47, 3) := by decide +kernel
theorem dX8_addKind_11 : decode cX8_addKind 11 = .ok (.iload_n 2, 1) := by decide +kernel
theorem dX8_addKind_12 : decode cX8_addKind 12 = .ok (.iconst 0, 1) := by decide +kernel
theorem dX8_addKind_13 : decode cX8_addKind 13 = .ok (.sipush 10080, 3) := by decide +kernel
theorem dX8_addKind_16 : decode cX8_addKind 16 = .ok (.invokestatic 40, 3) := by decide +kernel
theorem dX8_addKind_19 : decode cX8_addKind 19 = .ok (.ifCond .eq 36, 3) := by decide +kernel
theorem dX8_addKind_22 : decode cX8_addKind 22 = .ok (.iload_n 3, 1) := by decide +kernel
theorem dX8_addKind_23 : decode cX8_addKind 23 = .ok (.iconst 1, 1) := by decide +kernel
theorem dX8_addKind_24 : decode cX8_addKind 24 = .ok (.sipush 480, 3) := by decide +kernel
theorem dX8_addKind_27 : decode cX8_addKind 27 = .ok (.invokestatic 40, 3) := by decide +kernel
theorem dX8_addKind_30 : decode cX8_addKind 30 = .ok (.ifCond .eq 25, 3) := by decide +kernel
theorem dX8_addKind_33 : decode cX8_addKind 33 = .ok (.iload 4, 2) := by decide +kernel
theorem dX8_addKind_35 : decode cX8_addKind 35 = .ok (.iconst 0, 1) := by decide +kernel
theorem dX8_addKind_36 : decode cX8_addKind 36 = .ok (.iconst 3, 1) := by decide +kernel
theorem dX8_addKind_37 : decode cX8_addKind 37 = .ok (.invokestatic 40, 3) := by decide +kernel
theorem dX8_addKind_40 : decode cX8_addKind 40 = .ok (.ifCond .eq 15, 3) := by decide +kernel
theorem dX8_addKind_43 : decode cX8_addKind 43 = .ok (.iload 5, 2) := by decide +kernel
theorem dX8_addKind_45 : decode cX8_addKind 45 = .ok (.iconst 0, 1) := by decide +kernel
theorem dX8_addKind_46 : decode cX8_addKind 46 = .ok (.sipush 10080, 3) := by decide +kernel
theorem dX8_addKind_49 : decode cX8_addKind 49 = .ok (.invokestatic 40, 3) := by decide +kernel
theorem dX8_addKind_52 : decode cX8_addKind 52 = .ok (.ifCond .ne 6, 3) := by decide +kernel
theorem dX8_addKind_55 : decode cX8_addKind 55 = .ok (.bipush (-4), 2) := by decide +kernel
theorem dX8_addKind_57 : decode cX8_addKind 57 = .ok (.ireturn, 1) := by decide +kernel
theorem dX8_addKind_58 : decode cX8_addKind 58 = .ok (.aload_n 0, 1) := by decide +kernel
theorem dX8_addKind_59 : decode cX8_addKind 59 = .ok (.getfield 12, 3) := by decide +kernel
theorem dX8_addKind_62 : decode cX8_addKind 62 = .ok (.getfield 44, 3) := by decide +kernel
theorem dX8_addKind_65 : decode cX8_addKind 65 = .ok (.getfield 68, 3) := by decide +kernel
theorem dX8_addKind_68 : decode cX8_addKind 68 = .ok (.iload_n 1, 1) := by decide +kernel
theorem dX8_addKind_69 : decode cX8_addKind 69 = .ok (.iload_n 2, 1) := by decide +kernel
theorem dX8_addKind_70 : decode cX8_addKind 70 = .ok (.iload_n 3, 1) := by decide +kernel
theorem dX8_addKind_71 : decode cX8_addKind 71 = .ok (.iload 4, 2) := by decide +kernel
theorem dX8_addKind_73 : decode cX8_addKind 73 = .ok (.iload 5, 2) := by decide +kernel
theorem dX8_addKind_75 : decode cX8_addKind 75 = .ok (.iload 6, 2) := by decide +kernel
theorem dX8_addKind_77 : decode cX8_addKind 77 = .ok (.invokevirtual 72, 3) := by decide +kernel
theorem dX8_addKind_80 : decode cX8_addKind 80 = .ok (.ireturn, 1) := by decide +kernel
theorem dX8_setAgents_0 : decode cX8_setAgents 0 = .ok (.aload_n 0, 1) := by decide +kernel
theorem dX8_setAgents_1 : decode cX8_setAgents 1 = .ok (.iconst 2, 1) := by decide +kernel
theorem dX8_setAgents_2 : decode cX8_setAgents 2 = .ok (.iload_n 1, 1) := by decide +kernel
theorem dX8_setAgents_3 : decode cX8_setAgents 3 = .ok (.iload_n 2, 1) := by decide +kernel
theorem dX8_setAgents_4 : decode cX8_setAgents 4 = .ok (.iconst 0, 1) := by decide +kernel
theorem dX8_setAgents_5 : decode cX8_setAgents 5 = .ok (.iconst 0, 1) := by decide +kernel
theorem dX8_setAgents_6 : decode cX8_setAgents 6 = .ok (.invokevirtual 36, 3) := by decide +kernel
theorem dX8_setAgents_9 : decode cX8_setAgents 9 = .ok (.ireturn, 1) := by decide +kernel
theorem dX8_agents_0 : decode cX8_agents 0 = .ok (.iload_n 1, 1) := by decide +kernel
theorem dX8_agents_1 : decode cX8_agents 1 = .ok (.iconst 0, 1) := by decide +kernel
theorem dX8_agents_2 : decode cX8_agents 2 = .ok (.iconst 3, 1) := by decide +kernel
theorem dX8_agents_3 : decode cX8_agents 3 = .ok (.invokestatic 40, 3) := by decide +kernel
theorem dX8_agents_6 : decode cX8_agents 6 = .ok (.ifCond .eq 18, 3) := by decide +kernel
theorem dX8_agents_9 : decode cX8_agents 9 = .ok (.aload_n 0, 1) := by decide +kernel
theorem dX8_agents_10 : decode cX8_agents 10 = .ok (.getfield 12, 3) := by decide +kernel
theorem dX8_agents_13 : decode cX8_agents 13 = .ok (.getfield 44, 3) := by decide +kernel
theorem dX8_agents_16 : decode cX8_agents 16 = .ok (.getfield 82, 3) := by decide +kernel
theorem dX8_agents_19 : decode cX8_agents 19 = .ok (.iload_n 1, 1) := by decide +kernel
theorem dX8_agents_20 : decode cX8_agents 20 = .ok (.iaload, 1) := by decide +kernel
theorem dX8_agents_21 : decode cX8_agents 21 = .ok (.goto 5, 3) := by decide +kernel
theorem dX8_agents_24 : decode cX8_agents 24 = .ok (.bipush (-4), 2) := by decide +kernel
theorem dX8_agents_26 : decode cX8_agents 26 = .ok (.ireturn, 1) := by decide +kernel
theorem dX8_report_0 : decode cX8_report 0 = .ok (.aload_n 0, 1) := by decide +kernel
theorem dX8_report_1 : decode cX8_report 1 = .ok (.iconst 3, 1) := by decide +kernel
theorem dX8_report_2 : decode cX8_report 2 = .ok (.iload_n 1, 1) := by decide +kernel
theorem dX8_report_3 : decode cX8_report 3 = .ok (.iload_n 2, 1) := by decide +kernel
theorem dX8_report_4 : decode cX8_report 4 = .ok (.iload_n 3, 1) := by decide +kernel
theorem dX8_report_5 : decode cX8_report 5 = .ok (.iload 4, 2) := by decide +kernel
theorem dX8_report_7 : decode cX8_report 7 = .ok (.invokevirtual 36, 3) := by decide +kernel
theorem dX8_report_10 : decode cX8_report 10 = .ok (.ireturn, 1) := by decide +kernel
theorem dX8_pause_0 : decode cX8_pause 0 = .ok (.aload_n 0, 1) := by decide +kernel
theorem dX8_pause_1 : decode cX8_pause 1 = .ok (.iconst 4, 1) := by decide +kernel
theorem dX8_pause_2 : decode cX8_pause 2 = .ok (.iload_n 1, 1) := by decide +kernel
theorem dX8_pause_3 : decode cX8_pause 3 = .ok (.iconst 0, 1) := by decide +kernel
theorem dX8_pause_4 : decode cX8_pause 4 = .ok (.iconst 0, 1) := by decide +kernel
theorem dX8_pause_5 : decode cX8_pause 5 = .ok (.iconst 0, 1) := by decide +kernel
theorem dX8_pause_6 : decode cX8_pause 6 = .ok (.invokevirtual 36, 3) := by decide +kernel
theorem dX8_pause_9 : decode cX8_pause 9 = .ok (.ireturn, 1) := by decide +kernel
theorem dX8_resume_0 : decode cX8_resume 0 = .ok (.aload_n 0, 1) := by decide +kernel
theorem dX8_resume_1 : decode cX8_resume 1 = .ok (.iconst 5, 1) := by decide +kernel
theorem dX8_resume_2 : decode cX8_resume 2 = .ok (.iload_n 1, 1) := by decide +kernel
theorem dX8_resume_3 : decode cX8_resume 3 = .ok (.iconst 0, 1) := by decide +kernel
theorem dX8_resume_4 : decode cX8_resume 4 = .ok (.iconst 0, 1) := by decide +kernel
theorem dX8_resume_5 : decode cX8_resume 5 = .ok (.iconst 0, 1) := by decide +kernel
theorem dX8_resume_6 : decode cX8_resume 6 = .ok (.invokevirtual 36, 3) := by decide +kernel
theorem dX8_resume_9 : decode cX8_resume 9 = .ok (.ireturn, 1) := by decide +kernel
theorem dX8_climb_0 : decode cX8_climb 0 = .ok (.aload_n 0, 1) := by decide +kernel
theorem dX8_climb_1 : decode cX8_climb 1 = .ok (.bipush 6, 2) := by decide +kernel
theorem dX8_climb_3 : decode cX8_climb 3 = .ok (.iload_n 1, 1) := by decide +kernel
theorem dX8_climb_4 : decode cX8_climb 4 = .ok (.iconst 0, 1) := by decide +kernel
theorem dX8_climb_5 : decode cX8_climb 5 = .ok (.iconst 0, 1) := by decide +kernel
theorem dX8_climb_6 : decode cX8_climb 6 = .ok (.iconst 0, 1) := by decide +kernel
theorem dX8_climb_7 : decode cX8_climb 7 = .ok (.invokevirtual 36, 3) := by decide +kernel
theorem dX8_climb_10 : decode cX8_climb 10 = .ok (.ireturn, 1) := by decide +kernel
theorem dX8_solve_0 : decode cX8_solve 0 = .ok (.aload_n 0, 1) := by decide +kernel
theorem dX8_solve_1 : decode cX8_solve 1 = .ok (.bipush 7, 2) := by decide +kernel
theorem dX8_solve_3 : decode cX8_solve 3 = .ok (.iload_n 1, 1) := by decide +kernel
theorem dX8_solve_4 : decode cX8_solve 4 = .ok (.iconst 0, 1) := by decide +kernel
theorem dX8_solve_5 : decode cX8_solve 5 = .ok (.iconst 0, 1) := by decide +kernel
theorem dX8_solve_6 : decode cX8_solve 6 = .ok (.iconst 0, 1) := by decide +kernel
theorem dX8_solve_7 : decode cX8_solve 7 = .ok (.invokevirtual 36, 3) := by decide +kernel
theorem dX8_solve_10 : decode cX8_solve 10 = .ok (.ireturn, 1) := by decide +kernel
theorem dX8_reopen_0 : decode cX8_reopen 0 = .ok (.aload_n 0, 1) := by decide +kernel
theorem dX8_reopen_1 : decode cX8_reopen 1 = .ok (.bipush 8, 2) := by decide +kernel
theorem dX8_reopen_3 : decode cX8_reopen 3 = .ok (.iload_n 1, 1) := by decide +kernel
theorem dX8_reopen_4 : decode cX8_reopen 4 = .ok (.iconst 0, 1) := by decide +kernel
theorem dX8_reopen_5 : decode cX8_reopen 5 = .ok (.iconst 0, 1) := by decide +kernel
theorem dX8_reopen_6 : decode cX8_reopen 6 = .ok (.iconst 0, 1) := by decide +kernel
theorem dX8_reopen_7 : decode cX8_reopen 7 = .ok (.invokevirtual 36, 3) := by decide +kernel
theorem dX8_reopen_10 : decode cX8_reopen 10 = .ok (.ireturn, 1) := by decide +kernel
theorem dX8_join_0 : decode cX8_join 0 = .ok (.aload_n 0, 1) := by decide +kernel
theorem dX8_join_1 : decode cX8_join 1 = .ok (.bipush 9, 2) := by decide +kernel
theorem dX8_join_3 : decode cX8_join 3 = .ok (.iload_n 1, 1) := by decide +kernel
theorem dX8_join_4 : decode cX8_join 4 = .ok (.iload_n 2, 1) := by decide +kernel
theorem dX8_join_5 : decode cX8_join 5 = .ok (.iconst 0, 1) := by decide +kernel
theorem dX8_join_6 : decode cX8_join 6 = .ok (.iconst 0, 1) := by decide +kernel
theorem dX8_join_7 : decode cX8_join 7 = .ok (.invokevirtual 36, 3) := by decide +kernel
theorem dX8_join_10 : decode cX8_join 10 = .ok (.ireturn, 1) := by decide +kernel
theorem dX8_part_0 : decode cX8_part 0 = .ok (.aload_n 0, 1) := by decide +kernel
theorem dX8_part_1 : decode cX8_part 1 = .ok (.bipush 10, 2) := by decide +kernel
theorem dX8_part_3 : decode cX8_part 3 = .ok (.iload_n 1, 1) := by decide +kernel
theorem dX8_part_4 : decode cX8_part 4 = .ok (.iconst 0, 1) := by decide +kernel
theorem dX8_part_5 : decode cX8_part 5 = .ok (.iconst 0, 1) := by decide +kernel
theorem dX8_part_6 : decode cX8_part 6 = .ok (.iconst 0, 1) := by decide +kernel
theorem dX8_part_7 : decode cX8_part 7 = .ok (.invokevirtual 36, 3) := by decide +kernel
theorem dX8_part_10 : decode cX8_part 10 = .ok (.ireturn, 1) := by decide +kernel
theorem dX8_setPriority_0 : decode cX8_setPriority 0 = .ok (.aload_n 0, 1) := by decide +kernel
theorem dX8_setPriority_1 : decode cX8_setPriority 1 = .ok (.bipush 11, 2) := by decide +kernel
theorem dX8_setPriority_3 : decode cX8_setPriority 3 = .ok (.iload_n 1, 1) := by decide +kernel
theorem dX8_setPriority_4 : decode cX8_setPriority 4 = .ok (.iload_n 2, 1) := by decide +kernel
theorem dX8_setPriority_5 : decode cX8_setPriority 5 = .ok (.iconst 0, 1) := by decide +kernel
theorem dX8_setPriority_6 : decode cX8_setPriority 6 = .ok (.iconst 0, 1) := by decide +kernel
theorem dX8_setPriority_7 : decode cX8_setPriority 7 = .ok (.invokevirtual 36, 3) := by decide +kernel
theorem dX8_setPriority_10 : decode cX8_setPriority 10 = .ok (.ireturn, 1) := by decide +kernel
theorem dX8_change_0 : decode cX8_change 0 = .ok (.aload_n 0, 1) := by decide +kernel
theorem dX8_change_1 : decode cX8_change 1 = .ok (.getfield 12, 3) := by decide +kernel
theorem dX8_change_4 : decode cX8_change 4 = .ok (.getfield 44, 3) := by decide +kernel
theorem dX8_change_7 : decode cX8_change 7 = .ok (.iload_n 1, 1) := by decide +kernel
theorem dX8_change_8 : decode cX8_change 8 = .ok (.iload_n 2, 1) := by decide +kernel
theorem dX8_change_9 : decode cX8_change 9 = .ok (.iload_n 3, 1) := by decide +kernel
theorem dX8_change_10 : decode cX8_change 10 = .ok (.iload 4, 2) := by decide +kernel
theorem dX8_change_12 : decode cX8_change 12 = .ok (.iload 5, 2) := by decide +kernel
theorem dX8_change_14 : decode cX8_change 14 = .ok (.invokevirtual 85, 3) := by decide +kernel
theorem dX8_change_17 : decode cX8_change 17 = .ok (.istore 6, 2) := by decide +kernel
theorem dX8_change_19 : decode cX8_change 19 = .ok (.iload 6, 2) := by decide +kernel
theorem dX8_change_21 : decode cX8_change 21 = .ok (.ifCond .eq 6, 3) := by decide +kernel
theorem dX8_change_24 : decode cX8_change 24 = .ok (.iload 6, 2) := by decide +kernel
theorem dX8_change_26 : decode cX8_change 26 = .ok (.ireturn, 1) := by decide +kernel
theorem dX8_change_27 : decode cX8_change 27 = .ok (.aload_n 0, 1) := by decide +kernel
theorem dX8_change_28 : decode cX8_change 28 = .ok (.getfield 12, 3) := by decide +kernel
theorem dX8_change_31 : decode cX8_change 31 = .ok (.getfield 88, 3) := by decide +kernel
theorem dX8_change_34 : decode cX8_change 34 = .ok (.aload_n 0, 1) := by decide +kernel
theorem dX8_change_35 : decode cX8_change 35 = .ok (.getfield 12, 3) := by decide +kernel
theorem dX8_change_38 : decode cX8_change 38 = .ok (.getfield 44, 3) := by decide +kernel
theorem dX8_change_41 : decode cX8_change 41 = .ok (.getfield 92, 3) := by decide +kernel
theorem dX8_change_44 : decode cX8_change 44 = .ok (.iload_n 1, 1) := by decide +kernel
theorem dX8_change_45 : decode cX8_change 45 = .ok (.iload_n 2, 1) := by decide +kernel
theorem dX8_change_46 : decode cX8_change 46 = .ok (.iload_n 3, 1) := by decide +kernel
theorem dX8_change_47 : decode cX8_change 47 = .ok (.iload 4, 2) := by decide +kernel
theorem dX8_change_49 : decode cX8_change 49 = .ok (.iload 5, 2) := by decide +kernel
theorem dX8_change_51 : decode cX8_change 51 = .ok (.invokevirtual 95, 3) := by decide +kernel
theorem dX8_change_54 : decode cX8_change 54 = .ok (.ifCond .ne 6, 3) := by decide +kernel
theorem dX8_change_57 : decode cX8_change 57 = .ok (.bipush (-6), 2) := by decide +kernel
theorem dX8_change_59 : decode cX8_change 59 = .ok (.ireturn, 1) := by decide +kernel
theorem dX8_change_60 : decode cX8_change 60 = .ok (.aload_n 0, 1) := by decide +kernel
theorem dX8_change_61 : decode cX8_change 61 = .ok (.getfield 12, 3) := by decide +kernel
theorem dX8_change_64 : decode cX8_change 64 = .ok (.getfield 44, 3) := by decide +kernel
theorem dX8_change_67 : decode cX8_change 67 = .ok (.iload_n 1, 1) := by decide +kernel
theorem dX8_change_68 : decode cX8_change 68 = .ok (.iload_n 2, 1) := by decide +kernel
theorem dX8_change_69 : decode cX8_change 69 = .ok (.iload_n 3, 1) := by decide +kernel
theorem dX8_change_70 : decode cX8_change 70 = .ok (.iload 4, 2) := by decide +kernel
theorem dX8_change_72 : decode cX8_change 72 = .ok (.iload 5, 2) := by decide +kernel
theorem dX8_change_74 : decode cX8_change 74 = .ok (.invokevirtual 101, 3) := by decide +kernel
theorem dX8_change_77 : decode cX8_change 77 = .ok (.ireturn, 1) := by decide +kernel
theorem dX8_pass_0 : decode cX8_pass 0 = .ok (.aload_n 0, 1) := by decide +kernel
theorem dX8_pass_1 : decode cX8_pass 1 = .ok (.getfield 12, 3) := by decide +kernel
theorem dX8_pass_4 : decode cX8_pass 4 = .ok (.getfield 44, 3) := by decide +kernel
theorem dX8_pass_7 : decode cX8_pass 7 = .ok (.astore_n 2, 1) := by decide +kernel
theorem dX8_pass_8 : decode cX8_pass 8 = .ok (.iload_n 1, 1) := by decide +kernel
theorem dX8_pass_9 : decode cX8_pass 9 = .ok (.iconst 1, 1) := by decide +kernel
theorem dX8_pass_10 : decode cX8_pass 10 = .ok (.sipush 10080, 3) := by decide +kernel
theorem dX8_pass_13 : decode cX8_pass 13 = .ok (.aload_n 2, 1) := by decide +kernel
theorem dX8_pass_14 : decode cX8_pass 14 = .ok (.getfield 92, 3) := by decide +kernel
theorem dX8_pass_17 : decode cX8_pass 17 = .ok (.isub, 1) := by decide +kernel
theorem dX8_pass_18 : decode cX8_pass 18 = .ok (.invokestatic 40, 3) := by decide +kernel
theorem dX8_pass_21 : decode cX8_pass 21 = .ok (.ifCond .ne 6, 3) := by decide +kernel
theorem dX8_pass_24 : decode cX8_pass 24 = .ok (.bipush (-4), 2) := by decide +kernel
theorem dX8_pass_26 : decode cX8_pass 26 = .ok (.ireturn, 1) := by decide +kernel
theorem dX8_pass_27 : decode cX8_pass 27 = .ok (.aload_n 2, 1) := by decide +kernel
theorem dX8_pass_28 : decode cX8_pass 28 = .ok (.getfield 104, 3) := by decide +kernel
theorem dX8_pass_31 : decode cX8_pass 31 = .ok (.invokevirtual 108, 3) := by decide +kernel
theorem dX8_pass_34 : decode cX8_pass 34 = .ok (.istore_n 3, 1) := by decide +kernel
theorem dX8_pass_35 : decode cX8_pass 35 = .ok (.aload_n 2, 1) := by decide +kernel
theorem dX8_pass_36 : decode cX8_pass 36 = .ok (.aload_n 2, 1) := by decide +kernel
theorem dX8_pass_37 : decode cX8_pass 37 = .ok (.getfield 92, 3) := by decide +kernel
theorem dX8_pass_40 : decode cX8_pass 40 = .ok (.iload_n 1, 1) := by decide +kernel
theorem dX8_pass_41 : decode cX8_pass 41 = .ok (.iadd, 1) := by decide +kernel
theorem dX8_pass_42 : decode cX8_pass 42 = .ok (.invokevirtual 114, 3) := by decide +kernel
theorem dX8_pass_45 : decode cX8_pass 45 = .ok (.aload_n 2, 1) := by decide +kernel
theorem dX8_pass_46 : decode cX8_pass 46 = .ok (.getfield 104, 3) := by decide +kernel
theorem dX8_pass_49 : decode cX8_pass 49 = .ok (.invokevirtual 108, 3) := by decide +kernel
theorem dX8_pass_52 : decode cX8_pass 52 = .ok (.iload_n 3, 1) := by decide +kernel
theorem dX8_pass_53 : decode cX8_pass 53 = .ok (.isub, 1) := by decide +kernel
theorem dX8_pass_54 : decode cX8_pass 54 = .ok (.ireturn, 1) := by decide +kernel
theorem dX8_now_0 : decode cX8_now 0 = .ok (.aload_n 0, 1) := by decide +kernel
theorem dX8_now_1 : decode cX8_now 1 = .ok (.getfield 12, 3) := by decide +kernel
theorem dX8_now_4 : decode cX8_now 4 = .ok (.getfield 44, 3) := by decide +kernel
theorem dX8_now_7 : decode cX8_now 7 = .ok (.getfield 92, 3) := by decide +kernel
theorem dX8_now_10 : decode cX8_now 10 = .ok (.ireturn, 1) := by decide +kernel
theorem dX8_ticketCount_0 : decode cX8_ticketCount 0 = .ok (.aload_n 0, 1) := by decide +kernel
theorem dX8_ticketCount_1 : decode cX8_ticketCount 1 = .ok (.getfield 12, 3) := by decide +kernel
theorem dX8_ticketCount_4 : decode cX8_ticketCount 4 = .ok (.getfield 44, 3) := by decide +kernel
theorem dX8_ticketCount_7 : decode cX8_ticketCount 7 = .ok (.getfield 104, 3) := by decide +kernel
theorem dX8_ticketCount_10 : decode cX8_ticketCount 10 = .ok (.getfield 117, 3) := by decide +kernel
theorem dX8_ticketCount_13 : decode cX8_ticketCount 13 = .ok (.ireturn, 1) := by decide +kernel
theorem dX8_stateOf_0 : decode cX8_stateOf 0 = .ok (.aload_n 0, 1) := by decide +kernel
theorem dX8_stateOf_1 : decode cX8_stateOf 1 = .ok (.aload_n 0, 1) := by decide +kernel
theorem dX8_stateOf_2 : decode cX8_stateOf 2 = .ok (.getfield 12, 3) := by decide +kernel
theorem dX8_stateOf_5 : decode cX8_stateOf 5 = .ok (.getfield 44, 3) := by decide +kernel
theorem dX8_stateOf_8 : decode cX8_stateOf 8 = .ok (.getfield 104, 3) := by decide +kernel
theorem dX8_stateOf_11 : decode cX8_stateOf 11 = .ok (.getfield 118, 3) := by decide +kernel
theorem dX8_stateOf_14 : decode cX8_stateOf 14 = .ok (.iload_n 1, 1) := by decide +kernel
theorem dX8_stateOf_15 : decode cX8_stateOf 15 = .ok (.invokevirtual 121, 3) := by decide +kernel
theorem dX8_stateOf_18 : decode cX8_stateOf 18 = .ok (.ireturn, 1) := by decide +kernel
theorem dX8_kindOf_0 : decode cX8_kindOf 0 = .ok (.aload_n 0, 1) := by decide +kernel
theorem dX8_kindOf_1 : decode cX8_kindOf 1 = .ok (.aload_n 0, 1) := by decide +kernel
theorem dX8_kindOf_2 : decode cX8_kindOf 2 = .ok (.getfield 12, 3) := by decide +kernel
theorem dX8_kindOf_5 : decode cX8_kindOf 5 = .ok (.getfield 44, 3) := by decide +kernel
theorem dX8_kindOf_8 : decode cX8_kindOf 8 = .ok (.getfield 104, 3) := by decide +kernel
theorem dX8_kindOf_11 : decode cX8_kindOf 11 = .ok (.getfield 125, 3) := by decide +kernel
theorem dX8_kindOf_14 : decode cX8_kindOf 14 = .ok (.iload_n 1, 1) := by decide +kernel
theorem dX8_kindOf_15 : decode cX8_kindOf 15 = .ok (.invokevirtual 121, 3) := by decide +kernel
theorem dX8_kindOf_18 : decode cX8_kindOf 18 = .ok (.ireturn, 1) := by decide +kernel
theorem dX8_levelOf_0 : decode cX8_levelOf 0 = .ok (.aload_n 0, 1) := by decide +kernel
theorem dX8_levelOf_1 : decode cX8_levelOf 1 = .ok (.aload_n 0, 1) := by decide +kernel
theorem dX8_levelOf_2 : decode cX8_levelOf 2 = .ok (.getfield 12, 3) := by decide +kernel
theorem dX8_levelOf_5 : decode cX8_levelOf 5 = .ok (.getfield 44, 3) := by decide +kernel
theorem dX8_levelOf_8 : decode cX8_levelOf 8 = .ok (.getfield 104, 3) := by decide +kernel
theorem dX8_levelOf_11 : decode cX8_levelOf 11 = .ok (.getfield 128, 3) := by decide +kernel
theorem dX8_levelOf_14 : decode cX8_levelOf 14 = .ok (.iload_n 1, 1) := by decide +kernel
theorem dX8_levelOf_15 : decode cX8_levelOf 15 = .ok (.invokevirtual 121, 3) := by decide +kernel
theorem dX8_levelOf_18 : decode cX8_levelOf 18 = .ok (.ireturn, 1) := by decide +kernel
theorem dX8_progress_0 : decode cX8_progress 0 = .ok (.aload_n 0, 1) := by decide +kernel
theorem dX8_progress_1 : decode cX8_progress 1 = .ok (.aload_n 0, 1) := by decide +kernel
theorem dX8_progress_2 : decode cX8_progress 2 = .ok (.getfield 12, 3) := by decide +kernel
theorem dX8_progress_5 : decode cX8_progress 5 = .ok (.getfield 44, 3) := by decide +kernel
theorem dX8_progress_8 : decode cX8_progress 8 = .ok (.getfield 104, 3) := by decide +kernel
theorem dX8_progress_11 : decode cX8_progress 11 = .ok (.getfield 134, 3) := by decide +kernel
theorem dX8_progress_14 : decode cX8_progress 14 = .ok (.iload_n 1, 1) := by decide +kernel
theorem dX8_progress_15 : decode cX8_progress 15 = .ok (.invokevirtual 121, 3) := by decide +kernel
theorem dX8_progress_18 : decode cX8_progress 18 = .ok (.ireturn, 1) := by decide +kernel
theorem dX8_rootOf_0 : decode cX8_rootOf 0 = .ok (.aload_n 0, 1) := by decide +kernel
theorem dX8_rootOf_1 : decode cX8_rootOf 1 = .ok (.aload_n 0, 1) := by decide +kernel
theorem dX8_rootOf_2 : decode cX8_rootOf 2 = .ok (.getfield 12, 3) := by decide +kernel
theorem dX8_rootOf_5 : decode cX8_rootOf 5 = .ok (.getfield 44, 3) := by decide +kernel
theorem dX8_rootOf_8 : decode cX8_rootOf 8 = .ok (.getfield 104, 3) := by decide +kernel
theorem dX8_rootOf_11 : decode cX8_rootOf 11 = .ok (.getfield 137, 3) := by decide +kernel
theorem dX8_rootOf_14 : decode cX8_rootOf 14 = .ok (.iload_n 1, 1) := by decide +kernel
theorem dX8_rootOf_15 : decode cX8_rootOf 15 = .ok (.invokevirtual 121, 3) := by decide +kernel
theorem dX8_rootOf_18 : decode cX8_rootOf 18 = .ok (.ireturn, 1) := by decide +kernel
theorem dX8_twins_0 : decode cX8_twins 0 = .ok (.aload_n 0, 1) := by decide +kernel
theorem dX8_twins_1 : decode cX8_twins 1 = .ok (.getfield 12, 3) := by decide +kernel
theorem dX8_twins_4 : decode cX8_twins 4 = .ok (.getfield 44, 3) := by decide +kernel
theorem dX8_twins_7 : decode cX8_twins 7 = .ok (.getfield 104, 3) := by decide +kernel
theorem dX8_twins_10 : decode cX8_twins 10 = .ok (.astore_n 2, 1) := by decide +kernel
theorem dX8_twins_11 : decode cX8_twins 11 = .ok (.aload_n 2, 1) := by decide +kernel
theorem dX8_twins_12 : decode cX8_twins 12 = .ok (.iload_n 1, 1) := by decide +kernel
theorem dX8_twins_13 : decode cX8_twins 13 = .ok (.invokevirtual 140, 3) := by decide +kernel
theorem dX8_twins_16 : decode cX8_twins 16 = .ok (.ifCond .eq 11, 3) := by decide +kernel
theorem dX8_twins_19 : decode cX8_twins 19 = .ok (.aload_n 2, 1) := by decide +kernel
theorem dX8_twins_20 : decode cX8_twins 20 = .ok (.iload_n 1, 1) := by decide +kernel
theorem dX8_twins_21 : decode cX8_twins 21 = .ok (.invokevirtual 143, 3) := by decide +kernel
theorem dX8_twins_24 : decode cX8_twins 24 = .ok (.goto 6, 3) := by decide +kernel
theorem dX8_twins_27 : decode cX8_twins 27 = .ok (.ldc2_w 147, 3) := by decide +kernel
theorem dX8_twins_30 : decode cX8_twins 30 = .ok (.lreturn, 1) := by decide +kernel
theorem dX8_reportedAt_0 : decode cX8_reportedAt 0 = .ok (.aload_n 0, 1) := by decide +kernel
theorem dX8_reportedAt_1 : decode cX8_reportedAt 1 = .ok (.aload_n 0, 1) := by decide +kernel
theorem dX8_reportedAt_2 : decode cX8_reportedAt 2 = .ok (.getfield 12, 3) := by decide +kernel
theorem dX8_reportedAt_5 : decode cX8_reportedAt 5 = .ok (.getfield 44, 3) := by decide +kernel
theorem dX8_reportedAt_8 : decode cX8_reportedAt 8 = .ok (.getfield 104, 3) := by decide +kernel
theorem dX8_reportedAt_11 : decode cX8_reportedAt 11 = .ok (.getfield 149, 3) := by decide +kernel
theorem dX8_reportedAt_14 : decode cX8_reportedAt 14 = .ok (.iload_n 1, 1) := by decide +kernel
theorem dX8_reportedAt_15 : decode cX8_reportedAt 15 = .ok (.invokevirtual 121, 3) := by decide +kernel
theorem dX8_reportedAt_18 : decode cX8_reportedAt 18 = .ok (.ireturn, 1) := by decide +kernel
theorem dX8_answeredAt_0 : decode cX8_answeredAt 0 = .ok (.aload_n 0, 1) := by decide +kernel
theorem dX8_answeredAt_1 : decode cX8_answeredAt 1 = .ok (.aload_n 0, 1) := by decide +kernel
theorem dX8_answeredAt_2 : decode cX8_answeredAt 2 = .ok (.getfield 12, 3) := by decide +kernel
theorem dX8_answeredAt_5 : decode cX8_answeredAt 5 = .ok (.getfield 44, 3) := by decide +kernel
theorem dX8_answeredAt_8 : decode cX8_answeredAt 8 = .ok (.getfield 104, 3) := by decide +kernel
theorem dX8_answeredAt_11 : decode cX8_answeredAt 11 = .ok (.getfield 152, 3) := by decide +kernel
theorem dX8_answeredAt_14 : decode cX8_answeredAt 14 = .ok (.iload_n 1, 1) := by decide +kernel
theorem dX8_answeredAt_15 : decode cX8_answeredAt 15 = .ok (.invokevirtual 121, 3) := by decide +kernel
theorem dX8_answeredAt_18 : decode cX8_answeredAt 18 = .ok (.ireturn, 1) := by decide +kernel
theorem dX8_solvedAt_0 : decode cX8_solvedAt 0 = .ok (.aload_n 0, 1) := by decide +kernel
theorem dX8_solvedAt_1 : decode cX8_solvedAt 1 = .ok (.aload_n 0, 1) := by decide +kernel
theorem dX8_solvedAt_2 : decode cX8_solvedAt 2 = .ok (.getfield 12, 3) := by decide +kernel
theorem dX8_solvedAt_5 : decode cX8_solvedAt 5 = .ok (.getfield 44, 3) := by decide +kernel
theorem dX8_solvedAt_8 : decode cX8_solvedAt 8 = .ok (.getfield 104, 3) := by decide +kernel
theorem dX8_solvedAt_11 : decode cX8_solvedAt 11 = .ok (.getfield 155, 3) := by decide +kernel
theorem dX8_solvedAt_14 : decode cX8_solvedAt 14 = .ok (.iload_n 1, 1) := by decide +kernel
theorem dX8_solvedAt_15 : decode cX8_solvedAt 15 = .ok (.invokevirtual 121, 3) := by decide +kernel
theorem dX8_solvedAt_18 : decode cX8_solvedAt 18 = .ok (.ireturn, 1) := by decide +kernel
theorem dX8_responseClock_0 : decode cX8_responseClock 0 = .ok (.aload_n 0, 1) := by decide +kernel
theorem dX8_responseClock_1 : decode cX8_responseClock 1 = .ok (.aload_n 0, 1) := by decide +kernel
theorem dX8_responseClock_2 : decode cX8_responseClock 2 = .ok (.getfield 12, 3) := by decide +kernel
theorem dX8_responseClock_5 : decode cX8_responseClock 5 = .ok (.getfield 44, 3) := by decide +kernel
theorem dX8_responseClock_8 : decode cX8_responseClock 8 = .ok (.getfield 104, 3) := by decide +kernel
theorem dX8_responseClock_11 : decode cX8_responseClock 11 = .ok (.getfield 158, 3) := by decide +kernel
theorem dX8_responseClock_14 : decode cX8_responseClock 14 = .ok (.iload_n 1, 1) := by decide +kernel
theorem dX8_responseClock_15 : decode cX8_responseClock 15 = .ok (.invokevirtual 121, 3) := by decide +kernel
theorem dX8_responseClock_18 : decode cX8_responseClock 18 = .ok (.ireturn, 1) := by decide +kernel
theorem dX8_resolveClock_0 : decode cX8_resolveClock 0 = .ok (.aload_n 0, 1) := by decide +kernel
theorem dX8_resolveClock_1 : decode cX8_resolveClock 1 = .ok (.aload_n 0, 1) := by decide +kernel
theorem dX8_resolveClock_2 : decode cX8_resolveClock 2 = .ok (.getfield 12, 3) := by decide +kernel
theorem dX8_resolveClock_5 : decode cX8_resolveClock 5 = .ok (.getfield 44, 3) := by decide +kernel
theorem dX8_resolveClock_8 : decode cX8_resolveClock 8 = .ok (.getfield 104, 3) := by decide +kernel
theorem dX8_resolveClock_11 : decode cX8_resolveClock 11 = .ok (.getfield 161, 3) := by decide +kernel
theorem dX8_resolveClock_14 : decode cX8_resolveClock 14 = .ok (.iload_n 1, 1) := by decide +kernel
theorem dX8_resolveClock_15 : decode cX8_resolveClock 15 = .ok (.invokevirtual 121, 3) := by decide +kernel
theorem dX8_resolveClock_18 : decode cX8_resolveClock 18 = .ok (.ireturn, 1) := by decide +kernel
theorem dX8_ofTicket_0 : decode cX8_ofTicket 0 = .ok (.aload_n 0, 1) := by decide +kernel
theorem dX8_ofTicket_1 : decode cX8_ofTicket 1 = .ok (.getfield 12, 3) := by decide +kernel
theorem dX8_ofTicket_4 : decode cX8_ofTicket 4 = .ok (.getfield 44, 3) := by decide +kernel
theorem dX8_ofTicket_7 : decode cX8_ofTicket 7 = .ok (.getfield 104, 3) := by decide +kernel
theorem dX8_ofTicket_10 : decode cX8_ofTicket 10 = .ok (.iload_n 2, 1) := by decide +kernel
theorem dX8_ofTicket_11 : decode cX8_ofTicket 11 = .ok (.invokevirtual 140, 3) := by decide +kernel
theorem dX8_ofTicket_14 : decode cX8_ofTicket 14 = .ok (.ifCond .eq 9, 3) := by decide +kernel
theorem dX8_ofTicket_17 : decode cX8_ofTicket 17 = .ok (.aload_n 1, 1) := by decide +kernel
theorem dX8_ofTicket_18 : decode cX8_ofTicket 18 = .ok (.iload_n 2, 1) := by decide +kernel
theorem dX8_ofTicket_19 : decode cX8_ofTicket 19 = .ok (.iaload, 1) := by decide +kernel
theorem dX8_ofTicket_20 : decode cX8_ofTicket 20 = .ok (.goto 5, 3) := by decide +kernel
theorem dX8_ofTicket_23 : decode cX8_ofTicket 23 = .ok (.bipush (-2), 2) := by decide +kernel
theorem dX8_ofTicket_25 : decode cX8_ofTicket 25 = .ok (.ireturn, 1) := by decide +kernel
theorem dX8_queueLength_0 : decode cX8_queueLength 0 = .ok (.iload_n 1, 1) := by decide +kernel
theorem dX8_queueLength_1 : decode cX8_queueLength 1 = .ok (.iconst 0, 1) := by decide +kernel
theorem dX8_queueLength_2 : decode cX8_queueLength 2 = .ok (.iconst 3, 1) := by decide +kernel
theorem dX8_queueLength_3 : decode cX8_queueLength 3 = .ok (.invokestatic 40, 3) := by decide +kernel
theorem dX8_queueLength_6 : decode cX8_queueLength 6 = .ok (.ifCond .eq 21, 3) := by decide +kernel
theorem dX8_queueLength_9 : decode cX8_queueLength 9 = .ok (.aload_n 0, 1) := by decide +kernel
theorem dX8_queueLength_10 : decode cX8_queueLength 10 = .ok (.getfield 12, 3) := by decide +kernel
theorem dX8_queueLength_13 : decode cX8_queueLength 13 = .ok (.getfield 44, 3) := by decide +kernel
theorem dX8_queueLength_16 : decode cX8_queueLength 16 = .ok (.getfield 104, 3) := by decide +kernel
theorem dX8_queueLength_19 : decode cX8_queueLength 19 = .ok (.iload_n 1, 1) := by decide +kernel
theorem dX8_queueLength_20 : decode cX8_queueLength 20 = .ok (.iconst 0, 1) := by decide +kernel
theorem dX8_queueLength_21 : decode cX8_queueLength 21 = .ok (.invokevirtual 164, 3) := by decide +kernel
theorem dX8_queueLength_24 : decode cX8_queueLength 24 = .ok (.goto 5, 3) := by decide +kernel
theorem dX8_queueLength_27 : decode cX8_queueLength 27 = .ok (.bipush (-4), 2) := by decide +kernel
theorem dX8_queueLength_29 : decode cX8_queueLength 29 = .ok (.ireturn, 1) := by decide +kernel
theorem dX8_nextTicket_0 : decode cX8_nextTicket 0 = .ok (.iload_n 1, 1) := by decide +kernel
theorem dX8_nextTicket_1 : decode cX8_nextTicket 1 = .ok (.iconst 0, 1) := by decide +kernel
theorem dX8_nextTicket_2 : decode cX8_nextTicket 2 = .ok (.iconst 3, 1) := by decide +kernel
theorem dX8_nextTicket_3 : decode cX8_nextTicket 3 = .ok (.invokestatic 40, 3) := by decide +kernel
theorem dX8_nextTicket_6 : decode cX8_nextTicket 6 = .ok (.ifCond .eq 17, 3) := by decide +kernel
theorem dX8_nextTicket_9 : decode cX8_nextTicket 9 = .ok (.aload_n 0, 1) := by decide +kernel
theorem dX8_nextTicket_10 : decode cX8_nextTicket 10 = .ok (.getfield 12, 3) := by decide +kernel
theorem dX8_nextTicket_13 : decode cX8_nextTicket 13 = .ok (.getfield 44, 3) := by decide +kernel
theorem dX8_nextTicket_16 : decode cX8_nextTicket 16 = .ok (.iload_n 1, 1) := by decide +kernel
theorem dX8_nextTicket_17 : decode cX8_nextTicket 17 = .ok (.invokevirtual 167, 3) := by decide +kernel
theorem dX8_nextTicket_20 : decode cX8_nextTicket 20 = .ok (.goto 5, 3) := by decide +kernel
theorem dX8_nextTicket_23 : decode cX8_nextTicket 23 = .ok (.bipush (-4), 2) := by decide +kernel
theorem dX8_nextTicket_25 : decode cX8_nextTicket 25 = .ok (.ireturn, 1) := by decide +kernel
theorem dX8_busyAgents_0 : decode cX8_busyAgents 0 = .ok (.iload_n 1, 1) := by decide +kernel
theorem dX8_busyAgents_1 : decode cX8_busyAgents 1 = .ok (.iconst 0, 1) := by decide +kernel
theorem dX8_busyAgents_2 : decode cX8_busyAgents 2 = .ok (.iconst 3, 1) := by decide +kernel
theorem dX8_busyAgents_3 : decode cX8_busyAgents 3 = .ok (.invokestatic 40, 3) := by decide +kernel
theorem dX8_busyAgents_6 : decode cX8_busyAgents 6 = .ok (.ifCond .eq 21, 3) := by decide +kernel
theorem dX8_busyAgents_9 : decode cX8_busyAgents 9 = .ok (.aload_n 0, 1) := by decide +kernel
theorem dX8_busyAgents_10 : decode cX8_busyAgents 10 = .ok (.getfield 12, 3) := by decide +kernel
theorem dX8_busyAgents_13 : decode cX8_busyAgents 13 = .ok (.getfield 44, 3) := by decide +kernel
theorem dX8_busyAgents_16 : decode cX8_busyAgents 16 = .ok (.getfield 104, 3) := by decide +kernel
theorem dX8_busyAgents_19 : decode cX8_busyAgents 19 = .ok (.iload_n 1, 1) := by decide +kernel
theorem dX8_busyAgents_20 : decode cX8_busyAgents 20 = .ok (.iconst 1, 1) := by decide +kernel
theorem dX8_busyAgents_21 : decode cX8_busyAgents 21 = .ok (.invokevirtual 164, 3) := by decide +kernel
theorem dX8_busyAgents_24 : decode cX8_busyAgents 24 = .ok (.goto 5, 3) := by decide +kernel
theorem dX8_busyAgents_27 : decode cX8_busyAgents 27 = .ok (.bipush (-4), 2) := by decide +kernel
theorem dX8_busyAgents_29 : decode cX8_busyAgents 29 = .ok (.ireturn, 1) := by decide +kernel
theorem dX8_responseBreaches_0 : decode cX8_responseBreaches 0 = .ok (.iload_n 1, 1) := by decide +kernel
theorem dX8_responseBreaches_1 : decode cX8_responseBreaches 1 = .ok (.iconst (-1), 1) := by decide +kernel
theorem dX8_responseBreaches_2 : decode cX8_responseBreaches 2 = .ok (.aload_n 0, 1) := by decide +kernel
theorem dX8_responseBreaches_3 : decode cX8_responseBreaches 3 = .ok (.getfield 12, 3) := by decide +kernel
theorem dX8_responseBreaches_6 : decode cX8_responseBreaches 6 = .ok (.getfield 44, 3) := by decide +kernel
theorem dX8_responseBreaches_9 : decode cX8_responseBreaches 9 = .ok (.getfield 68, 3) := by decide +kernel
theorem dX8_responseBreaches_12 : decode cX8_responseBreaches 12 = .ok (.getfield 78, 3) := by decide +kernel
theorem dX8_responseBreaches_15 : decode cX8_responseBreaches 15 = .ok (.iconst 1, 1) := by decide +kernel
theorem dX8_responseBreaches_16 : decode cX8_responseBreaches 16 = .ok (.isub, 1) := by decide +kernel
theorem dX8_responseBreaches_17 : decode cX8_responseBreaches 17 = .ok (.invokestatic 40, 3) := by decide +kernel
theorem dX8_responseBreaches_20 : decode cX8_responseBreaches 20 = .ok (.ifCond .eq 17, 3) := by decide +kernel
theorem dX8_responseBreaches_23 : decode cX8_responseBreaches 23 = .ok (.aload_n 0, 1) := by decide +kernel
theorem dX8_responseBreaches_24 : decode cX8_responseBreaches 24 = .ok (.getfield 12, 3) := by decide +kernel
theorem dX8_responseBreaches_27 : decode cX8_responseBreaches 27 = .ok (.getfield 44, 3) := by decide +kernel
theorem dX8_responseBreaches_30 : decode cX8_responseBreaches 30 = .ok (.iload_n 1, 1) := by decide +kernel
theorem dX8_responseBreaches_31 : decode cX8_responseBreaches 31 = .ok (.invokevirtual 179, 3) := by decide +kernel
theorem dX8_responseBreaches_34 : decode cX8_responseBreaches 34 = .ok (.goto 5, 3) := by decide +kernel
theorem dX8_responseBreaches_37 : decode cX8_responseBreaches 37 = .ok (.bipush (-3), 2) := by decide +kernel
theorem dX8_responseBreaches_39 : decode cX8_responseBreaches 39 = .ok (.ireturn, 1) := by decide +kernel
