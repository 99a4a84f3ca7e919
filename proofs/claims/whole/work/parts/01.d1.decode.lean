theorem dX1_work_76 : decode cX1_work 76 = .ok (.aload_n 0, 1) := by decide +kernel
theorem dX1_work_77 : decode cX1_work 77 = .ok (.getfield 32, 3) := by decide +kernel
theorem dX1_work_80 : decode cX1_work 80 = .ok (.getfield 127, 3) := by decide +kernel
theorem dX1_work_83 : decode cX1_work 83 = .ok (.iload_n 2, 1) := by decide +kernel
theorem dX1_work_84 : decode cX1_work 84 = .ok (.iaload, 1) := by decide +kernel
theorem dX1_work_85 : decode cX1_work 85 = .ok (.aload_n 0, 1) := by decide +kernel
theorem dX1_work_86 : decode cX1_work 86 = .ok (.getfield 21, 3) := by decide +kernel
theorem dX1_work_89 : decode cX1_work 89 = .ok (.getfield 302, 3) := by decide +kernel
theorem dX1_work_92 : decode cX1_work 92 = .ok (.iload_n 3, 1) := by decide +kernel
theorem dX1_work_93 : decode cX1_work 93 = .ok (.iaload, 1) := by decide +kernel
theorem dX1_work_94 : decode cX1_work 94 = .ok (.if_icmp .lt 18, 3) := by decide +kernel
theorem dX1_work_97 : decode cX1_work 97 = .ok (.aload_n 0, 1) := by decide +kernel
theorem dX1_work_98 : decode cX1_work 98 = .ok (.iload_n 2, 1) := by decide +kernel
theorem dX1_work_99 : decode cX1_work 99 = .ok (.aload_n 0, 1) := by decide +kernel
theorem dX1_work_100 : decode cX1_work 100 = .ok (.getfield 48, 3) := by decide +kernel
theorem dX1_work_103 : decode cX1_work 103 = .ok (.iload_n 1, 1) := by decide +kernel
theorem dX1_work_104 : decode cX1_work 104 = .ok (.iadd, 1) := by decide +kernel
theorem dX1_work_105 : decode cX1_work 105 = .ok (.invokevirtual 149, 3) := by decide +kernel
theorem dX1_work_108 : decode cX1_work 108 = .ok (.pop, 1) := by decide +kernel
theorem dX1_work_109 : decode cX1_work 109 = .ok (.goto 15, 3) := by decide +kernel
theorem dX1_work_112 : decode cX1_work 112 = .ok (.aload_n 0, 1) := by decide +kernel
theorem dX1_work_113 : decode cX1_work 113 = .ok (.iload_n 2, 1) := by decide +kernel
theorem dX1_work_114 : decode cX1_work 114 = .ok (.aload_n 0, 1) := by decide +kernel
theorem dX1_work_115 : decode cX1_work 115 = .ok (.getfield 48, 3) := by decide +kernel
theorem dX1_work_118 : decode cX1_work 118 = .ok (.iload_n 1, 1) := by decide +kernel
theorem dX1_work_119 : decode cX1_work 119 = .ok (.iadd, 1) := by decide +kernel
theorem dX1_work_120 : decode cX1_work 120 = .ok (.invokevirtual 146, 3) := by decide +kernel
theorem dX1_work_123 : decode cX1_work 123 = .ok (.pop, 1) := by decide +kernel
theorem dX1_work_124 : decode cX1_work 124 = .ok (.iinc 2 1, 3) := by decide +kernel
theorem dX1_work_127 : decode cX1_work 127 = .ok (.goto (-125), 3) := by decide +kernel
theorem dX1_work_130 : decode cX1_work 130 = .ok (.return_, 1) := by decide +kernel
theorem dX1_climbWaiting_0 : decode cX1_climbWaiting 0 = .ok (.iconst 0, 1) := by decide +kernel
theorem dX1_climbWaiting_1 : decode cX1_climbWaiting 1 = .ok (.istore_n 2, 1) := by decide +kernel
theorem dX1_climbWaiting_2 : decode cX1_climbWaiting 2 = .ok (.iload_n 2, 1) := by decide +kernel
theorem dX1_climbWaiting_3 : decode cX1_climbWaiting 3 = .ok (.aload_n 0, 1) := by decide +kernel
theorem dX1_climbWaiting_4 : decode cX1_climbWaiting 4 = .ok (.getfield 32, 3) := by decide +kernel
theorem dX1_climbWaiting_7 : decode cX1_climbWaiting 7 = .ok (.getfield 61, 3) := by decide +kernel
theorem dX1_climbWaiting_10 : decode cX1_climbWaiting 10 = .ok (.if_icmp .ge 65, 3) := by decide +kernel
theorem dX1_climbWaiting_13 : decode cX1_climbWaiting 13 = .ok (.aload_n 0, 1) := by decide +kernel
theorem dX1_climbWaiting_14 : decode cX1_climbWaiting 14 = .ok (.getfield 32, 3) := by decide +kernel
theorem dX1_climbWaiting_17 : decode cX1_climbWaiting 17 = .ok (.getfield 117, 3) := by decide +kernel
theorem dX1_climbWaiting_20 : decode cX1_climbWaiting 20 = .ok (.iload_n 2, 1) := by decide +kernel
theorem dX1_climbWaiting_21 : decode cX1_climbWaiting 21 = .ok (.iaload, 1) := by decide +kernel
theorem dX1_climbWaiting_22 : decode cX1_climbWaiting 22 = .ok (.ifCond .ne 47, 3) := by decide +kernel
theorem dX1_climbWaiting_25 : decode cX1_climbWaiting 25 = .ok (.aload_n 0, 1) := by decide +kernel
theorem dX1_climbWaiting_26 : decode cX1_climbWaiting 26 = .ok (.iload_n 2, 1) := by decide +kernel
theorem dX1_climbWaiting_27 : decode cX1_climbWaiting 27 = .ok (.invokevirtual 288, 3) := by decide +kernel
theorem dX1_climbWaiting_30 : decode cX1_climbWaiting 30 = .ok (.ifCond .eq 39, 3) := by decide +kernel
theorem dX1_climbWaiting_33 : decode cX1_climbWaiting 33 = .ok (.aload_n 0, 1) := by decide +kernel
theorem dX1_climbWaiting_34 : decode cX1_climbWaiting 34 = .ok (.getfield 32, 3) := by decide +kernel
theorem dX1_climbWaiting_37 : decode cX1_climbWaiting 37 = .ok (.getfield 182, 3) := by decide +kernel
theorem dX1_climbWaiting_40 : decode cX1_climbWaiting 40 = .ok (.iload_n 2, 1) := by decide +kernel
theorem dX1_climbWaiting_41 : decode cX1_climbWaiting 41 = .ok (.iaload, 1) := by decide +kernel
theorem dX1_climbWaiting_42 : decode cX1_climbWaiting 42 = .ok (.aload_n 0, 1) := by decide +kernel
theorem dX1_climbWaiting_43 : decode cX1_climbWaiting 43 = .ok (.getfield 21, 3) := by decide +kernel
theorem dX1_climbWaiting_46 : decode cX1_climbWaiting 46 = .ok (.getfield 291, 3) := by decide +kernel
theorem dX1_climbWaiting_49 : decode cX1_climbWaiting 49 = .ok (.aload_n 0, 1) := by decide +kernel
theorem dX1_climbWaiting_50 : decode cX1_climbWaiting 50 = .ok (.getfield 32, 3) := by decide +kernel
theorem dX1_climbWaiting_53 : decode cX1_climbWaiting 53 = .ok (.getfield 243, 3) := by decide +kernel
theorem dX1_climbWaiting_56 : decode cX1_climbWaiting 56 = .ok (.iload_n 2, 1) := by decide +kernel
theorem dX1_climbWaiting_57 : decode cX1_climbWaiting 57 = .ok (.iaload, 1) := by decide +kernel
theorem dX1_climbWaiting_58 : decode cX1_climbWaiting 58 = .ok (.iaload, 1) := by decide +kernel
theorem dX1_climbWaiting_59 : decode cX1_climbWaiting 59 = .ok (.if_icmp .lt 10, 3) := by decide +kernel
theorem dX1_climbWaiting_62 : decode cX1_climbWaiting 62 = .ok (.aload_n 0, 1) := by decide +kernel
theorem dX1_climbWaiting_63 : decode cX1_climbWaiting 63 = .ok (.iload_n 2, 1) := by decide +kernel
theorem dX1_climbWaiting_64 : decode cX1_climbWaiting 64 = .ok (.iload_n 1, 1) := by decide +kernel
theorem dX1_climbWaiting_65 : decode cX1_climbWaiting 65 = .ok (.invokevirtual 146, 3) := by decide +kernel
theorem dX1_climbWaiting_68 : decode cX1_climbWaiting 68 = .ok (.pop, 1) := by decide +kernel
theorem dX1_climbWaiting_69 : decode cX1_climbWaiting 69 = .ok (.iinc 2 1, 3) := by decide +kernel
theorem dX1_climbWaiting_72 : decode cX1_climbWaiting 72 = .ok (.goto (-70), 3) := by decide +kernel
theorem dX1_climbWaiting_75 : decode cX1_climbWaiting 75 = .ok (.return_, 1) := by decide +kernel
theorem dX1_lateResponses_0 : decode cX1_lateResponses 0 = .ok (.aload_n 0, 1) := by decide +kernel
theorem dX1_lateResponses_1 : decode cX1_lateResponses 1 = .ok (.iload_n 1, 1) := by decide +kernel
theorem dX1_lateResponses_2 : decode cX1_lateResponses 2 = .ok (.aload_n 0, 1) := by decide +kernel
theorem dX1_lateResponses_3 : decode cX1_lateResponses 3 = .ok (.getfield 32, 3) := by decide +kernel
theorem dX1_lateResponses_6 : decode cX1_lateResponses 6 = .ok (.getfield 276, 3) := by decide +kernel
theorem dX1_lateResponses_9 : decode cX1_lateResponses 9 = .ok (.aload_n 0, 1) := by decide +kernel
theorem dX1_lateResponses_10 : decode cX1_lateResponses 10 = .ok (.getfield 21, 3) := by decide +kernel
theorem dX1_lateResponses_13 : decode cX1_lateResponses 13 = .ok (.getfield 279, 3) := by decide +kernel
theorem dX1_lateResponses_16 : decode cX1_lateResponses 16 = .ok (.invokevirtual 303, 3) := by decide +kernel
theorem dX1_lateResponses_19 : decode cX1_lateResponses 19 = .ok (.ireturn, 1) := by decide +kernel
theorem dX1_lateSolutions_0 : decode cX1_lateSolutions 0 = .ok (.aload_n 0, 1) := by decide +kernel
theorem dX1_lateSolutions_1 : decode cX1_lateSolutions 1 = .ok (.iload_n 1, 1) := by decide +kernel
theorem dX1_lateSolutions_2 : decode cX1_lateSolutions 2 = .ok (.aload_n 0, 1) := by decide +kernel
theorem dX1_lateSolutions_3 : decode cX1_lateSolutions 3 = .ok (.getfield 32, 3) := by decide +kernel
theorem dX1_lateSolutions_6 : decode cX1_lateSolutions 6 = .ok (.getfield 176, 3) := by decide +kernel
theorem dX1_lateSolutions_9 : decode cX1_lateSolutions 9 = .ok (.aload_n 0, 1) := by decide +kernel
theorem dX1_lateSolutions_10 : decode cX1_lateSolutions 10 = .ok (.getfield 21, 3) := by decide +kernel
theorem dX1_lateSolutions_13 : decode cX1_lateSolutions 13 = .ok (.getfield 240, 3) := by decide +kernel
theorem dX1_lateSolutions_16 : decode cX1_lateSolutions 16 = .ok (.invokevirtual 303, 3) := by decide +kernel
theorem dX1_lateSolutions_19 : decode cX1_lateSolutions 19 = .ok (.ireturn, 1) := by decide +kernel
theorem dX1_countLate_0 : decode cX1_countLate 0 = .ok (.iconst 0, 1) := by decide +kernel
theorem dX1_countLate_1 : decode cX1_countLate 1 = .ok (.istore 4, 2) := by decide +kernel
theorem dX1_countLate_3 : decode cX1_countLate 3 = .ok (.iconst 0, 1) := by decide +kernel
theorem dX1_countLate_4 : decode cX1_countLate 4 = .ok (.istore 5, 2) := by decide +kernel
theorem dX1_countLate_6 : decode cX1_countLate 6 = .ok (.iload 5, 2) := by decide +kernel
theorem dX1_countLate_8 : decode cX1_countLate 8 = .ok (.aload_n 0, 1) := by decide +kernel
theorem dX1_countLate_9 : decode cX1_countLate 9 = .ok (.getfield 32, 3) := by decide +kernel
theorem dX1_countLate_12 : decode cX1_countLate 12 = .ok (.getfield 61, 3) := by decide +kernel
theorem dX1_countLate_15 : decode cX1_countLate 15 = .ok (.if_icmp .ge 46, 3) := by decide +kernel
theorem dX1_countLate_18 : decode cX1_countLate 18 = .ok (.aload_n 0, 1) := by decide +kernel
theorem dX1_countLate_19 : decode cX1_countLate 19 = .ok (.getfield 32, 3) := by decide +kernel
theorem dX1_countLate_22 : decode cX1_countLate 22 = .ok (.getfield 243, 3) := by decide +kernel
theorem dX1_countLate_25 : decode cX1_countLate 25 = .ok (.iload 5, 2) := by decide +kernel
theorem dX1_countLate_27 : decode cX1_countLate 27 = .ok (.iaload, 1) := by decide +kernel
theorem dX1_countLate_28 : decode cX1_countLate 28 = .ok (.istore 6, 2) := by decide +kernel
theorem dX1_countLate_30 : decode cX1_countLate 30 = .ok (.iload_n 1, 1) := by decide +kernel
theorem dX1_countLate_31 : decode cX1_countLate 31 = .ok (.iconst (-1), 1) := by decide +kernel
theorem dX1_countLate_32 : decode cX1_countLate 32 = .ok (.if_icmp .eq 9, 3) := by decide +kernel
theorem dX1_countLate_35 : decode cX1_countLate 35 = .ok (.iload 6, 2) := by decide +kernel
theorem dX1_countLate_37 : decode cX1_countLate 37 = .ok (.iload_n 1, 1) := by decide +kernel
theorem dX1_countLate_38 : decode cX1_countLate 38 = .ok (.if_icmp .ne 17, 3) := by decide +kernel
theorem dX1_countLate_41 : decode cX1_countLate 41 = .ok (.aload_n 2, 1) := by decide +kernel
theorem dX1_countLate_42 : decode cX1_countLate 42 = .ok (.iload 5, 2) := by decide +kernel
theorem dX1_countLate_44 : decode cX1_countLate 44 = .ok (.iaload, 1) := by decide +kernel
theorem dX1_countLate_45 : decode cX1_countLate 45 = .ok (.aload_n 3, 1) := by decide +kernel
theorem dX1_countLate_46 : decode cX1_countLate 46 = .ok (.iload 6, 2) := by decide +kernel
theorem dX1_countLate_48 : decode cX1_countLate 48 = .ok (.iaload, 1) := by decide +kernel
theorem dX1_countLate_49 : decode cX1_countLate 49 = .ok (.if_icmp .le 6, 3) := by decide +kernel
theorem dX1_countLate_52 : decode cX1_countLate 52 = .ok (.iinc 4 1, 3) := by decide +kernel
theorem dX1_countLate_55 : decode cX1_countLate 55 = .ok (.iinc 5 1, 3) := by decide +kernel
theorem dX1_countLate_58 : decode cX1_countLate 58 = .ok (.goto (-52), 3) := by decide +kernel
theorem dX1_countLate_61 : decode cX1_countLate 61 = .ok (.iload 4, 2) := by decide +kernel
theorem dX1_countLate_63 : decode cX1_countLate 63 = .ok (.ireturn, 1) := by decide +kernel
theorem dX1_allBreaches_0 : decode cX1_allBreaches 0 = .ok (.aload_n 0, 1) := by decide +kernel
theorem dX1_allBreaches_1 : decode cX1_allBreaches 1 = .ok (.iconst (-1), 1) := by decide +kernel
theorem dX1_allBreaches_2 : decode cX1_allBreaches 2 = .ok (.invokevirtual 307, 3) := by decide +kernel
theorem dX1_allBreaches_5 : decode cX1_allBreaches 5 = .ok (.aload_n 0, 1) := by decide +kernel
theorem dX1_allBreaches_6 : decode cX1_allBreaches 6 = .ok (.iconst (-1), 1) := by decide +kernel
theorem dX1_allBreaches_7 : decode cX1_allBreaches 7 = .ok (.invokevirtual 310, 3) := by decide +kernel
theorem dX1_allBreaches_10 : decode cX1_allBreaches 10 = .ok (.iadd, 1) := by decide +kernel
theorem dX1_allBreaches_11 : decode cX1_allBreaches 11 = .ok (.ireturn, 1) := by decide +kernel
theorem dX2_init_0 : decode cX2_init 0 = .ok (.aload_n 0, 1) := by decide +kernel
theorem dX2_init_1 : decode cX2_init 1 = .ok (.invokespecial 3, 3) := by decide +kernel
theorem dX2_init_4 : decode cX2_init 4 = .ok (.aload_n 0, 1) := by decide +kernel
theorem dX2_init_5 : decode cX2_init 5 = .ok (.sipush 200, 3) := by decide +kernel
theorem dX2_init_8 : decode cX2_init 8 = .ok (.newarray .int, 2) := by decide +kernel
theorem dX2_init_10 : decode cX2_init 10 = .ok (.putfield 9, 3) := by decide +kernel
theorem dX2_init_13 : decode cX2_init 13 = .ok (.aload_n 0, 1) := by decide +kernel
theorem dX2_init_14 : decode cX2_init 14 = .ok (.sipush 200, 3) := by decide +kernel
theorem dX2_init_17 : decode cX2_init 17 = .ok (.newarray .int, 2) := by decide +kernel
theorem dX2_init_19 : decode cX2_init 19 = .ok (.putfield 15, 3) := by decide +kernel
theorem dX2_init_22 : decode cX2_init 22 = .ok (.aload_n 0, 1) := by decide +kernel
theorem dX2_init_23 : decode cX2_init 23 = .ok (.sipush 200, 3) := by decide +kernel
theorem dX2_init_26 : decode cX2_init 26 = .ok (.newarray .int, 2) := by decide +kernel
theorem dX2_init_28 : decode cX2_init 28 = .ok (.putfield 18, 3) := by decide +kernel
theorem dX2_init_31 : decode cX2_init 31 = .ok (.aload_n 0, 1) := by decide +kernel
theorem dX2_init_32 : decode cX2_init 32 = .ok (.sipush 200, 3) := by decide +kernel
theorem dX2_init_35 : decode cX2_init 35 = .ok (.newarray .int, 2) := by decide +kernel
theorem dX2_init_37 : decode cX2_init 37 = .ok (.putfield 21, 3) := by decide +kernel
theorem dX2_init_40 : decode cX2_init 40 = .ok (.aload_n 0, 1) := by decide +kernel
theorem dX2_init_41 : decode cX2_init 41 = .ok (.sipush 200, 3) := by decide +kernel
theorem dX2_init_44 : decode cX2_init 44 = .ok (.newarray .int, 2) := by decide +kernel
theorem dX2_init_46 : decode cX2_init 46 = .ok (.putfield 24, 3) := by decide +kernel
theorem dX2_init_49 : decode cX2_init 49 = .ok (.aload_n 0, 1) := by decide +kernel
theorem dX2_init_50 : decode cX2_init 50 = .ok (.sipush 200, 3) := by decide +kernel
theorem dX2_init_53 : decode cX2_init 53 = .ok (.newarray .int, 2) := by decide +kernel
theorem dX2_init_55 : decode cX2_init 55 = .ok (.putfield 27, 3) := by decide +kernel
theorem dX2_init_58 : decode cX2_init 58 = .ok (.return_, 1) := by decide +kernel
theorem dX2_record_0 : decode cX2_record 0 = .ok (.aload_n 0, 1) := by decide +kernel
theorem dX2_record_1 : decode cX2_record 1 = .ok (.getfield 30, 3) := by decide +kernel
theorem dX2_record_4 : decode cX2_record 4 = .ok (.sipush 200, 3) := by decide +kernel
theorem dX2_record_7 : decode cX2_record 7 = .ok (.if_icmp .lt 5, 3) := by decide +kernel
theorem dX2_record_10 : decode cX2_record 10 = .ok (.iconst 0, 1) := by decide +kernel
theorem dX2_record_11 : decode cX2_record 11 = .ok (.ireturn, 1) := by decide +kernel
theorem dX2_record_12 : decode cX2_record 12 = .ok (.aload_n 0, 1) := by decide +kernel
theorem dX2_record_13 : decode cX2_record 13 = .ok (.getfield 9, 3) := by decide +kernel
theorem dX2_record_16 : decode cX2_record 16 = .ok (.aload_n 0, 1) := by decide +kernel
theorem dX2_record_17 : decode cX2_record 17 = .ok (.getfield 30, 3) := by decide +kernel
theorem dX2_record_20 : decode cX2_record 20 = .ok (.iload_n 1, 1) := by decide +kernel
theorem dX2_record_21 : decode cX2_record 21 = .ok (.iastore, 1) := by decide +kernel
theorem dX2_record_22 : decode cX2_record 22 = .ok (.aload_n 0, 1) := by decide +kernel
theorem dX2_record_23 : decode cX2_record 23 = .ok (.getfield 15, 3) := by decide +kernel
theorem dX2_record_26 : decode cX2_record 26 = .ok (.aload_n 0, 1) := by decide +kernel
theorem dX2_record_27 : decode cX2_record 27 = .ok (.getfield 30, 3) := by decide +kernel
theorem dX2_record_30 : decode cX2_record 30 = .ok (.iload_n 2, 1) := by decide +kernel
theorem dX2_record_31 : decode cX2_record 31 = .ok (.iastore, 1) := by decide +kernel
theorem dX2_record_32 : decode cX2_record 32 = .ok (.aload_n 0, 1) := by decide +kernel
theorem dX2_record_33 : decode cX2_record 33 = .ok (.getfield 18, 3) := by decide +kernel
theorem dX2_record_36 : decode cX2_record 36 = .ok (.aload_n 0, 1) := by decide +kernel
theorem dX2_record_37 : decode cX2_record 37 = .ok (.getfield 30, 3) := by decide +kernel
theorem dX2_record_40 : decode cX2_record 40 = .ok (.iload_n 3, 1) := by decide +kernel
theorem dX2_record_41 : decode cX2_record 41 = .ok (.iastore, 1) := by decide +kernel
theorem dX2_record_42 : decode cX2_record 42 = .ok (.aload_n 0, 1) := by decide +kernel
theorem dX2_record_43 : decode cX2_record 43 = .ok (.getfield 21, 3) := by decide +kernel
theorem dX2_record_46 : decode cX2_record 46 = .ok (.aload_n 0, 1) := by decide +kernel
theorem dX2_record_47 : decode cX2_record 47 = .ok (.getfield 30, 3) := by decide +kernel
theorem dX2_record_50 : decode cX2_record 50 = .ok (.iload 4, 2) := by decide +kernel
theorem dX2_record_52 : decode cX2_record 52 = .ok (.iastore, 1) := by decide +kernel
theorem dX2_record_53 : decode cX2_record 53 = .ok (.aload_n 0, 1) := by decide +kernel
theorem dX2_record_54 : decode cX2_record 54 = .ok (.getfield 24, 3) := by decide +kernel
theorem dX2_record_57 : decode cX2_record 57 = .ok (.aload_n 0, 1) := by decide +kernel
theorem dX2_record_58 : decode cX2_record 58 = .ok (.getfield 30, 3) := by decide +kernel
theorem dX2_record_61 : decode cX2_record 61 = .ok (.iload 5, 2) := by decide +kernel
theorem dX2_record_63 : decode cX2_record 63 = .ok (.iastore, 1) := by decide +kernel
theorem dX2_record_64 : decode cX2_record 64 = .ok (.aload_n 0, 1) := by decide +kernel
theorem dX2_record_65 : decode cX2_record 65 = .ok (.getfield 27, 3) := by decide +kernel
theorem dX2_record_68 : decode cX2_record 68 = .ok (.aload_n 0, 1) := by decide +kernel
theorem dX2_record_69 : decode cX2_record 69 = .ok (.getfield 30, 3) := by decide +kernel
theorem dX2_record_72 : decode cX2_record 72 = .ok (.iload 6, 2) := by decide +kernel
theorem dX2_record_74 : decode cX2_record 74 = .ok (.iastore, 1) := by decide +kernel
theorem dX2_record_75 : decode cX2_record 75 = .ok (.aload_n 0, 1) := by decide +kernel
theorem dX2_record_76 : decode cX2_record 76 = .ok (.dup, 1) := by decide +kernel
theorem dX2_record_77 : decode cX2_record 77 = .ok (.getfield 30, 3) := by decide +kernel
theorem dX2_record_80 : decode cX2_record 80 = .ok (.iconst 1, 1) := by decide +kernel
theorem dX2_record_81 : decode cX2_record 81 = .ok (.iadd, 1) := by decide +kernel
theorem dX2_record_82 : decode cX2_record 82 = .ok (.putfield 30, 3) := by decide +kernel
theorem dX2_record_85 : decode cX2_record 85 = .ok (.iconst 1, 1) := by decide +kernel
theorem dX2_record_86 : decode cX2_record 86 = .ok (.ireturn, 1) := by decide +kernel
theorem dX2_copyFrom_0 : decode cX2_copyFrom 0 = .ok (.aload_n 0, 1) := by decide +kernel
theorem dX2_copyFrom_1 : decode cX2_copyFrom 1 = .ok (.aload_n 1, 1) := by decide +kernel
theorem dX2_copyFrom_2 : decode cX2_copyFrom 2 = .ok (.getfield 30, 3) := by decide +kernel
theorem dX2_copyFrom_5 : decode cX2_copyFrom 5 = .ok (.putfield 30, 3) := by decide +kernel
theorem dX2_copyFrom_8 : decode cX2_copyFrom 8 = .ok (.aload_n 1, 1) := by decide +kernel
theorem dX2_copyFrom_9 : decode cX2_copyFrom 9 = .ok (.getfield 9, 3) := by decide +kernel
theorem dX2_copyFrom_12 : decode cX2_copyFrom 12 = .ok (.iconst 0, 1) := by decide +kernel
theorem dX2_copyFrom_13 : decode cX2_copyFrom 13 = .ok (.aload_n 0, 1) := by decide +kernel
theorem dX2_copyFrom_14 : decode cX2_copyFrom 14 = .ok (.getfield 9, 3) := by decide +kernel
theorem dX2_copyFrom_17 : decode cX2_copyFrom 17 = .ok (.iconst 0, 1) := by decide +kernel
theorem dX2_copyFrom_18 : decode cX2_copyFrom 18 = .ok (.aload_n 0, 1) := by decide +kernel
theorem dX2_copyFrom_19 : decode cX2_copyFrom 19 = .ok (.getfield 30, 3) := by decide +kernel
theorem dX2_copyFrom_22 : decode cX2_copyFrom 22 = .ok (.invokestatic 34, 3) := by decide +kernel
theorem dX2_copyFrom_25 : decode cX2_copyFrom 25 = .ok (.aload_n 1, 1) := by decide +kernel
theorem dX2_copyFrom_26 : decode cX2_copyFrom 26 = .ok (.getfield 15, 3) := by decide +kernel
theorem dX2_copyFrom_29 : decode cX2_copyFrom 29 = .ok (.iconst 0, 1) := by decide +kernel
theorem dX2_copyFrom_30 : decode cX2_copyFrom 30 = .ok (.aload_n 0, 1) := by decide +kernel
theorem dX2_copyFrom_31 : decode cX2_copyFrom 31 = .ok (.getfield 15, 3) := by decide +kernel
theorem dX2_copyFrom_34 : decode cX2_copyFrom 34 = .ok (.iconst 0, 1) := by decide +kernel
theorem dX2_copyFrom_35 : decode cX2_copyFrom 35 = .ok (.aload_n 0, 1) := by decide +kernel
theorem dX2_copyFrom_36 : decode cX2_copyFrom 36 = .ok (.getfield 30, 3) := by decide +kernel
theorem dX2_copyFrom_39 : decode cX2_copyFrom 39 = .ok (.invokestatic 34, 3) := by decide +kernel
theorem dX2_copyFrom_42 : decode cX2_copyFrom 42 = .ok (.aload_n 1, 1) := by decide +kernel
theorem dX2_copyFrom_43 : decode cX2_copyFrom 43 = .ok (.getfield 18, 3) := by decide +kernel
theorem dX2_copyFrom_46 : decode cX2_copyFrom 46 = .ok (.iconst 0, 1) := by decide +kernel
theorem dX2_copyFrom_47 : decode cX2_copyFrom 47 = .ok (.aload_n 0, 1) := by decide +kernel
theorem dX2_copyFrom_48 : decode cX2_copyFrom 48 = .ok (.getfield 18, 3) := by decide +kernel
theorem dX2_copyFrom_51 : decode cX2_copyFrom 51 = .ok (.iconst 0, 1) := by decide +kernel
theorem dX2_copyFrom_52 : decode cX2_copyFrom 52 = .ok (.aload_n 0, 1) := by decide +kernel
theorem dX2_copyFrom_53 : decode cX2_copyFrom 53 = .ok (.getfield 30, 3) := by decide +kernel
theorem dX2_copyFrom_56 : decode cX2_copyFrom 56 = .ok (.invokestatic 34, 3) := by decide +kernel
theorem dX2_copyFrom_59 : decode cX2_copyFrom 59 = .ok (.aload_n 1, 1) := by decide +kernel
theorem dX2_copyFrom_60 : decode cX2_copyFrom 60 = .ok (.getfield 21, 3) := by decide +kernel
theorem dX2_copyFrom_63 : decode cX2_copyFrom 63 = .ok (.iconst 0, 1) := by decide +kernel
theorem dX2_copyFrom_64 : decode cX2_copyFrom 64 = .ok (.aload_n 0, 1) := by decide +kernel
theorem dX2_copyFrom_65 : decode cX2_copyFrom 65 = .ok (.getfield 21, 3) := by decide +kernel
theorem dX2_copyFrom_68 : decode cX2_copyFrom 68 = .ok (.iconst 0, 1) := by decide +kernel
theorem dX2_copyFrom_69 : decode cX2_copyFrom 69 = .ok (.aload_n 0, 1) := by decide +kernel
theorem dX2_copyFrom_70 : decode cX2_copyFrom 70 = .ok (.getfield 30, 3) := by decide +kernel
theorem dX2_copyFrom_73 : decode cX2_copyFrom 73 = .ok (.invokestatic 34, 3) := by decide +kernel
theorem dX2_copyFrom_76 : decode cX2_copyFrom 76 = .ok (.aload_n 1, 1) := by decide +kernel
theorem dX2_copyFrom_77 : decode cX2_copyFrom 77 = .ok (.getfield 24, 3) := by decide +kernel
theorem dX2_copyFrom_80 : decode cX2_copyFrom 80 = .ok (.iconst 0, 1) := by decide +kernel
theorem dX2_copyFrom_81 : decode cX2_copyFrom 81 = .ok (.aload_n 0, 1) := by decide +kernel
theorem dX2_copyFrom_82 : decode cX2_copyFrom 82 = .ok (.getfield 24, 3) := by decide +kernel
theorem dX2_copyFrom_85 : decode cX2_copyFrom 85 = .ok (.iconst 0, 1) := by decide +kernel
theorem dX2_copyFrom_86 : decode cX2_copyFrom 86 = .ok (.aload_n 0, 1) := by decide +kernel
theorem dX2_copyFrom_87 : decode cX2_copyFrom 87 = .ok (.getfield 30, 3) := by decide +kernel
theorem dX2_copyFrom_90 : decode cX2_copyFrom 90 = .ok (.invokestatic 34, 3) := by decide +kernel
theorem dX2_copyFrom_93 : decode cX2_copyFrom 93 = .ok (.aload_n 1, 1) := by decide +kernel
theorem dX2_copyFrom_94 : decode cX2_copyFrom 94 = .ok (.getfield 27, 3) := by decide +kernel
theorem dX2_copyFrom_97 : decode cX2_copyFrom 97 = .ok (.iconst 0, 1) := by decide +kernel
theorem dX2_copyFrom_98 : decode cX2_copyFrom 98 = .ok (.aload_n 0, 1) := by decide +kernel
theorem dX2_copyFrom_99 : decode cX2_copyFrom 99 = .ok (.getfield 27, 3) := by decide +kernel
theorem dX2_copyFrom_102 : decode cX2_copyFrom 102 = .ok (.iconst 0, 1) := by decide +kernel
theorem dX2_copyFrom_103 : decode cX2_copyFrom 103 = .ok (.aload_n 0, 1) := by decide +kernel
theorem dX2_copyFrom_104 : decode cX2_copyFrom 104 = .ok (.getfield 30, 3) := by decide +kernel
theorem dX2_copyFrom_107 : decode cX2_copyFrom 107 = .ok (.invokestatic 34, 3) := by decide +kernel
theorem dX2_copyFrom_110 : decode cX2_copyFrom 110 = .ok (.return_, 1) := by decide +kernel
theorem dX3_init_0 : decode cX3_init 0 = .ok (.aload_n 0, 1) := by decide +kernel
theorem dX3_init_1 : decode cX3_init 1 = .ok (.invokespecial 3, 3) := by decide +kernel
theorem dX3_init_4 : decode cX3_init 4 = .ok (.aload_n 0, 1) := by decide +kernel
theorem dX3_init_5 : decode cX3_init 5 = .ok (.bipush 6, 2) := by decide +kernel
theorem dX3_init_7 : decode cX3_init 7 = .ok (.newarray .int, 2) := by decide +kernel
theorem dX3_init_9 : decode cX3_init 9 = .ok (.putfield 9, 3) := by decide +kernel
theorem dX3_init_12 : decode cX3_init 12 = .ok (.aload_n 0, 1) := by decide +kernel
theorem dX3_init_13 : decode cX3_init 13 = .ok (.bipush 6, 2) := by decide +kernel
theorem dX3_init_15 : decode cX3_init 15 = .ok (.newarray .int, 2) := by decide +kernel
theorem dX3_init_17 : decode cX3_init 17 = .ok (.putfield 15, 3) := by decide +kernel
theorem dX3_init_20 : decode cX3_init 20 = .ok (.aload_n 0, 1) := by decide +kernel
theorem dX3_init_21 : decode cX3_init 21 = .ok (.bipush 6, 2) := by decide +kernel
theorem dX3_init_23 : decode cX3_init 23 = .ok (.newarray .int, 2) := by decide +kernel
theorem dX3_init_25 : decode cX3_init 25 = .ok (.putfield 18, 3) := by decide +kernel
theorem dX3_init_28 : decode cX3_init 28 = .ok (.aload_n 0, 1) := by decide +kernel
theorem dX3_init_29 : decode cX3_init 29 = .ok (.bipush 6, 2) := by decide +kernel
theorem dX3_init_31 : decode cX3_init 31 = .ok (.newarray .int, 2) := by decide +kernel
theorem dX3_init_33 : decode cX3_init 33 = .ok (.putfield 21, 3) := by decide +kernel
theorem dX3_init_36 : decode cX3_init 36 = .ok (.aload_n 0, 1) := by decide +kernel
theorem dX3_init_37 : decode cX3_init 37 = .ok (.bipush 6, 2) := by decide +kernel
theorem dX3_init_39 : decode cX3_init 39 = .ok (.newarray .int, 2) := by decide +kernel
theorem dX3_init_41 : decode cX3_init 41 = .ok (.putfield 24, 3) := by decide +kernel
theorem dX3_init_44 : decode cX3_init 44 = .ok (.aload_n 0, 1) := by decide +kernel
theorem dX3_init_45 : decode cX3_init 45 = .ok (.bipush 6, 2) := by decide +kernel
theorem dX3_init_47 : decode cX3_init 47 = .ok (.newarray .boolean, 2) := by decide +kernel
theorem dX3_init_49 : decode cX3_init 49 = .ok (.putfield 27, 3) := by decide +kernel
theorem dX3_init_52 : decode cX3_init 52 = .ok (.return_, 1) := by decide +kernel
theorem dX3_add_0 : decode cX3_add 0 = .ok (.aload_n 0, 1) := by decide +kernel
theorem dX3_add_1 : decode cX3_add 1 = .ok (.getfield 31, 3) := by decide +kernel
theorem dX3_add_4 : decode cX3_add 4 = .ok (.bipush 6, 2) := by decide +kernel
theorem dX3_add_6 : decode cX3_add 6 = .ok (.if_icmp .lt 6, 3) := by decide +kernel
theorem dX3_add_9 : decode cX3_add 9 = .ok (.bipush (-6), 2) := by decide +kernel
theorem dX3_add_11 : decode cX3_add 11 = .ok (.ireturn, 1) := by decide +kernel
theorem dX3_add_12 : decode cX3_add 12 = .ok (.aload_n 0, 1) := by decide +kernel
theorem dX3_add_13 : decode cX3_add 13 = .ok (.getfield 31, 3) := by decide +kernel
theorem dX3_add_16 : decode cX3_add 16 = .ok (.istore 7, 2) := by decide +kernel
theorem dX3_add_18 : decode cX3_add 18 = .ok (.aload_n 0, 1) := by decide +kernel
theorem dX3_add_19 : decode cX3_add 19 = .ok (.getfield 9, 3) := by decide +kernel
theorem dX3_add_22 : decode cX3_add 22 = .ok (.iload 7, 2) := by decide +kernel
theorem dX3_add_24 : decode cX3_add 24 = .ok (.iload_n 1, 1) := by decide +kernel
theorem dX3_add_25 : decode cX3_add 25 = .ok (.iastore, 1) := by decide +kernel
theorem dX3_add_26 : decode cX3_add 26 = .ok (.aload_n 0, 1) := by decide +kernel
theorem dX3_add_27 : decode cX3_add 27 = .ok (.getfield 15, 3) := by decide +kernel
theorem dX3_add_30 : decode cX3_add 30 = .ok (.iload 7, 2) := by decide +kernel
theorem dX3_add_32 : decode cX3_add 32 = .ok (.iload_n 2, 1) := by decide +kernel
theorem dX3_add_33 : decode cX3_add 33 = .ok (.iastore, 1) := by decide +kernel
theorem dX3_add_34 : decode cX3_add 34 = .ok (.aload_n 0, 1) := by decide +kernel
theorem dX3_add_35 : decode cX3_add 35 = .ok (.getfield 18, 3) := by decide +kernel
theorem dX3_add_38 : decode cX3_add 38 = .ok (.iload 7, 2) := by decide +kernel
theorem dX3_add_40 : decode cX3_add 40 = .ok (.iload_n 3, 1) := by decide +kernel
theorem dX3_add_41 : decode cX3_add 41 = .ok (.iastore, 1) := by decide +kernel
theorem dX3_add_42 : decode cX3_add 42 = .ok (.aload_n 0, 1) := by decide +kernel
theorem dX3_add_43 : decode cX3_add 43 = .ok (.getfield 21, 3) := by decide +kernel
theorem dX3_add_46 : decode cX3_add 46 = .ok (.iload 7, 2) := by decide +kernel
theorem dX3_add_48 : decode cX3_add 48 = .ok (.iload 4, 2) := by decide +kernel
theorem dX3_add_50 : decode cX3_add 50 = .ok (.iastore, 1) := by decide +kernel
theorem dX3_add_51 : decode cX3_add 51 = .ok (.aload_n 0, 1) := by decide +kernel
theorem dX3_add_52 : decode cX3_add 52 = .ok (.getfield 24, 3) := by decide +kernel
theorem dX3_add_55 : decode cX3_add 55 = .ok (.iload 7, 2) := by decide +kernel
theorem dX3_add_57 : decode cX3_add 57 = .ok (.iload 5, 2) := by decide +kernel
theorem dX3_add_59 : decode cX3_add 59 = .ok (.iastore, 1) := by decide +kernel
theorem dX3_add_60 : decode cX3_add 60 = .ok (.aload_n 0, 1) := by decide +kernel
theorem dX3_add_61 : decode cX3_add 61 = .ok (.getfield 27, 3) := by decide +kernel
theorem dX3_add_64 : decode cX3_add 64 = .ok (.iload 7, 2) := by decide +kernel
theorem dX3_add_66 : decode cX3_add 66 = .ok (.iload 6, 2) := by decide +kernel
theorem dX3_add_68 : decode cX3_add 68 = .ok (.bastore, 1) := by decide +kernel
theorem dX3_add_69 : decode cX3_add 69 = .ok (.aload_n 0, 1) := by decide +kernel
theorem dX3_add_70 : decode cX3_add 70 = .ok (.dup, 1) := by decide +kernel
theorem dX3_add_71 : decode cX3_add 71 = .ok (.getfield 31, 3) := by decide +kernel
theorem dX3_add_74 : decode cX3_add 74 = .ok (.iconst 1, 1) := by decide +kernel
theorem dX3_add_75 : decode cX3_add 75 = .ok (.iadd, 1) := by decide +kernel
theorem dX3_add_76 : decode cX3_add 76 = .ok (.putfield 31, 3) := by decide +kernel
theorem dX3_add_79 : decode cX3_add 79 = .ok (.iload 7, 2) := by decide +kernel
theorem dX3_add_81 : decode cX3_add 81 = .ok (.ireturn, 1) := by decide +kernel
theorem dX3_copyFrom_0 : decode cX3_copyFrom 0 = .ok (.aload_n 0, 1) := by decide +kernel
theorem dX3_copyFrom_1 : decode cX3_copyFrom 1 = .ok (.aload_n 1, 1) := by decide +kernel
theorem dX3_copyFrom_2 : decode cX3_copyFrom 2 = .ok (.getfield 31, 3) := by decide +kernel
theorem dX3_copyFrom_5 : decode cX3_copyFrom 5 = .ok (.putfield 31, 3) := by decide +kernel
theorem dX3_copyFrom_8 : decode cX3_copyFrom 8 = .ok (.iconst 0, 1) := by decide +kernel
theorem dX3_copyFrom_9 : decode cX3_copyFrom 9 = .ok (.istore_n 2, 1) := by decide +kernel
theorem dX3_copyFrom_10 : decode cX3_copyFrom 10 = .ok (.iload_n 2, 1) := by decide +kernel
theorem dX3_copyFrom_11 : decode cX3_copyFrom 11 = .ok (.bipush 6, 2) := by decide +kernel
theorem dX3_copyFrom_13 : decode cX3_copyFrom 13 = .ok (.if_icmp .ge 81, 3) := by decide +kernel
theorem dX3_copyFrom_16 : decode cX3_copyFrom 16 = .ok (.aload_n 0, 1) := by decide +kernel
theorem dX3_copyFrom_17 : decode cX3_copyFrom 17 = .ok (.getfield 9, 3) := by decide +kernel
theorem dX3_copyFrom_20 : decode cX3_copyFrom 20 = .ok (.iload_n 2, 1) := by decide +kernel
theorem dX3_copyFrom_21 : decode cX3_copyFrom 21 = .ok (.aload_n 1, 1) := by decide +kernel
theorem dX3_copyFrom_22 : decode cX3_copyFrom 22 = .ok (.getfield 9, 3) := by decide +kernel
theorem dX3_copyFrom_25 : decode cX3_copyFrom 25 = .ok (.iload_n 2, 1) := by decide +kernel
theorem dX3_copyFrom_26 : decode cX3_copyFrom 26 = .ok (.iaload, 1) := by decide +kernel
theorem dX3_copyFrom_27 : decode cX3_copyFrom 27 = .ok (.iastore, 1) := by decide +kernel
theorem dX3_copyFrom_28 : decode cX3_copyFrom 28 = .ok (.aload_n 0, 1) := by decide +kernel
theorem dX3_copyFrom_29 : decode cX3_copyFrom 29 = .ok (.getfield 15, 3) := by decide +kernel
theorem dX3_copyFrom_32 : decode cX3_copyFrom 32 = .ok (.iload_n 2, 1) := by decide +kernel
theorem dX3_copyFrom_33 : decode cX3_copyFrom 33 = .ok (.aload_n 1, 1) := by decide +kernel
theorem dX3_copyFrom_34 : decode cX3_copyFrom 34 = .ok (.getfield 15, 3) := by decide +kernel
theorem dX3_copyFrom_37 : decode cX3_copyFrom 37 = .ok (.iload_n 2, 1) := by decide +kernel
theorem dX3_copyFrom_38 : decode cX3_copyFrom 38 = .ok (.iaload, 1) := by decide +kernel
theorem dX3_copyFrom_39 : decode cX3_copyFrom 39 = .ok (.iastore, 1) := by decide +kernel
theorem dX3_copyFrom_40 : decode cX3_copyFrom 40 = .ok (.aload_n 0, 1) := by decide +kernel
theorem dX3_copyFrom_41 : decode cX3_copyFrom 41 = .ok (.getfield 18, 3) := by decide +kernel
theorem dX3_copyFrom_44 : decode cX3_copyFrom 44 = .ok (.iload_n 2, 1) := by decide +kernel
theorem dX3_copyFrom_45 : decode cX3_copyFrom 45 = .ok (.aload_n 1, 1) := by decide +kernel
theorem dX3_copyFrom_46 : decode cX3_copyFrom 46 = .ok (.getfield 18, 3) := by decide +kernel
theorem dX3_copyFrom_49 : decode cX3_copyFrom 49 = .ok (.iload_n 2, 1) := by decide +kernel
theorem dX3_copyFrom_50 : decode cX3_copyFrom 50 = .ok (.iaload, 1) := by decide +kernel
theorem dX3_copyFrom_51 : decode cX3_copyFrom 51 = .ok (.iastore, 1) := by decide +kernel
theorem dX3_copyFrom_52 : decode cX3_copyFrom 52 = .ok (.aload_n 0, 1) := by decide +kernel
theorem dX3_copyFrom_53 : decode cX3_copyFrom 53 = .ok (.getfield 21, 3) := by decide +kernel
theorem dX3_copyFrom_56 : decode cX3_copyFrom 56 = .ok (.iload_n 2, 1) := by decide +kernel
theorem dX3_copyFrom_57 : decode cX3_copyFrom 57 = .ok (.aload_n 1, 1) := by decide +kernel
theorem dX3_copyFrom_58 : decode cX3_copyFrom 58 = .ok (.getfield 21, 3) := by decide +kernel
theorem dX3_copyFrom_61 : decode cX3_copyFrom 61 = .ok (.iload_n 2, 1) := by decide +kernel
theorem dX3_copyFrom_62 : decode cX3_copyFrom 62 = .ok (.iaload, 1) := by decide +kernel
theorem dX3_copyFrom_63 : decode cX3_copyFrom 63 = .ok (.iastore, 1) := by decide +kernel
theorem dX3_copyFrom_64 : decode cX3_copyFrom 64 = .ok (.aload_n 0, 1) := by decide +kernel
theorem dX3_copyFrom_65 : decode cX3_copyFrom 65 = .ok (.getfield 24, 3) := by decide +kernel
theorem dX3_copyFrom_68 : decode cX3_copyFrom 68 = .ok (.iload_n 2, 1) := by decide +kernel
theorem dX3_copyFrom_69 : decode cX3_copyFrom 69 = .ok (.aload_n 1, 1) := by decide +kernel
theorem dX3_copyFrom_70 : decode cX3_copyFrom 70 = .ok (.getfield 24, 3) := by decide +kernel
theorem dX3_copyFrom_73 : decode cX3_copyFrom 73 = .ok (.iload_n 2, 1) := by decide +kernel
theorem dX3_copyFrom_74 : decode cX3_copyFrom 74 = .ok (.iaload, 1) := by decide +kernel
theorem dX3_copyFrom_75 : decode cX3_copyFrom 75 = .ok (.iastore, 1) := by decide +kernel
theorem dX3_copyFrom_76 : decode cX3_copyFrom 76 = .ok (.aload_n 0, 1) := by decide +kernel
theorem dX3_copyFrom_77 : decode cX3_copyFrom 77 = .ok (.getfield 27, 3) := by decide +kernel
theorem dX3_copyFrom_80 : decode cX3_copyFrom 80 = .ok (.iload_n 2, 1) := by decide +kernel
theorem dX3_copyFrom_81 : decode cX3_copyFrom 81 = .ok (.aload_n 1, 1) := by decide +kernel
theorem dX3_copyFrom_82 : decode cX3_copyFrom 82 = .ok (.getfield 27, 3) := by decide +kernel
theorem dX3_copyFrom_85 : decode cX3_copyFrom 85 = .ok (.iload_n 2, 1) := by decide +kernel
theorem dX3_copyFrom_86 : decode cX3_copyFrom 86 = .ok (.baload, 1) := by decide +kernel
theorem dX3_copyFrom_87 : decode cX3_copyFrom 87 = .ok (.bastore, 1) := by decide +kernel
theorem dX3_copyFrom_88 : decode cX3_copyFrom 88 = .ok (.iinc 2 1, 3) := by decide +kernel
theorem dX3_copyFrom_91 : decode cX3_copyFrom 91 = .ok (.goto (-81), 3) := by decide +kernel
theorem dX3_copyFrom_94 : decode cX3_copyFrom 94 = .ok (.return_, 1) := by decide +kernel
theorem dX4_init_0 : decode cX4_init 0 = .ok (.aload_n 0, 1) := by decide +kernel
theorem dX4_init_1 : decode cX4_init 1 = .ok (.invokespecial 1, 3) := by decide +kernel
theorem dX4_init_4 : decode cX4_init 4 = .ok (.iconst 0, 1) := by decide +kernel
theorem dX4_init_5 : decode cX4_init 5 = .ok (.iload_n 1, 1) := by decide +kernel
theorem dX4_init_6 : decode cX4_init 6 = .ok (.invokestatic 7, 3) := by decide +kernel
theorem dX4_init_9 : decode cX4_init 9 = .ok (.istore_n 2, 1) := by decide +kernel
theorem dX4_init_10 : decode cX4_init 10 = .ok (.aload_n 0, 1) := by decide +kernel
theorem dX4_init_11 : decode cX4_init 11 = .ok (.iload_n 2, 1) := by decide +kernel
theorem dX4_init_12 : decode cX4_init 12 = .ok (.newarray .int, 2) := by decide +kernel
theorem dX4_init_14 : decode cX4_init 14 = .ok (.putfield 13, 3) := by decide +kernel
theorem dX4_init_17 : decode cX4_init 17 = .ok (.aload_n 0, 1) := by decide +kernel
theorem dX4_init_18 : decode cX4_init 18 = .ok (.iload_n 2, 1) := by decide +kernel
theorem dX4_init_19 : decode cX4_init 19 = .ok (.newarray .int, 2) := by decide +kernel
theorem dX4_init_21 : decode cX4_init 21 = .ok (.putfield 19, 3) := by decide +kernel
theorem dX4_init_24 : decode cX4_init 24 = .ok (.aload_n 0, 1) := by decide +kernel
theorem dX4_init_25 : decode cX4_init 25 = .ok (.iload_n 2, 1) := by decide +kernel
theorem dX4_init_26 : decode cX4_init 26 = .ok (.newarray .int, 2) := by decide +kernel
theorem dX4_init_28 : decode cX4_init 28 = .ok (.putfield 22, 3) := by decide +kernel
theorem dX4_init_31 : decode cX4_init 31 = .ok (.aload_n 0, 1) := by decide +kernel
theorem dX4_init_32 : decode cX4_init 32 = .ok (.iload_n 2, 1) := by decide +kernel
theorem dX4_init_33 : decode cX4_init 33 = .ok (.newarray .int, 2) := by decide +kernel
theorem dX4_init_35 : decode cX4_init 35 = .ok (.putfield 25, 3) := by decide +kernel
theorem dX4_init_38 : decode cX4_init 38 = .ok (.return_, 1) := by decide +kernel
theorem dX4_write_0 : decode cX4_write 0 = .ok (.aload_n 0, 1) := by decide +kernel
theorem dX4_write_1 : decode cX4_write 1 = .ok (.getfield 28, 3) := by decide +kernel
theorem dX4_write_4 : decode cX4_write 4 = .ok (.aload_n 0, 1) := by decide +kernel
theorem dX4_write_5 : decode cX4_write 5 = .ok (.getfield 13, 3) := by decide +kernel
theorem dX4_write_8 : decode cX4_write 8 = .ok (.arraylength, 1) := by decide +kernel
theorem dX4_write_9 : decode cX4_write 9 = .ok (.if_icmp .lt 4, 3) := by decide +kernel
theorem dX4_write_12 : decode cX4_write 12 = .ok (.return_, 1) := by decide +kernel
theorem dX4_write_13 : decode cX4_write 13 = .ok (.aload_n 0, 1) := by decide +kernel
theorem dX4_write_14 : decode cX4_write 14 = .ok (.getfield 13, 3) := by decide +kernel
theorem dX4_write_17 : decode cX4_write 17 = .ok (.aload_n 0, 1) := by decide +kernel
theorem dX4_write_18 : decode cX4_write 18 = .ok (.getfield 28, 3) := by decide +kernel
theorem dX4_write_21 : decode cX4_write 21 = .ok (.iload_n 1, 1) := by decide +kernel
theorem dX4_write_22 : decode cX4_write 22 = .ok (.iastore, 1) := by decide +kernel
theorem dX4_write_23 : decode cX4_write 23 = .ok (.aload_n 0, 1) := by decide +kernel
theorem dX4_write_24 : decode cX4_write 24 = .ok (.getfield 19, 3) := by decide +kernel
theorem dX4_write_27 : decode cX4_write 27 = .ok (.aload_n 0, 1) := by decide +kernel
theorem dX4_write_28 : decode cX4_write 28 = .ok (.getfield 28, 3) := by decide +kernel
theorem dX4_write_31 : decode cX4_write 31 = .ok (.iload_n 2, 1) := by decide +kernel
theorem dX4_write_32 : decode cX4_write 32 = .ok (.iastore, 1) := by decide +kernel
theorem dX4_write_33 : decode cX4_write 33 = .ok (.aload_n 0, 1) := by decide +kernel
theorem dX4_write_34 : decode cX4_write 34 = .ok (.getfield 22, 3) := by decide +kernel
theorem dX4_write_37 : decode cX4_write 37 = .ok (.aload_n 0, 1) := by decide +kernel
theorem dX4_write_38 : decode cX4_write 38 = .ok (.getfield 28, 3) := by decide +kernel
theorem dX4_write_41 : decode cX4_write 41 = .ok (.iload_n 3, 1) := by decide +kernel
theorem dX4_write_42 : decode cX4_write 42 = .ok (.iastore, 1) := by decide +kernel
theorem dX4_write_43 : decode cX4_write 43 = .ok (.aload_n 0, 1) := by decide +kernel
theorem dX4_write_44 : decode cX4_write 44 = .ok (.getfield 25, 3) := by decide +kernel
theorem dX4_write_47 : decode cX4_write 47 = .ok (.aload_n 0, 1) := by decide +kernel
theorem dX4_write_48 : decode cX4_write 48 = .ok (.getfield 28, 3) := by decide +kernel
theorem dX4_write_51 : decode cX4_write 51 = .ok (.iload 4, 2) := by decide +kernel
theorem dX4_write_53 : decode cX4_write 53 = .ok (.iastore, 1) := by decide +kernel
theorem dX4_write_54 : decode cX4_write 54 = .ok (.aload_n 0, 1) := by decide +kernel
theorem dX4_write_55 : decode cX4_write 55 = .ok (.dup, 1) := by decide +kernel
theorem dX4_write_56 : decode cX4_write 56 = .ok (.getfield 28, 3) := by decide +kernel
theorem dX4_write_59 : decode cX4_write 59 = .ok (.iconst 1, 1) := by decide +kernel
theorem dX4_write_60 : decode cX4_write 60 = .ok (.iadd, 1) := by decide +kernel
theorem dX4_write_61 : decode cX4_write 61 = .ok (.putfield 28, 3) := by decide +kernel
theorem dX4_write_64 : decode cX4_write 64 = .ok (.return_, 1) := by decide +kernel
theorem dX4_copyFrom_0 : decode cX4_copyFrom 0 = .ok (.aload_n 0, 1) := by decide +kernel
theorem dX4_copyFrom_1 : decode cX4_copyFrom 1 = .ok (.aload_n 1, 1) := by decide +kernel
theorem dX4_copyFrom_2 : decode cX4_copyFrom 2 = .ok (.getfield 28, 3) := by decide +kernel
theorem dX4_copyFrom_5 : decode cX4_copyFrom 5 = .ok (.aload_n 0, 1) := by decide +kernel
theorem dX4_copyFrom_6 : decode cX4_copyFrom 6 = .ok (.getfield 13, 3) := by decide +kernel
theorem dX4_copyFrom_9 : decode cX4_copyFrom 9 = .ok (.arraylength, 1) := by decide +kernel
theorem dX4_copyFrom_10 : decode cX4_copyFrom 10 = .ok (.invokestatic 32, 3) := by decide +kernel
theorem dX4_copyFrom_13 : decode cX4_copyFrom 13 = .ok (.putfield 28, 3) := by decide +kernel
theorem dX4_copyFrom_16 : decode cX4_copyFrom 16 = .ok (.aload_n 1, 1) := by decide +kernel
theorem dX4_copyFrom_17 : decode cX4_copyFrom 17 = .ok (.getfield 13, 3) := by decide +kernel
theorem dX4_copyFrom_20 : decode cX4_copyFrom 20 = .ok (.iconst 0, 1) := by decide +kernel
theorem dX4_copyFrom_21 : decode cX4_copyFrom 21 = .ok (.aload_n 0, 1) := by decide +kernel
theorem dX4_copyFrom_22 : decode cX4_copyFrom 22 = .ok (.getfield 13, 3) := by decide +kernel
theorem dX4_copyFrom_25 : decode cX4_copyFrom 25 = .ok (.iconst 0, 1) := by decide +kernel
theorem dX4_copyFrom_26 : decode cX4_copyFrom 26 = .ok (.aload_n 0, 1) := by decide +kernel
theorem dX4_copyFrom_27 : decode cX4_copyFrom 27 = .ok (.getfield 28, 3) := by decide +kernel
theorem dX4_copyFrom_30 : decode cX4_copyFrom 30 = .ok (.invokestatic 35, 3) := by decide +kernel
theorem dX4_copyFrom_33 : decode cX4_copyFrom 33 = .ok (.aload_n 1, 1) := by decide +kernel
theorem dX4_copyFrom_34 : decode cX4_copyFrom 34 = .ok (.getfield 19, 3) := by decide +kernel
theorem dX4_copyFrom_37 : decode cX4_copyFrom 37 = .ok (.iconst 0, 1) := by decide +kernel
theorem dX4_copyFrom_38 : decode cX4_copyFrom 38 = .ok (.aload_n 0, 1) := by decide +kernel
theorem dX4_copyFrom_39 : decode cX4_copyFrom 39 = .ok (.getfield 19, 3) := by decide +kernel
theorem dX4_copyFrom_42 : decode cX4_copyFrom 42 = .ok (.iconst 0, 1) := by decide +kernel
theorem dX4_copyFrom_43 : decode cX4_copyFrom 43 = .ok (.aload_n 0, 1) := by decide +kernel
theorem dX4_copyFrom_44 : decode cX4_copyFrom 44 = .ok (.getfield 28, 3) := by decide +kernel
theorem dX4_copyFrom_47 : decode cX4_copyFrom 47 = .ok (.invokestatic 35, 3) := by decide +kernel
theorem dX4_copyFrom_50 : decode cX4_copyFrom 50 = .ok (.aload_n 1, 1) := by decide +kernel
theorem dX4_copyFrom_51 : decode cX4_copyFrom 51 = .ok (.getfield 22, 3) := by decide +kernel
theorem dX4_copyFrom_54 : decode cX4_copyFrom 54 = .ok (.iconst 0, 1) := by decide +kernel
theorem dX4_copyFrom_55 : decode cX4_copyFrom 55 = .ok (.aload_n 0, 1) := by decide +kernel
theorem dX4_copyFrom_56 : decode cX4_copyFrom 56 = .ok (.getfield 22, 3) := by decide +kernel
theorem dX4_copyFrom_59 : decode cX4_copyFrom 59 = .ok (.iconst 0, 1) := by decide +kernel
theorem dX4_copyFrom_60 : decode cX4_copyFrom 60 = .ok (.aload_n 0, 1) := by decide +kernel
theorem dX4_copyFrom_61 : decode cX4_copyFrom 61 = .ok (.getfield 28, 3) := by decide +kernel
theorem dX4_copyFrom_64 : decode cX4_copyFrom 64 = .ok (.invokestatic 35, 3) := by decide +kernel
theorem dX4_copyFrom_67 : decode cX4_copyFrom 67 = .ok (.aload_n 1, 1) := by decide +kernel
theorem dX4_copyFrom_68 : decode cX4_copyFrom 68 = .ok (.getfield 25, 3) := by decide +kernel
theorem dX4_copyFrom_71 : decode cX4_copyFrom 71 = .ok (.iconst 0, 1) := by decide +kernel
theorem dX4_copyFrom_72 : decode cX4_copyFrom 72 = .ok (.aload_n 0, 1) := by decide +kernel
theorem dX4_copyFrom_73 : decode cX4_copyFrom 73 = .ok (.getfield 25, 3) := by decide +kernel
theorem dX4_copyFrom_76 : decode cX4_copyFrom 76 = .ok (.iconst 0, 1) := by decide +kernel
theorem dX4_copyFrom_77 : decode cX4_copyFrom 77 = .ok (.aload_n 0, 1) := by decide +kernel
theorem dX4_copyFrom_78 : decode cX4_copyFrom 78 = .ok (.getfield 28, 3) := by decide +kernel
theorem dX4_copyFrom_81 : decode cX4_copyFrom 81 = .ok (.invokestatic 35, 3) := by decide +kernel
theorem dX4_copyFrom_84 : decode cX4_copyFrom 84 = .ok (.return_, 1) := by decide +kernel
theorem dX5_init_0 : decode cX5_init 0 = .ok (.aload_n 0, 1) := by decide +kernel
theorem dX5_init_1 : decode cX5_init 1 = .ok (.invokespecial 3, 3) := by decide +kernel
theorem dX5_init_4 : decode cX5_init 4 = .ok (.aload_n 0, 1) := by decide +kernel
theorem dX5_init_5 : decode cX5_init 5 = .ok (.sipush 400, 3) := by decide +kernel
theorem dX5_init_8 : decode cX5_init 8 = .ok (.newarray .byte, 2) := by decide +kernel
theorem dX5_init_10 : decode cX5_init 10 = .ok (.putfield 9, 3) := by decide +kernel
theorem dX5_init_13 : decode cX5_init 13 = .ok (.aload_n 0, 1) := by decide +kernel
theorem dX5_init_14 : decode cX5_init 14 = .ok (.bipush 40, 2) := by decide +kernel
theorem dX5_init_16 : decode cX5_init 16 = .ok (.newarray .int, 2) := by decide +kernel
theorem dX5_init_18 : decode cX5_init 18 = .ok (.putfield 15, 3) := by decide +kernel
theorem dX5_init_21 : decode cX5_init 21 = .ok (.aload_n 0, 1) := by decide +kernel
theorem dX5_init_22 : decode cX5_init 22 = .ok (.bipush 40, 2) := by decide +kernel
theorem dX5_init_24 : decode cX5_init 24 = .ok (.iconst 5, 1) := by decide +kernel
theorem dX5_init_25 : decode cX5_init 25 = .ok (.multianewarray 19 2, 4) := by decide +kernel
theorem dX5_init_29 : decode cX5_init 29 = .ok (.putfield 21, 3) := by decide +kernel
theorem dX5_init_32 : decode cX5_init 32 = .ok (.aload_n 0, 1) := by decide +kernel
theorem dX5_init_33 : decode cX5_init 33 = .ok (.bipush 40, 2) := by decide +kernel
theorem dX5_init_35 : decode cX5_init 35 = .ok (.newarray .boolean, 2) := by decide +kernel
theorem dX5_init_37 : decode cX5_init 37 = .ok (.putfield 24, 3) := by decide +kernel
theorem dX5_init_40 : decode cX5_init 40 = .ok (.aload_n 0, 1) := by decide +kernel
theorem dX5_init_41 : decode cX5_init 41 = .ok (.iconst (-1), 1) := by decide +kernel
theorem dX5_init_42 : decode cX5_init 42 = .ok (.putfield 28, 3) := by decide +kernel
theorem dX5_init_45 : decode cX5_init 45 = .ok (.return_, 1) := by decide +kernel
theorem dX5_append_0 : decode cX5_append 0 = .ok (.aload_n 0, 1) := by decide +kernel
theorem dX5_append_1 : decode cX5_append 1 = .ok (.getfield 32, 3) := by decide +kernel
theorem dX5_append_4 : decode cX5_append 4 = .ok (.sipush 396, 3) := by decide +kernel
theorem dX5_append_7 : decode cX5_append 7 = .ok (.if_icmp .le 5, 3) := by decide +kernel
theorem dX5_append_10 : decode cX5_append 10 = .ok (.iconst 0, 1) := by decide +kernel
theorem dX5_append_11 : decode cX5_append 11 = .ok (.ireturn, 1) := by decide +kernel
theorem dX5_append_12 : decode cX5_append 12 = .ok (.bipush 24, 2) := by decide +kernel
theorem dX5_append_14 : decode cX5_append 14 = .ok (.istore_n 2, 1) := by decide +kernel
theorem dX5_append_15 : decode cX5_append 15 = .ok (.iload_n 2, 1) := by decide +kernel
theorem dX5_append_16 : decode cX5_append 16 = .ok (.ifCond .lt 32, 3) := by decide +kernel
theorem dX5_append_19 : decode cX5_append 19 = .ok (.aload_n 0, 1) := by decide +kernel
theorem dX5_append_20 : decode cX5_append 20 = .ok (.getfield 9, 3) := by decide +kernel
theorem dX5_append_23 : decode cX5_append 23 = .ok (.aload_n 0, 1) := by decide +kernel
theorem dX5_append_24 : decode cX5_append 24 = .ok (.getfield 32, 3) := by decide +kernel
theorem dX5_append_27 : decode cX5_append 27 = .ok (.iload_n 1, 1) := by decide +kernel
theorem dX5_append_28 : decode cX5_append 28 = .ok (.iload_n 2, 1) := by decide +kernel
theorem dX5_append_29 : decode cX5_append 29 = .ok (.ishr, 1) := by decide +kernel
theorem dX5_append_30 : decode cX5_append 30 = .ok (.i2b, 1) := by decide +kernel
theorem dX5_append_31 : decode cX5_append 31 = .ok (.bastore, 1) := by decide +kernel
theorem dX5_append_32 : decode cX5_append 32 = .ok (.aload_n 0, 1) := by decide +kernel
theorem dX5_append_33 : decode cX5_append 33 = .ok (.dup, 1) := by decide +kernel
theorem dX5_append_34 : decode cX5_append 34 = .ok (.getfield 32, 3) := by decide +kernel
theorem dX5_append_37 : decode cX5_append 37 = .ok (.iconst 1, 1) := by decide +kernel
theorem dX5_append_38 : decode cX5_append 38 = .ok (.iadd, 1) := by decide +kernel
theorem dX5_append_39 : decode cX5_append 39 = .ok (.putfield 32, 3) := by decide +kernel
theorem dX5_append_42 : decode cX5_append 42 = .ok (.iinc 2 (-8), 3) := by decide +kernel
theorem dX5_append_45 : decode cX5_append 45 = .ok (.goto (-30), 3) := by decide +kernel
theorem dX5_append_48 : decode cX5_append 48 = .ok (.iconst 1, 1) := by decide +kernel
theorem dX5_append_49 : decode cX5_append 49 = .ok (.ireturn, 1) := by decide +kernel
theorem dX5_parse_0 : decode cX5_parse 0 = .ok (.aload_n 0, 1) := by decide +kernel
theorem dX5_parse_1 : decode cX5_parse 1 = .ok (.iconst 0, 1) := by decide +kernel
theorem dX5_parse_2 : decode cX5_parse 2 = .ok (.putfield 35, 3) := by decide +kernel
theorem dX5_parse_5 : decode cX5_parse 5 = .ok (.aload_n 0, 1) := by decide +kernel
theorem dX5_parse_6 : decode cX5_parse 6 = .ok (.iconst (-1), 1) := by decide +kernel
theorem dX5_parse_7 : decode cX5_parse 7 = .ok (.putfield 28, 3) := by decide +kernel
theorem dX5_parse_10 : decode cX5_parse 10 = .ok (.aload_n 0, 1) := by decide +kernel
theorem dX5_parse_11 : decode cX5_parse 11 = .ok (.iconst 0, 1) := by decide +kernel
theorem dX5_parse_12 : decode cX5_parse 12 = .ok (.putfield 38, 3) := by decide +kernel
theorem dX5_parse_15 : decode cX5_parse 15 = .ok (.iconst 0, 1) := by decide +kernel
theorem dX5_parse_16 : decode cX5_parse 16 = .ok (.istore_n 1, 1) := by decide +kernel
theorem dX5_parse_17 : decode cX5_parse 17 = .ok (.iload_n 1, 1) := by decide +kernel
theorem dX5_parse_18 : decode cX5_parse 18 = .ok (.bipush 40, 2) := by decide +kernel
theorem dX5_parse_20 : decode cX5_parse 20 = .ok (.if_icmp .gt 66, 3) := by decide +kernel
theorem dX5_parse_23 : decode cX5_parse 23 = .ok (.aload_n 0, 1) := by decide +kernel
theorem dX5_parse_24 : decode cX5_parse 24 = .ok (.iload_n 1, 1) := by decide +kernel
theorem dX5_parse_25 : decode cX5_parse 25 = .ok (.putfield 41, 3) := by decide +kernel
theorem dX5_parse_28 : decode cX5_parse 28 = .ok (.aload_n 0, 1) := by decide +kernel
theorem dX5_parse_29 : decode cX5_parse 29 = .ok (.invokevirtual 44, 3) := by decide +kernel
theorem dX5_parse_32 : decode cX5_parse 32 = .ok (.aload_n 0, 1) := by decide +kernel
theorem dX5_parse_33 : decode cX5_parse 33 = .ok (.getfield 47, 3) := by decide +kernel
theorem dX5_parse_36 : decode cX5_parse 36 = .ok (.ifCond .ne 5, 3) := by decide +kernel
theorem dX5_parse_39 : decode cX5_parse 39 = .ok (.iconst 1, 1) := by decide +kernel
theorem dX5_parse_40 : decode cX5_parse 40 = .ok (.ireturn, 1) := by decide +kernel
theorem dX5_parse_41 : decode cX5_parse 41 = .ok (.aload_n 0, 1) := by decide +kernel
theorem dX5_parse_42 : decode cX5_parse 42 = .ok (.invokevirtual 50, 3) := by decide +kernel
theorem dX5_parse_45 : decode cX5_parse 45 = .ok (.istore_n 2, 1) := by decide +kernel
theorem dX5_parse_46 : decode cX5_parse 46 = .ok (.iload_n 2, 1) := by decide +kernel
theorem dX5_parse_47 : decode cX5_parse 47 = .ok (.iconst (-1), 1) := by decide +kernel
theorem dX5_parse_48 : decode cX5_parse 48 = .ok (.if_icmp .ne 9, 3) := by decide +kernel
theorem dX5_parse_51 : decode cX5_parse 51 = .ok (.aload_n 0, 1) := by decide +kernel
theorem dX5_parse_52 : decode cX5_parse 52 = .ok (.iconst 1, 1) := by decide +kernel
theorem dX5_parse_53 : decode cX5_parse 53 = .ok (.invokevirtual 54, 3) := by decide +kernel
theorem dX5_parse_56 : decode cX5_parse 56 = .ok (.ireturn, 1) := by decide +kernel
theorem dX5_parse_57 : decode cX5_parse 57 = .ok (.iload_n 1, 1) := by decide +kernel
theorem dX5_parse_58 : decode cX5_parse 58 = .ok (.bipush 40, 2) := by decide +kernel
theorem dX5_parse_60 : decode cX5_parse 60 = .ok (.if_icmp .ne 9, 3) := by decide +kernel
theorem dX5_parse_63 : decode cX5_parse 63 = .ok (.aload_n 0, 1) := by decide +kernel
theorem dX5_parse_64 : decode cX5_parse 64 = .ok (.iconst 3, 1) := by decide +kernel
theorem dX5_parse_65 : decode cX5_parse 65 = .ok (.invokevirtual 54, 3) := by decide +kernel
theorem dX5_parse_68 : decode cX5_parse 68 = .ok (.ireturn, 1) := by decide +kernel
theorem dX5_parse_69 : decode cX5_parse 69 = .ok (.aload_n 0, 1) := by decide +kernel
theorem dX5_parse_70 : decode cX5_parse 70 = .ok (.iload_n 1, 1) := by decide +kernel
theorem dX5_parse_71 : decode cX5_parse 71 = .ok (.iload_n 2, 1) := by decide +kernel
theorem dX5_parse_72 : decode cX5_parse 72 = .ok (.invokevirtual 58, 3) := by decide +kernel
theorem dX5_parse_75 : decode cX5_parse 75 = .ok (.ifCond .ne 5, 3) := by decide +kernel
theorem dX5_parse_78 : decode cX5_parse 78 = .ok (.iconst 0, 1) := by decide +kernel
theorem dX5_parse_79 : decode cX5_parse 79 = .ok (.ireturn, 1) := by decide +kernel
theorem dX5_parse_80 : decode cX5_parse 80 = .ok (.iinc 1 1, 3) := by decide +kernel
theorem dX5_parse_83 : decode cX5_parse 83 = .ok (.goto (-66), 3) := by decide +kernel
theorem dX5_parse_86 : decode cX5_parse 86 = .ok (.iconst 0, 1) := by decide +kernel
theorem dX5_parse_87 : decode cX5_parse 87 = .ok (.ireturn, 1) := by decide +kernel
theorem dX5_parseStatement_0 : decode cX5_parseStatement 0 = .ok (.aload_n 0, 1) := by decide +kernel
theorem dX5_parseStatement_1 : decode cX5_parseStatement 1 = .ok (.getfield 15, 3) := by decide +kernel
theorem dX5_parseStatement_4 : decode cX5_parseStatement 4 = .ok (.iload_n 1, 1) := by decide +kernel
theorem dX5_parseStatement_5 : decode cX5_parseStatement 5 = .ok (.iload_n 2, 1) := by decide +kernel
theorem dX5_parseStatement_6 : decode cX5_parseStatement 6 = .ok (.iastore, 1) := by decide +kernel
theorem dX5_parseStatement_7 : decode cX5_parseStatement 7 = .ok (.aload_n 0, 1) := by decide +kernel
theorem dX5_parseStatement_8 : decode cX5_parseStatement 8 = .ok (.getfield 21, 3) := by decide +kernel
theorem dX5_parseStatement_11 : decode cX5_parseStatement 11 = .ok (.iload_n 1, 1) := by decide +kernel
theorem dX5_parseStatement_12 : decode cX5_parseStatement 12 = .ok (.aaload, 1) := by decide +kernel
theorem dX5_parseStatement_13 : decode cX5_parseStatement 13 = .ok (.astore_n 3, 1) := by decide +kernel
theorem dX5_parseStatement_14 : decode cX5_parseStatement 14 = .ok (.aload_n 3, 1) := by decide +kernel
theorem dX5_parseStatement_15 : decode cX5_parseStatement 15 = .ok (.iconst 0, 1) := by decide +kernel
theorem dX5_parseStatement_16 : decode cX5_parseStatement 16 = .ok (.invokestatic 62, 3) := by decide +kernel
theorem dX5_parseStatement_19 : decode cX5_parseStatement 19 = .ok (.iconst 0, 1) := by decide +kernel
theorem dX5_parseStatement_20 : decode cX5_parseStatement 20 = .ok (.istore 4, 2) := by decide +kernel
theorem dX5_parseStatement_22 : decode cX5_parseStatement 22 = .ok (.iload 4, 2) := by decide +kernel
theorem dX5_parseStatement_24 : decode cX5_parseStatement 24 = .ok (.getstatic 68, 3) := by decide +kernel
theorem dX5_parseStatement_27 : decode cX5_parseStatement 27 = .ok (.iload_n 2, 1) := by decide +kernel
theorem dX5_parseStatement_28 : decode cX5_parseStatement 28 = .ok (.iaload, 1) := by decide +kernel
theorem dX5_parseStatement_29 : decode cX5_parseStatement 29 = .ok (.if_icmp .ge 50, 3) := by decide +kernel
theorem dX5_parseStatement_32 : decode cX5_parseStatement 32 = .ok (.aload_n 0, 1) := by decide +kernel
theorem dX5_parseStatement_33 : decode cX5_parseStatement 33 = .ok (.invokevirtual 44, 3) := by decide +kernel
theorem dX5_parseStatement_36 : decode cX5_parseStatement 36 = .ok (.aload_n 0, 1) := by decide +kernel
theorem dX5_parseStatement_37 : decode cX5_parseStatement 37 = .ok (.getfield 47, 3) := by decide +kernel
theorem dX5_parseStatement_40 : decode cX5_parseStatement 40 = .ok (.iconst 2, 1) := by decide +kernel
theorem dX5_parseStatement_41 : decode cX5_parseStatement 41 = .ok (.if_icmp .eq 9, 3) := by decide +kernel
theorem dX5_parseStatement_44 : decode cX5_parseStatement 44 = .ok (.aload_n 0, 1) := by decide +kernel
theorem dX5_parseStatement_45 : decode cX5_parseStatement 45 = .ok (.iconst 1, 1) := by decide +kernel
theorem dX5_parseStatement_46 : decode cX5_parseStatement 46 = .ok (.invokevirtual 54, 3) := by decide +kernel
theorem dX5_parseStatement_49 : decode cX5_parseStatement 49 = .ok (.ireturn, 1) := by decide +kernel
theorem dX5_parseStatement_50 : decode cX5_parseStatement 50 = .ok (.aload_n 0, 1) := by decide +kernel
theorem dX5_parseStatement_51 : decode cX5_parseStatement 51 = .ok (.getfield 71, 3) := by decide +kernel
theorem dX5_parseStatement_54 : decode cX5_parseStatement 54 = .ok (.ldc 74, 2) := by decide +kernel
theorem dX5_parseStatement_56 : decode cX5_parseStatement 56 = .ok (.if_icmp .le 9, 3) := by decide +kernel
theorem dX5_parseStatement_59 : decode cX5_parseStatement 59 = .ok (.aload_n 0, 1) := by decide +kernel
theorem dX5_parseStatement_60 : decode cX5_parseStatement 60 = .ok (.iconst 2, 1) := by decide +kernel
theorem dX5_parseStatement_61 : decode cX5_parseStatement 61 = .ok (.invokevirtual 54, 3) := by decide +kernel
theorem dX5_parseStatement_64 : decode cX5_parseStatement 64 = .ok (.ireturn, 1) := by decide +kernel
theorem dX5_parseStatement_65 : decode cX5_parseStatement 65 = .ok (.aload_n 3, 1) := by decide +kernel
theorem dX5_parseStatement_66 : decode cX5_parseStatement 66 = .ok (.iload 4, 2) := by decide +kernel
theorem dX5_parseStatement_68 : decode cX5_parseStatement 68 = .ok (.aload_n 0, 1) := by decide +kernel
theorem dX5_parseStatement_69 : decode cX5_parseStatement 69 = .ok (.getfield 71, 3) := by decide +kernel
theorem dX5_parseStatement_72 : decode cX5_parseStatement 72 = .ok (.iastore, 1) := by decide +kernel
theorem dX5_parseStatement_73 : decode cX5_parseStatement 73 = .ok (.iinc 4 1, 3) := by decide +kernel
theorem dX5_parseStatement_76 : decode cX5_parseStatement 76 = .ok (.goto (-54), 3) := by decide +kernel
theorem dX5_parseStatement_79 : decode cX5_parseStatement 79 = .ok (.aload_n 0, 1) := by decide +kernel
theorem dX5_parseStatement_80 : decode cX5_parseStatement 80 = .ok (.invokevirtual 44, 3) := by decide +kernel
theorem dX5_parseStatement_83 : decode cX5_parseStatement 83 = .ok (.aload_n 0, 1) := by decide +kernel
theorem dX5_parseStatement_84 : decode cX5_parseStatement 84 = .ok (.getfield 24, 3) := by decide +kernel
theorem dX5_parseStatement_87 : decode cX5_parseStatement 87 = .ok (.iload_n 1, 1) := by decide +kernel
theorem dX5_parseStatement_88 : decode cX5_parseStatement 88 = .ok (.iload_n 2, 1) := by decide +kernel
theorem dX5_parseStatement_89 : decode cX5_parseStatement 89 = .ok (.iconst 1, 1) := by decide +kernel
theorem dX5_parseStatement_90 : decode cX5_parseStatement 90 = .ok (.if_icmp .ne 16, 3) := by decide +kernel
theorem dX5_parseStatement_93 : decode cX5_parseStatement 93 = .ok (.aload_n 0, 1) := by decide +kernel
theorem dX5_parseStatement_94 : decode cX5_parseStatement 94 = .ok (.ldc 75, 2) := by decide +kernel
theorem dX5_parseStatement_96 : decode cX5_parseStatement 96 = .ok (.invokevirtual 76, 3) := by decide +kernel
theorem dX5_parseStatement_99 : decode cX5_parseStatement 99 = .ok (.ifCond .eq 7, 3) := by decide +kernel
theorem dX5_parseStatement_102 : decode cX5_parseStatement 102 = .ok (.iconst 1, 1) := by decide +kernel
theorem dX5_parseStatement_103 : decode cX5_parseStatement 103 = .ok (.goto 4, 3) := by decide +kernel
theorem dX5_parseStatement_106 : decode cX5_parseStatement 106 = .ok (.iconst 0, 1) := by decide +kernel
theorem dX5_parseStatement_107 : decode cX5_parseStatement 107 = .ok (.bastore, 1) := by decide +kernel
theorem dX5_parseStatement_108 : decode cX5_parseStatement 108 = .ok (.aload_n 0, 1) := by decide +kernel
theorem dX5_parseStatement_109 : decode cX5_parseStatement 109 = .ok (.getfield 24, 3) := by decide +kernel
theorem dX5_parseStatement_112 : decode cX5_parseStatement 112 = .ok (.iload_n 1, 1) := by decide +kernel
theorem dX5_parseStatement_113 : decode cX5_parseStatement 113 = .ok (.baload, 1) := by decide +kernel
theorem dX5_parseStatement_114 : decode cX5_parseStatement 114 = .ok (.ifCond .eq 7, 3) := by decide +kernel
theorem dX5_parseStatement_117 : decode cX5_parseStatement 117 = .ok (.aload_n 0, 1) := by decide +kernel
theorem dX5_parseStatement_118 : decode cX5_parseStatement 118 = .ok (.invokevirtual 44, 3) := by decide +kernel
theorem dX5_parseStatement_121 : decode cX5_parseStatement 121 = .ok (.aload_n 0, 1) := by decide +kernel
theorem dX5_parseStatement_122 : decode cX5_parseStatement 122 = .ok (.getfield 47, 3) := by decide +kernel
theorem dX5_parseStatement_125 : decode cX5_parseStatement 125 = .ok (.iconst 3, 1) := by decide +kernel
theorem dX5_parseStatement_126 : decode cX5_parseStatement 126 = .ok (.if_icmp .eq 11, 3) := by decide +kernel
theorem dX5_parseStatement_129 : decode cX5_parseStatement 129 = .ok (.aload_n 0, 1) := by decide +kernel
theorem dX5_parseStatement_130 : decode cX5_parseStatement 130 = .ok (.iconst 1, 1) := by decide +kernel
theorem dX5_parseStatement_131 : decode cX5_parseStatement 131 = .ok (.invokevirtual 54, 3) := by decide +kernel
theorem dX5_parseStatement_134 : decode cX5_parseStatement 134 = .ok (.ifCond .eq 7, 3) := by decide +kernel
theorem dX5_parseStatement_137 : decode cX5_parseStatement 137 = .ok (.iconst 1, 1) := by decide +kernel
theorem dX5_parseStatement_138 : decode cX5_parseStatement 138 = .ok (.goto 4, 3) := by decide +kernel
theorem dX5_parseStatement_141 : decode cX5_parseStatement 141 = .ok (.iconst 0, 1) := by decide +kernel
theorem dX5_parseStatement_142 : decode cX5_parseStatement 142 = .ok (.ireturn, 1) := by decide +kernel
theorem dX5_fail_0 : decode cX5_fail 0 = .ok (.aload_n 0, 1) := by decide +kernel
theorem dX5_fail_1 : decode cX5_fail 1 = .ok (.iload_n 1, 1) := by decide +kernel
theorem dX5_fail_2 : decode cX5_fail 2 = .ok (.putfield 35, 3) := by decide +kernel
theorem dX5_fail_5 : decode cX5_fail 5 = .ok (.aload_n 0, 1) := by decide +kernel
theorem dX5_fail_6 : decode cX5_fail 6 = .ok (.aload_n 0, 1) := by decide +kernel
theorem dX5_fail_7 : decode cX5_fail 7 = .ok (.getfield 80, 3) := by decide +kernel
theorem dX5_fail_10 : decode cX5_fail 10 = .ok (.putfield 28, 3) := by decide +kernel
theorem dX5_fail_13 : decode cX5_fail 13 = .ok (.iconst 0, 1) := by decide +kernel
theorem dX5_fail_14 : decode cX5_fail 14 = .ok (.ireturn, 1) := by decide +kernel
theorem dX5_verbOfToken_0 : decode cX5_verbOfToken 0 = .ok (.iconst 0, 1) := by decide +kernel
theorem dX5_verbOfToken_1 : decode cX5_verbOfToken 1 = .ok (.istore_n 1, 1) := by decide +kernel
theorem dX5_verbOfToken_2 : decode cX5_verbOfToken 2 = .ok (.iload_n 1, 1) := by decide +kernel
theorem dX5_verbOfToken_3 : decode cX5_verbOfToken 3 = .ok (.bipush 13, 2) := by decide +kernel
theorem dX5_verbOfToken_5 : decode cX5_verbOfToken 5 = .ok (.if_icmp .ge 22, 3) := by decide +kernel
theorem dX5_verbOfToken_8 : decode cX5_verbOfToken 8 = .ok (.aload_n 0, 1) := by decide +kernel
theorem dX5_verbOfToken_9 : decode cX5_verbOfToken 9 = .ok (.iload_n 1, 1) := by decide +kernel
theorem dX5_verbOfToken_10 : decode cX5_verbOfToken 10 = .ok (.invokestatic 83, 3) := by decide +kernel
theorem dX5_verbOfToken_13 : decode cX5_verbOfToken 13 = .ok (.invokevirtual 76, 3) := by decide +kernel
theorem dX5_verbOfToken_16 : decode cX5_verbOfToken 16 = .ok (.ifCond .eq 5, 3) := by decide +kernel
theorem dX5_verbOfToken_19 : decode cX5_verbOfToken 19 = .ok (.iload_n 1, 1) := by decide +kernel
theorem dX5_verbOfToken_20 : decode cX5_verbOfToken 20 = .ok (.ireturn, 1) := by decide +kernel
theorem dX5_verbOfToken_21 : decode cX5_verbOfToken 21 = .ok (.iinc 1 1, 3) := by decide +kernel
theorem dX5_verbOfToken_24 : decode cX5_verbOfToken 24 = .ok (.goto (-22), 3) := by decide +kernel
theorem dX5_verbOfToken_27 : decode cX5_verbOfToken 27 = .ok (.iconst (-1), 1) := by decide +kernel
theorem dX5_verbOfToken_28 : decode cX5_verbOfToken 28 = .ok (.ireturn, 1) := by decide +kernel
theorem dX5_isWord_0 : decode cX5_isWord 0 = .ok (.aload_n 0, 1) := by decide +kernel
theorem dX5_isWord_1 : decode cX5_isWord 1 = .ok (.getfield 47, 3) := by decide +kernel
theorem dX5_isWord_4 : decode cX5_isWord 4 = .ok (.iconst 1, 1) := by decide +kernel
theorem dX5_isWord_5 : decode cX5_isWord 5 = .ok (.if_icmp .ne 19, 3) := by decide +kernel
theorem dX5_isWord_8 : decode cX5_isWord 8 = .ok (.aload_n 0, 1) := by decide +kernel
theorem dX5_isWord_9 : decode cX5_isWord 9 = .ok (.getfield 38, 3) := by decide +kernel
theorem dX5_isWord_12 : decode cX5_isWord 12 = .ok (.aload_n 0, 1) := by decide +kernel
theorem dX5_isWord_13 : decode cX5_isWord 13 = .ok (.getfield 80, 3) := by decide +kernel
theorem dX5_isWord_16 : decode cX5_isWord 16 = .ok (.isub, 1) := by decide +kernel
theorem dX5_isWord_17 : decode cX5_isWord 17 = .ok (.aload_n 1, 1) := by decide +kernel
theorem dX5_isWord_18 : decode cX5_isWord 18 = .ok (.invokevirtual 87, 3) := by decide +kernel
theorem dX5_isWord_21 : decode cX5_isWord 21 = .ok (.if_icmp .eq 5, 3) := by decide +kernel
theorem dX5_isWord_24 : decode cX5_isWord 24 = .ok (.iconst 0, 1) := by decide +kernel
theorem dX5_isWord_25 : decode cX5_isWord 25 = .ok (.ireturn, 1) := by decide +kernel
theorem dX5_isWord_26 : decode cX5_isWord 26 = .ok (.iconst 0, 1) := by decide +kernel
theorem dX5_isWord_27 : decode cX5_isWord 27 = .ok (.istore_n 2, 1) := by decide +kernel
theorem dX5_isWord_28 : decode cX5_isWord 28 = .ok (.iload_n 2, 1) := by decide +kernel
theorem dX5_isWord_29 : decode cX5_isWord 29 = .ok (.aload_n 1, 1) := by decide +kernel
theorem dX5_isWord_30 : decode cX5_isWord 30 = .ok (.invokevirtual 87, 3) := by decide +kernel
theorem dX5_isWord_33 : decode cX5_isWord 33 = .ok (.if_icmp .ge 30, 3) := by decide +kernel
theorem dX5_isWord_36 : decode cX5_isWord 36 = .ok (.aload_n 0, 1) := by decide +kernel
theorem dX5_isWord_37 : decode cX5_isWord 37 = .ok (.getfield 9, 3) := by decide +kernel
theorem dX5_isWord_40 : decode cX5_isWord 40 = .ok (.aload_n 0, 1) := by decide +kernel
theorem dX5_isWord_41 : decode cX5_isWord 41 = .ok (.getfield 80, 3) := by decide +kernel
theorem dX5_isWord_44 : decode cX5_isWord 44 = .ok (.iload_n 2, 1) := by decide +kernel
theorem dX5_isWord_45 : decode cX5_isWord 45 = .ok (.iadd, 1) := by decide +kernel
theorem dX5_isWord_46 : decode cX5_isWord 46 = .ok (.baload, 1) := by decide +kernel
theorem dX5_isWord_47 : decode cX5_isWord 47 = .ok (.aload_n 1, 1) := by decide +kernel
theorem dX5_isWord_48 : decode cX5_isWord 48 = .ok (.iload_n 2, 1) := by decide +kernel
theorem dX5_isWord_49 : decode cX5_isWord 49 = .ok (.invokevirtual 91, 3) := by decide +kernel
theorem dX5_isWord_52 : decode cX5_isWord 52 = .ok (.if_icmp .eq 5, 3) := by decide +kernel
theorem dX5_isWord_55 : decode cX5_isWord 55 = .ok (.iconst 0, 1) := by decide +kernel
theorem dX5_isWord_56 : decode cX5_isWord 56 = .ok (.ireturn, 1) := by decide +kernel
theorem dX5_isWord_57 : decode cX5_isWord 57 = .ok (.iinc 2 1, 3) := by decide +kernel
theorem dX5_isWord_60 : decode cX5_isWord 60 = .ok (.goto (-32), 3) := by decide +kernel
theorem dX5_isWord_63 : decode cX5_isWord 63 = .ok (.iconst 1, 1) := by decide +kernel
theorem dX5_isWord_64 : decode cX5_isWord 64 = .ok (.ireturn, 1) := by decide +kernel
theorem dX5_wordOf_0 : decode cX5_wordOf 0 = .ok (.iload_n 0, 1) := by decide +kernel
theorem dX5_wordOf_1 : decode cX5_wordOf 1 = .ok (.tableswitch 106 0 12 #[67, 70, 73, 76, 79, 82, 85, 88, 91, 94, 97, 100, 103], 67) := by decide +kernel
theorem dX5_wordOf_68 : decode cX5_wordOf 68 = .ok (.ldc 95, 2) := by decide +kernel
theorem dX5_wordOf_70 : decode cX5_wordOf 70 = .ok (.areturn, 1) := by decide +kernel
theorem dX5_wordOf_71 : decode cX5_wordOf 71 = .ok (.ldc 97, 2) := by decide +kernel
theorem dX5_wordOf_73 : decode cX5_wordOf 73 = .ok (.areturn, 1) := by decide +kernel
theorem dX5_wordOf_74 : decode cX5_wordOf 74 = .ok (.ldc 99, 2) := by decide +kernel
theorem dX5_wordOf_76 : decode cX5_wordOf 76 = .ok (.areturn, 1) := by decide +kernel
theorem dX5_wordOf_77 : decode cX5_wordOf 77 = .ok (.ldc 101, 2) := by decide +kernel
theorem dX5_wordOf_79 : decode cX5_wordOf 79 = .ok (.areturn, 1) := by decide +kernel
theorem dX5_wordOf_80 : decode cX5_wordOf 80 = .ok (.ldc 103, 2) := by decide +kernel
theorem dX5_wordOf_82 : decode cX5_wordOf 82 = .ok (.areturn, 1) := by decide +kernel
theorem dX5_wordOf_83 : decode cX5_wordOf 83 = .ok (.ldc 105, 2) := by decide +kernel
theorem dX5_wordOf_85 : decode cX5_wordOf 85 = .ok (.areturn, 1) := by decide +kernel
theorem dX5_wordOf_86 : decode cX5_wordOf 86 = .ok (.ldc 107, 2) := by decide +kernel
theorem dX5_wordOf_88 : decode cX5_wordOf 88 = .ok (.areturn, 1) := by decide +kernel
theorem dX5_wordOf_89 : decode cX5_wordOf 89 = .ok (.ldc 109, 2) := by decide +kernel
theorem dX5_wordOf_91 : decode cX5_wordOf 91 = .ok (.areturn, 1) := by decide +kernel
theorem dX5_wordOf_92 : decode cX5_wordOf 92 = .ok (.ldc 111, 2) := by decide +kernel
theorem dX5_wordOf_94 : decode cX5_wordOf 94 = .ok (.areturn, 1) := by decide +kernel
theorem dX5_wordOf_95 : decode cX5_wordOf 95 = .ok (.ldc 113, 2) := by decide +kernel
theorem dX5_wordOf_97 : decode cX5_wordOf 97 = .ok (.areturn, 1) := by decide +kernel
theorem dX5_wordOf_98 : decode cX5_wordOf 98 = .ok (.ldc 115, 2) := by decide +kernel
theorem dX5_wordOf_100 : decode cX5_wordOf 100 = .ok (.areturn, 1) := by decide +kernel
theorem dX5_wordOf_101 : decode cX5_wordOf 101 = .ok (.ldc 117, 2) := by decide +kernel
theorem dX5_wordOf_103 : decode cX5_wordOf 103 = .ok (.areturn, 1) := by decide +kernel
theorem dX5_wordOf_104 : decode cX5_wordOf 104 = .ok (.ldc 119, 2) := by decide +kernel
theorem dX5_wordOf_106 : decode cX5_wordOf 106 = .ok (.areturn, 1) := by decide +kernel
theorem dX5_wordOf_107 : decode cX5_wordOf 107 = .ok (.ldc 121, 2) := by decide +kernel
theorem dX5_wordOf_109 : decode cX5_wordOf 109 = .ok (.areturn, 1) := by decide +kernel
theorem dX5_readToken_0 : decode cX5_readToken 0 = .ok (.aload_n 0, 1) := by decide +kernel
theorem dX5_readToken_1 : decode cX5_readToken 1 = .ok (.getfield 38, 3) := by decide +kernel
theorem dX5_readToken_4 : decode cX5_readToken 4 = .ok (.aload_n 0, 1) := by decide +kernel
theorem dX5_readToken_5 : decode cX5_readToken 5 = .ok (.getfield 32, 3) := by decide +kernel
theorem dX5_readToken_8 : decode cX5_readToken 8 = .ok (.if_icmp .ge 31, 3) := by decide +kernel
theorem dX5_readToken_11 : decode cX5_readToken 11 = .ok (.aload_n 0, 1) := by decide +kernel
theorem dX5_readToken_12 : decode cX5_readToken 12 = .ok (.getfield 9, 3) := by decide +kernel
theorem dX5_readToken_15 : decode cX5_readToken 15 = .ok (.aload_n 0, 1) := by decide +kernel
theorem dX5_readToken_16 : decode cX5_readToken 16 = .ok (.getfield 38, 3) := by decide +kernel
theorem dX5_readToken_19 : decode cX5_readToken 19 = .ok (.baload, 1) := by decide +kernel
theorem dX5_readToken_20 : decode cX5_readToken 20 = .ok (.invokestatic 123, 3) := by decide +kernel
theorem dX5_readToken_23 : decode cX5_readToken 23 = .ok (.ifCond .eq 16, 3) := by decide +kernel
theorem dX5_readToken_26 : decode cX5_readToken 26 = .ok (.aload_n 0, 1) := by decide +kernel
theorem dX5_readToken_27 : decode cX5_readToken 27 = .ok (.dup, 1) := by decide +kernel
theorem dX5_readToken_28 : decode cX5_readToken 28 = .ok (.getfield 38, 3) := by decide +kernel
theorem dX5_readToken_31 : decode cX5_readToken 31 = .ok (.iconst 1, 1) := by decide +kernel
theorem dX5_readToken_32 : decode cX5_readToken 32 = .ok (.iadd, 1) := by decide +kernel
theorem dX5_readToken_33 : decode cX5_readToken 33 = .ok (.putfield 38, 3) := by decide +kernel
theorem dX5_readToken_36 : decode cX5_readToken 36 = .ok (.goto (-36), 3) := by decide +kernel
theorem dX5_readToken_39 : decode cX5_readToken 39 = .ok (.aload_n 0, 1) := by decide +kernel
theorem dX5_readToken_40 : decode cX5_readToken 40 = .ok (.aload_n 0, 1) := by decide +kernel
theorem dX5_readToken_41 : decode cX5_readToken 41 = .ok (.getfield 38, 3) := by decide +kernel
theorem dX5_readToken_44 : decode cX5_readToken 44 = .ok (.putfield 80, 3) := by decide +kernel
theorem dX5_readToken_47 : decode cX5_readToken 47 = .ok (.aload_n 0, 1) := by decide +kernel
theorem dX5_readToken_48 : decode cX5_readToken 48 = .ok (.getfield 38, 3) := by decide +kernel
theorem dX5_readToken_51 : decode cX5_readToken 51 = .ok (.aload_n 0, 1) := by decide +kernel
theorem dX5_readToken_52 : decode cX5_readToken 52 = .ok (.getfield 32, 3) := by decide +kernel
theorem dX5_readToken_55 : decode cX5_readToken 55 = .ok (.if_icmp .lt 11, 3) := by decide +kernel
theorem dX5_readToken_58 : decode cX5_readToken 58 = .ok (.aload_n 0, 1) := by decide +kernel
theorem dX5_readToken_59 : decode cX5_readToken 59 = .ok (.iconst 0, 1) := by decide +kernel
theorem dX5_readToken_60 : decode cX5_readToken 60 = .ok (.putfield 47, 3) := by decide +kernel
theorem dX5_readToken_63 : decode cX5_readToken 63 = .ok (.goto 90, 3) := by decide +kernel
theorem dX5_readToken_66 : decode cX5_readToken 66 = .ok (.aload_n 0, 1) := by decide +kernel
theorem dX5_readToken_67 : decode cX5_readToken 67 = .ok (.getfield 9, 3) := by decide +kernel
theorem dX5_readToken_70 : decode cX5_readToken 70 = .ok (.aload_n 0, 1) := by decide +kernel
theorem dX5_readToken_71 : decode cX5_readToken 71 = .ok (.getfield 38, 3) := by decide +kernel
theorem dX5_readToken_74 : decode cX5_readToken 74 = .ok (.baload, 1) := by decide +kernel
theorem dX5_readToken_75 : decode cX5_readToken 75 = .ok (.invokestatic 126, 3) := by decide +kernel
theorem dX5_readToken_78 : decode cX5_readToken 78 = .ok (.ifCond .eq 15, 3) := by decide +kernel
theorem dX5_readToken_81 : decode cX5_readToken 81 = .ok (.aload_n 0, 1) := by decide +kernel
theorem dX5_readToken_82 : decode cX5_readToken 82 = .ok (.iconst 1, 1) := by decide +kernel
theorem dX5_readToken_83 : decode cX5_readToken 83 = .ok (.putfield 47, 3) := by decide +kernel
theorem dX5_readToken_86 : decode cX5_readToken 86 = .ok (.aload_n 0, 1) := by decide +kernel
theorem dX5_readToken_87 : decode cX5_readToken 87 = .ok (.invokevirtual 129, 3) := by decide +kernel
theorem dX5_readToken_90 : decode cX5_readToken 90 = .ok (.goto 63, 3) := by decide +kernel
theorem dX5_readToken_93 : decode cX5_readToken 93 = .ok (.aload_n 0, 1) := by decide +kernel
theorem dX5_readToken_94 : decode cX5_readToken 94 = .ok (.getfield 9, 3) := by decide +kernel
theorem dX5_readToken_97 : decode cX5_readToken 97 = .ok (.aload_n 0, 1) := by decide +kernel
theorem dX5_readToken_98 : decode cX5_readToken 98 = .ok (.getfield 38, 3) := by decide +kernel
theorem dX5_readToken_101 : decode cX5_readToken 101 = .ok (.baload, 1) := by decide +kernel
theorem dX5_readToken_102 : decode cX5_readToken 102 = .ok (.invokestatic 132, 3) := by decide +kernel
theorem dX5_readToken_105 : decode cX5_readToken 105 = .ok (.ifCond .eq 15, 3) := by decide +kernel
theorem dX5_readToken_108 : decode cX5_readToken 108 = .ok (.aload_n 0, 1) := by decide +kernel
theorem dX5_readToken_109 : decode cX5_readToken 109 = .ok (.iconst 2, 1) := by decide +kernel
theorem dX5_readToken_110 : decode cX5_readToken 110 = .ok (.putfield 47, 3) := by decide +kernel
theorem dX5_readToken_113 : decode cX5_readToken 113 = .ok (.aload_n 0, 1) := by decide +kernel
theorem dX5_readToken_114 : decode cX5_readToken 114 = .ok (.invokevirtual 135, 3) := by decide +kernel
theorem dX5_readToken_117 : decode cX5_readToken 117 = .ok (.goto 36, 3) := by decide +kernel
theorem dX5_readToken_120 : decode cX5_readToken 120 = .ok (.aload_n 0, 1) := by decide +kernel
theorem dX5_readToken_121 : decode cX5_readToken 121 = .ok (.aload_n 0, 1) := by decide +kernel
theorem dX5_readToken_122 : decode cX5_readToken 122 = .ok (.getfield 9, 3) := by decide +kernel
theorem dX5_readToken_125 : decode cX5_readToken 125 = .ok (.aload_n 0, 1) := by decide +kernel
theorem dX5_readToken_126 : decode cX5_readToken 126 = .ok (.getfield 38, 3) := by decide +kernel
theorem dX5_readToken_129 : decode cX5_readToken 129 = .ok (.baload, 1) := by decide +kernel
theorem dX5_readToken_130 : decode cX5_readToken 130 = .ok (.bipush 59, 2) := by decide +kernel
theorem dX5_readToken_132 : decode cX5_readToken 132 = .ok (.if_icmp .ne 7, 3) := by decide +kernel
theorem dX5_readToken_135 : decode cX5_readToken 135 = .ok (.iconst 3, 1) := by decide +kernel
theorem dX5_readToken_136 : decode cX5_readToken 136 = .ok (.goto 4, 3) := by decide +kernel
theorem dX5_readToken_139 : decode cX5_readToken 139 = .ok (.iconst 4, 1) := by decide +kernel
theorem dX5_readToken_140 : decode cX5_readToken 140 = .ok (.putfield 47, 3) := by decide +kernel
theorem dX5_readToken_143 : decode cX5_readToken 143 = .ok (.aload_n 0, 1) := by decide +kernel
theorem dX5_readToken_144 : decode cX5_readToken 144 = .ok (.dup, 1) := by decide +kernel
theorem dX5_readToken_145 : decode cX5_readToken 145 = .ok (.getfield 38, 3) := by decide +kernel
theorem dX5_readToken_148 : decode cX5_readToken 148 = .ok (.iconst 1, 1) := by decide +kernel
theorem dX5_readToken_149 : decode cX5_readToken 149 = .ok (.iadd, 1) := by decide +kernel
theorem dX5_readToken_150 : decode cX5_readToken 150 = .ok (.putfield 38, 3) := by decide +kernel
theorem dX5_readToken_153 : decode cX5_readToken 153 = .ok (.return_, 1) := by decide +kernel
theorem dX5_readWord_0 : decode cX5_readWord 0 = .ok (.aload_n 0, 1) := by decide +kernel
theorem dX5_readWord_1 : decode cX5_readWord 1 = .ok (.getfield 38, 3) := by decide +kernel
theorem dX5_readWord_4 : decode cX5_readWord 4 = .ok (.aload_n 0, 1) := by decide +kernel
theorem dX5_readWord_5 : decode cX5_readWord 5 = .ok (.getfield 32, 3) := by decide +kernel
theorem dX5_readWord_8 : decode cX5_readWord 8 = .ok (.if_icmp .ge 31, 3) := by decide +kernel
theorem dX5_readWord_11 : decode cX5_readWord 11 = .ok (.aload_n 0, 1) := by decide +kernel
theorem dX5_readWord_12 : decode cX5_readWord 12 = .ok (.getfield 9, 3) := by decide +kernel
theorem dX5_readWord_15 : decode cX5_readWord 15 = .ok (.aload_n 0, 1) := by decide +kernel
theorem dX5_readWord_16 : decode cX5_readWord 16 = .ok (.getfield 38, 3) := by decide +kernel
theorem dX5_readWord_19 : decode cX5_readWord 19 = .ok (.baload, 1) := by decide +kernel
theorem dX5_readWord_20 : decode cX5_readWord 20 = .ok (.invokestatic 126, 3) := by decide +kernel
theorem dX5_readWord_23 : decode cX5_readWord 23 = .ok (.ifCond .eq 16, 3) := by decide +kernel
theorem dX5_readWord_26 : decode cX5_readWord 26 = .ok (.aload_n 0, 1) := by decide +kernel
theorem dX5_readWord_27 : decode cX5_readWord 27 = .ok (.dup, 1) := by decide +kernel
theorem dX5_readWord_28 : decode cX5_readWord 28 = .ok (.getfield 38, 3) := by decide +kernel
theorem dX5_readWord_31 : decode cX5_readWord 31 = .ok (.iconst 1, 1) := by decide +kernel
theorem dX5_readWord_32 : decode cX5_readWord 32 = .ok (.iadd, 1) := by decide +kernel
theorem dX5_readWord_33 : decode cX5_readWord 33 = .ok (.putfield 38, 3) := by decide +kernel
theorem dX5_readWord_36 : decode cX5_readWord 36 = .ok (.goto (-36), 3) := by decide +kernel
theorem dX5_readWord_39 : decode cX5_readWord 39 = .ok (.return_, 1) := by decide +kernel
theorem dX5_readNumber_0 : decode cX5_readNumber 0 = .ok (.aload_n 0, 1) := by decide +kernel
theorem dX5_readNumber_1 : decode cX5_readNumber 1 = .ok (.iconst 0, 1) := by decide +kernel
theorem dX5_readNumber_2 : decode cX5_readNumber 2 = .ok (.putfield 71, 3) := by decide +kernel
theorem dX5_readNumber_5 : decode cX5_readNumber 5 = .ok (.aload_n 0, 1) := by decide +kernel
theorem dX5_readNumber_6 : decode cX5_readNumber 6 = .ok (.getfield 38, 3) := by decide +kernel
theorem dX5_readNumber_9 : decode cX5_readNumber 9 = .ok (.aload_n 0, 1) := by decide +kernel
theorem dX5_readNumber_10 : decode cX5_readNumber 10 = .ok (.getfield 32, 3) := by decide +kernel
theorem dX5_readNumber_13 : decode cX5_readNumber 13 = .ok (.if_icmp .ge 60, 3) := by decide +kernel
theorem dX5_readNumber_16 : decode cX5_readNumber 16 = .ok (.aload_n 0, 1) := by decide +kernel
theorem dX5_readNumber_17 : decode cX5_readNumber 17 = .ok (.getfield 9, 3) := by decide +kernel
theorem dX5_readNumber_20 : decode cX5_readNumber 20 = .ok (.aload_n 0, 1) := by decide +kernel
theorem dX5_readNumber_21 : decode cX5_readNumber 21 = .ok (.getfield 38, 3) := by decide +kernel
theorem dX5_readNumber_24 : decode cX5_readNumber 24 = .ok (.baload, 1) := by decide +kernel
theorem dX5_readNumber_25 : decode cX5_readNumber 25 = .ok (.invokestatic 132, 3) := by decide +kernel
theorem dX5_readNumber_28 : decode cX5_readNumber 28 = .ok (.ifCond .eq 45, 3) := by decide +kernel
theorem dX5_readNumber_31 : decode cX5_readNumber 31 = .ok (.aload_n 0, 1) := by decide +kernel
theorem dX5_readNumber_32 : decode cX5_readNumber 32 = .ok (.aload_n 0, 1) := by decide +kernel
theorem dX5_readNumber_33 : decode cX5_readNumber 33 = .ok (.getfield 71, 3) := by decide +kernel
theorem dX5_readNumber_36 : decode cX5_readNumber 36 = .ok (.bipush 10, 2) := by decide +kernel
theorem dX5_readNumber_38 : decode cX5_readNumber 38 = .ok (.imul, 1) := by decide +kernel
theorem dX5_readNumber_39 : decode cX5_readNumber 39 = .ok (.aload_n 0, 1) := by decide +kernel
theorem dX5_readNumber_40 : decode cX5_readNumber 40 = .ok (.getfield 9, 3) := by decide +kernel
theorem dX5_readNumber_43 : decode cX5_readNumber 43 = .ok (.aload_n 0, 1) := by decide +kernel
theorem dX5_readNumber_44 : decode cX5_readNumber 44 = .ok (.getfield 38, 3) := by decide +kernel
theorem dX5_readNumber_47 : decode cX5_readNumber 47 = .ok (.baload, 1) := by decide +kernel
theorem dX5_readNumber_48 : decode cX5_readNumber 48 = .ok (.iadd, 1) := by decide +kernel
theorem dX5_readNumber_49 : decode cX5_readNumber 49 = .ok (.bipush 48, 2) := by decide +kernel
theorem dX5_readNumber_51 : decode cX5_readNumber 51 = .ok (.isub, 1) := by decide +kernel
theorem dX5_readNumber_52 : decode cX5_readNumber 52 = .ok (.ldc 138, 2) := by decide +kernel
theorem dX5_readNumber_54 : decode cX5_readNumber 54 = .ok (.invokestatic 139, 3) := by decide +kernel
theorem dX5_readNumber_57 : decode cX5_readNumber 57 = .ok (.putfield 71, 3) := by decide +kernel
theorem dX5_readNumber_60 : decode cX5_readNumber 60 = .ok (.aload_n 0, 1) := by decide +kernel
theorem dX5_readNumber_61 : decode cX5_readNumber 61 = .ok (.dup, 1) := by decide +kernel
theorem dX5_readNumber_62 : decode cX5_readNumber 62 = .ok (.getfield 38, 3) := by decide +kernel
theorem dX5_readNumber_65 : decode cX5_readNumber 65 = .ok (.iconst 1, 1) := by decide +kernel
theorem dX5_readNumber_66 : decode cX5_readNumber 66 = .ok (.iadd, 1) := by decide +kernel
theorem dX5_readNumber_67 : decode cX5_readNumber 67 = .ok (.putfield 38, 3) := by decide +kernel
theorem dX5_readNumber_70 : decode cX5_readNumber 70 = .ok (.goto (-65), 3) := by decide +kernel
theorem dX5_readNumber_73 : decode cX5_readNumber 73 = .ok (.return_, 1) := by decide +kernel
theorem dX5_isSpace_0 : decode cX5_isSpace 0 = .ok (.iload_n 0, 1) := by decide +kernel
theorem dX5_isSpace_1 : decode cX5_isSpace 1 = .ok (.bipush 32, 2) := by decide +kernel
theorem dX5_isSpace_3 : decode cX5_isSpace 3 = .ok (.if_icmp .eq 9, 3) := by decide +kernel
theorem dX5_isSpace_6 : decode cX5_isSpace 6 = .ok (.iload_n 0, 1) := by decide +kernel
theorem dX5_isSpace_7 : decode cX5_isSpace 7 = .ok (.bipush 10, 2) := by decide +kernel
theorem dX5_isSpace_9 : decode cX5_isSpace 9 = .ok (.if_icmp .ne 7, 3) := by decide +kernel
theorem dX5_isSpace_12 : decode cX5_isSpace 12 = .ok (.iconst 1, 1) := by decide +kernel
theorem dX5_isSpace_13 : decode cX5_isSpace 13 = .ok (.goto 4, 3) := by decide +kernel
theorem dX5_isSpace_16 : decode cX5_isSpace 16 = .ok (.iconst 0, 1) := by decide +kernel
theorem dX5_isSpace_17 : decode cX5_isSpace 17 = .ok (.ireturn, 1) := by decide +kernel
theorem dX5_isLetter_0 : decode cX5_isLetter 0 = .ok (.iload_n 0, 1) := by decide +kernel
theorem dX5_isLetter_1 : decode cX5_isLetter 1 = .ok (.bipush 97, 2) := by decide +kernel
theorem dX5_isLetter_3 : decode cX5_isLetter 3 = .ok (.if_icmp .lt 13, 3) := by decide +kernel
theorem dX5_isLetter_6 : decode cX5_isLetter 6 = .ok (.iload_n 0, 1) := by decide +kernel
theorem dX5_isLetter_7 : decode cX5_isLetter 7 = .ok (.bipush 122, 2) := by decide +kernel
theorem dX5_isLetter_9 : decode cX5_isLetter 9 = .ok (.if_icmp .gt 7, 3) := by decide +kernel
theorem dX5_isLetter_12 : decode cX5_isLetter 12 = .ok (.iconst 1, 1) := by decide +kernel
theorem dX5_isLetter_13 : decode cX5_isLetter 13 = .ok (.goto 4, 3) := by decide +kernel
theorem dX5_isLetter_16 : decode cX5_isLetter 16 = .ok (.iconst 0, 1) := by decide +kernel
theorem dX5_isLetter_17 : decode cX5_isLetter 17 = .ok (.ireturn, 1) := by decide +kernel
theorem dX5_isDigit_0 : decode cX5_isDigit 0 = .ok (.iload_n 0, 1) := by decide +kernel
theorem dX5_isDigit_1 : decode cX5_isDigit 1 = .ok (.bipush 48, 2) := by decide +kernel
theorem dX5_isDigit_3 : decode cX5_isDigit 3 = .ok (.if_icmp .lt 13, 3) := by decide +kernel
theorem dX5_isDigit_6 : decode cX5_isDigit 6 = .ok (.iload_n 0, 1) := by decide +kernel
theorem dX5_isDigit_7 : decode cX5_isDigit 7 = .ok (.bipush 57, 2) := by decide +kernel
theorem dX5_isDigit_9 : decode cX5_isDigit 9 = .ok (.if_icmp .gt 7, 3) := by decide +kernel
theorem dX5_isDigit_12 : decode cX5_isDigit 12 = .ok (.iconst 1, 1) := by decide +kernel
theorem dX5_isDigit_13 : decode cX5_isDigit 13 = .ok (.goto 4, 3) := by decide +kernel
theorem dX5_isDigit_16 : decode cX5_isDigit 16 = .ok (.iconst 0, 1) := by decide +kernel
theorem dX5_isDigit_17 : decode cX5_isDigit 17 = .ok (.ireturn, 1) := by decide +kernel
theorem dX6_init_0 : decode cX6_init 0 = .ok (.aload_n 0, 1) := by decide +kernel
theorem dX6_init_1 : decode cX6_init 1 = .ok (.invokespecial 3, 3) := by decide +kernel
theorem dX6_init_4 : decode cX6_init 4 = .ok (.aload_n 0, 1) := by decide +kernel
theorem dX6_init_5 : decode cX6_init 5 = .ok (.new 9, 3) := by decide +kernel
theorem dX6_init_8 : decode cX6_init 8 = .ok (.dup, 1) := by decide +kernel
theorem dX6_init_9 : decode cX6_init 9 = .ok (.sipush 600, 3) := by decide +kernel
theorem dX6_init_12 : decode cX6_init 12 = .ok (.invokespecial 11, 3) := by decide +kernel
theorem dX6_init_15 : decode cX6_init 15 = .ok (.putfield 14, 3) := by decide +kernel
theorem dX6_init_18 : decode cX6_init 18 = .ok (.aload_n 0, 1) := by decide +kernel
theorem dX6_init_19 : decode cX6_init 19 = .ok (.new 20, 3) := by decide +kernel
theorem dX6_init_22 : decode cX6_init 22 = .ok (.dup, 1) := by decide +kernel
theorem dX6_init_23 : decode cX6_init 23 = .ok (.invokespecial 22, 3) := by decide +kernel
theorem dX6_init_26 : decode cX6_init 26 = .ok (.putfield 23, 3) := by decide +kernel
theorem dX6_init_29 : decode cX6_init 29 = .ok (.return_, 1) := by decide +kernel
theorem dX6_copyFrom_0 : decode cX6_copyFrom 0 = .ok (.aload_n 0, 1) := by decide +kernel
theorem dX6_copyFrom_1 : decode cX6_copyFrom 1 = .ok (.getfield 14, 3) := by decide +kernel
theorem dX6_copyFrom_4 : decode cX6_copyFrom 4 = .ok (.aload_n 1, 1) := by decide +kernel
theorem dX6_copyFrom_5 : decode cX6_copyFrom 5 = .ok (.getfield 14, 3) := by decide +kernel
theorem dX6_copyFrom_8 : decode cX6_copyFrom 8 = .ok (.invokevirtual 27, 3) := by decide +kernel
theorem dX6_copyFrom_11 : decode cX6_copyFrom 11 = .ok (.aload_n 0, 1) := by decide +kernel
theorem dX6_copyFrom_12 : decode cX6_copyFrom 12 = .ok (.getfield 23, 3) := by decide +kernel
theorem dX6_copyFrom_15 : decode cX6_copyFrom 15 = .ok (.aload_n 1, 1) := by decide +kernel
theorem dX6_copyFrom_16 : decode cX6_copyFrom 16 = .ok (.getfield 23, 3) := by decide +kernel
theorem dX6_copyFrom_19 : decode cX6_copyFrom 19 = .ok (.invokevirtual 31, 3) := by decide +kernel
theorem dX6_copyFrom_22 : decode cX6_copyFrom 22 = .ok (.return_, 1) := by decide +kernel
theorem dX7_init_0 : decode cX7_init 0 = .ok (.aload_n 0, 1) := by decide +kernel
theorem dX7_init_1 : decode cX7_init 1 = .ok (.invokespecial 3, 3) := by decide +kernel
theorem dX7_init_4 : decode cX7_init 4 = .ok (.aload_n 0, 1) := by decide +kernel
theorem dX7_init_5 : decode cX7_init 5 = .ok (.bipush 60, 2) := by decide +kernel
theorem dX7_init_7 : decode cX7_init 7 = .ok (.newarray .int, 2) := by decide +kernel
theorem dX7_init_9 : decode cX7_init 9 = .ok (.putfield 9, 3) := by decide +kernel
theorem dX7_init_12 : decode cX7_init 12 = .ok (.aload_n 0, 1) := by decide +kernel
theorem dX7_init_13 : decode cX7_init 13 = .ok (.bipush 60, 2) := by decide +kernel
theorem dX7_init_15 : decode cX7_init 15 = .ok (.newarray .int, 2) := by decide +kernel
theorem dX7_init_17 : decode cX7_init 17 = .ok (.putfield 15, 3) := by decide +kernel
theorem dX7_init_20 : decode cX7_init 20 = .ok (.aload_n 0, 1) := by decide +kernel
theorem dX7_init_21 : decode cX7_init 21 = .ok (.bipush 60, 2) := by decide +kernel
theorem dX7_init_23 : decode cX7_init 23 = .ok (.newarray .int, 2) := by decide +kernel
theorem dX7_init_25 : decode cX7_init 25 = .ok (.putfield 18, 3) := by decide +kernel
theorem dX7_init_28 : decode cX7_init 28 = .ok (.aload_n 0, 1) := by decide +kernel
theorem dX7_init_29 : decode cX7_init 29 = .ok (.bipush 60, 2) := by decide +kernel
theorem dX7_init_31 : decode cX7_init 31 = .ok (.newarray .int, 2) := by decide +kernel
theorem dX7_init_33 : decode cX7_init 33 = .ok (.putfield 21, 3) := by decide +kernel
theorem dX7_init_36 : decode cX7_init 36 = .ok (.aload_n 0, 1) := by decide +kernel
theorem dX7_init_37 : decode cX7_init 37 = .ok (.bipush 60, 2) := by decide +kernel
theorem dX7_init_39 : decode cX7_init 39 = .ok (.newarray .int, 2) := by decide +kernel
theorem dX7_init_41 : decode cX7_init 41 = .ok (.putfield 24, 3) := by decide +kernel
theorem dX7_init_44 : decode cX7_init 44 = .ok (.aload_n 0, 1) := by decide +kernel
theorem dX7_init_45 : decode cX7_init 45 = .ok (.bipush 60, 2) := by decide +kernel
theorem dX7_init_47 : decode cX7_init 47 = .ok (.newarray .int, 2) := by decide +kernel
theorem dX7_init_49 : decode cX7_init 49 = .ok (.putfield 27, 3) := by decide +kernel
theorem dX7_init_52 : decode cX7_init 52 = .ok (.aload_n 0, 1) := by decide +kernel
theorem dX7_init_53 : decode cX7_init 53 = .ok (.bipush 60, 2) := by decide +kernel
theorem dX7_init_55 : decode cX7_init 55 = .ok (.newarray .int, 2) := by decide +kernel
theorem dX7_init_57 : decode cX7_init 57 = .ok (.putfield 30, 3) := by decide +kernel
theorem dX7_init_60 : decode cX7_init 60 = .ok (.aload_n 0, 1) := by decide +kernel
theorem dX7_init_61 : decode cX7_init 61 = .ok (.bipush 60, 2) := by decide +kernel
theorem dX7_init_63 : decode cX7_init 63 = .ok (.newarray .int, 2) := by decide +kernel
theorem dX7_init_65 : decode cX7_init 65 = .ok (.putfield 33, 3) := by decide +kernel
theorem dX7_init_68 : decode cX7_init 68 = .ok (.aload_n 0, 1) := by decide +kernel
theorem dX7_init_69 : decode cX7_init 69 = .ok (.bipush 60, 2) := by decide +kernel
theorem dX7_init_71 : decode cX7_init 71 = .ok (.newarray .int, 2) := by decide +kernel
theorem dX7_init_73 : decode cX7_init 73 = .ok (.putfield 36, 3) := by decide +kernel
theorem dX7_init_76 : decode cX7_init 76 = .ok (.aload_n 0, 1) := by decide +kernel
theorem dX7_init_77 : decode cX7_init 77 = .ok (.bipush 60, 2) := by decide +kernel
theorem dX7_init_79 : decode cX7_init 79 = .ok (.newarray .int, 2) := by decide +kernel
theorem dX7_init_81 : decode cX7_init 81 = .ok (.putfield 39, 3) := by decide +kernel
theorem dX7_init_84 : decode cX7_init 84 = .ok (.aload_n 0, 1) := by decide +kernel
theorem dX7_init_85 : decode cX7_init 85 = .ok (.bipush 60, 2) := by decide +kernel
theorem dX7_init_87 : decode cX7_init 87 = .ok (.newarray .int, 2) := by decide +kernel
theorem dX7_init_89 : decode cX7_init 89 = .ok (.putfield 42, 3) := by decide +kernel
theorem dX7_init_92 : decode cX7_init 92 = .ok (.aload_n 0, 1) := by decide +kernel
theorem dX7_init_93 : decode cX7_init 93 = .ok (.bipush 60, 2) := by decide +kernel
theorem dX7_init_95 : decode cX7_init 95 = .ok (.newarray .int, 2) := by decide +kernel
theorem dX7_init_97 : decode cX7_init 97 = .ok (.putfield 45, 3) := by decide +kernel
theorem dX7_init_100 : decode cX7_init 100 = .ok (.aload_n 0, 1) := by decide +kernel
theorem dX7_init_101 : decode cX7_init 101 = .ok (.bipush 60, 2) := by decide +kernel
theorem dX7_init_103 : decode cX7_init 103 = .ok (.newarray .int, 2) := by decide +kernel
theorem dX7_init_105 : decode cX7_init 105 = .ok (.putfield 48, 3) := by decide +kernel
theorem dX7_init_108 : decode cX7_init 108 = .ok (.aload_n 0, 1) := by decide +kernel
theorem dX7_init_109 : decode cX7_init 109 = .ok (.bipush 60, 2) := by decide +kernel
theorem dX7_init_111 : decode cX7_init 111 = .ok (.newarray .int, 2) := by decide +kernel
theorem dX7_init_113 : decode cX7_init 113 = .ok (.putfield 51, 3) := by decide +kernel
theorem dX7_init_116 : decode cX7_init 116 = .ok (.return_, 1) := by decide +kernel
theorem dX7_isFull_0 : decode cX7_isFull 0 = .ok (.aload_n 0, 1) := by decide +kernel
theorem dX7_isFull_1 : decode cX7_isFull 1 = .ok (.getfield 54, 3) := by decide +kernel
theorem dX7_isFull_4 : decode cX7_isFull 4 = .ok (.bipush 60, 2) := by decide +kernel
theorem dX7_isFull_6 : decode cX7_isFull 6 = .ok (.if_icmp .lt 7, 3) := by decide +kernel
theorem dX7_isFull_9 : decode cX7_isFull 9 = .ok (.iconst 1, 1) := by decide +kernel
theorem dX7_isFull_10 : decode cX7_isFull 10 = .ok (.goto 4, 3) := by decide +kernel
theorem dX7_isFull_13 : decode cX7_isFull 13 = .ok (.iconst 0, 1) := by decide +kernel
theorem dX7_isFull_14 : decode cX7_isFull 14 = .ok (.ireturn, 1) := by decide +kernel
theorem dX7_exists_0 : decode cX7_exists 0 = .ok (.iload_n 1, 1) := by decide +kernel
theorem dX7_exists_1 : decode cX7_exists 1 = .ok (.ifCond .lt 15, 3) := by decide +kernel
theorem dX7_exists_4 : decode cX7_exists 4 = .ok (.iload_n 1, 1) := by decide +kernel
theorem dX7_exists_5 : decode cX7_exists 5 = .ok (.aload_n 0, 1) := by decide +kernel
theorem dX7_exists_6 : decode cX7_exists 6 = .ok (.getfield 54, 3) := by decide +kernel
theorem dX7_exists_9 : decode cX7_exists 9 = .ok (.if_icmp .ge 7, 3) := by decide +kernel
theorem dX7_exists_12 : decode cX7_exists 12 = .ok (.iconst 1, 1) := by decide +kernel
theorem dX7_exists_13 : decode cX7_exists 13 = .ok (.goto 4, 3) := by decide +kernel
theorem dX7_exists_16 : decode cX7_exists 16 = .ok (.iconst 0, 1) := by decide +kernel
theorem dX7_exists_17 : decode cX7_exists 17 = .ok (.ireturn, 1) := by decide +kernel
theorem dX7_add_0 : decode cX7_add 0 = .ok (.aload_n 0, 1) := by decide +kernel
theorem dX7_add_1 : decode cX7_add 1 = .ok (.getfield 54, 3) := by decide +kernel
theorem dX7_add_4 : decode cX7_add 4 = .ok (.istore 6, 2) := by decide +kernel
theorem dX7_add_6 : decode cX7_add 6 = .ok (.aload_n 0, 1) := by decide +kernel
theorem dX7_add_7 : decode cX7_add 7 = .ok (.getfield 9, 3) := by decide +kernel
theorem dX7_add_10 : decode cX7_add 10 = .ok (.iload 6, 2) := by decide +kernel
theorem dX7_add_12 : decode cX7_add 12 = .ok (.iload_n 1, 1) := by decide +kernel
theorem dX7_add_13 : decode cX7_add 13 = .ok (.iastore, 1) := by decide +kernel
theorem dX7_add_14 : decode cX7_add 14 = .ok (.aload_n 0, 1) := by decide +kernel
theorem dX7_add_15 : decode cX7_add 15 = .ok (.getfield 15, 3) := by decide +kernel
theorem dX7_add_18 : decode cX7_add 18 = .ok (.iload 6, 2) := by decide +kernel
theorem dX7_add_20 : decode cX7_add 20 = .ok (.iload_n 2, 1) := by decide +kernel
theorem dX7_add_21 : decode cX7_add 21 = .ok (.iastore, 1) := by decide +kernel
theorem dX7_add_22 : decode cX7_add 22 = .ok (.aload_n 0, 1) := by decide +kernel
theorem dX7_add_23 : decode cX7_add 23 = .ok (.getfield 18, 3) := by decide +kernel
theorem dX7_add_26 : decode cX7_add 26 = .ok (.iload 6, 2) := by decide +kernel
theorem dX7_add_28 : decode cX7_add 28 = .ok (.iload_n 3, 1) := by decide +kernel
theorem dX7_add_29 : decode cX7_add 29 = .ok (.iastore, 1) := by decide +kernel
theorem dX7_add_30 : decode cX7_add 30 = .ok (.aload_n 0, 1) := by decide +kernel
theorem dX7_add_31 : decode cX7_add 31 = .ok (.getfield 21, 3) := by decide +kernel
theorem dX7_add_34 : decode cX7_add 34 = .ok (.iload 6, 2) := by decide +kernel
theorem dX7_add_36 : decode cX7_add 36 = .ok (.iload 4, 2) := by decide +kernel
theorem dX7_add_38 : decode cX7_add 38 = .ok (.iastore, 1) := by decide +kernel
theorem dX7_add_39 : decode cX7_add 39 = .ok (.aload_n 0, 1) := by decide +kernel
theorem dX7_add_40 : decode cX7_add 40 = .ok (.getfield 24, 3) := by decide +kernel
theorem dX7_add_43 : decode cX7_add 43 = .ok (.iload 6, 2) := by decide +kernel
theorem dX7_add_45 : decode cX7_add 45 = .ok (.iconst 0, 1) := by decide +kernel
theorem dX7_add_46 : decode cX7_add 46 = .ok (.iastore, 1) := by decide +kernel
theorem dX7_add_47 : decode cX7_add 47 = .ok (.aload_n 0, 1) := by decide +kernel
theorem dX7_add_48 : decode cX7_add 48 = .ok (.getfield 27, 3) := by decide +kernel
theorem dX7_add_51 : decode cX7_add 51 = .ok (.iload 6, 2) := by decide +kernel
theorem dX7_add_53 : decode cX7_add 53 = .ok (.iconst 0, 1) := by decide +kernel
theorem dX7_add_54 : decode cX7_add 54 = .ok (.iastore, 1) := by decide +kernel
theorem dX7_add_55 : decode cX7_add 55 = .ok (.aload_n 0, 1) := by decide +kernel
theorem dX7_add_56 : decode cX7_add 56 = .ok (.getfield 30, 3) := by decide +kernel
theorem dX7_add_59 : decode cX7_add 59 = .ok (.iload 6, 2) := by decide +kernel
theorem dX7_add_61 : decode cX7_add 61 = .ok (.iconst 0, 1) := by decide +kernel
theorem dX7_add_62 : decode cX7_add 62 = .ok (.iastore, 1) := by decide +kernel
theorem dX7_add_63 : decode cX7_add 63 = .ok (.aload_n 0, 1) := by decide +kernel
theorem dX7_add_64 : decode cX7_add 64 = .ok (.getfield 33, 3) := by decide +kernel
theorem dX7_add_67 : decode cX7_add 67 = .ok (.iload 6, 2) := by decide +kernel
theorem dX7_add_69 : decode cX7_add 69 = .ok (.iconst 0, 1) := by decide +kernel
theorem dX7_add_70 : decode cX7_add 70 = .ok (.iastore, 1) := by decide +kernel
theorem dX7_add_71 : decode cX7_add 71 = .ok (.aload_n 0, 1) := by decide +kernel
theorem dX7_add_72 : decode cX7_add 72 = .ok (.getfield 36, 3) := by decide +kernel
theorem dX7_add_75 : decode cX7_add 75 = .ok (.iload 6, 2) := by decide +kernel
theorem dX7_add_77 : decode cX7_add 77 = .ok (.iconst 0, 1) := by decide +kernel
theorem dX7_add_78 : decode cX7_add 78 = .ok (.iastore, 1) := by decide +kernel
theorem dX7_add_79 : decode cX7_add 79 = .ok (.aload_n 0, 1) := by decide +kernel
theorem dX7_add_80 : decode cX7_add 80 = .ok (.getfield 39, 3) := by decide +kernel
theorem dX7_add_83 : decode cX7_add 83 = .ok (.iload 6, 2) := by decide +kernel
theorem dX7_add_85 : decode cX7_add 85 = .ok (.iconst 0, 1) := by decide +kernel
theorem dX7_add_86 : decode cX7_add 86 = .ok (.iastore, 1) := by decide +kernel
theorem dX7_add_87 : decode cX7_add 87 = .ok (.aload_n 0, 1) := by decide +kernel
theorem dX7_add_88 : decode cX7_add 88 = .ok (.getfield 42, 3) := by decide +kernel
theorem dX7_add_91 : decode cX7_add 91 = .ok (.iload 6, 2) := by decide +kernel
theorem dX7_add_93 : decode cX7_add 93 = .ok (.iconst (-1), 1) := by decide +kernel
theorem dX7_add_94 : decode cX7_add 94 = .ok (.iastore, 1) := by decide +kernel
theorem dX7_add_95 : decode cX7_add 95 = .ok (.aload_n 0, 1) := by decide +kernel
theorem dX7_add_96 : decode cX7_add 96 = .ok (.getfield 45, 3) := by decide +kernel
theorem dX7_add_99 : decode cX7_add 99 = .ok (.iload 6, 2) := by decide +kernel
theorem dX7_add_101 : decode cX7_add 101 = .ok (.iload 5, 2) := by decide +kernel
theorem dX7_add_103 : decode cX7_add 103 = .ok (.iastore, 1) := by decide +kernel
theorem dX7_add_104 : decode cX7_add 104 = .ok (.aload_n 0, 1) := by decide +kernel
theorem dX7_add_105 : decode cX7_add 105 = .ok (.getfield 48, 3) := by decide +kernel
theorem dX7_add_108 : decode cX7_add 108 = .ok (.iload 6, 2) := by decide +kernel
theorem dX7_add_110 : decode cX7_add 110 = .ok (.iconst (-1), 1) := by decide +kernel
theorem dX7_add_111 : decode cX7_add 111 = .ok (.iastore, 1) := by decide +kernel
theorem dX7_add_112 : decode cX7_add 112 = .ok (.aload_n 0, 1) := by decide +kernel
theorem dX7_add_113 : decode cX7_add 113 = .ok (.getfield 51, 3) := by decide +kernel
theorem dX7_add_116 : decode cX7_add 116 = .ok (.iload 6, 2) := by decide +kernel
theorem dX7_add_118 : decode cX7_add 118 = .ok (.iconst (-1), 1) := by decide +kernel
theorem dX7_add_119 : decode cX7_add 119 = .ok (.iastore, 1) := by decide +kernel
theorem dX7_add_120 : decode cX7_add 120 = .ok (.aload_n 0, 1) := by decide +kernel
theorem dX7_add_121 : decode cX7_add 121 = .ok (.dup, 1) := by decide +kernel
theorem dX7_add_122 : decode cX7_add 122 = .ok (.getfield 54, 3) := by decide +kernel
theorem dX7_add_125 : decode cX7_add 125 = .ok (.iconst 1, 1) := by decide +kernel
theorem dX7_add_126 : decode cX7_add 126 = .ok (.iadd, 1) := by decide +kernel
theorem dX7_add_127 : decode cX7_add 127 = .ok (.putfield 54, 3) := by decide +kernel
theorem dX7_add_130 : decode cX7_add 130 = .ok (.iload 6, 2) := by decide +kernel
theorem dX7_add_132 : decode cX7_add 132 = .ok (.ireturn, 1) := by decide +kernel
theorem dX7_isActive_0 : decode cX7_isActive 0 = .ok (.aload_n 0, 1) := by decide +kernel
theorem dX7_isActive_1 : decode cX7_isActive 1 = .ok (.getfield 27, 3) := by decide +kernel
theorem dX7_isActive_4 : decode cX7_isActive 4 = .ok (.iload_n 1, 1) := by decide +kernel
theorem dX7_isActive_5 : decode cX7_isActive 5 = .ok (.iaload, 1) := by decide +kernel
theorem dX7_isActive_6 : decode cX7_isActive 6 = .ok (.ifCond .eq 13, 3) := by decide +kernel
theorem dX7_isActive_9 : decode cX7_isActive 9 = .ok (.aload_n 0, 1) := by decide +kernel
theorem dX7_isActive_10 : decode cX7_isActive 10 = .ok (.getfield 27, 3) := by decide +kernel
theorem dX7_isActive_13 : decode cX7_isActive 13 = .ok (.iload_n 1, 1) := by decide +kernel
theorem dX7_isActive_14 : decode cX7_isActive 14 = .ok (.iaload, 1) := by decide +kernel
theorem dX7_isActive_15 : decode cX7_isActive 15 = .ok (.iconst 1, 1) := by decide +kernel
theorem dX7_isActive_16 : decode cX7_isActive 16 = .ok (.if_icmp .ne 7, 3) := by decide +kernel
theorem dX7_isActive_19 : decode cX7_isActive 19 = .ok (.iconst 1, 1) := by decide +kernel
theorem dX7_isActive_20 : decode cX7_isActive 20 = .ok (.goto 4, 3) := by decide +kernel
theorem dX7_isActive_23 : decode cX7_isActive 23 = .ok (.iconst 0, 1) := by decide +kernel
theorem dX7_isActive_24 : decode cX7_isActive 24 = .ok (.ireturn, 1) := by decide +kernel
theorem dX7_standsAlone_0 : decode cX7_standsAlone 0 = .ok (.aload_n 0, 1) := by decide +kernel
theorem dX7_standsAlone_1 : decode cX7_standsAlone 1 = .ok (.getfield 27, 3) := by decide +kernel
theorem dX7_standsAlone_4 : decode cX7_standsAlone 4 = .ok (.iload_n 1, 1) := by decide +kernel
theorem dX7_standsAlone_5 : decode cX7_standsAlone 5 = .ok (.iaload, 1) := by decide +kernel
theorem dX7_standsAlone_6 : decode cX7_standsAlone 6 = .ok (.iconst 3, 1) := by decide +kernel
theorem dX7_standsAlone_7 : decode cX7_standsAlone 7 = .ok (.if_icmp .eq 17, 3) := by decide +kernel
theorem dX7_standsAlone_10 : decode cX7_standsAlone 10 = .ok (.aload_n 0, 1) := by decide +kernel
theorem dX7_standsAlone_11 : decode cX7_standsAlone 11 = .ok (.getfield 27, 3) := by decide +kernel
theorem dX7_standsAlone_14 : decode cX7_standsAlone 14 = .ok (.iload_n 1, 1) := by decide +kernel
theorem dX7_standsAlone_15 : decode cX7_standsAlone 15 = .ok (.iaload, 1) := by decide +kernel
theorem dX7_standsAlone_16 : decode cX7_standsAlone 16 = .ok (.iconst 4, 1) := by decide +kernel
theorem dX7_standsAlone_17 : decode cX7_standsAlone 17 = .ok (.if_icmp .eq 7, 3) := by decide +kernel
theorem dX7_standsAlone_20 : decode cX7_standsAlone 20 = .ok (.iconst 1, 1) := by decide +kernel
theorem dX7_standsAlone_21 : decode cX7_standsAlone 21 = .ok (.goto 4, 3) := by decide +kernel
theorem dX7_standsAlone_24 : decode cX7_standsAlone 24 = .ok (.iconst 0, 1) := by decide +kernel
theorem dX7_standsAlone_25 : decode cX7_standsAlone 25 = .ok (.ireturn, 1) := by decide +kernel
theorem dX7_isAnswered_0 : decode cX7_isAnswered 0 = .ok (.aload_n 0, 1) := by decide +kernel
theorem dX7_isAnswered_1 : decode cX7_isAnswered 1 = .ok (.getfield 48, 3) := by decide +kernel
theorem dX7_isAnswered_4 : decode cX7_isAnswered 4 = .ok (.iload_n 1, 1) := by decide +kernel
theorem dX7_isAnswered_5 : decode cX7_isAnswered 5 = .ok (.iaload, 1) := by decide +kernel
theorem dX7_isAnswered_6 : decode cX7_isAnswered 6 = .ok (.iconst (-1), 1) := by decide +kernel
theorem dX7_isAnswered_7 : decode cX7_isAnswered 7 = .ok (.if_icmp .eq 7, 3) := by decide +kernel
theorem dX7_isAnswered_10 : decode cX7_isAnswered 10 = .ok (.iconst 1, 1) := by decide +kernel
theorem dX7_isAnswered_11 : decode cX7_isAnswered 11 = .ok (.goto 4, 3) := by decide +kernel
theorem dX7_isAnswered_14 : decode cX7_isAnswered 14 = .ok (.iconst 0, 1) := by decide +kernel
theorem dX7_isAnswered_15 : decode cX7_isAnswered 15 = .ok (.ireturn, 1) := by decide +kernel
theorem dX7_responseRuns_0 : decode cX7_responseRuns 0 = .ok (.aload_n 0, 1) := by decide +kernel
theorem dX7_responseRuns_1 : decode cX7_responseRuns 1 = .ok (.iload_n 1, 1) := by decide +kernel
theorem dX7_responseRuns_2 : decode cX7_responseRuns 2 = .ok (.invokevirtual 58, 3) := by decide +kernel
theorem dX7_responseRuns_5 : decode cX7_responseRuns 5 = .ok (.ifCond .eq 5, 3) := by decide +kernel
theorem dX7_responseRuns_8 : decode cX7_responseRuns 8 = .ok (.iconst 0, 1) := by decide +kernel
theorem dX7_responseRuns_9 : decode cX7_responseRuns 9 = .ok (.ireturn, 1) := by decide +kernel
theorem dX7_responseRuns_10 : decode cX7_responseRuns 10 = .ok (.aload_n 0, 1) := by decide +kernel
theorem dX7_responseRuns_11 : decode cX7_responseRuns 11 = .ok (.getfield 27, 3) := by decide +kernel
theorem dX7_responseRuns_14 : decode cX7_responseRuns 14 = .ok (.iload_n 1, 1) := by decide +kernel
theorem dX7_responseRuns_15 : decode cX7_responseRuns 15 = .ok (.iaload, 1) := by decide +kernel
theorem dX7_responseRuns_16 : decode cX7_responseRuns 16 = .ok (.iconst 4, 1) := by decide +kernel
theorem dX7_responseRuns_17 : decode cX7_responseRuns 17 = .ok (.if_icmp .ne 35, 3) := by decide +kernel
theorem dX7_responseRuns_20 : decode cX7_responseRuns 20 = .ok (.aload_n 0, 1) := by decide +kernel
theorem dX7_responseRuns_21 : decode cX7_responseRuns 21 = .ok (.aload_n 0, 1) := by decide +kernel
theorem dX7_responseRuns_22 : decode cX7_responseRuns 22 = .ok (.getfield 42, 3) := by decide +kernel
theorem dX7_responseRuns_25 : decode cX7_responseRuns 25 = .ok (.iload_n 1, 1) := by decide +kernel
theorem dX7_responseRuns_26 : decode cX7_responseRuns 26 = .ok (.iaload, 1) := by decide +kernel
theorem dX7_responseRuns_27 : decode cX7_responseRuns 27 = .ok (.invokevirtual 62, 3) := by decide +kernel
theorem dX7_responseRuns_30 : decode cX7_responseRuns 30 = .ok (.ifCond .eq 20, 3) := by decide +kernel
theorem dX7_responseRuns_33 : decode cX7_responseRuns 33 = .ok (.aload_n 0, 1) := by decide +kernel
theorem dX7_responseRuns_34 : decode cX7_responseRuns 34 = .ok (.aload_n 0, 1) := by decide +kernel
theorem dX7_responseRuns_35 : decode cX7_responseRuns 35 = .ok (.getfield 42, 3) := by decide +kernel
theorem dX7_responseRuns_38 : decode cX7_responseRuns 38 = .ok (.iload_n 1, 1) := by decide +kernel
theorem dX7_responseRuns_39 : decode cX7_responseRuns 39 = .ok (.iaload, 1) := by decide +kernel
theorem dX7_responseRuns_40 : decode cX7_responseRuns 40 = .ok (.invokevirtual 58, 3) := by decide +kernel
theorem dX7_responseRuns_43 : decode cX7_responseRuns 43 = .ok (.ifCond .ne 7, 3) := by decide +kernel
theorem dX7_responseRuns_46 : decode cX7_responseRuns 46 = .ok (.iconst 1, 1) := by decide +kernel
theorem dX7_responseRuns_47 : decode cX7_responseRuns 47 = .ok (.goto 4, 3) := by decide +kernel
theorem dX7_responseRuns_50 : decode cX7_responseRuns 50 = .ok (.iconst 0, 1) := by decide +kernel
theorem dX7_responseRuns_51 : decode cX7_responseRuns 51 = .ok (.ireturn, 1) := by decide +kernel
theorem dX7_responseRuns_52 : decode cX7_responseRuns 52 = .ok (.aload_n 0, 1) := by decide +kernel
theorem dX7_responseRuns_53 : decode cX7_responseRuns 53 = .ok (.getfield 27, 3) := by decide +kernel
theorem dX7_responseRuns_56 : decode cX7_responseRuns 56 = .ok (.iload_n 1, 1) := by decide +kernel
theorem dX7_responseRuns_57 : decode cX7_responseRuns 57 = .ok (.iaload, 1) := by decide +kernel
theorem dX7_responseRuns_58 : decode cX7_responseRuns 58 = .ok (.ifCond .eq 13, 3) := by decide +kernel
theorem dX7_responseRuns_61 : decode cX7_responseRuns 61 = .ok (.aload_n 0, 1) := by decide +kernel
theorem dX7_responseRuns_62 : decode cX7_responseRuns 62 = .ok (.getfield 27, 3) := by decide +kernel
theorem dX7_responseRuns_65 : decode cX7_responseRuns 65 = .ok (.iload_n 1, 1) := by decide +kernel
theorem dX7_responseRuns_66 : decode cX7_responseRuns 66 = .ok (.iaload, 1) := by decide +kernel
theorem dX7_responseRuns_67 : decode cX7_responseRuns 67 = .ok (.iconst 2, 1) := by decide +kernel
theorem dX7_responseRuns_68 : decode cX7_responseRuns 68 = .ok (.if_icmp .ne 7, 3) := by decide +kernel
theorem dX7_responseRuns_71 : decode cX7_responseRuns 71 = .ok (.iconst 1, 1) := by decide +kernel
theorem dX7_responseRuns_72 : decode cX7_responseRuns 72 = .ok (.goto 4, 3) := by decide +kernel
theorem dX7_responseRuns_75 : decode cX7_responseRuns 75 = .ok (.iconst 0, 1) := by decide +kernel
theorem dX7_responseRuns_76 : decode cX7_responseRuns 76 = .ok (.ireturn, 1) := by decide +kernel
theorem dX7_resolveRuns_0 : decode cX7_resolveRuns 0 = .ok (.aload_n 0, 1) := by decide +kernel
theorem dX7_resolveRuns_1 : decode cX7_resolveRuns 1 = .ok (.getfield 27, 3) := by decide +kernel
theorem dX7_resolveRuns_4 : decode cX7_resolveRuns 4 = .ok (.iload_n 1, 1) := by decide +kernel
theorem dX7_resolveRuns_5 : decode cX7_resolveRuns 5 = .ok (.iaload, 1) := by decide +kernel
theorem dX7_resolveRuns_6 : decode cX7_resolveRuns 6 = .ok (.iconst 4, 1) := by decide +kernel
theorem dX7_resolveRuns_7 : decode cX7_resolveRuns 7 = .ok (.if_icmp .ne 35, 3) := by decide +kernel
theorem dX7_resolveRuns_10 : decode cX7_resolveRuns 10 = .ok (.aload_n 0, 1) := by decide +kernel
theorem dX7_resolveRuns_11 : decode cX7_resolveRuns 11 = .ok (.aload_n 0, 1) := by decide +kernel
theorem dX7_resolveRuns_12 : decode cX7_resolveRuns 12 = .ok (.getfield 42, 3) := by decide +kernel
theorem dX7_resolveRuns_15 : decode cX7_resolveRuns 15 = .ok (.iload_n 1, 1) := by decide +kernel
theorem dX7_resolveRuns_16 : decode cX7_resolveRuns 16 = .ok (.iaload, 1) := by decide +kernel
theorem dX7_resolveRuns_17 : decode cX7_resolveRuns 17 = .ok (.invokevirtual 62, 3) := by decide +kernel
theorem dX7_resolveRuns_20 : decode cX7_resolveRuns 20 = .ok (.ifCond .eq 20, 3) := by decide +kernel
theorem dX7_resolveRuns_23 : decode cX7_resolveRuns 23 = .ok (.aload_n 0, 1) := by decide +kernel
theorem dX7_resolveRuns_24 : decode cX7_resolveRuns 24 = .ok (.aload_n 0, 1) := by decide +kernel
theorem dX7_resolveRuns_25 : decode cX7_resolveRuns 25 = .ok (.getfield 42, 3) := by decide +kernel
theorem dX7_resolveRuns_28 : decode cX7_resolveRuns 28 = .ok (.iload_n 1, 1) := by decide +kernel
theorem dX7_resolveRuns_29 : decode cX7_resolveRuns 29 = .ok (.iaload, 1) := by decide +kernel
theorem dX7_resolveRuns_30 : decode cX7_resolveRuns 30 = .ok (.invokevirtual 65, 3) := by decide +kernel
theorem dX7_resolveRuns_33 : decode cX7_resolveRuns 33 = .ok (.ifCond .eq 7, 3) := by decide +kernel
theorem dX7_resolveRuns_36 : decode cX7_resolveRuns 36 = .ok (.iconst 1, 1) := by decide +kernel
theorem dX7_resolveRuns_37 : decode cX7_resolveRuns 37 = .ok (.goto 4, 3) := by decide +kernel
theorem dX7_resolveRuns_40 : decode cX7_resolveRuns 40 = .ok (.iconst 0, 1) := by decide +kernel
theorem dX7_resolveRuns_41 : decode cX7_resolveRuns 41 = .ok (.ireturn, 1) := by decide +kernel
theorem dX7_resolveRuns_42 : decode cX7_resolveRuns 42 = .ok (.aload_n 0, 1) := by decide +kernel
theorem dX7_resolveRuns_43 : decode cX7_resolveRuns 43 = .ok (.iload_n 1, 1) := by decide +kernel
theorem dX7_resolveRuns_44 : decode cX7_resolveRuns 44 = .ok (.invokevirtual 65, 3) := by decide +kernel
theorem dX7_resolveRuns_47 : decode cX7_resolveRuns 47 = .ok (.ireturn, 1) := by decide +kernel
theorem dX7_countAt_0 : decode cX7_countAt 0 = .ok (.iconst 0, 1) := by decide +kernel
theorem dX7_countAt_1 : decode cX7_countAt 1 = .ok (.istore_n 3, 1) := by decide +kernel
theorem dX7_countAt_2 : decode cX7_countAt 2 = .ok (.iconst 0, 1) := by decide +kernel
theorem dX7_countAt_3 : decode cX7_countAt 3 = .ok (.istore 4, 2) := by decide +kernel
theorem dX7_countAt_5 : decode cX7_countAt 5 = .ok (.iload 4, 2) := by decide +kernel
theorem dX7_countAt_7 : decode cX7_countAt 7 = .ok (.aload_n 0, 1) := by decide +kernel
theorem dX7_countAt_8 : decode cX7_countAt 8 = .ok (.getfield 54, 3) := by decide +kernel
theorem dX7_countAt_11 : decode cX7_countAt 11 = .ok (.if_icmp .ge 34, 3) := by decide +kernel
theorem dX7_countAt_14 : decode cX7_countAt 14 = .ok (.aload_n 0, 1) := by decide +kernel
theorem dX7_countAt_15 : decode cX7_countAt 15 = .ok (.getfield 27, 3) := by decide +kernel
theorem dX7_countAt_18 : decode cX7_countAt 18 = .ok (.iload 4, 2) := by decide +kernel
theorem dX7_countAt_20 : decode cX7_countAt 20 = .ok (.iaload, 1) := by decide +kernel
theorem dX7_countAt_21 : decode cX7_countAt 21 = .ok (.iload_n 2, 1) := by decide +kernel
theorem dX7_countAt_22 : decode cX7_countAt 22 = .ok (.if_icmp .ne 17, 3) := by decide +kernel
theorem dX7_countAt_25 : decode cX7_countAt 25 = .ok (.aload_n 0, 1) := by decide +kernel
theorem dX7_countAt_26 : decode cX7_countAt 26 = .ok (.getfield 24, 3) := by decide +kernel
theorem dX7_countAt_29 : decode cX7_countAt 29 = .ok (.iload 4, 2) := by decide +kernel
theorem dX7_countAt_31 : decode cX7_countAt 31 = .ok (.iaload, 1) := by decide +kernel
theorem dX7_countAt_32 : decode cX7_countAt 32 = .ok (.iload_n 1, 1) := by decide +kernel
theorem dX7_countAt_33 : decode cX7_countAt 33 = .ok (.if_icmp .ne 6, 3) := by decide +kernel
theorem dX7_countAt_36 : decode cX7_countAt 36 = .ok (.iinc 3 1, 3) := by decide +kernel
theorem dX7_countAt_39 : decode cX7_countAt 39 = .ok (.iinc 4 1, 3) := by decide +kernel
theorem dX7_countAt_42 : decode cX7_countAt 42 = .ok (.goto (-37), 3) := by decide +kernel
theorem dX7_countAt_45 : decode cX7_countAt 45 = .ok (.iload_n 3, 1) := by decide +kernel
theorem dX7_countAt_46 : decode cX7_countAt 46 = .ok (.ireturn, 1) := by decide +kernel
theorem dX7_countSolved_0 : decode cX7_countSolved 0 = .ok (.iconst 0, 1) := by decide +kernel
theorem dX7_countSolved_1 : decode cX7_countSolved 1 = .ok (.istore_n 1, 1) := by decide +kernel
theorem dX7_countSolved_2 : decode cX7_countSolved 2 = .ok (.iconst 0, 1) := by decide +kernel
theorem dX7_countSolved_3 : decode cX7_countSolved 3 = .ok (.istore_n 2, 1) := by decide +kernel
theorem dX7_countSolved_4 : decode cX7_countSolved 4 = .ok (.iload_n 2, 1) := by decide +kernel
theorem dX7_countSolved_5 : decode cX7_countSolved 5 = .ok (.aload_n 0, 1) := by decide +kernel
theorem dX7_countSolved_6 : decode cX7_countSolved 6 = .ok (.getfield 54, 3) := by decide +kernel
theorem dX7_countSolved_9 : decode cX7_countSolved 9 = .ok (.if_icmp .ge 22, 3) := by decide +kernel
theorem dX7_countSolved_12 : decode cX7_countSolved 12 = .ok (.aload_n 0, 1) := by decide +kernel
theorem dX7_countSolved_13 : decode cX7_countSolved 13 = .ok (.getfield 27, 3) := by decide +kernel
theorem dX7_countSolved_16 : decode cX7_countSolved 16 = .ok (.iload_n 2, 1) := by decide +kernel
theorem dX7_countSolved_17 : decode cX7_countSolved 17 = .ok (.iaload, 1) := by decide +kernel
theorem dX7_countSolved_18 : decode cX7_countSolved 18 = .ok (.iconst 3, 1) := by decide +kernel
theorem dX7_countSolved_19 : decode cX7_countSolved 19 = .ok (.if_icmp .ne 6, 3) := by decide +kernel
theorem dX7_countSolved_22 : decode cX7_countSolved 22 = .ok (.iinc 1 1, 3) := by decide +kernel
theorem dX7_countSolved_25 : decode cX7_countSolved 25 = .ok (.iinc 2 1, 3) := by decide +kernel
theorem dX7_countSolved_28 : decode cX7_countSolved 28 = .ok (.goto (-24), 3) := by decide +kernel
theorem dX7_countSolved_31 : decode cX7_countSolved 31 = .ok (.iload_n 1, 1) := by decide +kernel
theorem dX7_countSolved_32 : decode cX7_countSolved 32 = .ok (.ireturn, 1) := by decide +kernel
theorem dX7_twinMask_0 : decode cX7_twinMask 0 = .ok (.lconst 0, 1) := by decide +kernel
theorem dX7_twinMask_1 : decode cX7_twinMask 1 = .ok (.lstore_n 2, 1) := by decide +kernel
theorem dX7_twinMask_2 : decode cX7_twinMask 2 = .ok (.iconst 0, 1) := by decide +kernel
theorem dX7_twinMask_3 : decode cX7_twinMask 3 = .ok (.istore 4, 2) := by decide +kernel
theorem dX7_twinMask_5 : decode cX7_twinMask 5 = .ok (.iload 4, 2) := by decide +kernel
theorem dX7_twinMask_7 : decode cX7_twinMask 7 = .ok (.aload_n 0, 1) := by decide +kernel
theorem dX7_twinMask_8 : decode cX7_twinMask 8 = .ok (.getfield 54, 3) := by decide +kernel
theorem dX7_twinMask_11 : decode cX7_twinMask 11 = .ok (.if_icmp .ge 27, 3) := by decide +kernel
theorem dX7_twinMask_14 : decode cX7_twinMask 14 = .ok (.aload_n 0, 1) := by decide +kernel
theorem dX7_twinMask_15 : decode cX7_twinMask 15 = .ok (.getfield 42, 3) := by decide +kernel
theorem dX7_twinMask_18 : decode cX7_twinMask 18 = .ok (.iload 4, 2) := by decide +kernel
theorem dX7_twinMask_20 : decode cX7_twinMask 20 = .ok (.iaload, 1) := by decide +kernel
theorem dX7_twinMask_21 : decode cX7_twinMask 21 = .ok (.iload_n 1, 1) := by decide +kernel
theorem dX7_twinMask_22 : decode cX7_twinMask 22 = .ok (.if_icmp .ne 10, 3) := by decide +kernel
theorem dX7_twinMask_25 : decode cX7_twinMask 25 = .ok (.lload_n 2, 1) := by decide +kernel
theorem dX7_twinMask_26 : decode cX7_twinMask 26 = .ok (.lconst 1, 1) := by decide +kernel
theorem dX7_twinMask_27 : decode cX7_twinMask 27 = .ok (.iload 4, 2) := by decide +kernel
theorem dX7_twinMask_29 : decode cX7_twinMask 29 = .ok (.lshl, 1) := by decide +kernel
theorem dX7_twinMask_30 : decode cX7_twinMask 30 = .ok (.lor, 1) := by decide +kernel
theorem dX7_twinMask_31 : decode cX7_twinMask 31 = .ok (.lstore_n 2, 1) := by decide +kernel
theorem dX7_twinMask_32 : decode cX7_twinMask 32 = .ok (.iinc 4 1, 3) := by decide +kernel
theorem dX7_twinMask_35 : decode cX7_twinMask 35 = .ok (.goto (-30), 3) := by decide +kernel
theorem dX7_twinMask_38 : decode cX7_twinMask 38 = .ok (.lload_n 2, 1) := by decide +kernel
theorem dX7_twinMask_39 : decode cX7_twinMask 39 = .ok (.lreturn, 1) := by decide +kernel
theorem dX7_unsolvedMask_0 : decode cX7_unsolvedMask 0 = .ok (.lconst 0, 1) := by decide +kernel
theorem dX7_unsolvedMask_1 : decode cX7_unsolvedMask 1 = .ok (.lstore_n 2, 1) := by decide +kernel
theorem dX7_unsolvedMask_2 : decode cX7_unsolvedMask 2 = .ok (.iconst 0, 1) := by decide +kernel
theorem dX7_unsolvedMask_3 : decode cX7_unsolvedMask 3 = .ok (.istore 4, 2) := by decide +kernel
theorem dX7_unsolvedMask_5 : decode cX7_unsolvedMask 5 = .ok (.iload 4, 2) := by decide +kernel
theorem dX7_unsolvedMask_7 : decode cX7_unsolvedMask 7 = .ok (.aload_n 0, 1) := by decide +kernel
theorem dX7_unsolvedMask_8 : decode cX7_unsolvedMask 8 = .ok (.getfield 54, 3) := by decide +kernel
theorem dX7_unsolvedMask_11 : decode cX7_unsolvedMask 11 = .ok (.if_icmp .ge 38, 3) := by decide +kernel
theorem dX7_unsolvedMask_14 : decode cX7_unsolvedMask 14 = .ok (.aload_n 0, 1) := by decide +kernel
theorem dX7_unsolvedMask_15 : decode cX7_unsolvedMask 15 = .ok (.getfield 15, 3) := by decide +kernel
theorem dX7_unsolvedMask_18 : decode cX7_unsolvedMask 18 = .ok (.iload 4, 2) := by decide +kernel
theorem dX7_unsolvedMask_20 : decode cX7_unsolvedMask 20 = .ok (.iaload, 1) := by decide +kernel
theorem dX7_unsolvedMask_21 : decode cX7_unsolvedMask 21 = .ok (.iload_n 1, 1) := by decide +kernel
theorem dX7_unsolvedMask_22 : decode cX7_unsolvedMask 22 = .ok (.if_icmp .ne 21, 3) := by decide +kernel
theorem dX7_unsolvedMask_25 : decode cX7_unsolvedMask 25 = .ok (.aload_n 0, 1) := by decide +kernel
theorem dX7_unsolvedMask_26 : decode cX7_unsolvedMask 26 = .ok (.getfield 27, 3) := by decide +kernel
theorem dX7_unsolvedMask_29 : decode cX7_unsolvedMask 29 = .ok (.iload 4, 2) := by decide +kernel
theorem dX7_unsolvedMask_31 : decode cX7_unsolvedMask 31 = .ok (.iaload, 1) := by decide +kernel
theorem dX7_unsolvedMask_32 : decode cX7_unsolvedMask 32 = .ok (.iconst 3, 1) := by decide +kernel
theorem dX7_unsolvedMask_33 : decode cX7_unsolvedMask 33 = .ok (.if_icmp .eq 10, 3) := by decide +kernel
theorem dX7_unsolvedMask_36 : decode cX7_unsolvedMask 36 = .ok (.lload_n 2, 1) := by decide +kernel
theorem dX7_unsolvedMask_37 : decode cX7_unsolvedMask 37 = .ok (.lconst 1, 1) := by decide +kernel
theorem dX7_unsolvedMask_38 : decode cX7_unsolvedMask 38 = .ok (.iload 4, 2) := by decide +kernel
theorem dX7_unsolvedMask_40 : decode cX7_unsolvedMask 40 = .ok (.lshl, 1) := by decide +kernel
theorem dX7_unsolvedMask_41 : decode cX7_unsolvedMask 41 = .ok (.lor, 1) := by decide +kernel
theorem dX7_unsolvedMask_42 : decode cX7_unsolvedMask 42 = .ok (.lstore_n 2, 1) := by decide +kernel
theorem dX7_unsolvedMask_43 : decode cX7_unsolvedMask 43 = .ok (.iinc 4 1, 3) := by decide +kernel
theorem dX7_unsolvedMask_46 : decode cX7_unsolvedMask 46 = .ok (.goto (-41), 3) := by decide +kernel
theorem dX7_unsolvedMask_49 : decode cX7_unsolvedMask 49 = .ok (.lload_n 2, 1) := by decide +kernel
theorem dX7_unsolvedMask_50 : decode cX7_unsolvedMask 50 = .ok (.lreturn, 1) := by decide +kernel
theorem dX7_sameFaultBefore_0 : decode cX7_sameFaultBefore 0 = .ok (.iconst 0, 1) := by decide +kernel
theorem dX7_sameFaultBefore_1 : decode cX7_sameFaultBefore 1 = .ok (.istore_n 2, 1) := by decide +kernel
theorem dX7_sameFaultBefore_2 : decode cX7_sameFaultBefore 2 = .ok (.iload_n 2, 1) := by decide +kernel
theorem dX7_sameFaultBefore_3 : decode cX7_sameFaultBefore 3 = .ok (.iload_n 1, 1) := by decide +kernel
theorem dX7_sameFaultBefore_4 : decode cX7_sameFaultBefore 4 = .ok (.if_icmp .ge 68, 3) := by decide +kernel
theorem dX7_sameFaultBefore_7 : decode cX7_sameFaultBefore 7 = .ok (.aload_n 0, 1) := by decide +kernel
theorem dX7_sameFaultBefore_8 : decode cX7_sameFaultBefore 8 = .ok (.iload_n 2, 1) := by decide +kernel
theorem dX7_sameFaultBefore_9 : decode cX7_sameFaultBefore 9 = .ok (.invokevirtual 68, 3) := by decide +kernel
theorem dX7_sameFaultBefore_12 : decode cX7_sameFaultBefore 12 = .ok (.ifCond .eq 54, 3) := by decide +kernel
theorem dX7_sameFaultBefore_15 : decode cX7_sameFaultBefore 15 = .ok (.aload_n 0, 1) := by decide +kernel
theorem dX7_sameFaultBefore_16 : decode cX7_sameFaultBefore 16 = .ok (.getfield 9, 3) := by decide +kernel
theorem dX7_sameFaultBefore_19 : decode cX7_sameFaultBefore 19 = .ok (.iload_n 2, 1) := by decide +kernel
theorem dX7_sameFaultBefore_20 : decode cX7_sameFaultBefore 20 = .ok (.iaload, 1) := by decide +kernel
theorem dX7_sameFaultBefore_21 : decode cX7_sameFaultBefore 21 = .ok (.aload_n 0, 1) := by decide +kernel
theorem dX7_sameFaultBefore_22 : decode cX7_sameFaultBefore 22 = .ok (.getfield 9, 3) := by decide +kernel
theorem dX7_sameFaultBefore_25 : decode cX7_sameFaultBefore 25 = .ok (.iload_n 1, 1) := by decide +kernel
theorem dX7_sameFaultBefore_26 : decode cX7_sameFaultBefore 26 = .ok (.iaload, 1) := by decide +kernel
theorem dX7_sameFaultBefore_27 : decode cX7_sameFaultBefore 27 = .ok (.if_icmp .ne 39, 3) := by decide +kernel
theorem dX7_sameFaultBefore_30 : decode cX7_sameFaultBefore 30 = .ok (.aload_n 0, 1) := by decide +kernel
theorem dX7_sameFaultBefore_31 : decode cX7_sameFaultBefore 31 = .ok (.getfield 18, 3) := by decide +kernel
theorem dX7_sameFaultBefore_34 : decode cX7_sameFaultBefore 34 = .ok (.iload_n 2, 1) := by decide +kernel
theorem dX7_sameFaultBefore_35 : decode cX7_sameFaultBefore 35 = .ok (.iaload, 1) := by decide +kernel
theorem dX7_sameFaultBefore_36 : decode cX7_sameFaultBefore 36 = .ok (.aload_n 0, 1) := by decide +kernel
theorem dX7_sameFaultBefore_37 : decode cX7_sameFaultBefore 37 = .ok (.getfield 18, 3) := by decide +kernel
theorem dX7_sameFaultBefore_40 : decode cX7_sameFaultBefore 40 = .ok (.iload_n 1, 1) := by decide +kernel
theorem dX7_sameFaultBefore_41 : decode cX7_sameFaultBefore 41 = .ok (.iaload, 1) := by decide +kernel
theorem dX7_sameFaultBefore_42 : decode cX7_sameFaultBefore 42 = .ok (.if_icmp .ne 24, 3) := by decide +kernel
theorem dX7_sameFaultBefore_45 : decode cX7_sameFaultBefore 45 = .ok (.aload_n 0, 1) := by decide +kernel
theorem dX7_sameFaultBefore_46 : decode cX7_sameFaultBefore 46 = .ok (.getfield 45, 3) := by decide +kernel
theorem dX7_sameFaultBefore_49 : decode cX7_sameFaultBefore 49 = .ok (.iload_n 1, 1) := by decide +kernel
theorem dX7_sameFaultBefore_50 : decode cX7_sameFaultBefore 50 = .ok (.iaload, 1) := by decide +kernel
theorem dX7_sameFaultBefore_51 : decode cX7_sameFaultBefore 51 = .ok (.aload_n 0, 1) := by decide +kernel
theorem dX7_sameFaultBefore_52 : decode cX7_sameFaultBefore 52 = .ok (.getfield 45, 3) := by decide +kernel
theorem dX7_sameFaultBefore_55 : decode cX7_sameFaultBefore 55 = .ok (.iload_n 2, 1) := by decide +kernel
theorem dX7_sameFaultBefore_56 : decode cX7_sameFaultBefore 56 = .ok (.iaload, 1) := by decide +kernel
theorem dX7_sameFaultBefore_57 : decode cX7_sameFaultBefore 57 = .ok (.isub, 1) := by decide +kernel
theorem dX7_sameFaultBefore_58 : decode cX7_sameFaultBefore 58 = .ok (.sipush 240, 3) := by decide +kernel
theorem dX7_sameFaultBefore_61 : decode cX7_sameFaultBefore 61 = .ok (.if_icmp .gt 5, 3) := by decide +kernel
theorem dX7_sameFaultBefore_64 : decode cX7_sameFaultBefore 64 = .ok (.iload_n 2, 1) := by decide +kernel
theorem dX7_sameFaultBefore_65 : decode cX7_sameFaultBefore 65 = .ok (.ireturn, 1) := by decide +kernel
theorem dX7_sameFaultBefore_66 : decode cX7_sameFaultBefore 66 = .ok (.iinc 2 1, 3) := by decide +kernel
theorem dX7_sameFaultBefore_69 : decode cX7_sameFaultBefore 69 = .ok (.goto (-67), 3) := by decide +kernel
theorem dX7_sameFaultBefore_72 : decode cX7_sameFaultBefore 72 = .ok (.iconst (-1), 1) := by decide +kernel
theorem dX7_sameFaultBefore_73 : decode cX7_sameFaultBefore 73 = .ok (.ireturn, 1) := by decide +kernel
theorem dX7_solvedClock_0 : decode cX7_solvedClock 0 = .ok (.iconst 0, 1) := by decide +kernel
theorem dX7_solvedClock_1 : decode cX7_solvedClock 1 = .ok (.istore_n 2, 1) := by decide +kernel
theorem dX7_solvedClock_2 : decode cX7_solvedClock 2 = .ok (.iload_n 2, 1) := by decide +kernel
theorem dX7_solvedClock_3 : decode cX7_solvedClock 3 = .ok (.aload_n 0, 1) := by decide +kernel
theorem dX7_solvedClock_4 : decode cX7_solvedClock 4 = .ok (.getfield 54, 3) := by decide +kernel
theorem dX7_solvedClock_7 : decode cX7_solvedClock 7 = .ok (.if_icmp .ge 56, 3) := by decide +kernel
theorem dX7_solvedClock_10 : decode cX7_solvedClock 10 = .ok (.aload_n 0, 1) := by decide +kernel
theorem dX7_solvedClock_11 : decode cX7_solvedClock 11 = .ok (.getfield 27, 3) := by decide +kernel
theorem dX7_solvedClock_14 : decode cX7_solvedClock 14 = .ok (.iload_n 2, 1) := by decide +kernel
theorem dX7_solvedClock_15 : decode cX7_solvedClock 15 = .ok (.iaload, 1) := by decide +kernel
theorem dX7_solvedClock_16 : decode cX7_solvedClock 16 = .ok (.iconst 3, 1) := by decide +kernel
theorem dX7_solvedClock_17 : decode cX7_solvedClock 17 = .ok (.if_icmp .ne 40, 3) := by decide +kernel
theorem dX7_solvedClock_20 : decode cX7_solvedClock 20 = .ok (.aload_n 0, 1) := by decide +kernel
theorem dX7_solvedClock_21 : decode cX7_solvedClock 21 = .ok (.aload_n 0, 1) := by decide +kernel
theorem dX7_solvedClock_22 : decode cX7_solvedClock 22 = .ok (.getfield 39, 3) := by decide +kernel
theorem dX7_solvedClock_25 : decode cX7_solvedClock 25 = .ok (.iload_n 2, 1) := by decide +kernel
theorem dX7_solvedClock_26 : decode cX7_solvedClock 26 = .ok (.iaload, 1) := by decide +kernel
theorem dX7_solvedClock_27 : decode cX7_solvedClock 27 = .ok (.invokevirtual 71, 3) := by decide +kernel
theorem dX7_solvedClock_30 : decode cX7_solvedClock 30 = .ok (.iload_n 1, 1) := by decide +kernel
theorem dX7_solvedClock_31 : decode cX7_solvedClock 31 = .ok (.if_icmp .ge 26, 3) := by decide +kernel
theorem dX7_solvedClock_34 : decode cX7_solvedClock 34 = .ok (.aload_n 0, 1) := by decide +kernel
theorem dX7_solvedClock_35 : decode cX7_solvedClock 35 = .ok (.aload_n 0, 1) := by decide +kernel
theorem dX7_solvedClock_36 : decode cX7_solvedClock 36 = .ok (.getfield 39, 3) := by decide +kernel
theorem dX7_solvedClock_39 : decode cX7_solvedClock 39 = .ok (.iload_n 2, 1) := by decide +kernel
theorem dX7_solvedClock_40 : decode cX7_solvedClock 40 = .ok (.iaload, 1) := by decide +kernel
theorem dX7_solvedClock_41 : decode cX7_solvedClock 41 = .ok (.iconst 1, 1) := by decide +kernel
theorem dX7_solvedClock_42 : decode cX7_solvedClock 42 = .ok (.iadd, 1) := by decide +kernel
theorem dX7_solvedClock_43 : decode cX7_solvedClock 43 = .ok (.invokevirtual 71, 3) := by decide +kernel
theorem dX7_solvedClock_46 : decode cX7_solvedClock 46 = .ok (.iload_n 1, 1) := by decide +kernel
theorem dX7_solvedClock_47 : decode cX7_solvedClock 47 = .ok (.if_icmp .lt 10, 3) := by decide +kernel
theorem dX7_solvedClock_50 : decode cX7_solvedClock 50 = .ok (.aload_n 0, 1) := by decide +kernel
theorem dX7_solvedClock_51 : decode cX7_solvedClock 51 = .ok (.getfield 39, 3) := by decide +kernel
theorem dX7_solvedClock_54 : decode cX7_solvedClock 54 = .ok (.iload_n 2, 1) := by decide +kernel
theorem dX7_solvedClock_55 : decode cX7_solvedClock 55 = .ok (.iaload, 1) := by decide +kernel
theorem dX7_solvedClock_56 : decode cX7_solvedClock 56 = .ok (.ireturn, 1) := by decide +kernel
theorem dX7_solvedClock_57 : decode cX7_solvedClock 57 = .ok (.iinc 2 1, 3) := by decide +kernel
theorem dX7_solvedClock_60 : decode cX7_solvedClock 60 = .ok (.goto (-58), 3) := by decide +kernel
theorem dX7_solvedClock_63 : decode cX7_solvedClock 63 = .ok (.iconst (-1), 1) := by decide +kernel
theorem dX7_solvedClock_64 : decode cX7_solvedClock 64 = .ok (.ireturn, 1) := by decide +kernel
theorem dX7_solvedBelow_0 : decode cX7_solvedBelow 0 = .ok (.iconst 0, 1) := by decide +kernel
theorem dX7_solvedBelow_1 : decode cX7_solvedBelow 1 = .ok (.istore_n 2, 1) := by decide +kernel
theorem dX7_solvedBelow_2 : decode cX7_solvedBelow 2 = .ok (.iconst 0, 1) := by decide +kernel
theorem dX7_solvedBelow_3 : decode cX7_solvedBelow 3 = .ok (.istore_n 3, 1) := by decide +kernel
theorem dX7_solvedBelow_4 : decode cX7_solvedBelow 4 = .ok (.iload_n 3, 1) := by decide +kernel
theorem dX7_solvedBelow_5 : decode cX7_solvedBelow 5 = .ok (.aload_n 0, 1) := by decide +kernel
theorem dX7_solvedBelow_6 : decode cX7_solvedBelow 6 = .ok (.getfield 54, 3) := by decide +kernel
theorem dX7_solvedBelow_9 : decode cX7_solvedBelow 9 = .ok (.if_icmp .ge 32, 3) := by decide +kernel
theorem dX7_solvedBelow_12 : decode cX7_solvedBelow 12 = .ok (.aload_n 0, 1) := by decide +kernel
theorem dX7_solvedBelow_13 : decode cX7_solvedBelow 13 = .ok (.getfield 27, 3) := by decide +kernel
theorem dX7_solvedBelow_16 : decode cX7_solvedBelow 16 = .ok (.iload_n 3, 1) := by decide +kernel
theorem dX7_solvedBelow_17 : decode cX7_solvedBelow 17 = .ok (.iaload, 1) := by decide +kernel
theorem dX7_solvedBelow_18 : decode cX7_solvedBelow 18 = .ok (.iconst 3, 1) := by decide +kernel
theorem dX7_solvedBelow_19 : decode cX7_solvedBelow 19 = .ok (.if_icmp .ne 16, 3) := by decide +kernel
theorem dX7_solvedBelow_22 : decode cX7_solvedBelow 22 = .ok (.aload_n 0, 1) := by decide +kernel
theorem dX7_solvedBelow_23 : decode cX7_solvedBelow 23 = .ok (.getfield 39, 3) := by decide +kernel
theorem dX7_solvedBelow_26 : decode cX7_solvedBelow 26 = .ok (.iload_n 3, 1) := by decide +kernel
theorem dX7_solvedBelow_27 : decode cX7_solvedBelow 27 = .ok (.iaload, 1) := by decide +kernel
theorem dX7_solvedBelow_28 : decode cX7_solvedBelow 28 = .ok (.iload_n 1, 1) := by decide +kernel
theorem dX7_solvedBelow_29 : decode cX7_solvedBelow 29 = .ok (.if_icmp .ge 6, 3) := by decide +kernel
theorem dX7_solvedBelow_32 : decode cX7_solvedBelow 32 = .ok (.iinc 2 1, 3) := by decide +kernel
theorem dX7_solvedBelow_35 : decode cX7_solvedBelow 35 = .ok (.iinc 3 1, 3) := by decide +kernel
