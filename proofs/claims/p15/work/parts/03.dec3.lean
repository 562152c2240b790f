theorem dX4_checkQuorum_54 : decode cX4_checkQuorum 54 = .ok (.invokevirtual 141, 3) := by decide +kernel
theorem dX4_checkQuorum_57 : decode cX4_checkQuorum 57 = .ok (.return_, 1) := by decide +kernel
theorem dX4_attempt_0 : decode cX4_attempt 0 = .ok (.aload_n 0, 1) := by decide +kernel
theorem dX4_attempt_1 : decode cX4_attempt 1 = .ok (.getfield 36, 3) := by decide +kernel
theorem dX4_attempt_4 : decode cX4_attempt 4 = .ok (.iload_n 1, 1) := by decide +kernel
theorem dX4_attempt_5 : decode cX4_attempt 5 = .ok (.dup2, 1) := by decide +kernel
theorem dX4_attempt_6 : decode cX4_attempt 6 = .ok (.iaload, 1) := by decide +kernel
theorem dX4_attempt_7 : decode cX4_attempt 7 = .ok (.iconst 1, 1) := by decide +kernel
theorem dX4_attempt_8 : decode cX4_attempt 8 = .ok (.iadd, 1) := by decide +kernel
theorem dX4_attempt_9 : decode cX4_attempt 9 = .ok (.iastore, 1) := by decide +kernel
theorem dX4_attempt_10 : decode cX4_attempt 10 = .ok (.aload_n 0, 1) := by decide +kernel
theorem dX4_attempt_11 : decode cX4_attempt 11 = .ok (.getfield 33, 3) := by decide +kernel
theorem dX4_attempt_14 : decode cX4_attempt 14 = .ok (.iload_n 1, 1) := by decide +kernel
theorem dX4_attempt_15 : decode cX4_attempt 15 = .ok (.iconst 3, 1) := by decide +kernel
theorem dX4_attempt_16 : decode cX4_attempt 16 = .ok (.iastore, 1) := by decide +kernel
theorem dX4_attempt_17 : decode cX4_attempt 17 = .ok (.aload_n 0, 1) := by decide +kernel
theorem dX4_attempt_18 : decode cX4_attempt 18 = .ok (.iload_n 1, 1) := by decide +kernel
theorem dX4_attempt_19 : decode cX4_attempt 19 = .ok (.aload_n 0, 1) := by decide +kernel
theorem dX4_attempt_20 : decode cX4_attempt 20 = .ok (.getfield 20, 3) := by decide +kernel
theorem dX4_attempt_23 : decode cX4_attempt 23 = .ok (.iload_n 1, 1) := by decide +kernel
theorem dX4_attempt_24 : decode cX4_attempt 24 = .ok (.iaload, 1) := by decide +kernel
theorem dX4_attempt_25 : decode cX4_attempt 25 = .ok (.iconst 1, 1) := by decide +kernel
theorem dX4_attempt_26 : decode cX4_attempt 26 = .ok (.iadd, 1) := by decide +kernel
theorem dX4_attempt_27 : decode cX4_attempt 27 = .ok (.invokevirtual 127, 3) := by decide +kernel
theorem dX4_attempt_30 : decode cX4_attempt 30 = .ok (.aload_n 0, 1) := by decide +kernel
theorem dX4_attempt_31 : decode cX4_attempt 31 = .ok (.iconst 4, 1) := by decide +kernel
theorem dX4_attempt_32 : decode cX4_attempt 32 = .ok (.iload_n 1, 1) := by decide +kernel
theorem dX4_attempt_33 : decode cX4_attempt 33 = .ok (.aload_n 0, 1) := by decide +kernel
theorem dX4_attempt_34 : decode cX4_attempt 34 = .ok (.getfield 36, 3) := by decide +kernel
theorem dX4_attempt_37 : decode cX4_attempt 37 = .ok (.iload_n 1, 1) := by decide +kernel
theorem dX4_attempt_38 : decode cX4_attempt 38 = .ok (.iaload, 1) := by decide +kernel
theorem dX4_attempt_39 : decode cX4_attempt 39 = .ok (.invokevirtual 120, 3) := by decide +kernel
theorem dX4_attempt_42 : decode cX4_attempt 42 = .ok (.aload_n 0, 1) := by decide +kernel
theorem dX4_attempt_43 : decode cX4_attempt 43 = .ok (.iload_n 1, 1) := by decide +kernel
theorem dX4_attempt_44 : decode cX4_attempt 44 = .ok (.aload_n 0, 1) := by decide +kernel
theorem dX4_attempt_45 : decode cX4_attempt 45 = .ok (.getfield 13, 3) := by decide +kernel
theorem dX4_attempt_48 : decode cX4_attempt 48 = .ok (.invokevirtual 130, 3) := by decide +kernel
theorem dX4_attempt_51 : decode cX4_attempt 51 = .ok (.return_, 1) := by decide +kernel
theorem dX4_begin_0 : decode cX4_begin 0 = .ok (.aload_n 0, 1) := by decide +kernel
theorem dX4_begin_1 : decode cX4_begin 1 = .ok (.iconst 0, 1) := by decide +kernel
theorem dX4_begin_2 : decode cX4_begin 2 = .ok (.putfield 73, 3) := by decide +kernel
theorem dX4_begin_5 : decode cX4_begin 5 = .ok (.aload_n 0, 1) := by decide +kernel
theorem dX4_begin_6 : decode cX4_begin 6 = .ok (.iload_n 1, 1) := by decide +kernel
theorem dX4_begin_7 : decode cX4_begin 7 = .ok (.invokevirtual 93, 3) := by decide +kernel
theorem dX4_begin_10 : decode cX4_begin 10 = .ok (.ifCond .eq 19, 3) := by decide +kernel
theorem dX4_begin_13 : decode cX4_begin 13 = .ok (.aload_n 0, 1) := by decide +kernel
theorem dX4_begin_14 : decode cX4_begin 14 = .ok (.getfield 26, 3) := by decide +kernel
theorem dX4_begin_17 : decode cX4_begin 17 = .ok (.iload_n 1, 1) := by decide +kernel
theorem dX4_begin_18 : decode cX4_begin 18 = .ok (.baload, 1) := by decide +kernel
theorem dX4_begin_19 : decode cX4_begin 19 = .ok (.ifCond .ne 10, 3) := by decide +kernel
theorem dX4_begin_22 : decode cX4_begin 22 = .ok (.aload_n 0, 1) := by decide +kernel
theorem dX4_begin_23 : decode cX4_begin 23 = .ok (.getfield 79, 3) := by decide +kernel
theorem dX4_begin_26 : decode cX4_begin 26 = .ok (.ifCond .eq 5, 3) := by decide +kernel
theorem dX4_begin_29 : decode cX4_begin 29 = .ok (.iconst 0, 1) := by decide +kernel
theorem dX4_begin_30 : decode cX4_begin 30 = .ok (.ireturn, 1) := by decide +kernel
theorem dX4_begin_31 : decode cX4_begin 31 = .ok (.aload_n 0, 1) := by decide +kernel
theorem dX4_begin_32 : decode cX4_begin 32 = .ok (.iconst 1, 1) := by decide +kernel
theorem dX4_begin_33 : decode cX4_begin 33 = .ok (.putfield 79, 3) := by decide +kernel
theorem dX4_begin_36 : decode cX4_begin 36 = .ok (.iconst 0, 1) := by decide +kernel
theorem dX4_begin_37 : decode cX4_begin 37 = .ok (.istore_n 3, 1) := by decide +kernel
theorem dX4_begin_38 : decode cX4_begin 38 = .ok (.iload_n 3, 1) := by decide +kernel
theorem dX4_begin_39 : decode cX4_begin 39 = .ok (.aload_n 0, 1) := by decide +kernel
theorem dX4_begin_40 : decode cX4_begin 40 = .ok (.getfield 76, 3) := by decide +kernel
theorem dX4_begin_43 : decode cX4_begin 43 = .ok (.if_icmp .ge 29, 3) := by decide +kernel
theorem dX4_begin_46 : decode cX4_begin 46 = .ok (.aload_n 0, 1) := by decide +kernel
theorem dX4_begin_47 : decode cX4_begin 47 = .ok (.getfield 30, 3) := by decide +kernel
theorem dX4_begin_50 : decode cX4_begin 50 = .ok (.iload_n 3, 1) := by decide +kernel
theorem dX4_begin_51 : decode cX4_begin 51 = .ok (.iload_n 2, 1) := by decide +kernel
theorem dX4_begin_52 : decode cX4_begin 52 = .ok (.iload_n 3, 1) := by decide +kernel
theorem dX4_begin_53 : decode cX4_begin 53 = .ok (.ishr, 1) := by decide +kernel
theorem dX4_begin_54 : decode cX4_begin 54 = .ok (.iconst 1, 1) := by decide +kernel
theorem dX4_begin_55 : decode cX4_begin 55 = .ok (.iand, 1) := by decide +kernel
theorem dX4_begin_56 : decode cX4_begin 56 = .ok (.iconst 1, 1) := by decide +kernel
theorem dX4_begin_57 : decode cX4_begin 57 = .ok (.if_icmp .ne 7, 3) := by decide +kernel
theorem dX4_begin_60 : decode cX4_begin 60 = .ok (.iconst 1, 1) := by decide +kernel
theorem dX4_begin_61 : decode cX4_begin 61 = .ok (.goto 4, 3) := by decide +kernel
theorem dX4_begin_64 : decode cX4_begin 64 = .ok (.iconst 0, 1) := by decide +kernel
theorem dX4_begin_65 : decode cX4_begin 65 = .ok (.bastore, 1) := by decide +kernel
theorem dX4_begin_66 : decode cX4_begin 66 = .ok (.iinc 3 1, 3) := by decide +kernel
theorem dX4_begin_69 : decode cX4_begin 69 = .ok (.goto (-31), 3) := by decide +kernel
theorem dX4_begin_72 : decode cX4_begin 72 = .ok (.aload_n 0, 1) := by decide +kernel
theorem dX4_begin_73 : decode cX4_begin 73 = .ok (.getfield 30, 3) := by decide +kernel
theorem dX4_begin_76 : decode cX4_begin 76 = .ok (.iload_n 1, 1) := by decide +kernel
theorem dX4_begin_77 : decode cX4_begin 77 = .ok (.baload, 1) := by decide +kernel
theorem dX4_begin_78 : decode cX4_begin 78 = .ok (.ifCond .ne 11, 3) := by decide +kernel
theorem dX4_begin_81 : decode cX4_begin 81 = .ok (.aload_n 0, 1) := by decide +kernel
theorem dX4_begin_82 : decode cX4_begin 82 = .ok (.iload_n 1, 1) := by decide +kernel
theorem dX4_begin_83 : decode cX4_begin 83 = .ok (.iconst 5, 1) := by decide +kernel
theorem dX4_begin_84 : decode cX4_begin 84 = .ok (.invokevirtual 141, 3) := by decide +kernel
theorem dX4_begin_87 : decode cX4_begin 87 = .ok (.iconst 1, 1) := by decide +kernel
theorem dX4_begin_88 : decode cX4_begin 88 = .ok (.ireturn, 1) := by decide +kernel
theorem dX4_begin_89 : decode cX4_begin 89 = .ok (.aload_n 0, 1) := by decide +kernel
theorem dX4_begin_90 : decode cX4_begin 90 = .ok (.iload_n 1, 1) := by decide +kernel
theorem dX4_begin_91 : decode cX4_begin 91 = .ok (.iconst 1, 1) := by decide +kernel
theorem dX4_begin_92 : decode cX4_begin 92 = .ok (.invokevirtual 116, 3) := by decide +kernel
theorem dX4_begin_95 : decode cX4_begin 95 = .ok (.aload_n 0, 1) := by decide +kernel
theorem dX4_begin_96 : decode cX4_begin 96 = .ok (.getfield 33, 3) := by decide +kernel
theorem dX4_begin_99 : decode cX4_begin 99 = .ok (.iload_n 1, 1) := by decide +kernel
theorem dX4_begin_100 : decode cX4_begin 100 = .ok (.iconst 1, 1) := by decide +kernel
theorem dX4_begin_101 : decode cX4_begin 101 = .ok (.iastore, 1) := by decide +kernel
theorem dX4_begin_102 : decode cX4_begin 102 = .ok (.aload_n 0, 1) := by decide +kernel
theorem dX4_begin_103 : decode cX4_begin 103 = .ok (.iload_n 1, 1) := by decide +kernel
theorem dX4_begin_104 : decode cX4_begin 104 = .ok (.iconst 1, 1) := by decide +kernel
theorem dX4_begin_105 : decode cX4_begin 105 = .ok (.invokevirtual 127, 3) := by decide +kernel
theorem dX4_begin_108 : decode cX4_begin 108 = .ok (.aload_n 0, 1) := by decide +kernel
theorem dX4_begin_109 : decode cX4_begin 109 = .ok (.iconst 1, 1) := by decide +kernel
theorem dX4_begin_110 : decode cX4_begin 110 = .ok (.iload_n 1, 1) := by decide +kernel
theorem dX4_begin_111 : decode cX4_begin 111 = .ok (.iconst 0, 1) := by decide +kernel
theorem dX4_begin_112 : decode cX4_begin 112 = .ok (.invokevirtual 120, 3) := by decide +kernel
theorem dX4_begin_115 : decode cX4_begin 115 = .ok (.aload_n 0, 1) := by decide +kernel
theorem dX4_begin_116 : decode cX4_begin 116 = .ok (.iload_n 1, 1) := by decide +kernel
theorem dX4_begin_117 : decode cX4_begin 117 = .ok (.aload_n 0, 1) := by decide +kernel
theorem dX4_begin_118 : decode cX4_begin 118 = .ok (.getfield 13, 3) := by decide +kernel
theorem dX4_begin_121 : decode cX4_begin 121 = .ok (.invokevirtual 130, 3) := by decide +kernel
theorem dX4_begin_124 : decode cX4_begin 124 = .ok (.aload_n 0, 1) := by decide +kernel
theorem dX4_begin_125 : decode cX4_begin 125 = .ok (.iload_n 1, 1) := by decide +kernel
theorem dX4_begin_126 : decode cX4_begin 126 = .ok (.invokevirtual 144, 3) := by decide +kernel
theorem dX4_begin_129 : decode cX4_begin 129 = .ok (.iconst 1, 1) := by decide +kernel
theorem dX4_begin_130 : decode cX4_begin 130 = .ok (.ireturn, 1) := by decide +kernel
theorem dX4_crash_0 : decode cX4_crash 0 = .ok (.aload_n 0, 1) := by decide +kernel
theorem dX4_crash_1 : decode cX4_crash 1 = .ok (.iconst 0, 1) := by decide +kernel
theorem dX4_crash_2 : decode cX4_crash 2 = .ok (.putfield 73, 3) := by decide +kernel
theorem dX4_crash_5 : decode cX4_crash 5 = .ok (.aload_n 0, 1) := by decide +kernel
theorem dX4_crash_6 : decode cX4_crash 6 = .ok (.iload_n 1, 1) := by decide +kernel
theorem dX4_crash_7 : decode cX4_crash 7 = .ok (.invokevirtual 93, 3) := by decide +kernel
theorem dX4_crash_10 : decode cX4_crash 10 = .ok (.ifCond .eq 12, 3) := by decide +kernel
theorem dX4_crash_13 : decode cX4_crash 13 = .ok (.aload_n 0, 1) := by decide +kernel
theorem dX4_crash_14 : decode cX4_crash 14 = .ok (.getfield 26, 3) := by decide +kernel
theorem dX4_crash_17 : decode cX4_crash 17 = .ok (.iload_n 1, 1) := by decide +kernel
theorem dX4_crash_18 : decode cX4_crash 18 = .ok (.baload, 1) := by decide +kernel
theorem dX4_crash_19 : decode cX4_crash 19 = .ok (.ifCond .eq 5, 3) := by decide +kernel
theorem dX4_crash_22 : decode cX4_crash 22 = .ok (.iconst 0, 1) := by decide +kernel
theorem dX4_crash_23 : decode cX4_crash 23 = .ok (.ireturn, 1) := by decide +kernel
theorem dX4_crash_24 : decode cX4_crash 24 = .ok (.aload_n 0, 1) := by decide +kernel
theorem dX4_crash_25 : decode cX4_crash 25 = .ok (.getfield 26, 3) := by decide +kernel
theorem dX4_crash_28 : decode cX4_crash 28 = .ok (.iload_n 1, 1) := by decide +kernel
theorem dX4_crash_29 : decode cX4_crash 29 = .ok (.iconst 1, 1) := by decide +kernel
theorem dX4_crash_30 : decode cX4_crash 30 = .ok (.bastore, 1) := by decide +kernel
theorem dX4_crash_31 : decode cX4_crash 31 = .ok (.aload_n 0, 1) := by decide +kernel
theorem dX4_crash_32 : decode cX4_crash 32 = .ok (.getfield 33, 3) := by decide +kernel
theorem dX4_crash_35 : decode cX4_crash 35 = .ok (.iload_n 1, 1) := by decide +kernel
theorem dX4_crash_36 : decode cX4_crash 36 = .ok (.iconst 0, 1) := by decide +kernel
theorem dX4_crash_37 : decode cX4_crash 37 = .ok (.iastore, 1) := by decide +kernel
theorem dX4_crash_38 : decode cX4_crash 38 = .ok (.aload_n 0, 1) := by decide +kernel
theorem dX4_crash_39 : decode cX4_crash 39 = .ok (.getfield 42, 3) := by decide +kernel
theorem dX4_crash_42 : decode cX4_crash 42 = .ok (.iload_n 1, 1) := by decide +kernel
theorem dX4_crash_43 : decode cX4_crash 43 = .ok (.iconst (-1), 1) := by decide +kernel
theorem dX4_crash_44 : decode cX4_crash 44 = .ok (.iastore, 1) := by decide +kernel
theorem dX4_crash_45 : decode cX4_crash 45 = .ok (.iconst 1, 1) := by decide +kernel
theorem dX4_crash_46 : decode cX4_crash 46 = .ok (.ireturn, 1) := by decide +kernel
theorem dX4_recover_0 : decode cX4_recover 0 = .ok (.aload_n 0, 1) := by decide +kernel
theorem dX4_recover_1 : decode cX4_recover 1 = .ok (.iconst 0, 1) := by decide +kernel
theorem dX4_recover_2 : decode cX4_recover 2 = .ok (.putfield 73, 3) := by decide +kernel
theorem dX4_recover_5 : decode cX4_recover 5 = .ok (.aload_n 0, 1) := by decide +kernel
theorem dX4_recover_6 : decode cX4_recover 6 = .ok (.iload_n 1, 1) := by decide +kernel
theorem dX4_recover_7 : decode cX4_recover 7 = .ok (.invokevirtual 93, 3) := by decide +kernel
theorem dX4_recover_10 : decode cX4_recover 10 = .ok (.ifCond .eq 12, 3) := by decide +kernel
theorem dX4_recover_13 : decode cX4_recover 13 = .ok (.aload_n 0, 1) := by decide +kernel
theorem dX4_recover_14 : decode cX4_recover 14 = .ok (.getfield 26, 3) := by decide +kernel
theorem dX4_recover_17 : decode cX4_recover 17 = .ok (.iload_n 1, 1) := by decide +kernel
theorem dX4_recover_18 : decode cX4_recover 18 = .ok (.baload, 1) := by decide +kernel
theorem dX4_recover_19 : decode cX4_recover 19 = .ok (.ifCond .ne 5, 3) := by decide +kernel
theorem dX4_recover_22 : decode cX4_recover 22 = .ok (.iconst 0, 1) := by decide +kernel
theorem dX4_recover_23 : decode cX4_recover 23 = .ok (.ireturn, 1) := by decide +kernel
theorem dX4_recover_24 : decode cX4_recover 24 = .ok (.aload_n 0, 1) := by decide +kernel
theorem dX4_recover_25 : decode cX4_recover 25 = .ok (.getfield 26, 3) := by decide +kernel
theorem dX4_recover_28 : decode cX4_recover 28 = .ok (.iload_n 1, 1) := by decide +kernel
theorem dX4_recover_29 : decode cX4_recover 29 = .ok (.iconst 0, 1) := by decide +kernel
theorem dX4_recover_30 : decode cX4_recover 30 = .ok (.bastore, 1) := by decide +kernel
theorem dX4_recover_31 : decode cX4_recover 31 = .ok (.aload_n 0, 1) := by decide +kernel
theorem dX4_recover_32 : decode cX4_recover 32 = .ok (.getfield 79, 3) := by decide +kernel
theorem dX4_recover_35 : decode cX4_recover 35 = .ok (.ifCond .eq 21, 3) := by decide +kernel
theorem dX4_recover_38 : decode cX4_recover 38 = .ok (.aload_n 0, 1) := by decide +kernel
theorem dX4_recover_39 : decode cX4_recover 39 = .ok (.getfield 20, 3) := by decide +kernel
theorem dX4_recover_42 : decode cX4_recover 42 = .ok (.iload_n 1, 1) := by decide +kernel
theorem dX4_recover_43 : decode cX4_recover 43 = .ok (.iaload, 1) := by decide +kernel
theorem dX4_recover_44 : decode cX4_recover 44 = .ok (.ifCond .ne 12, 3) := by decide +kernel
theorem dX4_recover_47 : decode cX4_recover 47 = .ok (.aload_n 0, 1) := by decide +kernel
theorem dX4_recover_48 : decode cX4_recover 48 = .ok (.iload_n 1, 1) := by decide +kernel
theorem dX4_recover_49 : decode cX4_recover 49 = .ok (.iconst 5, 1) := by decide +kernel
theorem dX4_recover_50 : decode cX4_recover 50 = .ok (.invokevirtual 116, 3) := by decide +kernel
theorem dX4_recover_53 : decode cX4_recover 53 = .ok (.goto 23, 3) := by decide +kernel
theorem dX4_recover_56 : decode cX4_recover 56 = .ok (.aload_n 0, 1) := by decide +kernel
theorem dX4_recover_57 : decode cX4_recover 57 = .ok (.getfield 79, 3) := by decide +kernel
theorem dX4_recover_60 : decode cX4_recover 60 = .ok (.ifCond .eq 16, 3) := by decide +kernel
theorem dX4_recover_63 : decode cX4_recover 63 = .ok (.aload_n 0, 1) := by decide +kernel
theorem dX4_recover_64 : decode cX4_recover 64 = .ok (.iload_n 1, 1) := by decide +kernel
theorem dX4_recover_65 : decode cX4_recover 65 = .ok (.invokevirtual 147, 3) := by decide +kernel
theorem dX4_recover_68 : decode cX4_recover 68 = .ok (.ifCond .ne 8, 3) := by decide +kernel
theorem dX4_recover_71 : decode cX4_recover 71 = .ok (.aload_n 0, 1) := by decide +kernel
theorem dX4_recover_72 : decode cX4_recover 72 = .ok (.iload_n 1, 1) := by decide +kernel
theorem dX4_recover_73 : decode cX4_recover 73 = .ok (.invokevirtual 150, 3) := by decide +kernel
theorem dX4_recover_76 : decode cX4_recover 76 = .ok (.iconst 1, 1) := by decide +kernel
theorem dX4_recover_77 : decode cX4_recover 77 = .ok (.ireturn, 1) := by decide +kernel
theorem dX4_yieldTo_0 : decode cX4_yieldTo 0 = .ok (.aload_n 0, 1) := by decide +kernel
theorem dX4_yieldTo_1 : decode cX4_yieldTo 1 = .ok (.iload_n 1, 1) := by decide +kernel
theorem dX4_yieldTo_2 : decode cX4_yieldTo 2 = .ok (.invokevirtual 147, 3) := by decide +kernel
theorem dX4_yieldTo_5 : decode cX4_yieldTo 5 = .ok (.ifCond .ne 28, 3) := by decide +kernel
theorem dX4_yieldTo_8 : decode cX4_yieldTo 8 = .ok (.aload_n 0, 1) := by decide +kernel
theorem dX4_yieldTo_9 : decode cX4_yieldTo 9 = .ok (.getfield 33, 3) := by decide +kernel
theorem dX4_yieldTo_12 : decode cX4_yieldTo 12 = .ok (.iload_n 1, 1) := by decide +kernel
theorem dX4_yieldTo_13 : decode cX4_yieldTo 13 = .ok (.iaload, 1) := by decide +kernel
theorem dX4_yieldTo_14 : decode cX4_yieldTo 14 = .ok (.iconst 1, 1) := by decide +kernel
theorem dX4_yieldTo_15 : decode cX4_yieldTo 15 = .ok (.if_icmp .eq 18, 3) := by decide +kernel
theorem dX4_yieldTo_18 : decode cX4_yieldTo 18 = .ok (.aload_n 0, 1) := by decide +kernel
theorem dX4_yieldTo_19 : decode cX4_yieldTo 19 = .ok (.getfield 33, 3) := by decide +kernel
theorem dX4_yieldTo_22 : decode cX4_yieldTo 22 = .ok (.iload_n 1, 1) := by decide +kernel
theorem dX4_yieldTo_23 : decode cX4_yieldTo 23 = .ok (.iaload, 1) := by decide +kernel
theorem dX4_yieldTo_24 : decode cX4_yieldTo 24 = .ok (.iconst 2, 1) := by decide +kernel
theorem dX4_yieldTo_25 : decode cX4_yieldTo 25 = .ok (.if_icmp .lt 12, 3) := by decide +kernel
theorem dX4_yieldTo_28 : decode cX4_yieldTo 28 = .ok (.iload_n 2, 1) := by decide +kernel
theorem dX4_yieldTo_29 : decode cX4_yieldTo 29 = .ok (.iload_n 1, 1) := by decide +kernel
theorem dX4_yieldTo_30 : decode cX4_yieldTo 30 = .ok (.if_icmp .le 7, 3) := by decide +kernel
theorem dX4_yieldTo_33 : decode cX4_yieldTo 33 = .ok (.iconst 1, 1) := by decide +kernel
theorem dX4_yieldTo_34 : decode cX4_yieldTo 34 = .ok (.goto 4, 3) := by decide +kernel
theorem dX4_yieldTo_37 : decode cX4_yieldTo 37 = .ok (.iconst 0, 1) := by decide +kernel
theorem dX4_yieldTo_38 : decode cX4_yieldTo 38 = .ok (.istore_n 3, 1) := by decide +kernel
theorem dX4_yieldTo_39 : decode cX4_yieldTo 39 = .ok (.iload_n 3, 1) := by decide +kernel
theorem dX4_yieldTo_40 : decode cX4_yieldTo 40 = .ok (.ifCond .ne 21, 3) := by decide +kernel
theorem dX4_yieldTo_43 : decode cX4_yieldTo 43 = .ok (.aload_n 0, 1) := by decide +kernel
theorem dX4_yieldTo_44 : decode cX4_yieldTo 44 = .ok (.getfield 33, 3) := by decide +kernel
theorem dX4_yieldTo_47 : decode cX4_yieldTo 47 = .ok (.iload_n 1, 1) := by decide +kernel
theorem dX4_yieldTo_48 : decode cX4_yieldTo 48 = .ok (.iconst 0, 1) := by decide +kernel
theorem dX4_yieldTo_49 : decode cX4_yieldTo 49 = .ok (.iastore, 1) := by decide +kernel
theorem dX4_yieldTo_50 : decode cX4_yieldTo 50 = .ok (.aload_n 0, 1) := by decide +kernel
theorem dX4_yieldTo_51 : decode cX4_yieldTo 51 = .ok (.iload_n 1, 1) := by decide +kernel
theorem dX4_yieldTo_52 : decode cX4_yieldTo 52 = .ok (.aload_n 0, 1) := by decide +kernel
theorem dX4_yieldTo_53 : decode cX4_yieldTo 53 = .ok (.getfield 13, 3) := by decide +kernel
theorem dX4_yieldTo_56 : decode cX4_yieldTo 56 = .ok (.iload_n 1, 1) := by decide +kernel
theorem dX4_yieldTo_57 : decode cX4_yieldTo 57 = .ok (.iadd, 1) := by decide +kernel
theorem dX4_yieldTo_58 : decode cX4_yieldTo 58 = .ok (.invokevirtual 130, 3) := by decide +kernel
theorem dX4_yieldTo_61 : decode cX4_yieldTo 61 = .ok (.return_, 1) := by decide +kernel
theorem dX4_handle_0 : decode cX4_handle 0 = .ok (.iload_n 2, 1) := by decide +kernel
theorem dX4_handle_1 : decode cX4_handle 1 = .ok (.iconst 1, 1) := by decide +kernel
theorem dX4_handle_2 : decode cX4_handle 2 = .ok (.if_icmp .ne 76, 3) := by decide +kernel
theorem dX4_handle_5 : decode cX4_handle 5 = .ok (.aload_n 0, 1) := by decide +kernel
theorem dX4_handle_6 : decode cX4_handle 6 = .ok (.getfield 20, 3) := by decide +kernel
theorem dX4_handle_9 : decode cX4_handle 9 = .ok (.iload_n 1, 1) := by decide +kernel
theorem dX4_handle_10 : decode cX4_handle 10 = .ok (.iaload, 1) := by decide +kernel
theorem dX4_handle_11 : decode cX4_handle 11 = .ok (.ifCond .ne 357, 3) := by decide +kernel
theorem dX4_handle_14 : decode cX4_handle 14 = .ok (.aload_n 0, 1) := by decide +kernel
theorem dX4_handle_15 : decode cX4_handle 15 = .ok (.iload_n 1, 1) := by decide +kernel
theorem dX4_handle_16 : decode cX4_handle 16 = .ok (.aload_n 0, 1) := by decide +kernel
theorem dX4_handle_17 : decode cX4_handle 17 = .ok (.getfield 30, 3) := by decide +kernel
theorem dX4_handle_20 : decode cX4_handle 20 = .ok (.iload_n 1, 1) := by decide +kernel
theorem dX4_handle_21 : decode cX4_handle 21 = .ok (.baload, 1) := by decide +kernel
theorem dX4_handle_22 : decode cX4_handle 22 = .ok (.ifCond .eq 7, 3) := by decide +kernel
theorem dX4_handle_25 : decode cX4_handle 25 = .ok (.iconst 1, 1) := by decide +kernel
theorem dX4_handle_26 : decode cX4_handle 26 = .ok (.goto 4, 3) := by decide +kernel
theorem dX4_handle_29 : decode cX4_handle 29 = .ok (.iconst 5, 1) := by decide +kernel
theorem dX4_handle_30 : decode cX4_handle 30 = .ok (.invokevirtual 116, 3) := by decide +kernel
theorem dX4_handle_33 : decode cX4_handle 33 = .ok (.aload_n 0, 1) := by decide +kernel
theorem dX4_handle_34 : decode cX4_handle 34 = .ok (.aload_n 0, 1) := by decide +kernel
theorem dX4_handle_35 : decode cX4_handle 35 = .ok (.getfield 30, 3) := by decide +kernel
theorem dX4_handle_38 : decode cX4_handle 38 = .ok (.iload_n 1, 1) := by decide +kernel
theorem dX4_handle_39 : decode cX4_handle 39 = .ok (.baload, 1) := by decide +kernel
theorem dX4_handle_40 : decode cX4_handle 40 = .ok (.ifCond .eq 7, 3) := by decide +kernel
theorem dX4_handle_43 : decode cX4_handle 43 = .ok (.iconst 2, 1) := by decide +kernel
theorem dX4_handle_44 : decode cX4_handle 44 = .ok (.goto 4, 3) := by decide +kernel
theorem dX4_handle_47 : decode cX4_handle 47 = .ok (.iconst 3, 1) := by decide +kernel
theorem dX4_handle_48 : decode cX4_handle 48 = .ok (.iload_n 1, 1) := by decide +kernel
theorem dX4_handle_49 : decode cX4_handle 49 = .ok (.iload_n 3, 1) := by decide +kernel
theorem dX4_handle_50 : decode cX4_handle 50 = .ok (.iconst 0, 1) := by decide +kernel
theorem dX4_handle_51 : decode cX4_handle 51 = .ok (.iconst 0, 1) := by decide +kernel
theorem dX4_handle_52 : decode cX4_handle 52 = .ok (.invokevirtual 112, 3) := by decide +kernel
theorem dX4_handle_55 : decode cX4_handle 55 = .ok (.aload_n 0, 1) := by decide +kernel
theorem dX4_handle_56 : decode cX4_handle 56 = .ok (.getfield 30, 3) := by decide +kernel
theorem dX4_handle_59 : decode cX4_handle 59 = .ok (.iload_n 1, 1) := by decide +kernel
theorem dX4_handle_60 : decode cX4_handle 60 = .ok (.baload, 1) := by decide +kernel
theorem dX4_handle_61 : decode cX4_handle 61 = .ok (.ifCond .eq 307, 3) := by decide +kernel
theorem dX4_handle_64 : decode cX4_handle 64 = .ok (.aload_n 0, 1) := by decide +kernel
theorem dX4_handle_65 : decode cX4_handle 65 = .ok (.iload_n 1, 1) := by decide +kernel
theorem dX4_handle_66 : decode cX4_handle 66 = .ok (.aload_n 0, 1) := by decide +kernel
theorem dX4_handle_67 : decode cX4_handle 67 = .ok (.getfield 13, 3) := by decide +kernel
theorem dX4_handle_70 : decode cX4_handle 70 = .ok (.iload_n 1, 1) := by decide +kernel
theorem dX4_handle_71 : decode cX4_handle 71 = .ok (.iadd, 1) := by decide +kernel
theorem dX4_handle_72 : decode cX4_handle 72 = .ok (.invokevirtual 130, 3) := by decide +kernel
theorem dX4_handle_75 : decode cX4_handle 75 = .ok (.goto 293, 3) := by decide +kernel
theorem dX4_handle_78 : decode cX4_handle 78 = .ok (.iload_n 2, 1) := by decide +kernel
theorem dX4_handle_79 : decode cX4_handle 79 = .ok (.iconst 2, 1) := by decide +kernel
theorem dX4_handle_80 : decode cX4_handle 80 = .ok (.if_icmp .ne 33, 3) := by decide +kernel
theorem dX4_handle_83 : decode cX4_handle 83 = .ok (.aload_n 0, 1) := by decide +kernel
theorem dX4_handle_84 : decode cX4_handle 84 = .ok (.getfield 33, 3) := by decide +kernel
theorem dX4_handle_87 : decode cX4_handle 87 = .ok (.iload_n 1, 1) := by decide +kernel
theorem dX4_handle_88 : decode cX4_handle 88 = .ok (.iaload, 1) := by decide +kernel
theorem dX4_handle_89 : decode cX4_handle 89 = .ok (.iconst 1, 1) := by decide +kernel
theorem dX4_handle_90 : decode cX4_handle 90 = .ok (.if_icmp .ne 23, 3) := by decide +kernel
theorem dX4_handle_93 : decode cX4_handle 93 = .ok (.aload_n 0, 1) := by decide +kernel
theorem dX4_handle_94 : decode cX4_handle 94 = .ok (.getfield 39, 3) := by decide +kernel
theorem dX4_handle_97 : decode cX4_handle 97 = .ok (.bipush 8, 2) := by decide +kernel
theorem dX4_handle_99 : decode cX4_handle 99 = .ok (.iload_n 1, 1) := by decide +kernel
theorem dX4_handle_100 : decode cX4_handle 100 = .ok (.imul, 1) := by decide +kernel
theorem dX4_handle_101 : decode cX4_handle 101 = .ok (.iload_n 3, 1) := by decide +kernel
theorem dX4_handle_102 : decode cX4_handle 102 = .ok (.iadd, 1) := by decide +kernel
theorem dX4_handle_103 : decode cX4_handle 103 = .ok (.iconst 1, 1) := by decide +kernel
theorem dX4_handle_104 : decode cX4_handle 104 = .ok (.iastore, 1) := by decide +kernel
theorem dX4_handle_105 : decode cX4_handle 105 = .ok (.aload_n 0, 1) := by decide +kernel
theorem dX4_handle_106 : decode cX4_handle 106 = .ok (.iload_n 1, 1) := by decide +kernel
theorem dX4_handle_107 : decode cX4_handle 107 = .ok (.invokevirtual 144, 3) := by decide +kernel
theorem dX4_handle_110 : decode cX4_handle 110 = .ok (.goto 258, 3) := by decide +kernel
theorem dX4_handle_113 : decode cX4_handle 113 = .ok (.iload_n 2, 1) := by decide +kernel
theorem dX4_handle_114 : decode cX4_handle 114 = .ok (.iconst 3, 1) := by decide +kernel
theorem dX4_handle_115 : decode cX4_handle 115 = .ok (.if_icmp .ne 22, 3) := by decide +kernel
theorem dX4_handle_118 : decode cX4_handle 118 = .ok (.aload_n 0, 1) := by decide +kernel
theorem dX4_handle_119 : decode cX4_handle 119 = .ok (.getfield 33, 3) := by decide +kernel
theorem dX4_handle_122 : decode cX4_handle 122 = .ok (.iload_n 1, 1) := by decide +kernel
theorem dX4_handle_123 : decode cX4_handle 123 = .ok (.iaload, 1) := by decide +kernel
theorem dX4_handle_124 : decode cX4_handle 124 = .ok (.iconst 1, 1) := by decide +kernel
theorem dX4_handle_125 : decode cX4_handle 125 = .ok (.if_icmp .ne 12, 3) := by decide +kernel
theorem dX4_handle_128 : decode cX4_handle 128 = .ok (.aload_n 0, 1) := by decide +kernel
theorem dX4_handle_129 : decode cX4_handle 129 = .ok (.iload_n 1, 1) := by decide +kernel
theorem dX4_handle_130 : decode cX4_handle 130 = .ok (.iconst 5, 1) := by decide +kernel
theorem dX4_handle_131 : decode cX4_handle 131 = .ok (.invokevirtual 141, 3) := by decide +kernel
theorem dX4_handle_134 : decode cX4_handle 134 = .ok (.goto 234, 3) := by decide +kernel
theorem dX4_handle_137 : decode cX4_handle 137 = .ok (.iload_n 2, 1) := by decide +kernel
theorem dX4_handle_138 : decode cX4_handle 138 = .ok (.iconst 4, 1) := by decide +kernel
theorem dX4_handle_139 : decode cX4_handle 139 = .ok (.if_icmp .ne 42, 3) := by decide +kernel
theorem dX4_handle_142 : decode cX4_handle 142 = .ok (.aload_n 0, 1) := by decide +kernel
theorem dX4_handle_143 : decode cX4_handle 143 = .ok (.getfield 20, 3) := by decide +kernel
theorem dX4_handle_146 : decode cX4_handle 146 = .ok (.iload_n 1, 1) := by decide +kernel
theorem dX4_handle_147 : decode cX4_handle 147 = .ok (.iaload, 1) := by decide +kernel
theorem dX4_handle_148 : decode cX4_handle 148 = .ok (.ifCond .ne 9, 3) := by decide +kernel
theorem dX4_handle_151 : decode cX4_handle 151 = .ok (.aload_n 0, 1) := by decide +kernel
theorem dX4_handle_152 : decode cX4_handle 152 = .ok (.iload_n 1, 1) := by decide +kernel
theorem dX4_handle_153 : decode cX4_handle 153 = .ok (.iconst 5, 1) := by decide +kernel
theorem dX4_handle_154 : decode cX4_handle 154 = .ok (.invokevirtual 116, 3) := by decide +kernel
theorem dX4_handle_157 : decode cX4_handle 157 = .ok (.aload_n 0, 1) := by decide +kernel
theorem dX4_handle_158 : decode cX4_handle 158 = .ok (.iload_n 1, 1) := by decide +kernel
theorem dX4_handle_159 : decode cX4_handle 159 = .ok (.iload_n 3, 1) := by decide +kernel
theorem dX4_handle_160 : decode cX4_handle 160 = .ok (.invokevirtual 153, 3) := by decide +kernel
theorem dX4_handle_163 : decode cX4_handle 163 = .ok (.aload_n 0, 1) := by decide +kernel
theorem dX4_handle_164 : decode cX4_handle 164 = .ok (.iconst 5, 1) := by decide +kernel
theorem dX4_handle_165 : decode cX4_handle 165 = .ok (.iload_n 1, 1) := by decide +kernel
theorem dX4_handle_166 : decode cX4_handle 166 = .ok (.iload_n 3, 1) := by decide +kernel
theorem dX4_handle_167 : decode cX4_handle 167 = .ok (.iload 4, 2) := by decide +kernel
theorem dX4_handle_169 : decode cX4_handle 169 = .ok (.aload_n 0, 1) := by decide +kernel
theorem dX4_handle_170 : decode cX4_handle 170 = .ok (.getfield 20, 3) := by decide +kernel
theorem dX4_handle_173 : decode cX4_handle 173 = .ok (.iload_n 1, 1) := by decide +kernel
theorem dX4_handle_174 : decode cX4_handle 174 = .ok (.iaload, 1) := by decide +kernel
theorem dX4_handle_175 : decode cX4_handle 175 = .ok (.invokevirtual 112, 3) := by decide +kernel
theorem dX4_handle_178 : decode cX4_handle 178 = .ok (.goto 190, 3) := by decide +kernel
theorem dX4_handle_181 : decode cX4_handle 181 = .ok (.iload_n 2, 1) := by decide +kernel
theorem dX4_handle_182 : decode cX4_handle 182 = .ok (.iconst 5, 1) := by decide +kernel
theorem dX4_handle_183 : decode cX4_handle 183 = .ok (.if_icmp .ne 58, 3) := by decide +kernel
theorem dX4_handle_186 : decode cX4_handle 186 = .ok (.aload_n 0, 1) := by decide +kernel
theorem dX4_handle_187 : decode cX4_handle 187 = .ok (.getfield 33, 3) := by decide +kernel
theorem dX4_handle_190 : decode cX4_handle 190 = .ok (.iload_n 1, 1) := by decide +kernel
theorem dX4_handle_191 : decode cX4_handle 191 = .ok (.iaload, 1) := by decide +kernel
theorem dX4_handle_192 : decode cX4_handle 192 = .ok (.iconst 3, 1) := by decide +kernel
theorem dX4_handle_193 : decode cX4_handle 193 = .ok (.if_icmp .ne 48, 3) := by decide +kernel
theorem dX4_handle_196 : decode cX4_handle 196 = .ok (.iload 4, 2) := by decide +kernel
theorem dX4_handle_198 : decode cX4_handle 198 = .ok (.aload_n 0, 1) := by decide +kernel
theorem dX4_handle_199 : decode cX4_handle 199 = .ok (.getfield 36, 3) := by decide +kernel
theorem dX4_handle_202 : decode cX4_handle 202 = .ok (.iload_n 1, 1) := by decide +kernel
theorem dX4_handle_203 : decode cX4_handle 203 = .ok (.iaload, 1) := by decide +kernel
theorem dX4_handle_204 : decode cX4_handle 204 = .ok (.if_icmp .ne 37, 3) := by decide +kernel
theorem dX4_handle_207 : decode cX4_handle 207 = .ok (.iload 5, 2) := by decide +kernel
theorem dX4_handle_209 : decode cX4_handle 209 = .ok (.iconst 4, 1) := by decide +kernel
theorem dX4_handle_210 : decode cX4_handle 210 = .ok (.if_icmp .lt 13, 3) := by decide +kernel
theorem dX4_handle_213 : decode cX4_handle 213 = .ok (.aload_n 0, 1) := by decide +kernel
theorem dX4_handle_214 : decode cX4_handle 214 = .ok (.iload_n 1, 1) := by decide +kernel
theorem dX4_handle_215 : decode cX4_handle 215 = .ok (.iload 5, 2) := by decide +kernel
theorem dX4_handle_217 : decode cX4_handle 217 = .ok (.invokevirtual 141, 3) := by decide +kernel
theorem dX4_handle_220 : decode cX4_handle 220 = .ok (.goto 148, 3) := by decide +kernel
theorem dX4_handle_223 : decode cX4_handle 223 = .ok (.aload_n 0, 1) := by decide +kernel
theorem dX4_handle_224 : decode cX4_handle 224 = .ok (.getfield 39, 3) := by decide +kernel
theorem dX4_handle_227 : decode cX4_handle 227 = .ok (.bipush 8, 2) := by decide +kernel
theorem dX4_handle_229 : decode cX4_handle 229 = .ok (.iload_n 1, 1) := by decide +kernel
theorem dX4_handle_230 : decode cX4_handle 230 = .ok (.imul, 1) := by decide +kernel
theorem dX4_handle_231 : decode cX4_handle 231 = .ok (.iload_n 3, 1) := by decide +kernel
theorem dX4_handle_232 : decode cX4_handle 232 = .ok (.iadd, 1) := by decide +kernel
theorem dX4_handle_233 : decode cX4_handle 233 = .ok (.iload 5, 2) := by decide +kernel
theorem dX4_handle_235 : decode cX4_handle 235 = .ok (.iconst 1, 1) := by decide +kernel
theorem dX4_handle_236 : decode cX4_handle 236 = .ok (.iadd, 1) := by decide +kernel
theorem dX4_handle_237 : decode cX4_handle 237 = .ok (.iastore, 1) := by decide +kernel
theorem dX4_handle_238 : decode cX4_handle 238 = .ok (.goto 130, 3) := by decide +kernel
theorem dX4_handle_241 : decode cX4_handle 241 = .ok (.iload_n 2, 1) := by decide +kernel
theorem dX4_handle_242 : decode cX4_handle 242 = .ok (.bipush 6, 2) := by decide +kernel
theorem dX4_handle_244 : decode cX4_handle 244 = .ok (.if_icmp .eq 9, 3) := by decide +kernel
theorem dX4_handle_247 : decode cX4_handle 247 = .ok (.iload_n 2, 1) := by decide +kernel
theorem dX4_handle_248 : decode cX4_handle 248 = .ok (.bipush 7, 2) := by decide +kernel
theorem dX4_handle_250 : decode cX4_handle 250 = .ok (.if_icmp .ne 25, 3) := by decide +kernel
theorem dX4_handle_253 : decode cX4_handle 253 = .ok (.aload_n 0, 1) := by decide +kernel
theorem dX4_handle_254 : decode cX4_handle 254 = .ok (.iload_n 1, 1) := by decide +kernel
theorem dX4_handle_255 : decode cX4_handle 255 = .ok (.iload_n 3, 1) := by decide +kernel
theorem dX4_handle_256 : decode cX4_handle 256 = .ok (.iload 4, 2) := by decide +kernel
theorem dX4_handle_258 : decode cX4_handle 258 = .ok (.iload_n 2, 1) := by decide +kernel
theorem dX4_handle_259 : decode cX4_handle 259 = .ok (.bipush 6, 2) := by decide +kernel
theorem dX4_handle_261 : decode cX4_handle 261 = .ok (.if_icmp .ne 7, 3) := by decide +kernel
theorem dX4_handle_264 : decode cX4_handle 264 = .ok (.iconst 2, 1) := by decide +kernel
theorem dX4_handle_265 : decode cX4_handle 265 = .ok (.goto 4, 3) := by decide +kernel
theorem dX4_handle_268 : decode cX4_handle 268 = .ok (.iconst 3, 1) := by decide +kernel
theorem dX4_handle_269 : decode cX4_handle 269 = .ok (.invokevirtual 156, 3) := by decide +kernel
theorem dX4_handle_272 : decode cX4_handle 272 = .ok (.goto 96, 3) := by decide +kernel
theorem dX4_handle_275 : decode cX4_handle 275 = .ok (.iload_n 2, 1) := by decide +kernel
theorem dX4_handle_276 : decode cX4_handle 276 = .ok (.bipush 8, 2) := by decide +kernel
theorem dX4_handle_278 : decode cX4_handle 278 = .ok (.if_icmp .ne 54, 3) := by decide +kernel
theorem dX4_handle_281 : decode cX4_handle 281 = .ok (.aload_n 0, 1) := by decide +kernel
theorem dX4_handle_282 : decode cX4_handle 282 = .ok (.getfield 33, 3) := by decide +kernel
theorem dX4_handle_285 : decode cX4_handle 285 = .ok (.iload_n 1, 1) := by decide +kernel
theorem dX4_handle_286 : decode cX4_handle 286 = .ok (.iaload, 1) := by decide +kernel
theorem dX4_handle_287 : decode cX4_handle 287 = .ok (.iconst 2, 1) := by decide +kernel
theorem dX4_handle_288 : decode cX4_handle 288 = .ok (.if_icmp .eq 13, 3) := by decide +kernel
theorem dX4_handle_291 : decode cX4_handle 291 = .ok (.aload_n 0, 1) := by decide +kernel
theorem dX4_handle_292 : decode cX4_handle 292 = .ok (.getfield 33, 3) := by decide +kernel
theorem dX4_handle_295 : decode cX4_handle 295 = .ok (.iload_n 1, 1) := by decide +kernel
theorem dX4_handle_296 : decode cX4_handle 296 = .ok (.iaload, 1) := by decide +kernel
theorem dX4_handle_297 : decode cX4_handle 297 = .ok (.iconst 4, 1) := by decide +kernel
theorem dX4_handle_298 : decode cX4_handle 298 = .ok (.if_icmp .ne 34, 3) := by decide +kernel
theorem dX4_handle_301 : decode cX4_handle 301 = .ok (.iload 4, 2) := by decide +kernel
theorem dX4_handle_303 : decode cX4_handle 303 = .ok (.aload_n 0, 1) := by decide +kernel
theorem dX4_handle_304 : decode cX4_handle 304 = .ok (.getfield 36, 3) := by decide +kernel
theorem dX4_handle_307 : decode cX4_handle 307 = .ok (.iload_n 1, 1) := by decide +kernel
theorem dX4_handle_308 : decode cX4_handle 308 = .ok (.iaload, 1) := by decide +kernel
theorem dX4_handle_309 : decode cX4_handle 309 = .ok (.if_icmp .ne 23, 3) := by decide +kernel
theorem dX4_handle_312 : decode cX4_handle 312 = .ok (.aload_n 0, 1) := by decide +kernel
theorem dX4_handle_313 : decode cX4_handle 313 = .ok (.getfield 39, 3) := by decide +kernel
theorem dX4_handle_316 : decode cX4_handle 316 = .ok (.bipush 8, 2) := by decide +kernel
theorem dX4_handle_318 : decode cX4_handle 318 = .ok (.iload_n 1, 1) := by decide +kernel
theorem dX4_handle_319 : decode cX4_handle 319 = .ok (.imul, 1) := by decide +kernel
theorem dX4_handle_320 : decode cX4_handle 320 = .ok (.iload_n 3, 1) := by decide +kernel
theorem dX4_handle_321 : decode cX4_handle 321 = .ok (.iadd, 1) := by decide +kernel
theorem dX4_handle_322 : decode cX4_handle 322 = .ok (.iconst 1, 1) := by decide +kernel
theorem dX4_handle_323 : decode cX4_handle 323 = .ok (.iastore, 1) := by decide +kernel
theorem dX4_handle_324 : decode cX4_handle 324 = .ok (.aload_n 0, 1) := by decide +kernel
theorem dX4_handle_325 : decode cX4_handle 325 = .ok (.iload_n 1, 1) := by decide +kernel
theorem dX4_handle_326 : decode cX4_handle 326 = .ok (.invokevirtual 133, 3) := by decide +kernel
theorem dX4_handle_329 : decode cX4_handle 329 = .ok (.goto 39, 3) := by decide +kernel
theorem dX4_handle_332 : decode cX4_handle 332 = .ok (.iload_n 2, 1) := by decide +kernel
theorem dX4_handle_333 : decode cX4_handle 333 = .ok (.bipush 9, 2) := by decide +kernel
theorem dX4_handle_335 : decode cX4_handle 335 = .ok (.if_icmp .eq 9, 3) := by decide +kernel
theorem dX4_handle_338 : decode cX4_handle 338 = .ok (.iload_n 2, 1) := by decide +kernel
theorem dX4_handle_339 : decode cX4_handle 339 = .ok (.bipush 10, 2) := by decide +kernel
theorem dX4_handle_341 : decode cX4_handle 341 = .ok (.if_icmp .ne 27, 3) := by decide +kernel
theorem dX4_handle_344 : decode cX4_handle 344 = .ok (.aload_n 0, 1) := by decide +kernel
theorem dX4_handle_345 : decode cX4_handle 345 = .ok (.iload_n 1, 1) := by decide +kernel
theorem dX4_handle_346 : decode cX4_handle 346 = .ok (.invokevirtual 147, 3) := by decide +kernel
theorem dX4_handle_349 : decode cX4_handle 349 = .ok (.ifCond .ne 19, 3) := by decide +kernel
theorem dX4_handle_352 : decode cX4_handle 352 = .ok (.aload_n 0, 1) := by decide +kernel
theorem dX4_handle_353 : decode cX4_handle 353 = .ok (.iload_n 1, 1) := by decide +kernel
theorem dX4_handle_354 : decode cX4_handle 354 = .ok (.iload_n 2, 1) := by decide +kernel
theorem dX4_handle_355 : decode cX4_handle 355 = .ok (.bipush 9, 2) := by decide +kernel
theorem dX4_handle_357 : decode cX4_handle 357 = .ok (.if_icmp .ne 7, 3) := by decide +kernel
theorem dX4_handle_360 : decode cX4_handle 360 = .ok (.iconst 4, 1) := by decide +kernel
theorem dX4_handle_361 : decode cX4_handle 361 = .ok (.goto 4, 3) := by decide +kernel
theorem dX4_handle_364 : decode cX4_handle 364 = .ok (.iconst 5, 1) := by decide +kernel
theorem dX4_handle_365 : decode cX4_handle 365 = .ok (.invokevirtual 116, 3) := by decide +kernel
theorem dX4_handle_368 : decode cX4_handle 368 = .ok (.return_, 1) := by decide +kernel
theorem dX4_prepare_0 : decode cX4_prepare 0 = .ok (.aload_n 0, 1) := by decide +kernel
theorem dX4_prepare_1 : decode cX4_prepare 1 = .ok (.iload_n 1, 1) := by decide +kernel
theorem dX4_prepare_2 : decode cX4_prepare 2 = .ok (.invokevirtual 147, 3) := by decide +kernel
theorem dX4_prepare_5 : decode cX4_prepare 5 = .ok (.ifCond .eq 29, 3) := by decide +kernel
theorem dX4_prepare_8 : decode cX4_prepare 8 = .ok (.aload_n 0, 1) := by decide +kernel
theorem dX4_prepare_9 : decode cX4_prepare 9 = .ok (.aload_n 0, 1) := by decide +kernel
theorem dX4_prepare_10 : decode cX4_prepare 10 = .ok (.getfield 20, 3) := by decide +kernel
theorem dX4_prepare_13 : decode cX4_prepare 13 = .ok (.iload_n 1, 1) := by decide +kernel
theorem dX4_prepare_14 : decode cX4_prepare 14 = .ok (.iaload, 1) := by decide +kernel
theorem dX4_prepare_15 : decode cX4_prepare 15 = .ok (.iconst 4, 1) := by decide +kernel
theorem dX4_prepare_16 : decode cX4_prepare 16 = .ok (.if_icmp .ne 8, 3) := by decide +kernel
theorem dX4_prepare_19 : decode cX4_prepare 19 = .ok (.bipush 9, 2) := by decide +kernel
theorem dX4_prepare_21 : decode cX4_prepare 21 = .ok (.goto 5, 3) := by decide +kernel
theorem dX4_prepare_24 : decode cX4_prepare 24 = .ok (.bipush 10, 2) := by decide +kernel
theorem dX4_prepare_26 : decode cX4_prepare 26 = .ok (.iload_n 1, 1) := by decide +kernel
theorem dX4_prepare_27 : decode cX4_prepare 27 = .ok (.iload_n 2, 1) := by decide +kernel
theorem dX4_prepare_28 : decode cX4_prepare 28 = .ok (.iconst 0, 1) := by decide +kernel
theorem dX4_prepare_29 : decode cX4_prepare 29 = .ok (.iconst 0, 1) := by decide +kernel
theorem dX4_prepare_30 : decode cX4_prepare 30 = .ok (.invokevirtual 112, 3) := by decide +kernel
theorem dX4_prepare_33 : decode cX4_prepare 33 = .ok (.return_, 1) := by decide +kernel
theorem dX4_prepare_34 : decode cX4_prepare 34 = .ok (.aload_n 0, 1) := by decide +kernel
theorem dX4_prepare_35 : decode cX4_prepare 35 = .ok (.iload_n 1, 1) := by decide +kernel
theorem dX4_prepare_36 : decode cX4_prepare 36 = .ok (.iload_n 2, 1) := by decide +kernel
theorem dX4_prepare_37 : decode cX4_prepare 37 = .ok (.invokevirtual 153, 3) := by decide +kernel
theorem dX4_prepare_40 : decode cX4_prepare 40 = .ok (.aload_n 0, 1) := by decide +kernel
theorem dX4_prepare_41 : decode cX4_prepare 41 = .ok (.getfield 20, 3) := by decide +kernel
theorem dX4_prepare_44 : decode cX4_prepare 44 = .ok (.iload_n 1, 1) := by decide +kernel
theorem dX4_prepare_45 : decode cX4_prepare 45 = .ok (.iaload, 1) := by decide +kernel
theorem dX4_prepare_46 : decode cX4_prepare 46 = .ok (.iconst 1, 1) := by decide +kernel
theorem dX4_prepare_47 : decode cX4_prepare 47 = .ok (.if_icmp .ne 10, 3) := by decide +kernel
theorem dX4_prepare_50 : decode cX4_prepare 50 = .ok (.aload_n 0, 1) := by decide +kernel
theorem dX4_prepare_51 : decode cX4_prepare 51 = .ok (.iload_n 1, 1) := by decide +kernel
theorem dX4_prepare_52 : decode cX4_prepare 52 = .ok (.iload 4, 2) := by decide +kernel
theorem dX4_prepare_54 : decode cX4_prepare 54 = .ok (.invokevirtual 116, 3) := by decide +kernel
theorem dX4_prepare_57 : decode cX4_prepare 57 = .ok (.aload_n 0, 1) := by decide +kernel
theorem dX4_prepare_58 : decode cX4_prepare 58 = .ok (.getfield 20, 3) := by decide +kernel
theorem dX4_prepare_61 : decode cX4_prepare 61 = .ok (.iload_n 1, 1) := by decide +kernel
theorem dX4_prepare_62 : decode cX4_prepare 62 = .ok (.iaload, 1) := by decide +kernel
theorem dX4_prepare_63 : decode cX4_prepare 63 = .ok (.iload 4, 2) := by decide +kernel
theorem dX4_prepare_65 : decode cX4_prepare 65 = .ok (.if_icmp .ne 13, 3) := by decide +kernel
theorem dX4_prepare_68 : decode cX4_prepare 68 = .ok (.aload_n 0, 1) := by decide +kernel
theorem dX4_prepare_69 : decode cX4_prepare 69 = .ok (.bipush 8, 2) := by decide +kernel
theorem dX4_prepare_71 : decode cX4_prepare 71 = .ok (.iload_n 1, 1) := by decide +kernel
theorem dX4_prepare_72 : decode cX4_prepare 72 = .ok (.iload_n 2, 1) := by decide +kernel
theorem dX4_prepare_73 : decode cX4_prepare 73 = .ok (.iload_n 3, 1) := by decide +kernel
theorem dX4_prepare_74 : decode cX4_prepare 74 = .ok (.iconst 0, 1) := by decide +kernel
theorem dX4_prepare_75 : decode cX4_prepare 75 = .ok (.invokevirtual 112, 3) := by decide +kernel
theorem dX4_prepare_78 : decode cX4_prepare 78 = .ok (.return_, 1) := by decide +kernel
theorem dX4_weightOf_0 : decode cX4_weightOf 0 = .ok (.iconst 0, 1) := by decide +kernel
theorem dX4_weightOf_1 : decode cX4_weightOf 1 = .ok (.istore_n 3, 1) := by decide +kernel
theorem dX4_weightOf_2 : decode cX4_weightOf 2 = .ok (.iconst 0, 1) := by decide +kernel
theorem dX4_weightOf_3 : decode cX4_weightOf 3 = .ok (.istore 4, 2) := by decide +kernel
theorem dX4_weightOf_5 : decode cX4_weightOf 5 = .ok (.iload 4, 2) := by decide +kernel
theorem dX4_weightOf_7 : decode cX4_weightOf 7 = .ok (.aload_n 0, 1) := by decide +kernel
theorem dX4_weightOf_8 : decode cX4_weightOf 8 = .ok (.getfield 76, 3) := by decide +kernel
theorem dX4_weightOf_11 : decode cX4_weightOf 11 = .ok (.if_icmp .ge 51, 3) := by decide +kernel
theorem dX4_weightOf_14 : decode cX4_weightOf 14 = .ok (.aload_n 0, 1) := by decide +kernel
theorem dX4_weightOf_15 : decode cX4_weightOf 15 = .ok (.getfield 39, 3) := by decide +kernel
theorem dX4_weightOf_18 : decode cX4_weightOf 18 = .ok (.bipush 8, 2) := by decide +kernel
theorem dX4_weightOf_20 : decode cX4_weightOf 20 = .ok (.iload_n 1, 1) := by decide +kernel
theorem dX4_weightOf_21 : decode cX4_weightOf 21 = .ok (.imul, 1) := by decide +kernel
theorem dX4_weightOf_22 : decode cX4_weightOf 22 = .ok (.iload 4, 2) := by decide +kernel
theorem dX4_weightOf_24 : decode cX4_weightOf 24 = .ok (.iadd, 1) := by decide +kernel
theorem dX4_weightOf_25 : decode cX4_weightOf 25 = .ok (.iaload, 1) := by decide +kernel
theorem dX4_weightOf_26 : decode cX4_weightOf 26 = .ok (.iconst 1, 1) := by decide +kernel
theorem dX4_weightOf_27 : decode cX4_weightOf 27 = .ok (.isub, 1) := by decide +kernel
theorem dX4_weightOf_28 : decode cX4_weightOf 28 = .ok (.istore 5, 2) := by decide +kernel
theorem dX4_weightOf_30 : decode cX4_weightOf 30 = .ok (.iload 5, 2) := by decide +kernel
theorem dX4_weightOf_32 : decode cX4_weightOf 32 = .ok (.iconst 1, 1) := by decide +kernel
theorem dX4_weightOf_33 : decode cX4_weightOf 33 = .ok (.if_icmp .eq 9, 3) := by decide +kernel
theorem dX4_weightOf_36 : decode cX4_weightOf 36 = .ok (.iload 5, 2) := by decide +kernel
theorem dX4_weightOf_38 : decode cX4_weightOf 38 = .ok (.iload_n 2, 1) := by decide +kernel
theorem dX4_weightOf_39 : decode cX4_weightOf 39 = .ok (.if_icmp .ne 15, 3) := by decide +kernel
theorem dX4_weightOf_42 : decode cX4_weightOf 42 = .ok (.iload_n 3, 1) := by decide +kernel
theorem dX4_weightOf_43 : decode cX4_weightOf 43 = .ok (.aload_n 0, 1) := by decide +kernel
theorem dX4_weightOf_44 : decode cX4_weightOf 44 = .ok (.getfield 7, 3) := by decide +kernel
theorem dX4_weightOf_47 : decode cX4_weightOf 47 = .ok (.iload 4, 2) := by decide +kernel
theorem dX4_weightOf_49 : decode cX4_weightOf 49 = .ok (.iaload, 1) := by decide +kernel
theorem dX4_weightOf_50 : decode cX4_weightOf 50 = .ok (.iadd, 1) := by decide +kernel
theorem dX4_weightOf_51 : decode cX4_weightOf 51 = .ok (.goto 4, 3) := by decide +kernel
theorem dX4_weightOf_54 : decode cX4_weightOf 54 = .ok (.iload_n 3, 1) := by decide +kernel
theorem dX4_weightOf_55 : decode cX4_weightOf 55 = .ok (.istore_n 3, 1) := by decide +kernel
theorem dX4_weightOf_56 : decode cX4_weightOf 56 = .ok (.iinc 4 1, 3) := by decide +kernel
theorem dX4_weightOf_59 : decode cX4_weightOf 59 = .ok (.goto (-54), 3) := by decide +kernel
theorem dX4_weightOf_62 : decode cX4_weightOf 62 = .ok (.iload_n 3, 1) := by decide +kernel
theorem dX4_weightOf_63 : decode cX4_weightOf 63 = .ok (.ireturn, 1) := by decide +kernel
theorem dX4_ring_0 : decode cX4_ring 0 = .ok (.aload_n 0, 1) := by decide +kernel
theorem dX4_ring_1 : decode cX4_ring 1 = .ok (.getfield 42, 3) := by decide +kernel
theorem dX4_ring_4 : decode cX4_ring 4 = .ok (.iload_n 1, 1) := by decide +kernel
theorem dX4_ring_5 : decode cX4_ring 5 = .ok (.iconst (-1), 1) := by decide +kernel
theorem dX4_ring_6 : decode cX4_ring 6 = .ok (.iastore, 1) := by decide +kernel
theorem dX4_ring_7 : decode cX4_ring 7 = .ok (.aload_n 0, 1) := by decide +kernel
theorem dX4_ring_8 : decode cX4_ring 8 = .ok (.getfield 33, 3) := by decide +kernel
theorem dX4_ring_11 : decode cX4_ring 11 = .ok (.iload_n 1, 1) := by decide +kernel
theorem dX4_ring_12 : decode cX4_ring 12 = .ok (.iaload, 1) := by decide +kernel
theorem dX4_ring_13 : decode cX4_ring 13 = .ok (.iconst 1, 1) := by decide +kernel
theorem dX4_ring_14 : decode cX4_ring 14 = .ok (.if_icmp .ne 12, 3) := by decide +kernel
theorem dX4_ring_17 : decode cX4_ring 17 = .ok (.aload_n 0, 1) := by decide +kernel
theorem dX4_ring_18 : decode cX4_ring 18 = .ok (.iload_n 1, 1) := by decide +kernel
theorem dX4_ring_19 : decode cX4_ring 19 = .ok (.iconst 5, 1) := by decide +kernel
theorem dX4_ring_20 : decode cX4_ring 20 = .ok (.invokevirtual 141, 3) := by decide +kernel
theorem dX4_ring_23 : decode cX4_ring 23 = .ok (.goto 130, 3) := by decide +kernel
theorem dX4_ring_26 : decode cX4_ring 26 = .ok (.aload_n 0, 1) := by decide +kernel
theorem dX4_ring_27 : decode cX4_ring 27 = .ok (.getfield 33, 3) := by decide +kernel
theorem dX4_ring_30 : decode cX4_ring 30 = .ok (.iload_n 1, 1) := by decide +kernel
theorem dX4_ring_31 : decode cX4_ring 31 = .ok (.iaload, 1) := by decide +kernel
theorem dX4_ring_32 : decode cX4_ring 32 = .ok (.iconst 3, 1) := by decide +kernel
theorem dX4_ring_33 : decode cX4_ring 33 = .ok (.if_icmp .eq 11, 3) := by decide +kernel
theorem dX4_ring_36 : decode cX4_ring 36 = .ok (.aload_n 0, 1) := by decide +kernel
theorem dX4_ring_37 : decode cX4_ring 37 = .ok (.iload_n 1, 1) := by decide +kernel
theorem dX4_ring_38 : decode cX4_ring 38 = .ok (.invokevirtual 150, 3) := by decide +kernel
theorem dX4_ring_41 : decode cX4_ring 41 = .ok (.goto 112, 3) := by decide +kernel
theorem dX4_ring_44 : decode cX4_ring 44 = .ok (.iconst 0, 1) := by decide +kernel
theorem dX4_ring_45 : decode cX4_ring 45 = .ok (.istore_n 2, 1) := by decide +kernel
theorem dX4_ring_46 : decode cX4_ring 46 = .ok (.iconst 0, 1) := by decide +kernel
theorem dX4_ring_47 : decode cX4_ring 47 = .ok (.istore_n 3, 1) := by decide +kernel
theorem dX4_ring_48 : decode cX4_ring 48 = .ok (.iload_n 3, 1) := by decide +kernel
theorem dX4_ring_49 : decode cX4_ring 49 = .ok (.aload_n 0, 1) := by decide +kernel
theorem dX4_ring_50 : decode cX4_ring 50 = .ok (.getfield 76, 3) := by decide +kernel
theorem dX4_ring_53 : decode cX4_ring 53 = .ok (.if_icmp .ge 34, 3) := by decide +kernel
theorem dX4_ring_56 : decode cX4_ring 56 = .ok (.iload_n 2, 1) := by decide +kernel
theorem dX4_ring_57 : decode cX4_ring 57 = .ok (.ifCond .ne 18, 3) := by decide +kernel
theorem dX4_ring_60 : decode cX4_ring 60 = .ok (.aload_n 0, 1) := by decide +kernel
theorem dX4_ring_61 : decode cX4_ring 61 = .ok (.getfield 39, 3) := by decide +kernel
theorem dX4_ring_64 : decode cX4_ring 64 = .ok (.bipush 8, 2) := by decide +kernel
theorem dX4_ring_66 : decode cX4_ring 66 = .ok (.iload_n 1, 1) := by decide +kernel
theorem dX4_ring_67 : decode cX4_ring 67 = .ok (.imul, 1) := by decide +kernel
theorem dX4_ring_68 : decode cX4_ring 68 = .ok (.iload_n 3, 1) := by decide +kernel
theorem dX4_ring_69 : decode cX4_ring 69 = .ok (.iadd, 1) := by decide +kernel
theorem dX4_ring_70 : decode cX4_ring 70 = .ok (.iaload, 1) := by decide +kernel
theorem dX4_ring_71 : decode cX4_ring 71 = .ok (.iconst 3, 1) := by decide +kernel
theorem dX4_ring_72 : decode cX4_ring 72 = .ok (.if_icmp .ne 7, 3) := by decide +kernel
theorem dX4_ring_75 : decode cX4_ring 75 = .ok (.iconst 1, 1) := by decide +kernel
theorem dX4_ring_76 : decode cX4_ring 76 = .ok (.goto 4, 3) := by decide +kernel
theorem dX4_ring_79 : decode cX4_ring 79 = .ok (.iconst 0, 1) := by decide +kernel
theorem dX4_ring_80 : decode cX4_ring 80 = .ok (.istore_n 2, 1) := by decide +kernel
theorem dX4_ring_81 : decode cX4_ring 81 = .ok (.iinc 3 1, 3) := by decide +kernel
theorem dX4_ring_84 : decode cX4_ring 84 = .ok (.goto (-36), 3) := by decide +kernel
theorem dX4_ring_87 : decode cX4_ring 87 = .ok (.iload_n 2, 1) := by decide +kernel
theorem dX4_ring_88 : decode cX4_ring 88 = .ok (.ifCond .eq 25, 3) := by decide +kernel
theorem dX4_ring_91 : decode cX4_ring 91 = .ok (.aload_n 0, 1) := by decide +kernel
theorem dX4_ring_92 : decode cX4_ring 92 = .ok (.iload_n 1, 1) := by decide +kernel
theorem dX4_ring_93 : decode cX4_ring 93 = .ok (.iconst 2, 1) := by decide +kernel
theorem dX4_ring_94 : decode cX4_ring 94 = .ok (.invokevirtual 160, 3) := by decide +kernel
theorem dX4_ring_97 : decode cX4_ring 97 = .ok (.aload_n 0, 1) := by decide +kernel
theorem dX4_ring_98 : decode cX4_ring 98 = .ok (.getfield 87, 3) := by decide +kernel
theorem dX4_ring_101 : decode cX4_ring 101 = .ok (.if_icmp .lt 12, 3) := by decide +kernel
theorem dX4_ring_104 : decode cX4_ring 104 = .ok (.aload_n 0, 1) := by decide +kernel
theorem dX4_ring_105 : decode cX4_ring 105 = .ok (.iload_n 1, 1) := by decide +kernel
theorem dX4_ring_106 : decode cX4_ring 106 = .ok (.iconst 2, 1) := by decide +kernel
theorem dX4_ring_107 : decode cX4_ring 107 = .ok (.invokevirtual 124, 3) := by decide +kernel
theorem dX4_ring_110 : decode cX4_ring 110 = .ok (.goto 43, 3) := by decide +kernel
theorem dX4_ring_113 : decode cX4_ring 113 = .ok (.aload_n 0, 1) := by decide +kernel
theorem dX4_ring_114 : decode cX4_ring 114 = .ok (.iload_n 1, 1) := by decide +kernel
theorem dX4_ring_115 : decode cX4_ring 115 = .ok (.iconst 3, 1) := by decide +kernel
theorem dX4_ring_116 : decode cX4_ring 116 = .ok (.invokevirtual 160, 3) := by decide +kernel
theorem dX4_ring_119 : decode cX4_ring 119 = .ok (.aload_n 0, 1) := by decide +kernel
theorem dX4_ring_120 : decode cX4_ring 120 = .ok (.getfield 90, 3) := by decide +kernel
theorem dX4_ring_123 : decode cX4_ring 123 = .ok (.if_icmp .lt 12, 3) := by decide +kernel
theorem dX4_ring_126 : decode cX4_ring 126 = .ok (.aload_n 0, 1) := by decide +kernel
theorem dX4_ring_127 : decode cX4_ring 127 = .ok (.iload_n 1, 1) := by decide +kernel
theorem dX4_ring_128 : decode cX4_ring 128 = .ok (.iconst 3, 1) := by decide +kernel
theorem dX4_ring_129 : decode cX4_ring 129 = .ok (.invokevirtual 124, 3) := by decide +kernel
theorem dX4_ring_132 : decode cX4_ring 132 = .ok (.goto 21, 3) := by decide +kernel
theorem dX4_ring_135 : decode cX4_ring 135 = .ok (.aload_n 0, 1) := by decide +kernel
theorem dX4_ring_136 : decode cX4_ring 136 = .ok (.getfield 33, 3) := by decide +kernel
theorem dX4_ring_139 : decode cX4_ring 139 = .ok (.iload_n 1, 1) := by decide +kernel
theorem dX4_ring_140 : decode cX4_ring 140 = .ok (.iconst 0, 1) := by decide +kernel
theorem dX4_ring_141 : decode cX4_ring 141 = .ok (.iastore, 1) := by decide +kernel
theorem dX4_ring_142 : decode cX4_ring 142 = .ok (.aload_n 0, 1) := by decide +kernel
theorem dX4_ring_143 : decode cX4_ring 143 = .ok (.iload_n 1, 1) := by decide +kernel
theorem dX4_ring_144 : decode cX4_ring 144 = .ok (.aload_n 0, 1) := by decide +kernel
theorem dX4_ring_145 : decode cX4_ring 145 = .ok (.getfield 13, 3) := by decide +kernel
theorem dX4_ring_148 : decode cX4_ring 148 = .ok (.iload_n 1, 1) := by decide +kernel
theorem dX4_ring_149 : decode cX4_ring 149 = .ok (.iadd, 1) := by decide +kernel
theorem dX4_ring_150 : decode cX4_ring 150 = .ok (.invokevirtual 130, 3) := by decide +kernel
theorem dX4_ring_153 : decode cX4_ring 153 = .ok (.return_, 1) := by decide +kernel
theorem dX4_findNext_0 : decode cX4_findNext 0 = .ok (.aload_n 0, 1) := by decide +kernel
theorem dX4_findNext_1 : decode cX4_findNext 1 = .ok (.iconst (-1), 1) := by decide +kernel
theorem dX4_findNext_2 : decode cX4_findNext 2 = .ok (.putfield 164, 3) := by decide +kernel
theorem dX4_findNext_5 : decode cX4_findNext 5 = .ok (.aload_n 0, 1) := by decide +kernel
theorem dX4_findNext_6 : decode cX4_findNext 6 = .ok (.iconst 0, 1) := by decide +kernel
theorem dX4_findNext_7 : decode cX4_findNext 7 = .ok (.putfield 167, 3) := by decide +kernel
theorem dX4_findNext_10 : decode cX4_findNext 10 = .ok (.iconst 0, 1) := by decide +kernel
theorem dX4_findNext_11 : decode cX4_findNext 11 = .ok (.istore_n 1, 1) := by decide +kernel
theorem dX4_findNext_12 : decode cX4_findNext 12 = .ok (.iconst 0, 1) := by decide +kernel
theorem dX4_findNext_13 : decode cX4_findNext 13 = .ok (.istore_n 2, 1) := by decide +kernel
theorem dX4_findNext_14 : decode cX4_findNext 14 = .ok (.iload_n 2, 1) := by decide +kernel
theorem dX4_findNext_15 : decode cX4_findNext 15 = .ok (.aload_n 0, 1) := by decide +kernel
theorem dX4_findNext_16 : decode cX4_findNext 16 = .ok (.getfield 103, 3) := by decide +kernel
theorem dX4_findNext_19 : decode cX4_findNext 19 = .ok (.if_icmp .ge 75, 3) := by decide +kernel
theorem dX4_findNext_22 : decode cX4_findNext 22 = .ok (.aload_n 0, 1) := by decide +kernel
theorem dX4_findNext_23 : decode cX4_findNext 23 = .ok (.getfield 164, 3) := by decide +kernel
theorem dX4_findNext_26 : decode cX4_findNext 26 = .ok (.iconst (-1), 1) := by decide +kernel
theorem dX4_findNext_27 : decode cX4_findNext 27 = .ok (.if_icmp .eq 39, 3) := by decide +kernel
theorem dX4_findNext_30 : decode cX4_findNext 30 = .ok (.aload_n 0, 1) := by decide +kernel
theorem dX4_findNext_31 : decode cX4_findNext 31 = .ok (.getfield 64, 3) := by decide +kernel
theorem dX4_findNext_34 : decode cX4_findNext 34 = .ok (.iload_n 2, 1) := by decide +kernel
theorem dX4_findNext_35 : decode cX4_findNext 35 = .ok (.iaload, 1) := by decide +kernel
theorem dX4_findNext_36 : decode cX4_findNext 36 = .ok (.aload_n 0, 1) := by decide +kernel
theorem dX4_findNext_37 : decode cX4_findNext 37 = .ok (.getfield 167, 3) := by decide +kernel
theorem dX4_findNext_40 : decode cX4_findNext 40 = .ok (.if_icmp .lt 26, 3) := by decide +kernel
theorem dX4_findNext_43 : decode cX4_findNext 43 = .ok (.aload_n 0, 1) := by decide +kernel
theorem dX4_findNext_44 : decode cX4_findNext 44 = .ok (.getfield 64, 3) := by decide +kernel
theorem dX4_findNext_47 : decode cX4_findNext 47 = .ok (.iload_n 2, 1) := by decide +kernel
theorem dX4_findNext_48 : decode cX4_findNext 48 = .ok (.iaload, 1) := by decide +kernel
theorem dX4_findNext_49 : decode cX4_findNext 49 = .ok (.aload_n 0, 1) := by decide +kernel
theorem dX4_findNext_50 : decode cX4_findNext 50 = .ok (.getfield 167, 3) := by decide +kernel
theorem dX4_findNext_53 : decode cX4_findNext 53 = .ok (.if_icmp .ne 35, 3) := by decide +kernel
theorem dX4_findNext_56 : decode cX4_findNext 56 = .ok (.aload_n 0, 1) := by decide +kernel
theorem dX4_findNext_57 : decode cX4_findNext 57 = .ok (.getfield 67, 3) := by decide +kernel
theorem dX4_findNext_60 : decode cX4_findNext 60 = .ok (.iload_n 2, 1) := by decide +kernel
theorem dX4_findNext_61 : decode cX4_findNext 61 = .ok (.iaload, 1) := by decide +kernel
theorem dX4_findNext_62 : decode cX4_findNext 62 = .ok (.iload_n 1, 1) := by decide +kernel
theorem dX4_findNext_63 : decode cX4_findNext 63 = .ok (.if_icmp .ge 25, 3) := by decide +kernel
theorem dX4_findNext_66 : decode cX4_findNext 66 = .ok (.aload_n 0, 1) := by decide +kernel
theorem dX4_findNext_67 : decode cX4_findNext 67 = .ok (.iload_n 2, 1) := by decide +kernel
theorem dX4_findNext_68 : decode cX4_findNext 68 = .ok (.putfield 164, 3) := by decide +kernel
theorem dX4_findNext_71 : decode cX4_findNext 71 = .ok (.aload_n 0, 1) := by decide +kernel
theorem dX4_findNext_72 : decode cX4_findNext 72 = .ok (.aload_n 0, 1) := by decide +kernel
theorem dX4_findNext_73 : decode cX4_findNext 73 = .ok (.getfield 64, 3) := by decide +kernel
theorem dX4_findNext_76 : decode cX4_findNext 76 = .ok (.iload_n 2, 1) := by decide +kernel
theorem dX4_findNext_77 : decode cX4_findNext 77 = .ok (.iaload, 1) := by decide +kernel
theorem dX4_findNext_78 : decode cX4_findNext 78 = .ok (.putfield 167, 3) := by decide +kernel
theorem dX4_findNext_81 : decode cX4_findNext 81 = .ok (.aload_n 0, 1) := by decide +kernel
theorem dX4_findNext_82 : decode cX4_findNext 82 = .ok (.getfield 67, 3) := by decide +kernel
theorem dX4_findNext_85 : decode cX4_findNext 85 = .ok (.iload_n 2, 1) := by decide +kernel
theorem dX4_findNext_86 : decode cX4_findNext 86 = .ok (.iaload, 1) := by decide +kernel
theorem dX4_findNext_87 : decode cX4_findNext 87 = .ok (.istore_n 1, 1) := by decide +kernel
theorem dX4_findNext_88 : decode cX4_findNext 88 = .ok (.iinc 2 1, 3) := by decide +kernel
theorem dX4_findNext_91 : decode cX4_findNext 91 = .ok (.goto (-77), 3) := by decide +kernel
theorem dX4_findNext_94 : decode cX4_findNext 94 = .ok (.iconst 0, 1) := by decide +kernel
theorem dX4_findNext_95 : decode cX4_findNext 95 = .ok (.istore_n 2, 1) := by decide +kernel
theorem dX4_findNext_96 : decode cX4_findNext 96 = .ok (.iload_n 2, 1) := by decide +kernel
theorem dX4_findNext_97 : decode cX4_findNext 97 = .ok (.aload_n 0, 1) := by decide +kernel
theorem dX4_findNext_98 : decode cX4_findNext 98 = .ok (.getfield 76, 3) := by decide +kernel
theorem dX4_findNext_101 : decode cX4_findNext 101 = .ok (.if_icmp .ge 97, 3) := by decide +kernel
theorem dX4_findNext_104 : decode cX4_findNext 104 = .ok (.aload_n 0, 1) := by decide +kernel
theorem dX4_findNext_105 : decode cX4_findNext 105 = .ok (.getfield 164, 3) := by decide +kernel
theorem dX4_findNext_108 : decode cX4_findNext 108 = .ok (.iconst (-1), 1) := by decide +kernel
theorem dX4_findNext_109 : decode cX4_findNext 109 = .ok (.if_icmp .eq 39, 3) := by decide +kernel
theorem dX4_findNext_112 : decode cX4_findNext 112 = .ok (.aload_n 0, 1) := by decide +kernel
theorem dX4_findNext_113 : decode cX4_findNext 113 = .ok (.getfield 42, 3) := by decide +kernel
theorem dX4_findNext_116 : decode cX4_findNext 116 = .ok (.iload_n 2, 1) := by decide +kernel
theorem dX4_findNext_117 : decode cX4_findNext 117 = .ok (.iaload, 1) := by decide +kernel
theorem dX4_findNext_118 : decode cX4_findNext 118 = .ok (.aload_n 0, 1) := by decide +kernel
theorem dX4_findNext_119 : decode cX4_findNext 119 = .ok (.getfield 167, 3) := by decide +kernel
theorem dX4_findNext_122 : decode cX4_findNext 122 = .ok (.if_icmp .lt 26, 3) := by decide +kernel
theorem dX4_findNext_125 : decode cX4_findNext 125 = .ok (.aload_n 0, 1) := by decide +kernel
theorem dX4_findNext_126 : decode cX4_findNext 126 = .ok (.getfield 42, 3) := by decide +kernel
theorem dX4_findNext_129 : decode cX4_findNext 129 = .ok (.iload_n 2, 1) := by decide +kernel
theorem dX4_findNext_130 : decode cX4_findNext 130 = .ok (.iaload, 1) := by decide +kernel
theorem dX4_findNext_131 : decode cX4_findNext 131 = .ok (.aload_n 0, 1) := by decide +kernel
theorem dX4_findNext_132 : decode cX4_findNext 132 = .ok (.getfield 167, 3) := by decide +kernel
theorem dX4_findNext_135 : decode cX4_findNext 135 = .ok (.if_icmp .ne 17, 3) := by decide +kernel
theorem dX4_findNext_138 : decode cX4_findNext 138 = .ok (.aload_n 0, 1) := by decide +kernel
theorem dX4_findNext_139 : decode cX4_findNext 139 = .ok (.getfield 45, 3) := by decide +kernel
theorem dX4_findNext_142 : decode cX4_findNext 142 = .ok (.iload_n 2, 1) := by decide +kernel
theorem dX4_findNext_143 : decode cX4_findNext 143 = .ok (.iaload, 1) := by decide +kernel
theorem dX4_findNext_144 : decode cX4_findNext 144 = .ok (.iload_n 1, 1) := by decide +kernel
theorem dX4_findNext_145 : decode cX4_findNext 145 = .ok (.if_icmp .ge 7, 3) := by decide +kernel
theorem dX4_findNext_148 : decode cX4_findNext 148 = .ok (.iconst 1, 1) := by decide +kernel
theorem dX4_findNext_149 : decode cX4_findNext 149 = .ok (.goto 4, 3) := by decide +kernel
theorem dX4_findNext_152 : decode cX4_findNext 152 = .ok (.iconst 0, 1) := by decide +kernel
theorem dX4_findNext_153 : decode cX4_findNext 153 = .ok (.istore_n 3, 1) := by decide +kernel
theorem dX4_findNext_154 : decode cX4_findNext 154 = .ok (.aload_n 0, 1) := by decide +kernel
theorem dX4_findNext_155 : decode cX4_findNext 155 = .ok (.getfield 42, 3) := by decide +kernel
theorem dX4_findNext_158 : decode cX4_findNext 158 = .ok (.iload_n 2, 1) := by decide +kernel
theorem dX4_findNext_159 : decode cX4_findNext 159 = .ok (.iaload, 1) := by decide +kernel
theorem dX4_findNext_160 : decode cX4_findNext 160 = .ok (.ifCond .lt 32, 3) := by decide +kernel
theorem dX4_findNext_163 : decode cX4_findNext 163 = .ok (.iload_n 3, 1) := by decide +kernel
theorem dX4_findNext_164 : decode cX4_findNext 164 = .ok (.ifCond .eq 28, 3) := by decide +kernel
theorem dX4_findNext_167 : decode cX4_findNext 167 = .ok (.aload_n 0, 1) := by decide +kernel
theorem dX4_findNext_168 : decode cX4_findNext 168 = .ok (.bipush (-2), 2) := by decide +kernel
theorem dX4_findNext_170 : decode cX4_findNext 170 = .ok (.iload_n 2, 1) := by decide +kernel
theorem dX4_findNext_171 : decode cX4_findNext 171 = .ok (.isub, 1) := by decide +kernel
theorem dX4_findNext_172 : decode cX4_findNext 172 = .ok (.putfield 164, 3) := by decide +kernel
theorem dX4_findNext_175 : decode cX4_findNext 175 = .ok (.aload_n 0, 1) := by decide +kernel
theorem dX4_findNext_176 : decode cX4_findNext 176 = .ok (.aload_n 0, 1) := by decide +kernel
theorem dX4_findNext_177 : decode cX4_findNext 177 = .ok (.getfield 42, 3) := by decide +kernel
theorem dX4_findNext_180 : decode cX4_findNext 180 = .ok (.iload_n 2, 1) := by decide +kernel
theorem dX4_findNext_181 : decode cX4_findNext 181 = .ok (.iaload, 1) := by decide +kernel
theorem dX4_findNext_182 : decode cX4_findNext 182 = .ok (.putfield 167, 3) := by decide +kernel
theorem dX4_findNext_185 : decode cX4_findNext 185 = .ok (.aload_n 0, 1) := by decide +kernel
theorem dX4_findNext_186 : decode cX4_findNext 186 = .ok (.getfield 45, 3) := by decide +kernel
theorem dX4_findNext_189 : decode cX4_findNext 189 = .ok (.iload_n 2, 1) := by decide +kernel
theorem dX4_findNext_190 : decode cX4_findNext 190 = .ok (.iaload, 1) := by decide +kernel
theorem dX4_findNext_191 : decode cX4_findNext 191 = .ok (.istore_n 1, 1) := by decide +kernel
theorem dX4_findNext_192 : decode cX4_findNext 192 = .ok (.iinc 2 1, 3) := by decide +kernel
theorem dX4_findNext_195 : decode cX4_findNext 195 = .ok (.goto (-99), 3) := by decide +kernel
theorem dX4_findNext_198 : decode cX4_findNext 198 = .ok (.return_, 1) := by decide +kernel
theorem dX4_tell_0 : decode cX4_tell 0 = .ok (.aload_n 0, 1) := by decide +kernel
theorem dX4_tell_1 : decode cX4_tell 1 = .ok (.getfield 70, 3) := by decide +kernel
theorem dX4_tell_4 : decode cX4_tell 4 = .ok (.iconst 0, 1) := by decide +kernel
theorem dX4_tell_5 : decode cX4_tell 5 = .ok (.iload_n 1, 1) := by decide +kernel
theorem dX4_tell_6 : decode cX4_tell 6 = .ok (.iastore, 1) := by decide +kernel
theorem dX4_tell_7 : decode cX4_tell 7 = .ok (.aload_n 0, 1) := by decide +kernel
theorem dX4_tell_8 : decode cX4_tell 8 = .ok (.getfield 70, 3) := by decide +kernel
theorem dX4_tell_11 : decode cX4_tell 11 = .ok (.iconst 1, 1) := by decide +kernel
theorem dX4_tell_12 : decode cX4_tell 12 = .ok (.iload_n 2, 1) := by decide +kernel
theorem dX4_tell_13 : decode cX4_tell 13 = .ok (.iastore, 1) := by decide +kernel
theorem dX4_tell_14 : decode cX4_tell 14 = .ok (.aload_n 0, 1) := by decide +kernel
theorem dX4_tell_15 : decode cX4_tell 15 = .ok (.getfield 70, 3) := by decide +kernel
theorem dX4_tell_18 : decode cX4_tell 18 = .ok (.iconst 2, 1) := by decide +kernel
theorem dX4_tell_19 : decode cX4_tell 19 = .ok (.iload_n 3, 1) := by decide +kernel
theorem dX4_tell_20 : decode cX4_tell 20 = .ok (.iastore, 1) := by decide +kernel
theorem dX4_tell_21 : decode cX4_tell 21 = .ok (.aload_n 0, 1) := by decide +kernel
theorem dX4_tell_22 : decode cX4_tell 22 = .ok (.getfield 70, 3) := by decide +kernel
theorem dX4_tell_25 : decode cX4_tell 25 = .ok (.iconst 3, 1) := by decide +kernel
theorem dX4_tell_26 : decode cX4_tell 26 = .ok (.iload 4, 2) := by decide +kernel
theorem dX4_tell_28 : decode cX4_tell 28 = .ok (.iastore, 1) := by decide +kernel
theorem dX4_tell_29 : decode cX4_tell 29 = .ok (.aload_n 0, 1) := by decide +kernel
theorem dX4_tell_30 : decode cX4_tell 30 = .ok (.getfield 70, 3) := by decide +kernel
theorem dX4_tell_33 : decode cX4_tell 33 = .ok (.iconst 4, 1) := by decide +kernel
theorem dX4_tell_34 : decode cX4_tell 34 = .ok (.iload 5, 2) := by decide +kernel
theorem dX4_tell_36 : decode cX4_tell 36 = .ok (.iastore, 1) := by decide +kernel
theorem dX4_tell_37 : decode cX4_tell 37 = .ok (.return_, 1) := by decide +kernel
theorem dX4_take_0 : decode cX4_take 0 = .ok (.aload_n 0, 1) := by decide +kernel
theorem dX4_take_1 : decode cX4_take 1 = .ok (.aload_n 0, 1) := by decide +kernel
theorem dX4_take_2 : decode cX4_take 2 = .ok (.getfield 167, 3) := by decide +kernel
theorem dX4_take_5 : decode cX4_take 5 = .ok (.putfield 106, 3) := by decide +kernel
theorem dX4_take_8 : decode cX4_take 8 = .ok (.aload_n 0, 1) := by decide +kernel
theorem dX4_take_9 : decode cX4_take 9 = .ok (.getfield 164, 3) := by decide +kernel
theorem dX4_take_12 : decode cX4_take 12 = .ok (.ifCond .ge 38, 3) := by decide +kernel
theorem dX4_take_15 : decode cX4_take 15 = .ok (.bipush (-2), 2) := by decide +kernel
theorem dX4_take_17 : decode cX4_take 17 = .ok (.aload_n 0, 1) := by decide +kernel
theorem dX4_take_18 : decode cX4_take 18 = .ok (.getfield 164, 3) := by decide +kernel
theorem dX4_take_21 : decode cX4_take 21 = .ok (.isub, 1) := by decide +kernel
theorem dX4_take_22 : decode cX4_take 22 = .ok (.istore_n 1, 1) := by decide +kernel
theorem dX4_take_23 : decode cX4_take 23 = .ok (.aload_n 0, 1) := by decide +kernel
theorem dX4_take_24 : decode cX4_take 24 = .ok (.dup, 1) := by decide +kernel
theorem dX4_take_25 : decode cX4_take 25 = .ok (.getfield 170, 3) := by decide +kernel
theorem dX4_take_28 : decode cX4_take 28 = .ok (.iconst 1, 1) := by decide +kernel
theorem dX4_take_29 : decode cX4_take 29 = .ok (.iadd, 1) := by decide +kernel
theorem dX4_take_30 : decode cX4_take 30 = .ok (.putfield 170, 3) := by decide +kernel
theorem dX4_take_33 : decode cX4_take 33 = .ok (.aload_n 0, 1) := by decide +kernel
theorem dX4_take_34 : decode cX4_take 34 = .ok (.bipush 11, 2) := by decide +kernel
theorem dX4_take_36 : decode cX4_take 36 = .ok (.iload_n 1, 1) := by decide +kernel
theorem dX4_take_37 : decode cX4_take 37 = .ok (.iload_n 1, 1) := by decide +kernel
theorem dX4_take_38 : decode cX4_take 38 = .ok (.iconst 0, 1) := by decide +kernel
theorem dX4_take_39 : decode cX4_take 39 = .ok (.iconst 0, 1) := by decide +kernel
theorem dX4_take_40 : decode cX4_take 40 = .ok (.invokevirtual 173, 3) := by decide +kernel
theorem dX4_take_43 : decode cX4_take 43 = .ok (.aload_n 0, 1) := by decide +kernel
theorem dX4_take_44 : decode cX4_take 44 = .ok (.iload_n 1, 1) := by decide +kernel
theorem dX4_take_45 : decode cX4_take 45 = .ok (.invokevirtual 176, 3) := by decide +kernel
theorem dX4_take_48 : decode cX4_take 48 = .ok (.iconst 1, 1) := by decide +kernel
theorem dX4_take_49 : decode cX4_take 49 = .ok (.ireturn, 1) := by decide +kernel
theorem dX4_take_50 : decode cX4_take 50 = .ok (.aload_n 0, 1) := by decide +kernel
theorem dX4_take_51 : decode cX4_take 51 = .ok (.getfield 164, 3) := by decide +kernel
theorem dX4_take_54 : decode cX4_take 54 = .ok (.istore_n 1, 1) := by decide +kernel
theorem dX4_take_55 : decode cX4_take 55 = .ok (.aload_n 0, 1) := by decide +kernel
theorem dX4_take_56 : decode cX4_take 56 = .ok (.getfield 49, 3) := by decide +kernel
theorem dX4_take_59 : decode cX4_take 59 = .ok (.iload_n 1, 1) := by decide +kernel
theorem dX4_take_60 : decode cX4_take 60 = .ok (.iaload, 1) := by decide +kernel
theorem dX4_take_61 : decode cX4_take 61 = .ok (.istore_n 2, 1) := by decide +kernel
theorem dX4_take_62 : decode cX4_take 62 = .ok (.aload_n 0, 1) := by decide +kernel
theorem dX4_take_63 : decode cX4_take 63 = .ok (.getfield 52, 3) := by decide +kernel
theorem dX4_take_66 : decode cX4_take 66 = .ok (.iload_n 1, 1) := by decide +kernel
theorem dX4_take_67 : decode cX4_take 67 = .ok (.iaload, 1) := by decide +kernel
theorem dX4_take_68 : decode cX4_take 68 = .ok (.istore_n 3, 1) := by decide +kernel
theorem dX4_take_69 : decode cX4_take 69 = .ok (.aload_n 0, 1) := by decide +kernel
theorem dX4_take_70 : decode cX4_take 70 = .ok (.getfield 55, 3) := by decide +kernel
theorem dX4_take_73 : decode cX4_take 73 = .ok (.iload_n 1, 1) := by decide +kernel
theorem dX4_take_74 : decode cX4_take 74 = .ok (.iaload, 1) := by decide +kernel
theorem dX4_take_75 : decode cX4_take 75 = .ok (.istore 4, 2) := by decide +kernel
theorem dX4_take_77 : decode cX4_take 77 = .ok (.aload_n 0, 1) := by decide +kernel
theorem dX4_take_78 : decode cX4_take 78 = .ok (.getfield 58, 3) := by decide +kernel
theorem dX4_take_81 : decode cX4_take 81 = .ok (.iload_n 1, 1) := by decide +kernel
theorem dX4_take_82 : decode cX4_take 82 = .ok (.iaload, 1) := by decide +kernel
theorem dX4_take_83 : decode cX4_take 83 = .ok (.istore 5, 2) := by decide +kernel
theorem dX4_take_85 : decode cX4_take 85 = .ok (.aload_n 0, 1) := by decide +kernel
theorem dX4_take_86 : decode cX4_take 86 = .ok (.getfield 61, 3) := by decide +kernel
theorem dX4_take_89 : decode cX4_take 89 = .ok (.iload_n 1, 1) := by decide +kernel
theorem dX4_take_90 : decode cX4_take 90 = .ok (.iaload, 1) := by decide +kernel
theorem dX4_take_91 : decode cX4_take 91 = .ok (.istore 6, 2) := by decide +kernel
theorem dX4_take_93 : decode cX4_take 93 = .ok (.aload_n 0, 1) := by decide +kernel
theorem dX4_take_94 : decode cX4_take 94 = .ok (.dup, 1) := by decide +kernel
theorem dX4_take_95 : decode cX4_take 95 = .ok (.getfield 103, 3) := by decide +kernel
theorem dX4_take_98 : decode cX4_take 98 = .ok (.iconst 1, 1) := by decide +kernel
theorem dX4_take_99 : decode cX4_take 99 = .ok (.isub, 1) := by decide +kernel
theorem dX4_take_100 : decode cX4_take 100 = .ok (.putfield 103, 3) := by decide +kernel
theorem dX4_take_103 : decode cX4_take 103 = .ok (.aload_n 0, 1) := by decide +kernel
theorem dX4_take_104 : decode cX4_take 104 = .ok (.getfield 49, 3) := by decide +kernel
theorem dX4_take_107 : decode cX4_take 107 = .ok (.iload_n 1, 1) := by decide +kernel
theorem dX4_take_108 : decode cX4_take 108 = .ok (.aload_n 0, 1) := by decide +kernel
theorem dX4_take_109 : decode cX4_take 109 = .ok (.getfield 49, 3) := by decide +kernel
theorem dX4_take_112 : decode cX4_take 112 = .ok (.aload_n 0, 1) := by decide +kernel
theorem dX4_take_113 : decode cX4_take 113 = .ok (.getfield 103, 3) := by decide +kernel
theorem dX4_take_116 : decode cX4_take 116 = .ok (.iaload, 1) := by decide +kernel
theorem dX4_take_117 : decode cX4_take 117 = .ok (.iastore, 1) := by decide +kernel
theorem dX4_take_118 : decode cX4_take 118 = .ok (.aload_n 0, 1) := by decide +kernel
theorem dX4_take_119 : decode cX4_take 119 = .ok (.getfield 52, 3) := by decide +kernel
theorem dX4_take_122 : decode cX4_take 122 = .ok (.iload_n 1, 1) := by decide +kernel
theorem dX4_take_123 : decode cX4_take 123 = .ok (.aload_n 0, 1) := by decide +kernel
theorem dX4_take_124 : decode cX4_take 124 = .ok (.getfield 52, 3) := by decide +kernel
theorem dX4_take_127 : decode cX4_take 127 = .ok (.aload_n 0, 1) := by decide +kernel
theorem dX4_take_128 : decode cX4_take 128 = .ok (.getfield 103, 3) := by decide +kernel
theorem dX4_take_131 : decode cX4_take 131 = .ok (.iaload, 1) := by decide +kernel
theorem dX4_take_132 : decode cX4_take 132 = .ok (.iastore, 1) := by decide +kernel
theorem dX4_take_133 : decode cX4_take 133 = .ok (.aload_n 0, 1) := by decide +kernel
theorem dX4_take_134 : decode cX4_take 134 = .ok (.getfield 55, 3) := by decide +kernel
theorem dX4_take_137 : decode cX4_take 137 = .ok (.iload_n 1, 1) := by decide +kernel
theorem dX4_take_138 : decode cX4_take 138 = .ok (.aload_n 0, 1) := by decide +kernel
theorem dX4_take_139 : decode cX4_take 139 = .ok (.getfield 55, 3) := by decide +kernel
theorem dX4_take_142 : decode cX4_take 142 = .ok (.aload_n 0, 1) := by decide +kernel
theorem dX4_take_143 : decode cX4_take 143 = .ok (.getfield 103, 3) := by decide +kernel
theorem dX4_take_146 : decode cX4_take 146 = .ok (.iaload, 1) := by decide +kernel
theorem dX4_take_147 : decode cX4_take 147 = .ok (.iastore, 1) := by decide +kernel
theorem dX4_take_148 : decode cX4_take 148 = .ok (.aload_n 0, 1) := by decide +kernel
theorem dX4_take_149 : decode cX4_take 149 = .ok (.getfield 58, 3) := by decide +kernel
theorem dX4_take_152 : decode cX4_take 152 = .ok (.iload_n 1, 1) := by decide +kernel
theorem dX4_take_153 : decode cX4_take 153 = .ok (.aload_n 0, 1) := by decide +kernel
theorem dX4_take_154 : decode cX4_take 154 = .ok (.getfield 58, 3) := by decide +kernel
theorem dX4_take_157 : decode cX4_take 157 = .ok (.aload_n 0, 1) := by decide +kernel
theorem dX4_take_158 : decode cX4_take 158 = .ok (.getfield 103, 3) := by decide +kernel
theorem dX4_take_161 : decode cX4_take 161 = .ok (.iaload, 1) := by decide +kernel
theorem dX4_take_162 : decode cX4_take 162 = .ok (.iastore, 1) := by decide +kernel
theorem dX4_take_163 : decode cX4_take 163 = .ok (.aload_n 0, 1) := by decide +kernel
theorem dX4_take_164 : decode cX4_take 164 = .ok (.getfield 61, 3) := by decide +kernel
theorem dX4_take_167 : decode cX4_take 167 = .ok (.iload_n 1, 1) := by decide +kernel
theorem dX4_take_168 : decode cX4_take 168 = .ok (.aload_n 0, 1) := by decide +kernel
theorem dX4_take_169 : decode cX4_take 169 = .ok (.getfield 61, 3) := by decide +kernel
theorem dX4_take_172 : decode cX4_take 172 = .ok (.aload_n 0, 1) := by decide +kernel
theorem dX4_take_173 : decode cX4_take 173 = .ok (.getfield 103, 3) := by decide +kernel
theorem dX4_take_176 : decode cX4_take 176 = .ok (.iaload, 1) := by decide +kernel
theorem dX4_take_177 : decode cX4_take 177 = .ok (.iastore, 1) := by decide +kernel
theorem dX4_take_178 : decode cX4_take 178 = .ok (.aload_n 0, 1) := by decide +kernel
theorem dX4_take_179 : decode cX4_take 179 = .ok (.getfield 64, 3) := by decide +kernel
theorem dX4_take_182 : decode cX4_take 182 = .ok (.iload_n 1, 1) := by decide +kernel
theorem dX4_take_183 : decode cX4_take 183 = .ok (.aload_n 0, 1) := by decide +kernel
theorem dX4_take_184 : decode cX4_take 184 = .ok (.getfield 64, 3) := by decide +kernel
theorem dX4_take_187 : decode cX4_take 187 = .ok (.aload_n 0, 1) := by decide +kernel
theorem dX4_take_188 : decode cX4_take 188 = .ok (.getfield 103, 3) := by decide +kernel
theorem dX4_take_191 : decode cX4_take 191 = .ok (.iaload, 1) := by decide +kernel
theorem dX4_take_192 : decode cX4_take 192 = .ok (.iastore, 1) := by decide +kernel
theorem dX4_take_193 : decode cX4_take 193 = .ok (.aload_n 0, 1) := by decide +kernel
theorem dX4_take_194 : decode cX4_take 194 = .ok (.getfield 67, 3) := by decide +kernel
theorem dX4_take_197 : decode cX4_take 197 = .ok (.iload_n 1, 1) := by decide +kernel
theorem dX4_take_198 : decode cX4_take 198 = .ok (.aload_n 0, 1) := by decide +kernel
theorem dX4_take_199 : decode cX4_take 199 = .ok (.getfield 67, 3) := by decide +kernel
theorem dX4_take_202 : decode cX4_take 202 = .ok (.aload_n 0, 1) := by decide +kernel
theorem dX4_take_203 : decode cX4_take 203 = .ok (.getfield 103, 3) := by decide +kernel
theorem dX4_take_206 : decode cX4_take 206 = .ok (.iaload, 1) := by decide +kernel
theorem dX4_take_207 : decode cX4_take 207 = .ok (.iastore, 1) := by decide +kernel
theorem dX4_take_208 : decode cX4_take 208 = .ok (.aload_n 0, 1) := by decide +kernel
theorem dX4_take_209 : decode cX4_take 209 = .ok (.getfield 26, 3) := by decide +kernel
theorem dX4_take_212 : decode cX4_take 212 = .ok (.iload 4, 2) := by decide +kernel
theorem dX4_take_214 : decode cX4_take 214 = .ok (.baload, 1) := by decide +kernel
theorem dX4_take_215 : decode cX4_take 215 = .ok (.ifCond .eq 15, 3) := by decide +kernel
theorem dX4_take_218 : decode cX4_take 218 = .ok (.aload_n 0, 1) := by decide +kernel
theorem dX4_take_219 : decode cX4_take 219 = .ok (.dup, 1) := by decide +kernel
theorem dX4_take_220 : decode cX4_take 220 = .ok (.getfield 100, 3) := by decide +kernel
