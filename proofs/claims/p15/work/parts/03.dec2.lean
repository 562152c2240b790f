theorem dX3_lead_72 : decode cX3_lead 72 = .ok (.iload_n 1, 1) := by decide +kernel
theorem dX3_lead_73 : decode cX3_lead 73 = .ok (.invokevirtual 244, 3) := by decide +kernel
theorem dX3_lead_76 : decode cX3_lead 76 = .ok (.iload 4, 2) := by decide +kernel
theorem dX3_lead_78 : decode cX3_lead 78 = .ok (.ifCond .eq 8, 3) := by decide +kernel
theorem dX3_lead_81 : decode cX3_lead 81 = .ok (.bipush 6, 2) := by decide +kernel
theorem dX3_lead_83 : decode cX3_lead 83 = .ok (.goto 5, 3) := by decide +kernel
theorem dX3_lead_86 : decode cX3_lead 86 = .ok (.bipush 7, 2) := by decide +kernel
theorem dX3_lead_88 : decode cX3_lead 88 = .ok (.aload_n 3, 1) := by decide +kernel
theorem dX3_lead_89 : decode cX3_lead 89 = .ok (.getfield 122, 3) := by decide +kernel
theorem dX3_lead_92 : decode cX3_lead 92 = .ok (.iconst 0, 1) := by decide +kernel
theorem dX3_lead_93 : decode cX3_lead 93 = .ok (.invokevirtual 213, 3) := by decide +kernel
theorem dX3_lead_96 : decode cX3_lead 96 = .ok (.aload_n 0, 1) := by decide +kernel
theorem dX3_lead_97 : decode cX3_lead 97 = .ok (.aload_n 3, 1) := by decide +kernel
theorem dX3_lead_98 : decode cX3_lead 98 = .ok (.aload_n 0, 1) := by decide +kernel
theorem dX3_lead_99 : decode cX3_lead 99 = .ok (.getfield 26, 3) := by decide +kernel
theorem dX3_lead_102 : decode cX3_lead 102 = .ok (.invokevirtual 216, 3) := by decide +kernel
theorem dX3_lead_105 : decode cX3_lead 105 = .ok (.aload_n 0, 1) := by decide +kernel
theorem dX3_lead_106 : decode cX3_lead 106 = .ok (.aload_n 3, 1) := by decide +kernel
theorem dX3_lead_107 : decode cX3_lead 107 = .ok (.invokevirtual 237, 3) := by decide +kernel
theorem dX3_lead_110 : decode cX3_lead 110 = .ok (.ifCond .eq 18, 3) := by decide +kernel
theorem dX3_lead_113 : decode cX3_lead 113 = .ok (.aload_n 0, 1) := by decide +kernel
theorem dX3_lead_114 : decode cX3_lead 114 = .ok (.iload_n 1, 1) := by decide +kernel
theorem dX3_lead_115 : decode cX3_lead 115 = .ok (.iload 4, 2) := by decide +kernel
theorem dX3_lead_117 : decode cX3_lead 117 = .ok (.ifCond .eq 7, 3) := by decide +kernel
theorem dX3_lead_120 : decode cX3_lead 120 = .ok (.iconst 4, 1) := by decide +kernel
theorem dX3_lead_121 : decode cX3_lead 121 = .ok (.goto 4, 3) := by decide +kernel
theorem dX3_lead_124 : decode cX3_lead 124 = .ok (.iconst 5, 1) := by decide +kernel
theorem dX3_lead_125 : decode cX3_lead 125 = .ok (.invokevirtual 80, 3) := by decide +kernel
theorem dX3_lead_128 : decode cX3_lead 128 = .ok (.return_, 1) := by decide +kernel
theorem dX3_decide_0 : decode cX3_decide 0 = .ok (.aload_n 0, 1) := by decide +kernel
theorem dX3_decide_1 : decode cX3_decide 1 = .ok (.getfield 11, 3) := by decide +kernel
theorem dX3_decide_4 : decode cX3_decide 4 = .ok (.iload_n 1, 1) := by decide +kernel
theorem dX3_decide_5 : decode cX3_decide 5 = .ok (.aaload, 1) := by decide +kernel
theorem dX3_decide_6 : decode cX3_decide 6 = .ok (.astore_n 3, 1) := by decide +kernel
theorem dX3_decide_7 : decode cX3_decide 7 = .ok (.aload_n 0, 1) := by decide +kernel
theorem dX3_decide_8 : decode cX3_decide 8 = .ok (.aload_n 3, 1) := by decide +kernel
theorem dX3_decide_9 : decode cX3_decide 9 = .ok (.iload_n 2, 1) := by decide +kernel
theorem dX3_decide_10 : decode cX3_decide 10 = .ok (.invokevirtual 93, 3) := by decide +kernel
theorem dX3_decide_13 : decode cX3_decide 13 = .ok (.aload_n 3, 1) := by decide +kernel
theorem dX3_decide_14 : decode cX3_decide 14 = .ok (.iconst 0, 1) := by decide +kernel
theorem dX3_decide_15 : decode cX3_decide 15 = .ok (.putfield 84, 3) := by decide +kernel
theorem dX3_decide_18 : decode cX3_decide 18 = .ok (.aload_n 0, 1) := by decide +kernel
theorem dX3_decide_19 : decode cX3_decide 19 = .ok (.getfield 18, 3) := by decide +kernel
theorem dX3_decide_22 : decode cX3_decide 22 = .ok (.iload_n 1, 1) := by decide +kernel
theorem dX3_decide_23 : decode cX3_decide 23 = .ok (.aload_n 0, 1) := by decide +kernel
theorem dX3_decide_24 : decode cX3_decide 24 = .ok (.iload_n 1, 1) := by decide +kernel
theorem dX3_decide_25 : decode cX3_decide 25 = .ok (.invokevirtual 244, 3) := by decide +kernel
theorem dX3_decide_28 : decode cX3_decide 28 = .ok (.iload_n 2, 1) := by decide +kernel
theorem dX3_decide_29 : decode cX3_decide 29 = .ok (.invokestatic 231, 3) := by decide +kernel
theorem dX3_decide_32 : decode cX3_decide 32 = .ok (.iconst 0, 1) := by decide +kernel
theorem dX3_decide_33 : decode cX3_decide 33 = .ok (.iconst 0, 1) := by decide +kernel
theorem dX3_decide_34 : decode cX3_decide 34 = .ok (.invokevirtual 213, 3) := by decide +kernel
theorem dX3_decide_37 : decode cX3_decide 37 = .ok (.return_, 1) := by decide +kernel
theorem dX3_tidingsOf_0 : decode cX3_tidingsOf 0 = .ok (.iload_n 0, 1) := by decide +kernel
theorem dX3_tidingsOf_1 : decode cX3_tidingsOf 1 = .ok (.iconst 4, 1) := by decide +kernel
theorem dX3_tidingsOf_2 : decode cX3_tidingsOf 2 = .ok (.if_icmp .ne 8, 3) := by decide +kernel
theorem dX3_tidingsOf_5 : decode cX3_tidingsOf 5 = .ok (.bipush 9, 2) := by decide +kernel
theorem dX3_tidingsOf_7 : decode cX3_tidingsOf 7 = .ok (.goto 5, 3) := by decide +kernel
theorem dX3_tidingsOf_10 : decode cX3_tidingsOf 10 = .ok (.bipush 10, 2) := by decide +kernel
theorem dX3_tidingsOf_12 : decode cX3_tidingsOf 12 = .ok (.ireturn, 1) := by decide +kernel
theorem dX3_yieldTo_0 : decode cX3_yieldTo 0 = .ok (.aload_n 0, 1) := by decide +kernel
theorem dX3_yieldTo_1 : decode cX3_yieldTo 1 = .ok (.getfield 11, 3) := by decide +kernel
theorem dX3_yieldTo_4 : decode cX3_yieldTo 4 = .ok (.iload_n 1, 1) := by decide +kernel
theorem dX3_yieldTo_5 : decode cX3_yieldTo 5 = .ok (.aaload, 1) := by decide +kernel
theorem dX3_yieldTo_6 : decode cX3_yieldTo 6 = .ok (.astore_n 3, 1) := by decide +kernel
theorem dX3_yieldTo_7 : decode cX3_yieldTo 7 = .ok (.aload_n 3, 1) := by decide +kernel
theorem dX3_yieldTo_8 : decode cX3_yieldTo 8 = .ok (.getfield 84, 3) := by decide +kernel
theorem dX3_yieldTo_11 : decode cX3_yieldTo 11 = .ok (.iconst 2, 1) := by decide +kernel
theorem dX3_yieldTo_12 : decode cX3_yieldTo 12 = .ok (.if_icmp .lt 12, 3) := by decide +kernel
theorem dX3_yieldTo_15 : decode cX3_yieldTo 15 = .ok (.iload_n 2, 1) := by decide +kernel
theorem dX3_yieldTo_16 : decode cX3_yieldTo 16 = .ok (.iload_n 1, 1) := by decide +kernel
theorem dX3_yieldTo_17 : decode cX3_yieldTo 17 = .ok (.if_icmp .le 7, 3) := by decide +kernel
theorem dX3_yieldTo_20 : decode cX3_yieldTo 20 = .ok (.iconst 1, 1) := by decide +kernel
theorem dX3_yieldTo_21 : decode cX3_yieldTo 21 = .ok (.goto 4, 3) := by decide +kernel
theorem dX3_yieldTo_24 : decode cX3_yieldTo 24 = .ok (.iconst 0, 1) := by decide +kernel
theorem dX3_yieldTo_25 : decode cX3_yieldTo 25 = .ok (.istore 4, 2) := by decide +kernel
theorem dX3_yieldTo_27 : decode cX3_yieldTo 27 = .ok (.aload_n 3, 1) := by decide +kernel
theorem dX3_yieldTo_28 : decode cX3_yieldTo 28 = .ok (.invokevirtual 97, 3) := by decide +kernel
theorem dX3_yieldTo_31 : decode cX3_yieldTo 31 = .ok (.ifCond .ne 16, 3) := by decide +kernel
theorem dX3_yieldTo_34 : decode cX3_yieldTo 34 = .ok (.aload_n 3, 1) := by decide +kernel
theorem dX3_yieldTo_35 : decode cX3_yieldTo 35 = .ok (.getfield 84, 3) := by decide +kernel
theorem dX3_yieldTo_38 : decode cX3_yieldTo 38 = .ok (.iconst 1, 1) := by decide +kernel
theorem dX3_yieldTo_39 : decode cX3_yieldTo 39 = .ok (.if_icmp .eq 8, 3) := by decide +kernel
theorem dX3_yieldTo_42 : decode cX3_yieldTo 42 = .ok (.iload 4, 2) := by decide +kernel
theorem dX3_yieldTo_44 : decode cX3_yieldTo 44 = .ok (.ifCond .eq 4, 3) := by decide +kernel
theorem dX3_yieldTo_47 : decode cX3_yieldTo 47 = .ok (.return_, 1) := by decide +kernel
theorem dX3_yieldTo_48 : decode cX3_yieldTo 48 = .ok (.aload_n 3, 1) := by decide +kernel
theorem dX3_yieldTo_49 : decode cX3_yieldTo 49 = .ok (.iconst 0, 1) := by decide +kernel
theorem dX3_yieldTo_50 : decode cX3_yieldTo 50 = .ok (.putfield 84, 3) := by decide +kernel
theorem dX3_yieldTo_53 : decode cX3_yieldTo 53 = .ok (.aload_n 0, 1) := by decide +kernel
theorem dX3_yieldTo_54 : decode cX3_yieldTo 54 = .ok (.aload_n 3, 1) := by decide +kernel
theorem dX3_yieldTo_55 : decode cX3_yieldTo 55 = .ok (.aload_n 0, 1) := by decide +kernel
theorem dX3_yieldTo_56 : decode cX3_yieldTo 56 = .ok (.getfield 26, 3) := by decide +kernel
theorem dX3_yieldTo_59 : decode cX3_yieldTo 59 = .ok (.iload_n 1, 1) := by decide +kernel
theorem dX3_yieldTo_60 : decode cX3_yieldTo 60 = .ok (.iadd, 1) := by decide +kernel
theorem dX3_yieldTo_61 : decode cX3_yieldTo 61 = .ok (.invokevirtual 216, 3) := by decide +kernel
theorem dX3_yieldTo_64 : decode cX3_yieldTo 64 = .ok (.return_, 1) := by decide +kernel
theorem dX3_become_0 : decode cX3_become 0 = .ok (.aload_n 1, 1) := by decide +kernel
theorem dX3_become_1 : decode cX3_become 1 = .ok (.getfield 90, 3) := by decide +kernel
theorem dX3_become_4 : decode cX3_become 4 = .ok (.iload_n 2, 1) := by decide +kernel
theorem dX3_become_5 : decode cX3_become 5 = .ok (.if_icmp .eq 19, 3) := by decide +kernel
theorem dX3_become_8 : decode cX3_become 8 = .ok (.aload_n 1, 1) := by decide +kernel
theorem dX3_become_9 : decode cX3_become 9 = .ok (.iload_n 2, 1) := by decide +kernel
theorem dX3_become_10 : decode cX3_become 10 = .ok (.putfield 90, 3) := by decide +kernel
theorem dX3_become_13 : decode cX3_become 13 = .ok (.aload_n 1, 1) := by decide +kernel
theorem dX3_become_14 : decode cX3_become 14 = .ok (.aload_n 0, 1) := by decide +kernel
theorem dX3_become_15 : decode cX3_become 15 = .ok (.getfield 18, 3) := by decide +kernel
theorem dX3_become_18 : decode cX3_become 18 = .ok (.getfield 104, 3) := by decide +kernel
theorem dX3_become_21 : decode cX3_become 21 = .ok (.putfield 127, 3) := by decide +kernel
theorem dX3_become_24 : decode cX3_become 24 = .ok (.aload_n 1, 1) := by decide +kernel
theorem dX3_become_25 : decode cX3_become 25 = .ok (.invokevirtual 97, 3) := by decide +kernel
theorem dX3_become_28 : decode cX3_become 28 = .ok (.ifCond .eq 8, 3) := by decide +kernel
theorem dX3_become_31 : decode cX3_become 31 = .ok (.aload_n 1, 1) := by decide +kernel
theorem dX3_become_32 : decode cX3_become 32 = .ok (.iconst (-1), 1) := by decide +kernel
theorem dX3_become_33 : decode cX3_become 33 = .ok (.putfield 87, 3) := by decide +kernel
theorem dX3_become_36 : decode cX3_become 36 = .ok (.return_, 1) := by decide +kernel
theorem dX3_setTimer_0 : decode cX3_setTimer 0 = .ok (.aload_n 1, 1) := by decide +kernel
theorem dX3_setTimer_1 : decode cX3_setTimer 1 = .ok (.aload_n 0, 1) := by decide +kernel
theorem dX3_setTimer_2 : decode cX3_setTimer 2 = .ok (.getfield 18, 3) := by decide +kernel
theorem dX3_setTimer_5 : decode cX3_setTimer 5 = .ok (.getfield 104, 3) := by decide +kernel
theorem dX3_setTimer_8 : decode cX3_setTimer 8 = .ok (.iload_n 2, 1) := by decide +kernel
theorem dX3_setTimer_9 : decode cX3_setTimer 9 = .ok (.iadd, 1) := by decide +kernel
theorem dX3_setTimer_10 : decode cX3_setTimer 10 = .ok (.putfield 87, 3) := by decide +kernel
theorem dX3_setTimer_13 : decode cX3_setTimer 13 = .ok (.aload_n 1, 1) := by decide +kernel
theorem dX3_setTimer_14 : decode cX3_setTimer 14 = .ok (.aload_n 0, 1) := by decide +kernel
theorem dX3_setTimer_15 : decode cX3_setTimer 15 = .ok (.getfield 18, 3) := by decide +kernel
theorem dX3_setTimer_18 : decode cX3_setTimer 18 = .ok (.invokevirtual 247, 3) := by decide +kernel
theorem dX3_setTimer_21 : decode cX3_setTimer 21 = .ok (.putfield 250, 3) := by decide +kernel
theorem dX3_setTimer_24 : decode cX3_setTimer 24 = .ok (.return_, 1) := by decide +kernel
theorem dX3_hasQuorum_0 : decode cX3_hasQuorum 0 = .ok (.iconst 0, 1) := by decide +kernel
theorem dX3_hasQuorum_1 : decode cX3_hasQuorum 1 = .ok (.istore_n 2, 1) := by decide +kernel
theorem dX3_hasQuorum_2 : decode cX3_hasQuorum 2 = .ok (.iconst 0, 1) := by decide +kernel
theorem dX3_hasQuorum_3 : decode cX3_hasQuorum 3 = .ok (.istore_n 3, 1) := by decide +kernel
theorem dX3_hasQuorum_4 : decode cX3_hasQuorum 4 = .ok (.iload_n 3, 1) := by decide +kernel
theorem dX3_hasQuorum_5 : decode cX3_hasQuorum 5 = .ok (.aload_n 0, 1) := by decide +kernel
theorem dX3_hasQuorum_6 : decode cX3_hasQuorum 6 = .ok (.getfield 41, 3) := by decide +kernel
theorem dX3_hasQuorum_9 : decode cX3_hasQuorum 9 = .ok (.if_icmp .ge 32, 3) := by decide +kernel
theorem dX3_hasQuorum_12 : decode cX3_hasQuorum 12 = .ok (.aload_n 1, 1) := by decide +kernel
theorem dX3_hasQuorum_13 : decode cX3_hasQuorum 13 = .ok (.getfield 219, 3) := by decide +kernel
theorem dX3_hasQuorum_16 : decode cX3_hasQuorum 16 = .ok (.iload_n 3, 1) := by decide +kernel
theorem dX3_hasQuorum_17 : decode cX3_hasQuorum 17 = .ok (.invokestatic 64, 3) := by decide +kernel
theorem dX3_hasQuorum_20 : decode cX3_hasQuorum 20 = .ok (.ifCond .eq 15, 3) := by decide +kernel
theorem dX3_hasQuorum_23 : decode cX3_hasQuorum 23 = .ok (.iload_n 2, 1) := by decide +kernel
theorem dX3_hasQuorum_24 : decode cX3_hasQuorum 24 = .ok (.aload_n 0, 1) := by decide +kernel
theorem dX3_hasQuorum_25 : decode cX3_hasQuorum 25 = .ok (.getfield 11, 3) := by decide +kernel
theorem dX3_hasQuorum_28 : decode cX3_hasQuorum 28 = .ok (.iload_n 3, 1) := by decide +kernel
theorem dX3_hasQuorum_29 : decode cX3_hasQuorum 29 = .ok (.aaload, 1) := by decide +kernel
theorem dX3_hasQuorum_30 : decode cX3_hasQuorum 30 = .ok (.getfield 124, 3) := by decide +kernel
theorem dX3_hasQuorum_33 : decode cX3_hasQuorum 33 = .ok (.iadd, 1) := by decide +kernel
theorem dX3_hasQuorum_34 : decode cX3_hasQuorum 34 = .ok (.istore_n 2, 1) := by decide +kernel
theorem dX3_hasQuorum_35 : decode cX3_hasQuorum 35 = .ok (.iinc 3 1, 3) := by decide +kernel
theorem dX3_hasQuorum_38 : decode cX3_hasQuorum 38 = .ok (.goto (-34), 3) := by decide +kernel
theorem dX3_hasQuorum_41 : decode cX3_hasQuorum 41 = .ok (.iload_n 2, 1) := by decide +kernel
theorem dX3_hasQuorum_42 : decode cX3_hasQuorum 42 = .ok (.aload_n 1, 1) := by decide +kernel
theorem dX3_hasQuorum_43 : decode cX3_hasQuorum 43 = .ok (.getfield 84, 3) := by decide +kernel
theorem dX3_hasQuorum_46 : decode cX3_hasQuorum 46 = .ok (.iconst 2, 1) := by decide +kernel
theorem dX3_hasQuorum_47 : decode cX3_hasQuorum 47 = .ok (.if_icmp .ne 10, 3) := by decide +kernel
theorem dX3_hasQuorum_50 : decode cX3_hasQuorum 50 = .ok (.aload_n 0, 1) := by decide +kernel
theorem dX3_hasQuorum_51 : decode cX3_hasQuorum 51 = .ok (.getfield 50, 3) := by decide +kernel
theorem dX3_hasQuorum_54 : decode cX3_hasQuorum 54 = .ok (.goto 7, 3) := by decide +kernel
theorem dX3_hasQuorum_57 : decode cX3_hasQuorum 57 = .ok (.aload_n 0, 1) := by decide +kernel
theorem dX3_hasQuorum_58 : decode cX3_hasQuorum 58 = .ok (.getfield 53, 3) := by decide +kernel
theorem dX3_hasQuorum_61 : decode cX3_hasQuorum 61 = .ok (.if_icmp .lt 7, 3) := by decide +kernel
theorem dX3_hasQuorum_64 : decode cX3_hasQuorum 64 = .ok (.iconst 1, 1) := by decide +kernel
theorem dX3_hasQuorum_65 : decode cX3_hasQuorum 65 = .ok (.goto 4, 3) := by decide +kernel
theorem dX3_hasQuorum_68 : decode cX3_hasQuorum 68 = .ok (.iconst 0, 1) := by decide +kernel
theorem dX3_hasQuorum_69 : decode cX3_hasQuorum 69 = .ok (.ireturn, 1) := by decide +kernel
theorem dX3_toldWeight_0 : decode cX3_toldWeight 0 = .ok (.iconst 0, 1) := by decide +kernel
theorem dX3_toldWeight_1 : decode cX3_toldWeight 1 = .ok (.istore_n 3, 1) := by decide +kernel
theorem dX3_toldWeight_2 : decode cX3_toldWeight 2 = .ok (.iconst 0, 1) := by decide +kernel
theorem dX3_toldWeight_3 : decode cX3_toldWeight 3 = .ok (.istore 4, 2) := by decide +kernel
theorem dX3_toldWeight_5 : decode cX3_toldWeight 5 = .ok (.iload 4, 2) := by decide +kernel
theorem dX3_toldWeight_7 : decode cX3_toldWeight 7 = .ok (.aload_n 0, 1) := by decide +kernel
theorem dX3_toldWeight_8 : decode cX3_toldWeight 8 = .ok (.getfield 41, 3) := by decide +kernel
theorem dX3_toldWeight_11 : decode cX3_toldWeight 11 = .ok (.if_icmp .ge 45, 3) := by decide +kernel
theorem dX3_toldWeight_14 : decode cX3_toldWeight 14 = .ok (.aload_n 1, 1) := by decide +kernel
theorem dX3_toldWeight_15 : decode cX3_toldWeight 15 = .ok (.getfield 219, 3) := by decide +kernel
theorem dX3_toldWeight_18 : decode cX3_toldWeight 18 = .ok (.iload 4, 2) := by decide +kernel
theorem dX3_toldWeight_20 : decode cX3_toldWeight 20 = .ok (.invokestatic 64, 3) := by decide +kernel
theorem dX3_toldWeight_23 : decode cX3_toldWeight 23 = .ok (.ifCond .eq 27, 3) := by decide +kernel
theorem dX3_toldWeight_26 : decode cX3_toldWeight 26 = .ok (.aload_n 1, 1) := by decide +kernel
theorem dX3_toldWeight_27 : decode cX3_toldWeight 27 = .ok (.getfield 228, 3) := by decide +kernel
theorem dX3_toldWeight_30 : decode cX3_toldWeight 30 = .ok (.iload 4, 2) := by decide +kernel
theorem dX3_toldWeight_32 : decode cX3_toldWeight 32 = .ok (.iaload, 1) := by decide +kernel
theorem dX3_toldWeight_33 : decode cX3_toldWeight 33 = .ok (.iload_n 2, 1) := by decide +kernel
theorem dX3_toldWeight_34 : decode cX3_toldWeight 34 = .ok (.if_icmp .ne 16, 3) := by decide +kernel
theorem dX3_toldWeight_37 : decode cX3_toldWeight 37 = .ok (.iload_n 3, 1) := by decide +kernel
theorem dX3_toldWeight_38 : decode cX3_toldWeight 38 = .ok (.aload_n 0, 1) := by decide +kernel
theorem dX3_toldWeight_39 : decode cX3_toldWeight 39 = .ok (.getfield 11, 3) := by decide +kernel
theorem dX3_toldWeight_42 : decode cX3_toldWeight 42 = .ok (.iload 4, 2) := by decide +kernel
theorem dX3_toldWeight_44 : decode cX3_toldWeight 44 = .ok (.aaload, 1) := by decide +kernel
theorem dX3_toldWeight_45 : decode cX3_toldWeight 45 = .ok (.getfield 124, 3) := by decide +kernel
theorem dX3_toldWeight_48 : decode cX3_toldWeight 48 = .ok (.iadd, 1) := by decide +kernel
theorem dX3_toldWeight_49 : decode cX3_toldWeight 49 = .ok (.istore_n 3, 1) := by decide +kernel
theorem dX3_toldWeight_50 : decode cX3_toldWeight 50 = .ok (.iinc 4 1, 3) := by decide +kernel
theorem dX3_toldWeight_53 : decode cX3_toldWeight 53 = .ok (.goto (-48), 3) := by decide +kernel
theorem dX3_toldWeight_56 : decode cX3_toldWeight 56 = .ok (.iload_n 3, 1) := by decide +kernel
theorem dX3_toldWeight_57 : decode cX3_toldWeight 57 = .ok (.ireturn, 1) := by decide +kernel
theorem dX4_init_0 : decode cX4_init 0 = .ok (.aload_n 0, 1) := by decide +kernel
theorem dX4_init_1 : decode cX4_init 1 = .ok (.invokespecial 1, 3) := by decide +kernel
theorem dX4_init_4 : decode cX4_init 4 = .ok (.aload_n 0, 1) := by decide +kernel
theorem dX4_init_5 : decode cX4_init 5 = .ok (.bipush 8, 2) := by decide +kernel
theorem dX4_init_7 : decode cX4_init 7 = .ok (.newarray .int, 2) := by decide +kernel
theorem dX4_init_9 : decode cX4_init 9 = .ok (.putfield 7, 3) := by decide +kernel
theorem dX4_init_12 : decode cX4_init 12 = .ok (.aload_n 0, 1) := by decide +kernel
theorem dX4_init_13 : decode cX4_init 13 = .ok (.bipush 10, 2) := by decide +kernel
theorem dX4_init_15 : decode cX4_init 15 = .ok (.putfield 13, 3) := by decide +kernel
theorem dX4_init_18 : decode cX4_init 18 = .ok (.aload_n 0, 1) := by decide +kernel
theorem dX4_init_19 : decode cX4_init 19 = .ok (.bipush 64, 2) := by decide +kernel
theorem dX4_init_21 : decode cX4_init 21 = .ok (.newarray .int, 2) := by decide +kernel
theorem dX4_init_23 : decode cX4_init 23 = .ok (.putfield 17, 3) := by decide +kernel
theorem dX4_init_26 : decode cX4_init 26 = .ok (.aload_n 0, 1) := by decide +kernel
theorem dX4_init_27 : decode cX4_init 27 = .ok (.bipush 8, 2) := by decide +kernel
theorem dX4_init_29 : decode cX4_init 29 = .ok (.newarray .int, 2) := by decide +kernel
theorem dX4_init_31 : decode cX4_init 31 = .ok (.putfield 20, 3) := by decide +kernel
theorem dX4_init_34 : decode cX4_init 34 = .ok (.aload_n 0, 1) := by decide +kernel
theorem dX4_init_35 : decode cX4_init 35 = .ok (.bipush 8, 2) := by decide +kernel
theorem dX4_init_37 : decode cX4_init 37 = .ok (.newarray .int, 2) := by decide +kernel
theorem dX4_init_39 : decode cX4_init 39 = .ok (.putfield 23, 3) := by decide +kernel
theorem dX4_init_42 : decode cX4_init 42 = .ok (.aload_n 0, 1) := by decide +kernel
theorem dX4_init_43 : decode cX4_init 43 = .ok (.bipush 8, 2) := by decide +kernel
theorem dX4_init_45 : decode cX4_init 45 = .ok (.newarray .boolean, 2) := by decide +kernel
theorem dX4_init_47 : decode cX4_init 47 = .ok (.putfield 26, 3) := by decide +kernel
theorem dX4_init_50 : decode cX4_init 50 = .ok (.aload_n 0, 1) := by decide +kernel
theorem dX4_init_51 : decode cX4_init 51 = .ok (.bipush 8, 2) := by decide +kernel
theorem dX4_init_53 : decode cX4_init 53 = .ok (.newarray .boolean, 2) := by decide +kernel
theorem dX4_init_55 : decode cX4_init 55 = .ok (.putfield 30, 3) := by decide +kernel
theorem dX4_init_58 : decode cX4_init 58 = .ok (.aload_n 0, 1) := by decide +kernel
theorem dX4_init_59 : decode cX4_init 59 = .ok (.bipush 8, 2) := by decide +kernel
theorem dX4_init_61 : decode cX4_init 61 = .ok (.newarray .int, 2) := by decide +kernel
theorem dX4_init_63 : decode cX4_init 63 = .ok (.putfield 33, 3) := by decide +kernel
theorem dX4_init_66 : decode cX4_init 66 = .ok (.aload_n 0, 1) := by decide +kernel
theorem dX4_init_67 : decode cX4_init 67 = .ok (.bipush 8, 2) := by decide +kernel
theorem dX4_init_69 : decode cX4_init 69 = .ok (.newarray .int, 2) := by decide +kernel
theorem dX4_init_71 : decode cX4_init 71 = .ok (.putfield 36, 3) := by decide +kernel
theorem dX4_init_74 : decode cX4_init 74 = .ok (.aload_n 0, 1) := by decide +kernel
theorem dX4_init_75 : decode cX4_init 75 = .ok (.bipush 64, 2) := by decide +kernel
theorem dX4_init_77 : decode cX4_init 77 = .ok (.newarray .int, 2) := by decide +kernel
theorem dX4_init_79 : decode cX4_init 79 = .ok (.putfield 39, 3) := by decide +kernel
theorem dX4_init_82 : decode cX4_init 82 = .ok (.aload_n 0, 1) := by decide +kernel
theorem dX4_init_83 : decode cX4_init 83 = .ok (.bipush 8, 2) := by decide +kernel
theorem dX4_init_85 : decode cX4_init 85 = .ok (.newarray .int, 2) := by decide +kernel
theorem dX4_init_87 : decode cX4_init 87 = .ok (.putfield 42, 3) := by decide +kernel
theorem dX4_init_90 : decode cX4_init 90 = .ok (.aload_n 0, 1) := by decide +kernel
theorem dX4_init_91 : decode cX4_init 91 = .ok (.bipush 8, 2) := by decide +kernel
theorem dX4_init_93 : decode cX4_init 93 = .ok (.newarray .int, 2) := by decide +kernel
theorem dX4_init_95 : decode cX4_init 95 = .ok (.putfield 45, 3) := by decide +kernel
theorem dX4_init_98 : decode cX4_init 98 = .ok (.aload_n 0, 1) := by decide +kernel
theorem dX4_init_99 : decode cX4_init 99 = .ok (.ldc 48, 2) := by decide +kernel
theorem dX4_init_101 : decode cX4_init 101 = .ok (.newarray .int, 2) := by decide +kernel
theorem dX4_init_103 : decode cX4_init 103 = .ok (.putfield 49, 3) := by decide +kernel
theorem dX4_init_106 : decode cX4_init 106 = .ok (.aload_n 0, 1) := by decide +kernel
theorem dX4_init_107 : decode cX4_init 107 = .ok (.ldc 48, 2) := by decide +kernel
theorem dX4_init_109 : decode cX4_init 109 = .ok (.newarray .int, 2) := by decide +kernel
theorem dX4_init_111 : decode cX4_init 111 = .ok (.putfield 52, 3) := by decide +kernel
theorem dX4_init_114 : decode cX4_init 114 = .ok (.aload_n 0, 1) := by decide +kernel
theorem dX4_init_115 : decode cX4_init 115 = .ok (.ldc 48, 2) := by decide +kernel
theorem dX4_init_117 : decode cX4_init 117 = .ok (.newarray .int, 2) := by decide +kernel
theorem dX4_init_119 : decode cX4_init 119 = .ok (.putfield 55, 3) := by decide +kernel
theorem dX4_init_122 : decode cX4_init 122 = .ok (.aload_n 0, 1) := by decide +kernel
theorem dX4_init_123 : decode cX4_init 123 = .ok (.ldc 48, 2) := by decide +kernel
theorem dX4_init_125 : decode cX4_init 125 = .ok (.newarray .int, 2) := by decide +kernel
theorem dX4_init_127 : decode cX4_init 127 = .ok (.putfield 58, 3) := by decide +kernel
theorem dX4_init_130 : decode cX4_init 130 = .ok (.aload_n 0, 1) := by decide +kernel
theorem dX4_init_131 : decode cX4_init 131 = .ok (.ldc 48, 2) := by decide +kernel
theorem dX4_init_133 : decode cX4_init 133 = .ok (.newarray .int, 2) := by decide +kernel
theorem dX4_init_135 : decode cX4_init 135 = .ok (.putfield 61, 3) := by decide +kernel
theorem dX4_init_138 : decode cX4_init 138 = .ok (.aload_n 0, 1) := by decide +kernel
theorem dX4_init_139 : decode cX4_init 139 = .ok (.ldc 48, 2) := by decide +kernel
theorem dX4_init_141 : decode cX4_init 141 = .ok (.newarray .int, 2) := by decide +kernel
theorem dX4_init_143 : decode cX4_init 143 = .ok (.putfield 64, 3) := by decide +kernel
theorem dX4_init_146 : decode cX4_init 146 = .ok (.aload_n 0, 1) := by decide +kernel
theorem dX4_init_147 : decode cX4_init 147 = .ok (.ldc 48, 2) := by decide +kernel
theorem dX4_init_149 : decode cX4_init 149 = .ok (.newarray .int, 2) := by decide +kernel
theorem dX4_init_151 : decode cX4_init 151 = .ok (.putfield 67, 3) := by decide +kernel
theorem dX4_init_154 : decode cX4_init 154 = .ok (.aload_n 0, 1) := by decide +kernel
theorem dX4_init_155 : decode cX4_init 155 = .ok (.iconst 5, 1) := by decide +kernel
theorem dX4_init_156 : decode cX4_init 156 = .ok (.newarray .int, 2) := by decide +kernel
theorem dX4_init_158 : decode cX4_init 158 = .ok (.putfield 70, 3) := by decide +kernel
theorem dX4_init_161 : decode cX4_init 161 = .ok (.return_, 1) := by decide +kernel
theorem dX4_isSite_0 : decode cX4_isSite 0 = .ok (.iload_n 1, 1) := by decide +kernel
theorem dX4_isSite_1 : decode cX4_isSite 1 = .ok (.ifCond .lt 15, 3) := by decide +kernel
theorem dX4_isSite_4 : decode cX4_isSite 4 = .ok (.iload_n 1, 1) := by decide +kernel
theorem dX4_isSite_5 : decode cX4_isSite 5 = .ok (.aload_n 0, 1) := by decide +kernel
theorem dX4_isSite_6 : decode cX4_isSite 6 = .ok (.getfield 76, 3) := by decide +kernel
theorem dX4_isSite_9 : decode cX4_isSite 9 = .ok (.if_icmp .ge 7, 3) := by decide +kernel
theorem dX4_isSite_12 : decode cX4_isSite 12 = .ok (.iconst 1, 1) := by decide +kernel
theorem dX4_isSite_13 : decode cX4_isSite 13 = .ok (.goto 4, 3) := by decide +kernel
theorem dX4_isSite_16 : decode cX4_isSite 16 = .ok (.iconst 0, 1) := by decide +kernel
theorem dX4_isSite_17 : decode cX4_isSite 17 = .ok (.ireturn, 1) := by decide +kernel
theorem dX4_all_0 : decode cX4_all 0 = .ok (.iconst 0, 1) := by decide +kernel
theorem dX4_all_1 : decode cX4_all 1 = .ok (.istore_n 1, 1) := by decide +kernel
theorem dX4_all_2 : decode cX4_all 2 = .ok (.iconst 0, 1) := by decide +kernel
theorem dX4_all_3 : decode cX4_all 3 = .ok (.istore_n 2, 1) := by decide +kernel
theorem dX4_all_4 : decode cX4_all 4 = .ok (.iload_n 2, 1) := by decide +kernel
theorem dX4_all_5 : decode cX4_all 5 = .ok (.aload_n 0, 1) := by decide +kernel
theorem dX4_all_6 : decode cX4_all 6 = .ok (.getfield 76, 3) := by decide +kernel
theorem dX4_all_9 : decode cX4_all 9 = .ok (.if_icmp .ge 18, 3) := by decide +kernel
theorem dX4_all_12 : decode cX4_all 12 = .ok (.iload_n 1, 1) := by decide +kernel
theorem dX4_all_13 : decode cX4_all 13 = .ok (.aload_n 0, 1) := by decide +kernel
theorem dX4_all_14 : decode cX4_all 14 = .ok (.getfield 7, 3) := by decide +kernel
theorem dX4_all_17 : decode cX4_all 17 = .ok (.iload_n 2, 1) := by decide +kernel
theorem dX4_all_18 : decode cX4_all 18 = .ok (.iaload, 1) := by decide +kernel
theorem dX4_all_19 : decode cX4_all 19 = .ok (.iadd, 1) := by decide +kernel
theorem dX4_all_20 : decode cX4_all 20 = .ok (.istore_n 1, 1) := by decide +kernel
theorem dX4_all_21 : decode cX4_all 21 = .ok (.iinc 2 1, 3) := by decide +kernel
theorem dX4_all_24 : decode cX4_all 24 = .ok (.goto (-20), 3) := by decide +kernel
theorem dX4_all_27 : decode cX4_all 27 = .ok (.iload_n 1, 1) := by decide +kernel
theorem dX4_all_28 : decode cX4_all 28 = .ok (.ireturn, 1) := by decide +kernel
theorem dX4_site_0 : decode cX4_site 0 = .ok (.aload_n 0, 1) := by decide +kernel
theorem dX4_site_1 : decode cX4_site 1 = .ok (.iconst 0, 1) := by decide +kernel
theorem dX4_site_2 : decode cX4_site 2 = .ok (.putfield 73, 3) := by decide +kernel
theorem dX4_site_5 : decode cX4_site 5 = .ok (.iload_n 1, 1) := by decide +kernel
theorem dX4_site_6 : decode cX4_site 6 = .ok (.iconst 1, 1) := by decide +kernel
theorem dX4_site_7 : decode cX4_site 7 = .ok (.if_icmp .lt 25, 3) := by decide +kernel
theorem dX4_site_10 : decode cX4_site 10 = .ok (.iload_n 1, 1) := by decide +kernel
theorem dX4_site_11 : decode cX4_site 11 = .ok (.bipush 9, 2) := by decide +kernel
theorem dX4_site_13 : decode cX4_site 13 = .ok (.if_icmp .gt 19, 3) := by decide +kernel
theorem dX4_site_16 : decode cX4_site 16 = .ok (.aload_n 0, 1) := by decide +kernel
theorem dX4_site_17 : decode cX4_site 17 = .ok (.getfield 79, 3) := by decide +kernel
theorem dX4_site_20 : decode cX4_site 20 = .ok (.ifCond .ne 12, 3) := by decide +kernel
theorem dX4_site_23 : decode cX4_site 23 = .ok (.aload_n 0, 1) := by decide +kernel
theorem dX4_site_24 : decode cX4_site 24 = .ok (.getfield 76, 3) := by decide +kernel
theorem dX4_site_27 : decode cX4_site 27 = .ok (.bipush 8, 2) := by decide +kernel
theorem dX4_site_29 : decode cX4_site 29 = .ok (.if_icmp .ne 5, 3) := by decide +kernel
theorem dX4_site_32 : decode cX4_site 32 = .ok (.iconst (-1), 1) := by decide +kernel
theorem dX4_site_33 : decode cX4_site 33 = .ok (.ireturn, 1) := by decide +kernel
theorem dX4_site_34 : decode cX4_site 34 = .ok (.aload_n 0, 1) := by decide +kernel
theorem dX4_site_35 : decode cX4_site 35 = .ok (.getfield 7, 3) := by decide +kernel
theorem dX4_site_38 : decode cX4_site 38 = .ok (.aload_n 0, 1) := by decide +kernel
theorem dX4_site_39 : decode cX4_site 39 = .ok (.getfield 76, 3) := by decide +kernel
theorem dX4_site_42 : decode cX4_site 42 = .ok (.iload_n 1, 1) := by decide +kernel
theorem dX4_site_43 : decode cX4_site 43 = .ok (.iastore, 1) := by decide +kernel
theorem dX4_site_44 : decode cX4_site 44 = .ok (.aload_n 0, 1) := by decide +kernel
theorem dX4_site_45 : decode cX4_site 45 = .ok (.getfield 42, 3) := by decide +kernel
theorem dX4_site_48 : decode cX4_site 48 = .ok (.aload_n 0, 1) := by decide +kernel
theorem dX4_site_49 : decode cX4_site 49 = .ok (.getfield 76, 3) := by decide +kernel
theorem dX4_site_52 : decode cX4_site 52 = .ok (.iconst (-1), 1) := by decide +kernel
theorem dX4_site_53 : decode cX4_site 53 = .ok (.iastore, 1) := by decide +kernel
theorem dX4_site_54 : decode cX4_site 54 = .ok (.iconst 0, 1) := by decide +kernel
theorem dX4_site_55 : decode cX4_site 55 = .ok (.istore_n 2, 1) := by decide +kernel
theorem dX4_site_56 : decode cX4_site 56 = .ok (.iload_n 2, 1) := by decide +kernel
theorem dX4_site_57 : decode cX4_site 57 = .ok (.aload_n 0, 1) := by decide +kernel
theorem dX4_site_58 : decode cX4_site 58 = .ok (.getfield 76, 3) := by decide +kernel
theorem dX4_site_61 : decode cX4_site 61 = .ok (.if_icmp .ge 39, 3) := by decide +kernel
theorem dX4_site_64 : decode cX4_site 64 = .ok (.aload_n 0, 1) := by decide +kernel
theorem dX4_site_65 : decode cX4_site 65 = .ok (.getfield 17, 3) := by decide +kernel
theorem dX4_site_68 : decode cX4_site 68 = .ok (.bipush 8, 2) := by decide +kernel
theorem dX4_site_70 : decode cX4_site 70 = .ok (.iload_n 2, 1) := by decide +kernel
theorem dX4_site_71 : decode cX4_site 71 = .ok (.imul, 1) := by decide +kernel
theorem dX4_site_72 : decode cX4_site 72 = .ok (.aload_n 0, 1) := by decide +kernel
theorem dX4_site_73 : decode cX4_site 73 = .ok (.getfield 76, 3) := by decide +kernel
theorem dX4_site_76 : decode cX4_site 76 = .ok (.iadd, 1) := by decide +kernel
theorem dX4_site_77 : decode cX4_site 77 = .ok (.iconst 1, 1) := by decide +kernel
theorem dX4_site_78 : decode cX4_site 78 = .ok (.iastore, 1) := by decide +kernel
theorem dX4_site_79 : decode cX4_site 79 = .ok (.aload_n 0, 1) := by decide +kernel
theorem dX4_site_80 : decode cX4_site 80 = .ok (.getfield 17, 3) := by decide +kernel
theorem dX4_site_83 : decode cX4_site 83 = .ok (.bipush 8, 2) := by decide +kernel
theorem dX4_site_85 : decode cX4_site 85 = .ok (.aload_n 0, 1) := by decide +kernel
theorem dX4_site_86 : decode cX4_site 86 = .ok (.getfield 76, 3) := by decide +kernel
theorem dX4_site_89 : decode cX4_site 89 = .ok (.imul, 1) := by decide +kernel
theorem dX4_site_90 : decode cX4_site 90 = .ok (.iload_n 2, 1) := by decide +kernel
theorem dX4_site_91 : decode cX4_site 91 = .ok (.iadd, 1) := by decide +kernel
theorem dX4_site_92 : decode cX4_site 92 = .ok (.iconst 1, 1) := by decide +kernel
theorem dX4_site_93 : decode cX4_site 93 = .ok (.iastore, 1) := by decide +kernel
theorem dX4_site_94 : decode cX4_site 94 = .ok (.iinc 2 1, 3) := by decide +kernel
theorem dX4_site_97 : decode cX4_site 97 = .ok (.goto (-41), 3) := by decide +kernel
theorem dX4_site_100 : decode cX4_site 100 = .ok (.aload_n 0, 1) := by decide +kernel
theorem dX4_site_101 : decode cX4_site 101 = .ok (.dup, 1) := by decide +kernel
theorem dX4_site_102 : decode cX4_site 102 = .ok (.getfield 76, 3) := by decide +kernel
theorem dX4_site_105 : decode cX4_site 105 = .ok (.iconst 1, 1) := by decide +kernel
theorem dX4_site_106 : decode cX4_site 106 = .ok (.iadd, 1) := by decide +kernel
theorem dX4_site_107 : decode cX4_site 107 = .ok (.putfield 76, 3) := by decide +kernel
theorem dX4_site_110 : decode cX4_site 110 = .ok (.aload_n 0, 1) := by decide +kernel
theorem dX4_site_111 : decode cX4_site 111 = .ok (.aload_n 0, 1) := by decide +kernel
theorem dX4_site_112 : decode cX4_site 112 = .ok (.invokevirtual 83, 3) := by decide +kernel
theorem dX4_site_115 : decode cX4_site 115 = .ok (.iconst 2, 1) := by decide +kernel
theorem dX4_site_116 : decode cX4_site 116 = .ok (.idiv, 1) := by decide +kernel
theorem dX4_site_117 : decode cX4_site 117 = .ok (.iconst 1, 1) := by decide +kernel
theorem dX4_site_118 : decode cX4_site 118 = .ok (.iadd, 1) := by decide +kernel
theorem dX4_site_119 : decode cX4_site 119 = .ok (.putfield 87, 3) := by decide +kernel
theorem dX4_site_122 : decode cX4_site 122 = .ok (.aload_n 0, 1) := by decide +kernel
theorem dX4_site_123 : decode cX4_site 123 = .ok (.aload_n 0, 1) := by decide +kernel
theorem dX4_site_124 : decode cX4_site 124 = .ok (.getfield 87, 3) := by decide +kernel
theorem dX4_site_127 : decode cX4_site 127 = .ok (.putfield 90, 3) := by decide +kernel
theorem dX4_site_130 : decode cX4_site 130 = .ok (.aload_n 0, 1) := by decide +kernel
theorem dX4_site_131 : decode cX4_site 131 = .ok (.getfield 76, 3) := by decide +kernel
theorem dX4_site_134 : decode cX4_site 134 = .ok (.iconst 1, 1) := by decide +kernel
theorem dX4_site_135 : decode cX4_site 135 = .ok (.isub, 1) := by decide +kernel
theorem dX4_site_136 : decode cX4_site 136 = .ok (.ireturn, 1) := by decide +kernel
theorem dX4_quorums_0 : decode cX4_quorums 0 = .ok (.aload_n 0, 1) := by decide +kernel
theorem dX4_quorums_1 : decode cX4_quorums 1 = .ok (.iconst 0, 1) := by decide +kernel
theorem dX4_quorums_2 : decode cX4_quorums 2 = .ok (.putfield 73, 3) := by decide +kernel
theorem dX4_quorums_5 : decode cX4_quorums 5 = .ok (.aload_n 0, 1) := by decide +kernel
theorem dX4_quorums_6 : decode cX4_quorums 6 = .ok (.invokevirtual 83, 3) := by decide +kernel
theorem dX4_quorums_9 : decode cX4_quorums 9 = .ok (.istore_n 3, 1) := by decide +kernel
theorem dX4_quorums_10 : decode cX4_quorums 10 = .ok (.aload_n 0, 1) := by decide +kernel
theorem dX4_quorums_11 : decode cX4_quorums 11 = .ok (.getfield 79, 3) := by decide +kernel
theorem dX4_quorums_14 : decode cX4_quorums 14 = .ok (.ifCond .ne 30, 3) := by decide +kernel
theorem dX4_quorums_17 : decode cX4_quorums 17 = .ok (.iload_n 1, 1) := by decide +kernel
theorem dX4_quorums_18 : decode cX4_quorums 18 = .ok (.iconst 1, 1) := by decide +kernel
theorem dX4_quorums_19 : decode cX4_quorums 19 = .ok (.if_icmp .lt 25, 3) := by decide +kernel
theorem dX4_quorums_22 : decode cX4_quorums 22 = .ok (.iload_n 1, 1) := by decide +kernel
theorem dX4_quorums_23 : decode cX4_quorums 23 = .ok (.iload_n 3, 1) := by decide +kernel
theorem dX4_quorums_24 : decode cX4_quorums 24 = .ok (.if_icmp .gt 20, 3) := by decide +kernel
theorem dX4_quorums_27 : decode cX4_quorums 27 = .ok (.iload_n 2, 1) := by decide +kernel
theorem dX4_quorums_28 : decode cX4_quorums 28 = .ok (.iconst 1, 1) := by decide +kernel
theorem dX4_quorums_29 : decode cX4_quorums 29 = .ok (.if_icmp .lt 15, 3) := by decide +kernel
theorem dX4_quorums_32 : decode cX4_quorums 32 = .ok (.iload_n 2, 1) := by decide +kernel
theorem dX4_quorums_33 : decode cX4_quorums 33 = .ok (.iload_n 3, 1) := by decide +kernel
theorem dX4_quorums_34 : decode cX4_quorums 34 = .ok (.if_icmp .gt 10, 3) := by decide +kernel
theorem dX4_quorums_37 : decode cX4_quorums 37 = .ok (.iload_n 1, 1) := by decide +kernel
theorem dX4_quorums_38 : decode cX4_quorums 38 = .ok (.iload_n 2, 1) := by decide +kernel
theorem dX4_quorums_39 : decode cX4_quorums 39 = .ok (.iadd, 1) := by decide +kernel
theorem dX4_quorums_40 : decode cX4_quorums 40 = .ok (.iload_n 3, 1) := by decide +kernel
theorem dX4_quorums_41 : decode cX4_quorums 41 = .ok (.if_icmp .gt 5, 3) := by decide +kernel
theorem dX4_quorums_44 : decode cX4_quorums 44 = .ok (.iconst 0, 1) := by decide +kernel
theorem dX4_quorums_45 : decode cX4_quorums 45 = .ok (.ireturn, 1) := by decide +kernel
theorem dX4_quorums_46 : decode cX4_quorums 46 = .ok (.aload_n 0, 1) := by decide +kernel
theorem dX4_quorums_47 : decode cX4_quorums 47 = .ok (.iload_n 1, 1) := by decide +kernel
theorem dX4_quorums_48 : decode cX4_quorums 48 = .ok (.putfield 87, 3) := by decide +kernel
theorem dX4_quorums_51 : decode cX4_quorums 51 = .ok (.aload_n 0, 1) := by decide +kernel
theorem dX4_quorums_52 : decode cX4_quorums 52 = .ok (.iload_n 2, 1) := by decide +kernel
theorem dX4_quorums_53 : decode cX4_quorums 53 = .ok (.putfield 90, 3) := by decide +kernel
theorem dX4_quorums_56 : decode cX4_quorums 56 = .ok (.iconst 1, 1) := by decide +kernel
theorem dX4_quorums_57 : decode cX4_quorums 57 = .ok (.ireturn, 1) := by decide +kernel
theorem dX4_link_0 : decode cX4_link 0 = .ok (.aload_n 0, 1) := by decide +kernel
theorem dX4_link_1 : decode cX4_link 1 = .ok (.iconst 0, 1) := by decide +kernel
theorem dX4_link_2 : decode cX4_link 2 = .ok (.putfield 73, 3) := by decide +kernel
theorem dX4_link_5 : decode cX4_link 5 = .ok (.aload_n 0, 1) := by decide +kernel
theorem dX4_link_6 : decode cX4_link 6 = .ok (.iload_n 1, 1) := by decide +kernel
theorem dX4_link_7 : decode cX4_link 7 = .ok (.invokevirtual 93, 3) := by decide +kernel
theorem dX4_link_10 : decode cX4_link 10 = .ok (.ifCond .eq 26, 3) := by decide +kernel
theorem dX4_link_13 : decode cX4_link 13 = .ok (.aload_n 0, 1) := by decide +kernel
theorem dX4_link_14 : decode cX4_link 14 = .ok (.iload_n 2, 1) := by decide +kernel
theorem dX4_link_15 : decode cX4_link 15 = .ok (.invokevirtual 93, 3) := by decide +kernel
theorem dX4_link_18 : decode cX4_link 18 = .ok (.ifCond .eq 18, 3) := by decide +kernel
theorem dX4_link_21 : decode cX4_link 21 = .ok (.iload_n 1, 1) := by decide +kernel
theorem dX4_link_22 : decode cX4_link 22 = .ok (.iload_n 2, 1) := by decide +kernel
theorem dX4_link_23 : decode cX4_link 23 = .ok (.if_icmp .eq 13, 3) := by decide +kernel
theorem dX4_link_26 : decode cX4_link 26 = .ok (.iload_n 3, 1) := by decide +kernel
theorem dX4_link_27 : decode cX4_link 27 = .ok (.ifCond .lt 9, 3) := by decide +kernel
theorem dX4_link_30 : decode cX4_link 30 = .ok (.iload_n 3, 1) := by decide +kernel
theorem dX4_link_31 : decode cX4_link 31 = .ok (.bipush 20, 2) := by decide +kernel
theorem dX4_link_33 : decode cX4_link 33 = .ok (.if_icmp .le 5, 3) := by decide +kernel
theorem dX4_link_36 : decode cX4_link 36 = .ok (.iconst 0, 1) := by decide +kernel
theorem dX4_link_37 : decode cX4_link 37 = .ok (.ireturn, 1) := by decide +kernel
theorem dX4_link_38 : decode cX4_link 38 = .ok (.aload_n 0, 1) := by decide +kernel
theorem dX4_link_39 : decode cX4_link 39 = .ok (.getfield 17, 3) := by decide +kernel
theorem dX4_link_42 : decode cX4_link 42 = .ok (.bipush 8, 2) := by decide +kernel
theorem dX4_link_44 : decode cX4_link 44 = .ok (.iload_n 1, 1) := by decide +kernel
theorem dX4_link_45 : decode cX4_link 45 = .ok (.imul, 1) := by decide +kernel
theorem dX4_link_46 : decode cX4_link 46 = .ok (.iload_n 2, 1) := by decide +kernel
theorem dX4_link_47 : decode cX4_link 47 = .ok (.iadd, 1) := by decide +kernel
theorem dX4_link_48 : decode cX4_link 48 = .ok (.iload_n 3, 1) := by decide +kernel
theorem dX4_link_49 : decode cX4_link 49 = .ok (.iastore, 1) := by decide +kernel
theorem dX4_link_50 : decode cX4_link 50 = .ok (.iconst 1, 1) := by decide +kernel
theorem dX4_link_51 : decode cX4_link 51 = .ok (.ireturn, 1) := by decide +kernel
theorem dX4_part_0 : decode cX4_part 0 = .ok (.aload_n 0, 1) := by decide +kernel
theorem dX4_part_1 : decode cX4_part 1 = .ok (.iconst 0, 1) := by decide +kernel
theorem dX4_part_2 : decode cX4_part 2 = .ok (.putfield 73, 3) := by decide +kernel
theorem dX4_part_5 : decode cX4_part 5 = .ok (.iload_n 2, 1) := by decide +kernel
theorem dX4_part_6 : decode cX4_part 6 = .ok (.iconst 1, 1) := by decide +kernel
theorem dX4_part_7 : decode cX4_part 7 = .ok (.if_icmp .lt 9, 3) := by decide +kernel
theorem dX4_part_10 : decode cX4_part 10 = .ok (.iload_n 2, 1) := by decide +kernel
theorem dX4_part_11 : decode cX4_part 11 = .ok (.bipush 20, 2) := by decide +kernel
theorem dX4_part_13 : decode cX4_part 13 = .ok (.if_icmp .le 5, 3) := by decide +kernel
theorem dX4_part_16 : decode cX4_part 16 = .ok (.iconst (-1), 1) := by decide +kernel
theorem dX4_part_17 : decode cX4_part 17 = .ok (.ireturn, 1) := by decide +kernel
theorem dX4_part_18 : decode cX4_part 18 = .ok (.iconst 0, 1) := by decide +kernel
theorem dX4_part_19 : decode cX4_part 19 = .ok (.istore_n 3, 1) := by decide +kernel
theorem dX4_part_20 : decode cX4_part 20 = .ok (.iload_n 3, 1) := by decide +kernel
theorem dX4_part_21 : decode cX4_part 21 = .ok (.aload_n 0, 1) := by decide +kernel
theorem dX4_part_22 : decode cX4_part 22 = .ok (.getfield 76, 3) := by decide +kernel
theorem dX4_part_25 : decode cX4_part 25 = .ok (.if_icmp .ge 76, 3) := by decide +kernel
theorem dX4_part_28 : decode cX4_part 28 = .ok (.iconst 0, 1) := by decide +kernel
theorem dX4_part_29 : decode cX4_part 29 = .ok (.istore 4, 2) := by decide +kernel
theorem dX4_part_31 : decode cX4_part 31 = .ok (.iload 4, 2) := by decide +kernel
theorem dX4_part_33 : decode cX4_part 33 = .ok (.aload_n 0, 1) := by decide +kernel
theorem dX4_part_34 : decode cX4_part 34 = .ok (.getfield 76, 3) := by decide +kernel
theorem dX4_part_37 : decode cX4_part 37 = .ok (.if_icmp .ge 58, 3) := by decide +kernel
theorem dX4_part_40 : decode cX4_part 40 = .ok (.iload_n 1, 1) := by decide +kernel
theorem dX4_part_41 : decode cX4_part 41 = .ok (.iload_n 3, 1) := by decide +kernel
theorem dX4_part_42 : decode cX4_part 42 = .ok (.ishr, 1) := by decide +kernel
theorem dX4_part_43 : decode cX4_part 43 = .ok (.iconst 1, 1) := by decide +kernel
theorem dX4_part_44 : decode cX4_part 44 = .ok (.iand, 1) := by decide +kernel
theorem dX4_part_45 : decode cX4_part 45 = .ok (.iload_n 1, 1) := by decide +kernel
theorem dX4_part_46 : decode cX4_part 46 = .ok (.iload 4, 2) := by decide +kernel
theorem dX4_part_48 : decode cX4_part 48 = .ok (.ishr, 1) := by decide +kernel
theorem dX4_part_49 : decode cX4_part 49 = .ok (.iconst 1, 1) := by decide +kernel
theorem dX4_part_50 : decode cX4_part 50 = .ok (.iand, 1) := by decide +kernel
theorem dX4_part_51 : decode cX4_part 51 = .ok (.if_icmp .eq 7, 3) := by decide +kernel
theorem dX4_part_54 : decode cX4_part 54 = .ok (.iconst 1, 1) := by decide +kernel
theorem dX4_part_55 : decode cX4_part 55 = .ok (.goto 4, 3) := by decide +kernel
theorem dX4_part_58 : decode cX4_part 58 = .ok (.iconst 0, 1) := by decide +kernel
theorem dX4_part_59 : decode cX4_part 59 = .ok (.istore 5, 2) := by decide +kernel
theorem dX4_part_61 : decode cX4_part 61 = .ok (.aload_n 0, 1) := by decide +kernel
theorem dX4_part_62 : decode cX4_part 62 = .ok (.getfield 17, 3) := by decide +kernel
theorem dX4_part_65 : decode cX4_part 65 = .ok (.bipush 8, 2) := by decide +kernel
theorem dX4_part_67 : decode cX4_part 67 = .ok (.iload_n 3, 1) := by decide +kernel
theorem dX4_part_68 : decode cX4_part 68 = .ok (.imul, 1) := by decide +kernel
theorem dX4_part_69 : decode cX4_part 69 = .ok (.iload 4, 2) := by decide +kernel
theorem dX4_part_71 : decode cX4_part 71 = .ok (.iadd, 1) := by decide +kernel
theorem dX4_part_72 : decode cX4_part 72 = .ok (.iload_n 3, 1) := by decide +kernel
theorem dX4_part_73 : decode cX4_part 73 = .ok (.iload 4, 2) := by decide +kernel
theorem dX4_part_75 : decode cX4_part 75 = .ok (.if_icmp .eq 8, 3) := by decide +kernel
theorem dX4_part_78 : decode cX4_part 78 = .ok (.iload 5, 2) := by decide +kernel
theorem dX4_part_80 : decode cX4_part 80 = .ok (.ifCond .eq 7, 3) := by decide +kernel
theorem dX4_part_83 : decode cX4_part 83 = .ok (.iconst 0, 1) := by decide +kernel
theorem dX4_part_84 : decode cX4_part 84 = .ok (.goto 4, 3) := by decide +kernel
theorem dX4_part_87 : decode cX4_part 87 = .ok (.iload_n 2, 1) := by decide +kernel
theorem dX4_part_88 : decode cX4_part 88 = .ok (.iastore, 1) := by decide +kernel
theorem dX4_part_89 : decode cX4_part 89 = .ok (.iinc 4 1, 3) := by decide +kernel
theorem dX4_part_92 : decode cX4_part 92 = .ok (.goto (-61), 3) := by decide +kernel
theorem dX4_part_95 : decode cX4_part 95 = .ok (.iinc 3 1, 3) := by decide +kernel
theorem dX4_part_98 : decode cX4_part 98 = .ok (.goto (-78), 3) := by decide +kernel
theorem dX4_part_101 : decode cX4_part 101 = .ok (.aload_n 0, 1) := by decide +kernel
theorem dX4_part_102 : decode cX4_part 102 = .ok (.getfield 76, 3) := by decide +kernel
theorem dX4_part_105 : decode cX4_part 105 = .ok (.aload_n 0, 1) := by decide +kernel
theorem dX4_part_106 : decode cX4_part 106 = .ok (.getfield 76, 3) := by decide +kernel
theorem dX4_part_109 : decode cX4_part 109 = .ok (.iconst 1, 1) := by decide +kernel
theorem dX4_part_110 : decode cX4_part 110 = .ok (.isub, 1) := by decide +kernel
theorem dX4_part_111 : decode cX4_part 111 = .ok (.imul, 1) := by decide +kernel
theorem dX4_part_112 : decode cX4_part 112 = .ok (.ireturn, 1) := by decide +kernel
theorem dX4_patience_0 : decode cX4_patience 0 = .ok (.aload_n 0, 1) := by decide +kernel
theorem dX4_patience_1 : decode cX4_patience 1 = .ok (.iconst 0, 1) := by decide +kernel
theorem dX4_patience_2 : decode cX4_patience 2 = .ok (.putfield 73, 3) := by decide +kernel
theorem dX4_patience_5 : decode cX4_patience 5 = .ok (.iload_n 1, 1) := by decide +kernel
theorem dX4_patience_6 : decode cX4_patience 6 = .ok (.iconst 5, 1) := by decide +kernel
theorem dX4_patience_7 : decode cX4_patience 7 = .ok (.if_icmp .lt 16, 3) := by decide +kernel
theorem dX4_patience_10 : decode cX4_patience 10 = .ok (.iload_n 1, 1) := by decide +kernel
theorem dX4_patience_11 : decode cX4_patience 11 = .ok (.bipush 100, 2) := by decide +kernel
theorem dX4_patience_13 : decode cX4_patience 13 = .ok (.if_icmp .gt 10, 3) := by decide +kernel
theorem dX4_patience_16 : decode cX4_patience 16 = .ok (.aload_n 0, 1) := by decide +kernel
theorem dX4_patience_17 : decode cX4_patience 17 = .ok (.getfield 79, 3) := by decide +kernel
theorem dX4_patience_20 : decode cX4_patience 20 = .ok (.ifCond .eq 5, 3) := by decide +kernel
theorem dX4_patience_23 : decode cX4_patience 23 = .ok (.iconst 0, 1) := by decide +kernel
theorem dX4_patience_24 : decode cX4_patience 24 = .ok (.ireturn, 1) := by decide +kernel
theorem dX4_patience_25 : decode cX4_patience 25 = .ok (.aload_n 0, 1) := by decide +kernel
theorem dX4_patience_26 : decode cX4_patience 26 = .ok (.iload_n 1, 1) := by decide +kernel
theorem dX4_patience_27 : decode cX4_patience 27 = .ok (.putfield 13, 3) := by decide +kernel
theorem dX4_patience_30 : decode cX4_patience 30 = .ok (.iconst 1, 1) := by decide +kernel
theorem dX4_patience_31 : decode cX4_patience 31 = .ok (.ireturn, 1) := by decide +kernel
theorem dX4_send_0 : decode cX4_send 0 = .ok (.aload_n 0, 1) := by decide +kernel
theorem dX4_send_1 : decode cX4_send 1 = .ok (.dup, 1) := by decide +kernel
theorem dX4_send_2 : decode cX4_send 2 = .ok (.getfield 97, 3) := by decide +kernel
theorem dX4_send_5 : decode cX4_send 5 = .ok (.iconst 1, 1) := by decide +kernel
theorem dX4_send_6 : decode cX4_send 6 = .ok (.iadd, 1) := by decide +kernel
theorem dX4_send_7 : decode cX4_send 7 = .ok (.putfield 97, 3) := by decide +kernel
theorem dX4_send_10 : decode cX4_send 10 = .ok (.aload_n 0, 1) := by decide +kernel
theorem dX4_send_11 : decode cX4_send 11 = .ok (.getfield 17, 3) := by decide +kernel
theorem dX4_send_14 : decode cX4_send 14 = .ok (.bipush 8, 2) := by decide +kernel
theorem dX4_send_16 : decode cX4_send 16 = .ok (.iload_n 2, 1) := by decide +kernel
theorem dX4_send_17 : decode cX4_send 17 = .ok (.imul, 1) := by decide +kernel
theorem dX4_send_18 : decode cX4_send 18 = .ok (.iload_n 3, 1) := by decide +kernel
theorem dX4_send_19 : decode cX4_send 19 = .ok (.iadd, 1) := by decide +kernel
theorem dX4_send_20 : decode cX4_send 20 = .ok (.iaload, 1) := by decide +kernel
theorem dX4_send_21 : decode cX4_send 21 = .ok (.istore 6, 2) := by decide +kernel
theorem dX4_send_23 : decode cX4_send 23 = .ok (.iload 6, 2) := by decide +kernel
theorem dX4_send_25 : decode cX4_send 25 = .ok (.ifCond .ne 14, 3) := by decide +kernel
theorem dX4_send_28 : decode cX4_send 28 = .ok (.aload_n 0, 1) := by decide +kernel
theorem dX4_send_29 : decode cX4_send 29 = .ok (.dup, 1) := by decide +kernel
theorem dX4_send_30 : decode cX4_send 30 = .ok (.getfield 100, 3) := by decide +kernel
theorem dX4_send_33 : decode cX4_send 33 = .ok (.iconst 1, 1) := by decide +kernel
theorem dX4_send_34 : decode cX4_send 34 = .ok (.iadd, 1) := by decide +kernel
theorem dX4_send_35 : decode cX4_send 35 = .ok (.putfield 100, 3) := by decide +kernel
theorem dX4_send_38 : decode cX4_send 38 = .ok (.return_, 1) := by decide +kernel
theorem dX4_send_39 : decode cX4_send 39 = .ok (.aload_n 0, 1) := by decide +kernel
theorem dX4_send_40 : decode cX4_send 40 = .ok (.getfield 49, 3) := by decide +kernel
theorem dX4_send_43 : decode cX4_send 43 = .ok (.aload_n 0, 1) := by decide +kernel
theorem dX4_send_44 : decode cX4_send 44 = .ok (.getfield 103, 3) := by decide +kernel
theorem dX4_send_47 : decode cX4_send 47 = .ok (.iload_n 1, 1) := by decide +kernel
theorem dX4_send_48 : decode cX4_send 48 = .ok (.iastore, 1) := by decide +kernel
theorem dX4_send_49 : decode cX4_send 49 = .ok (.aload_n 0, 1) := by decide +kernel
theorem dX4_send_50 : decode cX4_send 50 = .ok (.getfield 52, 3) := by decide +kernel
theorem dX4_send_53 : decode cX4_send 53 = .ok (.aload_n 0, 1) := by decide +kernel
theorem dX4_send_54 : decode cX4_send 54 = .ok (.getfield 103, 3) := by decide +kernel
theorem dX4_send_57 : decode cX4_send 57 = .ok (.iload_n 2, 1) := by decide +kernel
theorem dX4_send_58 : decode cX4_send 58 = .ok (.iastore, 1) := by decide +kernel
theorem dX4_send_59 : decode cX4_send 59 = .ok (.aload_n 0, 1) := by decide +kernel
theorem dX4_send_60 : decode cX4_send 60 = .ok (.getfield 55, 3) := by decide +kernel
theorem dX4_send_63 : decode cX4_send 63 = .ok (.aload_n 0, 1) := by decide +kernel
theorem dX4_send_64 : decode cX4_send 64 = .ok (.getfield 103, 3) := by decide +kernel
theorem dX4_send_67 : decode cX4_send 67 = .ok (.iload_n 3, 1) := by decide +kernel
theorem dX4_send_68 : decode cX4_send 68 = .ok (.iastore, 1) := by decide +kernel
theorem dX4_send_69 : decode cX4_send 69 = .ok (.aload_n 0, 1) := by decide +kernel
theorem dX4_send_70 : decode cX4_send 70 = .ok (.getfield 58, 3) := by decide +kernel
theorem dX4_send_73 : decode cX4_send 73 = .ok (.aload_n 0, 1) := by decide +kernel
theorem dX4_send_74 : decode cX4_send 74 = .ok (.getfield 103, 3) := by decide +kernel
theorem dX4_send_77 : decode cX4_send 77 = .ok (.iload 4, 2) := by decide +kernel
theorem dX4_send_79 : decode cX4_send 79 = .ok (.iastore, 1) := by decide +kernel
theorem dX4_send_80 : decode cX4_send 80 = .ok (.aload_n 0, 1) := by decide +kernel
theorem dX4_send_81 : decode cX4_send 81 = .ok (.getfield 61, 3) := by decide +kernel
theorem dX4_send_84 : decode cX4_send 84 = .ok (.aload_n 0, 1) := by decide +kernel
theorem dX4_send_85 : decode cX4_send 85 = .ok (.getfield 103, 3) := by decide +kernel
theorem dX4_send_88 : decode cX4_send 88 = .ok (.iload 5, 2) := by decide +kernel
theorem dX4_send_90 : decode cX4_send 90 = .ok (.iastore, 1) := by decide +kernel
theorem dX4_send_91 : decode cX4_send 91 = .ok (.aload_n 0, 1) := by decide +kernel
theorem dX4_send_92 : decode cX4_send 92 = .ok (.getfield 64, 3) := by decide +kernel
theorem dX4_send_95 : decode cX4_send 95 = .ok (.aload_n 0, 1) := by decide +kernel
theorem dX4_send_96 : decode cX4_send 96 = .ok (.getfield 103, 3) := by decide +kernel
theorem dX4_send_99 : decode cX4_send 99 = .ok (.aload_n 0, 1) := by decide +kernel
theorem dX4_send_100 : decode cX4_send 100 = .ok (.getfield 106, 3) := by decide +kernel
theorem dX4_send_103 : decode cX4_send 103 = .ok (.iload 6, 2) := by decide +kernel
theorem dX4_send_105 : decode cX4_send 105 = .ok (.iadd, 1) := by decide +kernel
theorem dX4_send_106 : decode cX4_send 106 = .ok (.iastore, 1) := by decide +kernel
theorem dX4_send_107 : decode cX4_send 107 = .ok (.aload_n 0, 1) := by decide +kernel
theorem dX4_send_108 : decode cX4_send 108 = .ok (.getfield 67, 3) := by decide +kernel
theorem dX4_send_111 : decode cX4_send 111 = .ok (.aload_n 0, 1) := by decide +kernel
theorem dX4_send_112 : decode cX4_send 112 = .ok (.getfield 103, 3) := by decide +kernel
theorem dX4_send_115 : decode cX4_send 115 = .ok (.aload_n 0, 1) := by decide +kernel
theorem dX4_send_116 : decode cX4_send 116 = .ok (.getfield 109, 3) := by decide +kernel
theorem dX4_send_119 : decode cX4_send 119 = .ok (.iastore, 1) := by decide +kernel
theorem dX4_send_120 : decode cX4_send 120 = .ok (.aload_n 0, 1) := by decide +kernel
theorem dX4_send_121 : decode cX4_send 121 = .ok (.dup, 1) := by decide +kernel
theorem dX4_send_122 : decode cX4_send 122 = .ok (.getfield 109, 3) := by decide +kernel
theorem dX4_send_125 : decode cX4_send 125 = .ok (.iconst 1, 1) := by decide +kernel
theorem dX4_send_126 : decode cX4_send 126 = .ok (.iadd, 1) := by decide +kernel
theorem dX4_send_127 : decode cX4_send 127 = .ok (.putfield 109, 3) := by decide +kernel
theorem dX4_send_130 : decode cX4_send 130 = .ok (.aload_n 0, 1) := by decide +kernel
theorem dX4_send_131 : decode cX4_send 131 = .ok (.dup, 1) := by decide +kernel
theorem dX4_send_132 : decode cX4_send 132 = .ok (.getfield 103, 3) := by decide +kernel
theorem dX4_send_135 : decode cX4_send 135 = .ok (.iconst 1, 1) := by decide +kernel
theorem dX4_send_136 : decode cX4_send 136 = .ok (.iadd, 1) := by decide +kernel
theorem dX4_send_137 : decode cX4_send 137 = .ok (.putfield 103, 3) := by decide +kernel
theorem dX4_send_140 : decode cX4_send 140 = .ok (.return_, 1) := by decide +kernel
theorem dX4_sendAll_0 : decode cX4_sendAll 0 = .ok (.iconst 0, 1) := by decide +kernel
theorem dX4_sendAll_1 : decode cX4_sendAll 1 = .ok (.istore 4, 2) := by decide +kernel
theorem dX4_sendAll_3 : decode cX4_sendAll 3 = .ok (.iload 4, 2) := by decide +kernel
theorem dX4_sendAll_5 : decode cX4_sendAll 5 = .ok (.aload_n 0, 1) := by decide +kernel
theorem dX4_sendAll_6 : decode cX4_sendAll 6 = .ok (.getfield 76, 3) := by decide +kernel
theorem dX4_sendAll_9 : decode cX4_sendAll 9 = .ok (.if_icmp .ge 25, 3) := by decide +kernel
theorem dX4_sendAll_12 : decode cX4_sendAll 12 = .ok (.iload 4, 2) := by decide +kernel
theorem dX4_sendAll_14 : decode cX4_sendAll 14 = .ok (.iload_n 2, 1) := by decide +kernel
theorem dX4_sendAll_15 : decode cX4_sendAll 15 = .ok (.if_icmp .eq 13, 3) := by decide +kernel
theorem dX4_sendAll_18 : decode cX4_sendAll 18 = .ok (.aload_n 0, 1) := by decide +kernel
theorem dX4_sendAll_19 : decode cX4_sendAll 19 = .ok (.iload_n 1, 1) := by decide +kernel
theorem dX4_sendAll_20 : decode cX4_sendAll 20 = .ok (.iload_n 2, 1) := by decide +kernel
theorem dX4_sendAll_21 : decode cX4_sendAll 21 = .ok (.iload 4, 2) := by decide +kernel
theorem dX4_sendAll_23 : decode cX4_sendAll 23 = .ok (.iload_n 3, 1) := by decide +kernel
theorem dX4_sendAll_24 : decode cX4_sendAll 24 = .ok (.iconst 0, 1) := by decide +kernel
theorem dX4_sendAll_25 : decode cX4_sendAll 25 = .ok (.invokevirtual 112, 3) := by decide +kernel
theorem dX4_sendAll_28 : decode cX4_sendAll 28 = .ok (.iinc 4 1, 3) := by decide +kernel
theorem dX4_sendAll_31 : decode cX4_sendAll 31 = .ok (.goto (-28), 3) := by decide +kernel
theorem dX4_sendAll_34 : decode cX4_sendAll 34 = .ok (.return_, 1) := by decide +kernel
theorem dX4_setTimer_0 : decode cX4_setTimer 0 = .ok (.aload_n 0, 1) := by decide +kernel
theorem dX4_setTimer_1 : decode cX4_setTimer 1 = .ok (.getfield 42, 3) := by decide +kernel
theorem dX4_setTimer_4 : decode cX4_setTimer 4 = .ok (.iload_n 1, 1) := by decide +kernel
theorem dX4_setTimer_5 : decode cX4_setTimer 5 = .ok (.aload_n 0, 1) := by decide +kernel
theorem dX4_setTimer_6 : decode cX4_setTimer 6 = .ok (.getfield 106, 3) := by decide +kernel
theorem dX4_setTimer_9 : decode cX4_setTimer 9 = .ok (.iload_n 2, 1) := by decide +kernel
theorem dX4_setTimer_10 : decode cX4_setTimer 10 = .ok (.iadd, 1) := by decide +kernel
theorem dX4_setTimer_11 : decode cX4_setTimer 11 = .ok (.iastore, 1) := by decide +kernel
theorem dX4_setTimer_12 : decode cX4_setTimer 12 = .ok (.aload_n 0, 1) := by decide +kernel
theorem dX4_setTimer_13 : decode cX4_setTimer 13 = .ok (.getfield 45, 3) := by decide +kernel
theorem dX4_setTimer_16 : decode cX4_setTimer 16 = .ok (.iload_n 1, 1) := by decide +kernel
theorem dX4_setTimer_17 : decode cX4_setTimer 17 = .ok (.aload_n 0, 1) := by decide +kernel
theorem dX4_setTimer_18 : decode cX4_setTimer 18 = .ok (.getfield 109, 3) := by decide +kernel
theorem dX4_setTimer_21 : decode cX4_setTimer 21 = .ok (.iastore, 1) := by decide +kernel
theorem dX4_setTimer_22 : decode cX4_setTimer 22 = .ok (.aload_n 0, 1) := by decide +kernel
theorem dX4_setTimer_23 : decode cX4_setTimer 23 = .ok (.dup, 1) := by decide +kernel
theorem dX4_setTimer_24 : decode cX4_setTimer 24 = .ok (.getfield 109, 3) := by decide +kernel
theorem dX4_setTimer_27 : decode cX4_setTimer 27 = .ok (.iconst 1, 1) := by decide +kernel
theorem dX4_setTimer_28 : decode cX4_setTimer 28 = .ok (.iadd, 1) := by decide +kernel
theorem dX4_setTimer_29 : decode cX4_setTimer 29 = .ok (.putfield 109, 3) := by decide +kernel
theorem dX4_setTimer_32 : decode cX4_setTimer 32 = .ok (.return_, 1) := by decide +kernel
theorem dX4_isDecided_0 : decode cX4_isDecided 0 = .ok (.aload_n 0, 1) := by decide +kernel
theorem dX4_isDecided_1 : decode cX4_isDecided 1 = .ok (.getfield 20, 3) := by decide +kernel
theorem dX4_isDecided_4 : decode cX4_isDecided 4 = .ok (.iload_n 1, 1) := by decide +kernel
theorem dX4_isDecided_5 : decode cX4_isDecided 5 = .ok (.iaload, 1) := by decide +kernel
theorem dX4_isDecided_6 : decode cX4_isDecided 6 = .ok (.iconst 4, 1) := by decide +kernel
theorem dX4_isDecided_7 : decode cX4_isDecided 7 = .ok (.if_icmp .eq 13, 3) := by decide +kernel
theorem dX4_isDecided_10 : decode cX4_isDecided 10 = .ok (.aload_n 0, 1) := by decide +kernel
theorem dX4_isDecided_11 : decode cX4_isDecided 11 = .ok (.getfield 20, 3) := by decide +kernel
theorem dX4_isDecided_14 : decode cX4_isDecided 14 = .ok (.iload_n 1, 1) := by decide +kernel
theorem dX4_isDecided_15 : decode cX4_isDecided 15 = .ok (.iaload, 1) := by decide +kernel
theorem dX4_isDecided_16 : decode cX4_isDecided 16 = .ok (.iconst 5, 1) := by decide +kernel
theorem dX4_isDecided_17 : decode cX4_isDecided 17 = .ok (.if_icmp .ne 7, 3) := by decide +kernel
theorem dX4_isDecided_20 : decode cX4_isDecided 20 = .ok (.iconst 1, 1) := by decide +kernel
theorem dX4_isDecided_21 : decode cX4_isDecided 21 = .ok (.goto 4, 3) := by decide +kernel
theorem dX4_isDecided_24 : decode cX4_isDecided 24 = .ok (.iconst 0, 1) := by decide +kernel
theorem dX4_isDecided_25 : decode cX4_isDecided 25 = .ok (.ireturn, 1) := by decide +kernel
theorem dX4_become_0 : decode cX4_become 0 = .ok (.aload_n 0, 1) := by decide +kernel
theorem dX4_become_1 : decode cX4_become 1 = .ok (.getfield 20, 3) := by decide +kernel
theorem dX4_become_4 : decode cX4_become 4 = .ok (.iload_n 1, 1) := by decide +kernel
theorem dX4_become_5 : decode cX4_become 5 = .ok (.iload_n 2, 1) := by decide +kernel
theorem dX4_become_6 : decode cX4_become 6 = .ok (.iastore, 1) := by decide +kernel
theorem dX4_become_7 : decode cX4_become 7 = .ok (.aload_n 0, 1) := by decide +kernel
theorem dX4_become_8 : decode cX4_become 8 = .ok (.getfield 23, 3) := by decide +kernel
theorem dX4_become_11 : decode cX4_become 11 = .ok (.iload_n 1, 1) := by decide +kernel
theorem dX4_become_12 : decode cX4_become 12 = .ok (.aload_n 0, 1) := by decide +kernel
theorem dX4_become_13 : decode cX4_become 13 = .ok (.getfield 106, 3) := by decide +kernel
theorem dX4_become_16 : decode cX4_become 16 = .ok (.iastore, 1) := by decide +kernel
theorem dX4_become_17 : decode cX4_become 17 = .ok (.iload_n 2, 1) := by decide +kernel
theorem dX4_become_18 : decode cX4_become 18 = .ok (.iconst 4, 1) := by decide +kernel
theorem dX4_become_19 : decode cX4_become 19 = .ok (.if_icmp .lt 17, 3) := by decide +kernel
theorem dX4_become_22 : decode cX4_become 22 = .ok (.aload_n 0, 1) := by decide +kernel
theorem dX4_become_23 : decode cX4_become 23 = .ok (.getfield 33, 3) := by decide +kernel
theorem dX4_become_26 : decode cX4_become 26 = .ok (.iload_n 1, 1) := by decide +kernel
theorem dX4_become_27 : decode cX4_become 27 = .ok (.iconst 0, 1) := by decide +kernel
theorem dX4_become_28 : decode cX4_become 28 = .ok (.iastore, 1) := by decide +kernel
theorem dX4_become_29 : decode cX4_become 29 = .ok (.aload_n 0, 1) := by decide +kernel
theorem dX4_become_30 : decode cX4_become 30 = .ok (.getfield 42, 3) := by decide +kernel
theorem dX4_become_33 : decode cX4_become 33 = .ok (.iload_n 1, 1) := by decide +kernel
theorem dX4_become_34 : decode cX4_become 34 = .ok (.iconst (-1), 1) := by decide +kernel
theorem dX4_become_35 : decode cX4_become 35 = .ok (.iastore, 1) := by decide +kernel
theorem dX4_become_36 : decode cX4_become 36 = .ok (.return_, 1) := by decide +kernel
theorem dX4_decide_0 : decode cX4_decide 0 = .ok (.aload_n 0, 1) := by decide +kernel
theorem dX4_decide_1 : decode cX4_decide 1 = .ok (.iload_n 1, 1) := by decide +kernel
theorem dX4_decide_2 : decode cX4_decide 2 = .ok (.iload_n 2, 1) := by decide +kernel
theorem dX4_decide_3 : decode cX4_decide 3 = .ok (.invokevirtual 116, 3) := by decide +kernel
theorem dX4_decide_6 : decode cX4_decide 6 = .ok (.aload_n 0, 1) := by decide +kernel
theorem dX4_decide_7 : decode cX4_decide 7 = .ok (.iload_n 2, 1) := by decide +kernel
theorem dX4_decide_8 : decode cX4_decide 8 = .ok (.iconst 4, 1) := by decide +kernel
theorem dX4_decide_9 : decode cX4_decide 9 = .ok (.if_icmp .ne 8, 3) := by decide +kernel
theorem dX4_decide_12 : decode cX4_decide 12 = .ok (.bipush 9, 2) := by decide +kernel
theorem dX4_decide_14 : decode cX4_decide 14 = .ok (.goto 5, 3) := by decide +kernel
theorem dX4_decide_17 : decode cX4_decide 17 = .ok (.bipush 10, 2) := by decide +kernel
theorem dX4_decide_19 : decode cX4_decide 19 = .ok (.iload_n 1, 1) := by decide +kernel
theorem dX4_decide_20 : decode cX4_decide 20 = .ok (.iconst 0, 1) := by decide +kernel
theorem dX4_decide_21 : decode cX4_decide 21 = .ok (.invokevirtual 120, 3) := by decide +kernel
theorem dX4_decide_24 : decode cX4_decide 24 = .ok (.return_, 1) := by decide +kernel
theorem dX4_clearThere_0 : decode cX4_clearThere 0 = .ok (.iconst 0, 1) := by decide +kernel
theorem dX4_clearThere_1 : decode cX4_clearThere 1 = .ok (.istore_n 3, 1) := by decide +kernel
theorem dX4_clearThere_2 : decode cX4_clearThere 2 = .ok (.iload_n 3, 1) := by decide +kernel
theorem dX4_clearThere_3 : decode cX4_clearThere 3 = .ok (.bipush 8, 2) := by decide +kernel
theorem dX4_clearThere_5 : decode cX4_clearThere 5 = .ok (.if_icmp .ge 30, 3) := by decide +kernel
theorem dX4_clearThere_8 : decode cX4_clearThere 8 = .ok (.aload_n 0, 1) := by decide +kernel
theorem dX4_clearThere_9 : decode cX4_clearThere 9 = .ok (.getfield 39, 3) := by decide +kernel
theorem dX4_clearThere_12 : decode cX4_clearThere 12 = .ok (.bipush 8, 2) := by decide +kernel
theorem dX4_clearThere_14 : decode cX4_clearThere 14 = .ok (.iload_n 1, 1) := by decide +kernel
theorem dX4_clearThere_15 : decode cX4_clearThere 15 = .ok (.imul, 1) := by decide +kernel
theorem dX4_clearThere_16 : decode cX4_clearThere 16 = .ok (.iload_n 3, 1) := by decide +kernel
theorem dX4_clearThere_17 : decode cX4_clearThere 17 = .ok (.iadd, 1) := by decide +kernel
theorem dX4_clearThere_18 : decode cX4_clearThere 18 = .ok (.iload_n 3, 1) := by decide +kernel
theorem dX4_clearThere_19 : decode cX4_clearThere 19 = .ok (.iload_n 1, 1) := by decide +kernel
theorem dX4_clearThere_20 : decode cX4_clearThere 20 = .ok (.if_icmp .ne 7, 3) := by decide +kernel
theorem dX4_clearThere_23 : decode cX4_clearThere 23 = .ok (.iload_n 2, 1) := by decide +kernel
theorem dX4_clearThere_24 : decode cX4_clearThere 24 = .ok (.goto 4, 3) := by decide +kernel
theorem dX4_clearThere_27 : decode cX4_clearThere 27 = .ok (.iconst 0, 1) := by decide +kernel
theorem dX4_clearThere_28 : decode cX4_clearThere 28 = .ok (.iastore, 1) := by decide +kernel
theorem dX4_clearThere_29 : decode cX4_clearThere 29 = .ok (.iinc 3 1, 3) := by decide +kernel
theorem dX4_clearThere_32 : decode cX4_clearThere 32 = .ok (.goto (-30), 3) := by decide +kernel
theorem dX4_clearThere_35 : decode cX4_clearThere 35 = .ok (.return_, 1) := by decide +kernel
theorem dX4_weightThere_0 : decode cX4_weightThere 0 = .ok (.iconst 0, 1) := by decide +kernel
theorem dX4_weightThere_1 : decode cX4_weightThere 1 = .ok (.istore_n 2, 1) := by decide +kernel
theorem dX4_weightThere_2 : decode cX4_weightThere 2 = .ok (.iconst 0, 1) := by decide +kernel
theorem dX4_weightThere_3 : decode cX4_weightThere 3 = .ok (.istore_n 3, 1) := by decide +kernel
theorem dX4_weightThere_4 : decode cX4_weightThere 4 = .ok (.iload_n 3, 1) := by decide +kernel
theorem dX4_weightThere_5 : decode cX4_weightThere 5 = .ok (.aload_n 0, 1) := by decide +kernel
theorem dX4_weightThere_6 : decode cX4_weightThere 6 = .ok (.getfield 76, 3) := by decide +kernel
theorem dX4_weightThere_9 : decode cX4_weightThere 9 = .ok (.if_icmp .ge 36, 3) := by decide +kernel
theorem dX4_weightThere_12 : decode cX4_weightThere 12 = .ok (.aload_n 0, 1) := by decide +kernel
theorem dX4_weightThere_13 : decode cX4_weightThere 13 = .ok (.getfield 39, 3) := by decide +kernel
theorem dX4_weightThere_16 : decode cX4_weightThere 16 = .ok (.bipush 8, 2) := by decide +kernel
theorem dX4_weightThere_18 : decode cX4_weightThere 18 = .ok (.iload_n 1, 1) := by decide +kernel
theorem dX4_weightThere_19 : decode cX4_weightThere 19 = .ok (.imul, 1) := by decide +kernel
theorem dX4_weightThere_20 : decode cX4_weightThere 20 = .ok (.iload_n 3, 1) := by decide +kernel
theorem dX4_weightThere_21 : decode cX4_weightThere 21 = .ok (.iadd, 1) := by decide +kernel
theorem dX4_weightThere_22 : decode cX4_weightThere 22 = .ok (.iaload, 1) := by decide +kernel
theorem dX4_weightThere_23 : decode cX4_weightThere 23 = .ok (.ifCond .le 14, 3) := by decide +kernel
theorem dX4_weightThere_26 : decode cX4_weightThere 26 = .ok (.iload_n 2, 1) := by decide +kernel
theorem dX4_weightThere_27 : decode cX4_weightThere 27 = .ok (.aload_n 0, 1) := by decide +kernel
theorem dX4_weightThere_28 : decode cX4_weightThere 28 = .ok (.getfield 7, 3) := by decide +kernel
theorem dX4_weightThere_31 : decode cX4_weightThere 31 = .ok (.iload_n 3, 1) := by decide +kernel
theorem dX4_weightThere_32 : decode cX4_weightThere 32 = .ok (.iaload, 1) := by decide +kernel
theorem dX4_weightThere_33 : decode cX4_weightThere 33 = .ok (.iadd, 1) := by decide +kernel
theorem dX4_weightThere_34 : decode cX4_weightThere 34 = .ok (.goto 4, 3) := by decide +kernel
theorem dX4_weightThere_37 : decode cX4_weightThere 37 = .ok (.iload_n 2, 1) := by decide +kernel
theorem dX4_weightThere_38 : decode cX4_weightThere 38 = .ok (.istore_n 2, 1) := by decide +kernel
theorem dX4_weightThere_39 : decode cX4_weightThere 39 = .ok (.iinc 3 1, 3) := by decide +kernel
theorem dX4_weightThere_42 : decode cX4_weightThere 42 = .ok (.goto (-38), 3) := by decide +kernel
theorem dX4_weightThere_45 : decode cX4_weightThere 45 = .ok (.iload_n 2, 1) := by decide +kernel
theorem dX4_weightThere_46 : decode cX4_weightThere 46 = .ok (.ireturn, 1) := by decide +kernel
theorem dX4_checkVotes_0 : decode cX4_checkVotes 0 = .ok (.iconst 1, 1) := by decide +kernel
theorem dX4_checkVotes_1 : decode cX4_checkVotes 1 = .ok (.istore_n 2, 1) := by decide +kernel
theorem dX4_checkVotes_2 : decode cX4_checkVotes 2 = .ok (.iconst 0, 1) := by decide +kernel
theorem dX4_checkVotes_3 : decode cX4_checkVotes 3 = .ok (.istore_n 3, 1) := by decide +kernel
theorem dX4_checkVotes_4 : decode cX4_checkVotes 4 = .ok (.iload_n 3, 1) := by decide +kernel
theorem dX4_checkVotes_5 : decode cX4_checkVotes 5 = .ok (.aload_n 0, 1) := by decide +kernel
theorem dX4_checkVotes_6 : decode cX4_checkVotes 6 = .ok (.getfield 76, 3) := by decide +kernel
theorem dX4_checkVotes_9 : decode cX4_checkVotes 9 = .ok (.if_icmp .ge 33, 3) := by decide +kernel
theorem dX4_checkVotes_12 : decode cX4_checkVotes 12 = .ok (.iload_n 2, 1) := by decide +kernel
theorem dX4_checkVotes_13 : decode cX4_checkVotes 13 = .ok (.ifCond .eq 21, 3) := by decide +kernel
theorem dX4_checkVotes_16 : decode cX4_checkVotes 16 = .ok (.aload_n 0, 1) := by decide +kernel
theorem dX4_checkVotes_17 : decode cX4_checkVotes 17 = .ok (.getfield 39, 3) := by decide +kernel
theorem dX4_checkVotes_20 : decode cX4_checkVotes 20 = .ok (.bipush 8, 2) := by decide +kernel
theorem dX4_checkVotes_22 : decode cX4_checkVotes 22 = .ok (.iload_n 1, 1) := by decide +kernel
theorem dX4_checkVotes_23 : decode cX4_checkVotes 23 = .ok (.imul, 1) := by decide +kernel
theorem dX4_checkVotes_24 : decode cX4_checkVotes 24 = .ok (.iload_n 3, 1) := by decide +kernel
theorem dX4_checkVotes_25 : decode cX4_checkVotes 25 = .ok (.iadd, 1) := by decide +kernel
theorem dX4_checkVotes_26 : decode cX4_checkVotes 26 = .ok (.iaload, 1) := by decide +kernel
theorem dX4_checkVotes_27 : decode cX4_checkVotes 27 = .ok (.ifCond .le 7, 3) := by decide +kernel
theorem dX4_checkVotes_30 : decode cX4_checkVotes 30 = .ok (.iconst 1, 1) := by decide +kernel
theorem dX4_checkVotes_31 : decode cX4_checkVotes 31 = .ok (.goto 4, 3) := by decide +kernel
theorem dX4_checkVotes_34 : decode cX4_checkVotes 34 = .ok (.iconst 0, 1) := by decide +kernel
theorem dX4_checkVotes_35 : decode cX4_checkVotes 35 = .ok (.istore_n 2, 1) := by decide +kernel
theorem dX4_checkVotes_36 : decode cX4_checkVotes 36 = .ok (.iinc 3 1, 3) := by decide +kernel
theorem dX4_checkVotes_39 : decode cX4_checkVotes 39 = .ok (.goto (-35), 3) := by decide +kernel
theorem dX4_checkVotes_42 : decode cX4_checkVotes 42 = .ok (.iload_n 2, 1) := by decide +kernel
theorem dX4_checkVotes_43 : decode cX4_checkVotes 43 = .ok (.ifCond .eq 19, 3) := by decide +kernel
theorem dX4_checkVotes_46 : decode cX4_checkVotes 46 = .ok (.aload_n 0, 1) := by decide +kernel
theorem dX4_checkVotes_47 : decode cX4_checkVotes 47 = .ok (.getfield 36, 3) := by decide +kernel
theorem dX4_checkVotes_50 : decode cX4_checkVotes 50 = .ok (.iload_n 1, 1) := by decide +kernel
theorem dX4_checkVotes_51 : decode cX4_checkVotes 51 = .ok (.dup2, 1) := by decide +kernel
theorem dX4_checkVotes_52 : decode cX4_checkVotes 52 = .ok (.iaload, 1) := by decide +kernel
theorem dX4_checkVotes_53 : decode cX4_checkVotes 53 = .ok (.iconst 1, 1) := by decide +kernel
theorem dX4_checkVotes_54 : decode cX4_checkVotes 54 = .ok (.iadd, 1) := by decide +kernel
theorem dX4_checkVotes_55 : decode cX4_checkVotes 55 = .ok (.iastore, 1) := by decide +kernel
theorem dX4_checkVotes_56 : decode cX4_checkVotes 56 = .ok (.aload_n 0, 1) := by decide +kernel
theorem dX4_checkVotes_57 : decode cX4_checkVotes 57 = .ok (.iload_n 1, 1) := by decide +kernel
theorem dX4_checkVotes_58 : decode cX4_checkVotes 58 = .ok (.iconst 2, 1) := by decide +kernel
theorem dX4_checkVotes_59 : decode cX4_checkVotes 59 = .ok (.invokevirtual 124, 3) := by decide +kernel
theorem dX4_checkVotes_62 : decode cX4_checkVotes 62 = .ok (.return_, 1) := by decide +kernel
theorem dX4_lead_0 : decode cX4_lead 0 = .ok (.aload_n 0, 1) := by decide +kernel
theorem dX4_lead_1 : decode cX4_lead 1 = .ok (.getfield 20, 3) := by decide +kernel
theorem dX4_lead_4 : decode cX4_lead 4 = .ok (.iload_n 1, 1) := by decide +kernel
theorem dX4_lead_5 : decode cX4_lead 5 = .ok (.iaload, 1) := by decide +kernel
theorem dX4_lead_6 : decode cX4_lead 6 = .ok (.iconst 1, 1) := by decide +kernel
theorem dX4_lead_7 : decode cX4_lead 7 = .ok (.if_icmp .ne 9, 3) := by decide +kernel
theorem dX4_lead_10 : decode cX4_lead 10 = .ok (.aload_n 0, 1) := by decide +kernel
theorem dX4_lead_11 : decode cX4_lead 11 = .ok (.iload_n 1, 1) := by decide +kernel
theorem dX4_lead_12 : decode cX4_lead 12 = .ok (.iload_n 2, 1) := by decide +kernel
theorem dX4_lead_13 : decode cX4_lead 13 = .ok (.invokevirtual 116, 3) := by decide +kernel
theorem dX4_lead_16 : decode cX4_lead 16 = .ok (.aload_n 0, 1) := by decide +kernel
theorem dX4_lead_17 : decode cX4_lead 17 = .ok (.getfield 33, 3) := by decide +kernel
theorem dX4_lead_20 : decode cX4_lead 20 = .ok (.iload_n 1, 1) := by decide +kernel
theorem dX4_lead_21 : decode cX4_lead 21 = .ok (.iload_n 2, 1) := by decide +kernel
theorem dX4_lead_22 : decode cX4_lead 22 = .ok (.iconst 2, 1) := by decide +kernel
theorem dX4_lead_23 : decode cX4_lead 23 = .ok (.if_icmp .ne 7, 3) := by decide +kernel
theorem dX4_lead_26 : decode cX4_lead 26 = .ok (.iconst 2, 1) := by decide +kernel
theorem dX4_lead_27 : decode cX4_lead 27 = .ok (.goto 4, 3) := by decide +kernel
theorem dX4_lead_30 : decode cX4_lead 30 = .ok (.iconst 4, 1) := by decide +kernel
theorem dX4_lead_31 : decode cX4_lead 31 = .ok (.iastore, 1) := by decide +kernel
theorem dX4_lead_32 : decode cX4_lead 32 = .ok (.aload_n 0, 1) := by decide +kernel
theorem dX4_lead_33 : decode cX4_lead 33 = .ok (.iload_n 1, 1) := by decide +kernel
theorem dX4_lead_34 : decode cX4_lead 34 = .ok (.aload_n 0, 1) := by decide +kernel
theorem dX4_lead_35 : decode cX4_lead 35 = .ok (.getfield 20, 3) := by decide +kernel
theorem dX4_lead_38 : decode cX4_lead 38 = .ok (.iload_n 1, 1) := by decide +kernel
theorem dX4_lead_39 : decode cX4_lead 39 = .ok (.iaload, 1) := by decide +kernel
theorem dX4_lead_40 : decode cX4_lead 40 = .ok (.iload_n 2, 1) := by decide +kernel
theorem dX4_lead_41 : decode cX4_lead 41 = .ok (.if_icmp .ne 7, 3) := by decide +kernel
theorem dX4_lead_44 : decode cX4_lead 44 = .ok (.iconst 1, 1) := by decide +kernel
theorem dX4_lead_45 : decode cX4_lead 45 = .ok (.goto 4, 3) := by decide +kernel
theorem dX4_lead_48 : decode cX4_lead 48 = .ok (.iconst 0, 1) := by decide +kernel
theorem dX4_lead_49 : decode cX4_lead 49 = .ok (.invokevirtual 127, 3) := by decide +kernel
theorem dX4_lead_52 : decode cX4_lead 52 = .ok (.aload_n 0, 1) := by decide +kernel
theorem dX4_lead_53 : decode cX4_lead 53 = .ok (.iload_n 2, 1) := by decide +kernel
theorem dX4_lead_54 : decode cX4_lead 54 = .ok (.iconst 2, 1) := by decide +kernel
theorem dX4_lead_55 : decode cX4_lead 55 = .ok (.if_icmp .ne 8, 3) := by decide +kernel
theorem dX4_lead_58 : decode cX4_lead 58 = .ok (.bipush 6, 2) := by decide +kernel
theorem dX4_lead_60 : decode cX4_lead 60 = .ok (.goto 5, 3) := by decide +kernel
theorem dX4_lead_63 : decode cX4_lead 63 = .ok (.bipush 7, 2) := by decide +kernel
theorem dX4_lead_65 : decode cX4_lead 65 = .ok (.iload_n 1, 1) := by decide +kernel
theorem dX4_lead_66 : decode cX4_lead 66 = .ok (.aload_n 0, 1) := by decide +kernel
theorem dX4_lead_67 : decode cX4_lead 67 = .ok (.getfield 36, 3) := by decide +kernel
theorem dX4_lead_70 : decode cX4_lead 70 = .ok (.iload_n 1, 1) := by decide +kernel
theorem dX4_lead_71 : decode cX4_lead 71 = .ok (.iaload, 1) := by decide +kernel
theorem dX4_lead_72 : decode cX4_lead 72 = .ok (.invokevirtual 120, 3) := by decide +kernel
theorem dX4_lead_75 : decode cX4_lead 75 = .ok (.aload_n 0, 1) := by decide +kernel
theorem dX4_lead_76 : decode cX4_lead 76 = .ok (.iload_n 1, 1) := by decide +kernel
theorem dX4_lead_77 : decode cX4_lead 77 = .ok (.aload_n 0, 1) := by decide +kernel
theorem dX4_lead_78 : decode cX4_lead 78 = .ok (.getfield 13, 3) := by decide +kernel
theorem dX4_lead_81 : decode cX4_lead 81 = .ok (.invokevirtual 130, 3) := by decide +kernel
theorem dX4_lead_84 : decode cX4_lead 84 = .ok (.aload_n 0, 1) := by decide +kernel
theorem dX4_lead_85 : decode cX4_lead 85 = .ok (.iload_n 1, 1) := by decide +kernel
theorem dX4_lead_86 : decode cX4_lead 86 = .ok (.invokevirtual 133, 3) := by decide +kernel
theorem dX4_lead_89 : decode cX4_lead 89 = .ok (.return_, 1) := by decide +kernel
theorem dX4_checkQuorum_0 : decode cX4_checkQuorum 0 = .ok (.aload_n 0, 1) := by decide +kernel
theorem dX4_checkQuorum_1 : decode cX4_checkQuorum 1 = .ok (.iload_n 1, 1) := by decide +kernel
theorem dX4_checkQuorum_2 : decode cX4_checkQuorum 2 = .ok (.invokevirtual 137, 3) := by decide +kernel
theorem dX4_checkQuorum_5 : decode cX4_checkQuorum 5 = .ok (.istore_n 2, 1) := by decide +kernel
theorem dX4_checkQuorum_6 : decode cX4_checkQuorum 6 = .ok (.aload_n 0, 1) := by decide +kernel
theorem dX4_checkQuorum_7 : decode cX4_checkQuorum 7 = .ok (.getfield 33, 3) := by decide +kernel
theorem dX4_checkQuorum_10 : decode cX4_checkQuorum 10 = .ok (.iload_n 1, 1) := by decide +kernel
theorem dX4_checkQuorum_11 : decode cX4_checkQuorum 11 = .ok (.iaload, 1) := by decide +kernel
theorem dX4_checkQuorum_12 : decode cX4_checkQuorum 12 = .ok (.iconst 2, 1) := by decide +kernel
theorem dX4_checkQuorum_13 : decode cX4_checkQuorum 13 = .ok (.if_icmp .ne 20, 3) := by decide +kernel
theorem dX4_checkQuorum_16 : decode cX4_checkQuorum 16 = .ok (.iload_n 2, 1) := by decide +kernel
theorem dX4_checkQuorum_17 : decode cX4_checkQuorum 17 = .ok (.aload_n 0, 1) := by decide +kernel
theorem dX4_checkQuorum_18 : decode cX4_checkQuorum 18 = .ok (.getfield 87, 3) := by decide +kernel
theorem dX4_checkQuorum_21 : decode cX4_checkQuorum 21 = .ok (.if_icmp .lt 12, 3) := by decide +kernel
theorem dX4_checkQuorum_24 : decode cX4_checkQuorum 24 = .ok (.aload_n 0, 1) := by decide +kernel
theorem dX4_checkQuorum_25 : decode cX4_checkQuorum 25 = .ok (.iload_n 1, 1) := by decide +kernel
theorem dX4_checkQuorum_26 : decode cX4_checkQuorum 26 = .ok (.iconst 4, 1) := by decide +kernel
theorem dX4_checkQuorum_27 : decode cX4_checkQuorum 27 = .ok (.invokevirtual 141, 3) := by decide +kernel
theorem dX4_checkQuorum_30 : decode cX4_checkQuorum 30 = .ok (.goto 27, 3) := by decide +kernel
theorem dX4_checkQuorum_33 : decode cX4_checkQuorum 33 = .ok (.aload_n 0, 1) := by decide +kernel
theorem dX4_checkQuorum_34 : decode cX4_checkQuorum 34 = .ok (.getfield 33, 3) := by decide +kernel
theorem dX4_checkQuorum_37 : decode cX4_checkQuorum 37 = .ok (.iload_n 1, 1) := by decide +kernel
theorem dX4_checkQuorum_38 : decode cX4_checkQuorum 38 = .ok (.iaload, 1) := by decide +kernel
theorem dX4_checkQuorum_39 : decode cX4_checkQuorum 39 = .ok (.iconst 4, 1) := by decide +kernel
theorem dX4_checkQuorum_40 : decode cX4_checkQuorum 40 = .ok (.if_icmp .ne 17, 3) := by decide +kernel
theorem dX4_checkQuorum_43 : decode cX4_checkQuorum 43 = .ok (.iload_n 2, 1) := by decide +kernel
theorem dX4_checkQuorum_44 : decode cX4_checkQuorum 44 = .ok (.aload_n 0, 1) := by decide +kernel
theorem dX4_checkQuorum_45 : decode cX4_checkQuorum 45 = .ok (.getfield 90, 3) := by decide +kernel
theorem dX4_checkQuorum_48 : decode cX4_checkQuorum 48 = .ok (.if_icmp .lt 9, 3) := by decide +kernel
theorem dX4_checkQuorum_51 : decode cX4_checkQuorum 51 = .ok (.aload_n 0, 1) := by decide +kernel
theorem dX4_checkQuorum_52 : decode cX4_checkQuorum 52 = .ok (.iload_n 1, 1) := by decide +kernel
theorem dX4_checkQuorum_53 : decode cX4_checkQuorum 53 = .ok (.iconst 5, 1) := by decide +kernel
