theorem dX0_init_0 : decode cX0_init 0 = .ok (.aload_n 0, 1) := by decide +kernel
theorem dX0_init_1 : decode cX0_init 1 = .ok (.invokespecial 1, 3) := by decide +kernel
theorem dX0_init_4 : decode cX0_init 4 = .ok (.return_, 1) := by decide +kernel
theorem dX1_init_0 : decode cX1_init 0 = .ok (.aload_n 0, 1) := by decide +kernel
theorem dX1_init_1 : decode cX1_init 1 = .ok (.invokespecial 3, 3) := by decide +kernel
theorem dX1_init_4 : decode cX1_init 4 = .ok (.aload_n 0, 1) := by decide +kernel
theorem dX1_init_5 : decode cX1_init 5 = .ok (.bipush 8, 2) := by decide +kernel
theorem dX1_init_7 : decode cX1_init 7 = .ok (.bipush 8, 2) := by decide +kernel
theorem dX1_init_9 : decode cX1_init 9 = .ok (.multianewarray 9 2, 4) := by decide +kernel
theorem dX1_init_13 : decode cX1_init 13 = .ok (.putfield 11, 3) := by decide +kernel
theorem dX1_init_16 : decode cX1_init 16 = .ok (.aload_n 0, 1) := by decide +kernel
theorem dX1_init_17 : decode cX1_init 17 = .ok (.bipush 32, 2) := by decide +kernel
theorem dX1_init_19 : decode cX1_init 19 = .ok (.anewarray 16, 3) := by decide +kernel
theorem dX1_init_22 : decode cX1_init 22 = .ok (.putfield 18, 3) := by decide +kernel
theorem dX1_init_25 : decode cX1_init 25 = .ok (.aload_n 0, 1) := by decide +kernel
theorem dX1_init_26 : decode cX1_init 26 = .ok (.bipush 32, 2) := by decide +kernel
theorem dX1_init_28 : decode cX1_init 28 = .ok (.anewarray 16, 3) := by decide +kernel
theorem dX1_init_31 : decode cX1_init 31 = .ok (.putfield 22, 3) := by decide +kernel
theorem dX1_init_34 : decode cX1_init 34 = .ok (.iconst 0, 1) := by decide +kernel
theorem dX1_init_35 : decode cX1_init 35 = .ok (.istore_n 1, 1) := by decide +kernel
theorem dX1_init_36 : decode cX1_init 36 = .ok (.iload_n 1, 1) := by decide +kernel
theorem dX1_init_37 : decode cX1_init 37 = .ok (.bipush 8, 2) := by decide +kernel
theorem dX1_init_39 : decode cX1_init 39 = .ok (.if_icmp .ge 32, 3) := by decide +kernel
theorem dX1_init_42 : decode cX1_init 42 = .ok (.iconst 0, 1) := by decide +kernel
theorem dX1_init_43 : decode cX1_init 43 = .ok (.istore_n 2, 1) := by decide +kernel
theorem dX1_init_44 : decode cX1_init 44 = .ok (.iload_n 2, 1) := by decide +kernel
theorem dX1_init_45 : decode cX1_init 45 = .ok (.bipush 8, 2) := by decide +kernel
theorem dX1_init_47 : decode cX1_init 47 = .ok (.if_icmp .ge 18, 3) := by decide +kernel
theorem dX1_init_50 : decode cX1_init 50 = .ok (.aload_n 0, 1) := by decide +kernel
theorem dX1_init_51 : decode cX1_init 51 = .ok (.getfield 11, 3) := by decide +kernel
theorem dX1_init_54 : decode cX1_init 54 = .ok (.iload_n 1, 1) := by decide +kernel
theorem dX1_init_55 : decode cX1_init 55 = .ok (.aaload, 1) := by decide +kernel
theorem dX1_init_56 : decode cX1_init 56 = .ok (.iload_n 2, 1) := by decide +kernel
theorem dX1_init_57 : decode cX1_init 57 = .ok (.iconst 1, 1) := by decide +kernel
theorem dX1_init_58 : decode cX1_init 58 = .ok (.iastore, 1) := by decide +kernel
theorem dX1_init_59 : decode cX1_init 59 = .ok (.iinc 2 1, 3) := by decide +kernel
theorem dX1_init_62 : decode cX1_init 62 = .ok (.goto (-18), 3) := by decide +kernel
theorem dX1_init_65 : decode cX1_init 65 = .ok (.iinc 1 1, 3) := by decide +kernel
theorem dX1_init_68 : decode cX1_init 68 = .ok (.goto (-32), 3) := by decide +kernel
theorem dX1_init_71 : decode cX1_init 71 = .ok (.return_, 1) := by decide +kernel
theorem dX1_startAnew_0 : decode cX1_startAnew 0 = .ok (.iconst 0, 1) := by decide +kernel
theorem dX1_startAnew_1 : decode cX1_startAnew 1 = .ok (.istore_n 1, 1) := by decide +kernel
theorem dX1_startAnew_2 : decode cX1_startAnew 2 = .ok (.iload_n 1, 1) := by decide +kernel
theorem dX1_startAnew_3 : decode cX1_startAnew 3 = .ok (.bipush 32, 2) := by decide +kernel
theorem dX1_startAnew_5 : decode cX1_startAnew 5 = .ok (.if_icmp .ge 55, 3) := by decide +kernel
theorem dX1_startAnew_8 : decode cX1_startAnew 8 = .ok (.aload_n 0, 1) := by decide +kernel
theorem dX1_startAnew_9 : decode cX1_startAnew 9 = .ok (.getfield 22, 3) := by decide +kernel
theorem dX1_startAnew_12 : decode cX1_startAnew 12 = .ok (.iload_n 1, 1) := by decide +kernel
theorem dX1_startAnew_13 : decode cX1_startAnew 13 = .ok (.aaload, 1) := by decide +kernel
theorem dX1_startAnew_14 : decode cX1_startAnew 14 = .ok (.ifnull 26, 3) := by decide +kernel
theorem dX1_startAnew_17 : decode cX1_startAnew 17 = .ok (.aload_n 0, 1) := by decide +kernel
theorem dX1_startAnew_18 : decode cX1_startAnew 18 = .ok (.getfield 22, 3) := by decide +kernel
theorem dX1_startAnew_21 : decode cX1_startAnew 21 = .ok (.iload_n 1, 1) := by decide +kernel
theorem dX1_startAnew_22 : decode cX1_startAnew 22 = .ok (.aaload, 1) := by decide +kernel
theorem dX1_startAnew_23 : decode cX1_startAnew 23 = .ok (.aload_n 0, 1) := by decide +kernel
theorem dX1_startAnew_24 : decode cX1_startAnew 24 = .ok (.getfield 25, 3) := by decide +kernel
theorem dX1_startAnew_27 : decode cX1_startAnew 27 = .ok (.putfield 29, 3) := by decide +kernel
theorem dX1_startAnew_30 : decode cX1_startAnew 30 = .ok (.aload_n 0, 1) := by decide +kernel
theorem dX1_startAnew_31 : decode cX1_startAnew 31 = .ok (.aload_n 0, 1) := by decide +kernel
theorem dX1_startAnew_32 : decode cX1_startAnew 32 = .ok (.getfield 18, 3) := by decide +kernel
theorem dX1_startAnew_35 : decode cX1_startAnew 35 = .ok (.iload_n 1, 1) := by decide +kernel
theorem dX1_startAnew_36 : decode cX1_startAnew 36 = .ok (.aaload, 1) := by decide +kernel
theorem dX1_startAnew_37 : decode cX1_startAnew 37 = .ok (.putfield 25, 3) := by decide +kernel
theorem dX1_startAnew_40 : decode cX1_startAnew 40 = .ok (.aload_n 0, 1) := by decide +kernel
theorem dX1_startAnew_41 : decode cX1_startAnew 41 = .ok (.getfield 18, 3) := by decide +kernel
theorem dX1_startAnew_44 : decode cX1_startAnew 44 = .ok (.iload_n 1, 1) := by decide +kernel
theorem dX1_startAnew_45 : decode cX1_startAnew 45 = .ok (.aconst_null, 1) := by decide +kernel
theorem dX1_startAnew_46 : decode cX1_startAnew 46 = .ok (.aastore, 1) := by decide +kernel
theorem dX1_startAnew_47 : decode cX1_startAnew 47 = .ok (.aload_n 0, 1) := by decide +kernel
theorem dX1_startAnew_48 : decode cX1_startAnew 48 = .ok (.getfield 22, 3) := by decide +kernel
theorem dX1_startAnew_51 : decode cX1_startAnew 51 = .ok (.iload_n 1, 1) := by decide +kernel
theorem dX1_startAnew_52 : decode cX1_startAnew 52 = .ok (.aconst_null, 1) := by decide +kernel
theorem dX1_startAnew_53 : decode cX1_startAnew 53 = .ok (.aastore, 1) := by decide +kernel
theorem dX1_startAnew_54 : decode cX1_startAnew 54 = .ok (.iinc 1 1, 3) := by decide +kernel
theorem dX1_startAnew_57 : decode cX1_startAnew 57 = .ok (.goto (-55), 3) := by decide +kernel
theorem dX1_startAnew_60 : decode cX1_startAnew 60 = .ok (.aload_n 0, 1) := by decide +kernel
theorem dX1_startAnew_61 : decode cX1_startAnew 61 = .ok (.iconst 0, 1) := by decide +kernel
theorem dX1_startAnew_62 : decode cX1_startAnew 62 = .ok (.putfield 32, 3) := by decide +kernel
theorem dX1_startAnew_65 : decode cX1_startAnew 65 = .ok (.aload_n 0, 1) := by decide +kernel
theorem dX1_startAnew_66 : decode cX1_startAnew 66 = .ok (.iconst 0, 1) := by decide +kernel
theorem dX1_startAnew_67 : decode cX1_startAnew 67 = .ok (.putfield 36, 3) := by decide +kernel
theorem dX1_startAnew_70 : decode cX1_startAnew 70 = .ok (.aload_n 0, 1) := by decide +kernel
theorem dX1_startAnew_71 : decode cX1_startAnew 71 = .ok (.iconst 0, 1) := by decide +kernel
theorem dX1_startAnew_72 : decode cX1_startAnew 72 = .ok (.putfield 39, 3) := by decide +kernel
theorem dX1_startAnew_75 : decode cX1_startAnew 75 = .ok (.aload_n 0, 1) := by decide +kernel
theorem dX1_startAnew_76 : decode cX1_startAnew 76 = .ok (.iconst 0, 1) := by decide +kernel
theorem dX1_startAnew_77 : decode cX1_startAnew 77 = .ok (.putfield 42, 3) := by decide +kernel
theorem dX1_startAnew_80 : decode cX1_startAnew 80 = .ok (.aload_n 0, 1) := by decide +kernel
theorem dX1_startAnew_81 : decode cX1_startAnew 81 = .ok (.iconst 0, 1) := by decide +kernel
theorem dX1_startAnew_82 : decode cX1_startAnew 82 = .ok (.putfield 45, 3) := by decide +kernel
theorem dX1_startAnew_85 : decode cX1_startAnew 85 = .ok (.return_, 1) := by decide +kernel
theorem dX1_nextOrder_0 : decode cX1_nextOrder 0 = .ok (.aload_n 0, 1) := by decide +kernel
theorem dX1_nextOrder_1 : decode cX1_nextOrder 1 = .ok (.dup, 1) := by decide +kernel
theorem dX1_nextOrder_2 : decode cX1_nextOrder 2 = .ok (.getfield 36, 3) := by decide +kernel
theorem dX1_nextOrder_5 : decode cX1_nextOrder 5 = .ok (.dup_x1, 1) := by decide +kernel
theorem dX1_nextOrder_6 : decode cX1_nextOrder 6 = .ok (.iconst 1, 1) := by decide +kernel
theorem dX1_nextOrder_7 : decode cX1_nextOrder 7 = .ok (.iadd, 1) := by decide +kernel
theorem dX1_nextOrder_8 : decode cX1_nextOrder 8 = .ok (.putfield 36, 3) := by decide +kernel
theorem dX1_nextOrder_11 : decode cX1_nextOrder 11 = .ok (.ireturn, 1) := by decide +kernel
theorem dX1_send_0 : decode cX1_send 0 = .ok (.iconst 0, 1) := by decide +kernel
theorem dX1_send_1 : decode cX1_send 1 = .ok (.istore 6, 2) := by decide +kernel
theorem dX1_send_3 : decode cX1_send 3 = .ok (.iload 6, 2) := by decide +kernel
theorem dX1_send_5 : decode cX1_send 5 = .ok (.bipush 8, 2) := by decide +kernel
theorem dX1_send_7 : decode cX1_send 7 = .ok (.if_icmp .ge 137, 3) := by decide +kernel
theorem dX1_send_10 : decode cX1_send 10 = .ok (.iload_n 2, 1) := by decide +kernel
theorem dX1_send_11 : decode cX1_send 11 = .ok (.iload 6, 2) := by decide +kernel
theorem dX1_send_13 : decode cX1_send 13 = .ok (.invokestatic 48, 3) := by decide +kernel
theorem dX1_send_16 : decode cX1_send 16 = .ok (.ifCond .ne 6, 3) := by decide +kernel
theorem dX1_send_19 : decode cX1_send 19 = .ok (.goto 119, 3) := by decide +kernel
theorem dX1_send_22 : decode cX1_send 22 = .ok (.aload_n 0, 1) := by decide +kernel
theorem dX1_send_23 : decode cX1_send 23 = .ok (.dup, 1) := by decide +kernel
theorem dX1_send_24 : decode cX1_send 24 = .ok (.getfield 39, 3) := by decide +kernel
theorem dX1_send_27 : decode cX1_send 27 = .ok (.iconst 1, 1) := by decide +kernel
theorem dX1_send_28 : decode cX1_send 28 = .ok (.iadd, 1) := by decide +kernel
theorem dX1_send_29 : decode cX1_send 29 = .ok (.putfield 39, 3) := by decide +kernel
theorem dX1_send_32 : decode cX1_send 32 = .ok (.aload_n 0, 1) := by decide +kernel
theorem dX1_send_33 : decode cX1_send 33 = .ok (.getfield 11, 3) := by decide +kernel
theorem dX1_send_36 : decode cX1_send 36 = .ok (.iload_n 1, 1) := by decide +kernel
theorem dX1_send_37 : decode cX1_send 37 = .ok (.aaload, 1) := by decide +kernel
theorem dX1_send_38 : decode cX1_send 38 = .ok (.iload 6, 2) := by decide +kernel
theorem dX1_send_40 : decode cX1_send 40 = .ok (.iaload, 1) := by decide +kernel
theorem dX1_send_41 : decode cX1_send 41 = .ok (.ifCond .eq 13, 3) := by decide +kernel
theorem dX1_send_44 : decode cX1_send 44 = .ok (.aload_n 0, 1) := by decide +kernel
theorem dX1_send_45 : decode cX1_send 45 = .ok (.getfield 45, 3) := by decide +kernel
theorem dX1_send_48 : decode cX1_send 48 = .ok (.sipush 4096, 3) := by decide +kernel
theorem dX1_send_51 : decode cX1_send 51 = .ok (.if_icmp .lt 16, 3) := by decide +kernel
theorem dX1_send_54 : decode cX1_send 54 = .ok (.aload_n 0, 1) := by decide +kernel
theorem dX1_send_55 : decode cX1_send 55 = .ok (.dup, 1) := by decide +kernel
theorem dX1_send_56 : decode cX1_send 56 = .ok (.getfield 42, 3) := by decide +kernel
theorem dX1_send_59 : decode cX1_send 59 = .ok (.iconst 1, 1) := by decide +kernel
theorem dX1_send_60 : decode cX1_send 60 = .ok (.iadd, 1) := by decide +kernel
theorem dX1_send_61 : decode cX1_send 61 = .ok (.putfield 42, 3) := by decide +kernel
theorem dX1_send_64 : decode cX1_send 64 = .ok (.goto 74, 3) := by decide +kernel
theorem dX1_send_67 : decode cX1_send 67 = .ok (.aload_n 0, 1) := by decide +kernel
theorem dX1_send_68 : decode cX1_send 68 = .ok (.getfield 25, 3) := by decide +kernel
theorem dX1_send_71 : decode cX1_send 71 = .ok (.astore 7, 2) := by decide +kernel
theorem dX1_send_73 : decode cX1_send 73 = .ok (.aload 7, 2) := by decide +kernel
theorem dX1_send_75 : decode cX1_send 75 = .ok (.ifnonnull 15, 3) := by decide +kernel
theorem dX1_send_78 : decode cX1_send 78 = .ok (.new 16, 3) := by decide +kernel
theorem dX1_send_81 : decode cX1_send 81 = .ok (.dup, 1) := by decide +kernel
theorem dX1_send_82 : decode cX1_send 82 = .ok (.invokespecial 52, 3) := by decide +kernel
theorem dX1_send_85 : decode cX1_send 85 = .ok (.astore 7, 2) := by decide +kernel
theorem dX1_send_87 : decode cX1_send 87 = .ok (.goto 12, 3) := by decide +kernel
theorem dX1_send_90 : decode cX1_send 90 = .ok (.aload_n 0, 1) := by decide +kernel
theorem dX1_send_91 : decode cX1_send 91 = .ok (.aload 7, 2) := by decide +kernel
theorem dX1_send_93 : decode cX1_send 93 = .ok (.getfield 29, 3) := by decide +kernel
theorem dX1_send_96 : decode cX1_send 96 = .ok (.putfield 25, 3) := by decide +kernel
theorem dX1_send_99 : decode cX1_send 99 = .ok (.aload 7, 2) := by decide +kernel
theorem dX1_send_101 : decode cX1_send 101 = .ok (.iload_n 3, 1) := by decide +kernel
theorem dX1_send_102 : decode cX1_send 102 = .ok (.putfield 53, 3) := by decide +kernel
theorem dX1_send_105 : decode cX1_send 105 = .ok (.aload 7, 2) := by decide +kernel
theorem dX1_send_107 : decode cX1_send 107 = .ok (.iload_n 1, 1) := by decide +kernel
theorem dX1_send_108 : decode cX1_send 108 = .ok (.putfield 56, 3) := by decide +kernel
theorem dX1_send_111 : decode cX1_send 111 = .ok (.aload 7, 2) := by decide +kernel
theorem dX1_send_113 : decode cX1_send 113 = .ok (.iload 6, 2) := by decide +kernel
theorem dX1_send_115 : decode cX1_send 115 = .ok (.putfield 59, 3) := by decide +kernel
theorem dX1_send_118 : decode cX1_send 118 = .ok (.aload 7, 2) := by decide +kernel
theorem dX1_send_120 : decode cX1_send 120 = .ok (.iload 4, 2) := by decide +kernel
theorem dX1_send_122 : decode cX1_send 122 = .ok (.putfield 62, 3) := by decide +kernel
theorem dX1_send_125 : decode cX1_send 125 = .ok (.aload 7, 2) := by decide +kernel
theorem dX1_send_127 : decode cX1_send 127 = .ok (.iload 5, 2) := by decide +kernel
theorem dX1_send_129 : decode cX1_send 129 = .ok (.putfield 65, 3) := by decide +kernel
theorem dX1_send_132 : decode cX1_send 132 = .ok (.aload_n 0, 1) := by decide +kernel
theorem dX1_send_133 : decode cX1_send 133 = .ok (.aload 7, 2) := by decide +kernel
theorem dX1_send_135 : decode cX1_send 135 = .ok (.invokevirtual 68, 3) := by decide +kernel
theorem dX1_send_138 : decode cX1_send 138 = .ok (.iinc 6 1, 3) := by decide +kernel
theorem dX1_send_141 : decode cX1_send 141 = .ok (.goto (-138), 3) := by decide +kernel
theorem dX1_send_144 : decode cX1_send 144 = .ok (.return_, 1) := by decide +kernel
theorem dX1_putOn_0 : decode cX1_putOn 0 = .ok (.aload_n 1, 1) := by decide +kernel
theorem dX1_putOn_1 : decode cX1_putOn 1 = .ok (.aload_n 0, 1) := by decide +kernel
theorem dX1_putOn_2 : decode cX1_putOn 2 = .ok (.getfield 32, 3) := by decide +kernel
theorem dX1_putOn_5 : decode cX1_putOn 5 = .ok (.aload_n 0, 1) := by decide +kernel
theorem dX1_putOn_6 : decode cX1_putOn 6 = .ok (.getfield 11, 3) := by decide +kernel
theorem dX1_putOn_9 : decode cX1_putOn 9 = .ok (.aload_n 1, 1) := by decide +kernel
theorem dX1_putOn_10 : decode cX1_putOn 10 = .ok (.getfield 56, 3) := by decide +kernel
theorem dX1_putOn_13 : decode cX1_putOn 13 = .ok (.aaload, 1) := by decide +kernel
theorem dX1_putOn_14 : decode cX1_putOn 14 = .ok (.aload_n 1, 1) := by decide +kernel
theorem dX1_putOn_15 : decode cX1_putOn 15 = .ok (.getfield 59, 3) := by decide +kernel
theorem dX1_putOn_18 : decode cX1_putOn 18 = .ok (.iaload, 1) := by decide +kernel
theorem dX1_putOn_19 : decode cX1_putOn 19 = .ok (.iadd, 1) := by decide +kernel
theorem dX1_putOn_20 : decode cX1_putOn 20 = .ok (.putfield 72, 3) := by decide +kernel
theorem dX1_putOn_23 : decode cX1_putOn 23 = .ok (.aload_n 1, 1) := by decide +kernel
theorem dX1_putOn_24 : decode cX1_putOn 24 = .ok (.aload_n 0, 1) := by decide +kernel
theorem dX1_putOn_25 : decode cX1_putOn 25 = .ok (.dup, 1) := by decide +kernel
theorem dX1_putOn_26 : decode cX1_putOn 26 = .ok (.getfield 36, 3) := by decide +kernel
theorem dX1_putOn_29 : decode cX1_putOn 29 = .ok (.dup_x1, 1) := by decide +kernel
theorem dX1_putOn_30 : decode cX1_putOn 30 = .ok (.iconst 1, 1) := by decide +kernel
theorem dX1_putOn_31 : decode cX1_putOn 31 = .ok (.iadd, 1) := by decide +kernel
theorem dX1_putOn_32 : decode cX1_putOn 32 = .ok (.putfield 36, 3) := by decide +kernel
theorem dX1_putOn_35 : decode cX1_putOn 35 = .ok (.putfield 73, 3) := by decide +kernel
theorem dX1_putOn_38 : decode cX1_putOn 38 = .ok (.aload_n 1, 1) := by decide +kernel
theorem dX1_putOn_39 : decode cX1_putOn 39 = .ok (.aconst_null, 1) := by decide +kernel
theorem dX1_putOn_40 : decode cX1_putOn 40 = .ok (.putfield 29, 3) := by decide +kernel
theorem dX1_putOn_43 : decode cX1_putOn 43 = .ok (.aload_n 1, 1) := by decide +kernel
theorem dX1_putOn_44 : decode cX1_putOn 44 = .ok (.getfield 72, 3) := by decide +kernel
theorem dX1_putOn_47 : decode cX1_putOn 47 = .ok (.bipush 32, 2) := by decide +kernel
theorem dX1_putOn_49 : decode cX1_putOn 49 = .ok (.irem, 1) := by decide +kernel
theorem dX1_putOn_50 : decode cX1_putOn 50 = .ok (.istore_n 2, 1) := by decide +kernel
theorem dX1_putOn_51 : decode cX1_putOn 51 = .ok (.aload_n 0, 1) := by decide +kernel
theorem dX1_putOn_52 : decode cX1_putOn 52 = .ok (.getfield 22, 3) := by decide +kernel
theorem dX1_putOn_55 : decode cX1_putOn 55 = .ok (.iload_n 2, 1) := by decide +kernel
theorem dX1_putOn_56 : decode cX1_putOn 56 = .ok (.aaload, 1) := by decide +kernel
theorem dX1_putOn_57 : decode cX1_putOn 57 = .ok (.ifnonnull 13, 3) := by decide +kernel
theorem dX1_putOn_60 : decode cX1_putOn 60 = .ok (.aload_n 0, 1) := by decide +kernel
theorem dX1_putOn_61 : decode cX1_putOn 61 = .ok (.getfield 18, 3) := by decide +kernel
theorem dX1_putOn_64 : decode cX1_putOn 64 = .ok (.iload_n 2, 1) := by decide +kernel
theorem dX1_putOn_65 : decode cX1_putOn 65 = .ok (.aload_n 1, 1) := by decide +kernel
theorem dX1_putOn_66 : decode cX1_putOn 66 = .ok (.aastore, 1) := by decide +kernel
theorem dX1_putOn_67 : decode cX1_putOn 67 = .ok (.goto 13, 3) := by decide +kernel
theorem dX1_putOn_70 : decode cX1_putOn 70 = .ok (.aload_n 0, 1) := by decide +kernel
theorem dX1_putOn_71 : decode cX1_putOn 71 = .ok (.getfield 22, 3) := by decide +kernel
theorem dX1_putOn_74 : decode cX1_putOn 74 = .ok (.iload_n 2, 1) := by decide +kernel
theorem dX1_putOn_75 : decode cX1_putOn 75 = .ok (.aaload, 1) := by decide +kernel
theorem dX1_putOn_76 : decode cX1_putOn 76 = .ok (.aload_n 1, 1) := by decide +kernel
theorem dX1_putOn_77 : decode cX1_putOn 77 = .ok (.putfield 29, 3) := by decide +kernel
theorem dX1_putOn_80 : decode cX1_putOn 80 = .ok (.aload_n 0, 1) := by decide +kernel
theorem dX1_putOn_81 : decode cX1_putOn 81 = .ok (.getfield 22, 3) := by decide +kernel
theorem dX1_putOn_84 : decode cX1_putOn 84 = .ok (.iload_n 2, 1) := by decide +kernel
theorem dX1_putOn_85 : decode cX1_putOn 85 = .ok (.aload_n 1, 1) := by decide +kernel
theorem dX1_putOn_86 : decode cX1_putOn 86 = .ok (.aastore, 1) := by decide +kernel
theorem dX1_putOn_87 : decode cX1_putOn 87 = .ok (.aload_n 0, 1) := by decide +kernel
theorem dX1_putOn_88 : decode cX1_putOn 88 = .ok (.dup, 1) := by decide +kernel
theorem dX1_putOn_89 : decode cX1_putOn 89 = .ok (.getfield 45, 3) := by decide +kernel
theorem dX1_putOn_92 : decode cX1_putOn 92 = .ok (.iconst 1, 1) := by decide +kernel
theorem dX1_putOn_93 : decode cX1_putOn 93 = .ok (.iadd, 1) := by decide +kernel
theorem dX1_putOn_94 : decode cX1_putOn 94 = .ok (.putfield 45, 3) := by decide +kernel
theorem dX1_putOn_97 : decode cX1_putOn 97 = .ok (.return_, 1) := by decide +kernel
theorem dX1_first_0 : decode cX1_first 0 = .ok (.aload_n 0, 1) := by decide +kernel
theorem dX1_first_1 : decode cX1_first 1 = .ok (.getfield 45, 3) := by decide +kernel
theorem dX1_first_4 : decode cX1_first 4 = .ok (.ifCond .ne 5, 3) := by decide +kernel
theorem dX1_first_7 : decode cX1_first 7 = .ok (.aconst_null, 1) := by decide +kernel
theorem dX1_first_8 : decode cX1_first 8 = .ok (.areturn, 1) := by decide +kernel
theorem dX1_first_9 : decode cX1_first 9 = .ok (.aload_n 0, 1) := by decide +kernel
theorem dX1_first_10 : decode cX1_first 10 = .ok (.getfield 32, 3) := by decide +kernel
theorem dX1_first_13 : decode cX1_first 13 = .ok (.istore_n 1, 1) := by decide +kernel
theorem dX1_first_14 : decode cX1_first 14 = .ok (.iload_n 1, 1) := by decide +kernel
theorem dX1_first_15 : decode cX1_first 15 = .ok (.aload_n 0, 1) := by decide +kernel
theorem dX1_first_16 : decode cX1_first 16 = .ok (.getfield 32, 3) := by decide +kernel
theorem dX1_first_19 : decode cX1_first 19 = .ok (.bipush 20, 2) := by decide +kernel
theorem dX1_first_21 : decode cX1_first 21 = .ok (.iadd, 1) := by decide +kernel
theorem dX1_first_22 : decode cX1_first 22 = .ok (.if_icmp .gt 31, 3) := by decide +kernel
theorem dX1_first_25 : decode cX1_first 25 = .ok (.aload_n 0, 1) := by decide +kernel
theorem dX1_first_26 : decode cX1_first 26 = .ok (.getfield 18, 3) := by decide +kernel
theorem dX1_first_29 : decode cX1_first 29 = .ok (.iload_n 1, 1) := by decide +kernel
theorem dX1_first_30 : decode cX1_first 30 = .ok (.bipush 32, 2) := by decide +kernel
theorem dX1_first_32 : decode cX1_first 32 = .ok (.irem, 1) := by decide +kernel
theorem dX1_first_33 : decode cX1_first 33 = .ok (.aaload, 1) := by decide +kernel
theorem dX1_first_34 : decode cX1_first 34 = .ok (.ifnull 13, 3) := by decide +kernel
theorem dX1_first_37 : decode cX1_first 37 = .ok (.aload_n 0, 1) := by decide +kernel
theorem dX1_first_38 : decode cX1_first 38 = .ok (.getfield 18, 3) := by decide +kernel
theorem dX1_first_41 : decode cX1_first 41 = .ok (.iload_n 1, 1) := by decide +kernel
theorem dX1_first_42 : decode cX1_first 42 = .ok (.bipush 32, 2) := by decide +kernel
theorem dX1_first_44 : decode cX1_first 44 = .ok (.irem, 1) := by decide +kernel
theorem dX1_first_45 : decode cX1_first 45 = .ok (.aaload, 1) := by decide +kernel
theorem dX1_first_46 : decode cX1_first 46 = .ok (.areturn, 1) := by decide +kernel
theorem dX1_first_47 : decode cX1_first 47 = .ok (.iinc 1 1, 3) := by decide +kernel
theorem dX1_first_50 : decode cX1_first 50 = .ok (.goto (-36), 3) := by decide +kernel
theorem dX1_first_53 : decode cX1_first 53 = .ok (.aconst_null, 1) := by decide +kernel
theorem dX1_first_54 : decode cX1_first 54 = .ok (.areturn, 1) := by decide +kernel
theorem dX1_takeOff_0 : decode cX1_takeOff 0 = .ok (.aload_n 1, 1) := by decide +kernel
theorem dX1_takeOff_1 : decode cX1_takeOff 1 = .ok (.getfield 72, 3) := by decide +kernel
theorem dX1_takeOff_4 : decode cX1_takeOff 4 = .ok (.bipush 32, 2) := by decide +kernel
theorem dX1_takeOff_6 : decode cX1_takeOff 6 = .ok (.irem, 1) := by decide +kernel
theorem dX1_takeOff_7 : decode cX1_takeOff 7 = .ok (.istore_n 2, 1) := by decide +kernel
theorem dX1_takeOff_8 : decode cX1_takeOff 8 = .ok (.aload_n 0, 1) := by decide +kernel
theorem dX1_takeOff_9 : decode cX1_takeOff 9 = .ok (.getfield 18, 3) := by decide +kernel
theorem dX1_takeOff_12 : decode cX1_takeOff 12 = .ok (.iload_n 2, 1) := by decide +kernel
theorem dX1_takeOff_13 : decode cX1_takeOff 13 = .ok (.aload_n 1, 1) := by decide +kernel
theorem dX1_takeOff_14 : decode cX1_takeOff 14 = .ok (.getfield 29, 3) := by decide +kernel
theorem dX1_takeOff_17 : decode cX1_takeOff 17 = .ok (.aastore, 1) := by decide +kernel
theorem dX1_takeOff_18 : decode cX1_takeOff 18 = .ok (.aload_n 1, 1) := by decide +kernel
theorem dX1_takeOff_19 : decode cX1_takeOff 19 = .ok (.getfield 29, 3) := by decide +kernel
theorem dX1_takeOff_22 : decode cX1_takeOff 22 = .ok (.ifnonnull 10, 3) := by decide +kernel
theorem dX1_takeOff_25 : decode cX1_takeOff 25 = .ok (.aload_n 0, 1) := by decide +kernel
theorem dX1_takeOff_26 : decode cX1_takeOff 26 = .ok (.getfield 22, 3) := by decide +kernel
theorem dX1_takeOff_29 : decode cX1_takeOff 29 = .ok (.iload_n 2, 1) := by decide +kernel
theorem dX1_takeOff_30 : decode cX1_takeOff 30 = .ok (.aconst_null, 1) := by decide +kernel
theorem dX1_takeOff_31 : decode cX1_takeOff 31 = .ok (.aastore, 1) := by decide +kernel
theorem dX1_takeOff_32 : decode cX1_takeOff 32 = .ok (.aload_n 0, 1) := by decide +kernel
theorem dX1_takeOff_33 : decode cX1_takeOff 33 = .ok (.dup, 1) := by decide +kernel
theorem dX1_takeOff_34 : decode cX1_takeOff 34 = .ok (.getfield 45, 3) := by decide +kernel
theorem dX1_takeOff_37 : decode cX1_takeOff 37 = .ok (.iconst 1, 1) := by decide +kernel
theorem dX1_takeOff_38 : decode cX1_takeOff 38 = .ok (.isub, 1) := by decide +kernel
theorem dX1_takeOff_39 : decode cX1_takeOff 39 = .ok (.putfield 45, 3) := by decide +kernel
theorem dX1_takeOff_42 : decode cX1_takeOff 42 = .ok (.return_, 1) := by decide +kernel
theorem dX1_keepSpare_0 : decode cX1_keepSpare 0 = .ok (.aload_n 1, 1) := by decide +kernel
theorem dX1_keepSpare_1 : decode cX1_keepSpare 1 = .ok (.aload_n 0, 1) := by decide +kernel
theorem dX1_keepSpare_2 : decode cX1_keepSpare 2 = .ok (.getfield 25, 3) := by decide +kernel
theorem dX1_keepSpare_5 : decode cX1_keepSpare 5 = .ok (.putfield 29, 3) := by decide +kernel
theorem dX1_keepSpare_8 : decode cX1_keepSpare 8 = .ok (.aload_n 0, 1) := by decide +kernel
theorem dX1_keepSpare_9 : decode cX1_keepSpare 9 = .ok (.aload_n 1, 1) := by decide +kernel
theorem dX1_keepSpare_10 : decode cX1_keepSpare 10 = .ok (.putfield 25, 3) := by decide +kernel
theorem dX1_keepSpare_13 : decode cX1_keepSpare 13 = .ok (.return_, 1) := by decide +kernel
theorem dX2_init_0 : decode cX2_init 0 = .ok (.aload_n 0, 1) := by decide +kernel
theorem dX2_init_1 : decode cX2_init 1 = .ok (.invokespecial 3, 3) := by decide +kernel
theorem dX2_init_4 : decode cX2_init 4 = .ok (.aload_n 0, 1) := by decide +kernel
theorem dX2_init_5 : decode cX2_init 5 = .ok (.bipush 8, 2) := by decide +kernel
theorem dX2_init_7 : decode cX2_init 7 = .ok (.newarray .int, 2) := by decide +kernel
theorem dX2_init_9 : decode cX2_init 9 = .ok (.putfield 9, 3) := by decide +kernel
theorem dX2_init_12 : decode cX2_init 12 = .ok (.aload_n 0, 1) := by decide +kernel
theorem dX2_init_13 : decode cX2_init 13 = .ok (.iload_n 1, 1) := by decide +kernel
theorem dX2_init_14 : decode cX2_init 14 = .ok (.putfield 15, 3) := by decide +kernel
theorem dX2_init_17 : decode cX2_init 17 = .ok (.aload_n 0, 1) := by decide +kernel
theorem dX2_init_18 : decode cX2_init 18 = .ok (.invokevirtual 19, 3) := by decide +kernel
theorem dX2_init_21 : decode cX2_init 21 = .ok (.return_, 1) := by decide +kernel
theorem dX2_startAnew_0 : decode cX2_startAnew 0 = .ok (.aload_n 0, 1) := by decide +kernel
theorem dX2_startAnew_1 : decode cX2_startAnew 1 = .ok (.iconst 0, 1) := by decide +kernel
theorem dX2_startAnew_2 : decode cX2_startAnew 2 = .ok (.putfield 22, 3) := by decide +kernel
theorem dX2_startAnew_5 : decode cX2_startAnew 5 = .ok (.aload_n 0, 1) := by decide +kernel
theorem dX2_startAnew_6 : decode cX2_startAnew 6 = .ok (.iconst 1, 1) := by decide +kernel
theorem dX2_startAnew_7 : decode cX2_startAnew 7 = .ok (.putfield 25, 3) := by decide +kernel
theorem dX2_startAnew_10 : decode cX2_startAnew 10 = .ok (.aload_n 0, 1) := by decide +kernel
theorem dX2_startAnew_11 : decode cX2_startAnew 11 = .ok (.iconst 0, 1) := by decide +kernel
theorem dX2_startAnew_12 : decode cX2_startAnew 12 = .ok (.putfield 29, 3) := by decide +kernel
theorem dX2_startAnew_15 : decode cX2_startAnew 15 = .ok (.aload_n 0, 1) := by decide +kernel
theorem dX2_startAnew_16 : decode cX2_startAnew 16 = .ok (.iconst 0, 1) := by decide +kernel
theorem dX2_startAnew_17 : decode cX2_startAnew 17 = .ok (.putfield 32, 3) := by decide +kernel
theorem dX2_startAnew_20 : decode cX2_startAnew 20 = .ok (.aload_n 0, 1) := by decide +kernel
theorem dX2_startAnew_21 : decode cX2_startAnew 21 = .ok (.iconst 0, 1) := by decide +kernel
theorem dX2_startAnew_22 : decode cX2_startAnew 22 = .ok (.putfield 35, 3) := by decide +kernel
theorem dX2_startAnew_25 : decode cX2_startAnew 25 = .ok (.aload_n 0, 1) := by decide +kernel
theorem dX2_startAnew_26 : decode cX2_startAnew 26 = .ok (.iconst 0, 1) := by decide +kernel
theorem dX2_startAnew_27 : decode cX2_startAnew 27 = .ok (.putfield 38, 3) := by decide +kernel
theorem dX2_startAnew_30 : decode cX2_startAnew 30 = .ok (.aload_n 0, 1) := by decide +kernel
theorem dX2_startAnew_31 : decode cX2_startAnew 31 = .ok (.iconst (-1), 1) := by decide +kernel
theorem dX2_startAnew_32 : decode cX2_startAnew 32 = .ok (.putfield 41, 3) := by decide +kernel
theorem dX2_startAnew_35 : decode cX2_startAnew 35 = .ok (.aload_n 0, 1) := by decide +kernel
theorem dX2_startAnew_36 : decode cX2_startAnew 36 = .ok (.iconst 0, 1) := by decide +kernel
theorem dX2_startAnew_37 : decode cX2_startAnew 37 = .ok (.putfield 44, 3) := by decide +kernel
theorem dX2_startAnew_40 : decode cX2_startAnew 40 = .ok (.return_, 1) := by decide +kernel
theorem dX2_isDecided_0 : decode cX2_isDecided 0 = .ok (.aload_n 0, 1) := by decide +kernel
theorem dX2_isDecided_1 : decode cX2_isDecided 1 = .ok (.getfield 29, 3) := by decide +kernel
theorem dX2_isDecided_4 : decode cX2_isDecided 4 = .ok (.iconst 4, 1) := by decide +kernel
theorem dX2_isDecided_5 : decode cX2_isDecided 5 = .ok (.if_icmp .eq 11, 3) := by decide +kernel
theorem dX2_isDecided_8 : decode cX2_isDecided 8 = .ok (.aload_n 0, 1) := by decide +kernel
theorem dX2_isDecided_9 : decode cX2_isDecided 9 = .ok (.getfield 29, 3) := by decide +kernel
theorem dX2_isDecided_12 : decode cX2_isDecided 12 = .ok (.iconst 5, 1) := by decide +kernel
theorem dX2_isDecided_13 : decode cX2_isDecided 13 = .ok (.if_icmp .ne 7, 3) := by decide +kernel
theorem dX2_isDecided_16 : decode cX2_isDecided 16 = .ok (.iconst 1, 1) := by decide +kernel
theorem dX2_isDecided_17 : decode cX2_isDecided 17 = .ok (.goto 4, 3) := by decide +kernel
theorem dX2_isDecided_20 : decode cX2_isDecided 20 = .ok (.iconst 0, 1) := by decide +kernel
theorem dX2_isDecided_21 : decode cX2_isDecided 21 = .ok (.ireturn, 1) := by decide +kernel
theorem dX2_collectsAcks_0 : decode cX2_collectsAcks 0 = .ok (.aload_n 0, 1) := by decide +kernel
theorem dX2_collectsAcks_1 : decode cX2_collectsAcks 1 = .ok (.getfield 35, 3) := by decide +kernel
theorem dX2_collectsAcks_4 : decode cX2_collectsAcks 4 = .ok (.iconst 2, 1) := by decide +kernel
theorem dX2_collectsAcks_5 : decode cX2_collectsAcks 5 = .ok (.if_icmp .eq 11, 3) := by decide +kernel
theorem dX2_collectsAcks_8 : decode cX2_collectsAcks 8 = .ok (.aload_n 0, 1) := by decide +kernel
theorem dX2_collectsAcks_9 : decode cX2_collectsAcks 9 = .ok (.getfield 35, 3) := by decide +kernel
theorem dX2_collectsAcks_12 : decode cX2_collectsAcks 12 = .ok (.iconst 4, 1) := by decide +kernel
theorem dX2_collectsAcks_13 : decode cX2_collectsAcks 13 = .ok (.if_icmp .ne 7, 3) := by decide +kernel
theorem dX2_collectsAcks_16 : decode cX2_collectsAcks 16 = .ok (.iconst 1, 1) := by decide +kernel
theorem dX2_collectsAcks_17 : decode cX2_collectsAcks 17 = .ok (.goto 4, 3) := by decide +kernel
theorem dX2_collectsAcks_20 : decode cX2_collectsAcks 20 = .ok (.iconst 0, 1) := by decide +kernel
theorem dX2_collectsAcks_21 : decode cX2_collectsAcks 21 = .ok (.ireturn, 1) := by decide +kernel
theorem dX2_runsOutEarlier_0 : decode cX2_runsOutEarlier 0 = .ok (.aload_n 0, 1) := by decide +kernel
theorem dX2_runsOutEarlier_1 : decode cX2_runsOutEarlier 1 = .ok (.getfield 41, 3) := by decide +kernel
theorem dX2_runsOutEarlier_4 : decode cX2_runsOutEarlier 4 = .ok (.aload_n 1, 1) := by decide +kernel
theorem dX2_runsOutEarlier_5 : decode cX2_runsOutEarlier 5 = .ok (.getfield 41, 3) := by decide +kernel
theorem dX2_runsOutEarlier_8 : decode cX2_runsOutEarlier 8 = .ok (.if_icmp .lt 25, 3) := by decide +kernel
theorem dX2_runsOutEarlier_11 : decode cX2_runsOutEarlier 11 = .ok (.aload_n 0, 1) := by decide +kernel
theorem dX2_runsOutEarlier_12 : decode cX2_runsOutEarlier 12 = .ok (.getfield 41, 3) := by decide +kernel
theorem dX2_runsOutEarlier_15 : decode cX2_runsOutEarlier 15 = .ok (.aload_n 1, 1) := by decide +kernel
theorem dX2_runsOutEarlier_16 : decode cX2_runsOutEarlier 16 = .ok (.getfield 41, 3) := by decide +kernel
theorem dX2_runsOutEarlier_19 : decode cX2_runsOutEarlier 19 = .ok (.if_icmp .ne 18, 3) := by decide +kernel
theorem dX2_runsOutEarlier_22 : decode cX2_runsOutEarlier 22 = .ok (.aload_n 0, 1) := by decide +kernel
theorem dX2_runsOutEarlier_23 : decode cX2_runsOutEarlier 23 = .ok (.getfield 44, 3) := by decide +kernel
theorem dX2_runsOutEarlier_26 : decode cX2_runsOutEarlier 26 = .ok (.aload_n 1, 1) := by decide +kernel
theorem dX2_runsOutEarlier_27 : decode cX2_runsOutEarlier 27 = .ok (.getfield 44, 3) := by decide +kernel
theorem dX2_runsOutEarlier_30 : decode cX2_runsOutEarlier 30 = .ok (.if_icmp .ge 7, 3) := by decide +kernel
theorem dX2_runsOutEarlier_33 : decode cX2_runsOutEarlier 33 = .ok (.iconst 1, 1) := by decide +kernel
theorem dX2_runsOutEarlier_34 : decode cX2_runsOutEarlier 34 = .ok (.goto 4, 3) := by decide +kernel
theorem dX2_runsOutEarlier_37 : decode cX2_runsOutEarlier 37 = .ok (.iconst 0, 1) := by decide +kernel
theorem dX2_runsOutEarlier_38 : decode cX2_runsOutEarlier 38 = .ok (.ireturn, 1) := by decide +kernel
theorem dX2_runsOutBefore_0 : decode cX2_runsOutBefore 0 = .ok (.aload_n 1, 1) := by decide +kernel
theorem dX2_runsOutBefore_1 : decode cX2_runsOutBefore 1 = .ok (.ifnull 36, 3) := by decide +kernel
theorem dX2_runsOutBefore_4 : decode cX2_runsOutBefore 4 = .ok (.aload_n 0, 1) := by decide +kernel
theorem dX2_runsOutBefore_5 : decode cX2_runsOutBefore 5 = .ok (.getfield 41, 3) := by decide +kernel
theorem dX2_runsOutBefore_8 : decode cX2_runsOutBefore 8 = .ok (.aload_n 1, 1) := by decide +kernel
theorem dX2_runsOutBefore_9 : decode cX2_runsOutBefore 9 = .ok (.getfield 47, 3) := by decide +kernel
theorem dX2_runsOutBefore_12 : decode cX2_runsOutBefore 12 = .ok (.if_icmp .lt 25, 3) := by decide +kernel
theorem dX2_runsOutBefore_15 : decode cX2_runsOutBefore 15 = .ok (.aload_n 0, 1) := by decide +kernel
theorem dX2_runsOutBefore_16 : decode cX2_runsOutBefore 16 = .ok (.getfield 41, 3) := by decide +kernel
theorem dX2_runsOutBefore_19 : decode cX2_runsOutBefore 19 = .ok (.aload_n 1, 1) := by decide +kernel
theorem dX2_runsOutBefore_20 : decode cX2_runsOutBefore 20 = .ok (.getfield 47, 3) := by decide +kernel
theorem dX2_runsOutBefore_23 : decode cX2_runsOutBefore 23 = .ok (.if_icmp .ne 18, 3) := by decide +kernel
theorem dX2_runsOutBefore_26 : decode cX2_runsOutBefore 26 = .ok (.aload_n 0, 1) := by decide +kernel
theorem dX2_runsOutBefore_27 : decode cX2_runsOutBefore 27 = .ok (.getfield 44, 3) := by decide +kernel
theorem dX2_runsOutBefore_30 : decode cX2_runsOutBefore 30 = .ok (.aload_n 1, 1) := by decide +kernel
theorem dX2_runsOutBefore_31 : decode cX2_runsOutBefore 31 = .ok (.getfield 52, 3) := by decide +kernel
theorem dX2_runsOutBefore_34 : decode cX2_runsOutBefore 34 = .ok (.if_icmp .ge 7, 3) := by decide +kernel
theorem dX2_runsOutBefore_37 : decode cX2_runsOutBefore 37 = .ok (.iconst 1, 1) := by decide +kernel
theorem dX2_runsOutBefore_38 : decode cX2_runsOutBefore 38 = .ok (.goto 4, 3) := by decide +kernel
theorem dX2_runsOutBefore_41 : decode cX2_runsOutBefore 41 = .ok (.iconst 0, 1) := by decide +kernel
theorem dX2_runsOutBefore_42 : decode cX2_runsOutBefore 42 = .ok (.ireturn, 1) := by decide +kernel
theorem dX3_init_0 : decode cX3_init 0 = .ok (.aload_n 0, 1) := by decide +kernel
theorem dX3_init_1 : decode cX3_init 1 = .ok (.invokespecial 1, 3) := by decide +kernel
theorem dX3_init_4 : decode cX3_init 4 = .ok (.aload_n 0, 1) := by decide +kernel
theorem dX3_init_5 : decode cX3_init 5 = .ok (.bipush 8, 2) := by decide +kernel
theorem dX3_init_7 : decode cX3_init 7 = .ok (.anewarray 9, 3) := by decide +kernel
theorem dX3_init_10 : decode cX3_init 10 = .ok (.putfield 11, 3) := by decide +kernel
theorem dX3_init_13 : decode cX3_init 13 = .ok (.aload_n 0, 1) := by decide +kernel
theorem dX3_init_14 : decode cX3_init 14 = .ok (.new 15, 3) := by decide +kernel
theorem dX3_init_17 : decode cX3_init 17 = .ok (.dup, 1) := by decide +kernel
theorem dX3_init_18 : decode cX3_init 18 = .ok (.invokespecial 17, 3) := by decide +kernel
theorem dX3_init_21 : decode cX3_init 21 = .ok (.putfield 18, 3) := by decide +kernel
theorem dX3_init_24 : decode cX3_init 24 = .ok (.aload_n 0, 1) := by decide +kernel
theorem dX3_init_25 : decode cX3_init 25 = .ok (.iconst 5, 1) := by decide +kernel
theorem dX3_init_26 : decode cX3_init 26 = .ok (.newarray .int, 2) := by decide +kernel
theorem dX3_init_28 : decode cX3_init 28 = .ok (.putfield 22, 3) := by decide +kernel
theorem dX3_init_31 : decode cX3_init 31 = .ok (.aload_n 0, 1) := by decide +kernel
theorem dX3_init_32 : decode cX3_init 32 = .ok (.bipush 10, 2) := by decide +kernel
theorem dX3_init_34 : decode cX3_init 34 = .ok (.putfield 26, 3) := by decide +kernel
theorem dX3_init_37 : decode cX3_init 37 = .ok (.aload_n 0, 1) := by decide +kernel
theorem dX3_init_38 : decode cX3_init 38 = .ok (.invokevirtual 30, 3) := by decide +kernel
theorem dX3_init_41 : decode cX3_init 41 = .ok (.aload_n 0, 1) := by decide +kernel
theorem dX3_init_42 : decode cX3_init 42 = .ok (.iconst 0, 1) := by decide +kernel
theorem dX3_init_43 : decode cX3_init 43 = .ok (.iconst (-1), 1) := by decide +kernel
theorem dX3_init_44 : decode cX3_init 44 = .ok (.iconst (-1), 1) := by decide +kernel
theorem dX3_init_45 : decode cX3_init 45 = .ok (.iconst 0, 1) := by decide +kernel
theorem dX3_init_46 : decode cX3_init 46 = .ok (.iconst 0, 1) := by decide +kernel
theorem dX3_init_47 : decode cX3_init 47 = .ok (.invokevirtual 33, 3) := by decide +kernel
theorem dX3_init_50 : decode cX3_init 50 = .ok (.return_, 1) := by decide +kernel
theorem dX3_site_0 : decode cX3_site 0 = .ok (.iload_n 1, 1) := by decide +kernel
theorem dX3_site_1 : decode cX3_site 1 = .ok (.iconst 1, 1) := by decide +kernel
theorem dX3_site_2 : decode cX3_site 2 = .ok (.if_icmp .lt 25, 3) := by decide +kernel
theorem dX3_site_5 : decode cX3_site 5 = .ok (.iload_n 1, 1) := by decide +kernel
theorem dX3_site_6 : decode cX3_site 6 = .ok (.bipush 9, 2) := by decide +kernel
theorem dX3_site_8 : decode cX3_site 8 = .ok (.if_icmp .gt 19, 3) := by decide +kernel
theorem dX3_site_11 : decode cX3_site 11 = .ok (.aload_n 0, 1) := by decide +kernel
theorem dX3_site_12 : decode cX3_site 12 = .ok (.getfield 37, 3) := by decide +kernel
theorem dX3_site_15 : decode cX3_site 15 = .ok (.ifCond .ne 12, 3) := by decide +kernel
theorem dX3_site_18 : decode cX3_site 18 = .ok (.aload_n 0, 1) := by decide +kernel
theorem dX3_site_19 : decode cX3_site 19 = .ok (.getfield 41, 3) := by decide +kernel
theorem dX3_site_22 : decode cX3_site 22 = .ok (.bipush 8, 2) := by decide +kernel
theorem dX3_site_24 : decode cX3_site 24 = .ok (.if_icmp .lt 5, 3) := by decide +kernel
theorem dX3_site_27 : decode cX3_site 27 = .ok (.iconst (-1), 1) := by decide +kernel
theorem dX3_site_28 : decode cX3_site 28 = .ok (.ireturn, 1) := by decide +kernel
theorem dX3_site_29 : decode cX3_site 29 = .ok (.aload_n 0, 1) := by decide +kernel
theorem dX3_site_30 : decode cX3_site 30 = .ok (.getfield 11, 3) := by decide +kernel
theorem dX3_site_33 : decode cX3_site 33 = .ok (.aload_n 0, 1) := by decide +kernel
theorem dX3_site_34 : decode cX3_site 34 = .ok (.getfield 41, 3) := by decide +kernel
theorem dX3_site_37 : decode cX3_site 37 = .ok (.new 9, 3) := by decide +kernel
theorem dX3_site_40 : decode cX3_site 40 = .ok (.dup, 1) := by decide +kernel
theorem dX3_site_41 : decode cX3_site 41 = .ok (.iload_n 1, 1) := by decide +kernel
theorem dX3_site_42 : decode cX3_site 42 = .ok (.invokespecial 44, 3) := by decide +kernel
theorem dX3_site_45 : decode cX3_site 45 = .ok (.aastore, 1) := by decide +kernel
theorem dX3_site_46 : decode cX3_site 46 = .ok (.aload_n 0, 1) := by decide +kernel
theorem dX3_site_47 : decode cX3_site 47 = .ok (.dup, 1) := by decide +kernel
theorem dX3_site_48 : decode cX3_site 48 = .ok (.getfield 47, 3) := by decide +kernel
theorem dX3_site_51 : decode cX3_site 51 = .ok (.iload_n 1, 1) := by decide +kernel
theorem dX3_site_52 : decode cX3_site 52 = .ok (.iadd, 1) := by decide +kernel
theorem dX3_site_53 : decode cX3_site 53 = .ok (.putfield 47, 3) := by decide +kernel
theorem dX3_site_56 : decode cX3_site 56 = .ok (.aload_n 0, 1) := by decide +kernel
theorem dX3_site_57 : decode cX3_site 57 = .ok (.invokevirtual 30, 3) := by decide +kernel
theorem dX3_site_60 : decode cX3_site 60 = .ok (.aload_n 0, 1) := by decide +kernel
theorem dX3_site_61 : decode cX3_site 61 = .ok (.dup, 1) := by decide +kernel
theorem dX3_site_62 : decode cX3_site 62 = .ok (.getfield 41, 3) := by decide +kernel
theorem dX3_site_65 : decode cX3_site 65 = .ok (.dup_x1, 1) := by decide +kernel
theorem dX3_site_66 : decode cX3_site 66 = .ok (.iconst 1, 1) := by decide +kernel
theorem dX3_site_67 : decode cX3_site 67 = .ok (.iadd, 1) := by decide +kernel
theorem dX3_site_68 : decode cX3_site 68 = .ok (.putfield 41, 3) := by decide +kernel
theorem dX3_site_71 : decode cX3_site 71 = .ok (.ireturn, 1) := by decide +kernel
theorem dX3_quorums_0 : decode cX3_quorums 0 = .ok (.iload_n 1, 1) := by decide +kernel
theorem dX3_quorums_1 : decode cX3_quorums 1 = .ok (.iconst 1, 1) := by decide +kernel
theorem dX3_quorums_2 : decode cX3_quorums 2 = .ok (.if_icmp .lt 28, 3) := by decide +kernel
theorem dX3_quorums_5 : decode cX3_quorums 5 = .ok (.iload_n 1, 1) := by decide +kernel
theorem dX3_quorums_6 : decode cX3_quorums 6 = .ok (.aload_n 0, 1) := by decide +kernel
theorem dX3_quorums_7 : decode cX3_quorums 7 = .ok (.getfield 47, 3) := by decide +kernel
theorem dX3_quorums_10 : decode cX3_quorums 10 = .ok (.if_icmp .gt 20, 3) := by decide +kernel
theorem dX3_quorums_13 : decode cX3_quorums 13 = .ok (.iload_n 2, 1) := by decide +kernel
theorem dX3_quorums_14 : decode cX3_quorums 14 = .ok (.iconst 1, 1) := by decide +kernel
theorem dX3_quorums_15 : decode cX3_quorums 15 = .ok (.if_icmp .lt 15, 3) := by decide +kernel
theorem dX3_quorums_18 : decode cX3_quorums 18 = .ok (.iload_n 2, 1) := by decide +kernel
theorem dX3_quorums_19 : decode cX3_quorums 19 = .ok (.aload_n 0, 1) := by decide +kernel
theorem dX3_quorums_20 : decode cX3_quorums 20 = .ok (.getfield 47, 3) := by decide +kernel
theorem dX3_quorums_23 : decode cX3_quorums 23 = .ok (.if_icmp .gt 7, 3) := by decide +kernel
theorem dX3_quorums_26 : decode cX3_quorums 26 = .ok (.iconst 1, 1) := by decide +kernel
theorem dX3_quorums_27 : decode cX3_quorums 27 = .ok (.goto 4, 3) := by decide +kernel
theorem dX3_quorums_30 : decode cX3_quorums 30 = .ok (.iconst 0, 1) := by decide +kernel
theorem dX3_quorums_31 : decode cX3_quorums 31 = .ok (.istore_n 3, 1) := by decide +kernel
theorem dX3_quorums_32 : decode cX3_quorums 32 = .ok (.aload_n 0, 1) := by decide +kernel
theorem dX3_quorums_33 : decode cX3_quorums 33 = .ok (.getfield 37, 3) := by decide +kernel
theorem dX3_quorums_36 : decode cX3_quorums 36 = .ok (.ifCond .ne 17, 3) := by decide +kernel
theorem dX3_quorums_39 : decode cX3_quorums 39 = .ok (.iload_n 3, 1) := by decide +kernel
theorem dX3_quorums_40 : decode cX3_quorums 40 = .ok (.ifCond .eq 13, 3) := by decide +kernel
theorem dX3_quorums_43 : decode cX3_quorums 43 = .ok (.iload_n 1, 1) := by decide +kernel
theorem dX3_quorums_44 : decode cX3_quorums 44 = .ok (.iload_n 2, 1) := by decide +kernel
theorem dX3_quorums_45 : decode cX3_quorums 45 = .ok (.iadd, 1) := by decide +kernel
theorem dX3_quorums_46 : decode cX3_quorums 46 = .ok (.aload_n 0, 1) := by decide +kernel
theorem dX3_quorums_47 : decode cX3_quorums 47 = .ok (.getfield 47, 3) := by decide +kernel
theorem dX3_quorums_50 : decode cX3_quorums 50 = .ok (.if_icmp .gt 5, 3) := by decide +kernel
theorem dX3_quorums_53 : decode cX3_quorums 53 = .ok (.iconst 0, 1) := by decide +kernel
theorem dX3_quorums_54 : decode cX3_quorums 54 = .ok (.ireturn, 1) := by decide +kernel
theorem dX3_quorums_55 : decode cX3_quorums 55 = .ok (.aload_n 0, 1) := by decide +kernel
theorem dX3_quorums_56 : decode cX3_quorums 56 = .ok (.iload_n 1, 1) := by decide +kernel
theorem dX3_quorums_57 : decode cX3_quorums 57 = .ok (.putfield 50, 3) := by decide +kernel
theorem dX3_quorums_60 : decode cX3_quorums 60 = .ok (.aload_n 0, 1) := by decide +kernel
theorem dX3_quorums_61 : decode cX3_quorums 61 = .ok (.iload_n 2, 1) := by decide +kernel
theorem dX3_quorums_62 : decode cX3_quorums 62 = .ok (.putfield 53, 3) := by decide +kernel
theorem dX3_quorums_65 : decode cX3_quorums 65 = .ok (.iconst 1, 1) := by decide +kernel
theorem dX3_quorums_66 : decode cX3_quorums 66 = .ok (.ireturn, 1) := by decide +kernel
theorem dX3_link_0 : decode cX3_link 0 = .ok (.aload_n 0, 1) := by decide +kernel
theorem dX3_link_1 : decode cX3_link 1 = .ok (.iload_n 1, 1) := by decide +kernel
theorem dX3_link_2 : decode cX3_link 2 = .ok (.iload_n 2, 1) := by decide +kernel
theorem dX3_link_3 : decode cX3_link 3 = .ok (.invokevirtual 56, 3) := by decide +kernel
theorem dX3_link_6 : decode cX3_link 6 = .ok (.ifCond .eq 13, 3) := by decide +kernel
theorem dX3_link_9 : decode cX3_link 9 = .ok (.iload_n 3, 1) := by decide +kernel
theorem dX3_link_10 : decode cX3_link 10 = .ok (.ifCond .lt 9, 3) := by decide +kernel
theorem dX3_link_13 : decode cX3_link 13 = .ok (.iload_n 3, 1) := by decide +kernel
theorem dX3_link_14 : decode cX3_link 14 = .ok (.bipush 20, 2) := by decide +kernel
theorem dX3_link_16 : decode cX3_link 16 = .ok (.if_icmp .le 5, 3) := by decide +kernel
theorem dX3_link_19 : decode cX3_link 19 = .ok (.iconst 0, 1) := by decide +kernel
theorem dX3_link_20 : decode cX3_link 20 = .ok (.ireturn, 1) := by decide +kernel
theorem dX3_link_21 : decode cX3_link 21 = .ok (.aload_n 0, 1) := by decide +kernel
theorem dX3_link_22 : decode cX3_link 22 = .ok (.getfield 18, 3) := by decide +kernel
theorem dX3_link_25 : decode cX3_link 25 = .ok (.getfield 60, 3) := by decide +kernel
theorem dX3_link_28 : decode cX3_link 28 = .ok (.iload_n 1, 1) := by decide +kernel
theorem dX3_link_29 : decode cX3_link 29 = .ok (.aaload, 1) := by decide +kernel
theorem dX3_link_30 : decode cX3_link 30 = .ok (.iload_n 2, 1) := by decide +kernel
theorem dX3_link_31 : decode cX3_link 31 = .ok (.iload_n 3, 1) := by decide +kernel
theorem dX3_link_32 : decode cX3_link 32 = .ok (.iastore, 1) := by decide +kernel
theorem dX3_link_33 : decode cX3_link 33 = .ok (.iconst 1, 1) := by decide +kernel
theorem dX3_link_34 : decode cX3_link 34 = .ok (.ireturn, 1) := by decide +kernel
theorem dX3_part_0 : decode cX3_part 0 = .ok (.iload_n 2, 1) := by decide +kernel
theorem dX3_part_1 : decode cX3_part 1 = .ok (.iconst 1, 1) := by decide +kernel
theorem dX3_part_2 : decode cX3_part 2 = .ok (.if_icmp .lt 9, 3) := by decide +kernel
theorem dX3_part_5 : decode cX3_part 5 = .ok (.iload_n 2, 1) := by decide +kernel
theorem dX3_part_6 : decode cX3_part 6 = .ok (.bipush 20, 2) := by decide +kernel
theorem dX3_part_8 : decode cX3_part 8 = .ok (.if_icmp .le 5, 3) := by decide +kernel
theorem dX3_part_11 : decode cX3_part 11 = .ok (.iconst (-1), 1) := by decide +kernel
theorem dX3_part_12 : decode cX3_part 12 = .ok (.ireturn, 1) := by decide +kernel
theorem dX3_part_13 : decode cX3_part 13 = .ok (.iconst 0, 1) := by decide +kernel
theorem dX3_part_14 : decode cX3_part 14 = .ok (.istore_n 3, 1) := by decide +kernel
theorem dX3_part_15 : decode cX3_part 15 = .ok (.iconst 0, 1) := by decide +kernel
theorem dX3_part_16 : decode cX3_part 16 = .ok (.istore 4, 2) := by decide +kernel
theorem dX3_part_18 : decode cX3_part 18 = .ok (.iload 4, 2) := by decide +kernel
theorem dX3_part_20 : decode cX3_part 20 = .ok (.aload_n 0, 1) := by decide +kernel
theorem dX3_part_21 : decode cX3_part 21 = .ok (.getfield 41, 3) := by decide +kernel
theorem dX3_part_24 : decode cX3_part 24 = .ok (.if_icmp .ge 82, 3) := by decide +kernel
theorem dX3_part_27 : decode cX3_part 27 = .ok (.iconst 0, 1) := by decide +kernel
theorem dX3_part_28 : decode cX3_part 28 = .ok (.istore 5, 2) := by decide +kernel
theorem dX3_part_30 : decode cX3_part 30 = .ok (.iload 5, 2) := by decide +kernel
theorem dX3_part_32 : decode cX3_part 32 = .ok (.aload_n 0, 1) := by decide +kernel
theorem dX3_part_33 : decode cX3_part 33 = .ok (.getfield 41, 3) := by decide +kernel
theorem dX3_part_36 : decode cX3_part 36 = .ok (.if_icmp .ge 64, 3) := by decide +kernel
theorem dX3_part_39 : decode cX3_part 39 = .ok (.iload 4, 2) := by decide +kernel
theorem dX3_part_41 : decode cX3_part 41 = .ok (.iload 5, 2) := by decide +kernel
theorem dX3_part_43 : decode cX3_part 43 = .ok (.if_icmp .eq 51, 3) := by decide +kernel
theorem dX3_part_46 : decode cX3_part 46 = .ok (.iload_n 1, 1) := by decide +kernel
theorem dX3_part_47 : decode cX3_part 47 = .ok (.iload 4, 2) := by decide +kernel
theorem dX3_part_49 : decode cX3_part 49 = .ok (.invokestatic 64, 3) := by decide +kernel
theorem dX3_part_52 : decode cX3_part 52 = .ok (.iload_n 1, 1) := by decide +kernel
theorem dX3_part_53 : decode cX3_part 53 = .ok (.iload 5, 2) := by decide +kernel
theorem dX3_part_55 : decode cX3_part 55 = .ok (.invokestatic 64, 3) := by decide +kernel
theorem dX3_part_58 : decode cX3_part 58 = .ok (.if_icmp .ne 7, 3) := by decide +kernel
theorem dX3_part_61 : decode cX3_part 61 = .ok (.iconst 1, 1) := by decide +kernel
theorem dX3_part_62 : decode cX3_part 62 = .ok (.goto 4, 3) := by decide +kernel
theorem dX3_part_65 : decode cX3_part 65 = .ok (.iconst 0, 1) := by decide +kernel
theorem dX3_part_66 : decode cX3_part 66 = .ok (.istore 6, 2) := by decide +kernel
theorem dX3_part_68 : decode cX3_part 68 = .ok (.aload_n 0, 1) := by decide +kernel
theorem dX3_part_69 : decode cX3_part 69 = .ok (.getfield 18, 3) := by decide +kernel
theorem dX3_part_72 : decode cX3_part 72 = .ok (.getfield 60, 3) := by decide +kernel
theorem dX3_part_75 : decode cX3_part 75 = .ok (.iload 4, 2) := by decide +kernel
theorem dX3_part_77 : decode cX3_part 77 = .ok (.aaload, 1) := by decide +kernel
theorem dX3_part_78 : decode cX3_part 78 = .ok (.iload 5, 2) := by decide +kernel
theorem dX3_part_80 : decode cX3_part 80 = .ok (.iload 6, 2) := by decide +kernel
theorem dX3_part_82 : decode cX3_part 82 = .ok (.ifCond .eq 7, 3) := by decide +kernel
theorem dX3_part_85 : decode cX3_part 85 = .ok (.iload_n 2, 1) := by decide +kernel
theorem dX3_part_86 : decode cX3_part 86 = .ok (.goto 4, 3) := by decide +kernel
theorem dX3_part_89 : decode cX3_part 89 = .ok (.iconst 0, 1) := by decide +kernel
theorem dX3_part_90 : decode cX3_part 90 = .ok (.iastore, 1) := by decide +kernel
theorem dX3_part_91 : decode cX3_part 91 = .ok (.iinc 3 1, 3) := by decide +kernel
theorem dX3_part_94 : decode cX3_part 94 = .ok (.iinc 5 1, 3) := by decide +kernel
theorem dX3_part_97 : decode cX3_part 97 = .ok (.goto (-67), 3) := by decide +kernel
theorem dX3_part_100 : decode cX3_part 100 = .ok (.iinc 4 1, 3) := by decide +kernel
theorem dX3_part_103 : decode cX3_part 103 = .ok (.goto (-85), 3) := by decide +kernel
theorem dX3_part_106 : decode cX3_part 106 = .ok (.iload_n 3, 1) := by decide +kernel
theorem dX3_part_107 : decode cX3_part 107 = .ok (.ireturn, 1) := by decide +kernel
theorem dX3_patience_0 : decode cX3_patience 0 = .ok (.iload_n 1, 1) := by decide +kernel
theorem dX3_patience_1 : decode cX3_patience 1 = .ok (.iconst 5, 1) := by decide +kernel
theorem dX3_patience_2 : decode cX3_patience 2 = .ok (.if_icmp .lt 16, 3) := by decide +kernel
theorem dX3_patience_5 : decode cX3_patience 5 = .ok (.iload_n 1, 1) := by decide +kernel
theorem dX3_patience_6 : decode cX3_patience 6 = .ok (.bipush 100, 2) := by decide +kernel
theorem dX3_patience_8 : decode cX3_patience 8 = .ok (.if_icmp .gt 10, 3) := by decide +kernel
theorem dX3_patience_11 : decode cX3_patience 11 = .ok (.aload_n 0, 1) := by decide +kernel
theorem dX3_patience_12 : decode cX3_patience 12 = .ok (.getfield 37, 3) := by decide +kernel
theorem dX3_patience_15 : decode cX3_patience 15 = .ok (.ifCond .eq 5, 3) := by decide +kernel
theorem dX3_patience_18 : decode cX3_patience 18 = .ok (.iconst 0, 1) := by decide +kernel
theorem dX3_patience_19 : decode cX3_patience 19 = .ok (.ireturn, 1) := by decide +kernel
theorem dX3_patience_20 : decode cX3_patience 20 = .ok (.aload_n 0, 1) := by decide +kernel
theorem dX3_patience_21 : decode cX3_patience 21 = .ok (.iload_n 1, 1) := by decide +kernel
theorem dX3_patience_22 : decode cX3_patience 22 = .ok (.putfield 26, 3) := by decide +kernel
theorem dX3_patience_25 : decode cX3_patience 25 = .ok (.iconst 1, 1) := by decide +kernel
theorem dX3_patience_26 : decode cX3_patience 26 = .ok (.ireturn, 1) := by decide +kernel
theorem dX3_begin_0 : decode cX3_begin 0 = .ok (.aload_n 0, 1) := by decide +kernel
theorem dX3_begin_1 : decode cX3_begin 1 = .ok (.iload_n 1, 1) := by decide +kernel
theorem dX3_begin_2 : decode cX3_begin 2 = .ok (.invokevirtual 67, 3) := by decide +kernel
theorem dX3_begin_5 : decode cX3_begin 5 = .ok (.ifCond .eq 22, 3) := by decide +kernel
theorem dX3_begin_8 : decode cX3_begin 8 = .ok (.aload_n 0, 1) := by decide +kernel
theorem dX3_begin_9 : decode cX3_begin 9 = .ok (.getfield 11, 3) := by decide +kernel
theorem dX3_begin_12 : decode cX3_begin 12 = .ok (.iload_n 1, 1) := by decide +kernel
theorem dX3_begin_13 : decode cX3_begin 13 = .ok (.aaload, 1) := by decide +kernel
theorem dX3_begin_14 : decode cX3_begin 14 = .ok (.getfield 71, 3) := by decide +kernel
theorem dX3_begin_17 : decode cX3_begin 17 = .ok (.ifCond .eq 10, 3) := by decide +kernel
theorem dX3_begin_20 : decode cX3_begin 20 = .ok (.aload_n 0, 1) := by decide +kernel
theorem dX3_begin_21 : decode cX3_begin 21 = .ok (.getfield 37, 3) := by decide +kernel
theorem dX3_begin_24 : decode cX3_begin 24 = .ok (.ifCond .eq 5, 3) := by decide +kernel
theorem dX3_begin_27 : decode cX3_begin 27 = .ok (.iconst 0, 1) := by decide +kernel
theorem dX3_begin_28 : decode cX3_begin 28 = .ok (.ireturn, 1) := by decide +kernel
theorem dX3_begin_29 : decode cX3_begin 29 = .ok (.aload_n 0, 1) := by decide +kernel
theorem dX3_begin_30 : decode cX3_begin 30 = .ok (.iconst 1, 1) := by decide +kernel
theorem dX3_begin_31 : decode cX3_begin 31 = .ok (.putfield 37, 3) := by decide +kernel
theorem dX3_begin_34 : decode cX3_begin 34 = .ok (.aload_n 0, 1) := by decide +kernel
theorem dX3_begin_35 : decode cX3_begin 35 = .ok (.iload_n 2, 1) := by decide +kernel
theorem dX3_begin_36 : decode cX3_begin 36 = .ok (.putfield 74, 3) := by decide +kernel
theorem dX3_begin_39 : decode cX3_begin 39 = .ok (.iload_n 2, 1) := by decide +kernel
theorem dX3_begin_40 : decode cX3_begin 40 = .ok (.iload_n 1, 1) := by decide +kernel
theorem dX3_begin_41 : decode cX3_begin 41 = .ok (.invokestatic 64, 3) := by decide +kernel
theorem dX3_begin_44 : decode cX3_begin 44 = .ok (.ifCond .eq 11, 3) := by decide +kernel
theorem dX3_begin_47 : decode cX3_begin 47 = .ok (.aload_n 0, 1) := by decide +kernel
theorem dX3_begin_48 : decode cX3_begin 48 = .ok (.iload_n 1, 1) := by decide +kernel
theorem dX3_begin_49 : decode cX3_begin 49 = .ok (.invokevirtual 77, 3) := by decide +kernel
theorem dX3_begin_52 : decode cX3_begin 52 = .ok (.goto 9, 3) := by decide +kernel
theorem dX3_begin_55 : decode cX3_begin 55 = .ok (.aload_n 0, 1) := by decide +kernel
theorem dX3_begin_56 : decode cX3_begin 56 = .ok (.iload_n 1, 1) := by decide +kernel
theorem dX3_begin_57 : decode cX3_begin 57 = .ok (.iconst 5, 1) := by decide +kernel
theorem dX3_begin_58 : decode cX3_begin 58 = .ok (.invokevirtual 80, 3) := by decide +kernel
theorem dX3_begin_61 : decode cX3_begin 61 = .ok (.iconst 1, 1) := by decide +kernel
theorem dX3_begin_62 : decode cX3_begin 62 = .ok (.ireturn, 1) := by decide +kernel
theorem dX3_crash_0 : decode cX3_crash 0 = .ok (.aload_n 0, 1) := by decide +kernel
theorem dX3_crash_1 : decode cX3_crash 1 = .ok (.iload_n 1, 1) := by decide +kernel
theorem dX3_crash_2 : decode cX3_crash 2 = .ok (.invokevirtual 67, 3) := by decide +kernel
theorem dX3_crash_5 : decode cX3_crash 5 = .ok (.ifCond .eq 15, 3) := by decide +kernel
theorem dX3_crash_8 : decode cX3_crash 8 = .ok (.aload_n 0, 1) := by decide +kernel
theorem dX3_crash_9 : decode cX3_crash 9 = .ok (.getfield 11, 3) := by decide +kernel
theorem dX3_crash_12 : decode cX3_crash 12 = .ok (.iload_n 1, 1) := by decide +kernel
theorem dX3_crash_13 : decode cX3_crash 13 = .ok (.aaload, 1) := by decide +kernel
theorem dX3_crash_14 : decode cX3_crash 14 = .ok (.getfield 71, 3) := by decide +kernel
theorem dX3_crash_17 : decode cX3_crash 17 = .ok (.ifCond .ne 5, 3) := by decide +kernel
theorem dX3_crash_20 : decode cX3_crash 20 = .ok (.iconst 0, 1) := by decide +kernel
theorem dX3_crash_21 : decode cX3_crash 21 = .ok (.ireturn, 1) := by decide +kernel
theorem dX3_crash_22 : decode cX3_crash 22 = .ok (.aload_n 0, 1) := by decide +kernel
theorem dX3_crash_23 : decode cX3_crash 23 = .ok (.getfield 11, 3) := by decide +kernel
theorem dX3_crash_26 : decode cX3_crash 26 = .ok (.iload_n 1, 1) := by decide +kernel
theorem dX3_crash_27 : decode cX3_crash 27 = .ok (.aaload, 1) := by decide +kernel
theorem dX3_crash_28 : decode cX3_crash 28 = .ok (.astore_n 2, 1) := by decide +kernel
theorem dX3_crash_29 : decode cX3_crash 29 = .ok (.aload_n 2, 1) := by decide +kernel
theorem dX3_crash_30 : decode cX3_crash 30 = .ok (.iconst 0, 1) := by decide +kernel
theorem dX3_crash_31 : decode cX3_crash 31 = .ok (.putfield 71, 3) := by decide +kernel
theorem dX3_crash_34 : decode cX3_crash 34 = .ok (.aload_n 2, 1) := by decide +kernel
theorem dX3_crash_35 : decode cX3_crash 35 = .ok (.iconst 0, 1) := by decide +kernel
theorem dX3_crash_36 : decode cX3_crash 36 = .ok (.putfield 84, 3) := by decide +kernel
theorem dX3_crash_39 : decode cX3_crash 39 = .ok (.aload_n 2, 1) := by decide +kernel
theorem dX3_crash_40 : decode cX3_crash 40 = .ok (.iconst (-1), 1) := by decide +kernel
theorem dX3_crash_41 : decode cX3_crash 41 = .ok (.putfield 87, 3) := by decide +kernel
theorem dX3_crash_44 : decode cX3_crash 44 = .ok (.iconst 1, 1) := by decide +kernel
theorem dX3_crash_45 : decode cX3_crash 45 = .ok (.ireturn, 1) := by decide +kernel
theorem dX3_recover_0 : decode cX3_recover 0 = .ok (.aload_n 0, 1) := by decide +kernel
theorem dX3_recover_1 : decode cX3_recover 1 = .ok (.iload_n 1, 1) := by decide +kernel
theorem dX3_recover_2 : decode cX3_recover 2 = .ok (.invokevirtual 67, 3) := by decide +kernel
theorem dX3_recover_5 : decode cX3_recover 5 = .ok (.ifCond .eq 15, 3) := by decide +kernel
theorem dX3_recover_8 : decode cX3_recover 8 = .ok (.aload_n 0, 1) := by decide +kernel
theorem dX3_recover_9 : decode cX3_recover 9 = .ok (.getfield 11, 3) := by decide +kernel
theorem dX3_recover_12 : decode cX3_recover 12 = .ok (.iload_n 1, 1) := by decide +kernel
theorem dX3_recover_13 : decode cX3_recover 13 = .ok (.aaload, 1) := by decide +kernel
theorem dX3_recover_14 : decode cX3_recover 14 = .ok (.getfield 71, 3) := by decide +kernel
theorem dX3_recover_17 : decode cX3_recover 17 = .ok (.ifCond .eq 5, 3) := by decide +kernel
theorem dX3_recover_20 : decode cX3_recover 20 = .ok (.iconst 0, 1) := by decide +kernel
theorem dX3_recover_21 : decode cX3_recover 21 = .ok (.ireturn, 1) := by decide +kernel
theorem dX3_recover_22 : decode cX3_recover 22 = .ok (.aload_n 0, 1) := by decide +kernel
theorem dX3_recover_23 : decode cX3_recover 23 = .ok (.getfield 11, 3) := by decide +kernel
theorem dX3_recover_26 : decode cX3_recover 26 = .ok (.iload_n 1, 1) := by decide +kernel
theorem dX3_recover_27 : decode cX3_recover 27 = .ok (.aaload, 1) := by decide +kernel
theorem dX3_recover_28 : decode cX3_recover 28 = .ok (.astore_n 2, 1) := by decide +kernel
theorem dX3_recover_29 : decode cX3_recover 29 = .ok (.aload_n 2, 1) := by decide +kernel
theorem dX3_recover_30 : decode cX3_recover 30 = .ok (.iconst 1, 1) := by decide +kernel
theorem dX3_recover_31 : decode cX3_recover 31 = .ok (.putfield 71, 3) := by decide +kernel
theorem dX3_recover_34 : decode cX3_recover 34 = .ok (.aload_n 0, 1) := by decide +kernel
theorem dX3_recover_35 : decode cX3_recover 35 = .ok (.getfield 37, 3) := by decide +kernel
theorem dX3_recover_38 : decode cX3_recover 38 = .ok (.ifCond .eq 19, 3) := by decide +kernel
theorem dX3_recover_41 : decode cX3_recover 41 = .ok (.aload_n 2, 1) := by decide +kernel
theorem dX3_recover_42 : decode cX3_recover 42 = .ok (.getfield 90, 3) := by decide +kernel
theorem dX3_recover_45 : decode cX3_recover 45 = .ok (.ifCond .ne 12, 3) := by decide +kernel
theorem dX3_recover_48 : decode cX3_recover 48 = .ok (.aload_n 0, 1) := by decide +kernel
theorem dX3_recover_49 : decode cX3_recover 49 = .ok (.aload_n 2, 1) := by decide +kernel
theorem dX3_recover_50 : decode cX3_recover 50 = .ok (.iconst 5, 1) := by decide +kernel
theorem dX3_recover_51 : decode cX3_recover 51 = .ok (.invokevirtual 93, 3) := by decide +kernel
theorem dX3_recover_54 : decode cX3_recover 54 = .ok (.goto 22, 3) := by decide +kernel
theorem dX3_recover_57 : decode cX3_recover 57 = .ok (.aload_n 0, 1) := by decide +kernel
theorem dX3_recover_58 : decode cX3_recover 58 = .ok (.getfield 37, 3) := by decide +kernel
theorem dX3_recover_61 : decode cX3_recover 61 = .ok (.ifCond .eq 15, 3) := by decide +kernel
theorem dX3_recover_64 : decode cX3_recover 64 = .ok (.aload_n 2, 1) := by decide +kernel
theorem dX3_recover_65 : decode cX3_recover 65 = .ok (.invokevirtual 97, 3) := by decide +kernel
theorem dX3_recover_68 : decode cX3_recover 68 = .ok (.ifCond .ne 8, 3) := by decide +kernel
theorem dX3_recover_71 : decode cX3_recover 71 = .ok (.aload_n 0, 1) := by decide +kernel
theorem dX3_recover_72 : decode cX3_recover 72 = .ok (.iload_n 1, 1) := by decide +kernel
theorem dX3_recover_73 : decode cX3_recover 73 = .ok (.invokevirtual 101, 3) := by decide +kernel
theorem dX3_recover_76 : decode cX3_recover 76 = .ok (.iconst 1, 1) := by decide +kernel
theorem dX3_recover_77 : decode cX3_recover 77 = .ok (.ireturn, 1) := by decide +kernel
theorem dX3_run_0 : decode cX3_run 0 = .ok (.iload_n 1, 1) := by decide +kernel
theorem dX3_run_1 : decode cX3_run 1 = .ok (.ifCond .lt 25, 3) := by decide +kernel
theorem dX3_run_4 : decode cX3_run 4 = .ok (.iload_n 1, 1) := by decide +kernel
theorem dX3_run_5 : decode cX3_run 5 = .ok (.sipush 500, 3) := by decide +kernel
theorem dX3_run_8 : decode cX3_run 8 = .ok (.if_icmp .gt 18, 3) := by decide +kernel
theorem dX3_run_11 : decode cX3_run 11 = .ok (.aload_n 0, 1) := by decide +kernel
theorem dX3_run_12 : decode cX3_run 12 = .ok (.getfield 18, 3) := by decide +kernel
theorem dX3_run_15 : decode cX3_run 15 = .ok (.getfield 104, 3) := by decide +kernel
theorem dX3_run_18 : decode cX3_run 18 = .ok (.iload_n 1, 1) := by decide +kernel
theorem dX3_run_19 : decode cX3_run 19 = .ok (.iadd, 1) := by decide +kernel
theorem dX3_run_20 : decode cX3_run 20 = .ok (.sipush 4000, 3) := by decide +kernel
theorem dX3_run_23 : decode cX3_run 23 = .ok (.if_icmp .le 5, 3) := by decide +kernel
theorem dX3_run_26 : decode cX3_run 26 = .ok (.iconst (-1), 1) := by decide +kernel
theorem dX3_run_27 : decode cX3_run 27 = .ok (.ireturn, 1) := by decide +kernel
theorem dX3_run_28 : decode cX3_run 28 = .ok (.aload_n 0, 1) := by decide +kernel
theorem dX3_run_29 : decode cX3_run 29 = .ok (.getfield 18, 3) := by decide +kernel
theorem dX3_run_32 : decode cX3_run 32 = .ok (.getfield 104, 3) := by decide +kernel
theorem dX3_run_35 : decode cX3_run 35 = .ok (.iload_n 1, 1) := by decide +kernel
theorem dX3_run_36 : decode cX3_run 36 = .ok (.iadd, 1) := by decide +kernel
theorem dX3_run_37 : decode cX3_run 37 = .ok (.istore_n 2, 1) := by decide +kernel
theorem dX3_run_38 : decode cX3_run 38 = .ok (.iconst 0, 1) := by decide +kernel
theorem dX3_run_39 : decode cX3_run 39 = .ok (.istore_n 3, 1) := by decide +kernel
theorem dX3_run_40 : decode cX3_run 40 = .ok (.iconst 0, 1) := by decide +kernel
theorem dX3_run_41 : decode cX3_run 41 = .ok (.istore 4, 2) := by decide +kernel
theorem dX3_run_43 : decode cX3_run 43 = .ok (.iload 4, 2) := by decide +kernel
theorem dX3_run_45 : decode cX3_run 45 = .ok (.ldc 107, 2) := by decide +kernel
theorem dX3_run_47 : decode cX3_run 47 = .ok (.if_icmp .ge 33, 3) := by decide +kernel
theorem dX3_run_50 : decode cX3_run 50 = .ok (.aload_n 0, 1) := by decide +kernel
theorem dX3_run_51 : decode cX3_run 51 = .ok (.iload_n 2, 1) := by decide +kernel
theorem dX3_run_52 : decode cX3_run 52 = .ok (.invokevirtual 108, 3) := by decide +kernel
theorem dX3_run_55 : decode cX3_run 55 = .ok (.istore 5, 2) := by decide +kernel
theorem dX3_run_57 : decode cX3_run 57 = .ok (.iload 5, 2) := by decide +kernel
theorem dX3_run_59 : decode cX3_run 59 = .ok (.ifCond .ne 6, 3) := by decide +kernel
theorem dX3_run_62 : decode cX3_run 62 = .ok (.goto 18, 3) := by decide +kernel
theorem dX3_run_65 : decode cX3_run 65 = .ok (.iload 5, 2) := by decide +kernel
theorem dX3_run_67 : decode cX3_run 67 = .ok (.iconst 2, 1) := by decide +kernel
theorem dX3_run_68 : decode cX3_run 68 = .ok (.if_icmp .ne 6, 3) := by decide +kernel
theorem dX3_run_71 : decode cX3_run 71 = .ok (.iinc 3 1, 3) := by decide +kernel
theorem dX3_run_74 : decode cX3_run 74 = .ok (.iinc 4 1, 3) := by decide +kernel
theorem dX3_run_77 : decode cX3_run 77 = .ok (.goto (-34), 3) := by decide +kernel
theorem dX3_run_80 : decode cX3_run 80 = .ok (.aload_n 0, 1) := by decide +kernel
theorem dX3_run_81 : decode cX3_run 81 = .ok (.getfield 18, 3) := by decide +kernel
theorem dX3_run_84 : decode cX3_run 84 = .ok (.iload_n 2, 1) := by decide +kernel
theorem dX3_run_85 : decode cX3_run 85 = .ok (.putfield 104, 3) := by decide +kernel
theorem dX3_run_88 : decode cX3_run 88 = .ok (.iload_n 3, 1) := by decide +kernel
theorem dX3_run_89 : decode cX3_run 89 = .ok (.ireturn, 1) := by decide +kernel
theorem dX3_step_0 : decode cX3_step 0 = .ok (.iconst 0, 1) := by decide +kernel
theorem dX3_step_1 : decode cX3_step 1 = .ok (.istore_n 1, 1) := by decide +kernel
theorem dX3_step_2 : decode cX3_step 2 = .ok (.iload_n 1, 1) := by decide +kernel
theorem dX3_step_3 : decode cX3_step 3 = .ok (.ldc 107, 2) := by decide +kernel
theorem dX3_step_5 : decode cX3_step 5 = .ok (.if_icmp .ge 37, 3) := by decide +kernel
theorem dX3_step_8 : decode cX3_step 8 = .ok (.aload_n 0, 1) := by decide +kernel
theorem dX3_step_9 : decode cX3_step 9 = .ok (.sipush 4000, 3) := by decide +kernel
theorem dX3_step_12 : decode cX3_step 12 = .ok (.invokevirtual 108, 3) := by decide +kernel
theorem dX3_step_15 : decode cX3_step 15 = .ok (.istore_n 2, 1) := by decide +kernel
theorem dX3_step_16 : decode cX3_step 16 = .ok (.iload_n 2, 1) := by decide +kernel
theorem dX3_step_17 : decode cX3_step 17 = .ok (.iconst 2, 1) := by decide +kernel
theorem dX3_step_18 : decode cX3_step 18 = .ok (.if_icmp .ne 11, 3) := by decide +kernel
theorem dX3_step_21 : decode cX3_step 21 = .ok (.aload_n 0, 1) := by decide +kernel
theorem dX3_step_22 : decode cX3_step 22 = .ok (.getfield 18, 3) := by decide +kernel
theorem dX3_step_25 : decode cX3_step 25 = .ok (.getfield 104, 3) := by decide +kernel
theorem dX3_step_28 : decode cX3_step 28 = .ok (.ireturn, 1) := by decide +kernel
theorem dX3_step_29 : decode cX3_step 29 = .ok (.iload_n 2, 1) := by decide +kernel
theorem dX3_step_30 : decode cX3_step 30 = .ok (.ifCond .ne 6, 3) := by decide +kernel
theorem dX3_step_33 : decode cX3_step 33 = .ok (.goto 9, 3) := by decide +kernel
theorem dX3_step_36 : decode cX3_step 36 = .ok (.iinc 1 1, 3) := by decide +kernel
theorem dX3_step_39 : decode cX3_step 39 = .ok (.goto (-37), 3) := by decide +kernel
theorem dX3_step_42 : decode cX3_step 42 = .ok (.iconst (-1), 1) := by decide +kernel
theorem dX3_step_43 : decode cX3_step 43 = .ok (.ireturn, 1) := by decide +kernel
theorem dX3_reset_0 : decode cX3_reset 0 = .ok (.aload_n 0, 1) := by decide +kernel
theorem dX3_reset_1 : decode cX3_reset 1 = .ok (.iconst 0, 1) := by decide +kernel
theorem dX3_reset_2 : decode cX3_reset 2 = .ok (.putfield 37, 3) := by decide +kernel
theorem dX3_reset_5 : decode cX3_reset 5 = .ok (.aload_n 0, 1) := by decide +kernel
theorem dX3_reset_6 : decode cX3_reset 6 = .ok (.iconst 0, 1) := by decide +kernel
theorem dX3_reset_7 : decode cX3_reset 7 = .ok (.putfield 74, 3) := by decide +kernel
theorem dX3_reset_10 : decode cX3_reset 10 = .ok (.aload_n 0, 1) := by decide +kernel
theorem dX3_reset_11 : decode cX3_reset 11 = .ok (.iconst 0, 1) := by decide +kernel
theorem dX3_reset_12 : decode cX3_reset 12 = .ok (.putfield 112, 3) := by decide +kernel
theorem dX3_reset_15 : decode cX3_reset 15 = .ok (.aload_n 0, 1) := by decide +kernel
theorem dX3_reset_16 : decode cX3_reset 16 = .ok (.iconst 0, 1) := by decide +kernel
theorem dX3_reset_17 : decode cX3_reset 17 = .ok (.putfield 115, 3) := by decide +kernel
theorem dX3_reset_20 : decode cX3_reset 20 = .ok (.aload_n 0, 1) := by decide +kernel
theorem dX3_reset_21 : decode cX3_reset 21 = .ok (.iconst 0, 1) := by decide +kernel
theorem dX3_reset_22 : decode cX3_reset 22 = .ok (.iconst (-1), 1) := by decide +kernel
theorem dX3_reset_23 : decode cX3_reset 23 = .ok (.iconst (-1), 1) := by decide +kernel
theorem dX3_reset_24 : decode cX3_reset 24 = .ok (.iconst 0, 1) := by decide +kernel
theorem dX3_reset_25 : decode cX3_reset 25 = .ok (.iconst 0, 1) := by decide +kernel
theorem dX3_reset_26 : decode cX3_reset 26 = .ok (.invokevirtual 33, 3) := by decide +kernel
theorem dX3_reset_29 : decode cX3_reset 29 = .ok (.aload_n 0, 1) := by decide +kernel
theorem dX3_reset_30 : decode cX3_reset 30 = .ok (.getfield 18, 3) := by decide +kernel
theorem dX3_reset_33 : decode cX3_reset 33 = .ok (.invokevirtual 118, 3) := by decide +kernel
theorem dX3_reset_36 : decode cX3_reset 36 = .ok (.iconst 0, 1) := by decide +kernel
theorem dX3_reset_37 : decode cX3_reset 37 = .ok (.istore_n 1, 1) := by decide +kernel
theorem dX3_reset_38 : decode cX3_reset 38 = .ok (.iload_n 1, 1) := by decide +kernel
theorem dX3_reset_39 : decode cX3_reset 39 = .ok (.aload_n 0, 1) := by decide +kernel
theorem dX3_reset_40 : decode cX3_reset 40 = .ok (.getfield 41, 3) := by decide +kernel
theorem dX3_reset_43 : decode cX3_reset 43 = .ok (.if_icmp .ge 18, 3) := by decide +kernel
theorem dX3_reset_46 : decode cX3_reset 46 = .ok (.aload_n 0, 1) := by decide +kernel
theorem dX3_reset_47 : decode cX3_reset 47 = .ok (.getfield 11, 3) := by decide +kernel
theorem dX3_reset_50 : decode cX3_reset 50 = .ok (.iload_n 1, 1) := by decide +kernel
theorem dX3_reset_51 : decode cX3_reset 51 = .ok (.aaload, 1) := by decide +kernel
theorem dX3_reset_52 : decode cX3_reset 52 = .ok (.invokevirtual 121, 3) := by decide +kernel
theorem dX3_reset_55 : decode cX3_reset 55 = .ok (.iinc 1 1, 3) := by decide +kernel
theorem dX3_reset_58 : decode cX3_reset 58 = .ok (.goto (-20), 3) := by decide +kernel
theorem dX3_reset_61 : decode cX3_reset 61 = .ok (.iconst 1, 1) := by decide +kernel
theorem dX3_reset_62 : decode cX3_reset 62 = .ok (.ireturn, 1) := by decide +kernel
theorem dX3_of_0 : decode cX3_of 0 = .ok (.aload_n 0, 1) := by decide +kernel
theorem dX3_of_1 : decode cX3_of 1 = .ok (.iload_n 1, 1) := by decide +kernel
theorem dX3_of_2 : decode cX3_of 2 = .ok (.invokevirtual 67, 3) := by decide +kernel
theorem dX3_of_5 : decode cX3_of 5 = .ok (.ifCond .ne 5, 3) := by decide +kernel
theorem dX3_of_8 : decode cX3_of 8 = .ok (.iconst (-1), 1) := by decide +kernel
theorem dX3_of_9 : decode cX3_of 9 = .ok (.ireturn, 1) := by decide +kernel
theorem dX3_of_10 : decode cX3_of 10 = .ok (.aload_n 0, 1) := by decide +kernel
theorem dX3_of_11 : decode cX3_of 11 = .ok (.getfield 11, 3) := by decide +kernel
theorem dX3_of_14 : decode cX3_of 14 = .ok (.iload_n 1, 1) := by decide +kernel
theorem dX3_of_15 : decode cX3_of 15 = .ok (.aaload, 1) := by decide +kernel
theorem dX3_of_16 : decode cX3_of 16 = .ok (.astore_n 3, 1) := by decide +kernel
theorem dX3_of_17 : decode cX3_of 17 = .ok (.iload_n 2, 1) := by decide +kernel
theorem dX3_of_18 : decode cX3_of 18 = .ok (.tableswitch 85 0 6 #[42, 47, 60, 65, 70, 75, 80], 42) := by decide +kernel
theorem dX3_of_60 : decode cX3_of 60 = .ok (.aload_n 3, 1) := by decide +kernel
theorem dX3_of_61 : decode cX3_of 61 = .ok (.getfield 90, 3) := by decide +kernel
theorem dX3_of_64 : decode cX3_of 64 = .ok (.ireturn, 1) := by decide +kernel
theorem dX3_of_65 : decode cX3_of 65 = .ok (.aload_n 3, 1) := by decide +kernel
theorem dX3_of_66 : decode cX3_of 66 = .ok (.getfield 71, 3) := by decide +kernel
theorem dX3_of_69 : decode cX3_of 69 = .ok (.ifCond .eq 7, 3) := by decide +kernel
theorem dX3_of_72 : decode cX3_of 72 = .ok (.iconst 1, 1) := by decide +kernel
theorem dX3_of_73 : decode cX3_of 73 = .ok (.goto 4, 3) := by decide +kernel
theorem dX3_of_76 : decode cX3_of 76 = .ok (.iconst 0, 1) := by decide +kernel
theorem dX3_of_77 : decode cX3_of 77 = .ok (.ireturn, 1) := by decide +kernel
theorem dX3_of_78 : decode cX3_of 78 = .ok (.aload_n 3, 1) := by decide +kernel
theorem dX3_of_79 : decode cX3_of 79 = .ok (.getfield 84, 3) := by decide +kernel
theorem dX3_of_82 : decode cX3_of 82 = .ok (.ireturn, 1) := by decide +kernel
theorem dX3_of_83 : decode cX3_of 83 = .ok (.aload_n 3, 1) := by decide +kernel
theorem dX3_of_84 : decode cX3_of 84 = .ok (.getfield 122, 3) := by decide +kernel
theorem dX3_of_87 : decode cX3_of 87 = .ok (.ireturn, 1) := by decide +kernel
theorem dX3_of_88 : decode cX3_of 88 = .ok (.aload_n 3, 1) := by decide +kernel
theorem dX3_of_89 : decode cX3_of 89 = .ok (.getfield 124, 3) := by decide +kernel
theorem dX3_of_92 : decode cX3_of 92 = .ok (.ireturn, 1) := by decide +kernel
theorem dX3_of_93 : decode cX3_of 93 = .ok (.aload_n 3, 1) := by decide +kernel
theorem dX3_of_94 : decode cX3_of 94 = .ok (.getfield 87, 3) := by decide +kernel
theorem dX3_of_97 : decode cX3_of 97 = .ok (.ireturn, 1) := by decide +kernel
theorem dX3_of_98 : decode cX3_of 98 = .ok (.aload_n 3, 1) := by decide +kernel
theorem dX3_of_99 : decode cX3_of 99 = .ok (.getfield 127, 3) := by decide +kernel
theorem dX3_of_102 : decode cX3_of 102 = .ok (.ireturn, 1) := by decide +kernel
theorem dX3_of_103 : decode cX3_of 103 = .ok (.iconst (-1), 1) := by decide +kernel
theorem dX3_of_104 : decode cX3_of 104 = .ok (.ireturn, 1) := by decide +kernel
theorem dX3_count_0 : decode cX3_count 0 = .ok (.iload_n 1, 1) := by decide +kernel
theorem dX3_count_1 : decode cX3_count 1 = .ok (.tableswitch 117 0 9 #[55, 63, 71, 76, 84, 89, 94, 99, 104, 109], 55) := by decide +kernel
theorem dX3_count_56 : decode cX3_count 56 = .ok (.aload_n 0, 1) := by decide +kernel
theorem dX3_count_57 : decode cX3_count 57 = .ok (.getfield 18, 3) := by decide +kernel
theorem dX3_count_60 : decode cX3_count 60 = .ok (.getfield 104, 3) := by decide +kernel
theorem dX3_count_63 : decode cX3_count 63 = .ok (.ireturn, 1) := by decide +kernel
theorem dX3_count_64 : decode cX3_count 64 = .ok (.aload_n 0, 1) := by decide +kernel
theorem dX3_count_65 : decode cX3_count 65 = .ok (.getfield 18, 3) := by decide +kernel
theorem dX3_count_68 : decode cX3_count 68 = .ok (.getfield 130, 3) := by decide +kernel
theorem dX3_count_71 : decode cX3_count 71 = .ok (.ireturn, 1) := by decide +kernel
theorem dX3_count_72 : decode cX3_count 72 = .ok (.aload_n 0, 1) := by decide +kernel
theorem dX3_count_73 : decode cX3_count 73 = .ok (.getfield 112, 3) := by decide +kernel
theorem dX3_count_76 : decode cX3_count 76 = .ok (.ireturn, 1) := by decide +kernel
theorem dX3_count_77 : decode cX3_count 77 = .ok (.aload_n 0, 1) := by decide +kernel
theorem dX3_count_78 : decode cX3_count 78 = .ok (.getfield 18, 3) := by decide +kernel
theorem dX3_count_81 : decode cX3_count 81 = .ok (.getfield 133, 3) := by decide +kernel
theorem dX3_count_84 : decode cX3_count 84 = .ok (.ireturn, 1) := by decide +kernel
theorem dX3_count_85 : decode cX3_count 85 = .ok (.aload_n 0, 1) := by decide +kernel
theorem dX3_count_86 : decode cX3_count 86 = .ok (.getfield 115, 3) := by decide +kernel
theorem dX3_count_89 : decode cX3_count 89 = .ok (.ireturn, 1) := by decide +kernel
theorem dX3_count_90 : decode cX3_count 90 = .ok (.aload_n 0, 1) := by decide +kernel
theorem dX3_count_91 : decode cX3_count 91 = .ok (.getfield 41, 3) := by decide +kernel
theorem dX3_count_94 : decode cX3_count 94 = .ok (.ireturn, 1) := by decide +kernel
theorem dX3_count_95 : decode cX3_count 95 = .ok (.aload_n 0, 1) := by decide +kernel
theorem dX3_count_96 : decode cX3_count 96 = .ok (.getfield 50, 3) := by decide +kernel
theorem dX3_count_99 : decode cX3_count 99 = .ok (.ireturn, 1) := by decide +kernel
theorem dX3_count_100 : decode cX3_count 100 = .ok (.aload_n 0, 1) := by decide +kernel
theorem dX3_count_101 : decode cX3_count 101 = .ok (.getfield 53, 3) := by decide +kernel
theorem dX3_count_104 : decode cX3_count 104 = .ok (.ireturn, 1) := by decide +kernel
theorem dX3_count_105 : decode cX3_count 105 = .ok (.aload_n 0, 1) := by decide +kernel
theorem dX3_count_106 : decode cX3_count 106 = .ok (.getfield 26, 3) := by decide +kernel
theorem dX3_count_109 : decode cX3_count 109 = .ok (.ireturn, 1) := by decide +kernel
theorem dX3_count_110 : decode cX3_count 110 = .ok (.aload_n 0, 1) := by decide +kernel
theorem dX3_count_111 : decode cX3_count 111 = .ok (.getfield 18, 3) := by decide +kernel
theorem dX3_count_114 : decode cX3_count 114 = .ok (.getfield 136, 3) := by decide +kernel
theorem dX3_count_117 : decode cX3_count 117 = .ok (.ireturn, 1) := by decide +kernel
theorem dX3_count_118 : decode cX3_count 118 = .ok (.iconst (-1), 1) := by decide +kernel
theorem dX3_count_119 : decode cX3_count 119 = .ok (.ireturn, 1) := by decide +kernel
theorem dX3_delay_0 : decode cX3_delay 0 = .ok (.aload_n 0, 1) := by decide +kernel
theorem dX3_delay_1 : decode cX3_delay 1 = .ok (.iload_n 1, 1) := by decide +kernel
theorem dX3_delay_2 : decode cX3_delay 2 = .ok (.iload_n 2, 1) := by decide +kernel
theorem dX3_delay_3 : decode cX3_delay 3 = .ok (.invokevirtual 56, 3) := by decide +kernel
theorem dX3_delay_6 : decode cX3_delay 6 = .ok (.ifCond .eq 17, 3) := by decide +kernel
theorem dX3_delay_9 : decode cX3_delay 9 = .ok (.aload_n 0, 1) := by decide +kernel
theorem dX3_delay_10 : decode cX3_delay 10 = .ok (.getfield 18, 3) := by decide +kernel
theorem dX3_delay_13 : decode cX3_delay 13 = .ok (.getfield 60, 3) := by decide +kernel
theorem dX3_delay_16 : decode cX3_delay 16 = .ok (.iload_n 1, 1) := by decide +kernel
theorem dX3_delay_17 : decode cX3_delay 17 = .ok (.aaload, 1) := by decide +kernel
theorem dX3_delay_18 : decode cX3_delay 18 = .ok (.iload_n 2, 1) := by decide +kernel
theorem dX3_delay_19 : decode cX3_delay 19 = .ok (.iaload, 1) := by decide +kernel
theorem dX3_delay_20 : decode cX3_delay 20 = .ok (.goto 4, 3) := by decide +kernel
theorem dX3_delay_23 : decode cX3_delay 23 = .ok (.iconst (-1), 1) := by decide +kernel
theorem dX3_delay_24 : decode cX3_delay 24 = .ok (.ireturn, 1) := by decide +kernel
theorem dX3_weight_0 : decode cX3_weight 0 = .ok (.iconst 0, 1) := by decide +kernel
theorem dX3_weight_1 : decode cX3_weight 1 = .ok (.istore_n 2, 1) := by decide +kernel
