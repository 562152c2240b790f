theorem dX3_weight_2 : decode cX3_weight 2 = .ok (.iconst 0, 1) := by decide +kernel
theorem dX3_weight_3 : decode cX3_weight 3 = .ok (.istore_n 3, 1) := by decide +kernel
theorem dX3_weight_4 : decode cX3_weight 4 = .ok (.iload_n 3, 1) := by decide +kernel
theorem dX3_weight_5 : decode cX3_weight 5 = .ok (.aload_n 0, 1) := by decide +kernel
theorem dX3_weight_6 : decode cX3_weight 6 = .ok (.getfield 41, 3) := by decide +kernel
theorem dX3_weight_9 : decode cX3_weight 9 = .ok (.if_icmp .ge 34, 3) := by decide +kernel
theorem dX3_weight_12 : decode cX3_weight 12 = .ok (.aload_n 0, 1) := by decide +kernel
theorem dX3_weight_13 : decode cX3_weight 13 = .ok (.getfield 11, 3) := by decide +kernel
theorem dX3_weight_16 : decode cX3_weight 16 = .ok (.iload_n 3, 1) := by decide +kernel
theorem dX3_weight_17 : decode cX3_weight 17 = .ok (.aaload, 1) := by decide +kernel
theorem dX3_weight_18 : decode cX3_weight 18 = .ok (.getfield 90, 3) := by decide +kernel
theorem dX3_weight_21 : decode cX3_weight 21 = .ok (.iload_n 1, 1) := by decide +kernel
theorem dX3_weight_22 : decode cX3_weight 22 = .ok (.if_icmp .ne 15, 3) := by decide +kernel
theorem dX3_weight_25 : decode cX3_weight 25 = .ok (.iload_n 2, 1) := by decide +kernel
theorem dX3_weight_26 : decode cX3_weight 26 = .ok (.aload_n 0, 1) := by decide +kernel
theorem dX3_weight_27 : decode cX3_weight 27 = .ok (.getfield 11, 3) := by decide +kernel
theorem dX3_weight_30 : decode cX3_weight 30 = .ok (.iload_n 3, 1) := by decide +kernel
theorem dX3_weight_31 : decode cX3_weight 31 = .ok (.aaload, 1) := by decide +kernel
theorem dX3_weight_32 : decode cX3_weight 32 = .ok (.getfield 124, 3) := by decide +kernel
theorem dX3_weight_35 : decode cX3_weight 35 = .ok (.iadd, 1) := by decide +kernel
theorem dX3_weight_36 : decode cX3_weight 36 = .ok (.istore_n 2, 1) := by decide +kernel
theorem dX3_weight_37 : decode cX3_weight 37 = .ok (.iinc 3 1, 3) := by decide +kernel
theorem dX3_weight_40 : decode cX3_weight 40 = .ok (.goto (-36), 3) := by decide +kernel
theorem dX3_weight_43 : decode cX3_weight 43 = .ok (.iload_n 2, 1) := by decide +kernel
theorem dX3_weight_44 : decode cX3_weight 44 = .ok (.ireturn, 1) := by decide +kernel
theorem dX3_latest_0 : decode cX3_latest 0 = .ok (.iload_n 1, 1) := by decide +kernel
theorem dX3_latest_1 : decode cX3_latest 1 = .ok (.ifCond .lt 17, 3) := by decide +kernel
theorem dX3_latest_4 : decode cX3_latest 4 = .ok (.iload_n 1, 1) := by decide +kernel
theorem dX3_latest_5 : decode cX3_latest 5 = .ok (.iconst 5, 1) := by decide +kernel
theorem dX3_latest_6 : decode cX3_latest 6 = .ok (.if_icmp .ge 12, 3) := by decide +kernel
theorem dX3_latest_9 : decode cX3_latest 9 = .ok (.aload_n 0, 1) := by decide +kernel
theorem dX3_latest_10 : decode cX3_latest 10 = .ok (.getfield 22, 3) := by decide +kernel
theorem dX3_latest_13 : decode cX3_latest 13 = .ok (.iload_n 1, 1) := by decide +kernel
theorem dX3_latest_14 : decode cX3_latest 14 = .ok (.iaload, 1) := by decide +kernel
theorem dX3_latest_15 : decode cX3_latest 15 = .ok (.goto 4, 3) := by decide +kernel
theorem dX3_latest_18 : decode cX3_latest 18 = .ok (.iconst (-1), 1) := by decide +kernel
theorem dX3_latest_19 : decode cX3_latest 19 = .ok (.ireturn, 1) := by decide +kernel
theorem dX3_check_0 : decode cX3_check 0 = .ok (.iconst 0, 1) := by decide +kernel
theorem dX3_check_1 : decode cX3_check 1 = .ok (.istore_n 1, 1) := by decide +kernel
theorem dX3_check_2 : decode cX3_check 2 = .ok (.iconst 0, 1) := by decide +kernel
theorem dX3_check_3 : decode cX3_check 3 = .ok (.istore_n 2, 1) := by decide +kernel
theorem dX3_check_4 : decode cX3_check 4 = .ok (.iconst 0, 1) := by decide +kernel
theorem dX3_check_5 : decode cX3_check 5 = .ok (.istore_n 3, 1) := by decide +kernel
theorem dX3_check_6 : decode cX3_check 6 = .ok (.iload_n 3, 1) := by decide +kernel
theorem dX3_check_7 : decode cX3_check 7 = .ok (.aload_n 0, 1) := by decide +kernel
theorem dX3_check_8 : decode cX3_check 8 = .ok (.getfield 41, 3) := by decide +kernel
theorem dX3_check_11 : decode cX3_check 11 = .ok (.if_icmp .ge 85, 3) := by decide +kernel
theorem dX3_check_14 : decode cX3_check 14 = .ok (.aload_n 0, 1) := by decide +kernel
theorem dX3_check_15 : decode cX3_check 15 = .ok (.getfield 37, 3) := by decide +kernel
theorem dX3_check_18 : decode cX3_check 18 = .ok (.ifCond .eq 18, 3) := by decide +kernel
theorem dX3_check_21 : decode cX3_check 21 = .ok (.aload_n 0, 1) := by decide +kernel
theorem dX3_check_22 : decode cX3_check 22 = .ok (.getfield 74, 3) := by decide +kernel
theorem dX3_check_25 : decode cX3_check 25 = .ok (.iload_n 3, 1) := by decide +kernel
theorem dX3_check_26 : decode cX3_check 26 = .ok (.invokestatic 64, 3) := by decide +kernel
theorem dX3_check_29 : decode cX3_check 29 = .ok (.ifCond .ne 7, 3) := by decide +kernel
theorem dX3_check_32 : decode cX3_check 32 = .ok (.iconst 1, 1) := by decide +kernel
theorem dX3_check_33 : decode cX3_check 33 = .ok (.goto 4, 3) := by decide +kernel
theorem dX3_check_36 : decode cX3_check 36 = .ok (.iconst 0, 1) := by decide +kernel
theorem dX3_check_37 : decode cX3_check 37 = .ok (.istore 4, 2) := by decide +kernel
theorem dX3_check_39 : decode cX3_check 39 = .ok (.iload_n 1, 1) := by decide +kernel
theorem dX3_check_40 : decode cX3_check 40 = .ok (.ifCond .ne 16, 3) := by decide +kernel
theorem dX3_check_43 : decode cX3_check 43 = .ok (.aload_n 0, 1) := by decide +kernel
theorem dX3_check_44 : decode cX3_check 44 = .ok (.getfield 11, 3) := by decide +kernel
theorem dX3_check_47 : decode cX3_check 47 = .ok (.iload_n 3, 1) := by decide +kernel
theorem dX3_check_48 : decode cX3_check 48 = .ok (.aaload, 1) := by decide +kernel
theorem dX3_check_49 : decode cX3_check 49 = .ok (.getfield 90, 3) := by decide +kernel
theorem dX3_check_52 : decode cX3_check 52 = .ok (.iconst 4, 1) := by decide +kernel
theorem dX3_check_53 : decode cX3_check 53 = .ok (.if_icmp .ne 7, 3) := by decide +kernel
theorem dX3_check_56 : decode cX3_check 56 = .ok (.iconst 1, 1) := by decide +kernel
theorem dX3_check_57 : decode cX3_check 57 = .ok (.goto 4, 3) := by decide +kernel
theorem dX3_check_60 : decode cX3_check 60 = .ok (.iconst 0, 1) := by decide +kernel
theorem dX3_check_61 : decode cX3_check 61 = .ok (.istore_n 1, 1) := by decide +kernel
theorem dX3_check_62 : decode cX3_check 62 = .ok (.iload_n 2, 1) := by decide +kernel
theorem dX3_check_63 : decode cX3_check 63 = .ok (.ifCond .ne 21, 3) := by decide +kernel
theorem dX3_check_66 : decode cX3_check 66 = .ok (.iload 4, 2) := by decide +kernel
theorem dX3_check_68 : decode cX3_check 68 = .ok (.ifCond .ne 16, 3) := by decide +kernel
theorem dX3_check_71 : decode cX3_check 71 = .ok (.aload_n 0, 1) := by decide +kernel
theorem dX3_check_72 : decode cX3_check 72 = .ok (.getfield 11, 3) := by decide +kernel
theorem dX3_check_75 : decode cX3_check 75 = .ok (.iload_n 3, 1) := by decide +kernel
theorem dX3_check_76 : decode cX3_check 76 = .ok (.aaload, 1) := by decide +kernel
theorem dX3_check_77 : decode cX3_check 77 = .ok (.getfield 90, 3) := by decide +kernel
theorem dX3_check_80 : decode cX3_check 80 = .ok (.iconst 5, 1) := by decide +kernel
theorem dX3_check_81 : decode cX3_check 81 = .ok (.if_icmp .ne 7, 3) := by decide +kernel
theorem dX3_check_84 : decode cX3_check 84 = .ok (.iconst 1, 1) := by decide +kernel
theorem dX3_check_85 : decode cX3_check 85 = .ok (.goto 4, 3) := by decide +kernel
theorem dX3_check_88 : decode cX3_check 88 = .ok (.iconst 0, 1) := by decide +kernel
theorem dX3_check_89 : decode cX3_check 89 = .ok (.istore_n 2, 1) := by decide +kernel
theorem dX3_check_90 : decode cX3_check 90 = .ok (.iinc 3 1, 3) := by decide +kernel
theorem dX3_check_93 : decode cX3_check 93 = .ok (.goto (-87), 3) := by decide +kernel
theorem dX3_check_96 : decode cX3_check 96 = .ok (.iload_n 1, 1) := by decide +kernel
theorem dX3_check_97 : decode cX3_check 97 = .ok (.ifCond .eq 11, 3) := by decide +kernel
theorem dX3_check_100 : decode cX3_check 100 = .ok (.iload_n 2, 1) := by decide +kernel
theorem dX3_check_101 : decode cX3_check 101 = .ok (.ifCond .eq 7, 3) := by decide +kernel
theorem dX3_check_104 : decode cX3_check 104 = .ok (.iconst 0, 1) := by decide +kernel
theorem dX3_check_105 : decode cX3_check 105 = .ok (.goto 4, 3) := by decide +kernel
theorem dX3_check_108 : decode cX3_check 108 = .ok (.iconst 1, 1) := by decide +kernel
theorem dX3_check_109 : decode cX3_check 109 = .ok (.ireturn, 1) := by decide +kernel
theorem dX3_isSite_0 : decode cX3_isSite 0 = .ok (.iload_n 1, 1) := by decide +kernel
theorem dX3_isSite_1 : decode cX3_isSite 1 = .ok (.ifCond .lt 15, 3) := by decide +kernel
theorem dX3_isSite_4 : decode cX3_isSite 4 = .ok (.iload_n 1, 1) := by decide +kernel
theorem dX3_isSite_5 : decode cX3_isSite 5 = .ok (.aload_n 0, 1) := by decide +kernel
theorem dX3_isSite_6 : decode cX3_isSite 6 = .ok (.getfield 41, 3) := by decide +kernel
theorem dX3_isSite_9 : decode cX3_isSite 9 = .ok (.if_icmp .ge 7, 3) := by decide +kernel
theorem dX3_isSite_12 : decode cX3_isSite 12 = .ok (.iconst 1, 1) := by decide +kernel
theorem dX3_isSite_13 : decode cX3_isSite 13 = .ok (.goto 4, 3) := by decide +kernel
theorem dX3_isSite_16 : decode cX3_isSite 16 = .ok (.iconst 0, 1) := by decide +kernel
theorem dX3_isSite_17 : decode cX3_isSite 17 = .ok (.ireturn, 1) := by decide +kernel
theorem dX3_isLink_0 : decode cX3_isLink 0 = .ok (.aload_n 0, 1) := by decide +kernel
theorem dX3_isLink_1 : decode cX3_isLink 1 = .ok (.iload_n 1, 1) := by decide +kernel
theorem dX3_isLink_2 : decode cX3_isLink 2 = .ok (.invokevirtual 67, 3) := by decide +kernel
theorem dX3_isLink_5 : decode cX3_isLink 5 = .ok (.ifCond .eq 20, 3) := by decide +kernel
theorem dX3_isLink_8 : decode cX3_isLink 8 = .ok (.aload_n 0, 1) := by decide +kernel
theorem dX3_isLink_9 : decode cX3_isLink 9 = .ok (.iload_n 2, 1) := by decide +kernel
theorem dX3_isLink_10 : decode cX3_isLink 10 = .ok (.invokevirtual 67, 3) := by decide +kernel
theorem dX3_isLink_13 : decode cX3_isLink 13 = .ok (.ifCond .eq 12, 3) := by decide +kernel
theorem dX3_isLink_16 : decode cX3_isLink 16 = .ok (.iload_n 1, 1) := by decide +kernel
theorem dX3_isLink_17 : decode cX3_isLink 17 = .ok (.iload_n 2, 1) := by decide +kernel
theorem dX3_isLink_18 : decode cX3_isLink 18 = .ok (.if_icmp .eq 7, 3) := by decide +kernel
theorem dX3_isLink_21 : decode cX3_isLink 21 = .ok (.iconst 1, 1) := by decide +kernel
theorem dX3_isLink_22 : decode cX3_isLink 22 = .ok (.goto 4, 3) := by decide +kernel
theorem dX3_isLink_25 : decode cX3_isLink 25 = .ok (.iconst 0, 1) := by decide +kernel
theorem dX3_isLink_26 : decode cX3_isLink 26 = .ok (.ireturn, 1) := by decide +kernel
theorem dX3_hasBit_0 : decode cX3_hasBit 0 = .ok (.iload_n 0, 1) := by decide +kernel
theorem dX3_hasBit_1 : decode cX3_hasBit 1 = .ok (.iload_n 1, 1) := by decide +kernel
theorem dX3_hasBit_2 : decode cX3_hasBit 2 = .ok (.ishr, 1) := by decide +kernel
theorem dX3_hasBit_3 : decode cX3_hasBit 3 = .ok (.iconst 1, 1) := by decide +kernel
theorem dX3_hasBit_4 : decode cX3_hasBit 4 = .ok (.iand, 1) := by decide +kernel
theorem dX3_hasBit_5 : decode cX3_hasBit 5 = .ok (.ifCond .eq 7, 3) := by decide +kernel
theorem dX3_hasBit_8 : decode cX3_hasBit 8 = .ok (.iconst 1, 1) := by decide +kernel
theorem dX3_hasBit_9 : decode cX3_hasBit 9 = .ok (.goto 4, 3) := by decide +kernel
theorem dX3_hasBit_12 : decode cX3_hasBit 12 = .ok (.iconst 0, 1) := by decide +kernel
theorem dX3_hasBit_13 : decode cX3_hasBit 13 = .ok (.ireturn, 1) := by decide +kernel
theorem dX3_everyone_0 : decode cX3_everyone 0 = .ok (.iconst 1, 1) := by decide +kernel
theorem dX3_everyone_1 : decode cX3_everyone 1 = .ok (.aload_n 0, 1) := by decide +kernel
theorem dX3_everyone_2 : decode cX3_everyone 2 = .ok (.getfield 41, 3) := by decide +kernel
theorem dX3_everyone_5 : decode cX3_everyone 5 = .ok (.ishl, 1) := by decide +kernel
theorem dX3_everyone_6 : decode cX3_everyone 6 = .ok (.iconst 1, 1) := by decide +kernel
theorem dX3_everyone_7 : decode cX3_everyone 7 = .ok (.isub, 1) := by decide +kernel
theorem dX3_everyone_8 : decode cX3_everyone 8 = .ok (.ireturn, 1) := by decide +kernel
theorem dX3_allBut_0 : decode cX3_allBut 0 = .ok (.aload_n 0, 1) := by decide +kernel
theorem dX3_allBut_1 : decode cX3_allBut 1 = .ok (.invokevirtual 139, 3) := by decide +kernel
theorem dX3_allBut_4 : decode cX3_allBut 4 = .ok (.iconst 1, 1) := by decide +kernel
theorem dX3_allBut_5 : decode cX3_allBut 5 = .ok (.iload_n 1, 1) := by decide +kernel
theorem dX3_allBut_6 : decode cX3_allBut 6 = .ok (.ishl, 1) := by decide +kernel
theorem dX3_allBut_7 : decode cX3_allBut 7 = .ok (.iconst (-1), 1) := by decide +kernel
theorem dX3_allBut_8 : decode cX3_allBut 8 = .ok (.ixor, 1) := by decide +kernel
theorem dX3_allBut_9 : decode cX3_allBut 9 = .ok (.iand, 1) := by decide +kernel
theorem dX3_allBut_10 : decode cX3_allBut 10 = .ok (.ireturn, 1) := by decide +kernel
theorem dX3_shareQuorums_0 : decode cX3_shareQuorums 0 = .ok (.aload_n 0, 1) := by decide +kernel
theorem dX3_shareQuorums_1 : decode cX3_shareQuorums 1 = .ok (.aload_n 0, 1) := by decide +kernel
theorem dX3_shareQuorums_2 : decode cX3_shareQuorums 2 = .ok (.getfield 47, 3) := by decide +kernel
theorem dX3_shareQuorums_5 : decode cX3_shareQuorums 5 = .ok (.iconst 2, 1) := by decide +kernel
theorem dX3_shareQuorums_6 : decode cX3_shareQuorums 6 = .ok (.idiv, 1) := by decide +kernel
theorem dX3_shareQuorums_7 : decode cX3_shareQuorums 7 = .ok (.iconst 1, 1) := by decide +kernel
theorem dX3_shareQuorums_8 : decode cX3_shareQuorums 8 = .ok (.iadd, 1) := by decide +kernel
theorem dX3_shareQuorums_9 : decode cX3_shareQuorums 9 = .ok (.putfield 50, 3) := by decide +kernel
theorem dX3_shareQuorums_12 : decode cX3_shareQuorums 12 = .ok (.aload_n 0, 1) := by decide +kernel
theorem dX3_shareQuorums_13 : decode cX3_shareQuorums 13 = .ok (.aload_n 0, 1) := by decide +kernel
theorem dX3_shareQuorums_14 : decode cX3_shareQuorums 14 = .ok (.getfield 47, 3) := by decide +kernel
theorem dX3_shareQuorums_17 : decode cX3_shareQuorums 17 = .ok (.iconst 2, 1) := by decide +kernel
theorem dX3_shareQuorums_18 : decode cX3_shareQuorums 18 = .ok (.idiv, 1) := by decide +kernel
theorem dX3_shareQuorums_19 : decode cX3_shareQuorums 19 = .ok (.iconst 1, 1) := by decide +kernel
theorem dX3_shareQuorums_20 : decode cX3_shareQuorums 20 = .ok (.iadd, 1) := by decide +kernel
theorem dX3_shareQuorums_21 : decode cX3_shareQuorums 21 = .ok (.putfield 53, 3) := by decide +kernel
theorem dX3_shareQuorums_24 : decode cX3_shareQuorums 24 = .ok (.return_, 1) := by decide +kernel
theorem dX3_note_0 : decode cX3_note 0 = .ok (.aload_n 0, 1) := by decide +kernel
theorem dX3_note_1 : decode cX3_note 1 = .ok (.getfield 22, 3) := by decide +kernel
theorem dX3_note_4 : decode cX3_note 4 = .ok (.iconst 0, 1) := by decide +kernel
theorem dX3_note_5 : decode cX3_note 5 = .ok (.iload_n 1, 1) := by decide +kernel
theorem dX3_note_6 : decode cX3_note 6 = .ok (.iastore, 1) := by decide +kernel
theorem dX3_note_7 : decode cX3_note 7 = .ok (.aload_n 0, 1) := by decide +kernel
theorem dX3_note_8 : decode cX3_note 8 = .ok (.getfield 22, 3) := by decide +kernel
theorem dX3_note_11 : decode cX3_note 11 = .ok (.iconst 1, 1) := by decide +kernel
theorem dX3_note_12 : decode cX3_note 12 = .ok (.iload_n 2, 1) := by decide +kernel
theorem dX3_note_13 : decode cX3_note 13 = .ok (.iastore, 1) := by decide +kernel
theorem dX3_note_14 : decode cX3_note 14 = .ok (.aload_n 0, 1) := by decide +kernel
theorem dX3_note_15 : decode cX3_note 15 = .ok (.getfield 22, 3) := by decide +kernel
theorem dX3_note_18 : decode cX3_note 18 = .ok (.iconst 2, 1) := by decide +kernel
theorem dX3_note_19 : decode cX3_note 19 = .ok (.iload_n 3, 1) := by decide +kernel
theorem dX3_note_20 : decode cX3_note 20 = .ok (.iastore, 1) := by decide +kernel
theorem dX3_note_21 : decode cX3_note 21 = .ok (.aload_n 0, 1) := by decide +kernel
theorem dX3_note_22 : decode cX3_note 22 = .ok (.getfield 22, 3) := by decide +kernel
theorem dX3_note_25 : decode cX3_note 25 = .ok (.iconst 3, 1) := by decide +kernel
theorem dX3_note_26 : decode cX3_note 26 = .ok (.iload 4, 2) := by decide +kernel
theorem dX3_note_28 : decode cX3_note 28 = .ok (.iastore, 1) := by decide +kernel
theorem dX3_note_29 : decode cX3_note 29 = .ok (.aload_n 0, 1) := by decide +kernel
theorem dX3_note_30 : decode cX3_note 30 = .ok (.getfield 22, 3) := by decide +kernel
theorem dX3_note_33 : decode cX3_note 33 = .ok (.iconst 4, 1) := by decide +kernel
theorem dX3_note_34 : decode cX3_note 34 = .ok (.iload 5, 2) := by decide +kernel
theorem dX3_note_36 : decode cX3_note 36 = .ok (.iastore, 1) := by decide +kernel
theorem dX3_note_37 : decode cX3_note 37 = .ok (.return_, 1) := by decide +kernel
theorem dX3_takeNext_0 : decode cX3_takeNext 0 = .ok (.aload_n 0, 1) := by decide +kernel
theorem dX3_takeNext_1 : decode cX3_takeNext 1 = .ok (.getfield 18, 3) := by decide +kernel
theorem dX3_takeNext_4 : decode cX3_takeNext 4 = .ok (.invokevirtual 143, 3) := by decide +kernel
theorem dX3_takeNext_7 : decode cX3_takeNext 7 = .ok (.astore_n 2, 1) := by decide +kernel
theorem dX3_takeNext_8 : decode cX3_takeNext 8 = .ok (.aload_n 0, 1) := by decide +kernel
theorem dX3_takeNext_9 : decode cX3_takeNext 9 = .ok (.invokevirtual 147, 3) := by decide +kernel
theorem dX3_takeNext_12 : decode cX3_takeNext 12 = .ok (.istore_n 3, 1) := by decide +kernel
theorem dX3_takeNext_13 : decode cX3_takeNext 13 = .ok (.iload_n 3, 1) := by decide +kernel
theorem dX3_takeNext_14 : decode cX3_takeNext 14 = .ok (.iconst (-1), 1) := by decide +kernel
theorem dX3_takeNext_15 : decode cX3_takeNext 15 = .ok (.if_icmp .eq 84, 3) := by decide +kernel
theorem dX3_takeNext_18 : decode cX3_takeNext 18 = .ok (.aload_n 0, 1) := by decide +kernel
theorem dX3_takeNext_19 : decode cX3_takeNext 19 = .ok (.getfield 11, 3) := by decide +kernel
theorem dX3_takeNext_22 : decode cX3_takeNext 22 = .ok (.iload_n 3, 1) := by decide +kernel
theorem dX3_takeNext_23 : decode cX3_takeNext 23 = .ok (.aaload, 1) := by decide +kernel
theorem dX3_takeNext_24 : decode cX3_takeNext 24 = .ok (.aload_n 2, 1) := by decide +kernel
theorem dX3_takeNext_25 : decode cX3_takeNext 25 = .ok (.invokevirtual 150, 3) := by decide +kernel
theorem dX3_takeNext_28 : decode cX3_takeNext 28 = .ok (.ifCond .eq 71, 3) := by decide +kernel
theorem dX3_takeNext_31 : decode cX3_takeNext 31 = .ok (.aload_n 0, 1) := by decide +kernel
theorem dX3_takeNext_32 : decode cX3_takeNext 32 = .ok (.getfield 11, 3) := by decide +kernel
theorem dX3_takeNext_35 : decode cX3_takeNext 35 = .ok (.iload_n 3, 1) := by decide +kernel
theorem dX3_takeNext_36 : decode cX3_takeNext 36 = .ok (.aaload, 1) := by decide +kernel
theorem dX3_takeNext_37 : decode cX3_takeNext 37 = .ok (.getfield 87, 3) := by decide +kernel
theorem dX3_takeNext_40 : decode cX3_takeNext 40 = .ok (.iload_n 1, 1) := by decide +kernel
theorem dX3_takeNext_41 : decode cX3_takeNext 41 = .ok (.if_icmp .le 5, 3) := by decide +kernel
theorem dX3_takeNext_44 : decode cX3_takeNext 44 = .ok (.iconst 0, 1) := by decide +kernel
theorem dX3_takeNext_45 : decode cX3_takeNext 45 = .ok (.ireturn, 1) := by decide +kernel
theorem dX3_takeNext_46 : decode cX3_takeNext 46 = .ok (.aload_n 0, 1) := by decide +kernel
theorem dX3_takeNext_47 : decode cX3_takeNext 47 = .ok (.getfield 18, 3) := by decide +kernel
theorem dX3_takeNext_50 : decode cX3_takeNext 50 = .ok (.aload_n 0, 1) := by decide +kernel
theorem dX3_takeNext_51 : decode cX3_takeNext 51 = .ok (.getfield 11, 3) := by decide +kernel
theorem dX3_takeNext_54 : decode cX3_takeNext 54 = .ok (.iload_n 3, 1) := by decide +kernel
theorem dX3_takeNext_55 : decode cX3_takeNext 55 = .ok (.aaload, 1) := by decide +kernel
theorem dX3_takeNext_56 : decode cX3_takeNext 56 = .ok (.getfield 87, 3) := by decide +kernel
theorem dX3_takeNext_59 : decode cX3_takeNext 59 = .ok (.putfield 104, 3) := by decide +kernel
theorem dX3_takeNext_62 : decode cX3_takeNext 62 = .ok (.aload_n 0, 1) := by decide +kernel
theorem dX3_takeNext_63 : decode cX3_takeNext 63 = .ok (.getfield 11, 3) := by decide +kernel
theorem dX3_takeNext_66 : decode cX3_takeNext 66 = .ok (.iload_n 3, 1) := by decide +kernel
theorem dX3_takeNext_67 : decode cX3_takeNext 67 = .ok (.aaload, 1) := by decide +kernel
theorem dX3_takeNext_68 : decode cX3_takeNext 68 = .ok (.iconst (-1), 1) := by decide +kernel
theorem dX3_takeNext_69 : decode cX3_takeNext 69 = .ok (.putfield 87, 3) := by decide +kernel
theorem dX3_takeNext_72 : decode cX3_takeNext 72 = .ok (.aload_n 0, 1) := by decide +kernel
theorem dX3_takeNext_73 : decode cX3_takeNext 73 = .ok (.dup, 1) := by decide +kernel
theorem dX3_takeNext_74 : decode cX3_takeNext 74 = .ok (.getfield 115, 3) := by decide +kernel
theorem dX3_takeNext_77 : decode cX3_takeNext 77 = .ok (.iconst 1, 1) := by decide +kernel
theorem dX3_takeNext_78 : decode cX3_takeNext 78 = .ok (.iadd, 1) := by decide +kernel
theorem dX3_takeNext_79 : decode cX3_takeNext 79 = .ok (.putfield 115, 3) := by decide +kernel
theorem dX3_takeNext_82 : decode cX3_takeNext 82 = .ok (.aload_n 0, 1) := by decide +kernel
theorem dX3_takeNext_83 : decode cX3_takeNext 83 = .ok (.bipush 11, 2) := by decide +kernel
theorem dX3_takeNext_85 : decode cX3_takeNext 85 = .ok (.iload_n 3, 1) := by decide +kernel
theorem dX3_takeNext_86 : decode cX3_takeNext 86 = .ok (.iload_n 3, 1) := by decide +kernel
theorem dX3_takeNext_87 : decode cX3_takeNext 87 = .ok (.iconst 0, 1) := by decide +kernel
theorem dX3_takeNext_88 : decode cX3_takeNext 88 = .ok (.iconst 0, 1) := by decide +kernel
theorem dX3_takeNext_89 : decode cX3_takeNext 89 = .ok (.invokevirtual 33, 3) := by decide +kernel
theorem dX3_takeNext_92 : decode cX3_takeNext 92 = .ok (.aload_n 0, 1) := by decide +kernel
theorem dX3_takeNext_93 : decode cX3_takeNext 93 = .ok (.iload_n 3, 1) := by decide +kernel
theorem dX3_takeNext_94 : decode cX3_takeNext 94 = .ok (.invokevirtual 154, 3) := by decide +kernel
theorem dX3_takeNext_97 : decode cX3_takeNext 97 = .ok (.iconst 2, 1) := by decide +kernel
theorem dX3_takeNext_98 : decode cX3_takeNext 98 = .ok (.ireturn, 1) := by decide +kernel
theorem dX3_takeNext_99 : decode cX3_takeNext 99 = .ok (.aload_n 2, 1) := by decide +kernel
theorem dX3_takeNext_100 : decode cX3_takeNext 100 = .ok (.ifnull 11, 3) := by decide +kernel
theorem dX3_takeNext_103 : decode cX3_takeNext 103 = .ok (.aload_n 2, 1) := by decide +kernel
theorem dX3_takeNext_104 : decode cX3_takeNext 104 = .ok (.getfield 157, 3) := by decide +kernel
theorem dX3_takeNext_107 : decode cX3_takeNext 107 = .ok (.iload_n 1, 1) := by decide +kernel
theorem dX3_takeNext_108 : decode cX3_takeNext 108 = .ok (.if_icmp .le 5, 3) := by decide +kernel
theorem dX3_takeNext_111 : decode cX3_takeNext 111 = .ok (.iconst 0, 1) := by decide +kernel
theorem dX3_takeNext_112 : decode cX3_takeNext 112 = .ok (.ireturn, 1) := by decide +kernel
theorem dX3_takeNext_113 : decode cX3_takeNext 113 = .ok (.aload_n 0, 1) := by decide +kernel
theorem dX3_takeNext_114 : decode cX3_takeNext 114 = .ok (.getfield 18, 3) := by decide +kernel
theorem dX3_takeNext_117 : decode cX3_takeNext 117 = .ok (.aload_n 2, 1) := by decide +kernel
theorem dX3_takeNext_118 : decode cX3_takeNext 118 = .ok (.getfield 157, 3) := by decide +kernel
theorem dX3_takeNext_121 : decode cX3_takeNext 121 = .ok (.putfield 104, 3) := by decide +kernel
theorem dX3_takeNext_124 : decode cX3_takeNext 124 = .ok (.aload_n 0, 1) := by decide +kernel
theorem dX3_takeNext_125 : decode cX3_takeNext 125 = .ok (.getfield 18, 3) := by decide +kernel
theorem dX3_takeNext_128 : decode cX3_takeNext 128 = .ok (.aload_n 2, 1) := by decide +kernel
theorem dX3_takeNext_129 : decode cX3_takeNext 129 = .ok (.invokevirtual 160, 3) := by decide +kernel
theorem dX3_takeNext_132 : decode cX3_takeNext 132 = .ok (.aload_n 0, 1) := by decide +kernel
theorem dX3_takeNext_133 : decode cX3_takeNext 133 = .ok (.getfield 11, 3) := by decide +kernel
theorem dX3_takeNext_136 : decode cX3_takeNext 136 = .ok (.aload_n 2, 1) := by decide +kernel
theorem dX3_takeNext_137 : decode cX3_takeNext 137 = .ok (.getfield 164, 3) := by decide +kernel
theorem dX3_takeNext_140 : decode cX3_takeNext 140 = .ok (.aaload, 1) := by decide +kernel
theorem dX3_takeNext_141 : decode cX3_takeNext 141 = .ok (.getfield 71, 3) := by decide +kernel
theorem dX3_takeNext_144 : decode cX3_takeNext 144 = .ok (.istore 4, 2) := by decide +kernel
theorem dX3_takeNext_146 : decode cX3_takeNext 146 = .ok (.iload 4, 2) := by decide +kernel
theorem dX3_takeNext_148 : decode cX3_takeNext 148 = .ok (.ifCond .eq 45, 3) := by decide +kernel
theorem dX3_takeNext_151 : decode cX3_takeNext 151 = .ok (.aload_n 0, 1) := by decide +kernel
theorem dX3_takeNext_152 : decode cX3_takeNext 152 = .ok (.dup, 1) := by decide +kernel
theorem dX3_takeNext_153 : decode cX3_takeNext 153 = .ok (.getfield 112, 3) := by decide +kernel
theorem dX3_takeNext_156 : decode cX3_takeNext 156 = .ok (.iconst 1, 1) := by decide +kernel
theorem dX3_takeNext_157 : decode cX3_takeNext 157 = .ok (.iadd, 1) := by decide +kernel
theorem dX3_takeNext_158 : decode cX3_takeNext 158 = .ok (.putfield 112, 3) := by decide +kernel
theorem dX3_takeNext_161 : decode cX3_takeNext 161 = .ok (.aload_n 0, 1) := by decide +kernel
theorem dX3_takeNext_162 : decode cX3_takeNext 162 = .ok (.aload_n 2, 1) := by decide +kernel
theorem dX3_takeNext_163 : decode cX3_takeNext 163 = .ok (.getfield 167, 3) := by decide +kernel
theorem dX3_takeNext_166 : decode cX3_takeNext 166 = .ok (.aload_n 2, 1) := by decide +kernel
theorem dX3_takeNext_167 : decode cX3_takeNext 167 = .ok (.getfield 164, 3) := by decide +kernel
theorem dX3_takeNext_170 : decode cX3_takeNext 170 = .ok (.aload_n 2, 1) := by decide +kernel
theorem dX3_takeNext_171 : decode cX3_takeNext 171 = .ok (.getfield 170, 3) := by decide +kernel
theorem dX3_takeNext_174 : decode cX3_takeNext 174 = .ok (.aload_n 2, 1) := by decide +kernel
theorem dX3_takeNext_175 : decode cX3_takeNext 175 = .ok (.getfield 173, 3) := by decide +kernel
theorem dX3_takeNext_178 : decode cX3_takeNext 178 = .ok (.aload_n 2, 1) := by decide +kernel
theorem dX3_takeNext_179 : decode cX3_takeNext 179 = .ok (.getfield 174, 3) := by decide +kernel
theorem dX3_takeNext_182 : decode cX3_takeNext 182 = .ok (.invokevirtual 33, 3) := by decide +kernel
theorem dX3_takeNext_185 : decode cX3_takeNext 185 = .ok (.aload_n 0, 1) := by decide +kernel
theorem dX3_takeNext_186 : decode cX3_takeNext 186 = .ok (.aload_n 2, 1) := by decide +kernel
theorem dX3_takeNext_187 : decode cX3_takeNext 187 = .ok (.invokevirtual 177, 3) := by decide +kernel
theorem dX3_takeNext_190 : decode cX3_takeNext 190 = .ok (.goto 16, 3) := by decide +kernel
theorem dX3_takeNext_193 : decode cX3_takeNext 193 = .ok (.aload_n 0, 1) := by decide +kernel
theorem dX3_takeNext_194 : decode cX3_takeNext 194 = .ok (.getfield 18, 3) := by decide +kernel
theorem dX3_takeNext_197 : decode cX3_takeNext 197 = .ok (.dup, 1) := by decide +kernel
theorem dX3_takeNext_198 : decode cX3_takeNext 198 = .ok (.getfield 133, 3) := by decide +kernel
theorem dX3_takeNext_201 : decode cX3_takeNext 201 = .ok (.iconst 1, 1) := by decide +kernel
theorem dX3_takeNext_202 : decode cX3_takeNext 202 = .ok (.iadd, 1) := by decide +kernel
theorem dX3_takeNext_203 : decode cX3_takeNext 203 = .ok (.putfield 133, 3) := by decide +kernel
theorem dX3_takeNext_206 : decode cX3_takeNext 206 = .ok (.aload_n 0, 1) := by decide +kernel
theorem dX3_takeNext_207 : decode cX3_takeNext 207 = .ok (.getfield 18, 3) := by decide +kernel
theorem dX3_takeNext_210 : decode cX3_takeNext 210 = .ok (.aload_n 2, 1) := by decide +kernel
theorem dX3_takeNext_211 : decode cX3_takeNext 211 = .ok (.invokevirtual 180, 3) := by decide +kernel
theorem dX3_takeNext_214 : decode cX3_takeNext 214 = .ok (.iload 4, 2) := by decide +kernel
theorem dX3_takeNext_216 : decode cX3_takeNext 216 = .ok (.ifCond .eq 7, 3) := by decide +kernel
theorem dX3_takeNext_219 : decode cX3_takeNext 219 = .ok (.iconst 2, 1) := by decide +kernel
theorem dX3_takeNext_220 : decode cX3_takeNext 220 = .ok (.goto 4, 3) := by decide +kernel
theorem dX3_takeNext_223 : decode cX3_takeNext 223 = .ok (.iconst 1, 1) := by decide +kernel
theorem dX3_takeNext_224 : decode cX3_takeNext 224 = .ok (.ireturn, 1) := by decide +kernel
theorem dX3_firstTimer_0 : decode cX3_firstTimer 0 = .ok (.iconst (-1), 1) := by decide +kernel
theorem dX3_firstTimer_1 : decode cX3_firstTimer 1 = .ok (.istore_n 1, 1) := by decide +kernel
theorem dX3_firstTimer_2 : decode cX3_firstTimer 2 = .ok (.iconst 0, 1) := by decide +kernel
theorem dX3_firstTimer_3 : decode cX3_firstTimer 3 = .ok (.istore_n 2, 1) := by decide +kernel
theorem dX3_firstTimer_4 : decode cX3_firstTimer 4 = .ok (.iload_n 2, 1) := by decide +kernel
theorem dX3_firstTimer_5 : decode cX3_firstTimer 5 = .ok (.aload_n 0, 1) := by decide +kernel
theorem dX3_firstTimer_6 : decode cX3_firstTimer 6 = .ok (.getfield 41, 3) := by decide +kernel
theorem dX3_firstTimer_9 : decode cX3_firstTimer 9 = .ok (.if_icmp .ge 47, 3) := by decide +kernel
theorem dX3_firstTimer_12 : decode cX3_firstTimer 12 = .ok (.aload_n 0, 1) := by decide +kernel
theorem dX3_firstTimer_13 : decode cX3_firstTimer 13 = .ok (.getfield 11, 3) := by decide +kernel
theorem dX3_firstTimer_16 : decode cX3_firstTimer 16 = .ok (.iload_n 2, 1) := by decide +kernel
theorem dX3_firstTimer_17 : decode cX3_firstTimer 17 = .ok (.aaload, 1) := by decide +kernel
theorem dX3_firstTimer_18 : decode cX3_firstTimer 18 = .ok (.getfield 87, 3) := by decide +kernel
theorem dX3_firstTimer_21 : decode cX3_firstTimer 21 = .ok (.iconst (-1), 1) := by decide +kernel
theorem dX3_firstTimer_22 : decode cX3_firstTimer 22 = .ok (.if_icmp .eq 28, 3) := by decide +kernel
theorem dX3_firstTimer_25 : decode cX3_firstTimer 25 = .ok (.iload_n 1, 1) := by decide +kernel
theorem dX3_firstTimer_26 : decode cX3_firstTimer 26 = .ok (.iconst (-1), 1) := by decide +kernel
theorem dX3_firstTimer_27 : decode cX3_firstTimer 27 = .ok (.if_icmp .eq 21, 3) := by decide +kernel
theorem dX3_firstTimer_30 : decode cX3_firstTimer 30 = .ok (.aload_n 0, 1) := by decide +kernel
theorem dX3_firstTimer_31 : decode cX3_firstTimer 31 = .ok (.getfield 11, 3) := by decide +kernel
theorem dX3_firstTimer_34 : decode cX3_firstTimer 34 = .ok (.iload_n 2, 1) := by decide +kernel
theorem dX3_firstTimer_35 : decode cX3_firstTimer 35 = .ok (.aaload, 1) := by decide +kernel
theorem dX3_firstTimer_36 : decode cX3_firstTimer 36 = .ok (.aload_n 0, 1) := by decide +kernel
theorem dX3_firstTimer_37 : decode cX3_firstTimer 37 = .ok (.getfield 11, 3) := by decide +kernel
theorem dX3_firstTimer_40 : decode cX3_firstTimer 40 = .ok (.iload_n 1, 1) := by decide +kernel
theorem dX3_firstTimer_41 : decode cX3_firstTimer 41 = .ok (.aaload, 1) := by decide +kernel
theorem dX3_firstTimer_42 : decode cX3_firstTimer 42 = .ok (.invokevirtual 183, 3) := by decide +kernel
theorem dX3_firstTimer_45 : decode cX3_firstTimer 45 = .ok (.ifCond .eq 5, 3) := by decide +kernel
theorem dX3_firstTimer_48 : decode cX3_firstTimer 48 = .ok (.iload_n 2, 1) := by decide +kernel
theorem dX3_firstTimer_49 : decode cX3_firstTimer 49 = .ok (.istore_n 1, 1) := by decide +kernel
theorem dX3_firstTimer_50 : decode cX3_firstTimer 50 = .ok (.iinc 2 1, 3) := by decide +kernel
theorem dX3_firstTimer_53 : decode cX3_firstTimer 53 = .ok (.goto (-49), 3) := by decide +kernel
theorem dX3_firstTimer_56 : decode cX3_firstTimer 56 = .ok (.iload_n 1, 1) := by decide +kernel
theorem dX3_firstTimer_57 : decode cX3_firstTimer 57 = .ok (.ireturn, 1) := by decide +kernel
theorem dX3_receive_0 : decode cX3_receive 0 = .ok (.aload_n 1, 1) := by decide +kernel
theorem dX3_receive_1 : decode cX3_receive 1 = .ok (.getfield 167, 3) := by decide +kernel
theorem dX3_receive_4 : decode cX3_receive 4 = .ok (.tableswitch 222 1 10 #[56, 71, 86, 97, 116, 139, 159, 179, 198, 210], 56) := by decide +kernel
theorem dX3_receive_60 : decode cX3_receive 60 = .ok (.aload_n 0, 1) := by decide +kernel
theorem dX3_receive_61 : decode cX3_receive 61 = .ok (.aload_n 1, 1) := by decide +kernel
theorem dX3_receive_62 : decode cX3_receive 62 = .ok (.getfield 164, 3) := by decide +kernel
theorem dX3_receive_65 : decode cX3_receive 65 = .ok (.aload_n 1, 1) := by decide +kernel
theorem dX3_receive_66 : decode cX3_receive 66 = .ok (.getfield 170, 3) := by decide +kernel
theorem dX3_receive_69 : decode cX3_receive 69 = .ok (.invokevirtual 187, 3) := by decide +kernel
theorem dX3_receive_72 : decode cX3_receive 72 = .ok (.goto 154, 3) := by decide +kernel
theorem dX3_receive_75 : decode cX3_receive 75 = .ok (.aload_n 0, 1) := by decide +kernel
theorem dX3_receive_76 : decode cX3_receive 76 = .ok (.aload_n 1, 1) := by decide +kernel
theorem dX3_receive_77 : decode cX3_receive 77 = .ok (.getfield 164, 3) := by decide +kernel
theorem dX3_receive_80 : decode cX3_receive 80 = .ok (.aload_n 1, 1) := by decide +kernel
theorem dX3_receive_81 : decode cX3_receive 81 = .ok (.getfield 170, 3) := by decide +kernel
theorem dX3_receive_84 : decode cX3_receive 84 = .ok (.invokevirtual 190, 3) := by decide +kernel
theorem dX3_receive_87 : decode cX3_receive 87 = .ok (.goto 139, 3) := by decide +kernel
theorem dX3_receive_90 : decode cX3_receive 90 = .ok (.aload_n 0, 1) := by decide +kernel
theorem dX3_receive_91 : decode cX3_receive 91 = .ok (.aload_n 1, 1) := by decide +kernel
theorem dX3_receive_92 : decode cX3_receive 92 = .ok (.getfield 164, 3) := by decide +kernel
theorem dX3_receive_95 : decode cX3_receive 95 = .ok (.invokevirtual 193, 3) := by decide +kernel
theorem dX3_receive_98 : decode cX3_receive 98 = .ok (.goto 128, 3) := by decide +kernel
theorem dX3_receive_101 : decode cX3_receive 101 = .ok (.aload_n 0, 1) := by decide +kernel
theorem dX3_receive_102 : decode cX3_receive 102 = .ok (.aload_n 1, 1) := by decide +kernel
theorem dX3_receive_103 : decode cX3_receive 103 = .ok (.getfield 164, 3) := by decide +kernel
theorem dX3_receive_106 : decode cX3_receive 106 = .ok (.aload_n 1, 1) := by decide +kernel
theorem dX3_receive_107 : decode cX3_receive 107 = .ok (.getfield 170, 3) := by decide +kernel
theorem dX3_receive_110 : decode cX3_receive 110 = .ok (.aload_n 1, 1) := by decide +kernel
theorem dX3_receive_111 : decode cX3_receive 111 = .ok (.getfield 173, 3) := by decide +kernel
theorem dX3_receive_114 : decode cX3_receive 114 = .ok (.invokevirtual 196, 3) := by decide +kernel
theorem dX3_receive_117 : decode cX3_receive 117 = .ok (.goto 109, 3) := by decide +kernel
theorem dX3_receive_120 : decode cX3_receive 120 = .ok (.aload_n 0, 1) := by decide +kernel
theorem dX3_receive_121 : decode cX3_receive 121 = .ok (.aload_n 1, 1) := by decide +kernel
theorem dX3_receive_122 : decode cX3_receive 122 = .ok (.getfield 164, 3) := by decide +kernel
theorem dX3_receive_125 : decode cX3_receive 125 = .ok (.aload_n 1, 1) := by decide +kernel
theorem dX3_receive_126 : decode cX3_receive 126 = .ok (.getfield 170, 3) := by decide +kernel
theorem dX3_receive_129 : decode cX3_receive 129 = .ok (.aload_n 1, 1) := by decide +kernel
theorem dX3_receive_130 : decode cX3_receive 130 = .ok (.getfield 173, 3) := by decide +kernel
theorem dX3_receive_133 : decode cX3_receive 133 = .ok (.aload_n 1, 1) := by decide +kernel
theorem dX3_receive_134 : decode cX3_receive 134 = .ok (.getfield 174, 3) := by decide +kernel
theorem dX3_receive_137 : decode cX3_receive 137 = .ok (.invokevirtual 200, 3) := by decide +kernel
theorem dX3_receive_140 : decode cX3_receive 140 = .ok (.goto 86, 3) := by decide +kernel
theorem dX3_receive_143 : decode cX3_receive 143 = .ok (.aload_n 0, 1) := by decide +kernel
theorem dX3_receive_144 : decode cX3_receive 144 = .ok (.aload_n 1, 1) := by decide +kernel
theorem dX3_receive_145 : decode cX3_receive 145 = .ok (.getfield 164, 3) := by decide +kernel
theorem dX3_receive_148 : decode cX3_receive 148 = .ok (.aload_n 1, 1) := by decide +kernel
theorem dX3_receive_149 : decode cX3_receive 149 = .ok (.getfield 170, 3) := by decide +kernel
theorem dX3_receive_152 : decode cX3_receive 152 = .ok (.aload_n 1, 1) := by decide +kernel
theorem dX3_receive_153 : decode cX3_receive 153 = .ok (.getfield 173, 3) := by decide +kernel
theorem dX3_receive_156 : decode cX3_receive 156 = .ok (.iconst 2, 1) := by decide +kernel
theorem dX3_receive_157 : decode cX3_receive 157 = .ok (.invokevirtual 204, 3) := by decide +kernel
theorem dX3_receive_160 : decode cX3_receive 160 = .ok (.goto 66, 3) := by decide +kernel
theorem dX3_receive_163 : decode cX3_receive 163 = .ok (.aload_n 0, 1) := by decide +kernel
theorem dX3_receive_164 : decode cX3_receive 164 = .ok (.aload_n 1, 1) := by decide +kernel
theorem dX3_receive_165 : decode cX3_receive 165 = .ok (.getfield 164, 3) := by decide +kernel
theorem dX3_receive_168 : decode cX3_receive 168 = .ok (.aload_n 1, 1) := by decide +kernel
theorem dX3_receive_169 : decode cX3_receive 169 = .ok (.getfield 170, 3) := by decide +kernel
theorem dX3_receive_172 : decode cX3_receive 172 = .ok (.aload_n 1, 1) := by decide +kernel
theorem dX3_receive_173 : decode cX3_receive 173 = .ok (.getfield 173, 3) := by decide +kernel
theorem dX3_receive_176 : decode cX3_receive 176 = .ok (.iconst 3, 1) := by decide +kernel
theorem dX3_receive_177 : decode cX3_receive 177 = .ok (.invokevirtual 204, 3) := by decide +kernel
theorem dX3_receive_180 : decode cX3_receive 180 = .ok (.goto 46, 3) := by decide +kernel
theorem dX3_receive_183 : decode cX3_receive 183 = .ok (.aload_n 0, 1) := by decide +kernel
theorem dX3_receive_184 : decode cX3_receive 184 = .ok (.aload_n 1, 1) := by decide +kernel
theorem dX3_receive_185 : decode cX3_receive 185 = .ok (.getfield 164, 3) := by decide +kernel
theorem dX3_receive_188 : decode cX3_receive 188 = .ok (.aload_n 1, 1) := by decide +kernel
theorem dX3_receive_189 : decode cX3_receive 189 = .ok (.getfield 170, 3) := by decide +kernel
theorem dX3_receive_192 : decode cX3_receive 192 = .ok (.aload_n 1, 1) := by decide +kernel
theorem dX3_receive_193 : decode cX3_receive 193 = .ok (.getfield 173, 3) := by decide +kernel
theorem dX3_receive_196 : decode cX3_receive 196 = .ok (.invokevirtual 207, 3) := by decide +kernel
theorem dX3_receive_199 : decode cX3_receive 199 = .ok (.goto 27, 3) := by decide +kernel
theorem dX3_receive_202 : decode cX3_receive 202 = .ok (.aload_n 0, 1) := by decide +kernel
theorem dX3_receive_203 : decode cX3_receive 203 = .ok (.aload_n 1, 1) := by decide +kernel
theorem dX3_receive_204 : decode cX3_receive 204 = .ok (.getfield 164, 3) := by decide +kernel
theorem dX3_receive_207 : decode cX3_receive 207 = .ok (.iconst 4, 1) := by decide +kernel
theorem dX3_receive_208 : decode cX3_receive 208 = .ok (.invokevirtual 210, 3) := by decide +kernel
theorem dX3_receive_211 : decode cX3_receive 211 = .ok (.goto 15, 3) := by decide +kernel
theorem dX3_receive_214 : decode cX3_receive 214 = .ok (.aload_n 0, 1) := by decide +kernel
theorem dX3_receive_215 : decode cX3_receive 215 = .ok (.aload_n 1, 1) := by decide +kernel
theorem dX3_receive_216 : decode cX3_receive 216 = .ok (.getfield 164, 3) := by decide +kernel
theorem dX3_receive_219 : decode cX3_receive 219 = .ok (.iconst 5, 1) := by decide +kernel
theorem dX3_receive_220 : decode cX3_receive 220 = .ok (.invokevirtual 210, 3) := by decide +kernel
theorem dX3_receive_223 : decode cX3_receive 223 = .ok (.goto 3, 3) := by decide +kernel
theorem dX3_receive_226 : decode cX3_receive 226 = .ok (.return_, 1) := by decide +kernel
theorem dX3_onAskVote_0 : decode cX3_onAskVote 0 = .ok (.aload_n 0, 1) := by decide +kernel
theorem dX3_onAskVote_1 : decode cX3_onAskVote 1 = .ok (.getfield 11, 3) := by decide +kernel
theorem dX3_onAskVote_4 : decode cX3_onAskVote 4 = .ok (.iload_n 1, 1) := by decide +kernel
theorem dX3_onAskVote_5 : decode cX3_onAskVote 5 = .ok (.aaload, 1) := by decide +kernel
theorem dX3_onAskVote_6 : decode cX3_onAskVote 6 = .ok (.astore_n 3, 1) := by decide +kernel
theorem dX3_onAskVote_7 : decode cX3_onAskVote 7 = .ok (.aload_n 3, 1) := by decide +kernel
theorem dX3_onAskVote_8 : decode cX3_onAskVote 8 = .ok (.getfield 90, 3) := by decide +kernel
theorem dX3_onAskVote_11 : decode cX3_onAskVote 11 = .ok (.ifCond .eq 4, 3) := by decide +kernel
theorem dX3_onAskVote_14 : decode cX3_onAskVote 14 = .ok (.return_, 1) := by decide +kernel
theorem dX3_onAskVote_15 : decode cX3_onAskVote 15 = .ok (.aload_n 0, 1) := by decide +kernel
theorem dX3_onAskVote_16 : decode cX3_onAskVote 16 = .ok (.getfield 74, 3) := by decide +kernel
theorem dX3_onAskVote_19 : decode cX3_onAskVote 19 = .ok (.iload_n 1, 1) := by decide +kernel
theorem dX3_onAskVote_20 : decode cX3_onAskVote 20 = .ok (.invokestatic 64, 3) := by decide +kernel
theorem dX3_onAskVote_23 : decode cX3_onAskVote 23 = .ok (.ifCond .eq 37, 3) := by decide +kernel
theorem dX3_onAskVote_26 : decode cX3_onAskVote 26 = .ok (.aload_n 0, 1) := by decide +kernel
theorem dX3_onAskVote_27 : decode cX3_onAskVote 27 = .ok (.aload_n 3, 1) := by decide +kernel
theorem dX3_onAskVote_28 : decode cX3_onAskVote 28 = .ok (.iconst 1, 1) := by decide +kernel
theorem dX3_onAskVote_29 : decode cX3_onAskVote 29 = .ok (.invokevirtual 93, 3) := by decide +kernel
theorem dX3_onAskVote_32 : decode cX3_onAskVote 32 = .ok (.aload_n 0, 1) := by decide +kernel
theorem dX3_onAskVote_33 : decode cX3_onAskVote 33 = .ok (.getfield 18, 3) := by decide +kernel
theorem dX3_onAskVote_36 : decode cX3_onAskVote 36 = .ok (.iload_n 1, 1) := by decide +kernel
theorem dX3_onAskVote_37 : decode cX3_onAskVote 37 = .ok (.iconst 1, 1) := by decide +kernel
theorem dX3_onAskVote_38 : decode cX3_onAskVote 38 = .ok (.iload_n 2, 1) := by decide +kernel
theorem dX3_onAskVote_39 : decode cX3_onAskVote 39 = .ok (.ishl, 1) := by decide +kernel
theorem dX3_onAskVote_40 : decode cX3_onAskVote 40 = .ok (.iconst 2, 1) := by decide +kernel
theorem dX3_onAskVote_41 : decode cX3_onAskVote 41 = .ok (.iconst 0, 1) := by decide +kernel
theorem dX3_onAskVote_42 : decode cX3_onAskVote 42 = .ok (.iconst 0, 1) := by decide +kernel
theorem dX3_onAskVote_43 : decode cX3_onAskVote 43 = .ok (.invokevirtual 213, 3) := by decide +kernel
theorem dX3_onAskVote_46 : decode cX3_onAskVote 46 = .ok (.aload_n 0, 1) := by decide +kernel
theorem dX3_onAskVote_47 : decode cX3_onAskVote 47 = .ok (.aload_n 3, 1) := by decide +kernel
theorem dX3_onAskVote_48 : decode cX3_onAskVote 48 = .ok (.aload_n 0, 1) := by decide +kernel
theorem dX3_onAskVote_49 : decode cX3_onAskVote 49 = .ok (.getfield 26, 3) := by decide +kernel
theorem dX3_onAskVote_52 : decode cX3_onAskVote 52 = .ok (.iload_n 1, 1) := by decide +kernel
theorem dX3_onAskVote_53 : decode cX3_onAskVote 53 = .ok (.iadd, 1) := by decide +kernel
theorem dX3_onAskVote_54 : decode cX3_onAskVote 54 = .ok (.invokevirtual 216, 3) := by decide +kernel
theorem dX3_onAskVote_57 : decode cX3_onAskVote 57 = .ok (.goto 23, 3) := by decide +kernel
theorem dX3_onAskVote_60 : decode cX3_onAskVote 60 = .ok (.aload_n 0, 1) := by decide +kernel
theorem dX3_onAskVote_61 : decode cX3_onAskVote 61 = .ok (.aload_n 3, 1) := by decide +kernel
theorem dX3_onAskVote_62 : decode cX3_onAskVote 62 = .ok (.iconst 5, 1) := by decide +kernel
theorem dX3_onAskVote_63 : decode cX3_onAskVote 63 = .ok (.invokevirtual 93, 3) := by decide +kernel
theorem dX3_onAskVote_66 : decode cX3_onAskVote 66 = .ok (.aload_n 0, 1) := by decide +kernel
theorem dX3_onAskVote_67 : decode cX3_onAskVote 67 = .ok (.getfield 18, 3) := by decide +kernel
theorem dX3_onAskVote_70 : decode cX3_onAskVote 70 = .ok (.iload_n 1, 1) := by decide +kernel
theorem dX3_onAskVote_71 : decode cX3_onAskVote 71 = .ok (.iconst 1, 1) := by decide +kernel
theorem dX3_onAskVote_72 : decode cX3_onAskVote 72 = .ok (.iload_n 2, 1) := by decide +kernel
theorem dX3_onAskVote_73 : decode cX3_onAskVote 73 = .ok (.ishl, 1) := by decide +kernel
theorem dX3_onAskVote_74 : decode cX3_onAskVote 74 = .ok (.iconst 3, 1) := by decide +kernel
theorem dX3_onAskVote_75 : decode cX3_onAskVote 75 = .ok (.iconst 0, 1) := by decide +kernel
theorem dX3_onAskVote_76 : decode cX3_onAskVote 76 = .ok (.iconst 0, 1) := by decide +kernel
theorem dX3_onAskVote_77 : decode cX3_onAskVote 77 = .ok (.invokevirtual 213, 3) := by decide +kernel
theorem dX3_onAskVote_80 : decode cX3_onAskVote 80 = .ok (.return_, 1) := by decide +kernel
theorem dX3_onYes_0 : decode cX3_onYes 0 = .ok (.aload_n 0, 1) := by decide +kernel
theorem dX3_onYes_1 : decode cX3_onYes 1 = .ok (.getfield 11, 3) := by decide +kernel
theorem dX3_onYes_4 : decode cX3_onYes 4 = .ok (.iload_n 1, 1) := by decide +kernel
theorem dX3_onYes_5 : decode cX3_onYes 5 = .ok (.aaload, 1) := by decide +kernel
theorem dX3_onYes_6 : decode cX3_onYes 6 = .ok (.astore_n 3, 1) := by decide +kernel
theorem dX3_onYes_7 : decode cX3_onYes 7 = .ok (.aload_n 3, 1) := by decide +kernel
theorem dX3_onYes_8 : decode cX3_onYes 8 = .ok (.getfield 84, 3) := by decide +kernel
theorem dX3_onYes_11 : decode cX3_onYes 11 = .ok (.iconst 1, 1) := by decide +kernel
theorem dX3_onYes_12 : decode cX3_onYes 12 = .ok (.if_icmp .eq 4, 3) := by decide +kernel
theorem dX3_onYes_15 : decode cX3_onYes 15 = .ok (.return_, 1) := by decide +kernel
theorem dX3_onYes_16 : decode cX3_onYes 16 = .ok (.aload_n 3, 1) := by decide +kernel
theorem dX3_onYes_17 : decode cX3_onYes 17 = .ok (.dup, 1) := by decide +kernel
theorem dX3_onYes_18 : decode cX3_onYes 18 = .ok (.getfield 219, 3) := by decide +kernel
theorem dX3_onYes_21 : decode cX3_onYes 21 = .ok (.iconst 1, 1) := by decide +kernel
theorem dX3_onYes_22 : decode cX3_onYes 22 = .ok (.iload_n 2, 1) := by decide +kernel
theorem dX3_onYes_23 : decode cX3_onYes 23 = .ok (.ishl, 1) := by decide +kernel
theorem dX3_onYes_24 : decode cX3_onYes 24 = .ok (.ior, 1) := by decide +kernel
theorem dX3_onYes_25 : decode cX3_onYes 25 = .ok (.putfield 219, 3) := by decide +kernel
theorem dX3_onYes_28 : decode cX3_onYes 28 = .ok (.aload_n 3, 1) := by decide +kernel
theorem dX3_onYes_29 : decode cX3_onYes 29 = .ok (.getfield 219, 3) := by decide +kernel
theorem dX3_onYes_32 : decode cX3_onYes 32 = .ok (.aload_n 0, 1) := by decide +kernel
theorem dX3_onYes_33 : decode cX3_onYes 33 = .ok (.invokevirtual 139, 3) := by decide +kernel
theorem dX3_onYes_36 : decode cX3_onYes 36 = .ok (.if_icmp .ne 19, 3) := by decide +kernel
theorem dX3_onYes_39 : decode cX3_onYes 39 = .ok (.aload_n 3, 1) := by decide +kernel
theorem dX3_onYes_40 : decode cX3_onYes 40 = .ok (.dup, 1) := by decide +kernel
theorem dX3_onYes_41 : decode cX3_onYes 41 = .ok (.getfield 122, 3) := by decide +kernel
theorem dX3_onYes_44 : decode cX3_onYes 44 = .ok (.iconst 1, 1) := by decide +kernel
theorem dX3_onYes_45 : decode cX3_onYes 45 = .ok (.iadd, 1) := by decide +kernel
theorem dX3_onYes_46 : decode cX3_onYes 46 = .ok (.putfield 122, 3) := by decide +kernel
theorem dX3_onYes_49 : decode cX3_onYes 49 = .ok (.aload_n 0, 1) := by decide +kernel
theorem dX3_onYes_50 : decode cX3_onYes 50 = .ok (.iload_n 1, 1) := by decide +kernel
theorem dX3_onYes_51 : decode cX3_onYes 51 = .ok (.iconst 2, 1) := by decide +kernel
theorem dX3_onYes_52 : decode cX3_onYes 52 = .ok (.invokevirtual 222, 3) := by decide +kernel
theorem dX3_onYes_55 : decode cX3_onYes 55 = .ok (.return_, 1) := by decide +kernel
theorem dX3_onNo_0 : decode cX3_onNo 0 = .ok (.aload_n 0, 1) := by decide +kernel
theorem dX3_onNo_1 : decode cX3_onNo 1 = .ok (.getfield 11, 3) := by decide +kernel
theorem dX3_onNo_4 : decode cX3_onNo 4 = .ok (.iload_n 1, 1) := by decide +kernel
theorem dX3_onNo_5 : decode cX3_onNo 5 = .ok (.aaload, 1) := by decide +kernel
theorem dX3_onNo_6 : decode cX3_onNo 6 = .ok (.getfield 84, 3) := by decide +kernel
theorem dX3_onNo_9 : decode cX3_onNo 9 = .ok (.iconst 1, 1) := by decide +kernel
theorem dX3_onNo_10 : decode cX3_onNo 10 = .ok (.if_icmp .ne 9, 3) := by decide +kernel
theorem dX3_onNo_13 : decode cX3_onNo 13 = .ok (.aload_n 0, 1) := by decide +kernel
theorem dX3_onNo_14 : decode cX3_onNo 14 = .ok (.iload_n 1, 1) := by decide +kernel
theorem dX3_onNo_15 : decode cX3_onNo 15 = .ok (.iconst 5, 1) := by decide +kernel
theorem dX3_onNo_16 : decode cX3_onNo 16 = .ok (.invokevirtual 80, 3) := by decide +kernel
theorem dX3_onNo_19 : decode cX3_onNo 19 = .ok (.return_, 1) := by decide +kernel
theorem dX3_onAskState_0 : decode cX3_onAskState 0 = .ok (.aload_n 0, 1) := by decide +kernel
theorem dX3_onAskState_1 : decode cX3_onAskState 1 = .ok (.getfield 11, 3) := by decide +kernel
theorem dX3_onAskState_4 : decode cX3_onAskState 4 = .ok (.iload_n 1, 1) := by decide +kernel
theorem dX3_onAskState_5 : decode cX3_onAskState 5 = .ok (.aaload, 1) := by decide +kernel
theorem dX3_onAskState_6 : decode cX3_onAskState 6 = .ok (.astore 4, 2) := by decide +kernel
theorem dX3_onAskState_8 : decode cX3_onAskState 8 = .ok (.aload 4, 2) := by decide +kernel
theorem dX3_onAskState_10 : decode cX3_onAskState 10 = .ok (.getfield 90, 3) := by decide +kernel
theorem dX3_onAskState_13 : decode cX3_onAskState 13 = .ok (.ifCond .ne 10, 3) := by decide +kernel
theorem dX3_onAskState_16 : decode cX3_onAskState 16 = .ok (.aload_n 0, 1) := by decide +kernel
theorem dX3_onAskState_17 : decode cX3_onAskState 17 = .ok (.aload 4, 2) := by decide +kernel
theorem dX3_onAskState_19 : decode cX3_onAskState 19 = .ok (.iconst 5, 1) := by decide +kernel
theorem dX3_onAskState_20 : decode cX3_onAskState 20 = .ok (.invokevirtual 93, 3) := by decide +kernel
theorem dX3_onAskState_23 : decode cX3_onAskState 23 = .ok (.aload_n 0, 1) := by decide +kernel
theorem dX3_onAskState_24 : decode cX3_onAskState 24 = .ok (.iload_n 1, 1) := by decide +kernel
theorem dX3_onAskState_25 : decode cX3_onAskState 25 = .ok (.iload_n 2, 1) := by decide +kernel
theorem dX3_onAskState_26 : decode cX3_onAskState 26 = .ok (.invokevirtual 225, 3) := by decide +kernel
theorem dX3_onAskState_29 : decode cX3_onAskState 29 = .ok (.aload_n 0, 1) := by decide +kernel
theorem dX3_onAskState_30 : decode cX3_onAskState 30 = .ok (.getfield 18, 3) := by decide +kernel
theorem dX3_onAskState_33 : decode cX3_onAskState 33 = .ok (.iload_n 1, 1) := by decide +kernel
theorem dX3_onAskState_34 : decode cX3_onAskState 34 = .ok (.iconst 1, 1) := by decide +kernel
theorem dX3_onAskState_35 : decode cX3_onAskState 35 = .ok (.iload_n 2, 1) := by decide +kernel
theorem dX3_onAskState_36 : decode cX3_onAskState 36 = .ok (.ishl, 1) := by decide +kernel
theorem dX3_onAskState_37 : decode cX3_onAskState 37 = .ok (.iconst 5, 1) := by decide +kernel
theorem dX3_onAskState_38 : decode cX3_onAskState 38 = .ok (.iload_n 3, 1) := by decide +kernel
theorem dX3_onAskState_39 : decode cX3_onAskState 39 = .ok (.aload 4, 2) := by decide +kernel
theorem dX3_onAskState_41 : decode cX3_onAskState 41 = .ok (.getfield 90, 3) := by decide +kernel
theorem dX3_onAskState_44 : decode cX3_onAskState 44 = .ok (.invokevirtual 213, 3) := by decide +kernel
theorem dX3_onAskState_47 : decode cX3_onAskState 47 = .ok (.return_, 1) := by decide +kernel
theorem dX3_onState_0 : decode cX3_onState 0 = .ok (.aload_n 0, 1) := by decide +kernel
theorem dX3_onState_1 : decode cX3_onState 1 = .ok (.getfield 11, 3) := by decide +kernel
theorem dX3_onState_4 : decode cX3_onState 4 = .ok (.iload_n 1, 1) := by decide +kernel
theorem dX3_onState_5 : decode cX3_onState 5 = .ok (.aaload, 1) := by decide +kernel
theorem dX3_onState_6 : decode cX3_onState 6 = .ok (.astore 5, 2) := by decide +kernel
theorem dX3_onState_8 : decode cX3_onState 8 = .ok (.aload 5, 2) := by decide +kernel
theorem dX3_onState_10 : decode cX3_onState 10 = .ok (.getfield 84, 3) := by decide +kernel
theorem dX3_onState_13 : decode cX3_onState 13 = .ok (.iconst 3, 1) := by decide +kernel
theorem dX3_onState_14 : decode cX3_onState 14 = .ok (.if_icmp .ne 12, 3) := by decide +kernel
theorem dX3_onState_17 : decode cX3_onState 17 = .ok (.aload 5, 2) := by decide +kernel
theorem dX3_onState_19 : decode cX3_onState 19 = .ok (.getfield 122, 3) := by decide +kernel
theorem dX3_onState_22 : decode cX3_onState 22 = .ok (.iload_n 3, 1) := by decide +kernel
theorem dX3_onState_23 : decode cX3_onState 23 = .ok (.if_icmp .eq 4, 3) := by decide +kernel
theorem dX3_onState_26 : decode cX3_onState 26 = .ok (.return_, 1) := by decide +kernel
theorem dX3_onState_27 : decode cX3_onState 27 = .ok (.iload 4, 2) := by decide +kernel
theorem dX3_onState_29 : decode cX3_onState 29 = .ok (.iconst 4, 1) := by decide +kernel
theorem dX3_onState_30 : decode cX3_onState 30 = .ok (.if_icmp .eq 9, 3) := by decide +kernel
theorem dX3_onState_33 : decode cX3_onState 33 = .ok (.iload 4, 2) := by decide +kernel
theorem dX3_onState_35 : decode cX3_onState 35 = .ok (.iconst 5, 1) := by decide +kernel
theorem dX3_onState_36 : decode cX3_onState 36 = .ok (.if_icmp .ne 13, 3) := by decide +kernel
theorem dX3_onState_39 : decode cX3_onState 39 = .ok (.aload_n 0, 1) := by decide +kernel
theorem dX3_onState_40 : decode cX3_onState 40 = .ok (.iload_n 1, 1) := by decide +kernel
theorem dX3_onState_41 : decode cX3_onState 41 = .ok (.iload 4, 2) := by decide +kernel
theorem dX3_onState_43 : decode cX3_onState 43 = .ok (.invokevirtual 80, 3) := by decide +kernel
theorem dX3_onState_46 : decode cX3_onState 46 = .ok (.goto 25, 3) := by decide +kernel
theorem dX3_onState_49 : decode cX3_onState 49 = .ok (.aload 5, 2) := by decide +kernel
theorem dX3_onState_51 : decode cX3_onState 51 = .ok (.dup, 1) := by decide +kernel
theorem dX3_onState_52 : decode cX3_onState 52 = .ok (.getfield 219, 3) := by decide +kernel
theorem dX3_onState_55 : decode cX3_onState 55 = .ok (.iconst 1, 1) := by decide +kernel
theorem dX3_onState_56 : decode cX3_onState 56 = .ok (.iload_n 2, 1) := by decide +kernel
theorem dX3_onState_57 : decode cX3_onState 57 = .ok (.ishl, 1) := by decide +kernel
theorem dX3_onState_58 : decode cX3_onState 58 = .ok (.ior, 1) := by decide +kernel
theorem dX3_onState_59 : decode cX3_onState 59 = .ok (.putfield 219, 3) := by decide +kernel
theorem dX3_onState_62 : decode cX3_onState 62 = .ok (.aload 5, 2) := by decide +kernel
theorem dX3_onState_64 : decode cX3_onState 64 = .ok (.getfield 228, 3) := by decide +kernel
theorem dX3_onState_67 : decode cX3_onState 67 = .ok (.iload_n 2, 1) := by decide +kernel
theorem dX3_onState_68 : decode cX3_onState 68 = .ok (.iload 4, 2) := by decide +kernel
theorem dX3_onState_70 : decode cX3_onState 70 = .ok (.iastore, 1) := by decide +kernel
theorem dX3_onState_71 : decode cX3_onState 71 = .ok (.return_, 1) := by decide +kernel
theorem dX3_onAskReady_0 : decode cX3_onAskReady 0 = .ok (.aload_n 0, 1) := by decide +kernel
theorem dX3_onAskReady_1 : decode cX3_onAskReady 1 = .ok (.getfield 11, 3) := by decide +kernel
theorem dX3_onAskReady_4 : decode cX3_onAskReady 4 = .ok (.iload_n 1, 1) := by decide +kernel
theorem dX3_onAskReady_5 : decode cX3_onAskReady 5 = .ok (.aaload, 1) := by decide +kernel
theorem dX3_onAskReady_6 : decode cX3_onAskReady 6 = .ok (.astore 5, 2) := by decide +kernel
theorem dX3_onAskReady_8 : decode cX3_onAskReady 8 = .ok (.aload 5, 2) := by decide +kernel
theorem dX3_onAskReady_10 : decode cX3_onAskReady 10 = .ok (.invokevirtual 97, 3) := by decide +kernel
theorem dX3_onAskReady_13 : decode cX3_onAskReady 13 = .ok (.ifCond .eq 25, 3) := by decide +kernel
theorem dX3_onAskReady_16 : decode cX3_onAskReady 16 = .ok (.aload_n 0, 1) := by decide +kernel
theorem dX3_onAskReady_17 : decode cX3_onAskReady 17 = .ok (.getfield 18, 3) := by decide +kernel
theorem dX3_onAskReady_20 : decode cX3_onAskReady 20 = .ok (.iload_n 1, 1) := by decide +kernel
theorem dX3_onAskReady_21 : decode cX3_onAskReady 21 = .ok (.iconst 1, 1) := by decide +kernel
theorem dX3_onAskReady_22 : decode cX3_onAskReady 22 = .ok (.iload_n 2, 1) := by decide +kernel
theorem dX3_onAskReady_23 : decode cX3_onAskReady 23 = .ok (.ishl, 1) := by decide +kernel
theorem dX3_onAskReady_24 : decode cX3_onAskReady 24 = .ok (.aload 5, 2) := by decide +kernel
theorem dX3_onAskReady_26 : decode cX3_onAskReady 26 = .ok (.getfield 90, 3) := by decide +kernel
theorem dX3_onAskReady_29 : decode cX3_onAskReady 29 = .ok (.invokestatic 231, 3) := by decide +kernel
theorem dX3_onAskReady_32 : decode cX3_onAskReady 32 = .ok (.iconst 0, 1) := by decide +kernel
theorem dX3_onAskReady_33 : decode cX3_onAskReady 33 = .ok (.iconst 0, 1) := by decide +kernel
theorem dX3_onAskReady_34 : decode cX3_onAskReady 34 = .ok (.invokevirtual 213, 3) := by decide +kernel
theorem dX3_onAskReady_37 : decode cX3_onAskReady 37 = .ok (.return_, 1) := by decide +kernel
theorem dX3_onAskReady_38 : decode cX3_onAskReady 38 = .ok (.aload_n 0, 1) := by decide +kernel
theorem dX3_onAskReady_39 : decode cX3_onAskReady 39 = .ok (.iload_n 1, 1) := by decide +kernel
theorem dX3_onAskReady_40 : decode cX3_onAskReady 40 = .ok (.iload_n 2, 1) := by decide +kernel
theorem dX3_onAskReady_41 : decode cX3_onAskReady 41 = .ok (.invokevirtual 225, 3) := by decide +kernel
theorem dX3_onAskReady_44 : decode cX3_onAskReady 44 = .ok (.aload 5, 2) := by decide +kernel
theorem dX3_onAskReady_46 : decode cX3_onAskReady 46 = .ok (.getfield 90, 3) := by decide +kernel
theorem dX3_onAskReady_49 : decode cX3_onAskReady 49 = .ok (.iconst 1, 1) := by decide +kernel
theorem dX3_onAskReady_50 : decode cX3_onAskReady 50 = .ok (.if_icmp .ne 11, 3) := by decide +kernel
theorem dX3_onAskReady_53 : decode cX3_onAskReady 53 = .ok (.aload_n 0, 1) := by decide +kernel
theorem dX3_onAskReady_54 : decode cX3_onAskReady 54 = .ok (.aload 5, 2) := by decide +kernel
theorem dX3_onAskReady_56 : decode cX3_onAskReady 56 = .ok (.iload 4, 2) := by decide +kernel
theorem dX3_onAskReady_58 : decode cX3_onAskReady 58 = .ok (.invokevirtual 93, 3) := by decide +kernel
theorem dX3_onAskReady_61 : decode cX3_onAskReady 61 = .ok (.aload 5, 2) := by decide +kernel
theorem dX3_onAskReady_63 : decode cX3_onAskReady 63 = .ok (.getfield 90, 3) := by decide +kernel
theorem dX3_onAskReady_66 : decode cX3_onAskReady 66 = .ok (.iload 4, 2) := by decide +kernel
theorem dX3_onAskReady_68 : decode cX3_onAskReady 68 = .ok (.if_icmp .ne 18, 3) := by decide +kernel
theorem dX3_onAskReady_71 : decode cX3_onAskReady 71 = .ok (.aload_n 0, 1) := by decide +kernel
theorem dX3_onAskReady_72 : decode cX3_onAskReady 72 = .ok (.getfield 18, 3) := by decide +kernel
theorem dX3_onAskReady_75 : decode cX3_onAskReady 75 = .ok (.iload_n 1, 1) := by decide +kernel
theorem dX3_onAskReady_76 : decode cX3_onAskReady 76 = .ok (.iconst 1, 1) := by decide +kernel
theorem dX3_onAskReady_77 : decode cX3_onAskReady 77 = .ok (.iload_n 2, 1) := by decide +kernel
theorem dX3_onAskReady_78 : decode cX3_onAskReady 78 = .ok (.ishl, 1) := by decide +kernel
theorem dX3_onAskReady_79 : decode cX3_onAskReady 79 = .ok (.bipush 8, 2) := by decide +kernel
theorem dX3_onAskReady_81 : decode cX3_onAskReady 81 = .ok (.iload_n 3, 1) := by decide +kernel
theorem dX3_onAskReady_82 : decode cX3_onAskReady 82 = .ok (.iconst 0, 1) := by decide +kernel
theorem dX3_onAskReady_83 : decode cX3_onAskReady 83 = .ok (.invokevirtual 213, 3) := by decide +kernel
theorem dX3_onAskReady_86 : decode cX3_onAskReady 86 = .ok (.return_, 1) := by decide +kernel
theorem dX3_onAcknowledge_0 : decode cX3_onAcknowledge 0 = .ok (.aload_n 0, 1) := by decide +kernel
theorem dX3_onAcknowledge_1 : decode cX3_onAcknowledge 1 = .ok (.getfield 11, 3) := by decide +kernel
theorem dX3_onAcknowledge_4 : decode cX3_onAcknowledge 4 = .ok (.iload_n 1, 1) := by decide +kernel
theorem dX3_onAcknowledge_5 : decode cX3_onAcknowledge 5 = .ok (.aaload, 1) := by decide +kernel
theorem dX3_onAcknowledge_6 : decode cX3_onAcknowledge 6 = .ok (.astore 4, 2) := by decide +kernel
theorem dX3_onAcknowledge_8 : decode cX3_onAcknowledge 8 = .ok (.aload 4, 2) := by decide +kernel
theorem dX3_onAcknowledge_10 : decode cX3_onAcknowledge 10 = .ok (.invokevirtual 234, 3) := by decide +kernel
theorem dX3_onAcknowledge_13 : decode cX3_onAcknowledge 13 = .ok (.ifCond .eq 12, 3) := by decide +kernel
theorem dX3_onAcknowledge_16 : decode cX3_onAcknowledge 16 = .ok (.aload 4, 2) := by decide +kernel
theorem dX3_onAcknowledge_18 : decode cX3_onAcknowledge 18 = .ok (.getfield 122, 3) := by decide +kernel
theorem dX3_onAcknowledge_21 : decode cX3_onAcknowledge 21 = .ok (.iload_n 3, 1) := by decide +kernel
theorem dX3_onAcknowledge_22 : decode cX3_onAcknowledge 22 = .ok (.if_icmp .eq 4, 3) := by decide +kernel
theorem dX3_onAcknowledge_25 : decode cX3_onAcknowledge 25 = .ok (.return_, 1) := by decide +kernel
theorem dX3_onAcknowledge_26 : decode cX3_onAcknowledge 26 = .ok (.aload 4, 2) := by decide +kernel
theorem dX3_onAcknowledge_28 : decode cX3_onAcknowledge 28 = .ok (.dup, 1) := by decide +kernel
theorem dX3_onAcknowledge_29 : decode cX3_onAcknowledge 29 = .ok (.getfield 219, 3) := by decide +kernel
theorem dX3_onAcknowledge_32 : decode cX3_onAcknowledge 32 = .ok (.iconst 1, 1) := by decide +kernel
theorem dX3_onAcknowledge_33 : decode cX3_onAcknowledge 33 = .ok (.iload_n 2, 1) := by decide +kernel
theorem dX3_onAcknowledge_34 : decode cX3_onAcknowledge 34 = .ok (.ishl, 1) := by decide +kernel
theorem dX3_onAcknowledge_35 : decode cX3_onAcknowledge 35 = .ok (.ior, 1) := by decide +kernel
theorem dX3_onAcknowledge_36 : decode cX3_onAcknowledge 36 = .ok (.putfield 219, 3) := by decide +kernel
theorem dX3_onAcknowledge_39 : decode cX3_onAcknowledge 39 = .ok (.aload_n 0, 1) := by decide +kernel
theorem dX3_onAcknowledge_40 : decode cX3_onAcknowledge 40 = .ok (.aload 4, 2) := by decide +kernel
theorem dX3_onAcknowledge_42 : decode cX3_onAcknowledge 42 = .ok (.invokevirtual 237, 3) := by decide +kernel
theorem dX3_onAcknowledge_45 : decode cX3_onAcknowledge 45 = .ok (.ifCond .eq 22, 3) := by decide +kernel
theorem dX3_onAcknowledge_48 : decode cX3_onAcknowledge 48 = .ok (.aload_n 0, 1) := by decide +kernel
theorem dX3_onAcknowledge_49 : decode cX3_onAcknowledge 49 = .ok (.iload_n 1, 1) := by decide +kernel
theorem dX3_onAcknowledge_50 : decode cX3_onAcknowledge 50 = .ok (.aload 4, 2) := by decide +kernel
theorem dX3_onAcknowledge_52 : decode cX3_onAcknowledge 52 = .ok (.getfield 84, 3) := by decide +kernel
theorem dX3_onAcknowledge_55 : decode cX3_onAcknowledge 55 = .ok (.iconst 2, 1) := by decide +kernel
theorem dX3_onAcknowledge_56 : decode cX3_onAcknowledge 56 = .ok (.if_icmp .ne 7, 3) := by decide +kernel
theorem dX3_onAcknowledge_59 : decode cX3_onAcknowledge 59 = .ok (.iconst 4, 1) := by decide +kernel
theorem dX3_onAcknowledge_60 : decode cX3_onAcknowledge 60 = .ok (.goto 4, 3) := by decide +kernel
theorem dX3_onAcknowledge_63 : decode cX3_onAcknowledge 63 = .ok (.iconst 5, 1) := by decide +kernel
theorem dX3_onAcknowledge_64 : decode cX3_onAcknowledge 64 = .ok (.invokevirtual 80, 3) := by decide +kernel
theorem dX3_onAcknowledge_67 : decode cX3_onAcknowledge 67 = .ok (.return_, 1) := by decide +kernel
theorem dX3_onDecision_0 : decode cX3_onDecision 0 = .ok (.aload_n 0, 1) := by decide +kernel
theorem dX3_onDecision_1 : decode cX3_onDecision 1 = .ok (.getfield 11, 3) := by decide +kernel
theorem dX3_onDecision_4 : decode cX3_onDecision 4 = .ok (.iload_n 1, 1) := by decide +kernel
theorem dX3_onDecision_5 : decode cX3_onDecision 5 = .ok (.aaload, 1) := by decide +kernel
theorem dX3_onDecision_6 : decode cX3_onDecision 6 = .ok (.astore_n 3, 1) := by decide +kernel
theorem dX3_onDecision_7 : decode cX3_onDecision 7 = .ok (.aload_n 3, 1) := by decide +kernel
theorem dX3_onDecision_8 : decode cX3_onDecision 8 = .ok (.invokevirtual 97, 3) := by decide +kernel
theorem dX3_onDecision_11 : decode cX3_onDecision 11 = .ok (.ifCond .ne 14, 3) := by decide +kernel
theorem dX3_onDecision_14 : decode cX3_onDecision 14 = .ok (.aload_n 0, 1) := by decide +kernel
theorem dX3_onDecision_15 : decode cX3_onDecision 15 = .ok (.aload_n 3, 1) := by decide +kernel
theorem dX3_onDecision_16 : decode cX3_onDecision 16 = .ok (.iload_n 2, 1) := by decide +kernel
theorem dX3_onDecision_17 : decode cX3_onDecision 17 = .ok (.invokevirtual 93, 3) := by decide +kernel
theorem dX3_onDecision_20 : decode cX3_onDecision 20 = .ok (.aload_n 3, 1) := by decide +kernel
theorem dX3_onDecision_21 : decode cX3_onDecision 21 = .ok (.iconst 0, 1) := by decide +kernel
theorem dX3_onDecision_22 : decode cX3_onDecision 22 = .ok (.putfield 84, 3) := by decide +kernel
theorem dX3_onDecision_25 : decode cX3_onDecision 25 = .ok (.return_, 1) := by decide +kernel
theorem dX3_runOut_0 : decode cX3_runOut 0 = .ok (.aload_n 0, 1) := by decide +kernel
theorem dX3_runOut_1 : decode cX3_runOut 1 = .ok (.getfield 11, 3) := by decide +kernel
theorem dX3_runOut_4 : decode cX3_runOut 4 = .ok (.iload_n 1, 1) := by decide +kernel
theorem dX3_runOut_5 : decode cX3_runOut 5 = .ok (.aaload, 1) := by decide +kernel
theorem dX3_runOut_6 : decode cX3_runOut 6 = .ok (.astore_n 2, 1) := by decide +kernel
theorem dX3_runOut_7 : decode cX3_runOut 7 = .ok (.aload_n 2, 1) := by decide +kernel
theorem dX3_runOut_8 : decode cX3_runOut 8 = .ok (.getfield 84, 3) := by decide +kernel
theorem dX3_runOut_11 : decode cX3_runOut 11 = .ok (.iconst 1, 1) := by decide +kernel
theorem dX3_runOut_12 : decode cX3_runOut 12 = .ok (.if_icmp .ne 12, 3) := by decide +kernel
theorem dX3_runOut_15 : decode cX3_runOut 15 = .ok (.aload_n 0, 1) := by decide +kernel
theorem dX3_runOut_16 : decode cX3_runOut 16 = .ok (.iload_n 1, 1) := by decide +kernel
theorem dX3_runOut_17 : decode cX3_runOut 17 = .ok (.iconst 5, 1) := by decide +kernel
theorem dX3_runOut_18 : decode cX3_runOut 18 = .ok (.invokevirtual 80, 3) := by decide +kernel
theorem dX3_runOut_21 : decode cX3_runOut 21 = .ok (.goto 102, 3) := by decide +kernel
theorem dX3_runOut_24 : decode cX3_runOut 24 = .ok (.aload_n 2, 1) := by decide +kernel
theorem dX3_runOut_25 : decode cX3_runOut 25 = .ok (.getfield 84, 3) := by decide +kernel
theorem dX3_runOut_28 : decode cX3_runOut 28 = .ok (.iconst 3, 1) := by decide +kernel
theorem dX3_runOut_29 : decode cX3_runOut 29 = .ok (.if_icmp .eq 11, 3) := by decide +kernel
theorem dX3_runOut_32 : decode cX3_runOut 32 = .ok (.aload_n 0, 1) := by decide +kernel
theorem dX3_runOut_33 : decode cX3_runOut 33 = .ok (.iload_n 1, 1) := by decide +kernel
theorem dX3_runOut_34 : decode cX3_runOut 34 = .ok (.invokevirtual 101, 3) := by decide +kernel
theorem dX3_runOut_37 : decode cX3_runOut 37 = .ok (.goto 86, 3) := by decide +kernel
theorem dX3_runOut_40 : decode cX3_runOut 40 = .ok (.aload_n 0, 1) := by decide +kernel
theorem dX3_runOut_41 : decode cX3_runOut 41 = .ok (.aload_n 2, 1) := by decide +kernel
theorem dX3_runOut_42 : decode cX3_runOut 42 = .ok (.iconst 2, 1) := by decide +kernel
theorem dX3_runOut_43 : decode cX3_runOut 43 = .ok (.invokevirtual 240, 3) := by decide +kernel
theorem dX3_runOut_46 : decode cX3_runOut 46 = .ok (.ifCond .le 32, 3) := by decide +kernel
theorem dX3_runOut_49 : decode cX3_runOut 49 = .ok (.aload_n 0, 1) := by decide +kernel
theorem dX3_runOut_50 : decode cX3_runOut 50 = .ok (.aload_n 2, 1) := by decide +kernel
theorem dX3_runOut_51 : decode cX3_runOut 51 = .ok (.iconst 1, 1) := by decide +kernel
theorem dX3_runOut_52 : decode cX3_runOut 52 = .ok (.invokevirtual 240, 3) := by decide +kernel
theorem dX3_runOut_55 : decode cX3_runOut 55 = .ok (.aload_n 0, 1) := by decide +kernel
theorem dX3_runOut_56 : decode cX3_runOut 56 = .ok (.aload_n 2, 1) := by decide +kernel
theorem dX3_runOut_57 : decode cX3_runOut 57 = .ok (.iconst 2, 1) := by decide +kernel
theorem dX3_runOut_58 : decode cX3_runOut 58 = .ok (.invokevirtual 240, 3) := by decide +kernel
theorem dX3_runOut_61 : decode cX3_runOut 61 = .ok (.iadd, 1) := by decide +kernel
theorem dX3_runOut_62 : decode cX3_runOut 62 = .ok (.aload_n 0, 1) := by decide +kernel
theorem dX3_runOut_63 : decode cX3_runOut 63 = .ok (.getfield 50, 3) := by decide +kernel
theorem dX3_runOut_66 : decode cX3_runOut 66 = .ok (.if_icmp .lt 12, 3) := by decide +kernel
theorem dX3_runOut_69 : decode cX3_runOut 69 = .ok (.aload_n 0, 1) := by decide +kernel
theorem dX3_runOut_70 : decode cX3_runOut 70 = .ok (.iload_n 1, 1) := by decide +kernel
theorem dX3_runOut_71 : decode cX3_runOut 71 = .ok (.iconst 2, 1) := by decide +kernel
theorem dX3_runOut_72 : decode cX3_runOut 72 = .ok (.invokevirtual 222, 3) := by decide +kernel
theorem dX3_runOut_75 : decode cX3_runOut 75 = .ok (.goto 48, 3) := by decide +kernel
theorem dX3_runOut_78 : decode cX3_runOut 78 = .ok (.aload_n 0, 1) := by decide +kernel
theorem dX3_runOut_79 : decode cX3_runOut 79 = .ok (.aload_n 2, 1) := by decide +kernel
theorem dX3_runOut_80 : decode cX3_runOut 80 = .ok (.iconst 1, 1) := by decide +kernel
theorem dX3_runOut_81 : decode cX3_runOut 81 = .ok (.invokevirtual 240, 3) := by decide +kernel
theorem dX3_runOut_84 : decode cX3_runOut 84 = .ok (.aload_n 0, 1) := by decide +kernel
theorem dX3_runOut_85 : decode cX3_runOut 85 = .ok (.aload_n 2, 1) := by decide +kernel
theorem dX3_runOut_86 : decode cX3_runOut 86 = .ok (.iconst 3, 1) := by decide +kernel
theorem dX3_runOut_87 : decode cX3_runOut 87 = .ok (.invokevirtual 240, 3) := by decide +kernel
theorem dX3_runOut_90 : decode cX3_runOut 90 = .ok (.iadd, 1) := by decide +kernel
theorem dX3_runOut_91 : decode cX3_runOut 91 = .ok (.aload_n 0, 1) := by decide +kernel
theorem dX3_runOut_92 : decode cX3_runOut 92 = .ok (.getfield 53, 3) := by decide +kernel
theorem dX3_runOut_95 : decode cX3_runOut 95 = .ok (.if_icmp .lt 12, 3) := by decide +kernel
theorem dX3_runOut_98 : decode cX3_runOut 98 = .ok (.aload_n 0, 1) := by decide +kernel
theorem dX3_runOut_99 : decode cX3_runOut 99 = .ok (.iload_n 1, 1) := by decide +kernel
theorem dX3_runOut_100 : decode cX3_runOut 100 = .ok (.iconst 3, 1) := by decide +kernel
theorem dX3_runOut_101 : decode cX3_runOut 101 = .ok (.invokevirtual 222, 3) := by decide +kernel
theorem dX3_runOut_104 : decode cX3_runOut 104 = .ok (.goto 19, 3) := by decide +kernel
theorem dX3_runOut_107 : decode cX3_runOut 107 = .ok (.aload_n 2, 1) := by decide +kernel
theorem dX3_runOut_108 : decode cX3_runOut 108 = .ok (.iconst 0, 1) := by decide +kernel
theorem dX3_runOut_109 : decode cX3_runOut 109 = .ok (.putfield 84, 3) := by decide +kernel
theorem dX3_runOut_112 : decode cX3_runOut 112 = .ok (.aload_n 0, 1) := by decide +kernel
theorem dX3_runOut_113 : decode cX3_runOut 113 = .ok (.aload_n 2, 1) := by decide +kernel
theorem dX3_runOut_114 : decode cX3_runOut 114 = .ok (.aload_n 0, 1) := by decide +kernel
theorem dX3_runOut_115 : decode cX3_runOut 115 = .ok (.getfield 26, 3) := by decide +kernel
theorem dX3_runOut_118 : decode cX3_runOut 118 = .ok (.iload_n 1, 1) := by decide +kernel
theorem dX3_runOut_119 : decode cX3_runOut 119 = .ok (.iadd, 1) := by decide +kernel
theorem dX3_runOut_120 : decode cX3_runOut 120 = .ok (.invokevirtual 216, 3) := by decide +kernel
theorem dX3_runOut_123 : decode cX3_runOut 123 = .ok (.return_, 1) := by decide +kernel
theorem dX3_askVotes_0 : decode cX3_askVotes 0 = .ok (.aload_n 0, 1) := by decide +kernel
theorem dX3_askVotes_1 : decode cX3_askVotes 1 = .ok (.getfield 11, 3) := by decide +kernel
theorem dX3_askVotes_4 : decode cX3_askVotes 4 = .ok (.iload_n 1, 1) := by decide +kernel
theorem dX3_askVotes_5 : decode cX3_askVotes 5 = .ok (.aaload, 1) := by decide +kernel
theorem dX3_askVotes_6 : decode cX3_askVotes 6 = .ok (.astore_n 2, 1) := by decide +kernel
theorem dX3_askVotes_7 : decode cX3_askVotes 7 = .ok (.aload_n 0, 1) := by decide +kernel
theorem dX3_askVotes_8 : decode cX3_askVotes 8 = .ok (.aload_n 2, 1) := by decide +kernel
theorem dX3_askVotes_9 : decode cX3_askVotes 9 = .ok (.iconst 1, 1) := by decide +kernel
theorem dX3_askVotes_10 : decode cX3_askVotes 10 = .ok (.invokevirtual 93, 3) := by decide +kernel
theorem dX3_askVotes_13 : decode cX3_askVotes 13 = .ok (.aload_n 2, 1) := by decide +kernel
theorem dX3_askVotes_14 : decode cX3_askVotes 14 = .ok (.iconst 1, 1) := by decide +kernel
theorem dX3_askVotes_15 : decode cX3_askVotes 15 = .ok (.putfield 84, 3) := by decide +kernel
theorem dX3_askVotes_18 : decode cX3_askVotes 18 = .ok (.aload_n 2, 1) := by decide +kernel
theorem dX3_askVotes_19 : decode cX3_askVotes 19 = .ok (.iconst 1, 1) := by decide +kernel
theorem dX3_askVotes_20 : decode cX3_askVotes 20 = .ok (.iload_n 1, 1) := by decide +kernel
theorem dX3_askVotes_21 : decode cX3_askVotes 21 = .ok (.ishl, 1) := by decide +kernel
theorem dX3_askVotes_22 : decode cX3_askVotes 22 = .ok (.putfield 219, 3) := by decide +kernel
theorem dX3_askVotes_25 : decode cX3_askVotes 25 = .ok (.aload_n 0, 1) := by decide +kernel
theorem dX3_askVotes_26 : decode cX3_askVotes 26 = .ok (.getfield 18, 3) := by decide +kernel
theorem dX3_askVotes_29 : decode cX3_askVotes 29 = .ok (.iload_n 1, 1) := by decide +kernel
theorem dX3_askVotes_30 : decode cX3_askVotes 30 = .ok (.aload_n 0, 1) := by decide +kernel
theorem dX3_askVotes_31 : decode cX3_askVotes 31 = .ok (.iload_n 1, 1) := by decide +kernel
theorem dX3_askVotes_32 : decode cX3_askVotes 32 = .ok (.invokevirtual 244, 3) := by decide +kernel
theorem dX3_askVotes_35 : decode cX3_askVotes 35 = .ok (.iconst 1, 1) := by decide +kernel
theorem dX3_askVotes_36 : decode cX3_askVotes 36 = .ok (.iconst 0, 1) := by decide +kernel
theorem dX3_askVotes_37 : decode cX3_askVotes 37 = .ok (.iconst 0, 1) := by decide +kernel
theorem dX3_askVotes_38 : decode cX3_askVotes 38 = .ok (.invokevirtual 213, 3) := by decide +kernel
theorem dX3_askVotes_41 : decode cX3_askVotes 41 = .ok (.aload_n 0, 1) := by decide +kernel
theorem dX3_askVotes_42 : decode cX3_askVotes 42 = .ok (.aload_n 2, 1) := by decide +kernel
theorem dX3_askVotes_43 : decode cX3_askVotes 43 = .ok (.aload_n 0, 1) := by decide +kernel
theorem dX3_askVotes_44 : decode cX3_askVotes 44 = .ok (.getfield 26, 3) := by decide +kernel
theorem dX3_askVotes_47 : decode cX3_askVotes 47 = .ok (.invokevirtual 216, 3) := by decide +kernel
theorem dX3_askVotes_50 : decode cX3_askVotes 50 = .ok (.aload_n 2, 1) := by decide +kernel
theorem dX3_askVotes_51 : decode cX3_askVotes 51 = .ok (.getfield 219, 3) := by decide +kernel
theorem dX3_askVotes_54 : decode cX3_askVotes 54 = .ok (.aload_n 0, 1) := by decide +kernel
theorem dX3_askVotes_55 : decode cX3_askVotes 55 = .ok (.invokevirtual 139, 3) := by decide +kernel
theorem dX3_askVotes_58 : decode cX3_askVotes 58 = .ok (.if_icmp .ne 19, 3) := by decide +kernel
theorem dX3_askVotes_61 : decode cX3_askVotes 61 = .ok (.aload_n 2, 1) := by decide +kernel
theorem dX3_askVotes_62 : decode cX3_askVotes 62 = .ok (.dup, 1) := by decide +kernel
theorem dX3_askVotes_63 : decode cX3_askVotes 63 = .ok (.getfield 122, 3) := by decide +kernel
theorem dX3_askVotes_66 : decode cX3_askVotes 66 = .ok (.iconst 1, 1) := by decide +kernel
theorem dX3_askVotes_67 : decode cX3_askVotes 67 = .ok (.iadd, 1) := by decide +kernel
theorem dX3_askVotes_68 : decode cX3_askVotes 68 = .ok (.putfield 122, 3) := by decide +kernel
theorem dX3_askVotes_71 : decode cX3_askVotes 71 = .ok (.aload_n 0, 1) := by decide +kernel
theorem dX3_askVotes_72 : decode cX3_askVotes 72 = .ok (.iload_n 1, 1) := by decide +kernel
theorem dX3_askVotes_73 : decode cX3_askVotes 73 = .ok (.iconst 2, 1) := by decide +kernel
theorem dX3_askVotes_74 : decode cX3_askVotes 74 = .ok (.invokevirtual 222, 3) := by decide +kernel
theorem dX3_askVotes_77 : decode cX3_askVotes 77 = .ok (.return_, 1) := by decide +kernel
theorem dX3_attempt_0 : decode cX3_attempt 0 = .ok (.aload_n 0, 1) := by decide +kernel
theorem dX3_attempt_1 : decode cX3_attempt 1 = .ok (.getfield 11, 3) := by decide +kernel
theorem dX3_attempt_4 : decode cX3_attempt 4 = .ok (.iload_n 1, 1) := by decide +kernel
theorem dX3_attempt_5 : decode cX3_attempt 5 = .ok (.aaload, 1) := by decide +kernel
theorem dX3_attempt_6 : decode cX3_attempt 6 = .ok (.astore_n 2, 1) := by decide +kernel
theorem dX3_attempt_7 : decode cX3_attempt 7 = .ok (.aload_n 2, 1) := by decide +kernel
theorem dX3_attempt_8 : decode cX3_attempt 8 = .ok (.dup, 1) := by decide +kernel
theorem dX3_attempt_9 : decode cX3_attempt 9 = .ok (.getfield 122, 3) := by decide +kernel
theorem dX3_attempt_12 : decode cX3_attempt 12 = .ok (.iconst 1, 1) := by decide +kernel
theorem dX3_attempt_13 : decode cX3_attempt 13 = .ok (.iadd, 1) := by decide +kernel
theorem dX3_attempt_14 : decode cX3_attempt 14 = .ok (.putfield 122, 3) := by decide +kernel
theorem dX3_attempt_17 : decode cX3_attempt 17 = .ok (.aload_n 2, 1) := by decide +kernel
theorem dX3_attempt_18 : decode cX3_attempt 18 = .ok (.iconst 3, 1) := by decide +kernel
theorem dX3_attempt_19 : decode cX3_attempt 19 = .ok (.putfield 84, 3) := by decide +kernel
theorem dX3_attempt_22 : decode cX3_attempt 22 = .ok (.aload_n 2, 1) := by decide +kernel
theorem dX3_attempt_23 : decode cX3_attempt 23 = .ok (.iconst 1, 1) := by decide +kernel
theorem dX3_attempt_24 : decode cX3_attempt 24 = .ok (.iload_n 1, 1) := by decide +kernel
theorem dX3_attempt_25 : decode cX3_attempt 25 = .ok (.ishl, 1) := by decide +kernel
theorem dX3_attempt_26 : decode cX3_attempt 26 = .ok (.putfield 219, 3) := by decide +kernel
theorem dX3_attempt_29 : decode cX3_attempt 29 = .ok (.aload_n 2, 1) := by decide +kernel
theorem dX3_attempt_30 : decode cX3_attempt 30 = .ok (.getfield 228, 3) := by decide +kernel
theorem dX3_attempt_33 : decode cX3_attempt 33 = .ok (.iload_n 1, 1) := by decide +kernel
theorem dX3_attempt_34 : decode cX3_attempt 34 = .ok (.aload_n 2, 1) := by decide +kernel
theorem dX3_attempt_35 : decode cX3_attempt 35 = .ok (.getfield 90, 3) := by decide +kernel
theorem dX3_attempt_38 : decode cX3_attempt 38 = .ok (.iastore, 1) := by decide +kernel
theorem dX3_attempt_39 : decode cX3_attempt 39 = .ok (.aload_n 0, 1) := by decide +kernel
theorem dX3_attempt_40 : decode cX3_attempt 40 = .ok (.getfield 18, 3) := by decide +kernel
theorem dX3_attempt_43 : decode cX3_attempt 43 = .ok (.iload_n 1, 1) := by decide +kernel
theorem dX3_attempt_44 : decode cX3_attempt 44 = .ok (.aload_n 0, 1) := by decide +kernel
theorem dX3_attempt_45 : decode cX3_attempt 45 = .ok (.iload_n 1, 1) := by decide +kernel
theorem dX3_attempt_46 : decode cX3_attempt 46 = .ok (.invokevirtual 244, 3) := by decide +kernel
theorem dX3_attempt_49 : decode cX3_attempt 49 = .ok (.iconst 4, 1) := by decide +kernel
theorem dX3_attempt_50 : decode cX3_attempt 50 = .ok (.aload_n 2, 1) := by decide +kernel
theorem dX3_attempt_51 : decode cX3_attempt 51 = .ok (.getfield 122, 3) := by decide +kernel
theorem dX3_attempt_54 : decode cX3_attempt 54 = .ok (.iconst 0, 1) := by decide +kernel
theorem dX3_attempt_55 : decode cX3_attempt 55 = .ok (.invokevirtual 213, 3) := by decide +kernel
theorem dX3_attempt_58 : decode cX3_attempt 58 = .ok (.aload_n 0, 1) := by decide +kernel
theorem dX3_attempt_59 : decode cX3_attempt 59 = .ok (.aload_n 2, 1) := by decide +kernel
theorem dX3_attempt_60 : decode cX3_attempt 60 = .ok (.aload_n 0, 1) := by decide +kernel
theorem dX3_attempt_61 : decode cX3_attempt 61 = .ok (.getfield 26, 3) := by decide +kernel
theorem dX3_attempt_64 : decode cX3_attempt 64 = .ok (.invokevirtual 216, 3) := by decide +kernel
theorem dX3_attempt_67 : decode cX3_attempt 67 = .ok (.return_, 1) := by decide +kernel
theorem dX3_lead_0 : decode cX3_lead 0 = .ok (.aload_n 0, 1) := by decide +kernel
theorem dX3_lead_1 : decode cX3_lead 1 = .ok (.getfield 11, 3) := by decide +kernel
theorem dX3_lead_4 : decode cX3_lead 4 = .ok (.iload_n 1, 1) := by decide +kernel
theorem dX3_lead_5 : decode cX3_lead 5 = .ok (.aaload, 1) := by decide +kernel
theorem dX3_lead_6 : decode cX3_lead 6 = .ok (.astore_n 3, 1) := by decide +kernel
theorem dX3_lead_7 : decode cX3_lead 7 = .ok (.iload_n 2, 1) := by decide +kernel
theorem dX3_lead_8 : decode cX3_lead 8 = .ok (.iconst 2, 1) := by decide +kernel
theorem dX3_lead_9 : decode cX3_lead 9 = .ok (.if_icmp .ne 7, 3) := by decide +kernel
theorem dX3_lead_12 : decode cX3_lead 12 = .ok (.iconst 1, 1) := by decide +kernel
theorem dX3_lead_13 : decode cX3_lead 13 = .ok (.goto 4, 3) := by decide +kernel
theorem dX3_lead_16 : decode cX3_lead 16 = .ok (.iconst 0, 1) := by decide +kernel
theorem dX3_lead_17 : decode cX3_lead 17 = .ok (.istore 4, 2) := by decide +kernel
theorem dX3_lead_19 : decode cX3_lead 19 = .ok (.aload_n 3, 1) := by decide +kernel
theorem dX3_lead_20 : decode cX3_lead 20 = .ok (.getfield 90, 3) := by decide +kernel
theorem dX3_lead_23 : decode cX3_lead 23 = .ok (.iconst 1, 1) := by decide +kernel
theorem dX3_lead_24 : decode cX3_lead 24 = .ok (.if_icmp .ne 9, 3) := by decide +kernel
theorem dX3_lead_27 : decode cX3_lead 27 = .ok (.aload_n 0, 1) := by decide +kernel
theorem dX3_lead_28 : decode cX3_lead 28 = .ok (.aload_n 3, 1) := by decide +kernel
theorem dX3_lead_29 : decode cX3_lead 29 = .ok (.iload_n 2, 1) := by decide +kernel
theorem dX3_lead_30 : decode cX3_lead 30 = .ok (.invokevirtual 93, 3) := by decide +kernel
theorem dX3_lead_33 : decode cX3_lead 33 = .ok (.aload_n 3, 1) := by decide +kernel
theorem dX3_lead_34 : decode cX3_lead 34 = .ok (.iload 4, 2) := by decide +kernel
theorem dX3_lead_36 : decode cX3_lead 36 = .ok (.ifCond .eq 7, 3) := by decide +kernel
theorem dX3_lead_39 : decode cX3_lead 39 = .ok (.iconst 2, 1) := by decide +kernel
theorem dX3_lead_40 : decode cX3_lead 40 = .ok (.goto 4, 3) := by decide +kernel
theorem dX3_lead_43 : decode cX3_lead 43 = .ok (.iconst 4, 1) := by decide +kernel
theorem dX3_lead_44 : decode cX3_lead 44 = .ok (.putfield 84, 3) := by decide +kernel
theorem dX3_lead_47 : decode cX3_lead 47 = .ok (.aload_n 3, 1) := by decide +kernel
theorem dX3_lead_48 : decode cX3_lead 48 = .ok (.aload_n 3, 1) := by decide +kernel
theorem dX3_lead_49 : decode cX3_lead 49 = .ok (.getfield 90, 3) := by decide +kernel
theorem dX3_lead_52 : decode cX3_lead 52 = .ok (.iload_n 2, 1) := by decide +kernel
theorem dX3_lead_53 : decode cX3_lead 53 = .ok (.if_icmp .ne 9, 3) := by decide +kernel
theorem dX3_lead_56 : decode cX3_lead 56 = .ok (.iconst 1, 1) := by decide +kernel
theorem dX3_lead_57 : decode cX3_lead 57 = .ok (.iload_n 1, 1) := by decide +kernel
theorem dX3_lead_58 : decode cX3_lead 58 = .ok (.ishl, 1) := by decide +kernel
theorem dX3_lead_59 : decode cX3_lead 59 = .ok (.goto 4, 3) := by decide +kernel
theorem dX3_lead_62 : decode cX3_lead 62 = .ok (.iconst 0, 1) := by decide +kernel
theorem dX3_lead_63 : decode cX3_lead 63 = .ok (.putfield 219, 3) := by decide +kernel
theorem dX3_lead_66 : decode cX3_lead 66 = .ok (.aload_n 0, 1) := by decide +kernel
theorem dX3_lead_67 : decode cX3_lead 67 = .ok (.getfield 18, 3) := by decide +kernel
theorem dX3_lead_70 : decode cX3_lead 70 = .ok (.iload_n 1, 1) := by decide +kernel
theorem dX3_lead_71 : decode cX3_lead 71 = .ok (.aload_n 0, 1) := by decide +kernel
