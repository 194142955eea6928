theorem dX7_isName_0 : decode cX7_isName 0 = .ok (.aload_n 0, 1) := by decide +kernel
theorem dX7_isName_1 : decode cX7_isName 1 = .ok (.getfield 81, 3) := by decide +kernel
theorem dX7_isName_4 : decode cX7_isName 4 = .ok (.iconst 1, 1) := by decide +kernel
theorem dX7_isName_5 : decode cX7_isName 5 = .ok (.if_icmp .ne 16, 3) := by decide +kernel
theorem dX7_isName_8 : decode cX7_isName 8 = .ok (.aload_n 0, 1) := by decide +kernel
theorem dX7_isName_9 : decode cX7_isName 9 = .ok (.getfield 84, 3) := by decide +kernel
theorem dX7_isName_12 : decode cX7_isName 12 = .ok (.lload_n 1, 1) := by decide +kernel
theorem dX7_isName_13 : decode cX7_isName 13 = .ok (.lcmp, 1) := by decide +kernel
theorem dX7_isName_14 : decode cX7_isName 14 = .ok (.ifCond .ne 7, 3) := by decide +kernel
theorem dX7_isName_17 : decode cX7_isName 17 = .ok (.iconst 1, 1) := by decide +kernel
theorem dX7_isName_18 : decode cX7_isName 18 = .ok (.goto 4, 3) := by decide +kernel
theorem dX7_isName_21 : decode cX7_isName 21 = .ok (.iconst 0, 1) := by decide +kernel
theorem dX7_isName_22 : decode cX7_isName 22 = .ok (.ireturn, 1) := by decide +kernel
theorem dX7_must_0 : decode cX7_must 0 = .ok (.aload_n 0, 1) := by decide +kernel
theorem dX7_must_1 : decode cX7_must 1 = .ok (.getfield 91, 3) := by decide +kernel
theorem dX7_must_4 : decode cX7_must 4 = .ok (.ifCond .ne 12, 3) := by decide +kernel
theorem dX7_must_7 : decode cX7_must 7 = .ok (.iload_n 1, 1) := by decide +kernel
theorem dX7_must_8 : decode cX7_must 8 = .ok (.ifCond .ne 8, 3) := by decide +kernel
theorem dX7_must_11 : decode cX7_must 11 = .ok (.aload_n 0, 1) := by decide +kernel
theorem dX7_must_12 : decode cX7_must 12 = .ok (.iload_n 2, 1) := by decide +kernel
theorem dX7_must_13 : decode cX7_must 13 = .ok (.putfield 91, 3) := by decide +kernel
theorem dX7_must_16 : decode cX7_must 16 = .ok (.return_, 1) := by decide +kernel
theorem dX7_goesOn_0 : decode cX7_goesOn 0 = .ok (.aload_n 0, 1) := by decide +kernel
theorem dX7_goesOn_1 : decode cX7_goesOn 1 = .ok (.getfield 91, 3) := by decide +kernel
theorem dX7_goesOn_4 : decode cX7_goesOn 4 = .ok (.ifCond .ne 7, 3) := by decide +kernel
theorem dX7_goesOn_7 : decode cX7_goesOn 7 = .ok (.aload_n 0, 1) := by decide +kernel
theorem dX7_goesOn_8 : decode cX7_goesOn 8 = .ok (.invokevirtual 94, 3) := by decide +kernel
theorem dX7_goesOn_11 : decode cX7_goesOn 11 = .ok (.return_, 1) := by decide +kernel
theorem dX7_readNumber_0 : decode cX7_readNumber 0 = .ok (.aload_n 0, 1) := by decide +kernel
theorem dX7_readNumber_1 : decode cX7_readNumber 1 = .ok (.aload_n 0, 1) := by decide +kernel
theorem dX7_readNumber_2 : decode cX7_readNumber 2 = .ok (.getfield 81, 3) := by decide +kernel
theorem dX7_readNumber_5 : decode cX7_readNumber 5 = .ok (.iconst 2, 1) := by decide +kernel
theorem dX7_readNumber_6 : decode cX7_readNumber 6 = .ok (.if_icmp .ne 7, 3) := by decide +kernel
theorem dX7_readNumber_9 : decode cX7_readNumber 9 = .ok (.iconst 1, 1) := by decide +kernel
theorem dX7_readNumber_10 : decode cX7_readNumber 10 = .ok (.goto 4, 3) := by decide +kernel
theorem dX7_readNumber_13 : decode cX7_readNumber 13 = .ok (.iconst 0, 1) := by decide +kernel
theorem dX7_readNumber_14 : decode cX7_readNumber 14 = .ok (.iconst 1, 1) := by decide +kernel
theorem dX7_readNumber_15 : decode cX7_readNumber 15 = .ok (.invokevirtual 97, 3) := by decide +kernel
theorem dX7_readNumber_18 : decode cX7_readNumber 18 = .ok (.aload_n 0, 1) := by decide +kernel
theorem dX7_readNumber_19 : decode cX7_readNumber 19 = .ok (.aload_n 0, 1) := by decide +kernel
theorem dX7_readNumber_20 : decode cX7_readNumber 20 = .ok (.getfield 88, 3) := by decide +kernel
theorem dX7_readNumber_23 : decode cX7_readNumber 23 = .ok (.iload_n 1, 1) := by decide +kernel
theorem dX7_readNumber_24 : decode cX7_readNumber 24 = .ok (.iload_n 2, 1) := by decide +kernel
theorem dX7_readNumber_25 : decode cX7_readNumber 25 = .ok (.invokestatic 47, 3) := by decide +kernel
theorem dX7_readNumber_28 : decode cX7_readNumber 28 = .ok (.ifCond .eq 15, 3) := by decide +kernel
theorem dX7_readNumber_31 : decode cX7_readNumber 31 = .ok (.aload_n 0, 1) := by decide +kernel
theorem dX7_readNumber_32 : decode cX7_readNumber 32 = .ok (.getfield 88, 3) := by decide +kernel
theorem dX7_readNumber_35 : decode cX7_readNumber 35 = .ok (.iload_n 3, 1) := by decide +kernel
theorem dX7_readNumber_36 : decode cX7_readNumber 36 = .ok (.if_icmp .eq 7, 3) := by decide +kernel
theorem dX7_readNumber_39 : decode cX7_readNumber 39 = .ok (.iconst 1, 1) := by decide +kernel
theorem dX7_readNumber_40 : decode cX7_readNumber 40 = .ok (.goto 4, 3) := by decide +kernel
theorem dX7_readNumber_43 : decode cX7_readNumber 43 = .ok (.iconst 0, 1) := by decide +kernel
theorem dX7_readNumber_44 : decode cX7_readNumber 44 = .ok (.iconst 2, 1) := by decide +kernel
theorem dX7_readNumber_45 : decode cX7_readNumber 45 = .ok (.invokevirtual 97, 3) := by decide +kernel
theorem dX7_readNumber_48 : decode cX7_readNumber 48 = .ok (.aload_n 0, 1) := by decide +kernel
theorem dX7_readNumber_49 : decode cX7_readNumber 49 = .ok (.getfield 88, 3) := by decide +kernel
theorem dX7_readNumber_52 : decode cX7_readNumber 52 = .ok (.istore 4, 2) := by decide +kernel
theorem dX7_readNumber_54 : decode cX7_readNumber 54 = .ok (.aload_n 0, 1) := by decide +kernel
theorem dX7_readNumber_55 : decode cX7_readNumber 55 = .ok (.invokevirtual 101, 3) := by decide +kernel
theorem dX7_readNumber_58 : decode cX7_readNumber 58 = .ok (.iload 4, 2) := by decide +kernel
theorem dX7_readNumber_60 : decode cX7_readNumber 60 = .ok (.ireturn, 1) := by decide +kernel
theorem dX7_readStop_0 : decode cX7_readStop 0 = .ok (.aload_n 0, 1) := by decide +kernel
theorem dX7_readStop_1 : decode cX7_readStop 1 = .ok (.aload_n 0, 1) := by decide +kernel
theorem dX7_readStop_2 : decode cX7_readStop 2 = .ok (.getfield 81, 3) := by decide +kernel
theorem dX7_readStop_5 : decode cX7_readStop 5 = .ok (.iconst 3, 1) := by decide +kernel
theorem dX7_readStop_6 : decode cX7_readStop 6 = .ok (.if_icmp .ne 7, 3) := by decide +kernel
theorem dX7_readStop_9 : decode cX7_readStop 9 = .ok (.iconst 1, 1) := by decide +kernel
theorem dX7_readStop_10 : decode cX7_readStop 10 = .ok (.goto 4, 3) := by decide +kernel
theorem dX7_readStop_13 : decode cX7_readStop 13 = .ok (.iconst 0, 1) := by decide +kernel
theorem dX7_readStop_14 : decode cX7_readStop 14 = .ok (.iconst 1, 1) := by decide +kernel
theorem dX7_readStop_15 : decode cX7_readStop 15 = .ok (.invokevirtual 97, 3) := by decide +kernel
theorem dX7_readStop_18 : decode cX7_readStop 18 = .ok (.aload_n 0, 1) := by decide +kernel
theorem dX7_readStop_19 : decode cX7_readStop 19 = .ok (.invokevirtual 101, 3) := by decide +kernel
theorem dX7_readStop_22 : decode cX7_readStop 22 = .ok (.return_, 1) := by decide +kernel
theorem dX7_sortNow_0 : decode cX7_sortNow 0 = .ok (.aload_n 0, 1) := by decide +kernel
theorem dX7_sortNow_1 : decode cX7_sortNow 1 = .ok (.ldc2_w 104, 3) := by decide +kernel
theorem dX7_sortNow_4 : decode cX7_sortNow 4 = .ok (.invokevirtual 106, 3) := by decide +kernel
theorem dX7_sortNow_7 : decode cX7_sortNow 7 = .ok (.ifCond .eq 7, 3) := by decide +kernel
theorem dX7_sortNow_10 : decode cX7_sortNow 10 = .ok (.iconst 1, 1) := by decide +kernel
theorem dX7_sortNow_11 : decode cX7_sortNow 11 = .ok (.goto 61, 3) := by decide +kernel
theorem dX7_sortNow_14 : decode cX7_sortNow 14 = .ok (.aload_n 0, 1) := by decide +kernel
theorem dX7_sortNow_15 : decode cX7_sortNow 15 = .ok (.ldc2_w 110, 3) := by decide +kernel
theorem dX7_sortNow_18 : decode cX7_sortNow 18 = .ok (.invokevirtual 106, 3) := by decide +kernel
theorem dX7_sortNow_21 : decode cX7_sortNow 21 = .ok (.ifCond .eq 7, 3) := by decide +kernel
theorem dX7_sortNow_24 : decode cX7_sortNow 24 = .ok (.iconst 2, 1) := by decide +kernel
theorem dX7_sortNow_25 : decode cX7_sortNow 25 = .ok (.goto 47, 3) := by decide +kernel
theorem dX7_sortNow_28 : decode cX7_sortNow 28 = .ok (.aload_n 0, 1) := by decide +kernel
theorem dX7_sortNow_29 : decode cX7_sortNow 29 = .ok (.ldc2_w 112, 3) := by decide +kernel
theorem dX7_sortNow_32 : decode cX7_sortNow 32 = .ok (.invokevirtual 106, 3) := by decide +kernel
theorem dX7_sortNow_35 : decode cX7_sortNow 35 = .ok (.ifCond .eq 7, 3) := by decide +kernel
theorem dX7_sortNow_38 : decode cX7_sortNow 38 = .ok (.iconst 3, 1) := by decide +kernel
theorem dX7_sortNow_39 : decode cX7_sortNow 39 = .ok (.goto 33, 3) := by decide +kernel
theorem dX7_sortNow_42 : decode cX7_sortNow 42 = .ok (.aload_n 0, 1) := by decide +kernel
theorem dX7_sortNow_43 : decode cX7_sortNow 43 = .ok (.ldc2_w 114, 3) := by decide +kernel
theorem dX7_sortNow_46 : decode cX7_sortNow 46 = .ok (.invokevirtual 106, 3) := by decide +kernel
theorem dX7_sortNow_49 : decode cX7_sortNow 49 = .ok (.ifCond .eq 7, 3) := by decide +kernel
theorem dX7_sortNow_52 : decode cX7_sortNow 52 = .ok (.iconst 4, 1) := by decide +kernel
theorem dX7_sortNow_53 : decode cX7_sortNow 53 = .ok (.goto 19, 3) := by decide +kernel
theorem dX7_sortNow_56 : decode cX7_sortNow 56 = .ok (.aload_n 0, 1) := by decide +kernel
theorem dX7_sortNow_57 : decode cX7_sortNow 57 = .ok (.ldc2_w 116, 3) := by decide +kernel
theorem dX7_sortNow_60 : decode cX7_sortNow 60 = .ok (.invokevirtual 106, 3) := by decide +kernel
theorem dX7_sortNow_63 : decode cX7_sortNow 63 = .ok (.ifCond .eq 7, 3) := by decide +kernel
theorem dX7_sortNow_66 : decode cX7_sortNow 66 = .ok (.iconst 5, 1) := by decide +kernel
theorem dX7_sortNow_67 : decode cX7_sortNow 67 = .ok (.goto 5, 3) := by decide +kernel
theorem dX7_sortNow_70 : decode cX7_sortNow 70 = .ok (.ldc 41, 2) := by decide +kernel
theorem dX7_sortNow_72 : decode cX7_sortNow 72 = .ok (.ireturn, 1) := by decide +kernel
theorem dX7_readKnitters_0 : decode cX7_readKnitters 0 = .ok (.aload_n 0, 1) := by decide +kernel
theorem dX7_readKnitters_1 : decode cX7_readKnitters 1 = .ok (.aload_n 0, 1) := by decide +kernel
theorem dX7_readKnitters_2 : decode cX7_readKnitters 2 = .ok (.ldc2_w 118, 3) := by decide +kernel
theorem dX7_readKnitters_5 : decode cX7_readKnitters 5 = .ok (.invokevirtual 106, 3) := by decide +kernel
theorem dX7_readKnitters_8 : decode cX7_readKnitters 8 = .ok (.iconst 1, 1) := by decide +kernel
theorem dX7_readKnitters_9 : decode cX7_readKnitters 9 = .ok (.invokevirtual 97, 3) := by decide +kernel
theorem dX7_readKnitters_12 : decode cX7_readKnitters 12 = .ok (.aload_n 0, 1) := by decide +kernel
theorem dX7_readKnitters_13 : decode cX7_readKnitters 13 = .ok (.invokevirtual 101, 3) := by decide +kernel
theorem dX7_readKnitters_16 : decode cX7_readKnitters 16 = .ok (.aload_n 0, 1) := by decide +kernel
theorem dX7_readKnitters_17 : decode cX7_readKnitters 17 = .ok (.getfield 35, 3) := by decide +kernel
theorem dX7_readKnitters_20 : decode cX7_readKnitters 20 = .ok (.iconst 1, 1) := by decide +kernel
theorem dX7_readKnitters_21 : decode cX7_readKnitters 21 = .ok (.aload_n 0, 1) := by decide +kernel
theorem dX7_readKnitters_22 : decode cX7_readKnitters 22 = .ok (.iconst 1, 1) := by decide +kernel
theorem dX7_readKnitters_23 : decode cX7_readKnitters 23 = .ok (.iconst 5, 1) := by decide +kernel
theorem dX7_readKnitters_24 : decode cX7_readKnitters 24 = .ok (.ldc 41, 2) := by decide +kernel
theorem dX7_readKnitters_26 : decode cX7_readKnitters 26 = .ok (.invokevirtual 120, 3) := by decide +kernel
theorem dX7_readKnitters_29 : decode cX7_readKnitters 29 = .ok (.iastore, 1) := by decide +kernel
theorem dX7_readKnitters_30 : decode cX7_readKnitters 30 = .ok (.aload_n 0, 1) := by decide +kernel
theorem dX7_readKnitters_31 : decode cX7_readKnitters 31 = .ok (.getfield 35, 3) := by decide +kernel
theorem dX7_readKnitters_34 : decode cX7_readKnitters 34 = .ok (.iconst 2, 1) := by decide +kernel
theorem dX7_readKnitters_35 : decode cX7_readKnitters 35 = .ok (.aload_n 0, 1) := by decide +kernel
theorem dX7_readKnitters_36 : decode cX7_readKnitters 36 = .ok (.iconst 1, 1) := by decide +kernel
theorem dX7_readKnitters_37 : decode cX7_readKnitters 37 = .ok (.bipush 6, 2) := by decide +kernel
theorem dX7_readKnitters_39 : decode cX7_readKnitters 39 = .ok (.ldc 41, 2) := by decide +kernel
theorem dX7_readKnitters_41 : decode cX7_readKnitters 41 = .ok (.invokevirtual 120, 3) := by decide +kernel
theorem dX7_readKnitters_44 : decode cX7_readKnitters 44 = .ok (.iastore, 1) := by decide +kernel
theorem dX7_readKnitters_45 : decode cX7_readKnitters 45 = .ok (.aload_n 0, 1) := by decide +kernel
theorem dX7_readKnitters_46 : decode cX7_readKnitters 46 = .ok (.invokevirtual 124, 3) := by decide +kernel
theorem dX7_readKnitters_49 : decode cX7_readKnitters 49 = .ok (.return_, 1) := by decide +kernel
theorem dX7_readWool_0 : decode cX7_readWool 0 = .ok (.aload_n 0, 1) := by decide +kernel
theorem dX7_readWool_1 : decode cX7_readWool 1 = .ok (.aload_n 0, 1) := by decide +kernel
theorem dX7_readWool_2 : decode cX7_readWool 2 = .ok (.getfield 35, 3) := by decide +kernel
theorem dX7_readWool_5 : decode cX7_readWool 5 = .ok (.iconst 3, 1) := by decide +kernel
theorem dX7_readWool_6 : decode cX7_readWool 6 = .ok (.iaload, 1) := by decide +kernel
theorem dX7_readWool_7 : decode cX7_readWool 7 = .ok (.bipush 7, 2) := by decide +kernel
theorem dX7_readWool_9 : decode cX7_readWool 9 = .ok (.if_icmp .ge 7, 3) := by decide +kernel
theorem dX7_readWool_12 : decode cX7_readWool 12 = .ok (.iconst 1, 1) := by decide +kernel
theorem dX7_readWool_13 : decode cX7_readWool 13 = .ok (.goto 4, 3) := by decide +kernel
theorem dX7_readWool_16 : decode cX7_readWool 16 = .ok (.iconst 0, 1) := by decide +kernel
theorem dX7_readWool_17 : decode cX7_readWool 17 = .ok (.iconst 3, 1) := by decide +kernel
theorem dX7_readWool_18 : decode cX7_readWool 18 = .ok (.invokevirtual 97, 3) := by decide +kernel
theorem dX7_readWool_21 : decode cX7_readWool 21 = .ok (.aload_n 0, 1) := by decide +kernel
theorem dX7_readWool_22 : decode cX7_readWool 22 = .ok (.invokevirtual 101, 3) := by decide +kernel
theorem dX7_readWool_25 : decode cX7_readWool 25 = .ok (.aload_n 0, 1) := by decide +kernel
theorem dX7_readWool_26 : decode cX7_readWool 26 = .ok (.invokevirtual 127, 3) := by decide +kernel
theorem dX7_readWool_29 : decode cX7_readWool 29 = .ok (.istore_n 1, 1) := by decide +kernel
theorem dX7_readWool_30 : decode cX7_readWool 30 = .ok (.aload_n 0, 1) := by decide +kernel
theorem dX7_readWool_31 : decode cX7_readWool 31 = .ok (.iload_n 1, 1) := by decide +kernel
theorem dX7_readWool_32 : decode cX7_readWool 32 = .ok (.ldc 41, 2) := by decide +kernel
theorem dX7_readWool_34 : decode cX7_readWool 34 = .ok (.if_icmp .eq 7, 3) := by decide +kernel
theorem dX7_readWool_37 : decode cX7_readWool 37 = .ok (.iconst 1, 1) := by decide +kernel
theorem dX7_readWool_38 : decode cX7_readWool 38 = .ok (.goto 4, 3) := by decide +kernel
theorem dX7_readWool_41 : decode cX7_readWool 41 = .ok (.iconst 0, 1) := by decide +kernel
theorem dX7_readWool_42 : decode cX7_readWool 42 = .ok (.iconst 1, 1) := by decide +kernel
theorem dX7_readWool_43 : decode cX7_readWool 43 = .ok (.invokevirtual 97, 3) := by decide +kernel
theorem dX7_readWool_46 : decode cX7_readWool 46 = .ok (.aload_n 0, 1) := by decide +kernel
theorem dX7_readWool_47 : decode cX7_readWool 47 = .ok (.invokevirtual 101, 3) := by decide +kernel
theorem dX7_readWool_50 : decode cX7_readWool 50 = .ok (.aload_n 0, 1) := by decide +kernel
theorem dX7_readWool_51 : decode cX7_readWool 51 = .ok (.iconst 0, 1) := by decide +kernel
theorem dX7_readWool_52 : decode cX7_readWool 52 = .ok (.aload_n 0, 1) := by decide +kernel
theorem dX7_readWool_53 : decode cX7_readWool 53 = .ok (.getfield 35, 3) := by decide +kernel
theorem dX7_readWool_56 : decode cX7_readWool 56 = .ok (.iconst 1, 1) := by decide +kernel
theorem dX7_readWool_57 : decode cX7_readWool 57 = .ok (.iaload, 1) := by decide +kernel
theorem dX7_readWool_58 : decode cX7_readWool 58 = .ok (.iconst 1, 1) := by decide +kernel
theorem dX7_readWool_59 : decode cX7_readWool 59 = .ok (.isub, 1) := by decide +kernel
theorem dX7_readWool_60 : decode cX7_readWool 60 = .ok (.ldc 41, 2) := by decide +kernel
theorem dX7_readWool_62 : decode cX7_readWool 62 = .ok (.invokevirtual 120, 3) := by decide +kernel
theorem dX7_readWool_65 : decode cX7_readWool 65 = .ok (.istore_n 2, 1) := by decide +kernel
theorem dX7_readWool_66 : decode cX7_readWool 66 = .ok (.aload_n 0, 1) := by decide +kernel
theorem dX7_readWool_67 : decode cX7_readWool 67 = .ok (.iconst 1, 1) := by decide +kernel
theorem dX7_readWool_68 : decode cX7_readWool 68 = .ok (.bipush 30, 2) := by decide +kernel
theorem dX7_readWool_70 : decode cX7_readWool 70 = .ok (.ldc 41, 2) := by decide +kernel
theorem dX7_readWool_72 : decode cX7_readWool 72 = .ok (.invokevirtual 120, 3) := by decide +kernel
theorem dX7_readWool_75 : decode cX7_readWool 75 = .ok (.istore_n 3, 1) := by decide +kernel
theorem dX7_readWool_76 : decode cX7_readWool 76 = .ok (.aload_n 0, 1) := by decide +kernel
theorem dX7_readWool_77 : decode cX7_readWool 77 = .ok (.invokevirtual 124, 3) := by decide +kernel
theorem dX7_readWool_80 : decode cX7_readWool 80 = .ok (.aload_n 0, 1) := by decide +kernel
theorem dX7_readWool_81 : decode cX7_readWool 81 = .ok (.getfield 91, 3) := by decide +kernel
theorem dX7_readWool_84 : decode cX7_readWool 84 = .ok (.ifCond .ne 59, 3) := by decide +kernel
theorem dX7_readWool_87 : decode cX7_readWool 87 = .ok (.aload_n 0, 1) := by decide +kernel
theorem dX7_readWool_88 : decode cX7_readWool 88 = .ok (.getfield 35, 3) := by decide +kernel
theorem dX7_readWool_91 : decode cX7_readWool 91 = .ok (.iconst 5, 1) := by decide +kernel
theorem dX7_readWool_92 : decode cX7_readWool 92 = .ok (.aload_n 0, 1) := by decide +kernel
theorem dX7_readWool_93 : decode cX7_readWool 93 = .ok (.getfield 35, 3) := by decide +kernel
theorem dX7_readWool_96 : decode cX7_readWool 96 = .ok (.iconst 3, 1) := by decide +kernel
theorem dX7_readWool_97 : decode cX7_readWool 97 = .ok (.iaload, 1) := by decide +kernel
theorem dX7_readWool_98 : decode cX7_readWool 98 = .ok (.iadd, 1) := by decide +kernel
theorem dX7_readWool_99 : decode cX7_readWool 99 = .ok (.iload_n 1, 1) := by decide +kernel
theorem dX7_readWool_100 : decode cX7_readWool 100 = .ok (.iastore, 1) := by decide +kernel
theorem dX7_readWool_101 : decode cX7_readWool 101 = .ok (.aload_n 0, 1) := by decide +kernel
theorem dX7_readWool_102 : decode cX7_readWool 102 = .ok (.getfield 35, 3) := by decide +kernel
theorem dX7_readWool_105 : decode cX7_readWool 105 = .ok (.bipush 60, 2) := by decide +kernel
theorem dX7_readWool_107 : decode cX7_readWool 107 = .ok (.aload_n 0, 1) := by decide +kernel
theorem dX7_readWool_108 : decode cX7_readWool 108 = .ok (.getfield 35, 3) := by decide +kernel
theorem dX7_readWool_111 : decode cX7_readWool 111 = .ok (.iconst 3, 1) := by decide +kernel
theorem dX7_readWool_112 : decode cX7_readWool 112 = .ok (.iaload, 1) := by decide +kernel
theorem dX7_readWool_113 : decode cX7_readWool 113 = .ok (.iadd, 1) := by decide +kernel
theorem dX7_readWool_114 : decode cX7_readWool 114 = .ok (.iload_n 3, 1) := by decide +kernel
theorem dX7_readWool_115 : decode cX7_readWool 115 = .ok (.iastore, 1) := by decide +kernel
theorem dX7_readWool_116 : decode cX7_readWool 116 = .ok (.aload_n 0, 1) := by decide +kernel
theorem dX7_readWool_117 : decode cX7_readWool 117 = .ok (.getfield 35, 3) := by decide +kernel
theorem dX7_readWool_120 : decode cX7_readWool 120 = .ok (.bipush 67, 2) := by decide +kernel
theorem dX7_readWool_122 : decode cX7_readWool 122 = .ok (.aload_n 0, 1) := by decide +kernel
theorem dX7_readWool_123 : decode cX7_readWool 123 = .ok (.getfield 35, 3) := by decide +kernel
theorem dX7_readWool_126 : decode cX7_readWool 126 = .ok (.iconst 3, 1) := by decide +kernel
theorem dX7_readWool_127 : decode cX7_readWool 127 = .ok (.iaload, 1) := by decide +kernel
theorem dX7_readWool_128 : decode cX7_readWool 128 = .ok (.iadd, 1) := by decide +kernel
theorem dX7_readWool_129 : decode cX7_readWool 129 = .ok (.iconst 1, 1) := by decide +kernel
theorem dX7_readWool_130 : decode cX7_readWool 130 = .ok (.iload_n 2, 1) := by decide +kernel
theorem dX7_readWool_131 : decode cX7_readWool 131 = .ok (.ishl, 1) := by decide +kernel
theorem dX7_readWool_132 : decode cX7_readWool 132 = .ok (.iastore, 1) := by decide +kernel
theorem dX7_readWool_133 : decode cX7_readWool 133 = .ok (.aload_n 0, 1) := by decide +kernel
theorem dX7_readWool_134 : decode cX7_readWool 134 = .ok (.getfield 35, 3) := by decide +kernel
theorem dX7_readWool_137 : decode cX7_readWool 137 = .ok (.iconst 3, 1) := by decide +kernel
theorem dX7_readWool_138 : decode cX7_readWool 138 = .ok (.dup2, 1) := by decide +kernel
theorem dX7_readWool_139 : decode cX7_readWool 139 = .ok (.iaload, 1) := by decide +kernel
theorem dX7_readWool_140 : decode cX7_readWool 140 = .ok (.iconst 1, 1) := by decide +kernel
theorem dX7_readWool_141 : decode cX7_readWool 141 = .ok (.iadd, 1) := by decide +kernel
theorem dX7_readWool_142 : decode cX7_readWool 142 = .ok (.iastore, 1) := by decide +kernel
theorem dX7_readWool_143 : decode cX7_readWool 143 = .ok (.return_, 1) := by decide +kernel
theorem dX7_readWorn_0 : decode cX7_readWorn 0 = .ok (.aload_n 0, 1) := by decide +kernel
theorem dX7_readWorn_1 : decode cX7_readWorn 1 = .ok (.aload_n 0, 1) := by decide +kernel
theorem dX7_readWorn_2 : decode cX7_readWorn 2 = .ok (.getfield 81, 3) := by decide +kernel
theorem dX7_readWorn_5 : decode cX7_readWorn 5 = .ok (.iconst 2, 1) := by decide +kernel
theorem dX7_readWorn_6 : decode cX7_readWorn 6 = .ok (.if_icmp .ne 7, 3) := by decide +kernel
theorem dX7_readWorn_9 : decode cX7_readWorn 9 = .ok (.iconst 1, 1) := by decide +kernel
theorem dX7_readWorn_10 : decode cX7_readWorn 10 = .ok (.goto 4, 3) := by decide +kernel
theorem dX7_readWorn_13 : decode cX7_readWorn 13 = .ok (.iconst 0, 1) := by decide +kernel
theorem dX7_readWorn_14 : decode cX7_readWorn 14 = .ok (.iconst 1, 1) := by decide +kernel
theorem dX7_readWorn_15 : decode cX7_readWorn 15 = .ok (.invokevirtual 97, 3) := by decide +kernel
theorem dX7_readWorn_18 : decode cX7_readWorn 18 = .ok (.aload_n 0, 1) := by decide +kernel
theorem dX7_readWorn_19 : decode cX7_readWorn 19 = .ok (.aload_n 0, 1) := by decide +kernel
theorem dX7_readWorn_20 : decode cX7_readWorn 20 = .ok (.getfield 88, 3) := by decide +kernel
theorem dX7_readWorn_23 : decode cX7_readWorn 23 = .ok (.iconst 0, 1) := by decide +kernel
theorem dX7_readWorn_24 : decode cX7_readWorn 24 = .ok (.aload_n 0, 1) := by decide +kernel
theorem dX7_readWorn_25 : decode cX7_readWorn 25 = .ok (.getfield 35, 3) := by decide +kernel
theorem dX7_readWorn_28 : decode cX7_readWorn 28 = .ok (.iconst 3, 1) := by decide +kernel
theorem dX7_readWorn_29 : decode cX7_readWorn 29 = .ok (.iaload, 1) := by decide +kernel
theorem dX7_readWorn_30 : decode cX7_readWorn 30 = .ok (.iconst 1, 1) := by decide +kernel
theorem dX7_readWorn_31 : decode cX7_readWorn 31 = .ok (.isub, 1) := by decide +kernel
theorem dX7_readWorn_32 : decode cX7_readWorn 32 = .ok (.invokestatic 47, 3) := by decide +kernel
theorem dX7_readWorn_35 : decode cX7_readWorn 35 = .ok (.ifCond .ne 12, 3) := by decide +kernel
theorem dX7_readWorn_38 : decode cX7_readWorn 38 = .ok (.aload_n 0, 1) := by decide +kernel
theorem dX7_readWorn_39 : decode cX7_readWorn 39 = .ok (.getfield 88, 3) := by decide +kernel
theorem dX7_readWorn_42 : decode cX7_readWorn 42 = .ok (.bipush 9, 2) := by decide +kernel
theorem dX7_readWorn_44 : decode cX7_readWorn 44 = .ok (.if_icmp .ne 7, 3) := by decide +kernel
theorem dX7_readWorn_47 : decode cX7_readWorn 47 = .ok (.iconst 1, 1) := by decide +kernel
theorem dX7_readWorn_48 : decode cX7_readWorn 48 = .ok (.goto 4, 3) := by decide +kernel
theorem dX7_readWorn_51 : decode cX7_readWorn 51 = .ok (.iconst 0, 1) := by decide +kernel
theorem dX7_readWorn_52 : decode cX7_readWorn 52 = .ok (.iconst 2, 1) := by decide +kernel
theorem dX7_readWorn_53 : decode cX7_readWorn 53 = .ok (.invokevirtual 97, 3) := by decide +kernel
theorem dX7_readWorn_56 : decode cX7_readWorn 56 = .ok (.aload_n 0, 1) := by decide +kernel
theorem dX7_readWorn_57 : decode cX7_readWorn 57 = .ok (.getfield 88, 3) := by decide +kernel
theorem dX7_readWorn_60 : decode cX7_readWorn 60 = .ok (.istore_n 1, 1) := by decide +kernel
theorem dX7_readWorn_61 : decode cX7_readWorn 61 = .ok (.aload_n 0, 1) := by decide +kernel
theorem dX7_readWorn_62 : decode cX7_readWorn 62 = .ok (.invokevirtual 101, 3) := by decide +kernel
theorem dX7_readWorn_65 : decode cX7_readWorn 65 = .ok (.iload_n 1, 1) := by decide +kernel
theorem dX7_readWorn_66 : decode cX7_readWorn 66 = .ok (.ireturn, 1) := by decide +kernel
theorem dX7_readSaying_0 : decode cX7_readSaying 0 = .ok (.aload_n 0, 1) := by decide +kernel
theorem dX7_readSaying_1 : decode cX7_readSaying 1 = .ok (.aload_n 0, 1) := by decide +kernel
theorem dX7_readSaying_2 : decode cX7_readSaying 2 = .ok (.getfield 35, 3) := by decide +kernel
theorem dX7_readSaying_5 : decode cX7_readSaying 5 = .ok (.iconst 4, 1) := by decide +kernel
theorem dX7_readSaying_6 : decode cX7_readSaying 6 = .ok (.iaload, 1) := by decide +kernel
theorem dX7_readSaying_7 : decode cX7_readSaying 7 = .ok (.bipush 12, 2) := by decide +kernel
theorem dX7_readSaying_9 : decode cX7_readSaying 9 = .ok (.if_icmp .ge 7, 3) := by decide +kernel
theorem dX7_readSaying_12 : decode cX7_readSaying 12 = .ok (.iconst 1, 1) := by decide +kernel
theorem dX7_readSaying_13 : decode cX7_readSaying 13 = .ok (.goto 4, 3) := by decide +kernel
theorem dX7_readSaying_16 : decode cX7_readSaying 16 = .ok (.iconst 0, 1) := by decide +kernel
theorem dX7_readSaying_17 : decode cX7_readSaying 17 = .ok (.iconst 3, 1) := by decide +kernel
theorem dX7_readSaying_18 : decode cX7_readSaying 18 = .ok (.invokevirtual 97, 3) := by decide +kernel
theorem dX7_readSaying_21 : decode cX7_readSaying 21 = .ok (.aload_n 0, 1) := by decide +kernel
theorem dX7_readSaying_22 : decode cX7_readSaying 22 = .ok (.invokevirtual 101, 3) := by decide +kernel
theorem dX7_readSaying_25 : decode cX7_readSaying 25 = .ok (.aload_n 0, 1) := by decide +kernel
theorem dX7_readSaying_26 : decode cX7_readSaying 26 = .ok (.iconst 0, 1) := by decide +kernel
theorem dX7_readSaying_27 : decode cX7_readSaying 27 = .ok (.aload_n 0, 1) := by decide +kernel
theorem dX7_readSaying_28 : decode cX7_readSaying 28 = .ok (.getfield 35, 3) := by decide +kernel
theorem dX7_readSaying_31 : decode cX7_readSaying 31 = .ok (.iconst 1, 1) := by decide +kernel
theorem dX7_readSaying_32 : decode cX7_readSaying 32 = .ok (.iaload, 1) := by decide +kernel
theorem dX7_readSaying_33 : decode cX7_readSaying 33 = .ok (.iconst 1, 1) := by decide +kernel
theorem dX7_readSaying_34 : decode cX7_readSaying 34 = .ok (.isub, 1) := by decide +kernel
theorem dX7_readSaying_35 : decode cX7_readSaying 35 = .ok (.ldc 41, 2) := by decide +kernel
theorem dX7_readSaying_37 : decode cX7_readSaying 37 = .ok (.invokevirtual 120, 3) := by decide +kernel
theorem dX7_readSaying_40 : decode cX7_readSaying 40 = .ok (.istore_n 1, 1) := by decide +kernel
theorem dX7_readSaying_41 : decode cX7_readSaying 41 = .ok (.aload_n 0, 1) := by decide +kernel
theorem dX7_readSaying_42 : decode cX7_readSaying 42 = .ok (.invokevirtual 131, 3) := by decide +kernel
theorem dX7_readSaying_45 : decode cX7_readSaying 45 = .ok (.istore_n 2, 1) := by decide +kernel
theorem dX7_readSaying_46 : decode cX7_readSaying 46 = .ok (.aload_n 0, 1) := by decide +kernel
theorem dX7_readSaying_47 : decode cX7_readSaying 47 = .ok (.iconst 0, 1) := by decide +kernel
theorem dX7_readSaying_48 : decode cX7_readSaying 48 = .ok (.aload_n 0, 1) := by decide +kernel
theorem dX7_readSaying_49 : decode cX7_readSaying 49 = .ok (.getfield 35, 3) := by decide +kernel
theorem dX7_readSaying_52 : decode cX7_readSaying 52 = .ok (.iconst 2, 1) := by decide +kernel
theorem dX7_readSaying_53 : decode cX7_readSaying 53 = .ok (.iaload, 1) := by decide +kernel
theorem dX7_readSaying_54 : decode cX7_readSaying 54 = .ok (.iconst 1, 1) := by decide +kernel
theorem dX7_readSaying_55 : decode cX7_readSaying 55 = .ok (.isub, 1) := by decide +kernel
theorem dX7_readSaying_56 : decode cX7_readSaying 56 = .ok (.ldc 41, 2) := by decide +kernel
theorem dX7_readSaying_58 : decode cX7_readSaying 58 = .ok (.invokevirtual 120, 3) := by decide +kernel
theorem dX7_readSaying_61 : decode cX7_readSaying 61 = .ok (.istore_n 3, 1) := by decide +kernel
theorem dX7_readSaying_62 : decode cX7_readSaying 62 = .ok (.aload_n 0, 1) := by decide +kernel
theorem dX7_readSaying_63 : decode cX7_readSaying 63 = .ok (.iconst 0, 1) := by decide +kernel
theorem dX7_readSaying_64 : decode cX7_readSaying 64 = .ok (.iconst 1, 1) := by decide +kernel
theorem dX7_readSaying_65 : decode cX7_readSaying 65 = .ok (.ldc 41, 2) := by decide +kernel
theorem dX7_readSaying_67 : decode cX7_readSaying 67 = .ok (.invokevirtual 120, 3) := by decide +kernel
theorem dX7_readSaying_70 : decode cX7_readSaying 70 = .ok (.istore 4, 2) := by decide +kernel
theorem dX7_readSaying_72 : decode cX7_readSaying 72 = .ok (.aload_n 0, 1) := by decide +kernel
theorem dX7_readSaying_73 : decode cX7_readSaying 73 = .ok (.invokevirtual 124, 3) := by decide +kernel
theorem dX7_readSaying_76 : decode cX7_readSaying 76 = .ok (.aload_n 0, 1) := by decide +kernel
theorem dX7_readSaying_77 : decode cX7_readSaying 77 = .ok (.getfield 91, 3) := by decide +kernel
theorem dX7_readSaying_80 : decode cX7_readSaying 80 = .ok (.ifCond .ne 76, 3) := by decide +kernel
theorem dX7_readSaying_83 : decode cX7_readSaying 83 = .ok (.bipush 12, 2) := by decide +kernel
theorem dX7_readSaying_85 : decode cX7_readSaying 85 = .ok (.iconst 4, 1) := by decide +kernel
theorem dX7_readSaying_86 : decode cX7_readSaying 86 = .ok (.aload_n 0, 1) := by decide +kernel
theorem dX7_readSaying_87 : decode cX7_readSaying 87 = .ok (.getfield 35, 3) := by decide +kernel
theorem dX7_readSaying_90 : decode cX7_readSaying 90 = .ok (.iconst 4, 1) := by decide +kernel
theorem dX7_readSaying_91 : decode cX7_readSaying 91 = .ok (.iaload, 1) := by decide +kernel
theorem dX7_readSaying_92 : decode cX7_readSaying 92 = .ok (.imul, 1) := by decide +kernel
theorem dX7_readSaying_93 : decode cX7_readSaying 93 = .ok (.iadd, 1) := by decide +kernel
theorem dX7_readSaying_94 : decode cX7_readSaying 94 = .ok (.istore 5, 2) := by decide +kernel
theorem dX7_readSaying_96 : decode cX7_readSaying 96 = .ok (.aload_n 0, 1) := by decide +kernel
theorem dX7_readSaying_97 : decode cX7_readSaying 97 = .ok (.getfield 35, 3) := by decide +kernel
theorem dX7_readSaying_100 : decode cX7_readSaying 100 = .ok (.iload 5, 2) := by decide +kernel
theorem dX7_readSaying_102 : decode cX7_readSaying 102 = .ok (.iload_n 1, 1) := by decide +kernel
theorem dX7_readSaying_103 : decode cX7_readSaying 103 = .ok (.iastore, 1) := by decide +kernel
theorem dX7_readSaying_104 : decode cX7_readSaying 104 = .ok (.aload_n 0, 1) := by decide +kernel
theorem dX7_readSaying_105 : decode cX7_readSaying 105 = .ok (.getfield 35, 3) := by decide +kernel
theorem dX7_readSaying_108 : decode cX7_readSaying 108 = .ok (.iload 5, 2) := by decide +kernel
theorem dX7_readSaying_110 : decode cX7_readSaying 110 = .ok (.iconst 1, 1) := by decide +kernel
theorem dX7_readSaying_111 : decode cX7_readSaying 111 = .ok (.iadd, 1) := by decide +kernel
theorem dX7_readSaying_112 : decode cX7_readSaying 112 = .ok (.iload_n 2, 1) := by decide +kernel
theorem dX7_readSaying_113 : decode cX7_readSaying 113 = .ok (.bipush 9, 2) := by decide +kernel
theorem dX7_readSaying_115 : decode cX7_readSaying 115 = .ok (.if_icmp .ne 8, 3) := by decide +kernel
theorem dX7_readSaying_118 : decode cX7_readSaying 118 = .ok (.ldc 41, 2) := by decide +kernel
theorem dX7_readSaying_120 : decode cX7_readSaying 120 = .ok (.goto 4, 3) := by decide +kernel
theorem dX7_readSaying_123 : decode cX7_readSaying 123 = .ok (.iload_n 2, 1) := by decide +kernel
theorem dX7_readSaying_124 : decode cX7_readSaying 124 = .ok (.iastore, 1) := by decide +kernel
theorem dX7_readSaying_125 : decode cX7_readSaying 125 = .ok (.aload_n 0, 1) := by decide +kernel
theorem dX7_readSaying_126 : decode cX7_readSaying 126 = .ok (.getfield 35, 3) := by decide +kernel
theorem dX7_readSaying_129 : decode cX7_readSaying 129 = .ok (.iload 5, 2) := by decide +kernel
theorem dX7_readSaying_131 : decode cX7_readSaying 131 = .ok (.iconst 2, 1) := by decide +kernel
theorem dX7_readSaying_132 : decode cX7_readSaying 132 = .ok (.iadd, 1) := by decide +kernel
theorem dX7_readSaying_133 : decode cX7_readSaying 133 = .ok (.iload_n 3, 1) := by decide +kernel
theorem dX7_readSaying_134 : decode cX7_readSaying 134 = .ok (.iastore, 1) := by decide +kernel
theorem dX7_readSaying_135 : decode cX7_readSaying 135 = .ok (.aload_n 0, 1) := by decide +kernel
theorem dX7_readSaying_136 : decode cX7_readSaying 136 = .ok (.getfield 35, 3) := by decide +kernel
theorem dX7_readSaying_139 : decode cX7_readSaying 139 = .ok (.iload 5, 2) := by decide +kernel
theorem dX7_readSaying_141 : decode cX7_readSaying 141 = .ok (.iconst 3, 1) := by decide +kernel
theorem dX7_readSaying_142 : decode cX7_readSaying 142 = .ok (.iadd, 1) := by decide +kernel
theorem dX7_readSaying_143 : decode cX7_readSaying 143 = .ok (.iload 4, 2) := by decide +kernel
theorem dX7_readSaying_145 : decode cX7_readSaying 145 = .ok (.iastore, 1) := by decide +kernel
theorem dX7_readSaying_146 : decode cX7_readSaying 146 = .ok (.aload_n 0, 1) := by decide +kernel
theorem dX7_readSaying_147 : decode cX7_readSaying 147 = .ok (.getfield 35, 3) := by decide +kernel
theorem dX7_readSaying_150 : decode cX7_readSaying 150 = .ok (.iconst 4, 1) := by decide +kernel
theorem dX7_readSaying_151 : decode cX7_readSaying 151 = .ok (.dup2, 1) := by decide +kernel
theorem dX7_readSaying_152 : decode cX7_readSaying 152 = .ok (.iaload, 1) := by decide +kernel
theorem dX7_readSaying_153 : decode cX7_readSaying 153 = .ok (.iconst 1, 1) := by decide +kernel
theorem dX7_readSaying_154 : decode cX7_readSaying 154 = .ok (.iadd, 1) := by decide +kernel
theorem dX7_readSaying_155 : decode cX7_readSaying 155 = .ok (.iastore, 1) := by decide +kernel
theorem dX7_readSaying_156 : decode cX7_readSaying 156 = .ok (.return_, 1) := by decide +kernel
theorem dX7_valley_0 : decode cX7_valley 0 = .ok (.iconst 0, 1) := by decide +kernel
theorem dX7_valley_1 : decode cX7_valley 1 = .ok (.istore_n 1, 1) := by decide +kernel
theorem dX7_valley_2 : decode cX7_valley 2 = .ok (.iload_n 1, 1) := by decide +kernel
theorem dX7_valley_3 : decode cX7_valley 3 = .ok (.bipush 74, 2) := by decide +kernel
theorem dX7_valley_5 : decode cX7_valley 5 = .ok (.if_icmp .ge 16, 3) := by decide +kernel
theorem dX7_valley_8 : decode cX7_valley 8 = .ok (.aload_n 0, 1) := by decide +kernel
theorem dX7_valley_9 : decode cX7_valley 9 = .ok (.getfield 35, 3) := by decide +kernel
theorem dX7_valley_12 : decode cX7_valley 12 = .ok (.iload_n 1, 1) := by decide +kernel
theorem dX7_valley_13 : decode cX7_valley 13 = .ok (.iconst 0, 1) := by decide +kernel
theorem dX7_valley_14 : decode cX7_valley 14 = .ok (.iastore, 1) := by decide +kernel
theorem dX7_valley_15 : decode cX7_valley 15 = .ok (.iinc 1 1, 3) := by decide +kernel
theorem dX7_valley_18 : decode cX7_valley 18 = .ok (.goto (-16), 3) := by decide +kernel
theorem dX7_valley_21 : decode cX7_valley 21 = .ok (.aload_n 0, 1) := by decide +kernel
theorem dX7_valley_22 : decode cX7_valley 22 = .ok (.iconst 0, 1) := by decide +kernel
theorem dX7_valley_23 : decode cX7_valley 23 = .ok (.putfield 72, 3) := by decide +kernel
theorem dX7_valley_26 : decode cX7_valley 26 = .ok (.aload_n 0, 1) := by decide +kernel
theorem dX7_valley_27 : decode cX7_valley 27 = .ok (.iconst 0, 1) := by decide +kernel
theorem dX7_valley_28 : decode cX7_valley 28 = .ok (.putfield 91, 3) := by decide +kernel
theorem dX7_valley_31 : decode cX7_valley 31 = .ok (.aload_n 0, 1) := by decide +kernel
theorem dX7_valley_32 : decode cX7_valley 32 = .ok (.invokevirtual 94, 3) := by decide +kernel
theorem dX7_valley_35 : decode cX7_valley 35 = .ok (.aload_n 0, 1) := by decide +kernel
theorem dX7_valley_36 : decode cX7_valley 36 = .ok (.invokevirtual 134, 3) := by decide +kernel
theorem dX7_valley_39 : decode cX7_valley 39 = .ok (.aload_n 0, 1) := by decide +kernel
theorem dX7_valley_40 : decode cX7_valley 40 = .ok (.getfield 91, 3) := by decide +kernel
theorem dX7_valley_43 : decode cX7_valley 43 = .ok (.ifCond .ne 20, 3) := by decide +kernel
theorem dX7_valley_46 : decode cX7_valley 46 = .ok (.aload_n 0, 1) := by decide +kernel
theorem dX7_valley_47 : decode cX7_valley 47 = .ok (.ldc2_w 137, 3) := by decide +kernel
theorem dX7_valley_50 : decode cX7_valley 50 = .ok (.invokevirtual 106, 3) := by decide +kernel
theorem dX7_valley_53 : decode cX7_valley 53 = .ok (.ifCond .eq 10, 3) := by decide +kernel
theorem dX7_valley_56 : decode cX7_valley 56 = .ok (.aload_n 0, 1) := by decide +kernel
theorem dX7_valley_57 : decode cX7_valley 57 = .ok (.invokevirtual 139, 3) := by decide +kernel
theorem dX7_valley_60 : decode cX7_valley 60 = .ok (.goto (-21), 3) := by decide +kernel
theorem dX7_valley_63 : decode cX7_valley 63 = .ok (.aload_n 0, 1) := by decide +kernel
theorem dX7_valley_64 : decode cX7_valley 64 = .ok (.getfield 91, 3) := by decide +kernel
theorem dX7_valley_67 : decode cX7_valley 67 = .ok (.ifCond .ne 20, 3) := by decide +kernel
theorem dX7_valley_70 : decode cX7_valley 70 = .ok (.aload_n 0, 1) := by decide +kernel
theorem dX7_valley_71 : decode cX7_valley 71 = .ok (.ldc2_w 142, 3) := by decide +kernel
theorem dX7_valley_74 : decode cX7_valley 74 = .ok (.invokevirtual 106, 3) := by decide +kernel
theorem dX7_valley_77 : decode cX7_valley 77 = .ok (.ifCond .eq 10, 3) := by decide +kernel
theorem dX7_valley_80 : decode cX7_valley 80 = .ok (.aload_n 0, 1) := by decide +kernel
theorem dX7_valley_81 : decode cX7_valley 81 = .ok (.invokevirtual 144, 3) := by decide +kernel
theorem dX7_valley_84 : decode cX7_valley 84 = .ok (.goto (-21), 3) := by decide +kernel
theorem dX7_valley_87 : decode cX7_valley 87 = .ok (.aload_n 0, 1) := by decide +kernel
theorem dX7_valley_88 : decode cX7_valley 88 = .ok (.aload_n 0, 1) := by decide +kernel
theorem dX7_valley_89 : decode cX7_valley 89 = .ok (.getfield 81, 3) := by decide +kernel
theorem dX7_valley_92 : decode cX7_valley 92 = .ok (.ifCond .ne 7, 3) := by decide +kernel
theorem dX7_valley_95 : decode cX7_valley 95 = .ok (.iconst 1, 1) := by decide +kernel
theorem dX7_valley_96 : decode cX7_valley 96 = .ok (.goto 4, 3) := by decide +kernel
theorem dX7_valley_99 : decode cX7_valley 99 = .ok (.iconst 0, 1) := by decide +kernel
theorem dX7_valley_100 : decode cX7_valley 100 = .ok (.iconst 1, 1) := by decide +kernel
theorem dX7_valley_101 : decode cX7_valley 101 = .ok (.invokevirtual 97, 3) := by decide +kernel
theorem dX7_valley_104 : decode cX7_valley 104 = .ok (.aload_n 0, 1) := by decide +kernel
theorem dX7_valley_105 : decode cX7_valley 105 = .ok (.getfield 78, 3) := by decide +kernel
theorem dX7_valley_108 : decode cX7_valley 108 = .ok (.istore_n 1, 1) := by decide +kernel
theorem dX7_valley_109 : decode cX7_valley 109 = .ok (.aload_n 0, 1) := by decide +kernel
theorem dX7_valley_110 : decode cX7_valley 110 = .ok (.iconst 0, 1) := by decide +kernel
theorem dX7_valley_111 : decode cX7_valley 111 = .ok (.putfield 66, 3) := by decide +kernel
theorem dX7_valley_114 : decode cX7_valley 114 = .ok (.aload_n 0, 1) := by decide +kernel
theorem dX7_valley_115 : decode cX7_valley 115 = .ok (.getfield 91, 3) := by decide +kernel
theorem dX7_valley_118 : decode cX7_valley 118 = .ok (.ifCond .le 16, 3) := by decide +kernel
theorem dX7_valley_121 : decode cX7_valley 121 = .ok (.aload_n 0, 1) := by decide +kernel
theorem dX7_valley_122 : decode cX7_valley 122 = .ok (.aload_n 0, 1) := by decide +kernel
theorem dX7_valley_123 : decode cX7_valley 123 = .ok (.getfield 91, 3) := by decide +kernel
theorem dX7_valley_126 : decode cX7_valley 126 = .ok (.putfield 147, 3) := by decide +kernel
theorem dX7_valley_129 : decode cX7_valley 129 = .ok (.ldc 150, 2) := by decide +kernel
theorem dX7_valley_131 : decode cX7_valley 131 = .ok (.iload_n 1, 1) := by decide +kernel
theorem dX7_valley_132 : decode cX7_valley 132 = .ok (.isub, 1) := by decide +kernel
theorem dX7_valley_133 : decode cX7_valley 133 = .ok (.ireturn, 1) := by decide +kernel
theorem dX7_valley_134 : decode cX7_valley 134 = .ok (.iconst 0, 1) := by decide +kernel
theorem dX7_valley_135 : decode cX7_valley 135 = .ok (.istore_n 2, 1) := by decide +kernel
theorem dX7_valley_136 : decode cX7_valley 136 = .ok (.iload_n 2, 1) := by decide +kernel
theorem dX7_valley_137 : decode cX7_valley 137 = .ok (.bipush 74, 2) := by decide +kernel
theorem dX7_valley_139 : decode cX7_valley 139 = .ok (.if_icmp .ge 21, 3) := by decide +kernel
theorem dX7_valley_142 : decode cX7_valley 142 = .ok (.aload_n 0, 1) := by decide +kernel
theorem dX7_valley_143 : decode cX7_valley 143 = .ok (.getfield 7, 3) := by decide +kernel
theorem dX7_valley_146 : decode cX7_valley 146 = .ok (.iload_n 2, 1) := by decide +kernel
theorem dX7_valley_147 : decode cX7_valley 147 = .ok (.aload_n 0, 1) := by decide +kernel
theorem dX7_valley_148 : decode cX7_valley 148 = .ok (.getfield 35, 3) := by decide +kernel
theorem dX7_valley_151 : decode cX7_valley 151 = .ok (.iload_n 2, 1) := by decide +kernel
theorem dX7_valley_152 : decode cX7_valley 152 = .ok (.iaload, 1) := by decide +kernel
theorem dX7_valley_153 : decode cX7_valley 153 = .ok (.iastore, 1) := by decide +kernel
theorem dX7_valley_154 : decode cX7_valley 154 = .ok (.iinc 2 1, 3) := by decide +kernel
theorem dX7_valley_157 : decode cX7_valley 157 = .ok (.goto (-21), 3) := by decide +kernel
theorem dX7_valley_160 : decode cX7_valley 160 = .ok (.aload_n 0, 1) := by decide +kernel
theorem dX7_valley_161 : decode cX7_valley 161 = .ok (.getfield 7, 3) := by decide +kernel
theorem dX7_valley_164 : decode cX7_valley 164 = .ok (.iconst 0, 1) := by decide +kernel
theorem dX7_valley_165 : decode cX7_valley 165 = .ok (.iconst 1, 1) := by decide +kernel
theorem dX7_valley_166 : decode cX7_valley 166 = .ok (.iastore, 1) := by decide +kernel
theorem dX7_valley_167 : decode cX7_valley 167 = .ok (.aload_n 0, 1) := by decide +kernel
theorem dX7_valley_168 : decode cX7_valley 168 = .ok (.iconst 0, 1) := by decide +kernel
theorem dX7_valley_169 : decode cX7_valley 169 = .ok (.putfield 151, 3) := by decide +kernel
theorem dX7_valley_172 : decode cX7_valley 172 = .ok (.aload_n 0, 1) := by decide +kernel
theorem dX7_valley_173 : decode cX7_valley 173 = .ok (.getfield 7, 3) := by decide +kernel
theorem dX7_valley_176 : decode cX7_valley 176 = .ok (.iconst 3, 1) := by decide +kernel
theorem dX7_valley_177 : decode cX7_valley 177 = .ok (.iaload, 1) := by decide +kernel
theorem dX7_valley_178 : decode cX7_valley 178 = .ok (.ireturn, 1) := by decide +kernel
theorem dX7_fault_0 : decode cX7_fault 0 = .ok (.aload_n 0, 1) := by decide +kernel
theorem dX7_fault_1 : decode cX7_fault 1 = .ok (.getfield 147, 3) := by decide +kernel
theorem dX7_fault_4 : decode cX7_fault 4 = .ok (.ireturn, 1) := by decide +kernel
theorem dX7_isValley_0 : decode cX7_isValley 0 = .ok (.aload_n 0, 1) := by decide +kernel
theorem dX7_isValley_1 : decode cX7_isValley 1 = .ok (.getfield 7, 3) := by decide +kernel
theorem dX7_isValley_4 : decode cX7_isValley 4 = .ok (.iconst 0, 1) := by decide +kernel
theorem dX7_isValley_5 : decode cX7_isValley 5 = .ok (.iaload, 1) := by decide +kernel
theorem dX7_isValley_6 : decode cX7_isValley 6 = .ok (.iconst 1, 1) := by decide +kernel
theorem dX7_isValley_7 : decode cX7_isValley 7 = .ok (.if_icmp .ne 7, 3) := by decide +kernel
theorem dX7_isValley_10 : decode cX7_isValley 10 = .ok (.iconst 1, 1) := by decide +kernel
theorem dX7_isValley_11 : decode cX7_isValley 11 = .ok (.goto 4, 3) := by decide +kernel
theorem dX7_isValley_14 : decode cX7_isValley 14 = .ok (.iconst 0, 1) := by decide +kernel
theorem dX7_isValley_15 : decode cX7_isValley 15 = .ok (.ireturn, 1) := by decide +kernel
theorem dX7_isWool_0 : decode cX7_isWool 0 = .ok (.iload_n 1, 1) := by decide +kernel
theorem dX7_isWool_1 : decode cX7_isWool 1 = .ok (.iconst 0, 1) := by decide +kernel
theorem dX7_isWool_2 : decode cX7_isWool 2 = .ok (.aload_n 0, 1) := by decide +kernel
theorem dX7_isWool_3 : decode cX7_isWool 3 = .ok (.getfield 7, 3) := by decide +kernel
theorem dX7_isWool_6 : decode cX7_isWool 6 = .ok (.iconst 3, 1) := by decide +kernel
theorem dX7_isWool_7 : decode cX7_isWool 7 = .ok (.iaload, 1) := by decide +kernel
theorem dX7_isWool_8 : decode cX7_isWool 8 = .ok (.iconst 1, 1) := by decide +kernel
theorem dX7_isWool_9 : decode cX7_isWool 9 = .ok (.isub, 1) := by decide +kernel
theorem dX7_isWool_10 : decode cX7_isWool 10 = .ok (.invokestatic 47, 3) := by decide +kernel
theorem dX7_isWool_13 : decode cX7_isWool 13 = .ok (.ireturn, 1) := by decide +kernel
theorem dX7_isGone_0 : decode cX7_isGone 0 = .ok (.aload_n 0, 1) := by decide +kernel
theorem dX7_isGone_1 : decode cX7_isGone 1 = .ok (.getfield 7, 3) := by decide +kernel
theorem dX7_isGone_4 : decode cX7_isGone 4 = .ok (.bipush 60, 2) := by decide +kernel
theorem dX7_isGone_6 : decode cX7_isGone 6 = .ok (.iload_n 1, 1) := by decide +kernel
theorem dX7_isGone_7 : decode cX7_isGone 7 = .ok (.iadd, 1) := by decide +kernel
theorem dX7_isGone_8 : decode cX7_isGone 8 = .ok (.iaload, 1) := by decide +kernel
theorem dX7_isGone_9 : decode cX7_isGone 9 = .ok (.ifCond .ne 7, 3) := by decide +kernel
theorem dX7_isGone_12 : decode cX7_isGone 12 = .ok (.iconst 1, 1) := by decide +kernel
theorem dX7_isGone_13 : decode cX7_isGone 13 = .ok (.goto 4, 3) := by decide +kernel
theorem dX7_isGone_16 : decode cX7_isGone 16 = .ok (.iconst 0, 1) := by decide +kernel
theorem dX7_isGone_17 : decode cX7_isGone 17 = .ok (.ireturn, 1) := by decide +kernel
theorem dX7_mayLieBy_0 : decode cX7_mayLieBy 0 = .ok (.aload_n 0, 1) := by decide +kernel
theorem dX7_mayLieBy_1 : decode cX7_mayLieBy 1 = .ok (.getfield 7, 3) := by decide +kernel
theorem dX7_mayLieBy_4 : decode cX7_mayLieBy 4 = .ok (.iconst 5, 1) := by decide +kernel
theorem dX7_mayLieBy_5 : decode cX7_mayLieBy 5 = .ok (.iload_n 2, 1) := by decide +kernel
theorem dX7_mayLieBy_6 : decode cX7_mayLieBy 6 = .ok (.iadd, 1) := by decide +kernel
theorem dX7_mayLieBy_7 : decode cX7_mayLieBy 7 = .ok (.iaload, 1) := by decide +kernel
theorem dX7_mayLieBy_8 : decode cX7_mayLieBy 8 = .ok (.istore 4, 2) := by decide +kernel
theorem dX7_mayLieBy_10 : decode cX7_mayLieBy 10 = .ok (.aload_n 0, 1) := by decide +kernel
theorem dX7_mayLieBy_11 : decode cX7_mayLieBy 11 = .ok (.getfield 7, 3) := by decide +kernel
theorem dX7_mayLieBy_14 : decode cX7_mayLieBy 14 = .ok (.bipush 67, 2) := by decide +kernel
theorem dX7_mayLieBy_16 : decode cX7_mayLieBy 16 = .ok (.iload_n 2, 1) := by decide +kernel
theorem dX7_mayLieBy_17 : decode cX7_mayLieBy 17 = .ok (.iadd, 1) := by decide +kernel
theorem dX7_mayLieBy_18 : decode cX7_mayLieBy 18 = .ok (.iaload, 1) := by decide +kernel
theorem dX7_mayLieBy_19 : decode cX7_mayLieBy 19 = .ok (.iload_n 1, 1) := by decide +kernel
theorem dX7_mayLieBy_20 : decode cX7_mayLieBy 20 = .ok (.invokestatic 154, 3) := by decide +kernel
theorem dX7_mayLieBy_23 : decode cX7_mayLieBy 23 = .ok (.istore 5, 2) := by decide +kernel
theorem dX7_mayLieBy_25 : decode cX7_mayLieBy 25 = .ok (.iload_n 3, 1) := by decide +kernel
theorem dX7_mayLieBy_26 : decode cX7_mayLieBy 26 = .ok (.ifCond .le 30, 3) := by decide +kernel
theorem dX7_mayLieBy_29 : decode cX7_mayLieBy 29 = .ok (.iload 4, 2) := by decide +kernel
theorem dX7_mayLieBy_31 : decode cX7_mayLieBy 31 = .ok (.iconst 5, 1) := by decide +kernel
theorem dX7_mayLieBy_32 : decode cX7_mayLieBy 32 = .ok (.if_icmp .eq 20, 3) := by decide +kernel
theorem dX7_mayLieBy_35 : decode cX7_mayLieBy 35 = .ok (.iload 5, 2) := by decide +kernel
theorem dX7_mayLieBy_37 : decode cX7_mayLieBy 37 = .ok (.ifCond .eq 19, 3) := by decide +kernel
theorem dX7_mayLieBy_40 : decode cX7_mayLieBy 40 = .ok (.iload 4, 2) := by decide +kernel
theorem dX7_mayLieBy_42 : decode cX7_mayLieBy 42 = .ok (.iconst 4, 1) := by decide +kernel
theorem dX7_mayLieBy_43 : decode cX7_mayLieBy 43 = .ok (.if_icmp .ne 9, 3) := by decide +kernel
theorem dX7_mayLieBy_46 : decode cX7_mayLieBy 46 = .ok (.iload_n 3, 1) := by decide +kernel
theorem dX7_mayLieBy_47 : decode cX7_mayLieBy 47 = .ok (.iconst 2, 1) := by decide +kernel
theorem dX7_mayLieBy_48 : decode cX7_mayLieBy 48 = .ok (.irem, 1) := by decide +kernel
theorem dX7_mayLieBy_49 : decode cX7_mayLieBy 49 = .ok (.ifCond .ne 7, 3) := by decide +kernel
theorem dX7_mayLieBy_52 : decode cX7_mayLieBy 52 = .ok (.iconst 1, 1) := by decide +kernel
theorem dX7_mayLieBy_53 : decode cX7_mayLieBy 53 = .ok (.goto 4, 3) := by decide +kernel
theorem dX7_mayLieBy_56 : decode cX7_mayLieBy 56 = .ok (.iconst 0, 1) := by decide +kernel
theorem dX7_mayLieBy_57 : decode cX7_mayLieBy 57 = .ok (.ireturn, 1) := by decide +kernel
theorem dX7_mayLie_0 : decode cX7_mayLie 0 = .ok (.iload_n 2, 1) := by decide +kernel
theorem dX7_mayLie_1 : decode cX7_mayLie 1 = .ok (.ldc 41, 2) := by decide +kernel
theorem dX7_mayLie_3 : decode cX7_mayLie 3 = .ok (.if_icmp .eq 25, 3) := by decide +kernel
theorem dX7_mayLie_6 : decode cX7_mayLie 6 = .ok (.aload_n 0, 1) := by decide +kernel
theorem dX7_mayLie_7 : decode cX7_mayLie 7 = .ok (.iload_n 1, 1) := by decide +kernel
theorem dX7_mayLie_8 : decode cX7_mayLie 8 = .ok (.iload_n 2, 1) := by decide +kernel
theorem dX7_mayLie_9 : decode cX7_mayLie 9 = .ok (.aload_n 0, 1) := by decide +kernel
theorem dX7_mayLie_10 : decode cX7_mayLie 10 = .ok (.getfield 7, 3) := by decide +kernel
theorem dX7_mayLie_13 : decode cX7_mayLie 13 = .ok (.bipush 60, 2) := by decide +kernel
theorem dX7_mayLie_15 : decode cX7_mayLie 15 = .ok (.iload_n 2, 1) := by decide +kernel
theorem dX7_mayLie_16 : decode cX7_mayLie 16 = .ok (.iadd, 1) := by decide +kernel
theorem dX7_mayLie_17 : decode cX7_mayLie 17 = .ok (.iaload, 1) := by decide +kernel
theorem dX7_mayLie_18 : decode cX7_mayLie 18 = .ok (.invokevirtual 158, 3) := by decide +kernel
theorem dX7_mayLie_21 : decode cX7_mayLie 21 = .ok (.ifCond .eq 7, 3) := by decide +kernel
theorem dX7_mayLie_24 : decode cX7_mayLie 24 = .ok (.iconst 1, 1) := by decide +kernel
theorem dX7_mayLie_25 : decode cX7_mayLie 25 = .ok (.goto 4, 3) := by decide +kernel
theorem dX7_mayLie_28 : decode cX7_mayLie 28 = .ok (.iconst 0, 1) := by decide +kernel
theorem dX7_mayLie_29 : decode cX7_mayLie 29 = .ok (.ireturn, 1) := by decide +kernel
theorem dX7_warmOf_0 : decode cX7_warmOf 0 = .ok (.aload_n 0, 1) := by decide +kernel
theorem dX7_warmOf_1 : decode cX7_warmOf 1 = .ok (.getfield 7, 3) := by decide +kernel
theorem dX7_warmOf_4 : decode cX7_warmOf 4 = .ok (.bipush 60, 2) := by decide +kernel
theorem dX7_warmOf_6 : decode cX7_warmOf 6 = .ok (.iload_n 1, 1) := by decide +kernel
theorem dX7_warmOf_7 : decode cX7_warmOf 7 = .ok (.iadd, 1) := by decide +kernel
theorem dX7_warmOf_8 : decode cX7_warmOf 8 = .ok (.iaload, 1) := by decide +kernel
theorem dX7_warmOf_9 : decode cX7_warmOf 9 = .ok (.istore_n 2, 1) := by decide +kernel
theorem dX7_warmOf_10 : decode cX7_warmOf 10 = .ok (.aload_n 0, 1) := by decide +kernel
theorem dX7_warmOf_11 : decode cX7_warmOf 11 = .ok (.getfield 7, 3) := by decide +kernel
theorem dX7_warmOf_14 : decode cX7_warmOf 14 = .ok (.iconst 5, 1) := by decide +kernel
theorem dX7_warmOf_15 : decode cX7_warmOf 15 = .ok (.iload_n 1, 1) := by decide +kernel
theorem dX7_warmOf_16 : decode cX7_warmOf 16 = .ok (.iadd, 1) := by decide +kernel
theorem dX7_warmOf_17 : decode cX7_warmOf 17 = .ok (.iaload, 1) := by decide +kernel
theorem dX7_warmOf_18 : decode cX7_warmOf 18 = .ok (.istore_n 3, 1) := by decide +kernel
theorem dX7_warmOf_19 : decode cX7_warmOf 19 = .ok (.iload_n 2, 1) := by decide +kernel
theorem dX7_warmOf_20 : decode cX7_warmOf 20 = .ok (.ifCond .eq 8, 3) := by decide +kernel
theorem dX7_warmOf_23 : decode cX7_warmOf 23 = .ok (.iload_n 3, 1) := by decide +kernel
theorem dX7_warmOf_24 : decode cX7_warmOf 24 = .ok (.iconst 5, 1) := by decide +kernel
theorem dX7_warmOf_25 : decode cX7_warmOf 25 = .ok (.if_icmp .ne 7, 3) := by decide +kernel
theorem dX7_warmOf_28 : decode cX7_warmOf 28 = .ok (.iconst 0, 1) := by decide +kernel
theorem dX7_warmOf_29 : decode cX7_warmOf 29 = .ok (.goto 26, 3) := by decide +kernel
theorem dX7_warmOf_32 : decode cX7_warmOf 32 = .ok (.iload_n 3, 1) := by decide +kernel
theorem dX7_warmOf_33 : decode cX7_warmOf 33 = .ok (.iconst 2, 1) := by decide +kernel
theorem dX7_warmOf_34 : decode cX7_warmOf 34 = .ok (.if_icmp .ne 9, 3) := by decide +kernel
theorem dX7_warmOf_37 : decode cX7_warmOf 37 = .ok (.iload_n 2, 1) := by decide +kernel
theorem dX7_warmOf_38 : decode cX7_warmOf 38 = .ok (.iconst 2, 1) := by decide +kernel
theorem dX7_warmOf_39 : decode cX7_warmOf 39 = .ok (.idiv, 1) := by decide +kernel
theorem dX7_warmOf_40 : decode cX7_warmOf 40 = .ok (.goto 15, 3) := by decide +kernel
theorem dX7_warmOf_43 : decode cX7_warmOf 43 = .ok (.iload_n 3, 1) := by decide +kernel
theorem dX7_warmOf_44 : decode cX7_warmOf 44 = .ok (.iconst 3, 1) := by decide +kernel
theorem dX7_warmOf_45 : decode cX7_warmOf 45 = .ok (.if_icmp .ne 9, 3) := by decide +kernel
theorem dX7_warmOf_48 : decode cX7_warmOf 48 = .ok (.iload_n 2, 1) := by decide +kernel
theorem dX7_warmOf_49 : decode cX7_warmOf 49 = .ok (.iconst 2, 1) := by decide +kernel
theorem dX7_warmOf_50 : decode cX7_warmOf 50 = .ok (.iadd, 1) := by decide +kernel
theorem dX7_warmOf_51 : decode cX7_warmOf 51 = .ok (.goto 4, 3) := by decide +kernel
theorem dX7_warmOf_54 : decode cX7_warmOf 54 = .ok (.iload_n 2, 1) := by decide +kernel
theorem dX7_warmOf_55 : decode cX7_warmOf 55 = .ok (.ireturn, 1) := by decide +kernel
theorem dX7_remembers_0 : decode cX7_remembers 0 = .ok (.aload_n 0, 1) := by decide +kernel
theorem dX7_remembers_1 : decode cX7_remembers 1 = .ok (.getfield 151, 3) := by decide +kernel
theorem dX7_remembers_4 : decode cX7_remembers 4 = .ok (.bipush 24, 2) := by decide +kernel
theorem dX7_remembers_6 : decode cX7_remembers 6 = .ok (.if_icmp .ne 43, 3) := by decide +kernel
theorem dX7_remembers_9 : decode cX7_remembers 9 = .ok (.iconst 0, 1) := by decide +kernel
theorem dX7_remembers_10 : decode cX7_remembers 10 = .ok (.istore_n 1, 1) := by decide +kernel
theorem dX7_remembers_11 : decode cX7_remembers 11 = .ok (.iload_n 1, 1) := by decide +kernel
theorem dX7_remembers_12 : decode cX7_remembers 12 = .ok (.sipush 322, 3) := by decide +kernel
theorem dX7_remembers_15 : decode cX7_remembers 15 = .ok (.if_icmp .ge 24, 3) := by decide +kernel
theorem dX7_remembers_18 : decode cX7_remembers 18 = .ok (.aload_n 0, 1) := by decide +kernel
theorem dX7_remembers_19 : decode cX7_remembers 19 = .ok (.getfield 20, 3) := by decide +kernel
theorem dX7_remembers_22 : decode cX7_remembers 22 = .ok (.iload_n 1, 1) := by decide +kernel
theorem dX7_remembers_23 : decode cX7_remembers 23 = .ok (.aload_n 0, 1) := by decide +kernel
theorem dX7_remembers_24 : decode cX7_remembers 24 = .ok (.getfield 20, 3) := by decide +kernel
theorem dX7_remembers_27 : decode cX7_remembers 27 = .ok (.iload_n 1, 1) := by decide +kernel
theorem dX7_remembers_28 : decode cX7_remembers 28 = .ok (.bipush 14, 2) := by decide +kernel
theorem dX7_remembers_30 : decode cX7_remembers 30 = .ok (.iadd, 1) := by decide +kernel
theorem dX7_remembers_31 : decode cX7_remembers 31 = .ok (.iaload, 1) := by decide +kernel
theorem dX7_remembers_32 : decode cX7_remembers 32 = .ok (.iastore, 1) := by decide +kernel
theorem dX7_remembers_33 : decode cX7_remembers 33 = .ok (.iinc 1 1, 3) := by decide +kernel
theorem dX7_remembers_36 : decode cX7_remembers 36 = .ok (.goto (-25), 3) := by decide +kernel
theorem dX7_remembers_39 : decode cX7_remembers 39 = .ok (.aload_n 0, 1) := by decide +kernel
theorem dX7_remembers_40 : decode cX7_remembers 40 = .ok (.dup, 1) := by decide +kernel
theorem dX7_remembers_41 : decode cX7_remembers 41 = .ok (.getfield 151, 3) := by decide +kernel
theorem dX7_remembers_44 : decode cX7_remembers 44 = .ok (.iconst 1, 1) := by decide +kernel
theorem dX7_remembers_45 : decode cX7_remembers 45 = .ok (.isub, 1) := by decide +kernel
theorem dX7_remembers_46 : decode cX7_remembers 46 = .ok (.putfield 151, 3) := by decide +kernel
theorem dX7_remembers_49 : decode cX7_remembers 49 = .ok (.iconst 0, 1) := by decide +kernel
theorem dX7_remembers_50 : decode cX7_remembers 50 = .ok (.istore_n 1, 1) := by decide +kernel
theorem dX7_remembers_51 : decode cX7_remembers 51 = .ok (.iload_n 1, 1) := by decide +kernel
theorem dX7_remembers_52 : decode cX7_remembers 52 = .ok (.bipush 14, 2) := by decide +kernel
theorem dX7_remembers_54 : decode cX7_remembers 54 = .ok (.if_icmp .ge 32, 3) := by decide +kernel
theorem dX7_remembers_57 : decode cX7_remembers 57 = .ok (.aload_n 0, 1) := by decide +kernel
theorem dX7_remembers_58 : decode cX7_remembers 58 = .ok (.getfield 20, 3) := by decide +kernel
theorem dX7_remembers_61 : decode cX7_remembers 61 = .ok (.bipush 14, 2) := by decide +kernel
theorem dX7_remembers_63 : decode cX7_remembers 63 = .ok (.aload_n 0, 1) := by decide +kernel
theorem dX7_remembers_64 : decode cX7_remembers 64 = .ok (.getfield 151, 3) := by decide +kernel
theorem dX7_remembers_67 : decode cX7_remembers 67 = .ok (.imul, 1) := by decide +kernel
theorem dX7_remembers_68 : decode cX7_remembers 68 = .ok (.iload_n 1, 1) := by decide +kernel
theorem dX7_remembers_69 : decode cX7_remembers 69 = .ok (.iadd, 1) := by decide +kernel
theorem dX7_remembers_70 : decode cX7_remembers 70 = .ok (.aload_n 0, 1) := by decide +kernel
theorem dX7_remembers_71 : decode cX7_remembers 71 = .ok (.getfield 7, 3) := by decide +kernel
theorem dX7_remembers_74 : decode cX7_remembers 74 = .ok (.bipush 60, 2) := by decide +kernel
theorem dX7_remembers_76 : decode cX7_remembers 76 = .ok (.iload_n 1, 1) := by decide +kernel
theorem dX7_remembers_77 : decode cX7_remembers 77 = .ok (.iadd, 1) := by decide +kernel
theorem dX7_remembers_78 : decode cX7_remembers 78 = .ok (.iaload, 1) := by decide +kernel
theorem dX7_remembers_79 : decode cX7_remembers 79 = .ok (.iastore, 1) := by decide +kernel
theorem dX7_remembers_80 : decode cX7_remembers 80 = .ok (.iinc 1 1, 3) := by decide +kernel
theorem dX7_remembers_83 : decode cX7_remembers 83 = .ok (.goto (-32), 3) := by decide +kernel
theorem dX7_remembers_86 : decode cX7_remembers 86 = .ok (.aload_n 0, 1) := by decide +kernel
theorem dX7_remembers_87 : decode cX7_remembers 87 = .ok (.dup, 1) := by decide +kernel
theorem dX7_remembers_88 : decode cX7_remembers 88 = .ok (.getfield 151, 3) := by decide +kernel
theorem dX7_remembers_91 : decode cX7_remembers 91 = .ok (.iconst 1, 1) := by decide +kernel
theorem dX7_remembers_92 : decode cX7_remembers 92 = .ok (.iadd, 1) := by decide +kernel
theorem dX7_remembers_93 : decode cX7_remembers 93 = .ok (.putfield 151, 3) := by decide +kernel
theorem dX7_remembers_96 : decode cX7_remembers 96 = .ok (.return_, 1) := by decide +kernel
theorem dX7_knit_0 : decode cX7_knit 0 = .ok (.aload_n 0, 1) := by decide +kernel
theorem dX7_knit_1 : decode cX7_knit 1 = .ok (.iload_n 1, 1) := by decide +kernel
theorem dX7_knit_2 : decode cX7_knit 2 = .ok (.invokevirtual 161, 3) := by decide +kernel
theorem dX7_knit_5 : decode cX7_knit 5 = .ok (.ifCond .eq 13, 3) := by decide +kernel
theorem dX7_knit_8 : decode cX7_knit 8 = .ok (.iload_n 2, 1) := by decide +kernel
theorem dX7_knit_9 : decode cX7_knit 9 = .ok (.iconst 1, 1) := by decide +kernel
theorem dX7_knit_10 : decode cX7_knit 10 = .ok (.bipush 30, 2) := by decide +kernel
theorem dX7_knit_12 : decode cX7_knit 12 = .ok (.invokestatic 47, 3) := by decide +kernel
theorem dX7_knit_15 : decode cX7_knit 15 = .ok (.ifCond .ne 6, 3) := by decide +kernel
theorem dX7_knit_18 : decode cX7_knit 18 = .ok (.ldc 55, 2) := by decide +kernel
theorem dX7_knit_20 : decode cX7_knit 20 = .ok (.ireturn, 1) := by decide +kernel
theorem dX7_knit_21 : decode cX7_knit 21 = .ok (.aload_n 0, 1) := by decide +kernel
theorem dX7_knit_22 : decode cX7_knit 22 = .ok (.iload_n 1, 1) := by decide +kernel
theorem dX7_knit_23 : decode cX7_knit 23 = .ok (.invokevirtual 164, 3) := by decide +kernel
theorem dX7_knit_26 : decode cX7_knit 26 = .ok (.ifCond .eq 6, 3) := by decide +kernel
theorem dX7_knit_29 : decode cX7_knit 29 = .ok (.ldc 167, 2) := by decide +kernel
theorem dX7_knit_31 : decode cX7_knit 31 = .ok (.ireturn, 1) := by decide +kernel
theorem dX7_knit_32 : decode cX7_knit 32 = .ok (.aload_n 0, 1) := by decide +kernel
theorem dX7_knit_33 : decode cX7_knit 33 = .ok (.getfield 7, 3) := by decide +kernel
theorem dX7_knit_36 : decode cX7_knit 36 = .ok (.bipush 60, 2) := by decide +kernel
theorem dX7_knit_38 : decode cX7_knit 38 = .ok (.iload_n 1, 1) := by decide +kernel
theorem dX7_knit_39 : decode cX7_knit 39 = .ok (.iadd, 1) := by decide +kernel
theorem dX7_knit_40 : decode cX7_knit 40 = .ok (.iaload, 1) := by decide +kernel
theorem dX7_knit_41 : decode cX7_knit 41 = .ok (.iload_n 2, 1) := by decide +kernel
theorem dX7_knit_42 : decode cX7_knit 42 = .ok (.iadd, 1) := by decide +kernel
theorem dX7_knit_43 : decode cX7_knit 43 = .ok (.bipush 99, 2) := by decide +kernel
theorem dX7_knit_45 : decode cX7_knit 45 = .ok (.if_icmp .le 6, 3) := by decide +kernel
theorem dX7_knit_48 : decode cX7_knit 48 = .ok (.ldc 69, 2) := by decide +kernel
theorem dX7_knit_50 : decode cX7_knit 50 = .ok (.ireturn, 1) := by decide +kernel
theorem dX7_knit_51 : decode cX7_knit 51 = .ok (.aload_n 0, 1) := by decide +kernel
theorem dX7_knit_52 : decode cX7_knit 52 = .ok (.invokevirtual 168, 3) := by decide +kernel
theorem dX7_knit_55 : decode cX7_knit 55 = .ok (.aload_n 0, 1) := by decide +kernel
theorem dX7_knit_56 : decode cX7_knit 56 = .ok (.getfield 7, 3) := by decide +kernel
theorem dX7_knit_59 : decode cX7_knit 59 = .ok (.bipush 60, 2) := by decide +kernel
theorem dX7_knit_61 : decode cX7_knit 61 = .ok (.iload_n 1, 1) := by decide +kernel
theorem dX7_knit_62 : decode cX7_knit 62 = .ok (.iadd, 1) := by decide +kernel
theorem dX7_knit_63 : decode cX7_knit 63 = .ok (.dup2, 1) := by decide +kernel
theorem dX7_knit_64 : decode cX7_knit 64 = .ok (.iaload, 1) := by decide +kernel
theorem dX7_knit_65 : decode cX7_knit 65 = .ok (.iload_n 2, 1) := by decide +kernel
theorem dX7_knit_66 : decode cX7_knit 66 = .ok (.iadd, 1) := by decide +kernel
theorem dX7_knit_67 : decode cX7_knit 67 = .ok (.iastore, 1) := by decide +kernel
theorem dX7_knit_68 : decode cX7_knit 68 = .ok (.aload_n 0, 1) := by decide +kernel
theorem dX7_knit_69 : decode cX7_knit 69 = .ok (.getfield 7, 3) := by decide +kernel
theorem dX7_knit_72 : decode cX7_knit 72 = .ok (.bipush 60, 2) := by decide +kernel
theorem dX7_knit_74 : decode cX7_knit 74 = .ok (.iload_n 1, 1) := by decide +kernel
theorem dX7_knit_75 : decode cX7_knit 75 = .ok (.iadd, 1) := by decide +kernel
theorem dX7_knit_76 : decode cX7_knit 76 = .ok (.iaload, 1) := by decide +kernel
theorem dX7_knit_77 : decode cX7_knit 77 = .ok (.ireturn, 1) := by decide +kernel
theorem dX7_unpick_0 : decode cX7_unpick 0 = .ok (.aload_n 0, 1) := by decide +kernel
theorem dX7_unpick_1 : decode cX7_unpick 1 = .ok (.iload_n 1, 1) := by decide +kernel
theorem dX7_unpick_2 : decode cX7_unpick 2 = .ok (.invokevirtual 161, 3) := by decide +kernel
theorem dX7_unpick_5 : decode cX7_unpick 5 = .ok (.ifCond .eq 13, 3) := by decide +kernel
theorem dX7_unpick_8 : decode cX7_unpick 8 = .ok (.iload_n 2, 1) := by decide +kernel
theorem dX7_unpick_9 : decode cX7_unpick 9 = .ok (.iconst 1, 1) := by decide +kernel
theorem dX7_unpick_10 : decode cX7_unpick 10 = .ok (.bipush 99, 2) := by decide +kernel
theorem dX7_unpick_12 : decode cX7_unpick 12 = .ok (.invokestatic 47, 3) := by decide +kernel
theorem dX7_unpick_15 : decode cX7_unpick 15 = .ok (.ifCond .ne 6, 3) := by decide +kernel
theorem dX7_unpick_18 : decode cX7_unpick 18 = .ok (.ldc 55, 2) := by decide +kernel
theorem dX7_unpick_20 : decode cX7_unpick 20 = .ok (.ireturn, 1) := by decide +kernel
theorem dX7_unpick_21 : decode cX7_unpick 21 = .ok (.aload_n 0, 1) := by decide +kernel
theorem dX7_unpick_22 : decode cX7_unpick 22 = .ok (.iload_n 1, 1) := by decide +kernel
theorem dX7_unpick_23 : decode cX7_unpick 23 = .ok (.invokevirtual 164, 3) := by decide +kernel
theorem dX7_unpick_26 : decode cX7_unpick 26 = .ok (.ifCond .eq 6, 3) := by decide +kernel
theorem dX7_unpick_29 : decode cX7_unpick 29 = .ok (.ldc 167, 2) := by decide +kernel
theorem dX7_unpick_31 : decode cX7_unpick 31 = .ok (.ireturn, 1) := by decide +kernel
theorem dX7_unpick_32 : decode cX7_unpick 32 = .ok (.aload_n 0, 1) := by decide +kernel
theorem dX7_unpick_33 : decode cX7_unpick 33 = .ok (.invokevirtual 168, 3) := by decide +kernel
theorem dX7_unpick_36 : decode cX7_unpick 36 = .ok (.iload_n 2, 1) := by decide +kernel
theorem dX7_unpick_37 : decode cX7_unpick 37 = .ok (.aload_n 0, 1) := by decide +kernel
theorem dX7_unpick_38 : decode cX7_unpick 38 = .ok (.getfield 7, 3) := by decide +kernel
theorem dX7_unpick_41 : decode cX7_unpick 41 = .ok (.bipush 60, 2) := by decide +kernel
theorem dX7_unpick_43 : decode cX7_unpick 43 = .ok (.iload_n 1, 1) := by decide +kernel
theorem dX7_unpick_44 : decode cX7_unpick 44 = .ok (.iadd, 1) := by decide +kernel
theorem dX7_unpick_45 : decode cX7_unpick 45 = .ok (.iaload, 1) := by decide +kernel
theorem dX7_unpick_46 : decode cX7_unpick 46 = .ok (.if_icmp .ge 7, 3) := by decide +kernel
theorem dX7_unpick_49 : decode cX7_unpick 49 = .ok (.iload_n 2, 1) := by decide +kernel
theorem dX7_unpick_50 : decode cX7_unpick 50 = .ok (.goto 12, 3) := by decide +kernel
theorem dX7_unpick_53 : decode cX7_unpick 53 = .ok (.aload_n 0, 1) := by decide +kernel
theorem dX7_unpick_54 : decode cX7_unpick 54 = .ok (.getfield 7, 3) := by decide +kernel
theorem dX7_unpick_57 : decode cX7_unpick 57 = .ok (.bipush 60, 2) := by decide +kernel
theorem dX7_unpick_59 : decode cX7_unpick 59 = .ok (.iload_n 1, 1) := by decide +kernel
theorem dX7_unpick_60 : decode cX7_unpick 60 = .ok (.iadd, 1) := by decide +kernel
theorem dX7_unpick_61 : decode cX7_unpick 61 = .ok (.iaload, 1) := by decide +kernel
theorem dX7_unpick_62 : decode cX7_unpick 62 = .ok (.istore_n 3, 1) := by decide +kernel
theorem dX7_unpick_63 : decode cX7_unpick 63 = .ok (.aload_n 0, 1) := by decide +kernel
theorem dX7_unpick_64 : decode cX7_unpick 64 = .ok (.getfield 7, 3) := by decide +kernel
theorem dX7_unpick_67 : decode cX7_unpick 67 = .ok (.bipush 60, 2) := by decide +kernel
theorem dX7_unpick_69 : decode cX7_unpick 69 = .ok (.iload_n 1, 1) := by decide +kernel
theorem dX7_unpick_70 : decode cX7_unpick 70 = .ok (.iadd, 1) := by decide +kernel
theorem dX7_unpick_71 : decode cX7_unpick 71 = .ok (.dup2, 1) := by decide +kernel
theorem dX7_unpick_72 : decode cX7_unpick 72 = .ok (.iaload, 1) := by decide +kernel
theorem dX7_unpick_73 : decode cX7_unpick 73 = .ok (.iload_n 3, 1) := by decide +kernel
theorem dX7_unpick_74 : decode cX7_unpick 74 = .ok (.isub, 1) := by decide +kernel
theorem dX7_unpick_75 : decode cX7_unpick 75 = .ok (.iastore, 1) := by decide +kernel
theorem dX7_unpick_76 : decode cX7_unpick 76 = .ok (.iload_n 3, 1) := by decide +kernel
theorem dX7_unpick_77 : decode cX7_unpick 77 = .ok (.ireturn, 1) := by decide +kernel
theorem dX7_moths_0 : decode cX7_moths 0 = .ok (.aload_n 0, 1) := by decide +kernel
theorem dX7_moths_1 : decode cX7_moths 1 = .ok (.invokevirtual 171, 3) := by decide +kernel
theorem dX7_moths_4 : decode cX7_moths 4 = .ok (.ifCond .ne 6, 3) := by decide +kernel
theorem dX7_moths_7 : decode cX7_moths 7 = .ok (.ldc 167, 2) := by decide +kernel
theorem dX7_moths_9 : decode cX7_moths 9 = .ok (.ireturn, 1) := by decide +kernel
theorem dX7_moths_10 : decode cX7_moths 10 = .ok (.iload_n 1, 1) := by decide +kernel
theorem dX7_moths_11 : decode cX7_moths 11 = .ok (.iconst 1, 1) := by decide +kernel
theorem dX7_moths_12 : decode cX7_moths 12 = .ok (.ldc 175, 2) := by decide +kernel
theorem dX7_moths_14 : decode cX7_moths 14 = .ok (.invokestatic 47, 3) := by decide +kernel
theorem dX7_moths_17 : decode cX7_moths 17 = .ok (.ifCond .ne 6, 3) := by decide +kernel
theorem dX7_moths_20 : decode cX7_moths 20 = .ok (.ldc 55, 2) := by decide +kernel
theorem dX7_moths_22 : decode cX7_moths 22 = .ok (.ireturn, 1) := by decide +kernel
theorem dX7_moths_23 : decode cX7_moths 23 = .ok (.aload_n 0, 1) := by decide +kernel
theorem dX7_moths_24 : decode cX7_moths 24 = .ok (.invokevirtual 168, 3) := by decide +kernel
theorem dX7_moths_27 : decode cX7_moths 27 = .ok (.iload_n 1, 1) := by decide +kernel
theorem dX7_moths_28 : decode cX7_moths 28 = .ok (.i2l, 1) := by decide +kernel
theorem dX7_moths_29 : decode cX7_moths 29 = .ok (.lstore_n 2, 1) := by decide +kernel
theorem dX7_moths_30 : decode cX7_moths 30 = .ok (.iconst 0, 1) := by decide +kernel
theorem dX7_moths_31 : decode cX7_moths 31 = .ok (.istore 4, 2) := by decide +kernel
theorem dX7_moths_33 : decode cX7_moths 33 = .ok (.iconst 0, 1) := by decide +kernel
theorem dX7_moths_34 : decode cX7_moths 34 = .ok (.istore 5, 2) := by decide +kernel
theorem dX7_moths_36 : decode cX7_moths 36 = .ok (.iload 5, 2) := by decide +kernel
theorem dX7_moths_38 : decode cX7_moths 38 = .ok (.aload_n 0, 1) := by decide +kernel
theorem dX7_moths_39 : decode cX7_moths 39 = .ok (.getfield 7, 3) := by decide +kernel
theorem dX7_moths_42 : decode cX7_moths 42 = .ok (.iconst 3, 1) := by decide +kernel
theorem dX7_moths_43 : decode cX7_moths 43 = .ok (.iaload, 1) := by decide +kernel
theorem dX7_moths_44 : decode cX7_moths 44 = .ok (.if_icmp .ge 90, 3) := by decide +kernel
theorem dX7_moths_47 : decode cX7_moths 47 = .ok (.aload_n 0, 1) := by decide +kernel
theorem dX7_moths_48 : decode cX7_moths 48 = .ok (.iload 5, 2) := by decide +kernel
theorem dX7_moths_50 : decode cX7_moths 50 = .ok (.invokevirtual 164, 3) := by decide +kernel
theorem dX7_moths_53 : decode cX7_moths 53 = .ok (.ifCond .ne 75, 3) := by decide +kernel
theorem dX7_moths_56 : decode cX7_moths 56 = .ok (.lload_n 2, 1) := by decide +kernel
theorem dX7_moths_57 : decode cX7_moths 57 = .ok (.ldc2_w 176, 3) := by decide +kernel
theorem dX7_moths_60 : decode cX7_moths 60 = .ok (.lmul, 1) := by decide +kernel
theorem dX7_moths_61 : decode cX7_moths 61 = .ok (.ldc2_w 178, 3) := by decide +kernel
theorem dX7_moths_64 : decode cX7_moths 64 = .ok (.lrem, 1) := by decide +kernel
theorem dX7_moths_65 : decode cX7_moths 65 = .ok (.lstore_n 2, 1) := by decide +kernel
theorem dX7_moths_66 : decode cX7_moths 66 = .ok (.lload_n 2, 1) := by decide +kernel
theorem dX7_moths_67 : decode cX7_moths 67 = .ok (.ldc2_w 180, 3) := by decide +kernel
theorem dX7_moths_70 : decode cX7_moths 70 = .ok (.lrem, 1) := by decide +kernel
theorem dX7_moths_71 : decode cX7_moths 71 = .ok (.l2i, 1) := by decide +kernel
theorem dX7_moths_72 : decode cX7_moths 72 = .ok (.istore 6, 2) := by decide +kernel
theorem dX7_moths_74 : decode cX7_moths 74 = .ok (.iload 6, 2) := by decide +kernel
theorem dX7_moths_76 : decode cX7_moths 76 = .ok (.aload_n 0, 1) := by decide +kernel
theorem dX7_moths_77 : decode cX7_moths 77 = .ok (.getfield 7, 3) := by decide +kernel
theorem dX7_moths_80 : decode cX7_moths 80 = .ok (.bipush 60, 2) := by decide +kernel
theorem dX7_moths_82 : decode cX7_moths 82 = .ok (.iload 5, 2) := by decide +kernel
theorem dX7_moths_84 : decode cX7_moths 84 = .ok (.iadd, 1) := by decide +kernel
theorem dX7_moths_85 : decode cX7_moths 85 = .ok (.iaload, 1) := by decide +kernel
theorem dX7_moths_86 : decode cX7_moths 86 = .ok (.if_icmp .ge 8, 3) := by decide +kernel
theorem dX7_moths_89 : decode cX7_moths 89 = .ok (.iload 6, 2) := by decide +kernel
theorem dX7_moths_91 : decode cX7_moths 91 = .ok (.goto 13, 3) := by decide +kernel
theorem dX7_moths_94 : decode cX7_moths 94 = .ok (.aload_n 0, 1) := by decide +kernel
theorem dX7_moths_95 : decode cX7_moths 95 = .ok (.getfield 7, 3) := by decide +kernel
theorem dX7_moths_98 : decode cX7_moths 98 = .ok (.bipush 60, 2) := by decide +kernel
theorem dX7_moths_100 : decode cX7_moths 100 = .ok (.iload 5, 2) := by decide +kernel
theorem dX7_moths_102 : decode cX7_moths 102 = .ok (.iadd, 1) := by decide +kernel
theorem dX7_moths_103 : decode cX7_moths 103 = .ok (.iaload, 1) := by decide +kernel
theorem dX7_moths_104 : decode cX7_moths 104 = .ok (.istore 7, 2) := by decide +kernel
theorem dX7_moths_106 : decode cX7_moths 106 = .ok (.aload_n 0, 1) := by decide +kernel
theorem dX7_moths_107 : decode cX7_moths 107 = .ok (.getfield 7, 3) := by decide +kernel
theorem dX7_moths_110 : decode cX7_moths 110 = .ok (.bipush 60, 2) := by decide +kernel
theorem dX7_moths_112 : decode cX7_moths 112 = .ok (.iload 5, 2) := by decide +kernel
theorem dX7_moths_114 : decode cX7_moths 114 = .ok (.iadd, 1) := by decide +kernel
theorem dX7_moths_115 : decode cX7_moths 115 = .ok (.dup2, 1) := by decide +kernel
theorem dX7_moths_116 : decode cX7_moths 116 = .ok (.iaload, 1) := by decide +kernel
theorem dX7_moths_117 : decode cX7_moths 117 = .ok (.iload 7, 2) := by decide +kernel
theorem dX7_moths_119 : decode cX7_moths 119 = .ok (.isub, 1) := by decide +kernel
theorem dX7_moths_120 : decode cX7_moths 120 = .ok (.iastore, 1) := by decide +kernel
theorem dX7_moths_121 : decode cX7_moths 121 = .ok (.iload 4, 2) := by decide +kernel
theorem dX7_moths_123 : decode cX7_moths 123 = .ok (.iload 7, 2) := by decide +kernel
theorem dX7_moths_125 : decode cX7_moths 125 = .ok (.iadd, 1) := by decide +kernel
theorem dX7_moths_126 : decode cX7_moths 126 = .ok (.istore 4, 2) := by decide +kernel
theorem dX7_moths_128 : decode cX7_moths 128 = .ok (.iinc 5 1, 3) := by decide +kernel
theorem dX7_moths_131 : decode cX7_moths 131 = .ok (.goto (-95), 3) := by decide +kernel
theorem dX7_moths_134 : decode cX7_moths 134 = .ok (.iload 4, 2) := by decide +kernel
theorem dX7_moths_136 : decode cX7_moths 136 = .ok (.ireturn, 1) := by decide +kernel
theorem dX7_join_0 : decode cX7_join 0 = .ok (.aload_n 0, 1) := by decide +kernel
theorem dX7_join_1 : decode cX7_join 1 = .ok (.iload_n 1, 1) := by decide +kernel
theorem dX7_join_2 : decode cX7_join 2 = .ok (.invokevirtual 161, 3) := by decide +kernel
theorem dX7_join_5 : decode cX7_join 5 = .ok (.ifCond .eq 16, 3) := by decide +kernel
theorem dX7_join_8 : decode cX7_join 8 = .ok (.aload_n 0, 1) := by decide +kernel
theorem dX7_join_9 : decode cX7_join 9 = .ok (.iload_n 2, 1) := by decide +kernel
theorem dX7_join_10 : decode cX7_join 10 = .ok (.invokevirtual 161, 3) := by decide +kernel
theorem dX7_join_13 : decode cX7_join 13 = .ok (.ifCond .eq 8, 3) := by decide +kernel
theorem dX7_join_16 : decode cX7_join 16 = .ok (.iload_n 1, 1) := by decide +kernel
theorem dX7_join_17 : decode cX7_join 17 = .ok (.iload_n 2, 1) := by decide +kernel
theorem dX7_join_18 : decode cX7_join 18 = .ok (.if_icmp .ne 6, 3) := by decide +kernel
theorem dX7_join_21 : decode cX7_join 21 = .ok (.ldc 55, 2) := by decide +kernel
theorem dX7_join_23 : decode cX7_join 23 = .ok (.ireturn, 1) := by decide +kernel
theorem dX7_join_24 : decode cX7_join 24 = .ok (.aload_n 0, 1) := by decide +kernel
theorem dX7_join_25 : decode cX7_join 25 = .ok (.iload_n 1, 1) := by decide +kernel
theorem dX7_join_26 : decode cX7_join 26 = .ok (.invokevirtual 164, 3) := by decide +kernel
theorem dX7_join_29 : decode cX7_join 29 = .ok (.ifCond .ne 11, 3) := by decide +kernel
theorem dX7_join_32 : decode cX7_join 32 = .ok (.aload_n 0, 1) := by decide +kernel
theorem dX7_join_33 : decode cX7_join 33 = .ok (.iload_n 2, 1) := by decide +kernel
theorem dX7_join_34 : decode cX7_join 34 = .ok (.invokevirtual 164, 3) := by decide +kernel
theorem dX7_join_37 : decode cX7_join 37 = .ok (.ifCond .eq 6, 3) := by decide +kernel
theorem dX7_join_40 : decode cX7_join 40 = .ok (.ldc 167, 2) := by decide +kernel
theorem dX7_join_42 : decode cX7_join 42 = .ok (.ireturn, 1) := by decide +kernel
theorem dX7_join_43 : decode cX7_join 43 = .ok (.aload_n 0, 1) := by decide +kernel
theorem dX7_join_44 : decode cX7_join 44 = .ok (.getfield 7, 3) := by decide +kernel
theorem dX7_join_47 : decode cX7_join 47 = .ok (.bipush 60, 2) := by decide +kernel
theorem dX7_join_49 : decode cX7_join 49 = .ok (.iload_n 1, 1) := by decide +kernel
theorem dX7_join_50 : decode cX7_join 50 = .ok (.iadd, 1) := by decide +kernel
theorem dX7_join_51 : decode cX7_join 51 = .ok (.iaload, 1) := by decide +kernel
theorem dX7_join_52 : decode cX7_join 52 = .ok (.aload_n 0, 1) := by decide +kernel
theorem dX7_join_53 : decode cX7_join 53 = .ok (.getfield 7, 3) := by decide +kernel
theorem dX7_join_56 : decode cX7_join 56 = .ok (.bipush 60, 2) := by decide +kernel
theorem dX7_join_58 : decode cX7_join 58 = .ok (.iload_n 2, 1) := by decide +kernel
theorem dX7_join_59 : decode cX7_join 59 = .ok (.iadd, 1) := by decide +kernel
theorem dX7_join_60 : decode cX7_join 60 = .ok (.iaload, 1) := by decide +kernel
theorem dX7_join_61 : decode cX7_join 61 = .ok (.iadd, 1) := by decide +kernel
theorem dX7_join_62 : decode cX7_join 62 = .ok (.bipush 99, 2) := by decide +kernel
theorem dX7_join_64 : decode cX7_join 64 = .ok (.if_icmp .le 6, 3) := by decide +kernel
theorem dX7_join_67 : decode cX7_join 67 = .ok (.ldc 69, 2) := by decide +kernel
theorem dX7_join_69 : decode cX7_join 69 = .ok (.ireturn, 1) := by decide +kernel
theorem dX7_join_70 : decode cX7_join 70 = .ok (.aload_n 0, 1) := by decide +kernel
theorem dX7_join_71 : decode cX7_join 71 = .ok (.invokevirtual 168, 3) := by decide +kernel
theorem dX7_join_74 : decode cX7_join 74 = .ok (.aload_n 0, 1) := by decide +kernel
theorem dX7_join_75 : decode cX7_join 75 = .ok (.getfield 7, 3) := by decide +kernel
theorem dX7_join_78 : decode cX7_join 78 = .ok (.bipush 60, 2) := by decide +kernel
theorem dX7_join_80 : decode cX7_join 80 = .ok (.iload_n 1, 1) := by decide +kernel
theorem dX7_join_81 : decode cX7_join 81 = .ok (.iadd, 1) := by decide +kernel
theorem dX7_join_82 : decode cX7_join 82 = .ok (.dup2, 1) := by decide +kernel
theorem dX7_join_83 : decode cX7_join 83 = .ok (.iaload, 1) := by decide +kernel
theorem dX7_join_84 : decode cX7_join 84 = .ok (.aload_n 0, 1) := by decide +kernel
theorem dX7_join_85 : decode cX7_join 85 = .ok (.getfield 7, 3) := by decide +kernel
theorem dX7_join_88 : decode cX7_join 88 = .ok (.bipush 60, 2) := by decide +kernel
theorem dX7_join_90 : decode cX7_join 90 = .ok (.iload_n 2, 1) := by decide +kernel
theorem dX7_join_91 : decode cX7_join 91 = .ok (.iadd, 1) := by decide +kernel
theorem dX7_join_92 : decode cX7_join 92 = .ok (.iaload, 1) := by decide +kernel
theorem dX7_join_93 : decode cX7_join 93 = .ok (.iadd, 1) := by decide +kernel
theorem dX7_join_94 : decode cX7_join 94 = .ok (.iastore, 1) := by decide +kernel
theorem dX7_join_95 : decode cX7_join 95 = .ok (.aload_n 0, 1) := by decide +kernel
theorem dX7_join_96 : decode cX7_join 96 = .ok (.getfield 7, 3) := by decide +kernel
theorem dX7_join_99 : decode cX7_join 99 = .ok (.bipush 67, 2) := by decide +kernel
theorem dX7_join_101 : decode cX7_join 101 = .ok (.iload_n 1, 1) := by decide +kernel
theorem dX7_join_102 : decode cX7_join 102 = .ok (.iadd, 1) := by decide +kernel
theorem dX7_join_103 : decode cX7_join 103 = .ok (.dup2, 1) := by decide +kernel
theorem dX7_join_104 : decode cX7_join 104 = .ok (.iaload, 1) := by decide +kernel
theorem dX7_join_105 : decode cX7_join 105 = .ok (.aload_n 0, 1) := by decide +kernel
theorem dX7_join_106 : decode cX7_join 106 = .ok (.getfield 7, 3) := by decide +kernel
theorem dX7_join_109 : decode cX7_join 109 = .ok (.bipush 67, 2) := by decide +kernel
theorem dX7_join_111 : decode cX7_join 111 = .ok (.iload_n 2, 1) := by decide +kernel
theorem dX7_join_112 : decode cX7_join 112 = .ok (.iadd, 1) := by decide +kernel
theorem dX7_join_113 : decode cX7_join 113 = .ok (.iaload, 1) := by decide +kernel
theorem dX7_join_114 : decode cX7_join 114 = .ok (.ior, 1) := by decide +kernel
theorem dX7_join_115 : decode cX7_join 115 = .ok (.iastore, 1) := by decide +kernel
theorem dX7_join_116 : decode cX7_join 116 = .ok (.aload_n 0, 1) := by decide +kernel
theorem dX7_join_117 : decode cX7_join 117 = .ok (.getfield 7, 3) := by decide +kernel
theorem dX7_join_120 : decode cX7_join 120 = .ok (.bipush 60, 2) := by decide +kernel
theorem dX7_join_122 : decode cX7_join 122 = .ok (.iload_n 2, 1) := by decide +kernel
theorem dX7_join_123 : decode cX7_join 123 = .ok (.iadd, 1) := by decide +kernel
theorem dX7_join_124 : decode cX7_join 124 = .ok (.iconst 0, 1) := by decide +kernel
theorem dX7_join_125 : decode cX7_join 125 = .ok (.iastore, 1) := by decide +kernel
theorem dX7_join_126 : decode cX7_join 126 = .ok (.aload_n 0, 1) := by decide +kernel
theorem dX7_join_127 : decode cX7_join 127 = .ok (.getfield 7, 3) := by decide +kernel
theorem dX7_join_130 : decode cX7_join 130 = .ok (.bipush 60, 2) := by decide +kernel
theorem dX7_join_132 : decode cX7_join 132 = .ok (.iload_n 1, 1) := by decide +kernel
theorem dX7_join_133 : decode cX7_join 133 = .ok (.iadd, 1) := by decide +kernel
theorem dX7_join_134 : decode cX7_join 134 = .ok (.iaload, 1) := by decide +kernel
theorem dX7_join_135 : decode cX7_join 135 = .ok (.ireturn, 1) := by decide +kernel
theorem dX7_undo_0 : decode cX7_undo 0 = .ok (.aload_n 0, 1) := by decide +kernel
theorem dX7_undo_1 : decode cX7_undo 1 = .ok (.getfield 151, 3) := by decide +kernel
theorem dX7_undo_4 : decode cX7_undo 4 = .ok (.ifCond .ne 6, 3) := by decide +kernel
theorem dX7_undo_7 : decode cX7_undo 7 = .ok (.ldc 167, 2) := by decide +kernel
theorem dX7_undo_9 : decode cX7_undo 9 = .ok (.ireturn, 1) := by decide +kernel
theorem dX7_undo_10 : decode cX7_undo 10 = .ok (.aload_n 0, 1) := by decide +kernel
theorem dX7_undo_11 : decode cX7_undo 11 = .ok (.dup, 1) := by decide +kernel
theorem dX7_undo_12 : decode cX7_undo 12 = .ok (.getfield 151, 3) := by decide +kernel
theorem dX7_undo_15 : decode cX7_undo 15 = .ok (.iconst 1, 1) := by decide +kernel
theorem dX7_undo_16 : decode cX7_undo 16 = .ok (.isub, 1) := by decide +kernel
theorem dX7_undo_17 : decode cX7_undo 17 = .ok (.putfield 151, 3) := by decide +kernel
theorem dX7_undo_20 : decode cX7_undo 20 = .ok (.iconst 0, 1) := by decide +kernel
theorem dX7_undo_21 : decode cX7_undo 21 = .ok (.istore_n 1, 1) := by decide +kernel
theorem dX7_undo_22 : decode cX7_undo 22 = .ok (.iload_n 1, 1) := by decide +kernel
theorem dX7_undo_23 : decode cX7_undo 23 = .ok (.bipush 14, 2) := by decide +kernel
theorem dX7_undo_25 : decode cX7_undo 25 = .ok (.if_icmp .ge 32, 3) := by decide +kernel
theorem dX7_undo_28 : decode cX7_undo 28 = .ok (.aload_n 0, 1) := by decide +kernel
theorem dX7_undo_29 : decode cX7_undo 29 = .ok (.getfield 7, 3) := by decide +kernel
theorem dX7_undo_32 : decode cX7_undo 32 = .ok (.bipush 60, 2) := by decide +kernel
theorem dX7_undo_34 : decode cX7_undo 34 = .ok (.iload_n 1, 1) := by decide +kernel
theorem dX7_undo_35 : decode cX7_undo 35 = .ok (.iadd, 1) := by decide +kernel
theorem dX7_undo_36 : decode cX7_undo 36 = .ok (.aload_n 0, 1) := by decide +kernel
theorem dX7_undo_37 : decode cX7_undo 37 = .ok (.getfield 20, 3) := by decide +kernel
theorem dX7_undo_40 : decode cX7_undo 40 = .ok (.bipush 14, 2) := by decide +kernel
theorem dX7_undo_42 : decode cX7_undo 42 = .ok (.aload_n 0, 1) := by decide +kernel
theorem dX7_undo_43 : decode cX7_undo 43 = .ok (.getfield 151, 3) := by decide +kernel
theorem dX7_undo_46 : decode cX7_undo 46 = .ok (.imul, 1) := by decide +kernel
theorem dX7_undo_47 : decode cX7_undo 47 = .ok (.iload_n 1, 1) := by decide +kernel
theorem dX7_undo_48 : decode cX7_undo 48 = .ok (.iadd, 1) := by decide +kernel
theorem dX7_undo_49 : decode cX7_undo 49 = .ok (.iaload, 1) := by decide +kernel
theorem dX7_undo_50 : decode cX7_undo 50 = .ok (.iastore, 1) := by decide +kernel
theorem dX7_undo_51 : decode cX7_undo 51 = .ok (.iinc 1 1, 3) := by decide +kernel
theorem dX7_undo_54 : decode cX7_undo 54 = .ok (.goto (-32), 3) := by decide +kernel
theorem dX7_undo_57 : decode cX7_undo 57 = .ok (.aload_n 0, 1) := by decide +kernel
theorem dX7_undo_58 : decode cX7_undo 58 = .ok (.getfield 151, 3) := by decide +kernel
theorem dX7_undo_61 : decode cX7_undo 61 = .ok (.ireturn, 1) := by decide +kernel
theorem dX7_liars_0 : decode cX7_liars 0 = .ok (.iconst 0, 1) := by decide +kernel
theorem dX7_liars_1 : decode cX7_liars 1 = .ok (.istore_n 2, 1) := by decide +kernel
theorem dX7_liars_2 : decode cX7_liars 2 = .ok (.iconst 0, 1) := by decide +kernel
theorem dX7_liars_3 : decode cX7_liars 3 = .ok (.istore_n 3, 1) := by decide +kernel
theorem dX7_liars_4 : decode cX7_liars 4 = .ok (.iload_n 3, 1) := by decide +kernel
theorem dX7_liars_5 : decode cX7_liars 5 = .ok (.aload_n 0, 1) := by decide +kernel
theorem dX7_liars_6 : decode cX7_liars 6 = .ok (.getfield 7, 3) := by decide +kernel
theorem dX7_liars_9 : decode cX7_liars 9 = .ok (.iconst 1, 1) := by decide +kernel
theorem dX7_liars_10 : decode cX7_liars 10 = .ok (.iaload, 1) := by decide +kernel
theorem dX7_liars_11 : decode cX7_liars 11 = .ok (.if_icmp .ge 28, 3) := by decide +kernel
theorem dX7_liars_14 : decode cX7_liars 14 = .ok (.iload_n 2, 1) := by decide +kernel
theorem dX7_liars_15 : decode cX7_liars 15 = .ok (.aload_n 0, 1) := by decide +kernel
theorem dX7_liars_16 : decode cX7_liars 16 = .ok (.iload_n 3, 1) := by decide +kernel
theorem dX7_liars_17 : decode cX7_liars 17 = .ok (.iload_n 1, 1) := by decide +kernel
theorem dX7_liars_18 : decode cX7_liars 18 = .ok (.invokevirtual 182, 3) := by decide +kernel
theorem dX7_liars_21 : decode cX7_liars 21 = .ok (.ifCond .eq 9, 3) := by decide +kernel
theorem dX7_liars_24 : decode cX7_liars 24 = .ok (.iconst 1, 1) := by decide +kernel
theorem dX7_liars_25 : decode cX7_liars 25 = .ok (.iload_n 3, 1) := by decide +kernel
theorem dX7_liars_26 : decode cX7_liars 26 = .ok (.ishl, 1) := by decide +kernel
theorem dX7_liars_27 : decode cX7_liars 27 = .ok (.goto 4, 3) := by decide +kernel
theorem dX7_liars_30 : decode cX7_liars 30 = .ok (.iconst 0, 1) := by decide +kernel
theorem dX7_liars_31 : decode cX7_liars 31 = .ok (.ior, 1) := by decide +kernel
theorem dX7_liars_32 : decode cX7_liars 32 = .ok (.istore_n 2, 1) := by decide +kernel
theorem dX7_liars_33 : decode cX7_liars 33 = .ok (.iinc 3 1, 3) := by decide +kernel
theorem dX7_liars_36 : decode cX7_liars 36 = .ok (.goto (-32), 3) := by decide +kernel
theorem dX7_liars_39 : decode cX7_liars 39 = .ok (.iload_n 2, 1) := by decide +kernel
theorem dX7_liars_40 : decode cX7_liars 40 = .ok (.ireturn, 1) := by decide +kernel
theorem dX7_wool_0 : decode cX7_wool 0 = .ok (.aload_n 0, 1) := by decide +kernel
theorem dX7_wool_1 : decode cX7_wool 1 = .ok (.iload_n 1, 1) := by decide +kernel
theorem dX7_wool_2 : decode cX7_wool 2 = .ok (.invokevirtual 161, 3) := by decide +kernel
theorem dX7_wool_5 : decode cX7_wool 5 = .ok (.ifCond .eq 12, 3) := by decide +kernel
theorem dX7_wool_8 : decode cX7_wool 8 = .ok (.iload_n 2, 1) := by decide +kernel
theorem dX7_wool_9 : decode cX7_wool 9 = .ok (.iconst 0, 1) := by decide +kernel
theorem dX7_wool_10 : decode cX7_wool 10 = .ok (.iconst 3, 1) := by decide +kernel
theorem dX7_wool_11 : decode cX7_wool 11 = .ok (.invokestatic 47, 3) := by decide +kernel
theorem dX7_wool_14 : decode cX7_wool 14 = .ok (.ifCond .ne 6, 3) := by decide +kernel
theorem dX7_wool_17 : decode cX7_wool 17 = .ok (.ldc 55, 2) := by decide +kernel
theorem dX7_wool_19 : decode cX7_wool 19 = .ok (.ireturn, 1) := by decide +kernel
theorem dX7_wool_20 : decode cX7_wool 20 = .ok (.iload_n 2, 1) := by decide +kernel
theorem dX7_wool_21 : decode cX7_wool 21 = .ok (.ifCond .ne 15, 3) := by decide +kernel
theorem dX7_wool_24 : decode cX7_wool 24 = .ok (.aload_n 0, 1) := by decide +kernel
theorem dX7_wool_25 : decode cX7_wool 25 = .ok (.getfield 7, 3) := by decide +kernel
theorem dX7_wool_28 : decode cX7_wool 28 = .ok (.bipush 60, 2) := by decide +kernel
theorem dX7_wool_30 : decode cX7_wool 30 = .ok (.iload_n 1, 1) := by decide +kernel
theorem dX7_wool_31 : decode cX7_wool 31 = .ok (.iadd, 1) := by decide +kernel
theorem dX7_wool_32 : decode cX7_wool 32 = .ok (.iaload, 1) := by decide +kernel
theorem dX7_wool_33 : decode cX7_wool 33 = .ok (.goto 38, 3) := by decide +kernel
theorem dX7_wool_36 : decode cX7_wool 36 = .ok (.iload_n 2, 1) := by decide +kernel
theorem dX7_wool_37 : decode cX7_wool 37 = .ok (.iconst 1, 1) := by decide +kernel
theorem dX7_wool_38 : decode cX7_wool 38 = .ok (.if_icmp .ne 15, 3) := by decide +kernel
theorem dX7_wool_41 : decode cX7_wool 41 = .ok (.aload_n 0, 1) := by decide +kernel
theorem dX7_wool_42 : decode cX7_wool 42 = .ok (.getfield 7, 3) := by decide +kernel
theorem dX7_wool_45 : decode cX7_wool 45 = .ok (.bipush 67, 2) := by decide +kernel
theorem dX7_wool_47 : decode cX7_wool 47 = .ok (.iload_n 1, 1) := by decide +kernel
theorem dX7_wool_48 : decode cX7_wool 48 = .ok (.iadd, 1) := by decide +kernel
theorem dX7_wool_49 : decode cX7_wool 49 = .ok (.iaload, 1) := by decide +kernel
theorem dX7_wool_50 : decode cX7_wool 50 = .ok (.goto 21, 3) := by decide +kernel
theorem dX7_wool_53 : decode cX7_wool 53 = .ok (.iload_n 2, 1) := by decide +kernel
theorem dX7_wool_54 : decode cX7_wool 54 = .ok (.iconst 2, 1) := by decide +kernel
theorem dX7_wool_55 : decode cX7_wool 55 = .ok (.if_icmp .ne 11, 3) := by decide +kernel
theorem dX7_wool_58 : decode cX7_wool 58 = .ok (.aload_n 0, 1) := by decide +kernel
theorem dX7_wool_59 : decode cX7_wool 59 = .ok (.iload_n 1, 1) := by decide +kernel
theorem dX7_wool_60 : decode cX7_wool 60 = .ok (.invokevirtual 185, 3) := by decide +kernel
theorem dX7_wool_63 : decode cX7_wool 63 = .ok (.goto 8, 3) := by decide +kernel
theorem dX7_wool_66 : decode cX7_wool 66 = .ok (.aload_n 0, 1) := by decide +kernel
theorem dX7_wool_67 : decode cX7_wool 67 = .ok (.iload_n 1, 1) := by decide +kernel
theorem dX7_wool_68 : decode cX7_wool 68 = .ok (.invokevirtual 188, 3) := by decide +kernel
theorem dX7_wool_71 : decode cX7_wool 71 = .ok (.ireturn, 1) := by decide +kernel
theorem dX7_said_0 : decode cX7_said 0 = .ok (.aload_n 0, 1) := by decide +kernel
theorem dX7_said_1 : decode cX7_said 1 = .ok (.getfield 7, 3) := by decide +kernel
theorem dX7_said_4 : decode cX7_said 4 = .ok (.bipush 12, 2) := by decide +kernel
theorem dX7_said_6 : decode cX7_said 6 = .ok (.iconst 4, 1) := by decide +kernel
theorem dX7_said_7 : decode cX7_said 7 = .ok (.iload_n 1, 1) := by decide +kernel
theorem dX7_said_8 : decode cX7_said 8 = .ok (.imul, 1) := by decide +kernel
theorem dX7_said_9 : decode cX7_said 9 = .ok (.iadd, 1) := by decide +kernel
theorem dX7_said_10 : decode cX7_said 10 = .ok (.iload_n 2, 1) := by decide +kernel
theorem dX7_said_11 : decode cX7_said 11 = .ok (.iadd, 1) := by decide +kernel
theorem dX7_said_12 : decode cX7_said 12 = .ok (.iaload, 1) := by decide +kernel
theorem dX7_said_13 : decode cX7_said 13 = .ok (.ireturn, 1) := by decide +kernel
theorem dX7_isBound_0 : decode cX7_isBound 0 = .ok (.aload_n 0, 1) := by decide +kernel
theorem dX7_isBound_1 : decode cX7_isBound 1 = .ok (.iload_n 1, 1) := by decide +kernel
theorem dX7_isBound_2 : decode cX7_isBound 2 = .ok (.iconst 1, 1) := by decide +kernel
theorem dX7_isBound_3 : decode cX7_isBound 3 = .ok (.invokevirtual 191, 3) := by decide +kernel
theorem dX7_isBound_6 : decode cX7_isBound 6 = .ok (.istore_n 3, 1) := by decide +kernel
theorem dX7_isBound_7 : decode cX7_isBound 7 = .ok (.iload_n 3, 1) := by decide +kernel
theorem dX7_isBound_8 : decode cX7_isBound 8 = .ok (.ldc 41, 2) := by decide +kernel
theorem dX7_isBound_10 : decode cX7_isBound 10 = .ok (.if_icmp .eq 25, 3) := by decide +kernel
theorem dX7_isBound_13 : decode cX7_isBound 13 = .ok (.iload_n 2, 1) := by decide +kernel
theorem dX7_isBound_14 : decode cX7_isBound 14 = .ok (.iload_n 3, 1) := by decide +kernel
theorem dX7_isBound_15 : decode cX7_isBound 15 = .ok (.invokestatic 154, 3) := by decide +kernel
theorem dX7_isBound_18 : decode cX7_isBound 18 = .ok (.ifCond .ne 17, 3) := by decide +kernel
theorem dX7_isBound_21 : decode cX7_isBound 21 = .ok (.aload_n 0, 1) := by decide +kernel
theorem dX7_isBound_22 : decode cX7_isBound 22 = .ok (.aload_n 0, 1) := by decide +kernel
theorem dX7_isBound_23 : decode cX7_isBound 23 = .ok (.iload_n 1, 1) := by decide +kernel
theorem dX7_isBound_24 : decode cX7_isBound 24 = .ok (.iconst 0, 1) := by decide +kernel
theorem dX7_isBound_25 : decode cX7_isBound 25 = .ok (.invokevirtual 191, 3) := by decide +kernel
theorem dX7_isBound_28 : decode cX7_isBound 28 = .ok (.iload_n 3, 1) := by decide +kernel
theorem dX7_isBound_29 : decode cX7_isBound 29 = .ok (.invokevirtual 182, 3) := by decide +kernel
theorem dX7_isBound_32 : decode cX7_isBound 32 = .ok (.ifCond .ne 7, 3) := by decide +kernel
theorem dX7_isBound_35 : decode cX7_isBound 35 = .ok (.iconst 1, 1) := by decide +kernel
theorem dX7_isBound_36 : decode cX7_isBound 36 = .ok (.goto 4, 3) := by decide +kernel
theorem dX7_isBound_39 : decode cX7_isBound 39 = .ok (.iconst 0, 1) := by decide +kernel
theorem dX7_isBound_40 : decode cX7_isBound 40 = .ok (.ireturn, 1) := by decide +kernel
theorem dX7_saying_0 : decode cX7_saying 0 = .ok (.iload_n 1, 1) := by decide +kernel
theorem dX7_saying_1 : decode cX7_saying 1 = .ok (.iconst 0, 1) := by decide +kernel
theorem dX7_saying_2 : decode cX7_saying 2 = .ok (.aload_n 0, 1) := by decide +kernel
theorem dX7_saying_3 : decode cX7_saying 3 = .ok (.getfield 7, 3) := by decide +kernel
theorem dX7_saying_6 : decode cX7_saying 6 = .ok (.iconst 4, 1) := by decide +kernel
theorem dX7_saying_7 : decode cX7_saying 7 = .ok (.iaload, 1) := by decide +kernel
theorem dX7_saying_8 : decode cX7_saying 8 = .ok (.iconst 1, 1) := by decide +kernel
theorem dX7_saying_9 : decode cX7_saying 9 = .ok (.isub, 1) := by decide +kernel
theorem dX7_saying_10 : decode cX7_saying 10 = .ok (.invokestatic 47, 3) := by decide +kernel
theorem dX7_saying_13 : decode cX7_saying 13 = .ok (.ifCond .eq 12, 3) := by decide +kernel
theorem dX7_saying_16 : decode cX7_saying 16 = .ok (.iload_n 2, 1) := by decide +kernel
theorem dX7_saying_17 : decode cX7_saying 17 = .ok (.iconst 0, 1) := by decide +kernel
theorem dX7_saying_18 : decode cX7_saying 18 = .ok (.iconst 4, 1) := by decide +kernel
theorem dX7_saying_19 : decode cX7_saying 19 = .ok (.invokestatic 47, 3) := by decide +kernel
theorem dX7_saying_22 : decode cX7_saying 22 = .ok (.ifCond .ne 6, 3) := by decide +kernel
theorem dX7_saying_25 : decode cX7_saying 25 = .ok (.ldc 55, 2) := by decide +kernel
theorem dX7_saying_27 : decode cX7_saying 27 = .ok (.ireturn, 1) := by decide +kernel
theorem dX7_saying_28 : decode cX7_saying 28 = .ok (.iload_n 2, 1) := by decide +kernel
theorem dX7_saying_29 : decode cX7_saying 29 = .ok (.iconst 4, 1) := by decide +kernel
theorem dX7_saying_30 : decode cX7_saying 30 = .ok (.if_icmp .ge 12, 3) := by decide +kernel
theorem dX7_saying_33 : decode cX7_saying 33 = .ok (.aload_n 0, 1) := by decide +kernel
theorem dX7_saying_34 : decode cX7_saying 34 = .ok (.iload_n 1, 1) := by decide +kernel
theorem dX7_saying_35 : decode cX7_saying 35 = .ok (.iload_n 2, 1) := by decide +kernel
theorem dX7_saying_36 : decode cX7_saying 36 = .ok (.invokevirtual 191, 3) := by decide +kernel
theorem dX7_saying_39 : decode cX7_saying 39 = .ok (.goto 17, 3) := by decide +kernel
theorem dX7_saying_42 : decode cX7_saying 42 = .ok (.aload_n 0, 1) := by decide +kernel
theorem dX7_saying_43 : decode cX7_saying 43 = .ok (.iload_n 1, 1) := by decide +kernel
theorem dX7_saying_44 : decode cX7_saying 44 = .ok (.iconst 0, 1) := by decide +kernel
theorem dX7_saying_45 : decode cX7_saying 45 = .ok (.invokevirtual 195, 3) := by decide +kernel
theorem dX7_saying_48 : decode cX7_saying 48 = .ok (.ifCond .eq 7, 3) := by decide +kernel
theorem dX7_saying_51 : decode cX7_saying 51 = .ok (.iconst 1, 1) := by decide +kernel
theorem dX7_saying_52 : decode cX7_saying 52 = .ok (.goto 4, 3) := by decide +kernel
theorem dX7_saying_55 : decode cX7_saying 55 = .ok (.iconst 0, 1) := by decide +kernel
theorem dX7_saying_56 : decode cX7_saying 56 = .ok (.ireturn, 1) := by decide +kernel
theorem dX7_findFacts_0 : decode cX7_findFacts 0 = .ok (.aload_n 0, 1) := by decide +kernel
theorem dX7_findFacts_1 : decode cX7_findFacts 1 = .ok (.iconst 0, 1) := by decide +kernel
theorem dX7_findFacts_2 : decode cX7_findFacts 2 = .ok (.putfield 198, 3) := by decide +kernel
theorem dX7_findFacts_5 : decode cX7_findFacts 5 = .ok (.aload_n 0, 1) := by decide +kernel
theorem dX7_findFacts_6 : decode cX7_findFacts 6 = .ok (.iconst 0, 1) := by decide +kernel
theorem dX7_findFacts_7 : decode cX7_findFacts 7 = .ok (.putfield 201, 3) := by decide +kernel
theorem dX7_findFacts_10 : decode cX7_findFacts 10 = .ok (.iconst 0, 1) := by decide +kernel
theorem dX7_findFacts_11 : decode cX7_findFacts 11 = .ok (.istore_n 2, 1) := by decide +kernel
theorem dX7_findFacts_12 : decode cX7_findFacts 12 = .ok (.iload_n 2, 1) := by decide +kernel
theorem dX7_findFacts_13 : decode cX7_findFacts 13 = .ok (.aload_n 0, 1) := by decide +kernel
theorem dX7_findFacts_14 : decode cX7_findFacts 14 = .ok (.getfield 7, 3) := by decide +kernel
theorem dX7_findFacts_17 : decode cX7_findFacts 17 = .ok (.iconst 4, 1) := by decide +kernel
theorem dX7_findFacts_18 : decode cX7_findFacts 18 = .ok (.iaload, 1) := by decide +kernel
theorem dX7_findFacts_19 : decode cX7_findFacts 19 = .ok (.if_icmp .ge 78, 3) := by decide +kernel
theorem dX7_findFacts_22 : decode cX7_findFacts 22 = .ok (.aload_n 0, 1) := by decide +kernel
theorem dX7_findFacts_23 : decode cX7_findFacts 23 = .ok (.iload_n 2, 1) := by decide +kernel
theorem dX7_findFacts_24 : decode cX7_findFacts 24 = .ok (.iload_n 1, 1) := by decide +kernel
theorem dX7_findFacts_25 : decode cX7_findFacts 25 = .ok (.invokevirtual 195, 3) := by decide +kernel
theorem dX7_findFacts_28 : decode cX7_findFacts 28 = .ok (.ifCond .eq 14, 3) := by decide +kernel
theorem dX7_findFacts_31 : decode cX7_findFacts 31 = .ok (.iconst 1, 1) := by decide +kernel
theorem dX7_findFacts_32 : decode cX7_findFacts 32 = .ok (.aload_n 0, 1) := by decide +kernel
theorem dX7_findFacts_33 : decode cX7_findFacts 33 = .ok (.iload_n 2, 1) := by decide +kernel
theorem dX7_findFacts_34 : decode cX7_findFacts 34 = .ok (.iconst 2, 1) := by decide +kernel
theorem dX7_findFacts_35 : decode cX7_findFacts 35 = .ok (.invokevirtual 191, 3) := by decide +kernel
theorem dX7_findFacts_38 : decode cX7_findFacts 38 = .ok (.ishl, 1) := by decide +kernel
theorem dX7_findFacts_39 : decode cX7_findFacts 39 = .ok (.goto 4, 3) := by decide +kernel
theorem dX7_findFacts_42 : decode cX7_findFacts 42 = .ok (.iconst 0, 1) := by decide +kernel
theorem dX7_findFacts_43 : decode cX7_findFacts 43 = .ok (.istore_n 3, 1) := by decide +kernel
theorem dX7_findFacts_44 : decode cX7_findFacts 44 = .ok (.aload_n 0, 1) := by decide +kernel
theorem dX7_findFacts_45 : decode cX7_findFacts 45 = .ok (.dup, 1) := by decide +kernel
theorem dX7_findFacts_46 : decode cX7_findFacts 46 = .ok (.getfield 198, 3) := by decide +kernel
theorem dX7_findFacts_49 : decode cX7_findFacts 49 = .ok (.aload_n 0, 1) := by decide +kernel
theorem dX7_findFacts_50 : decode cX7_findFacts 50 = .ok (.iload_n 2, 1) := by decide +kernel
theorem dX7_findFacts_51 : decode cX7_findFacts 51 = .ok (.iconst 3, 1) := by decide +kernel
theorem dX7_findFacts_52 : decode cX7_findFacts 52 = .ok (.invokevirtual 191, 3) := by decide +kernel
theorem dX7_findFacts_55 : decode cX7_findFacts 55 = .ok (.iconst 1, 1) := by decide +kernel
theorem dX7_findFacts_56 : decode cX7_findFacts 56 = .ok (.if_icmp .ne 7, 3) := by decide +kernel
theorem dX7_findFacts_59 : decode cX7_findFacts 59 = .ok (.iload_n 3, 1) := by decide +kernel
theorem dX7_findFacts_60 : decode cX7_findFacts 60 = .ok (.goto 4, 3) := by decide +kernel
theorem dX7_findFacts_63 : decode cX7_findFacts 63 = .ok (.iconst 0, 1) := by decide +kernel
theorem dX7_findFacts_64 : decode cX7_findFacts 64 = .ok (.ior, 1) := by decide +kernel
theorem dX7_findFacts_65 : decode cX7_findFacts 65 = .ok (.putfield 198, 3) := by decide +kernel
theorem dX7_findFacts_68 : decode cX7_findFacts 68 = .ok (.aload_n 0, 1) := by decide +kernel
theorem dX7_findFacts_69 : decode cX7_findFacts 69 = .ok (.dup, 1) := by decide +kernel
theorem dX7_findFacts_70 : decode cX7_findFacts 70 = .ok (.getfield 201, 3) := by decide +kernel
theorem dX7_findFacts_73 : decode cX7_findFacts 73 = .ok (.aload_n 0, 1) := by decide +kernel
theorem dX7_findFacts_74 : decode cX7_findFacts 74 = .ok (.iload_n 2, 1) := by decide +kernel
theorem dX7_findFacts_75 : decode cX7_findFacts 75 = .ok (.iconst 3, 1) := by decide +kernel
theorem dX7_findFacts_76 : decode cX7_findFacts 76 = .ok (.invokevirtual 191, 3) := by decide +kernel
theorem dX7_findFacts_79 : decode cX7_findFacts 79 = .ok (.ifCond .ne 7, 3) := by decide +kernel
theorem dX7_findFacts_82 : decode cX7_findFacts 82 = .ok (.iload_n 3, 1) := by decide +kernel
theorem dX7_findFacts_83 : decode cX7_findFacts 83 = .ok (.goto 4, 3) := by decide +kernel
theorem dX7_findFacts_86 : decode cX7_findFacts 86 = .ok (.iconst 0, 1) := by decide +kernel
theorem dX7_findFacts_87 : decode cX7_findFacts 87 = .ok (.ior, 1) := by decide +kernel
theorem dX7_findFacts_88 : decode cX7_findFacts 88 = .ok (.putfield 201, 3) := by decide +kernel
theorem dX7_findFacts_91 : decode cX7_findFacts 91 = .ok (.iinc 2 1, 3) := by decide +kernel
theorem dX7_findFacts_94 : decode cX7_findFacts 94 = .ok (.goto (-82), 3) := by decide +kernel
theorem dX7_findFacts_97 : decode cX7_findFacts 97 = .ok (.return_, 1) := by decide +kernel
theorem dX7_knownOf_0 : decode cX7_knownOf 0 = .ok (.aload_n 0, 1) := by decide +kernel
theorem dX7_knownOf_1 : decode cX7_knownOf 1 = .ok (.getfield 198, 3) := by decide +kernel
theorem dX7_knownOf_4 : decode cX7_knownOf 4 = .ok (.aload_n 0, 1) := by decide +kernel
theorem dX7_knownOf_5 : decode cX7_knownOf 5 = .ok (.getfield 201, 3) := by decide +kernel
theorem dX7_knownOf_8 : decode cX7_knownOf 8 = .ok (.iand, 1) := by decide +kernel
theorem dX7_knownOf_9 : decode cX7_knownOf 9 = .ok (.iload_n 1, 1) := by decide +kernel
theorem dX7_knownOf_10 : decode cX7_knownOf 10 = .ok (.invokestatic 154, 3) := by decide +kernel
theorem dX7_knownOf_13 : decode cX7_knownOf 13 = .ok (.ifCond .eq 8, 3) := by decide +kernel
theorem dX7_knownOf_16 : decode cX7_knownOf 16 = .ok (.bipush (-2), 2) := by decide +kernel
theorem dX7_knownOf_18 : decode cX7_knownOf 18 = .ok (.goto 34, 3) := by decide +kernel
theorem dX7_knownOf_21 : decode cX7_knownOf 21 = .ok (.aload_n 0, 1) := by decide +kernel
theorem dX7_knownOf_22 : decode cX7_knownOf 22 = .ok (.getfield 198, 3) := by decide +kernel
theorem dX7_knownOf_25 : decode cX7_knownOf 25 = .ok (.iload_n 1, 1) := by decide +kernel
theorem dX7_knownOf_26 : decode cX7_knownOf 26 = .ok (.invokestatic 154, 3) := by decide +kernel
theorem dX7_knownOf_29 : decode cX7_knownOf 29 = .ok (.ifCond .eq 7, 3) := by decide +kernel
theorem dX7_knownOf_32 : decode cX7_knownOf 32 = .ok (.iconst 1, 1) := by decide +kernel
theorem dX7_knownOf_33 : decode cX7_knownOf 33 = .ok (.goto 19, 3) := by decide +kernel
theorem dX7_knownOf_36 : decode cX7_knownOf 36 = .ok (.aload_n 0, 1) := by decide +kernel
theorem dX7_knownOf_37 : decode cX7_knownOf 37 = .ok (.getfield 201, 3) := by decide +kernel
theorem dX7_knownOf_40 : decode cX7_knownOf 40 = .ok (.iload_n 1, 1) := by decide +kernel
theorem dX7_knownOf_41 : decode cX7_knownOf 41 = .ok (.invokestatic 154, 3) := by decide +kernel
theorem dX7_knownOf_44 : decode cX7_knownOf 44 = .ok (.ifCond .eq 7, 3) := by decide +kernel
theorem dX7_knownOf_47 : decode cX7_knownOf 47 = .ok (.iconst 0, 1) := by decide +kernel
theorem dX7_knownOf_48 : decode cX7_knownOf 48 = .ok (.goto 4, 3) := by decide +kernel
theorem dX7_knownOf_51 : decode cX7_knownOf 51 = .ok (.iconst (-1), 1) := by decide +kernel
theorem dX7_knownOf_52 : decode cX7_knownOf 52 = .ok (.ireturn, 1) := by decide +kernel
theorem dX7_known_0 : decode cX7_known 0 = .ok (.iload_n 1, 1) := by decide +kernel
theorem dX7_known_1 : decode cX7_known 1 = .ok (.iconst 0, 1) := by decide +kernel
theorem dX7_known_2 : decode cX7_known 2 = .ok (.aload_n 0, 1) := by decide +kernel
theorem dX7_known_3 : decode cX7_known 3 = .ok (.getfield 7, 3) := by decide +kernel
theorem dX7_known_6 : decode cX7_known 6 = .ok (.iconst 2, 1) := by decide +kernel
theorem dX7_known_7 : decode cX7_known 7 = .ok (.iaload, 1) := by decide +kernel
theorem dX7_known_8 : decode cX7_known 8 = .ok (.iconst 1, 1) := by decide +kernel
theorem dX7_known_9 : decode cX7_known 9 = .ok (.isub, 1) := by decide +kernel
theorem dX7_known_10 : decode cX7_known 10 = .ok (.invokestatic 47, 3) := by decide +kernel
theorem dX7_known_13 : decode cX7_known 13 = .ok (.ifCond .ne 6, 3) := by decide +kernel
theorem dX7_known_16 : decode cX7_known 16 = .ok (.ldc 55, 2) := by decide +kernel
theorem dX7_known_18 : decode cX7_known 18 = .ok (.ireturn, 1) := by decide +kernel
theorem dX7_known_19 : decode cX7_known 19 = .ok (.aload_n 0, 1) := by decide +kernel
theorem dX7_known_20 : decode cX7_known 20 = .ok (.iconst 0, 1) := by decide +kernel
theorem dX7_known_21 : decode cX7_known 21 = .ok (.invokevirtual 204, 3) := by decide +kernel
theorem dX7_known_24 : decode cX7_known 24 = .ok (.aload_n 0, 1) := by decide +kernel
theorem dX7_known_25 : decode cX7_known 25 = .ok (.iload_n 1, 1) := by decide +kernel
theorem dX7_known_26 : decode cX7_known 26 = .ok (.invokevirtual 208, 3) := by decide +kernel
theorem dX7_known_29 : decode cX7_known 29 = .ok (.ireturn, 1) := by decide +kernel
theorem dX7_worldsOf_0 : decode cX7_worldsOf 0 = .ok (.iconst 1, 1) := by decide +kernel
theorem dX7_worldsOf_1 : decode cX7_worldsOf 1 = .ok (.istore_n 1, 1) := by decide +kernel
theorem dX7_worldsOf_2 : decode cX7_worldsOf 2 = .ok (.iconst 0, 1) := by decide +kernel
theorem dX7_worldsOf_3 : decode cX7_worldsOf 3 = .ok (.istore_n 2, 1) := by decide +kernel
theorem dX7_worldsOf_4 : decode cX7_worldsOf 4 = .ok (.iload_n 2, 1) := by decide +kernel
theorem dX7_worldsOf_5 : decode cX7_worldsOf 5 = .ok (.aload_n 0, 1) := by decide +kernel
theorem dX7_worldsOf_6 : decode cX7_worldsOf 6 = .ok (.getfield 7, 3) := by decide +kernel
theorem dX7_worldsOf_9 : decode cX7_worldsOf 9 = .ok (.iconst 2, 1) := by decide +kernel
theorem dX7_worldsOf_10 : decode cX7_worldsOf 10 = .ok (.iaload, 1) := by decide +kernel
theorem dX7_worldsOf_11 : decode cX7_worldsOf 11 = .ok (.if_icmp .ge 40, 3) := by decide +kernel
theorem dX7_worldsOf_14 : decode cX7_worldsOf 14 = .ok (.iload_n 1, 1) := by decide +kernel
theorem dX7_worldsOf_15 : decode cX7_worldsOf 15 = .ok (.aload_n 0, 1) := by decide +kernel
theorem dX7_worldsOf_16 : decode cX7_worldsOf 16 = .ok (.iload_n 2, 1) := by decide +kernel
theorem dX7_worldsOf_17 : decode cX7_worldsOf 17 = .ok (.invokevirtual 208, 3) := by decide +kernel
theorem dX7_worldsOf_20 : decode cX7_worldsOf 20 = .ok (.bipush (-2), 2) := by decide +kernel
theorem dX7_worldsOf_22 : decode cX7_worldsOf 22 = .ok (.if_icmp .ne 7, 3) := by decide +kernel
theorem dX7_worldsOf_25 : decode cX7_worldsOf 25 = .ok (.iconst 0, 1) := by decide +kernel
theorem dX7_worldsOf_26 : decode cX7_worldsOf 26 = .ok (.goto 17, 3) := by decide +kernel
theorem dX7_worldsOf_29 : decode cX7_worldsOf 29 = .ok (.aload_n 0, 1) := by decide +kernel
theorem dX7_worldsOf_30 : decode cX7_worldsOf 30 = .ok (.iload_n 2, 1) := by decide +kernel
theorem dX7_worldsOf_31 : decode cX7_worldsOf 31 = .ok (.invokevirtual 208, 3) := by decide +kernel
theorem dX7_worldsOf_34 : decode cX7_worldsOf 34 = .ok (.iconst (-1), 1) := by decide +kernel
theorem dX7_worldsOf_35 : decode cX7_worldsOf 35 = .ok (.if_icmp .ne 7, 3) := by decide +kernel
theorem dX7_worldsOf_38 : decode cX7_worldsOf 38 = .ok (.iconst 2, 1) := by decide +kernel
theorem dX7_worldsOf_39 : decode cX7_worldsOf 39 = .ok (.goto 4, 3) := by decide +kernel
theorem dX7_worldsOf_42 : decode cX7_worldsOf 42 = .ok (.iconst 1, 1) := by decide +kernel
theorem dX7_worldsOf_43 : decode cX7_worldsOf 43 = .ok (.imul, 1) := by decide +kernel
theorem dX7_worldsOf_44 : decode cX7_worldsOf 44 = .ok (.istore_n 1, 1) := by decide +kernel
theorem dX7_worldsOf_45 : decode cX7_worldsOf 45 = .ok (.iinc 2 1, 3) := by decide +kernel
theorem dX7_worldsOf_48 : decode cX7_worldsOf 48 = .ok (.goto (-44), 3) := by decide +kernel
theorem dX7_worldsOf_51 : decode cX7_worldsOf 51 = .ok (.iload_n 1, 1) := by decide +kernel
theorem dX7_worldsOf_52 : decode cX7_worldsOf 52 = .ok (.ireturn, 1) := by decide +kernel
theorem dX7_lies_0 : decode cX7_lies 0 = .ok (.iconst 0, 1) := by decide +kernel
theorem dX7_lies_1 : decode cX7_lies 1 = .ok (.istore_n 1, 1) := by decide +kernel
theorem dX7_lies_2 : decode cX7_lies 2 = .ok (.iconst 0, 1) := by decide +kernel
theorem dX7_lies_3 : decode cX7_lies 3 = .ok (.istore_n 2, 1) := by decide +kernel
theorem dX7_lies_4 : decode cX7_lies 4 = .ok (.iload_n 2, 1) := by decide +kernel
theorem dX7_lies_5 : decode cX7_lies 5 = .ok (.aload_n 0, 1) := by decide +kernel
theorem dX7_lies_6 : decode cX7_lies 6 = .ok (.getfield 7, 3) := by decide +kernel
theorem dX7_lies_9 : decode cX7_lies 9 = .ok (.iconst 4, 1) := by decide +kernel
theorem dX7_lies_10 : decode cX7_lies 10 = .ok (.iaload, 1) := by decide +kernel
theorem dX7_lies_11 : decode cX7_lies 11 = .ok (.if_icmp .ge 66, 3) := by decide +kernel
theorem dX7_lies_14 : decode cX7_lies 14 = .ok (.aload_n 0, 1) := by decide +kernel
theorem dX7_lies_15 : decode cX7_lies 15 = .ok (.invokevirtual 211, 3) := by decide +kernel
theorem dX7_lies_18 : decode cX7_lies 18 = .ok (.ifCond .le 59, 3) := by decide +kernel
theorem dX7_lies_21 : decode cX7_lies 21 = .ok (.aload_n 0, 1) := by decide +kernel
theorem dX7_lies_22 : decode cX7_lies 22 = .ok (.iload_n 2, 1) := by decide +kernel
theorem dX7_lies_23 : decode cX7_lies 23 = .ok (.iconst 0, 1) := by decide +kernel
theorem dX7_lies_24 : decode cX7_lies 24 = .ok (.invokevirtual 195, 3) := by decide +kernel
theorem dX7_lies_27 : decode cX7_lies 27 = .ok (.ifCond .ne 28, 3) := by decide +kernel
theorem dX7_lies_30 : decode cX7_lies 30 = .ok (.aload_n 0, 1) := by decide +kernel
theorem dX7_lies_31 : decode cX7_lies 31 = .ok (.aload_n 0, 1) := by decide +kernel
theorem dX7_lies_32 : decode cX7_lies 32 = .ok (.iload_n 2, 1) := by decide +kernel
theorem dX7_lies_33 : decode cX7_lies 33 = .ok (.iconst 2, 1) := by decide +kernel
theorem dX7_lies_34 : decode cX7_lies 34 = .ok (.invokevirtual 191, 3) := by decide +kernel
theorem dX7_lies_37 : decode cX7_lies 37 = .ok (.invokevirtual 208, 3) := by decide +kernel
theorem dX7_lies_40 : decode cX7_lies 40 = .ok (.iconst 1, 1) := by decide +kernel
theorem dX7_lies_41 : decode cX7_lies 41 = .ok (.aload_n 0, 1) := by decide +kernel
theorem dX7_lies_42 : decode cX7_lies 42 = .ok (.iload_n 2, 1) := by decide +kernel
theorem dX7_lies_43 : decode cX7_lies 43 = .ok (.iconst 3, 1) := by decide +kernel
theorem dX7_lies_44 : decode cX7_lies 44 = .ok (.invokevirtual 191, 3) := by decide +kernel
theorem dX7_lies_47 : decode cX7_lies 47 = .ok (.isub, 1) := by decide +kernel
theorem dX7_lies_48 : decode cX7_lies 48 = .ok (.if_icmp .ne 7, 3) := by decide +kernel
theorem dX7_lies_51 : decode cX7_lies 51 = .ok (.iconst 1, 1) := by decide +kernel
theorem dX7_lies_52 : decode cX7_lies 52 = .ok (.goto 4, 3) := by decide +kernel
theorem dX7_lies_55 : decode cX7_lies 55 = .ok (.iconst 0, 1) := by decide +kernel
theorem dX7_lies_56 : decode cX7_lies 56 = .ok (.istore_n 3, 1) := by decide +kernel
theorem dX7_lies_57 : decode cX7_lies 57 = .ok (.iload_n 1, 1) := by decide +kernel
theorem dX7_lies_58 : decode cX7_lies 58 = .ok (.iload_n 3, 1) := by decide +kernel
theorem dX7_lies_59 : decode cX7_lies 59 = .ok (.ifCond .eq 9, 3) := by decide +kernel
theorem dX7_lies_62 : decode cX7_lies 62 = .ok (.iconst 1, 1) := by decide +kernel
theorem dX7_lies_63 : decode cX7_lies 63 = .ok (.iload_n 2, 1) := by decide +kernel
theorem dX7_lies_64 : decode cX7_lies 64 = .ok (.ishl, 1) := by decide +kernel
theorem dX7_lies_65 : decode cX7_lies 65 = .ok (.goto 4, 3) := by decide +kernel
theorem dX7_lies_68 : decode cX7_lies 68 = .ok (.iconst 0, 1) := by decide +kernel
theorem dX7_lies_69 : decode cX7_lies 69 = .ok (.ior, 1) := by decide +kernel
theorem dX7_lies_70 : decode cX7_lies 70 = .ok (.istore_n 1, 1) := by decide +kernel
theorem dX7_lies_71 : decode cX7_lies 71 = .ok (.iinc 2 1, 3) := by decide +kernel
theorem dX7_lies_74 : decode cX7_lies 74 = .ok (.goto (-70), 3) := by decide +kernel
theorem dX7_lies_77 : decode cX7_lies 77 = .ok (.iload_n 1, 1) := by decide +kernel
theorem dX7_lies_78 : decode cX7_lies 78 = .ok (.ireturn, 1) := by decide +kernel
theorem dX7_worlds_0 : decode cX7_worlds 0 = .ok (.aload_n 0, 1) := by decide +kernel
theorem dX7_worlds_1 : decode cX7_worlds 1 = .ok (.invokevirtual 171, 3) := by decide +kernel
theorem dX7_worlds_4 : decode cX7_worlds 4 = .ok (.ifCond .ne 6, 3) := by decide +kernel
theorem dX7_worlds_7 : decode cX7_worlds 7 = .ok (.ldc 167, 2) := by decide +kernel
theorem dX7_worlds_9 : decode cX7_worlds 9 = .ok (.ireturn, 1) := by decide +kernel
theorem dX7_worlds_10 : decode cX7_worlds 10 = .ok (.iload_n 1, 1) := by decide +kernel
theorem dX7_worlds_11 : decode cX7_worlds 11 = .ok (.iconst 0, 1) := by decide +kernel
theorem dX7_worlds_12 : decode cX7_worlds 12 = .ok (.iconst 1, 1) := by decide +kernel
theorem dX7_worlds_13 : decode cX7_worlds 13 = .ok (.invokestatic 47, 3) := by decide +kernel
theorem dX7_worlds_16 : decode cX7_worlds 16 = .ok (.ifCond .ne 6, 3) := by decide +kernel
theorem dX7_worlds_19 : decode cX7_worlds 19 = .ok (.ldc 55, 2) := by decide +kernel
theorem dX7_worlds_21 : decode cX7_worlds 21 = .ok (.ireturn, 1) := by decide +kernel
theorem dX7_worlds_22 : decode cX7_worlds 22 = .ok (.aload_n 0, 1) := by decide +kernel
theorem dX7_worlds_23 : decode cX7_worlds 23 = .ok (.iconst 0, 1) := by decide +kernel
theorem dX7_worlds_24 : decode cX7_worlds 24 = .ok (.invokevirtual 204, 3) := by decide +kernel
theorem dX7_worlds_27 : decode cX7_worlds 27 = .ok (.iload_n 1, 1) := by decide +kernel
theorem dX7_worlds_28 : decode cX7_worlds 28 = .ok (.ifCond .ne 10, 3) := by decide +kernel
theorem dX7_worlds_31 : decode cX7_worlds 31 = .ok (.aload_n 0, 1) := by decide +kernel
theorem dX7_worlds_32 : decode cX7_worlds 32 = .ok (.invokevirtual 211, 3) := by decide +kernel
theorem dX7_worlds_35 : decode cX7_worlds 35 = .ok (.goto 7, 3) := by decide +kernel
theorem dX7_worlds_38 : decode cX7_worlds 38 = .ok (.aload_n 0, 1) := by decide +kernel
theorem dX7_worlds_39 : decode cX7_worlds 39 = .ok (.invokevirtual 214, 3) := by decide +kernel
theorem dX7_worlds_42 : decode cX7_worlds 42 = .ok (.ireturn, 1) := by decide +kernel
theorem dX7_out_0 : decode cX7_out 0 = .ok (.iload_n 1, 1) := by decide +kernel
theorem dX7_out_1 : decode cX7_out 1 = .ok (.iconst 0, 1) := by decide +kernel
theorem dX7_out_2 : decode cX7_out 2 = .ok (.aload_n 0, 1) := by decide +kernel
theorem dX7_out_3 : decode cX7_out 3 = .ok (.getfield 7, 3) := by decide +kernel
theorem dX7_out_6 : decode cX7_out 6 = .ok (.iconst 2, 1) := by decide +kernel
theorem dX7_out_7 : decode cX7_out 7 = .ok (.iaload, 1) := by decide +kernel
theorem dX7_out_8 : decode cX7_out 8 = .ok (.iconst 1, 1) := by decide +kernel
theorem dX7_out_9 : decode cX7_out 9 = .ok (.isub, 1) := by decide +kernel
theorem dX7_out_10 : decode cX7_out 10 = .ok (.invokestatic 47, 3) := by decide +kernel
theorem dX7_out_13 : decode cX7_out 13 = .ok (.ifCond .eq 12, 3) := by decide +kernel
theorem dX7_out_16 : decode cX7_out 16 = .ok (.iload_n 2, 1) := by decide +kernel
theorem dX7_out_17 : decode cX7_out 17 = .ok (.iconst 0, 1) := by decide +kernel
theorem dX7_out_18 : decode cX7_out 18 = .ok (.iconst 1, 1) := by decide +kernel
theorem dX7_out_19 : decode cX7_out 19 = .ok (.invokestatic 47, 3) := by decide +kernel
theorem dX7_out_22 : decode cX7_out 22 = .ok (.ifCond .ne 6, 3) := by decide +kernel
theorem dX7_out_25 : decode cX7_out 25 = .ok (.ldc 55, 2) := by decide +kernel
theorem dX7_out_27 : decode cX7_out 27 = .ok (.ireturn, 1) := by decide +kernel
theorem dX7_out_28 : decode cX7_out 28 = .ok (.ldc 41, 2) := by decide +kernel
theorem dX7_out_30 : decode cX7_out 30 = .ok (.istore_n 3, 1) := by decide +kernel
theorem dX7_out_31 : decode cX7_out 31 = .ok (.ldc 41, 2) := by decide +kernel
theorem dX7_out_33 : decode cX7_out 33 = .ok (.istore 4, 2) := by decide +kernel
theorem dX7_out_35 : decode cX7_out 35 = .ok (.iconst 0, 1) := by decide +kernel
theorem dX7_out_36 : decode cX7_out 36 = .ok (.istore 5, 2) := by decide +kernel
theorem dX7_out_38 : decode cX7_out 38 = .ok (.iload 5, 2) := by decide +kernel
theorem dX7_out_40 : decode cX7_out 40 = .ok (.iconst 1, 1) := by decide +kernel
theorem dX7_out_41 : decode cX7_out 41 = .ok (.aload_n 0, 1) := by decide +kernel
theorem dX7_out_42 : decode cX7_out 42 = .ok (.getfield 7, 3) := by decide +kernel
theorem dX7_out_45 : decode cX7_out 45 = .ok (.iconst 3, 1) := by decide +kernel
theorem dX7_out_46 : decode cX7_out 46 = .ok (.iaload, 1) := by decide +kernel
theorem dX7_out_47 : decode cX7_out 47 = .ok (.ishl, 1) := by decide +kernel
theorem dX7_out_48 : decode cX7_out 48 = .ok (.if_icmp .ge 127, 3) := by decide +kernel
theorem dX7_out_51 : decode cX7_out 51 = .ok (.iconst 0, 1) := by decide +kernel
theorem dX7_out_52 : decode cX7_out 52 = .ok (.istore 6, 2) := by decide +kernel
theorem dX7_out_54 : decode cX7_out 54 = .ok (.iconst 0, 1) := by decide +kernel
theorem dX7_out_55 : decode cX7_out 55 = .ok (.istore 7, 2) := by decide +kernel
theorem dX7_out_57 : decode cX7_out 57 = .ok (.iload 7, 2) := by decide +kernel
theorem dX7_out_59 : decode cX7_out 59 = .ok (.aload_n 0, 1) := by decide +kernel
theorem dX7_out_60 : decode cX7_out 60 = .ok (.getfield 7, 3) := by decide +kernel
theorem dX7_out_63 : decode cX7_out 63 = .ok (.iconst 3, 1) := by decide +kernel
theorem dX7_out_64 : decode cX7_out 64 = .ok (.iaload, 1) := by decide +kernel
theorem dX7_out_65 : decode cX7_out 65 = .ok (.if_icmp .ge 38, 3) := by decide +kernel
theorem dX7_out_68 : decode cX7_out 68 = .ok (.iload 6, 2) := by decide +kernel
theorem dX7_out_70 : decode cX7_out 70 = .ok (.iload 5, 2) := by decide +kernel
theorem dX7_out_72 : decode cX7_out 72 = .ok (.iload 7, 2) := by decide +kernel
theorem dX7_out_74 : decode cX7_out 74 = .ok (.invokestatic 154, 3) := by decide +kernel
theorem dX7_out_77 : decode cX7_out 77 = .ok (.ifCond .eq 16, 3) := by decide +kernel
theorem dX7_out_80 : decode cX7_out 80 = .ok (.aload_n 0, 1) := by decide +kernel
theorem dX7_out_81 : decode cX7_out 81 = .ok (.getfield 7, 3) := by decide +kernel
theorem dX7_out_84 : decode cX7_out 84 = .ok (.bipush 60, 2) := by decide +kernel
theorem dX7_out_86 : decode cX7_out 86 = .ok (.iload 7, 2) := by decide +kernel
theorem dX7_out_88 : decode cX7_out 88 = .ok (.iadd, 1) := by decide +kernel
theorem dX7_out_89 : decode cX7_out 89 = .ok (.iaload, 1) := by decide +kernel
theorem dX7_out_90 : decode cX7_out 90 = .ok (.goto 4, 3) := by decide +kernel
theorem dX7_out_93 : decode cX7_out 93 = .ok (.iconst 0, 1) := by decide +kernel
theorem dX7_out_94 : decode cX7_out 94 = .ok (.iadd, 1) := by decide +kernel
theorem dX7_out_95 : decode cX7_out 95 = .ok (.istore 6, 2) := by decide +kernel
theorem dX7_out_97 : decode cX7_out 97 = .ok (.iinc 7 1, 3) := by decide +kernel
theorem dX7_out_100 : decode cX7_out 100 = .ok (.goto (-43), 3) := by decide +kernel
theorem dX7_out_103 : decode cX7_out 103 = .ok (.aload_n 0, 1) := by decide +kernel
theorem dX7_out_104 : decode cX7_out 104 = .ok (.iload 5, 2) := by decide +kernel
theorem dX7_out_106 : decode cX7_out 106 = .ok (.invokevirtual 204, 3) := by decide +kernel
theorem dX7_out_109 : decode cX7_out 109 = .ok (.aload_n 0, 1) := by decide +kernel
theorem dX7_out_110 : decode cX7_out 110 = .ok (.iload_n 1, 1) := by decide +kernel
theorem dX7_out_111 : decode cX7_out 111 = .ok (.invokevirtual 208, 3) := by decide +kernel
theorem dX7_out_114 : decode cX7_out 114 = .ok (.ifCond .lt 26, 3) := by decide +kernel
theorem dX7_out_117 : decode cX7_out 117 = .ok (.aload_n 0, 1) := by decide +kernel
theorem dX7_out_118 : decode cX7_out 118 = .ok (.invokevirtual 211, 3) := by decide +kernel
theorem dX7_out_121 : decode cX7_out 121 = .ok (.ifCond .le 19, 3) := by decide +kernel
theorem dX7_out_124 : decode cX7_out 124 = .ok (.iload_n 3, 1) := by decide +kernel
theorem dX7_out_125 : decode cX7_out 125 = .ok (.ldc 41, 2) := by decide +kernel
theorem dX7_out_127 : decode cX7_out 127 = .ok (.if_icmp .eq 9, 3) := by decide +kernel
theorem dX7_out_130 : decode cX7_out 130 = .ok (.iload 6, 2) := by decide +kernel
theorem dX7_out_132 : decode cX7_out 132 = .ok (.iload_n 3, 1) := by decide +kernel
theorem dX7_out_133 : decode cX7_out 133 = .ok (.if_icmp .ge 7, 3) := by decide +kernel
theorem dX7_out_136 : decode cX7_out 136 = .ok (.iconst 1, 1) := by decide +kernel
theorem dX7_out_137 : decode cX7_out 137 = .ok (.goto 4, 3) := by decide +kernel
theorem dX7_out_140 : decode cX7_out 140 = .ok (.iconst 0, 1) := by decide +kernel
theorem dX7_out_141 : decode cX7_out 141 = .ok (.istore 7, 2) := by decide +kernel
theorem dX7_out_143 : decode cX7_out 143 = .ok (.iload 7, 2) := by decide +kernel
theorem dX7_out_145 : decode cX7_out 145 = .ok (.ifCond .eq 8, 3) := by decide +kernel
theorem dX7_out_148 : decode cX7_out 148 = .ok (.iload 5, 2) := by decide +kernel
theorem dX7_out_150 : decode cX7_out 150 = .ok (.goto 5, 3) := by decide +kernel
theorem dX7_out_153 : decode cX7_out 153 = .ok (.iload 4, 2) := by decide +kernel
theorem dX7_out_155 : decode cX7_out 155 = .ok (.istore 4, 2) := by decide +kernel
theorem dX7_out_157 : decode cX7_out 157 = .ok (.iload 7, 2) := by decide +kernel
theorem dX7_out_159 : decode cX7_out 159 = .ok (.ifCond .eq 8, 3) := by decide +kernel
theorem dX7_out_162 : decode cX7_out 162 = .ok (.iload 6, 2) := by decide +kernel
theorem dX7_out_164 : decode cX7_out 164 = .ok (.goto 4, 3) := by decide +kernel
theorem dX7_out_167 : decode cX7_out 167 = .ok (.iload_n 3, 1) := by decide +kernel
theorem dX7_out_168 : decode cX7_out 168 = .ok (.istore_n 3, 1) := by decide +kernel
theorem dX7_out_169 : decode cX7_out 169 = .ok (.iinc 5 1, 3) := by decide +kernel
theorem dX7_out_172 : decode cX7_out 172 = .ok (.goto (-134), 3) := by decide +kernel
theorem dX7_out_175 : decode cX7_out 175 = .ok (.iload_n 2, 1) := by decide +kernel
theorem dX7_out_176 : decode cX7_out 176 = .ok (.ifCond .ne 7, 3) := by decide +kernel
theorem dX7_out_179 : decode cX7_out 179 = .ok (.iload_n 3, 1) := by decide +kernel
theorem dX7_out_180 : decode cX7_out 180 = .ok (.goto 5, 3) := by decide +kernel
theorem dX7_out_183 : decode cX7_out 183 = .ok (.iload 4, 2) := by decide +kernel
theorem dX7_out_185 : decode cX7_out 185 = .ok (.ireturn, 1) := by decide +kernel
theorem dX7_firstFalse_0 : decode cX7_firstFalse 0 = .ok (.aload_n 0, 1) := by decide +kernel
theorem dX7_firstFalse_1 : decode cX7_firstFalse 1 = .ok (.invokevirtual 171, 3) := by decide +kernel
theorem dX7_firstFalse_4 : decode cX7_firstFalse 4 = .ok (.ifCond .ne 6, 3) := by decide +kernel
theorem dX7_firstFalse_7 : decode cX7_firstFalse 7 = .ok (.ldc 167, 2) := by decide +kernel
theorem dX7_firstFalse_9 : decode cX7_firstFalse 9 = .ok (.ireturn, 1) := by decide +kernel
theorem dX7_firstFalse_10 : decode cX7_firstFalse 10 = .ok (.iconst 0, 1) := by decide +kernel
theorem dX7_firstFalse_11 : decode cX7_firstFalse 11 = .ok (.istore_n 1, 1) := by decide +kernel
theorem dX7_firstFalse_12 : decode cX7_firstFalse 12 = .ok (.iconst 0, 1) := by decide +kernel
theorem dX7_firstFalse_13 : decode cX7_firstFalse 13 = .ok (.istore_n 2, 1) := by decide +kernel
theorem dX7_firstFalse_14 : decode cX7_firstFalse 14 = .ok (.iconst 0, 1) := by decide +kernel
theorem dX7_firstFalse_15 : decode cX7_firstFalse 15 = .ok (.istore_n 3, 1) := by decide +kernel
theorem dX7_firstFalse_16 : decode cX7_firstFalse 16 = .ok (.iload_n 3, 1) := by decide +kernel
theorem dX7_firstFalse_17 : decode cX7_firstFalse 17 = .ok (.aload_n 0, 1) := by decide +kernel
theorem dX7_firstFalse_18 : decode cX7_firstFalse 18 = .ok (.getfield 7, 3) := by decide +kernel
theorem dX7_firstFalse_21 : decode cX7_firstFalse 21 = .ok (.iconst 4, 1) := by decide +kernel
theorem dX7_firstFalse_22 : decode cX7_firstFalse 22 = .ok (.iaload, 1) := by decide +kernel
theorem dX7_firstFalse_23 : decode cX7_firstFalse 23 = .ok (.if_icmp .ge 92, 3) := by decide +kernel
theorem dX7_firstFalse_26 : decode cX7_firstFalse 26 = .ok (.aload_n 0, 1) := by decide +kernel
theorem dX7_firstFalse_27 : decode cX7_firstFalse 27 = .ok (.iload_n 3, 1) := by decide +kernel
theorem dX7_firstFalse_28 : decode cX7_firstFalse 28 = .ok (.iconst 0, 1) := by decide +kernel
theorem dX7_firstFalse_29 : decode cX7_firstFalse 29 = .ok (.invokevirtual 195, 3) := by decide +kernel
theorem dX7_firstFalse_32 : decode cX7_firstFalse 32 = .ok (.ifCond .eq 14, 3) := by decide +kernel
theorem dX7_firstFalse_35 : decode cX7_firstFalse 35 = .ok (.iconst 1, 1) := by decide +kernel
theorem dX7_firstFalse_36 : decode cX7_firstFalse 36 = .ok (.aload_n 0, 1) := by decide +kernel
theorem dX7_firstFalse_37 : decode cX7_firstFalse 37 = .ok (.iload_n 3, 1) := by decide +kernel
theorem dX7_firstFalse_38 : decode cX7_firstFalse 38 = .ok (.iconst 2, 1) := by decide +kernel
theorem dX7_firstFalse_39 : decode cX7_firstFalse 39 = .ok (.invokevirtual 191, 3) := by decide +kernel
theorem dX7_firstFalse_42 : decode cX7_firstFalse 42 = .ok (.ishl, 1) := by decide +kernel
theorem dX7_firstFalse_43 : decode cX7_firstFalse 43 = .ok (.goto 4, 3) := by decide +kernel
theorem dX7_firstFalse_46 : decode cX7_firstFalse 46 = .ok (.iconst 0, 1) := by decide +kernel
theorem dX7_firstFalse_47 : decode cX7_firstFalse 47 = .ok (.istore 4, 2) := by decide +kernel
theorem dX7_firstFalse_49 : decode cX7_firstFalse 49 = .ok (.aload_n 0, 1) := by decide +kernel
theorem dX7_firstFalse_50 : decode cX7_firstFalse 50 = .ok (.iload_n 3, 1) := by decide +kernel
theorem dX7_firstFalse_51 : decode cX7_firstFalse 51 = .ok (.iconst 3, 1) := by decide +kernel
theorem dX7_firstFalse_52 : decode cX7_firstFalse 52 = .ok (.invokevirtual 191, 3) := by decide +kernel
theorem dX7_firstFalse_55 : decode cX7_firstFalse 55 = .ok (.iconst 1, 1) := by decide +kernel
theorem dX7_firstFalse_56 : decode cX7_firstFalse 56 = .ok (.if_icmp .ne 7, 3) := by decide +kernel
theorem dX7_firstFalse_59 : decode cX7_firstFalse 59 = .ok (.iload_n 2, 1) := by decide +kernel
theorem dX7_firstFalse_60 : decode cX7_firstFalse 60 = .ok (.goto 4, 3) := by decide +kernel
theorem dX7_firstFalse_63 : decode cX7_firstFalse 63 = .ok (.iload_n 1, 1) := by decide +kernel
theorem dX7_firstFalse_64 : decode cX7_firstFalse 64 = .ok (.iload 4, 2) := by decide +kernel
theorem dX7_firstFalse_66 : decode cX7_firstFalse 66 = .ok (.iand, 1) := by decide +kernel
theorem dX7_firstFalse_67 : decode cX7_firstFalse 67 = .ok (.ifCond .eq 5, 3) := by decide +kernel
theorem dX7_firstFalse_70 : decode cX7_firstFalse 70 = .ok (.iload_n 3, 1) := by decide +kernel
theorem dX7_firstFalse_71 : decode cX7_firstFalse 71 = .ok (.ireturn, 1) := by decide +kernel
theorem dX7_firstFalse_72 : decode cX7_firstFalse 72 = .ok (.iload_n 1, 1) := by decide +kernel
theorem dX7_firstFalse_73 : decode cX7_firstFalse 73 = .ok (.aload_n 0, 1) := by decide +kernel
theorem dX7_firstFalse_74 : decode cX7_firstFalse 74 = .ok (.iload_n 3, 1) := by decide +kernel
theorem dX7_firstFalse_75 : decode cX7_firstFalse 75 = .ok (.iconst 3, 1) := by decide +kernel
theorem dX7_firstFalse_76 : decode cX7_firstFalse 76 = .ok (.invokevirtual 191, 3) := by decide +kernel
theorem dX7_firstFalse_79 : decode cX7_firstFalse 79 = .ok (.iconst 1, 1) := by decide +kernel
theorem dX7_firstFalse_80 : decode cX7_firstFalse 80 = .ok (.if_icmp .ne 8, 3) := by decide +kernel
theorem dX7_firstFalse_83 : decode cX7_firstFalse 83 = .ok (.iload 4, 2) := by decide +kernel
theorem dX7_firstFalse_85 : decode cX7_firstFalse 85 = .ok (.goto 4, 3) := by decide +kernel
theorem dX7_firstFalse_88 : decode cX7_firstFalse 88 = .ok (.iconst 0, 1) := by decide +kernel
theorem dX7_firstFalse_89 : decode cX7_firstFalse 89 = .ok (.ior, 1) := by decide +kernel
theorem dX7_firstFalse_90 : decode cX7_firstFalse 90 = .ok (.istore_n 1, 1) := by decide +kernel
theorem dX7_firstFalse_91 : decode cX7_firstFalse 91 = .ok (.iload_n 2, 1) := by decide +kernel
theorem dX7_firstFalse_92 : decode cX7_firstFalse 92 = .ok (.aload_n 0, 1) := by decide +kernel
theorem dX7_firstFalse_93 : decode cX7_firstFalse 93 = .ok (.iload_n 3, 1) := by decide +kernel
theorem dX7_firstFalse_94 : decode cX7_firstFalse 94 = .ok (.iconst 3, 1) := by decide +kernel
theorem dX7_firstFalse_95 : decode cX7_firstFalse 95 = .ok (.invokevirtual 191, 3) := by decide +kernel
theorem dX7_firstFalse_98 : decode cX7_firstFalse 98 = .ok (.ifCond .ne 8, 3) := by decide +kernel
theorem dX7_firstFalse_101 : decode cX7_firstFalse 101 = .ok (.iload 4, 2) := by decide +kernel
theorem dX7_firstFalse_103 : decode cX7_firstFalse 103 = .ok (.goto 4, 3) := by decide +kernel
theorem dX7_firstFalse_106 : decode cX7_firstFalse 106 = .ok (.iconst 0, 1) := by decide +kernel
theorem dX7_firstFalse_107 : decode cX7_firstFalse 107 = .ok (.ior, 1) := by decide +kernel
theorem dX7_firstFalse_108 : decode cX7_firstFalse 108 = .ok (.istore_n 2, 1) := by decide +kernel
theorem dX7_firstFalse_109 : decode cX7_firstFalse 109 = .ok (.iinc 3 1, 3) := by decide +kernel
theorem dX7_firstFalse_112 : decode cX7_firstFalse 112 = .ok (.goto (-96), 3) := by decide +kernel
theorem dX7_firstFalse_115 : decode cX7_firstFalse 115 = .ok (.ldc 41, 2) := by decide +kernel
theorem dX7_firstFalse_117 : decode cX7_firstFalse 117 = .ok (.ireturn, 1) := by decide +kernel
theorem dX7_warmBy_0 : decode cX7_warmBy 0 = .ok (.aload_n 0, 1) := by decide +kernel
theorem dX7_warmBy_1 : decode cX7_warmBy 1 = .ok (.getfield 7, 3) := by decide +kernel
theorem dX7_warmBy_4 : decode cX7_warmBy 4 = .ok (.iconst 3, 1) := by decide +kernel
theorem dX7_warmBy_5 : decode cX7_warmBy 5 = .ok (.iaload, 1) := by decide +kernel
theorem dX7_warmBy_6 : decode cX7_warmBy 6 = .ok (.iconst 1, 1) := by decide +kernel
theorem dX7_warmBy_7 : decode cX7_warmBy 7 = .ok (.iadd, 1) := by decide +kernel
theorem dX7_warmBy_8 : decode cX7_warmBy 8 = .ok (.istore 4, 2) := by decide +kernel
theorem dX7_warmBy_10 : decode cX7_warmBy 10 = .ok (.iload_n 2, 1) := by decide +kernel
theorem dX7_warmBy_11 : decode cX7_warmBy 11 = .ok (.iload 4, 2) := by decide +kernel
theorem dX7_warmBy_13 : decode cX7_warmBy 13 = .ok (.idiv, 1) := by decide +kernel
theorem dX7_warmBy_14 : decode cX7_warmBy 14 = .ok (.istore 5, 2) := by decide +kernel
theorem dX7_warmBy_16 : decode cX7_warmBy 16 = .ok (.iconst 0, 1) := by decide +kernel
theorem dX7_warmBy_17 : decode cX7_warmBy 17 = .ok (.istore 6, 2) := by decide +kernel
theorem dX7_warmBy_19 : decode cX7_warmBy 19 = .ok (.iconst 0, 1) := by decide +kernel
theorem dX7_warmBy_20 : decode cX7_warmBy 20 = .ok (.istore 7, 2) := by decide +kernel
theorem dX7_warmBy_22 : decode cX7_warmBy 22 = .ok (.iconst 0, 1) := by decide +kernel
theorem dX7_warmBy_23 : decode cX7_warmBy 23 = .ok (.istore 8, 2) := by decide +kernel
theorem dX7_warmBy_25 : decode cX7_warmBy 25 = .ok (.iload 8, 2) := by decide +kernel
theorem dX7_warmBy_27 : decode cX7_warmBy 27 = .ok (.aload_n 0, 1) := by decide +kernel
theorem dX7_warmBy_28 : decode cX7_warmBy 28 = .ok (.getfield 7, 3) := by decide +kernel
theorem dX7_warmBy_31 : decode cX7_warmBy 31 = .ok (.iconst 1, 1) := by decide +kernel
theorem dX7_warmBy_32 : decode cX7_warmBy 32 = .ok (.iaload, 1) := by decide +kernel
theorem dX7_warmBy_33 : decode cX7_warmBy 33 = .ok (.if_icmp .ge 93, 3) := by decide +kernel
theorem dX7_warmBy_36 : decode cX7_warmBy 36 = .ok (.iload_n 1, 1) := by decide +kernel
theorem dX7_warmBy_37 : decode cX7_warmBy 37 = .ok (.iload 5, 2) := by decide +kernel
theorem dX7_warmBy_39 : decode cX7_warmBy 39 = .ok (.idiv, 1) := by decide +kernel
theorem dX7_warmBy_40 : decode cX7_warmBy 40 = .ok (.iload 4, 2) := by decide +kernel
theorem dX7_warmBy_42 : decode cX7_warmBy 42 = .ok (.irem, 1) := by decide +kernel
theorem dX7_warmBy_43 : decode cX7_warmBy 43 = .ok (.iconst 1, 1) := by decide +kernel
theorem dX7_warmBy_44 : decode cX7_warmBy 44 = .ok (.isub, 1) := by decide +kernel
theorem dX7_warmBy_45 : decode cX7_warmBy 45 = .ok (.istore 9, 2) := by decide +kernel
theorem dX7_warmBy_47 : decode cX7_warmBy 47 = .ok (.iload 9, 2) := by decide +kernel
theorem dX7_warmBy_49 : decode cX7_warmBy 49 = .ok (.ifCond .lt 64, 3) := by decide +kernel
theorem dX7_warmBy_52 : decode cX7_warmBy 52 = .ok (.iload 6, 2) := by decide +kernel
theorem dX7_warmBy_54 : decode cX7_warmBy 54 = .ok (.iload 9, 2) := by decide +kernel
theorem dX7_warmBy_56 : decode cX7_warmBy 56 = .ok (.invokestatic 154, 3) := by decide +kernel
theorem dX7_warmBy_59 : decode cX7_warmBy 59 = .ok (.ifCond .ne 32, 3) := by decide +kernel
theorem dX7_warmBy_62 : decode cX7_warmBy 62 = .ok (.aload_n 0, 1) := by decide +kernel
theorem dX7_warmBy_63 : decode cX7_warmBy 63 = .ok (.iload 9, 2) := by decide +kernel
theorem dX7_warmBy_65 : decode cX7_warmBy 65 = .ok (.invokevirtual 164, 3) := by decide +kernel
theorem dX7_warmBy_68 : decode cX7_warmBy 68 = .ok (.ifCond .ne 23, 3) := by decide +kernel
theorem dX7_warmBy_71 : decode cX7_warmBy 71 = .ok (.iload_n 3, 1) := by decide +kernel
theorem dX7_warmBy_72 : decode cX7_warmBy 72 = .ok (.iload 8, 2) := by decide +kernel
theorem dX7_warmBy_74 : decode cX7_warmBy 74 = .ok (.invokestatic 154, 3) := by decide +kernel
theorem dX7_warmBy_77 : decode cX7_warmBy 77 = .ok (.ifCond .eq 16, 3) := by decide +kernel
theorem dX7_warmBy_80 : decode cX7_warmBy 80 = .ok (.aload_n 0, 1) := by decide +kernel
theorem dX7_warmBy_81 : decode cX7_warmBy 81 = .ok (.iload 8, 2) := by decide +kernel
theorem dX7_warmBy_83 : decode cX7_warmBy 83 = .ok (.iload 9, 2) := by decide +kernel
theorem dX7_warmBy_85 : decode cX7_warmBy 85 = .ok (.invokevirtual 182, 3) := by decide +kernel
theorem dX7_warmBy_88 : decode cX7_warmBy 88 = .ok (.ifCond .eq 5, 3) := by decide +kernel
theorem dX7_warmBy_91 : decode cX7_warmBy 91 = .ok (.iconst (-1), 1) := by decide +kernel
theorem dX7_warmBy_92 : decode cX7_warmBy 92 = .ok (.ireturn, 1) := by decide +kernel
theorem dX7_warmBy_93 : decode cX7_warmBy 93 = .ok (.iload 6, 2) := by decide +kernel
theorem dX7_warmBy_95 : decode cX7_warmBy 95 = .ok (.iconst 1, 1) := by decide +kernel
theorem dX7_warmBy_96 : decode cX7_warmBy 96 = .ok (.iload 9, 2) := by decide +kernel
theorem dX7_warmBy_98 : decode cX7_warmBy 98 = .ok (.ishl, 1) := by decide +kernel
theorem dX7_warmBy_99 : decode cX7_warmBy 99 = .ok (.ior, 1) := by decide +kernel
theorem dX7_warmBy_100 : decode cX7_warmBy 100 = .ok (.istore 6, 2) := by decide +kernel
theorem dX7_warmBy_102 : decode cX7_warmBy 102 = .ok (.iload 7, 2) := by decide +kernel
theorem dX7_warmBy_104 : decode cX7_warmBy 104 = .ok (.aload_n 0, 1) := by decide +kernel
theorem dX7_warmBy_105 : decode cX7_warmBy 105 = .ok (.iload 9, 2) := by decide +kernel
theorem dX7_warmBy_107 : decode cX7_warmBy 107 = .ok (.invokevirtual 185, 3) := by decide +kernel
theorem dX7_warmBy_110 : decode cX7_warmBy 110 = .ok (.iadd, 1) := by decide +kernel
theorem dX7_warmBy_111 : decode cX7_warmBy 111 = .ok (.istore 7, 2) := by decide +kernel
theorem dX7_warmBy_113 : decode cX7_warmBy 113 = .ok (.iload 5, 2) := by decide +kernel
theorem dX7_warmBy_115 : decode cX7_warmBy 115 = .ok (.iload 4, 2) := by decide +kernel
theorem dX7_warmBy_117 : decode cX7_warmBy 117 = .ok (.idiv, 1) := by decide +kernel
theorem dX7_warmBy_118 : decode cX7_warmBy 118 = .ok (.istore 5, 2) := by decide +kernel
theorem dX7_warmBy_120 : decode cX7_warmBy 120 = .ok (.iinc 8 1, 3) := by decide +kernel
theorem dX7_warmBy_123 : decode cX7_warmBy 123 = .ok (.goto (-98), 3) := by decide +kernel
theorem dX7_warmBy_126 : decode cX7_warmBy 126 = .ok (.iload 7, 2) := by decide +kernel
theorem dX7_warmBy_128 : decode cX7_warmBy 128 = .ok (.ireturn, 1) := by decide +kernel
theorem dX7_wear_0 : decode cX7_wear 0 = .ok (.aload_n 0, 1) := by decide +kernel
theorem dX7_wear_1 : decode cX7_wear 1 = .ok (.invokevirtual 171, 3) := by decide +kernel
theorem dX7_wear_4 : decode cX7_wear 4 = .ok (.ifCond .ne 6, 3) := by decide +kernel
theorem dX7_wear_7 : decode cX7_wear 7 = .ok (.ldc 167, 2) := by decide +kernel
theorem dX7_wear_9 : decode cX7_wear 9 = .ok (.ireturn, 1) := by decide +kernel
theorem dX7_wear_10 : decode cX7_wear 10 = .ok (.iload_n 1, 1) := by decide +kernel
theorem dX7_wear_11 : decode cX7_wear 11 = .ok (.iconst 0, 1) := by decide +kernel
theorem dX7_wear_12 : decode cX7_wear 12 = .ok (.iconst 1, 1) := by decide +kernel
theorem dX7_wear_13 : decode cX7_wear 13 = .ok (.aload_n 0, 1) := by decide +kernel
theorem dX7_wear_14 : decode cX7_wear 14 = .ok (.getfield 7, 3) := by decide +kernel
theorem dX7_wear_17 : decode cX7_wear 17 = .ok (.iconst 1, 1) := by decide +kernel
theorem dX7_wear_18 : decode cX7_wear 18 = .ok (.iaload, 1) := by decide +kernel
theorem dX7_wear_19 : decode cX7_wear 19 = .ok (.ishl, 1) := by decide +kernel
theorem dX7_wear_20 : decode cX7_wear 20 = .ok (.iconst 1, 1) := by decide +kernel
theorem dX7_wear_21 : decode cX7_wear 21 = .ok (.isub, 1) := by decide +kernel
theorem dX7_wear_22 : decode cX7_wear 22 = .ok (.invokestatic 47, 3) := by decide +kernel
theorem dX7_wear_25 : decode cX7_wear 25 = .ok (.ifCond .eq 19, 3) := by decide +kernel
theorem dX7_wear_28 : decode cX7_wear 28 = .ok (.iload_n 2, 1) := by decide +kernel
theorem dX7_wear_29 : decode cX7_wear 29 = .ok (.iconst (-1), 1) := by decide +kernel
theorem dX7_wear_30 : decode cX7_wear 30 = .ok (.aload_n 0, 1) := by decide +kernel
theorem dX7_wear_31 : decode cX7_wear 31 = .ok (.getfield 7, 3) := by decide +kernel
theorem dX7_wear_34 : decode cX7_wear 34 = .ok (.iconst 1, 1) := by decide +kernel
theorem dX7_wear_35 : decode cX7_wear 35 = .ok (.iaload, 1) := by decide +kernel
theorem dX7_wear_36 : decode cX7_wear 36 = .ok (.iconst 1, 1) := by decide +kernel
theorem dX7_wear_37 : decode cX7_wear 37 = .ok (.isub, 1) := by decide +kernel
theorem dX7_wear_38 : decode cX7_wear 38 = .ok (.invokestatic 47, 3) := by decide +kernel
theorem dX7_wear_41 : decode cX7_wear 41 = .ok (.ifCond .ne 6, 3) := by decide +kernel
theorem dX7_wear_44 : decode cX7_wear 44 = .ok (.ldc 55, 2) := by decide +kernel
theorem dX7_wear_46 : decode cX7_wear 46 = .ok (.ireturn, 1) := by decide +kernel
theorem dX7_wear_47 : decode cX7_wear 47 = .ok (.aload_n 0, 1) := by decide +kernel
theorem dX7_wear_48 : decode cX7_wear 48 = .ok (.getfield 7, 3) := by decide +kernel
theorem dX7_wear_51 : decode cX7_wear 51 = .ok (.iconst 3, 1) := by decide +kernel
theorem dX7_wear_52 : decode cX7_wear 52 = .ok (.iaload, 1) := by decide +kernel
theorem dX7_wear_53 : decode cX7_wear 53 = .ok (.iconst 1, 1) := by decide +kernel
theorem dX7_wear_54 : decode cX7_wear 54 = .ok (.iadd, 1) := by decide +kernel
theorem dX7_wear_55 : decode cX7_wear 55 = .ok (.istore_n 3, 1) := by decide +kernel
theorem dX7_wear_56 : decode cX7_wear 56 = .ok (.iconst 1, 1) := by decide +kernel
theorem dX7_wear_57 : decode cX7_wear 57 = .ok (.istore 4, 2) := by decide +kernel
theorem dX7_wear_59 : decode cX7_wear 59 = .ok (.iconst 0, 1) := by decide +kernel
theorem dX7_wear_60 : decode cX7_wear 60 = .ok (.istore 5, 2) := by decide +kernel
theorem dX7_wear_62 : decode cX7_wear 62 = .ok (.iload 5, 2) := by decide +kernel
theorem dX7_wear_64 : decode cX7_wear 64 = .ok (.aload_n 0, 1) := by decide +kernel
theorem dX7_wear_65 : decode cX7_wear 65 = .ok (.getfield 7, 3) := by decide +kernel
theorem dX7_wear_68 : decode cX7_wear 68 = .ok (.iconst 1, 1) := by decide +kernel
theorem dX7_wear_69 : decode cX7_wear 69 = .ok (.iaload, 1) := by decide +kernel
theorem dX7_wear_70 : decode cX7_wear 70 = .ok (.if_icmp .ge 15, 3) := by decide +kernel
theorem dX7_wear_73 : decode cX7_wear 73 = .ok (.iload 4, 2) := by decide +kernel
theorem dX7_wear_75 : decode cX7_wear 75 = .ok (.iload_n 3, 1) := by decide +kernel
theorem dX7_wear_76 : decode cX7_wear 76 = .ok (.imul, 1) := by decide +kernel
theorem dX7_wear_77 : decode cX7_wear 77 = .ok (.istore 4, 2) := by decide +kernel
theorem dX7_wear_79 : decode cX7_wear 79 = .ok (.iinc 5 1, 3) := by decide +kernel
theorem dX7_wear_82 : decode cX7_wear 82 = .ok (.goto (-20), 3) := by decide +kernel
theorem dX7_wear_85 : decode cX7_wear 85 = .ok (.iconst (-1), 1) := by decide +kernel
theorem dX7_wear_86 : decode cX7_wear 86 = .ok (.istore 5, 2) := by decide +kernel
theorem dX7_wear_88 : decode cX7_wear 88 = .ok (.iconst 0, 1) := by decide +kernel
theorem dX7_wear_89 : decode cX7_wear 89 = .ok (.istore 6, 2) := by decide +kernel
theorem dX7_wear_91 : decode cX7_wear 91 = .ok (.iconst 0, 1) := by decide +kernel
theorem dX7_wear_92 : decode cX7_wear 92 = .ok (.istore 7, 2) := by decide +kernel
theorem dX7_wear_94 : decode cX7_wear 94 = .ok (.iload 7, 2) := by decide +kernel
theorem dX7_wear_96 : decode cX7_wear 96 = .ok (.iload 4, 2) := by decide +kernel
theorem dX7_wear_98 : decode cX7_wear 98 = .ok (.if_icmp .ge 52, 3) := by decide +kernel
theorem dX7_wear_101 : decode cX7_wear 101 = .ok (.aload_n 0, 1) := by decide +kernel
theorem dX7_wear_102 : decode cX7_wear 102 = .ok (.iload 7, 2) := by decide +kernel
theorem dX7_wear_104 : decode cX7_wear 104 = .ok (.iload 4, 2) := by decide +kernel
theorem dX7_wear_106 : decode cX7_wear 106 = .ok (.iload_n 1, 1) := by decide +kernel
theorem dX7_wear_107 : decode cX7_wear 107 = .ok (.invokevirtual 217, 3) := by decide +kernel
theorem dX7_wear_110 : decode cX7_wear 110 = .ok (.istore 8, 2) := by decide +kernel
theorem dX7_wear_112 : decode cX7_wear 112 = .ok (.iload 8, 2) := by decide +kernel
theorem dX7_wear_114 : decode cX7_wear 114 = .ok (.iload 5, 2) := by decide +kernel
theorem dX7_wear_116 : decode cX7_wear 116 = .ok (.if_icmp .le 8, 3) := by decide +kernel
theorem dX7_wear_119 : decode cX7_wear 119 = .ok (.iload 7, 2) := by decide +kernel
theorem dX7_wear_121 : decode cX7_wear 121 = .ok (.goto 5, 3) := by decide +kernel
theorem dX7_wear_124 : decode cX7_wear 124 = .ok (.iload 6, 2) := by decide +kernel
theorem dX7_wear_126 : decode cX7_wear 126 = .ok (.istore 6, 2) := by decide +kernel
theorem dX7_wear_128 : decode cX7_wear 128 = .ok (.iload 8, 2) := by decide +kernel
theorem dX7_wear_130 : decode cX7_wear 130 = .ok (.iload 5, 2) := by decide +kernel
theorem dX7_wear_132 : decode cX7_wear 132 = .ok (.if_icmp .le 8, 3) := by decide +kernel
theorem dX7_wear_135 : decode cX7_wear 135 = .ok (.iload 8, 2) := by decide +kernel
theorem dX7_wear_137 : decode cX7_wear 137 = .ok (.goto 5, 3) := by decide +kernel
theorem dX7_wear_140 : decode cX7_wear 140 = .ok (.iload 5, 2) := by decide +kernel
theorem dX7_wear_142 : decode cX7_wear 142 = .ok (.istore 5, 2) := by decide +kernel
theorem dX7_wear_144 : decode cX7_wear 144 = .ok (.iinc 7 1, 3) := by decide +kernel
theorem dX7_wear_147 : decode cX7_wear 147 = .ok (.goto (-53), 3) := by decide +kernel
theorem dX7_wear_150 : decode cX7_wear 150 = .ok (.iload 4, 2) := by decide +kernel
theorem dX7_wear_152 : decode cX7_wear 152 = .ok (.istore 7, 2) := by decide +kernel
theorem dX7_wear_154 : decode cX7_wear 154 = .ok (.iconst 0, 1) := by decide +kernel
theorem dX7_wear_155 : decode cX7_wear 155 = .ok (.istore 8, 2) := by decide +kernel
theorem dX7_wear_157 : decode cX7_wear 157 = .ok (.iload 8, 2) := by decide +kernel
theorem dX7_wear_159 : decode cX7_wear 159 = .ok (.iload_n 2, 1) := by decide +kernel
theorem dX7_wear_160 : decode cX7_wear 160 = .ok (.if_icmp .gt 15, 3) := by decide +kernel
theorem dX7_wear_163 : decode cX7_wear 163 = .ok (.iload 7, 2) := by decide +kernel
theorem dX7_wear_165 : decode cX7_wear 165 = .ok (.iload_n 3, 1) := by decide +kernel
theorem dX7_wear_166 : decode cX7_wear 166 = .ok (.idiv, 1) := by decide +kernel
theorem dX7_wear_167 : decode cX7_wear 167 = .ok (.istore 7, 2) := by decide +kernel
theorem dX7_wear_169 : decode cX7_wear 169 = .ok (.iinc 8 1, 3) := by decide +kernel
theorem dX7_wear_172 : decode cX7_wear 172 = .ok (.goto (-15), 3) := by decide +kernel
theorem dX7_wear_175 : decode cX7_wear 175 = .ok (.iload_n 2, 1) := by decide +kernel
theorem dX7_wear_176 : decode cX7_wear 176 = .ok (.ifCond .ge 8, 3) := by decide +kernel
theorem dX7_wear_179 : decode cX7_wear 179 = .ok (.iload 5, 2) := by decide +kernel
theorem dX7_wear_181 : decode cX7_wear 181 = .ok (.goto 12, 3) := by decide +kernel
theorem dX7_wear_184 : decode cX7_wear 184 = .ok (.iload 6, 2) := by decide +kernel
theorem dX7_wear_186 : decode cX7_wear 186 = .ok (.iload 7, 2) := by decide +kernel
theorem dX7_wear_188 : decode cX7_wear 188 = .ok (.idiv, 1) := by decide +kernel
theorem dX7_wear_189 : decode cX7_wear 189 = .ok (.iload_n 3, 1) := by decide +kernel
theorem dX7_wear_190 : decode cX7_wear 190 = .ok (.irem, 1) := by decide +kernel
theorem dX7_wear_191 : decode cX7_wear 191 = .ok (.iconst 1, 1) := by decide +kernel
theorem dX7_wear_192 : decode cX7_wear 192 = .ok (.isub, 1) := by decide +kernel
theorem dX7_wear_193 : decode cX7_wear 193 = .ok (.ireturn, 1) := by decide +kernel
theorem dX7_findBids_0 : decode cX7_findBids 0 = .ok (.aload_n 0, 1) := by decide +kernel
theorem dX7_findBids_1 : decode cX7_findBids 1 = .ok (.ldc 41, 2) := by decide +kernel
theorem dX7_findBids_3 : decode cX7_findBids 3 = .ok (.putfield 220, 3) := by decide +kernel
theorem dX7_findBids_6 : decode cX7_findBids 6 = .ok (.aload_n 0, 1) := by decide +kernel
theorem dX7_findBids_7 : decode cX7_findBids 7 = .ok (.iconst 0, 1) := by decide +kernel
theorem dX7_findBids_8 : decode cX7_findBids 8 = .ok (.putfield 223, 3) := by decide +kernel
theorem dX7_findBids_11 : decode cX7_findBids 11 = .ok (.iconst 1, 1) := by decide +kernel
theorem dX7_findBids_12 : decode cX7_findBids 12 = .ok (.istore_n 3, 1) := by decide +kernel
theorem dX7_findBids_13 : decode cX7_findBids 13 = .ok (.iload_n 3, 1) := by decide +kernel
theorem dX7_findBids_14 : decode cX7_findBids 14 = .ok (.ifCond .eq 76, 3) := by decide +kernel
theorem dX7_findBids_17 : decode cX7_findBids 17 = .ok (.iconst 0, 1) := by decide +kernel
theorem dX7_findBids_18 : decode cX7_findBids 18 = .ok (.istore_n 3, 1) := by decide +kernel
theorem dX7_findBids_19 : decode cX7_findBids 19 = .ok (.iconst 0, 1) := by decide +kernel
theorem dX7_findBids_20 : decode cX7_findBids 20 = .ok (.istore 4, 2) := by decide +kernel
theorem dX7_findBids_22 : decode cX7_findBids 22 = .ok (.iload 4, 2) := by decide +kernel
theorem dX7_findBids_24 : decode cX7_findBids 24 = .ok (.aload_n 0, 1) := by decide +kernel
theorem dX7_findBids_25 : decode cX7_findBids 25 = .ok (.getfield 7, 3) := by decide +kernel
theorem dX7_findBids_28 : decode cX7_findBids 28 = .ok (.iconst 1, 1) := by decide +kernel
theorem dX7_findBids_29 : decode cX7_findBids 29 = .ok (.iaload, 1) := by decide +kernel
theorem dX7_findBids_30 : decode cX7_findBids 30 = .ok (.if_icmp .ge 57, 3) := by decide +kernel
theorem dX7_findBids_33 : decode cX7_findBids 33 = .ok (.iload 4, 2) := by decide +kernel
theorem dX7_findBids_35 : decode cX7_findBids 35 = .ok (.aload_n 0, 1) := by decide +kernel
theorem dX7_findBids_36 : decode cX7_findBids 36 = .ok (.getfield 220, 3) := by decide +kernel
theorem dX7_findBids_39 : decode cX7_findBids 39 = .ok (.if_icmp .eq 42, 3) := by decide +kernel
theorem dX7_findBids_42 : decode cX7_findBids 42 = .ok (.aload_n 0, 1) := by decide +kernel
theorem dX7_findBids_43 : decode cX7_findBids 43 = .ok (.getfield 29, 3) := by decide +kernel
theorem dX7_findBids_46 : decode cX7_findBids 46 = .ok (.bipush 40, 2) := by decide +kernel
theorem dX7_findBids_48 : decode cX7_findBids 48 = .ok (.iload_n 1, 1) := by decide +kernel
theorem dX7_findBids_49 : decode cX7_findBids 49 = .ok (.imul, 1) := by decide +kernel
theorem dX7_findBids_50 : decode cX7_findBids 50 = .ok (.iload_n 2, 1) := by decide +kernel
theorem dX7_findBids_51 : decode cX7_findBids 51 = .ok (.iadd, 1) := by decide +kernel
theorem dX7_findBids_52 : decode cX7_findBids 52 = .ok (.iload 4, 2) := by decide +kernel
theorem dX7_findBids_54 : decode cX7_findBids 54 = .ok (.iadd, 1) := by decide +kernel
theorem dX7_findBids_55 : decode cX7_findBids 55 = .ok (.iaload, 1) := by decide +kernel
theorem dX7_findBids_56 : decode cX7_findBids 56 = .ok (.aload_n 0, 1) := by decide +kernel
theorem dX7_findBids_57 : decode cX7_findBids 57 = .ok (.getfield 223, 3) := by decide +kernel
theorem dX7_findBids_60 : decode cX7_findBids 60 = .ok (.if_icmp .le 21, 3) := by decide +kernel
theorem dX7_findBids_63 : decode cX7_findBids 63 = .ok (.aload_n 0, 1) := by decide +kernel
theorem dX7_findBids_64 : decode cX7_findBids 64 = .ok (.dup, 1) := by decide +kernel
theorem dX7_findBids_65 : decode cX7_findBids 65 = .ok (.getfield 223, 3) := by decide +kernel
theorem dX7_findBids_68 : decode cX7_findBids 68 = .ok (.iconst 1, 1) := by decide +kernel
theorem dX7_findBids_69 : decode cX7_findBids 69 = .ok (.iadd, 1) := by decide +kernel
theorem dX7_findBids_70 : decode cX7_findBids 70 = .ok (.putfield 223, 3) := by decide +kernel
theorem dX7_findBids_73 : decode cX7_findBids 73 = .ok (.aload_n 0, 1) := by decide +kernel
theorem dX7_findBids_74 : decode cX7_findBids 74 = .ok (.iload 4, 2) := by decide +kernel
theorem dX7_findBids_76 : decode cX7_findBids 76 = .ok (.putfield 220, 3) := by decide +kernel
theorem dX7_findBids_79 : decode cX7_findBids 79 = .ok (.iconst 1, 1) := by decide +kernel
theorem dX7_findBids_80 : decode cX7_findBids 80 = .ok (.istore_n 3, 1) := by decide +kernel
theorem dX7_findBids_81 : decode cX7_findBids 81 = .ok (.iinc 4 1, 3) := by decide +kernel
theorem dX7_findBids_84 : decode cX7_findBids 84 = .ok (.goto (-62), 3) := by decide +kernel
theorem dX7_findBids_87 : decode cX7_findBids 87 = .ok (.goto (-74), 3) := by decide +kernel
theorem dX7_findBids_90 : decode cX7_findBids 90 = .ok (.return_, 1) := by decide +kernel
theorem dX7_bids_0 : decode cX7_bids 0 = .ok (.aload_n 0, 1) := by decide +kernel
theorem dX7_bids_1 : decode cX7_bids 1 = .ok (.invokevirtual 171, 3) := by decide +kernel
theorem dX7_bids_4 : decode cX7_bids 4 = .ok (.ifCond .ne 6, 3) := by decide +kernel
theorem dX7_bids_7 : decode cX7_bids 7 = .ok (.ldc 167, 2) := by decide +kernel
theorem dX7_bids_9 : decode cX7_bids 9 = .ok (.ireturn, 1) := by decide +kernel
theorem dX7_bids_10 : decode cX7_bids 10 = .ok (.iload_n 1, 1) := by decide +kernel
theorem dX7_bids_11 : decode cX7_bids 11 = .ok (.invokestatic 51, 3) := by decide +kernel
theorem dX7_bids_14 : decode cX7_bids 14 = .ok (.ifCond .eq 12, 3) := by decide +kernel
theorem dX7_bids_17 : decode cX7_bids 17 = .ok (.iload_n 3, 1) := by decide +kernel
theorem dX7_bids_18 : decode cX7_bids 18 = .ok (.iconst 0, 1) := by decide +kernel
theorem dX7_bids_19 : decode cX7_bids 19 = .ok (.iconst 1, 1) := by decide +kernel
theorem dX7_bids_20 : decode cX7_bids 20 = .ok (.invokestatic 47, 3) := by decide +kernel
theorem dX7_bids_23 : decode cX7_bids 23 = .ok (.ifCond .ne 6, 3) := by decide +kernel
theorem dX7_bids_26 : decode cX7_bids 26 = .ok (.ldc 55, 2) := by decide +kernel
theorem dX7_bids_28 : decode cX7_bids 28 = .ok (.ireturn, 1) := by decide +kernel
theorem dX7_bids_29 : decode cX7_bids 29 = .ok (.aload_n 0, 1) := by decide +kernel
theorem dX7_bids_30 : decode cX7_bids 30 = .ok (.getfield 23, 3) := by decide +kernel
theorem dX7_bids_33 : decode cX7_bids 33 = .ok (.iload_n 1, 1) := by decide +kernel
theorem dX7_bids_34 : decode cX7_bids 34 = .ok (.iaload, 1) := by decide +kernel
theorem dX7_bids_35 : decode cX7_bids 35 = .ok (.ldc 41, 2) := by decide +kernel
theorem dX7_bids_37 : decode cX7_bids 37 = .ok (.if_icmp .ne 9, 3) := by decide +kernel
theorem dX7_bids_40 : decode cX7_bids 40 = .ok (.aload_n 0, 1) := by decide +kernel
theorem dX7_bids_41 : decode cX7_bids 41 = .ok (.iconst 1, 1) := by decide +kernel
theorem dX7_bids_42 : decode cX7_bids 42 = .ok (.invokevirtual 56, 3) := by decide +kernel
theorem dX7_bids_45 : decode cX7_bids 45 = .ok (.ireturn, 1) := by decide +kernel
theorem dX7_bids_46 : decode cX7_bids 46 = .ok (.aload_n 0, 1) := by decide +kernel
theorem dX7_bids_47 : decode cX7_bids 47 = .ok (.iload_n 1, 1) := by decide +kernel
theorem dX7_bids_48 : decode cX7_bids 48 = .ok (.iload_n 2, 1) := by decide +kernel
theorem dX7_bids_49 : decode cX7_bids 49 = .ok (.aload_n 0, 1) := by decide +kernel
theorem dX7_bids_50 : decode cX7_bids 50 = .ok (.getfield 7, 3) := by decide +kernel
theorem dX7_bids_53 : decode cX7_bids 53 = .ok (.iconst 1, 1) := by decide +kernel
theorem dX7_bids_54 : decode cX7_bids 54 = .ok (.iaload, 1) := by decide +kernel
theorem dX7_bids_55 : decode cX7_bids 55 = .ok (.invokevirtual 63, 3) := by decide +kernel
theorem dX7_bids_58 : decode cX7_bids 58 = .ok (.ifCond .ne 9, 3) := by decide +kernel
theorem dX7_bids_61 : decode cX7_bids 61 = .ok (.aload_n 0, 1) := by decide +kernel
theorem dX7_bids_62 : decode cX7_bids 62 = .ok (.iconst 2, 1) := by decide +kernel
theorem dX7_bids_63 : decode cX7_bids 63 = .ok (.invokevirtual 56, 3) := by decide +kernel
theorem dX7_bids_66 : decode cX7_bids 66 = .ok (.ireturn, 1) := by decide +kernel
theorem dX7_bids_67 : decode cX7_bids 67 = .ok (.iconst 1, 1) := by decide +kernel
theorem dX7_bids_68 : decode cX7_bids 68 = .ok (.istore 4, 2) := by decide +kernel
theorem dX7_bids_70 : decode cX7_bids 70 = .ok (.iconst 0, 1) := by decide +kernel
theorem dX7_bids_71 : decode cX7_bids 71 = .ok (.istore 5, 2) := by decide +kernel
theorem dX7_bids_73 : decode cX7_bids 73 = .ok (.iload 5, 2) := by decide +kernel
theorem dX7_bids_75 : decode cX7_bids 75 = .ok (.aload_n 0, 1) := by decide +kernel
theorem dX7_bids_76 : decode cX7_bids 76 = .ok (.getfield 7, 3) := by decide +kernel
theorem dX7_bids_79 : decode cX7_bids 79 = .ok (.iconst 1, 1) := by decide +kernel
theorem dX7_bids_80 : decode cX7_bids 80 = .ok (.iaload, 1) := by decide +kernel
theorem dX7_bids_81 : decode cX7_bids 81 = .ok (.if_icmp .ge 45, 3) := by decide +kernel
theorem dX7_bids_84 : decode cX7_bids 84 = .ok (.iload 4, 2) := by decide +kernel
theorem dX7_bids_86 : decode cX7_bids 86 = .ok (.ifCond .eq 31, 3) := by decide +kernel
theorem dX7_bids_89 : decode cX7_bids 89 = .ok (.aload_n 0, 1) := by decide +kernel
theorem dX7_bids_90 : decode cX7_bids 90 = .ok (.getfield 29, 3) := by decide +kernel
theorem dX7_bids_93 : decode cX7_bids 93 = .ok (.bipush 40, 2) := by decide +kernel
theorem dX7_bids_95 : decode cX7_bids 95 = .ok (.iload_n 1, 1) := by decide +kernel
theorem dX7_bids_96 : decode cX7_bids 96 = .ok (.imul, 1) := by decide +kernel
theorem dX7_bids_97 : decode cX7_bids 97 = .ok (.iload_n 2, 1) := by decide +kernel
theorem dX7_bids_98 : decode cX7_bids 98 = .ok (.iadd, 1) := by decide +kernel
theorem dX7_bids_99 : decode cX7_bids 99 = .ok (.iload 5, 2) := by decide +kernel
theorem dX7_bids_101 : decode cX7_bids 101 = .ok (.iadd, 1) := by decide +kernel
theorem dX7_bids_102 : decode cX7_bids 102 = .ok (.iaload, 1) := by decide +kernel
theorem dX7_bids_103 : decode cX7_bids 103 = .ok (.iconst 0, 1) := by decide +kernel
theorem dX7_bids_104 : decode cX7_bids 104 = .ok (.sipush 999, 3) := by decide +kernel
theorem dX7_bids_107 : decode cX7_bids 107 = .ok (.invokestatic 47, 3) := by decide +kernel
theorem dX7_bids_110 : decode cX7_bids 110 = .ok (.ifCond .eq 7, 3) := by decide +kernel
theorem dX7_bids_113 : decode cX7_bids 113 = .ok (.iconst 1, 1) := by decide +kernel
theorem dX7_bids_114 : decode cX7_bids 114 = .ok (.goto 4, 3) := by decide +kernel
theorem dX7_bids_117 : decode cX7_bids 117 = .ok (.iconst 0, 1) := by decide +kernel
theorem dX7_bids_118 : decode cX7_bids 118 = .ok (.istore 4, 2) := by decide +kernel
theorem dX7_bids_120 : decode cX7_bids 120 = .ok (.iinc 5 1, 3) := by decide +kernel
theorem dX7_bids_123 : decode cX7_bids 123 = .ok (.goto (-50), 3) := by decide +kernel
theorem dX7_bids_126 : decode cX7_bids 126 = .ok (.iload 4, 2) := by decide +kernel
theorem dX7_bids_128 : decode cX7_bids 128 = .ok (.ifCond .ne 6, 3) := by decide +kernel
theorem dX7_bids_131 : decode cX7_bids 131 = .ok (.ldc 55, 2) := by decide +kernel
theorem dX7_bids_133 : decode cX7_bids 133 = .ok (.ireturn, 1) := by decide +kernel
theorem dX7_bids_134 : decode cX7_bids 134 = .ok (.aload_n 0, 1) := by decide +kernel
theorem dX7_bids_135 : decode cX7_bids 135 = .ok (.iload_n 1, 1) := by decide +kernel
theorem dX7_bids_136 : decode cX7_bids 136 = .ok (.iload_n 2, 1) := by decide +kernel
theorem dX7_bids_137 : decode cX7_bids 137 = .ok (.invokevirtual 226, 3) := by decide +kernel
theorem dX7_bids_140 : decode cX7_bids 140 = .ok (.aload_n 0, 1) := by decide +kernel
theorem dX7_bids_141 : decode cX7_bids 141 = .ok (.aload_n 0, 1) := by decide +kernel
theorem dX7_bids_142 : decode cX7_bids 142 = .ok (.getfield 220, 3) := by decide +kernel
theorem dX7_bids_145 : decode cX7_bids 145 = .ok (.ldc 41, 2) := by decide +kernel
theorem dX7_bids_147 : decode cX7_bids 147 = .ok (.if_icmp .ne 8, 3) := by decide +kernel
theorem dX7_bids_150 : decode cX7_bids 150 = .ok (.ldc 41, 2) := by decide +kernel
theorem dX7_bids_152 : decode cX7_bids 152 = .ok (.goto 18, 3) := by decide +kernel
theorem dX7_bids_155 : decode cX7_bids 155 = .ok (.iload_n 3, 1) := by decide +kernel
theorem dX7_bids_156 : decode cX7_bids 156 = .ok (.ifCond .ne 10, 3) := by decide +kernel
theorem dX7_bids_159 : decode cX7_bids 159 = .ok (.aload_n 0, 1) := by decide +kernel
theorem dX7_bids_160 : decode cX7_bids 160 = .ok (.getfield 220, 3) := by decide +kernel
theorem dX7_bids_163 : decode cX7_bids 163 = .ok (.goto 7, 3) := by decide +kernel
theorem dX7_bids_166 : decode cX7_bids 166 = .ok (.aload_n 0, 1) := by decide +kernel
theorem dX7_bids_167 : decode cX7_bids 167 = .ok (.getfield 223, 3) := by decide +kernel
theorem dX7_bids_170 : decode cX7_bids 170 = .ok (.invokevirtual 60, 3) := by decide +kernel
theorem dX7_bids_173 : decode cX7_bids 173 = .ok (.ireturn, 1) := by decide +kernel
