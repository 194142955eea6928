theorem dX6_row_0 : decode cX6_row 0 = .ok (.iload_n 1, 1) := by decide +kernel
theorem dX6_row_1 : decode cX6_row 1 = .ok (.invokestatic 55, 3) := by decide +kernel
theorem dX6_row_4 : decode cX6_row 4 = .ok (.ifCond .eq 18, 3) := by decide +kernel
theorem dX6_row_7 : decode cX6_row 7 = .ok (.iload_n 2, 1) := by decide +kernel
theorem dX6_row_8 : decode cX6_row 8 = .ok (.ifCond .lt 14, 3) := by decide +kernel
theorem dX6_row_11 : decode cX6_row 11 = .ok (.iload_n 2, 1) := by decide +kernel
theorem dX6_row_12 : decode cX6_row 12 = .ok (.iconst 2, 1) := by decide +kernel
theorem dX6_row_13 : decode cX6_row 13 = .ok (.if_icmp .gt 9, 3) := by decide +kernel
theorem dX6_row_16 : decode cX6_row 16 = .ok (.iload_n 3, 1) := by decide +kernel
theorem dX6_row_17 : decode cX6_row 17 = .ok (.bipush 40, 2) := by decide +kernel
theorem dX6_row_19 : decode cX6_row 19 = .ok (.if_icmp .le 6, 3) := by decide +kernel
theorem dX6_row_22 : decode cX6_row 22 = .ok (.ldc 59, 2) := by decide +kernel
theorem dX6_row_24 : decode cX6_row 24 = .ok (.ireturn, 1) := by decide +kernel
theorem dX6_row_25 : decode cX6_row 25 = .ok (.iload_n 3, 1) := by decide +kernel
theorem dX6_row_26 : decode cX6_row 26 = .ok (.ifCond .ge 9, 3) := by decide +kernel
theorem dX6_row_29 : decode cX6_row 29 = .ok (.aload_n 0, 1) := by decide +kernel
theorem dX6_row_30 : decode cX6_row 30 = .ok (.iconst 4, 1) := by decide +kernel
theorem dX6_row_31 : decode cX6_row 31 = .ok (.invokevirtual 60, 3) := by decide +kernel
theorem dX6_row_34 : decode cX6_row 34 = .ok (.ireturn, 1) := by decide +kernel
theorem dX6_row_35 : decode cX6_row 35 = .ok (.aload_n 0, 1) := by decide +kernel
theorem dX6_row_36 : decode cX6_row 36 = .ok (.getfield 11, 3) := by decide +kernel
theorem dX6_row_39 : decode cX6_row 39 = .ok (.iload_n 1, 1) := by decide +kernel
theorem dX6_row_40 : decode cX6_row 40 = .ok (.aaload, 1) := by decide +kernel
theorem dX6_row_41 : decode cX6_row 41 = .ok (.iload_n 2, 1) := by decide +kernel
theorem dX6_row_42 : decode cX6_row 42 = .ok (.iload_n 3, 1) := by decide +kernel
theorem dX6_row_43 : decode cX6_row 43 = .ok (.invokevirtual 64, 3) := by decide +kernel
theorem dX6_row_46 : decode cX6_row 46 = .ok (.aload_n 0, 1) := by decide +kernel
theorem dX6_row_47 : decode cX6_row 47 = .ok (.iload_n 3, 1) := by decide +kernel
theorem dX6_row_48 : decode cX6_row 48 = .ok (.invokevirtual 68, 3) := by decide +kernel
theorem dX6_row_51 : decode cX6_row 51 = .ok (.ireturn, 1) := by decide +kernel
theorem dX6_set_0 : decode cX6_set 0 = .ok (.iload_n 1, 1) := by decide +kernel
theorem dX6_set_1 : decode cX6_set 1 = .ok (.invokestatic 55, 3) := by decide +kernel
theorem dX6_set_4 : decode cX6_set 4 = .ok (.ifCond .ne 6, 3) := by decide +kernel
theorem dX6_set_7 : decode cX6_set 7 = .ok (.ldc 59, 2) := by decide +kernel
theorem dX6_set_9 : decode cX6_set 9 = .ok (.ireturn, 1) := by decide +kernel
theorem dX6_set_10 : decode cX6_set 10 = .ok (.aload_n 0, 1) := by decide +kernel
theorem dX6_set_11 : decode cX6_set 11 = .ok (.getfield 11, 3) := by decide +kernel
theorem dX6_set_14 : decode cX6_set 14 = .ok (.iload_n 1, 1) := by decide +kernel
theorem dX6_set_15 : decode cX6_set 15 = .ok (.aaload, 1) := by decide +kernel
theorem dX6_set_16 : decode cX6_set 16 = .ok (.astore 4, 2) := by decide +kernel
theorem dX6_set_18 : decode cX6_set 18 = .ok (.aload 4, 2) := by decide +kernel
theorem dX6_set_20 : decode cX6_set 20 = .ok (.getfield 71, 3) := by decide +kernel
theorem dX6_set_23 : decode cX6_set 23 = .ok (.ifCond .ne 9, 3) := by decide +kernel
theorem dX6_set_26 : decode cX6_set 26 = .ok (.aload_n 0, 1) := by decide +kernel
theorem dX6_set_27 : decode cX6_set 27 = .ok (.iconst 1, 1) := by decide +kernel
theorem dX6_set_28 : decode cX6_set 28 = .ok (.invokevirtual 60, 3) := by decide +kernel
theorem dX6_set_31 : decode cX6_set 31 = .ok (.ireturn, 1) := by decide +kernel
theorem dX6_set_32 : decode cX6_set 32 = .ok (.aload 4, 2) := by decide +kernel
theorem dX6_set_34 : decode cX6_set 34 = .ok (.iload_n 2, 1) := by decide +kernel
theorem dX6_set_35 : decode cX6_set 35 = .ok (.iconst 1, 1) := by decide +kernel
theorem dX6_set_36 : decode cX6_set 36 = .ok (.invokevirtual 75, 3) := by decide +kernel
theorem dX6_set_39 : decode cX6_set 39 = .ok (.ifCond .ne 9, 3) := by decide +kernel
theorem dX6_set_42 : decode cX6_set 42 = .ok (.aload_n 0, 1) := by decide +kernel
theorem dX6_set_43 : decode cX6_set 43 = .ok (.iconst 2, 1) := by decide +kernel
theorem dX6_set_44 : decode cX6_set 44 = .ok (.invokevirtual 60, 3) := by decide +kernel
theorem dX6_set_47 : decode cX6_set 47 = .ok (.ireturn, 1) := by decide +kernel
theorem dX6_set_48 : decode cX6_set 48 = .ok (.aload 4, 2) := by decide +kernel
theorem dX6_set_50 : decode cX6_set 50 = .ok (.getfield 79, 3) := by decide +kernel
theorem dX6_set_53 : decode cX6_set 53 = .ok (.iload_n 2, 1) := by decide +kernel
theorem dX6_set_54 : decode cX6_set 54 = .ok (.aload 4, 2) := by decide +kernel
theorem dX6_set_56 : decode cX6_set 56 = .ok (.iload_n 3, 1) := by decide +kernel
theorem dX6_set_57 : decode cX6_set 57 = .ok (.invokevirtual 82, 3) := by decide +kernel
theorem dX6_set_60 : decode cX6_set 60 = .ok (.iastore, 1) := by decide +kernel
theorem dX6_set_61 : decode cX6_set 61 = .ok (.aload_n 0, 1) := by decide +kernel
theorem dX6_set_62 : decode cX6_set 62 = .ok (.aload 4, 2) := by decide +kernel
theorem dX6_set_64 : decode cX6_set 64 = .ok (.getfield 79, 3) := by decide +kernel
theorem dX6_set_67 : decode cX6_set 67 = .ok (.iload_n 2, 1) := by decide +kernel
theorem dX6_set_68 : decode cX6_set 68 = .ok (.iaload, 1) := by decide +kernel
theorem dX6_set_69 : decode cX6_set 69 = .ok (.invokevirtual 68, 3) := by decide +kernel
theorem dX6_set_72 : decode cX6_set 72 = .ok (.ireturn, 1) := by decide +kernel
theorem dX6_copy_0 : decode cX6_copy 0 = .ok (.iload_n 1, 1) := by decide +kernel
theorem dX6_copy_1 : decode cX6_copy 1 = .ok (.invokestatic 55, 3) := by decide +kernel
theorem dX6_copy_4 : decode cX6_copy 4 = .ok (.ifCond .eq 10, 3) := by decide +kernel
theorem dX6_copy_7 : decode cX6_copy 7 = .ok (.iload_n 3, 1) := by decide +kernel
theorem dX6_copy_8 : decode cX6_copy 8 = .ok (.invokestatic 55, 3) := by decide +kernel
theorem dX6_copy_11 : decode cX6_copy 11 = .ok (.ifCond .ne 6, 3) := by decide +kernel
theorem dX6_copy_14 : decode cX6_copy 14 = .ok (.ldc 59, 2) := by decide +kernel
theorem dX6_copy_16 : decode cX6_copy 16 = .ok (.ireturn, 1) := by decide +kernel
theorem dX6_copy_17 : decode cX6_copy 17 = .ok (.aload_n 0, 1) := by decide +kernel
theorem dX6_copy_18 : decode cX6_copy 18 = .ok (.getfield 11, 3) := by decide +kernel
theorem dX6_copy_21 : decode cX6_copy 21 = .ok (.iload_n 1, 1) := by decide +kernel
theorem dX6_copy_22 : decode cX6_copy 22 = .ok (.aaload, 1) := by decide +kernel
theorem dX6_copy_23 : decode cX6_copy 23 = .ok (.astore 6, 2) := by decide +kernel
theorem dX6_copy_25 : decode cX6_copy 25 = .ok (.aload_n 0, 1) := by decide +kernel
theorem dX6_copy_26 : decode cX6_copy 26 = .ok (.getfield 11, 3) := by decide +kernel
theorem dX6_copy_29 : decode cX6_copy 29 = .ok (.iload_n 3, 1) := by decide +kernel
theorem dX6_copy_30 : decode cX6_copy 30 = .ok (.aaload, 1) := by decide +kernel
theorem dX6_copy_31 : decode cX6_copy 31 = .ok (.astore 7, 2) := by decide +kernel
theorem dX6_copy_33 : decode cX6_copy 33 = .ok (.aload 6, 2) := by decide +kernel
theorem dX6_copy_35 : decode cX6_copy 35 = .ok (.getfield 71, 3) := by decide +kernel
theorem dX6_copy_38 : decode cX6_copy 38 = .ok (.ifCond .eq 11, 3) := by decide +kernel
theorem dX6_copy_41 : decode cX6_copy 41 = .ok (.aload 7, 2) := by decide +kernel
theorem dX6_copy_43 : decode cX6_copy 43 = .ok (.getfield 71, 3) := by decide +kernel
theorem dX6_copy_46 : decode cX6_copy 46 = .ok (.ifCond .ne 9, 3) := by decide +kernel
theorem dX6_copy_49 : decode cX6_copy 49 = .ok (.aload_n 0, 1) := by decide +kernel
theorem dX6_copy_50 : decode cX6_copy 50 = .ok (.iconst 1, 1) := by decide +kernel
theorem dX6_copy_51 : decode cX6_copy 51 = .ok (.invokevirtual 60, 3) := by decide +kernel
theorem dX6_copy_54 : decode cX6_copy 54 = .ok (.ireturn, 1) := by decide +kernel
theorem dX6_copy_55 : decode cX6_copy 55 = .ok (.aload 6, 2) := by decide +kernel
theorem dX6_copy_57 : decode cX6_copy 57 = .ok (.getfield 85, 3) := by decide +kernel
theorem dX6_copy_60 : decode cX6_copy 60 = .ok (.aload 7, 2) := by decide +kernel
theorem dX6_copy_62 : decode cX6_copy 62 = .ok (.getfield 85, 3) := by decide +kernel
theorem dX6_copy_65 : decode cX6_copy 65 = .ok (.if_icmp .eq 9, 3) := by decide +kernel
theorem dX6_copy_68 : decode cX6_copy 68 = .ok (.aload_n 0, 1) := by decide +kernel
theorem dX6_copy_69 : decode cX6_copy 69 = .ok (.iconst 5, 1) := by decide +kernel
theorem dX6_copy_70 : decode cX6_copy 70 = .ok (.invokevirtual 60, 3) := by decide +kernel
theorem dX6_copy_73 : decode cX6_copy 73 = .ok (.ireturn, 1) := by decide +kernel
theorem dX6_copy_74 : decode cX6_copy 74 = .ok (.aload 6, 2) := by decide +kernel
theorem dX6_copy_76 : decode cX6_copy 76 = .ok (.iload_n 2, 1) := by decide +kernel
theorem dX6_copy_77 : decode cX6_copy 77 = .ok (.iload 5, 2) := by decide +kernel
theorem dX6_copy_79 : decode cX6_copy 79 = .ok (.invokevirtual 75, 3) := by decide +kernel
theorem dX6_copy_82 : decode cX6_copy 82 = .ok (.ifCond .eq 15, 3) := by decide +kernel
theorem dX6_copy_85 : decode cX6_copy 85 = .ok (.aload 7, 2) := by decide +kernel
theorem dX6_copy_87 : decode cX6_copy 87 = .ok (.iload 4, 2) := by decide +kernel
theorem dX6_copy_89 : decode cX6_copy 89 = .ok (.iload 5, 2) := by decide +kernel
theorem dX6_copy_91 : decode cX6_copy 91 = .ok (.invokevirtual 75, 3) := by decide +kernel
theorem dX6_copy_94 : decode cX6_copy 94 = .ok (.ifCond .ne 9, 3) := by decide +kernel
theorem dX6_copy_97 : decode cX6_copy 97 = .ok (.aload_n 0, 1) := by decide +kernel
theorem dX6_copy_98 : decode cX6_copy 98 = .ok (.iconst 2, 1) := by decide +kernel
theorem dX6_copy_99 : decode cX6_copy 99 = .ok (.invokevirtual 60, 3) := by decide +kernel
theorem dX6_copy_102 : decode cX6_copy 102 = .ok (.ireturn, 1) := by decide +kernel
theorem dX6_copy_103 : decode cX6_copy 103 = .ok (.aload 6, 2) := by decide +kernel
theorem dX6_copy_105 : decode cX6_copy 105 = .ok (.getfield 79, 3) := by decide +kernel
theorem dX6_copy_108 : decode cX6_copy 108 = .ok (.iload_n 2, 1) := by decide +kernel
theorem dX6_copy_109 : decode cX6_copy 109 = .ok (.aload 7, 2) := by decide +kernel
theorem dX6_copy_111 : decode cX6_copy 111 = .ok (.getfield 79, 3) := by decide +kernel
theorem dX6_copy_114 : decode cX6_copy 114 = .ok (.iload 4, 2) := by decide +kernel
theorem dX6_copy_116 : decode cX6_copy 116 = .ok (.iload 5, 2) := by decide +kernel
theorem dX6_copy_118 : decode cX6_copy 118 = .ok (.invokestatic 89, 3) := by decide +kernel
theorem dX6_copy_121 : decode cX6_copy 121 = .ok (.aload_n 0, 1) := by decide +kernel
theorem dX6_copy_122 : decode cX6_copy 122 = .ok (.iload 5, 2) := by decide +kernel
theorem dX6_copy_124 : decode cX6_copy 124 = .ok (.invokevirtual 68, 3) := by decide +kernel
theorem dX6_copy_127 : decode cX6_copy 127 = .ok (.ireturn, 1) := by decide +kernel
theorem dX6_drop_0 : decode cX6_drop 0 = .ok (.iload_n 1, 1) := by decide +kernel
theorem dX6_drop_1 : decode cX6_drop 1 = .ok (.invokestatic 55, 3) := by decide +kernel
theorem dX6_drop_4 : decode cX6_drop 4 = .ok (.ifCond .ne 6, 3) := by decide +kernel
theorem dX6_drop_7 : decode cX6_drop 7 = .ok (.ldc 59, 2) := by decide +kernel
theorem dX6_drop_9 : decode cX6_drop 9 = .ok (.ireturn, 1) := by decide +kernel
theorem dX6_drop_10 : decode cX6_drop 10 = .ok (.aload_n 0, 1) := by decide +kernel
theorem dX6_drop_11 : decode cX6_drop 11 = .ok (.getfield 11, 3) := by decide +kernel
theorem dX6_drop_14 : decode cX6_drop 14 = .ok (.iload_n 1, 1) := by decide +kernel
theorem dX6_drop_15 : decode cX6_drop 15 = .ok (.aaload, 1) := by decide +kernel
theorem dX6_drop_16 : decode cX6_drop 16 = .ok (.getfield 71, 3) := by decide +kernel
theorem dX6_drop_19 : decode cX6_drop 19 = .ok (.ifCond .ne 9, 3) := by decide +kernel
theorem dX6_drop_22 : decode cX6_drop 22 = .ok (.aload_n 0, 1) := by decide +kernel
theorem dX6_drop_23 : decode cX6_drop 23 = .ok (.iconst 1, 1) := by decide +kernel
theorem dX6_drop_24 : decode cX6_drop 24 = .ok (.invokevirtual 60, 3) := by decide +kernel
theorem dX6_drop_27 : decode cX6_drop 27 = .ok (.ireturn, 1) := by decide +kernel
theorem dX6_drop_28 : decode cX6_drop 28 = .ok (.aload_n 0, 1) := by decide +kernel
theorem dX6_drop_29 : decode cX6_drop 29 = .ok (.getfield 11, 3) := by decide +kernel
theorem dX6_drop_32 : decode cX6_drop 32 = .ok (.iload_n 1, 1) := by decide +kernel
theorem dX6_drop_33 : decode cX6_drop 33 = .ok (.aaload, 1) := by decide +kernel
theorem dX6_drop_34 : decode cX6_drop 34 = .ok (.iconst 0, 1) := by decide +kernel
theorem dX6_drop_35 : decode cX6_drop 35 = .ok (.putfield 71, 3) := by decide +kernel
theorem dX6_drop_38 : decode cX6_drop 38 = .ok (.aload_n 0, 1) := by decide +kernel
theorem dX6_drop_39 : decode cX6_drop 39 = .ok (.aload_n 0, 1) := by decide +kernel
theorem dX6_drop_40 : decode cX6_drop 40 = .ok (.getfield 11, 3) := by decide +kernel
theorem dX6_drop_43 : decode cX6_drop 43 = .ok (.iload_n 1, 1) := by decide +kernel
theorem dX6_drop_44 : decode cX6_drop 44 = .ok (.aaload, 1) := by decide +kernel
theorem dX6_drop_45 : decode cX6_drop 45 = .ok (.getfield 95, 3) := by decide +kernel
theorem dX6_drop_48 : decode cX6_drop 48 = .ok (.invokevirtual 68, 3) := by decide +kernel
theorem dX6_drop_51 : decode cX6_drop 51 = .ok (.ireturn, 1) := by decide +kernel
theorem dX6_isRow_0 : decode cX6_isRow 0 = .ok (.iload_n 0, 1) := by decide +kernel
theorem dX6_isRow_1 : decode cX6_isRow 1 = .ok (.ifCond .lt 13, 3) := by decide +kernel
theorem dX6_isRow_4 : decode cX6_isRow 4 = .ok (.iload_n 0, 1) := by decide +kernel
theorem dX6_isRow_5 : decode cX6_isRow 5 = .ok (.bipush 8, 2) := by decide +kernel
theorem dX6_isRow_7 : decode cX6_isRow 7 = .ok (.if_icmp .ge 7, 3) := by decide +kernel
theorem dX6_isRow_10 : decode cX6_isRow 10 = .ok (.iconst 1, 1) := by decide +kernel
theorem dX6_isRow_11 : decode cX6_isRow 11 = .ok (.goto 4, 3) := by decide +kernel
theorem dX6_isRow_14 : decode cX6_isRow 14 = .ok (.iconst 0, 1) := by decide +kernel
theorem dX6_isRow_15 : decode cX6_isRow 15 = .ok (.ireturn, 1) := by decide +kernel
theorem dX6_found_0 : decode cX6_found 0 = .ok (.aload_n 0, 1) := by decide +kernel
theorem dX6_found_1 : decode cX6_found 1 = .ok (.iload_n 1, 1) := by decide +kernel
theorem dX6_found_2 : decode cX6_found 2 = .ok (.putfield 98, 3) := by decide +kernel
theorem dX6_found_5 : decode cX6_found 5 = .ok (.ldc 101, 2) := by decide +kernel
theorem dX6_found_7 : decode cX6_found 7 = .ok (.iload_n 1, 1) := by decide +kernel
theorem dX6_found_8 : decode cX6_found 8 = .ok (.isub, 1) := by decide +kernel
theorem dX6_found_9 : decode cX6_found 9 = .ok (.ireturn, 1) := by decide +kernel
theorem dX6_unfound_0 : decode cX6_unfound 0 = .ok (.aload_n 0, 1) := by decide +kernel
theorem dX6_unfound_1 : decode cX6_unfound 1 = .ok (.iconst 0, 1) := by decide +kernel
theorem dX6_unfound_2 : decode cX6_unfound 2 = .ok (.putfield 98, 3) := by decide +kernel
theorem dX6_unfound_5 : decode cX6_unfound 5 = .ok (.iload_n 1, 1) := by decide +kernel
theorem dX6_unfound_6 : decode cX6_unfound 6 = .ok (.ireturn, 1) := by decide +kernel
theorem dX6_feed_0 : decode cX6_feed 0 = .ok (.iload_n 3, 1) := by decide +kernel
theorem dX6_feed_1 : decode cX6_feed 1 = .ok (.iconst 1, 1) := by decide +kernel
theorem dX6_feed_2 : decode cX6_feed 2 = .ok (.if_icmp .lt 9, 3) := by decide +kernel
theorem dX6_feed_5 : decode cX6_feed 5 = .ok (.iload_n 3, 1) := by decide +kernel
theorem dX6_feed_6 : decode cX6_feed 6 = .ok (.bipush 8, 2) := by decide +kernel
theorem dX6_feed_8 : decode cX6_feed 8 = .ok (.if_icmp .le 6, 3) := by decide +kernel
theorem dX6_feed_11 : decode cX6_feed 11 = .ok (.ldc 59, 2) := by decide +kernel
theorem dX6_feed_13 : decode cX6_feed 13 = .ok (.ireturn, 1) := by decide +kernel
theorem dX6_feed_14 : decode cX6_feed 14 = .ok (.iload_n 3, 1) := by decide +kernel
theorem dX6_feed_15 : decode cX6_feed 15 = .ok (.sipush 400, 3) := by decide +kernel
theorem dX6_feed_18 : decode cX6_feed 18 = .ok (.aload_n 0, 1) := by decide +kernel
theorem dX6_feed_19 : decode cX6_feed 19 = .ok (.getfield 18, 3) := by decide +kernel
theorem dX6_feed_22 : decode cX6_feed 22 = .ok (.getfield 102, 3) := by decide +kernel
theorem dX6_feed_25 : decode cX6_feed 25 = .ok (.getfield 106, 3) := by decide +kernel
theorem dX6_feed_28 : decode cX6_feed 28 = .ok (.isub, 1) := by decide +kernel
theorem dX6_feed_29 : decode cX6_feed 29 = .ok (.if_icmp .le 6, 3) := by decide +kernel
theorem dX6_feed_32 : decode cX6_feed 32 = .ok (.ldc 111, 2) := by decide +kernel
theorem dX6_feed_34 : decode cX6_feed 34 = .ok (.ireturn, 1) := by decide +kernel
theorem dX6_feed_35 : decode cX6_feed 35 = .ok (.aload_n 0, 1) := by decide +kernel
theorem dX6_feed_36 : decode cX6_feed 36 = .ok (.getfield 18, 3) := by decide +kernel
theorem dX6_feed_39 : decode cX6_feed 39 = .ok (.getfield 102, 3) := by decide +kernel
theorem dX6_feed_42 : decode cX6_feed 42 = .ok (.lload_n 1, 1) := by decide +kernel
theorem dX6_feed_43 : decode cX6_feed 43 = .ok (.iload_n 3, 1) := by decide +kernel
theorem dX6_feed_44 : decode cX6_feed 44 = .ok (.invokevirtual 112, 3) := by decide +kernel
theorem dX6_feed_47 : decode cX6_feed 47 = .ok (.aload_n 0, 1) := by decide +kernel
theorem dX6_feed_48 : decode cX6_feed 48 = .ok (.getfield 18, 3) := by decide +kernel
theorem dX6_feed_51 : decode cX6_feed 51 = .ok (.getfield 102, 3) := by decide +kernel
theorem dX6_feed_54 : decode cX6_feed 54 = .ok (.getfield 106, 3) := by decide +kernel
theorem dX6_feed_57 : decode cX6_feed 57 = .ok (.ireturn, 1) := by decide +kernel
theorem dX6_valley_0 : decode cX6_valley 0 = .ok (.aload_n 0, 1) := by decide +kernel
theorem dX6_valley_1 : decode cX6_valley 1 = .ok (.getfield 18, 3) := by decide +kernel
theorem dX6_valley_4 : decode cX6_valley 4 = .ok (.aload_n 0, 1) := by decide +kernel
theorem dX6_valley_5 : decode cX6_valley 5 = .ok (.getfield 29, 3) := by decide +kernel
theorem dX6_valley_8 : decode cX6_valley 8 = .ok (.invokevirtual 116, 3) := by decide +kernel
theorem dX6_valley_11 : decode cX6_valley 11 = .ok (.aload_n 0, 1) := by decide +kernel
theorem dX6_valley_12 : decode cX6_valley 12 = .ok (.getfield 18, 3) := by decide +kernel
theorem dX6_valley_15 : decode cX6_valley 15 = .ok (.getfield 102, 3) := by decide +kernel
theorem dX6_valley_18 : decode cX6_valley 18 = .ok (.iconst 0, 1) := by decide +kernel
theorem dX6_valley_19 : decode cX6_valley 19 = .ok (.putfield 106, 3) := by decide +kernel
theorem dX6_valley_22 : decode cX6_valley 22 = .ok (.aload_n 0, 1) := by decide +kernel
theorem dX6_valley_23 : decode cX6_valley 23 = .ok (.getfield 18, 3) := by decide +kernel
theorem dX6_valley_26 : decode cX6_valley 26 = .ok (.getfield 120, 3) := by decide +kernel
theorem dX6_valley_29 : decode cX6_valley 29 = .ok (.ifCond .eq 25, 3) := by decide +kernel
theorem dX6_valley_32 : decode cX6_valley 32 = .ok (.aload_n 0, 1) := by decide +kernel
theorem dX6_valley_33 : decode cX6_valley 33 = .ok (.aload_n 0, 1) := by decide +kernel
theorem dX6_valley_34 : decode cX6_valley 34 = .ok (.getfield 18, 3) := by decide +kernel
theorem dX6_valley_37 : decode cX6_valley 37 = .ok (.getfield 120, 3) := by decide +kernel
theorem dX6_valley_40 : decode cX6_valley 40 = .ok (.putfield 123, 3) := by decide +kernel
theorem dX6_valley_43 : decode cX6_valley 43 = .ok (.ldc 126, 2) := by decide +kernel
theorem dX6_valley_45 : decode cX6_valley 45 = .ok (.aload_n 0, 1) := by decide +kernel
theorem dX6_valley_46 : decode cX6_valley 46 = .ok (.getfield 18, 3) := by decide +kernel
theorem dX6_valley_49 : decode cX6_valley 49 = .ok (.getfield 127, 3) := by decide +kernel
theorem dX6_valley_52 : decode cX6_valley 52 = .ok (.isub, 1) := by decide +kernel
theorem dX6_valley_53 : decode cX6_valley 53 = .ok (.ireturn, 1) := by decide +kernel
theorem dX6_valley_54 : decode cX6_valley 54 = .ok (.aload_n 0, 1) := by decide +kernel
theorem dX6_valley_55 : decode cX6_valley 55 = .ok (.getfield 25, 3) := by decide +kernel
theorem dX6_valley_58 : decode cX6_valley 58 = .ok (.aload_n 0, 1) := by decide +kernel
theorem dX6_valley_59 : decode cX6_valley 59 = .ok (.getfield 29, 3) := by decide +kernel
theorem dX6_valley_62 : decode cX6_valley 62 = .ok (.invokevirtual 130, 3) := by decide +kernel
theorem dX6_valley_65 : decode cX6_valley 65 = .ok (.aload_n 0, 1) := by decide +kernel
theorem dX6_valley_66 : decode cX6_valley 66 = .ok (.getfield 39, 3) := by decide +kernel
theorem dX6_valley_69 : decode cX6_valley 69 = .ok (.invokevirtual 133, 3) := by decide +kernel
theorem dX6_valley_72 : decode cX6_valley 72 = .ok (.aload_n 0, 1) := by decide +kernel
theorem dX6_valley_73 : decode cX6_valley 73 = .ok (.getfield 25, 3) := by decide +kernel
theorem dX6_valley_76 : decode cX6_valley 76 = .ok (.getfield 136, 3) := by decide +kernel
theorem dX6_valley_79 : decode cX6_valley 79 = .ok (.ireturn, 1) := by decide +kernel
theorem dX6_fault_0 : decode cX6_fault 0 = .ok (.aload_n 0, 1) := by decide +kernel
theorem dX6_fault_1 : decode cX6_fault 1 = .ok (.getfield 123, 3) := by decide +kernel
theorem dX6_fault_4 : decode cX6_fault 4 = .ok (.ireturn, 1) := by decide +kernel
theorem dX6_knit_0 : decode cX6_knit 0 = .ok (.aload_n 0, 1) := by decide +kernel
theorem dX6_knit_1 : decode cX6_knit 1 = .ok (.iload_n 1, 1) := by decide +kernel
theorem dX6_knit_2 : decode cX6_knit 2 = .ok (.invokevirtual 139, 3) := by decide +kernel
theorem dX6_knit_5 : decode cX6_knit 5 = .ok (.ifCond .eq 14, 3) := by decide +kernel
theorem dX6_knit_8 : decode cX6_knit 8 = .ok (.iload_n 2, 1) := by decide +kernel
theorem dX6_knit_9 : decode cX6_knit 9 = .ok (.iconst 1, 1) := by decide +kernel
theorem dX6_knit_10 : decode cX6_knit 10 = .ok (.if_icmp .lt 9, 3) := by decide +kernel
theorem dX6_knit_13 : decode cX6_knit 13 = .ok (.iload_n 2, 1) := by decide +kernel
theorem dX6_knit_14 : decode cX6_knit 14 = .ok (.bipush 30, 2) := by decide +kernel
theorem dX6_knit_16 : decode cX6_knit 16 = .ok (.if_icmp .le 6, 3) := by decide +kernel
theorem dX6_knit_19 : decode cX6_knit 19 = .ok (.ldc 59, 2) := by decide +kernel
theorem dX6_knit_21 : decode cX6_knit 21 = .ok (.ireturn, 1) := by decide +kernel
theorem dX6_knit_22 : decode cX6_knit 22 = .ok (.aload_n 0, 1) := by decide +kernel
theorem dX6_knit_23 : decode cX6_knit 23 = .ok (.getfield 25, 3) := by decide +kernel
theorem dX6_knit_26 : decode cX6_knit 26 = .ok (.iload_n 1, 1) := by decide +kernel
theorem dX6_knit_27 : decode cX6_knit 27 = .ok (.invokevirtual 142, 3) := by decide +kernel
theorem dX6_knit_30 : decode cX6_knit 30 = .ok (.ifCond .eq 6, 3) := by decide +kernel
theorem dX6_knit_33 : decode cX6_knit 33 = .ok (.ldc 145, 2) := by decide +kernel
theorem dX6_knit_35 : decode cX6_knit 35 = .ok (.ireturn, 1) := by decide +kernel
theorem dX6_knit_36 : decode cX6_knit 36 = .ok (.iload_n 2, 1) := by decide +kernel
theorem dX6_knit_37 : decode cX6_knit 37 = .ok (.bipush 99, 2) := by decide +kernel
theorem dX6_knit_39 : decode cX6_knit 39 = .ok (.aload_n 0, 1) := by decide +kernel
theorem dX6_knit_40 : decode cX6_knit 40 = .ok (.getfield 25, 3) := by decide +kernel
theorem dX6_knit_43 : decode cX6_knit 43 = .ok (.getfield 146, 3) := by decide +kernel
theorem dX6_knit_46 : decode cX6_knit 46 = .ok (.iload_n 1, 1) := by decide +kernel
theorem dX6_knit_47 : decode cX6_knit 47 = .ok (.iaload, 1) := by decide +kernel
theorem dX6_knit_48 : decode cX6_knit 48 = .ok (.isub, 1) := by decide +kernel
theorem dX6_knit_49 : decode cX6_knit 49 = .ok (.if_icmp .le 6, 3) := by decide +kernel
theorem dX6_knit_52 : decode cX6_knit 52 = .ok (.ldc 111, 2) := by decide +kernel
theorem dX6_knit_54 : decode cX6_knit 54 = .ok (.ireturn, 1) := by decide +kernel
theorem dX6_knit_55 : decode cX6_knit 55 = .ok (.aload_n 0, 1) := by decide +kernel
theorem dX6_knit_56 : decode cX6_knit 56 = .ok (.getfield 39, 3) := by decide +kernel
theorem dX6_knit_59 : decode cX6_knit 59 = .ok (.aload_n 0, 1) := by decide +kernel
theorem dX6_knit_60 : decode cX6_knit 60 = .ok (.getfield 25, 3) := by decide +kernel
theorem dX6_knit_63 : decode cX6_knit 63 = .ok (.invokevirtual 149, 3) := by decide +kernel
theorem dX6_knit_66 : decode cX6_knit 66 = .ok (.aload_n 0, 1) := by decide +kernel
theorem dX6_knit_67 : decode cX6_knit 67 = .ok (.getfield 25, 3) := by decide +kernel
theorem dX6_knit_70 : decode cX6_knit 70 = .ok (.getfield 146, 3) := by decide +kernel
theorem dX6_knit_73 : decode cX6_knit 73 = .ok (.iload_n 1, 1) := by decide +kernel
theorem dX6_knit_74 : decode cX6_knit 74 = .ok (.dup2, 1) := by decide +kernel
theorem dX6_knit_75 : decode cX6_knit 75 = .ok (.iaload, 1) := by decide +kernel
theorem dX6_knit_76 : decode cX6_knit 76 = .ok (.iload_n 2, 1) := by decide +kernel
theorem dX6_knit_77 : decode cX6_knit 77 = .ok (.iadd, 1) := by decide +kernel
theorem dX6_knit_78 : decode cX6_knit 78 = .ok (.iastore, 1) := by decide +kernel
theorem dX6_knit_79 : decode cX6_knit 79 = .ok (.aload_n 0, 1) := by decide +kernel
theorem dX6_knit_80 : decode cX6_knit 80 = .ok (.getfield 25, 3) := by decide +kernel
theorem dX6_knit_83 : decode cX6_knit 83 = .ok (.getfield 146, 3) := by decide +kernel
theorem dX6_knit_86 : decode cX6_knit 86 = .ok (.iload_n 1, 1) := by decide +kernel
theorem dX6_knit_87 : decode cX6_knit 87 = .ok (.iaload, 1) := by decide +kernel
theorem dX6_knit_88 : decode cX6_knit 88 = .ok (.ireturn, 1) := by decide +kernel
theorem dX6_unpick_0 : decode cX6_unpick 0 = .ok (.aload_n 0, 1) := by decide +kernel
theorem dX6_unpick_1 : decode cX6_unpick 1 = .ok (.iload_n 1, 1) := by decide +kernel
theorem dX6_unpick_2 : decode cX6_unpick 2 = .ok (.invokevirtual 139, 3) := by decide +kernel
theorem dX6_unpick_5 : decode cX6_unpick 5 = .ok (.ifCond .eq 14, 3) := by decide +kernel
theorem dX6_unpick_8 : decode cX6_unpick 8 = .ok (.iload_n 2, 1) := by decide +kernel
theorem dX6_unpick_9 : decode cX6_unpick 9 = .ok (.iconst 1, 1) := by decide +kernel
theorem dX6_unpick_10 : decode cX6_unpick 10 = .ok (.if_icmp .lt 9, 3) := by decide +kernel
theorem dX6_unpick_13 : decode cX6_unpick 13 = .ok (.iload_n 2, 1) := by decide +kernel
theorem dX6_unpick_14 : decode cX6_unpick 14 = .ok (.bipush 99, 2) := by decide +kernel
theorem dX6_unpick_16 : decode cX6_unpick 16 = .ok (.if_icmp .le 6, 3) := by decide +kernel
theorem dX6_unpick_19 : decode cX6_unpick 19 = .ok (.ldc 59, 2) := by decide +kernel
theorem dX6_unpick_21 : decode cX6_unpick 21 = .ok (.ireturn, 1) := by decide +kernel
theorem dX6_unpick_22 : decode cX6_unpick 22 = .ok (.aload_n 0, 1) := by decide +kernel
theorem dX6_unpick_23 : decode cX6_unpick 23 = .ok (.getfield 25, 3) := by decide +kernel
theorem dX6_unpick_26 : decode cX6_unpick 26 = .ok (.iload_n 1, 1) := by decide +kernel
theorem dX6_unpick_27 : decode cX6_unpick 27 = .ok (.invokevirtual 142, 3) := by decide +kernel
theorem dX6_unpick_30 : decode cX6_unpick 30 = .ok (.ifCond .eq 6, 3) := by decide +kernel
theorem dX6_unpick_33 : decode cX6_unpick 33 = .ok (.ldc 145, 2) := by decide +kernel
theorem dX6_unpick_35 : decode cX6_unpick 35 = .ok (.ireturn, 1) := by decide +kernel
theorem dX6_unpick_36 : decode cX6_unpick 36 = .ok (.aload_n 0, 1) := by decide +kernel
theorem dX6_unpick_37 : decode cX6_unpick 37 = .ok (.getfield 39, 3) := by decide +kernel
theorem dX6_unpick_40 : decode cX6_unpick 40 = .ok (.aload_n 0, 1) := by decide +kernel
theorem dX6_unpick_41 : decode cX6_unpick 41 = .ok (.getfield 25, 3) := by decide +kernel
theorem dX6_unpick_44 : decode cX6_unpick 44 = .ok (.invokevirtual 149, 3) := by decide +kernel
theorem dX6_unpick_47 : decode cX6_unpick 47 = .ok (.aload_n 0, 1) := by decide +kernel
theorem dX6_unpick_48 : decode cX6_unpick 48 = .ok (.getfield 25, 3) := by decide +kernel
theorem dX6_unpick_51 : decode cX6_unpick 51 = .ok (.iload_n 1, 1) := by decide +kernel
theorem dX6_unpick_52 : decode cX6_unpick 52 = .ok (.iload_n 2, 1) := by decide +kernel
theorem dX6_unpick_53 : decode cX6_unpick 53 = .ok (.invokevirtual 152, 3) := by decide +kernel
theorem dX6_unpick_56 : decode cX6_unpick 56 = .ok (.ireturn, 1) := by decide +kernel
theorem dX6_moths_0 : decode cX6_moths 0 = .ok (.aload_n 0, 1) := by decide +kernel
theorem dX6_moths_1 : decode cX6_moths 1 = .ok (.getfield 25, 3) := by decide +kernel
theorem dX6_moths_4 : decode cX6_moths 4 = .ok (.invokevirtual 156, 3) := by decide +kernel
theorem dX6_moths_7 : decode cX6_moths 7 = .ok (.ifCond .ne 6, 3) := by decide +kernel
theorem dX6_moths_10 : decode cX6_moths 10 = .ok (.ldc 145, 2) := by decide +kernel
theorem dX6_moths_12 : decode cX6_moths 12 = .ok (.ireturn, 1) := by decide +kernel
theorem dX6_moths_13 : decode cX6_moths 13 = .ok (.iload_n 1, 1) := by decide +kernel
theorem dX6_moths_14 : decode cX6_moths 14 = .ok (.iconst 1, 1) := by decide +kernel
theorem dX6_moths_15 : decode cX6_moths 15 = .ok (.if_icmp .lt 9, 3) := by decide +kernel
theorem dX6_moths_18 : decode cX6_moths 18 = .ok (.iload_n 1, 1) := by decide +kernel
theorem dX6_moths_19 : decode cX6_moths 19 = .ok (.ldc 160, 2) := by decide +kernel
theorem dX6_moths_21 : decode cX6_moths 21 = .ok (.if_icmp .le 6, 3) := by decide +kernel
theorem dX6_moths_24 : decode cX6_moths 24 = .ok (.ldc 59, 2) := by decide +kernel
theorem dX6_moths_26 : decode cX6_moths 26 = .ok (.ireturn, 1) := by decide +kernel
theorem dX6_moths_27 : decode cX6_moths 27 = .ok (.aload_n 0, 1) := by decide +kernel
theorem dX6_moths_28 : decode cX6_moths 28 = .ok (.getfield 39, 3) := by decide +kernel
theorem dX6_moths_31 : decode cX6_moths 31 = .ok (.aload_n 0, 1) := by decide +kernel
theorem dX6_moths_32 : decode cX6_moths 32 = .ok (.getfield 25, 3) := by decide +kernel
theorem dX6_moths_35 : decode cX6_moths 35 = .ok (.invokevirtual 149, 3) := by decide +kernel
theorem dX6_moths_38 : decode cX6_moths 38 = .ok (.iload_n 1, 1) := by decide +kernel
theorem dX6_moths_39 : decode cX6_moths 39 = .ok (.i2l, 1) := by decide +kernel
theorem dX6_moths_40 : decode cX6_moths 40 = .ok (.lstore_n 2, 1) := by decide +kernel
theorem dX6_moths_41 : decode cX6_moths 41 = .ok (.iconst 0, 1) := by decide +kernel
theorem dX6_moths_42 : decode cX6_moths 42 = .ok (.istore 4, 2) := by decide +kernel
theorem dX6_moths_44 : decode cX6_moths 44 = .ok (.iconst 0, 1) := by decide +kernel
theorem dX6_moths_45 : decode cX6_moths 45 = .ok (.istore 5, 2) := by decide +kernel
theorem dX6_moths_47 : decode cX6_moths 47 = .ok (.iload 5, 2) := by decide +kernel
theorem dX6_moths_49 : decode cX6_moths 49 = .ok (.aload_n 0, 1) := by decide +kernel
theorem dX6_moths_50 : decode cX6_moths 50 = .ok (.getfield 25, 3) := by decide +kernel
theorem dX6_moths_53 : decode cX6_moths 53 = .ok (.getfield 136, 3) := by decide +kernel
theorem dX6_moths_56 : decode cX6_moths 56 = .ok (.if_icmp .ge 51, 3) := by decide +kernel
theorem dX6_moths_59 : decode cX6_moths 59 = .ok (.aload_n 0, 1) := by decide +kernel
theorem dX6_moths_60 : decode cX6_moths 60 = .ok (.getfield 25, 3) := by decide +kernel
theorem dX6_moths_63 : decode cX6_moths 63 = .ok (.iload 5, 2) := by decide +kernel
theorem dX6_moths_65 : decode cX6_moths 65 = .ok (.invokevirtual 142, 3) := by decide +kernel
theorem dX6_moths_68 : decode cX6_moths 68 = .ok (.ifCond .ne 33, 3) := by decide +kernel
theorem dX6_moths_71 : decode cX6_moths 71 = .ok (.lload_n 2, 1) := by decide +kernel
theorem dX6_moths_72 : decode cX6_moths 72 = .ok (.ldc2_w 161, 3) := by decide +kernel
theorem dX6_moths_75 : decode cX6_moths 75 = .ok (.lmul, 1) := by decide +kernel
theorem dX6_moths_76 : decode cX6_moths 76 = .ok (.ldc2_w 163, 3) := by decide +kernel
theorem dX6_moths_79 : decode cX6_moths 79 = .ok (.lrem, 1) := by decide +kernel
theorem dX6_moths_80 : decode cX6_moths 80 = .ok (.lstore_n 2, 1) := by decide +kernel
theorem dX6_moths_81 : decode cX6_moths 81 = .ok (.iload 4, 2) := by decide +kernel
theorem dX6_moths_83 : decode cX6_moths 83 = .ok (.aload_n 0, 1) := by decide +kernel
theorem dX6_moths_84 : decode cX6_moths 84 = .ok (.getfield 25, 3) := by decide +kernel
theorem dX6_moths_87 : decode cX6_moths 87 = .ok (.iload 5, 2) := by decide +kernel
theorem dX6_moths_89 : decode cX6_moths 89 = .ok (.lload_n 2, 1) := by decide +kernel
theorem dX6_moths_90 : decode cX6_moths 90 = .ok (.ldc2_w 165, 3) := by decide +kernel
theorem dX6_moths_93 : decode cX6_moths 93 = .ok (.lrem, 1) := by decide +kernel
theorem dX6_moths_94 : decode cX6_moths 94 = .ok (.l2i, 1) := by decide +kernel
theorem dX6_moths_95 : decode cX6_moths 95 = .ok (.invokevirtual 152, 3) := by decide +kernel
theorem dX6_moths_98 : decode cX6_moths 98 = .ok (.iadd, 1) := by decide +kernel
theorem dX6_moths_99 : decode cX6_moths 99 = .ok (.istore 4, 2) := by decide +kernel
theorem dX6_moths_101 : decode cX6_moths 101 = .ok (.iinc 5 1, 3) := by decide +kernel
theorem dX6_moths_104 : decode cX6_moths 104 = .ok (.goto (-57), 3) := by decide +kernel
theorem dX6_moths_107 : decode cX6_moths 107 = .ok (.iload 4, 2) := by decide +kernel
theorem dX6_moths_109 : decode cX6_moths 109 = .ok (.ireturn, 1) := by decide +kernel
theorem dX6_join_0 : decode cX6_join 0 = .ok (.aload_n 0, 1) := by decide +kernel
theorem dX6_join_1 : decode cX6_join 1 = .ok (.iload_n 1, 1) := by decide +kernel
theorem dX6_join_2 : decode cX6_join 2 = .ok (.invokevirtual 139, 3) := by decide +kernel
theorem dX6_join_5 : decode cX6_join 5 = .ok (.ifCond .eq 16, 3) := by decide +kernel
theorem dX6_join_8 : decode cX6_join 8 = .ok (.aload_n 0, 1) := by decide +kernel
theorem dX6_join_9 : decode cX6_join 9 = .ok (.iload_n 2, 1) := by decide +kernel
theorem dX6_join_10 : decode cX6_join 10 = .ok (.invokevirtual 139, 3) := by decide +kernel
theorem dX6_join_13 : decode cX6_join 13 = .ok (.ifCond .eq 8, 3) := by decide +kernel
theorem dX6_join_16 : decode cX6_join 16 = .ok (.iload_n 1, 1) := by decide +kernel
theorem dX6_join_17 : decode cX6_join 17 = .ok (.iload_n 2, 1) := by decide +kernel
theorem dX6_join_18 : decode cX6_join 18 = .ok (.if_icmp .ne 6, 3) := by decide +kernel
theorem dX6_join_21 : decode cX6_join 21 = .ok (.ldc 59, 2) := by decide +kernel
theorem dX6_join_23 : decode cX6_join 23 = .ok (.ireturn, 1) := by decide +kernel
theorem dX6_join_24 : decode cX6_join 24 = .ok (.aload_n 0, 1) := by decide +kernel
theorem dX6_join_25 : decode cX6_join 25 = .ok (.getfield 25, 3) := by decide +kernel
theorem dX6_join_28 : decode cX6_join 28 = .ok (.iload_n 1, 1) := by decide +kernel
theorem dX6_join_29 : decode cX6_join 29 = .ok (.invokevirtual 142, 3) := by decide +kernel
theorem dX6_join_32 : decode cX6_join 32 = .ok (.ifCond .ne 14, 3) := by decide +kernel
theorem dX6_join_35 : decode cX6_join 35 = .ok (.aload_n 0, 1) := by decide +kernel
theorem dX6_join_36 : decode cX6_join 36 = .ok (.getfield 25, 3) := by decide +kernel
theorem dX6_join_39 : decode cX6_join 39 = .ok (.iload_n 2, 1) := by decide +kernel
theorem dX6_join_40 : decode cX6_join 40 = .ok (.invokevirtual 142, 3) := by decide +kernel
theorem dX6_join_43 : decode cX6_join 43 = .ok (.ifCond .eq 6, 3) := by decide +kernel
theorem dX6_join_46 : decode cX6_join 46 = .ok (.ldc 145, 2) := by decide +kernel
theorem dX6_join_48 : decode cX6_join 48 = .ok (.ireturn, 1) := by decide +kernel
theorem dX6_join_49 : decode cX6_join 49 = .ok (.aload_n 0, 1) := by decide +kernel
theorem dX6_join_50 : decode cX6_join 50 = .ok (.getfield 25, 3) := by decide +kernel
theorem dX6_join_53 : decode cX6_join 53 = .ok (.getfield 146, 3) := by decide +kernel
theorem dX6_join_56 : decode cX6_join 56 = .ok (.iload_n 1, 1) := by decide +kernel
theorem dX6_join_57 : decode cX6_join 57 = .ok (.iaload, 1) := by decide +kernel
theorem dX6_join_58 : decode cX6_join 58 = .ok (.aload_n 0, 1) := by decide +kernel
theorem dX6_join_59 : decode cX6_join 59 = .ok (.getfield 25, 3) := by decide +kernel
theorem dX6_join_62 : decode cX6_join 62 = .ok (.getfield 146, 3) := by decide +kernel
theorem dX6_join_65 : decode cX6_join 65 = .ok (.iload_n 2, 1) := by decide +kernel
theorem dX6_join_66 : decode cX6_join 66 = .ok (.iaload, 1) := by decide +kernel
theorem dX6_join_67 : decode cX6_join 67 = .ok (.iadd, 1) := by decide +kernel
theorem dX6_join_68 : decode cX6_join 68 = .ok (.bipush 99, 2) := by decide +kernel
theorem dX6_join_70 : decode cX6_join 70 = .ok (.if_icmp .le 6, 3) := by decide +kernel
theorem dX6_join_73 : decode cX6_join 73 = .ok (.ldc 111, 2) := by decide +kernel
theorem dX6_join_75 : decode cX6_join 75 = .ok (.ireturn, 1) := by decide +kernel
theorem dX6_join_76 : decode cX6_join 76 = .ok (.aload_n 0, 1) := by decide +kernel
theorem dX6_join_77 : decode cX6_join 77 = .ok (.getfield 39, 3) := by decide +kernel
theorem dX6_join_80 : decode cX6_join 80 = .ok (.aload_n 0, 1) := by decide +kernel
theorem dX6_join_81 : decode cX6_join 81 = .ok (.getfield 25, 3) := by decide +kernel
theorem dX6_join_84 : decode cX6_join 84 = .ok (.invokevirtual 149, 3) := by decide +kernel
theorem dX6_join_87 : decode cX6_join 87 = .ok (.aload_n 0, 1) := by decide +kernel
theorem dX6_join_88 : decode cX6_join 88 = .ok (.getfield 25, 3) := by decide +kernel
theorem dX6_join_91 : decode cX6_join 91 = .ok (.getfield 146, 3) := by decide +kernel
theorem dX6_join_94 : decode cX6_join 94 = .ok (.iload_n 1, 1) := by decide +kernel
theorem dX6_join_95 : decode cX6_join 95 = .ok (.dup2, 1) := by decide +kernel
theorem dX6_join_96 : decode cX6_join 96 = .ok (.iaload, 1) := by decide +kernel
theorem dX6_join_97 : decode cX6_join 97 = .ok (.aload_n 0, 1) := by decide +kernel
theorem dX6_join_98 : decode cX6_join 98 = .ok (.getfield 25, 3) := by decide +kernel
theorem dX6_join_101 : decode cX6_join 101 = .ok (.getfield 146, 3) := by decide +kernel
theorem dX6_join_104 : decode cX6_join 104 = .ok (.iload_n 2, 1) := by decide +kernel
theorem dX6_join_105 : decode cX6_join 105 = .ok (.iaload, 1) := by decide +kernel
theorem dX6_join_106 : decode cX6_join 106 = .ok (.iadd, 1) := by decide +kernel
theorem dX6_join_107 : decode cX6_join 107 = .ok (.iastore, 1) := by decide +kernel
theorem dX6_join_108 : decode cX6_join 108 = .ok (.aload_n 0, 1) := by decide +kernel
theorem dX6_join_109 : decode cX6_join 109 = .ok (.getfield 25, 3) := by decide +kernel
theorem dX6_join_112 : decode cX6_join 112 = .ok (.getfield 167, 3) := by decide +kernel
theorem dX6_join_115 : decode cX6_join 115 = .ok (.iload_n 1, 1) := by decide +kernel
theorem dX6_join_116 : decode cX6_join 116 = .ok (.dup2, 1) := by decide +kernel
theorem dX6_join_117 : decode cX6_join 117 = .ok (.iaload, 1) := by decide +kernel
theorem dX6_join_118 : decode cX6_join 118 = .ok (.aload_n 0, 1) := by decide +kernel
theorem dX6_join_119 : decode cX6_join 119 = .ok (.getfield 25, 3) := by decide +kernel
theorem dX6_join_122 : decode cX6_join 122 = .ok (.getfield 167, 3) := by decide +kernel
theorem dX6_join_125 : decode cX6_join 125 = .ok (.iload_n 2, 1) := by decide +kernel
theorem dX6_join_126 : decode cX6_join 126 = .ok (.iaload, 1) := by decide +kernel
theorem dX6_join_127 : decode cX6_join 127 = .ok (.ior, 1) := by decide +kernel
theorem dX6_join_128 : decode cX6_join 128 = .ok (.iastore, 1) := by decide +kernel
theorem dX6_join_129 : decode cX6_join 129 = .ok (.aload_n 0, 1) := by decide +kernel
theorem dX6_join_130 : decode cX6_join 130 = .ok (.getfield 25, 3) := by decide +kernel
theorem dX6_join_133 : decode cX6_join 133 = .ok (.getfield 146, 3) := by decide +kernel
theorem dX6_join_136 : decode cX6_join 136 = .ok (.iload_n 2, 1) := by decide +kernel
theorem dX6_join_137 : decode cX6_join 137 = .ok (.iconst 0, 1) := by decide +kernel
theorem dX6_join_138 : decode cX6_join 138 = .ok (.iastore, 1) := by decide +kernel
theorem dX6_join_139 : decode cX6_join 139 = .ok (.aload_n 0, 1) := by decide +kernel
theorem dX6_join_140 : decode cX6_join 140 = .ok (.getfield 25, 3) := by decide +kernel
theorem dX6_join_143 : decode cX6_join 143 = .ok (.getfield 146, 3) := by decide +kernel
theorem dX6_join_146 : decode cX6_join 146 = .ok (.iload_n 1, 1) := by decide +kernel
theorem dX6_join_147 : decode cX6_join 147 = .ok (.iaload, 1) := by decide +kernel
theorem dX6_join_148 : decode cX6_join 148 = .ok (.ireturn, 1) := by decide +kernel
theorem dX6_undo_0 : decode cX6_undo 0 = .ok (.aload_n 0, 1) := by decide +kernel
theorem dX6_undo_1 : decode cX6_undo 1 = .ok (.getfield 39, 3) := by decide +kernel
theorem dX6_undo_4 : decode cX6_undo 4 = .ok (.getfield 170, 3) := by decide +kernel
theorem dX6_undo_7 : decode cX6_undo 7 = .ok (.ifCond .ne 6, 3) := by decide +kernel
theorem dX6_undo_10 : decode cX6_undo 10 = .ok (.ldc 145, 2) := by decide +kernel
theorem dX6_undo_12 : decode cX6_undo 12 = .ok (.ireturn, 1) := by decide +kernel
theorem dX6_undo_13 : decode cX6_undo 13 = .ok (.aload_n 0, 1) := by decide +kernel
theorem dX6_undo_14 : decode cX6_undo 14 = .ok (.getfield 39, 3) := by decide +kernel
theorem dX6_undo_17 : decode cX6_undo 17 = .ok (.aload_n 0, 1) := by decide +kernel
theorem dX6_undo_18 : decode cX6_undo 18 = .ok (.getfield 25, 3) := by decide +kernel
theorem dX6_undo_21 : decode cX6_undo 21 = .ok (.invokevirtual 173, 3) := by decide +kernel
theorem dX6_undo_24 : decode cX6_undo 24 = .ok (.aload_n 0, 1) := by decide +kernel
theorem dX6_undo_25 : decode cX6_undo 25 = .ok (.getfield 39, 3) := by decide +kernel
theorem dX6_undo_28 : decode cX6_undo 28 = .ok (.getfield 170, 3) := by decide +kernel
theorem dX6_undo_31 : decode cX6_undo 31 = .ok (.ireturn, 1) := by decide +kernel
theorem dX6_wool_0 : decode cX6_wool 0 = .ok (.aload_n 0, 1) := by decide +kernel
theorem dX6_wool_1 : decode cX6_wool 1 = .ok (.iload_n 1, 1) := by decide +kernel
theorem dX6_wool_2 : decode cX6_wool 2 = .ok (.invokevirtual 139, 3) := by decide +kernel
theorem dX6_wool_5 : decode cX6_wool 5 = .ok (.ifCond .ne 6, 3) := by decide +kernel
theorem dX6_wool_8 : decode cX6_wool 8 = .ok (.ldc 59, 2) := by decide +kernel
theorem dX6_wool_10 : decode cX6_wool 10 = .ok (.ireturn, 1) := by decide +kernel
theorem dX6_wool_11 : decode cX6_wool 11 = .ok (.iload_n 2, 1) := by decide +kernel
theorem dX6_wool_12 : decode cX6_wool 12 = .ok (.tableswitch 70 0 3 #[32, 42, 52, 61], 32) := by decide +kernel
theorem dX6_wool_44 : decode cX6_wool 44 = .ok (.aload_n 0, 1) := by decide +kernel
theorem dX6_wool_45 : decode cX6_wool 45 = .ok (.getfield 25, 3) := by decide +kernel
theorem dX6_wool_48 : decode cX6_wool 48 = .ok (.getfield 146, 3) := by decide +kernel
theorem dX6_wool_51 : decode cX6_wool 51 = .ok (.iload_n 1, 1) := by decide +kernel
theorem dX6_wool_52 : decode cX6_wool 52 = .ok (.iaload, 1) := by decide +kernel
theorem dX6_wool_53 : decode cX6_wool 53 = .ok (.ireturn, 1) := by decide +kernel
theorem dX6_wool_54 : decode cX6_wool 54 = .ok (.aload_n 0, 1) := by decide +kernel
theorem dX6_wool_55 : decode cX6_wool 55 = .ok (.getfield 25, 3) := by decide +kernel
theorem dX6_wool_58 : decode cX6_wool 58 = .ok (.getfield 167, 3) := by decide +kernel
theorem dX6_wool_61 : decode cX6_wool 61 = .ok (.iload_n 1, 1) := by decide +kernel
theorem dX6_wool_62 : decode cX6_wool 62 = .ok (.iaload, 1) := by decide +kernel
theorem dX6_wool_63 : decode cX6_wool 63 = .ok (.ireturn, 1) := by decide +kernel
theorem dX6_wool_64 : decode cX6_wool 64 = .ok (.aload_n 0, 1) := by decide +kernel
theorem dX6_wool_65 : decode cX6_wool 65 = .ok (.getfield 25, 3) := by decide +kernel
theorem dX6_wool_68 : decode cX6_wool 68 = .ok (.iload_n 1, 1) := by decide +kernel
theorem dX6_wool_69 : decode cX6_wool 69 = .ok (.invokevirtual 176, 3) := by decide +kernel
theorem dX6_wool_72 : decode cX6_wool 72 = .ok (.ireturn, 1) := by decide +kernel
theorem dX6_wool_73 : decode cX6_wool 73 = .ok (.aload_n 0, 1) := by decide +kernel
theorem dX6_wool_74 : decode cX6_wool 74 = .ok (.getfield 25, 3) := by decide +kernel
theorem dX6_wool_77 : decode cX6_wool 77 = .ok (.iload_n 1, 1) := by decide +kernel
theorem dX6_wool_78 : decode cX6_wool 78 = .ok (.invokevirtual 179, 3) := by decide +kernel
theorem dX6_wool_81 : decode cX6_wool 81 = .ok (.ireturn, 1) := by decide +kernel
theorem dX6_wool_82 : decode cX6_wool 82 = .ok (.ldc 59, 2) := by decide +kernel
theorem dX6_wool_84 : decode cX6_wool 84 = .ok (.ireturn, 1) := by decide +kernel
theorem dX6_saying_0 : decode cX6_saying 0 = .ok (.iload_n 1, 1) := by decide +kernel
theorem dX6_saying_1 : decode cX6_saying 1 = .ok (.ifCond .lt 14, 3) := by decide +kernel
theorem dX6_saying_4 : decode cX6_saying 4 = .ok (.iload_n 1, 1) := by decide +kernel
theorem dX6_saying_5 : decode cX6_saying 5 = .ok (.aload_n 0, 1) := by decide +kernel
theorem dX6_saying_6 : decode cX6_saying 6 = .ok (.getfield 25, 3) := by decide +kernel
theorem dX6_saying_9 : decode cX6_saying 9 = .ok (.getfield 182, 3) := by decide +kernel
theorem dX6_saying_12 : decode cX6_saying 12 = .ok (.if_icmp .lt 6, 3) := by decide +kernel
theorem dX6_saying_15 : decode cX6_saying 15 = .ok (.ldc 59, 2) := by decide +kernel
theorem dX6_saying_17 : decode cX6_saying 17 = .ok (.ireturn, 1) := by decide +kernel
theorem dX6_saying_18 : decode cX6_saying 18 = .ok (.iload_n 2, 1) := by decide +kernel
theorem dX6_saying_19 : decode cX6_saying 19 = .ok (.tableswitch 109 0 4 #[33, 43, 71, 81, 91], 33) := by decide +kernel
theorem dX6_saying_52 : decode cX6_saying 52 = .ok (.aload_n 0, 1) := by decide +kernel
theorem dX6_saying_53 : decode cX6_saying 53 = .ok (.getfield 25, 3) := by decide +kernel
theorem dX6_saying_56 : decode cX6_saying 56 = .ok (.getfield 185, 3) := by decide +kernel
theorem dX6_saying_59 : decode cX6_saying 59 = .ok (.iload_n 1, 1) := by decide +kernel
theorem dX6_saying_60 : decode cX6_saying 60 = .ok (.iaload, 1) := by decide +kernel
theorem dX6_saying_61 : decode cX6_saying 61 = .ok (.ireturn, 1) := by decide +kernel
theorem dX6_saying_62 : decode cX6_saying 62 = .ok (.aload_n 0, 1) := by decide +kernel
theorem dX6_saying_63 : decode cX6_saying 63 = .ok (.getfield 25, 3) := by decide +kernel
theorem dX6_saying_66 : decode cX6_saying 66 = .ok (.getfield 188, 3) := by decide +kernel
theorem dX6_saying_69 : decode cX6_saying 69 = .ok (.iload_n 1, 1) := by decide +kernel
theorem dX6_saying_70 : decode cX6_saying 70 = .ok (.iaload, 1) := by decide +kernel
theorem dX6_saying_71 : decode cX6_saying 71 = .ok (.iconst (-1), 1) := by decide +kernel
theorem dX6_saying_72 : decode cX6_saying 72 = .ok (.if_icmp .ne 8, 3) := by decide +kernel
theorem dX6_saying_75 : decode cX6_saying 75 = .ok (.ldc 191, 2) := by decide +kernel
theorem dX6_saying_77 : decode cX6_saying 77 = .ok (.goto 12, 3) := by decide +kernel
theorem dX6_saying_80 : decode cX6_saying 80 = .ok (.aload_n 0, 1) := by decide +kernel
theorem dX6_saying_81 : decode cX6_saying 81 = .ok (.getfield 25, 3) := by decide +kernel
theorem dX6_saying_84 : decode cX6_saying 84 = .ok (.getfield 188, 3) := by decide +kernel
theorem dX6_saying_87 : decode cX6_saying 87 = .ok (.iload_n 1, 1) := by decide +kernel
theorem dX6_saying_88 : decode cX6_saying 88 = .ok (.iaload, 1) := by decide +kernel
theorem dX6_saying_89 : decode cX6_saying 89 = .ok (.ireturn, 1) := by decide +kernel
theorem dX6_saying_90 : decode cX6_saying 90 = .ok (.aload_n 0, 1) := by decide +kernel
theorem dX6_saying_91 : decode cX6_saying 91 = .ok (.getfield 25, 3) := by decide +kernel
theorem dX6_saying_94 : decode cX6_saying 94 = .ok (.getfield 192, 3) := by decide +kernel
theorem dX6_saying_97 : decode cX6_saying 97 = .ok (.iload_n 1, 1) := by decide +kernel
theorem dX6_saying_98 : decode cX6_saying 98 = .ok (.iaload, 1) := by decide +kernel
theorem dX6_saying_99 : decode cX6_saying 99 = .ok (.ireturn, 1) := by decide +kernel
theorem dX6_saying_100 : decode cX6_saying 100 = .ok (.aload_n 0, 1) := by decide +kernel
theorem dX6_saying_101 : decode cX6_saying 101 = .ok (.getfield 25, 3) := by decide +kernel
theorem dX6_saying_104 : decode cX6_saying 104 = .ok (.getfield 195, 3) := by decide +kernel
theorem dX6_saying_107 : decode cX6_saying 107 = .ok (.iload_n 1, 1) := by decide +kernel
theorem dX6_saying_108 : decode cX6_saying 108 = .ok (.iaload, 1) := by decide +kernel
theorem dX6_saying_109 : decode cX6_saying 109 = .ok (.ireturn, 1) := by decide +kernel
theorem dX6_saying_110 : decode cX6_saying 110 = .ok (.aload_n 0, 1) := by decide +kernel
theorem dX6_saying_111 : decode cX6_saying 111 = .ok (.getfield 25, 3) := by decide +kernel
theorem dX6_saying_114 : decode cX6_saying 114 = .ok (.iload_n 1, 1) := by decide +kernel
theorem dX6_saying_115 : decode cX6_saying 115 = .ok (.iconst 0, 1) := by decide +kernel
theorem dX6_saying_116 : decode cX6_saying 116 = .ok (.invokevirtual 198, 3) := by decide +kernel
theorem dX6_saying_119 : decode cX6_saying 119 = .ok (.ifCond .eq 7, 3) := by decide +kernel
theorem dX6_saying_122 : decode cX6_saying 122 = .ok (.iconst 1, 1) := by decide +kernel
theorem dX6_saying_123 : decode cX6_saying 123 = .ok (.goto 4, 3) := by decide +kernel
theorem dX6_saying_126 : decode cX6_saying 126 = .ok (.iconst 0, 1) := by decide +kernel
theorem dX6_saying_127 : decode cX6_saying 127 = .ok (.ireturn, 1) := by decide +kernel
theorem dX6_saying_128 : decode cX6_saying 128 = .ok (.ldc 59, 2) := by decide +kernel
theorem dX6_saying_130 : decode cX6_saying 130 = .ok (.ireturn, 1) := by decide +kernel
theorem dX6_isWool_0 : decode cX6_isWool 0 = .ok (.iload_n 1, 1) := by decide +kernel
theorem dX6_isWool_1 : decode cX6_isWool 1 = .ok (.ifCond .lt 18, 3) := by decide +kernel
theorem dX6_isWool_4 : decode cX6_isWool 4 = .ok (.iload_n 1, 1) := by decide +kernel
theorem dX6_isWool_5 : decode cX6_isWool 5 = .ok (.aload_n 0, 1) := by decide +kernel
theorem dX6_isWool_6 : decode cX6_isWool 6 = .ok (.getfield 25, 3) := by decide +kernel
theorem dX6_isWool_9 : decode cX6_isWool 9 = .ok (.getfield 136, 3) := by decide +kernel
theorem dX6_isWool_12 : decode cX6_isWool 12 = .ok (.if_icmp .ge 7, 3) := by decide +kernel
theorem dX6_isWool_15 : decode cX6_isWool 15 = .ok (.iconst 1, 1) := by decide +kernel
theorem dX6_isWool_16 : decode cX6_isWool 16 = .ok (.goto 4, 3) := by decide +kernel
theorem dX6_isWool_19 : decode cX6_isWool 19 = .ok (.iconst 0, 1) := by decide +kernel
theorem dX6_isWool_20 : decode cX6_isWool 20 = .ok (.ireturn, 1) := by decide +kernel
theorem dX6_known_0 : decode cX6_known 0 = .ok (.aload_n 0, 1) := by decide +kernel
theorem dX6_known_1 : decode cX6_known 1 = .ok (.iload_n 1, 1) := by decide +kernel
theorem dX6_known_2 : decode cX6_known 2 = .ok (.invokevirtual 201, 3) := by decide +kernel
theorem dX6_known_5 : decode cX6_known 5 = .ok (.ifCond .eq 14, 3) := by decide +kernel
theorem dX6_known_8 : decode cX6_known 8 = .ok (.aload_n 0, 1) := by decide +kernel
theorem dX6_known_9 : decode cX6_known 9 = .ok (.getfield 25, 3) := by decide +kernel
theorem dX6_known_12 : decode cX6_known 12 = .ok (.iload_n 1, 1) := by decide +kernel
theorem dX6_known_13 : decode cX6_known 13 = .ok (.invokevirtual 204, 3) := by decide +kernel
theorem dX6_known_16 : decode cX6_known 16 = .ok (.goto 5, 3) := by decide +kernel
theorem dX6_known_19 : decode cX6_known 19 = .ok (.ldc 59, 2) := by decide +kernel
theorem dX6_known_21 : decode cX6_known 21 = .ok (.ireturn, 1) := by decide +kernel
theorem dX6_worlds_0 : decode cX6_worlds 0 = .ok (.aload_n 0, 1) := by decide +kernel
theorem dX6_worlds_1 : decode cX6_worlds 1 = .ok (.getfield 25, 3) := by decide +kernel
theorem dX6_worlds_4 : decode cX6_worlds 4 = .ok (.invokevirtual 156, 3) := by decide +kernel
theorem dX6_worlds_7 : decode cX6_worlds 7 = .ok (.ifCond .ne 6, 3) := by decide +kernel
theorem dX6_worlds_10 : decode cX6_worlds 10 = .ok (.ldc 145, 2) := by decide +kernel
theorem dX6_worlds_12 : decode cX6_worlds 12 = .ok (.ireturn, 1) := by decide +kernel
theorem dX6_worlds_13 : decode cX6_worlds 13 = .ok (.iload_n 1, 1) := by decide +kernel
theorem dX6_worlds_14 : decode cX6_worlds 14 = .ok (.ifCond .lt 8, 3) := by decide +kernel
theorem dX6_worlds_17 : decode cX6_worlds 17 = .ok (.iload_n 1, 1) := by decide +kernel
theorem dX6_worlds_18 : decode cX6_worlds 18 = .ok (.iconst 1, 1) := by decide +kernel
theorem dX6_worlds_19 : decode cX6_worlds 19 = .ok (.if_icmp .le 6, 3) := by decide +kernel
theorem dX6_worlds_22 : decode cX6_worlds 22 = .ok (.ldc 59, 2) := by decide +kernel
theorem dX6_worlds_24 : decode cX6_worlds 24 = .ok (.ireturn, 1) := by decide +kernel
theorem dX6_worlds_25 : decode cX6_worlds 25 = .ok (.iload_n 1, 1) := by decide +kernel
theorem dX6_worlds_26 : decode cX6_worlds 26 = .ok (.ifCond .ne 13, 3) := by decide +kernel
theorem dX6_worlds_29 : decode cX6_worlds 29 = .ok (.aload_n 0, 1) := by decide +kernel
theorem dX6_worlds_30 : decode cX6_worlds 30 = .ok (.getfield 25, 3) := by decide +kernel
theorem dX6_worlds_33 : decode cX6_worlds 33 = .ok (.invokevirtual 207, 3) := by decide +kernel
theorem dX6_worlds_36 : decode cX6_worlds 36 = .ok (.goto 10, 3) := by decide +kernel
theorem dX6_worlds_39 : decode cX6_worlds 39 = .ok (.aload_n 0, 1) := by decide +kernel
theorem dX6_worlds_40 : decode cX6_worlds 40 = .ok (.getfield 25, 3) := by decide +kernel
theorem dX6_worlds_43 : decode cX6_worlds 43 = .ok (.invokevirtual 211, 3) := by decide +kernel
theorem dX6_worlds_46 : decode cX6_worlds 46 = .ok (.ireturn, 1) := by decide +kernel
theorem dX6_out_0 : decode cX6_out 0 = .ok (.aload_n 0, 1) := by decide +kernel
theorem dX6_out_1 : decode cX6_out 1 = .ok (.iload_n 1, 1) := by decide +kernel
theorem dX6_out_2 : decode cX6_out 2 = .ok (.invokevirtual 201, 3) := by decide +kernel
theorem dX6_out_5 : decode cX6_out 5 = .ok (.ifCond .eq 12, 3) := by decide +kernel
theorem dX6_out_8 : decode cX6_out 8 = .ok (.iload_n 2, 1) := by decide +kernel
theorem dX6_out_9 : decode cX6_out 9 = .ok (.ifCond .lt 8, 3) := by decide +kernel
theorem dX6_out_12 : decode cX6_out 12 = .ok (.iload_n 2, 1) := by decide +kernel
theorem dX6_out_13 : decode cX6_out 13 = .ok (.iconst 1, 1) := by decide +kernel
theorem dX6_out_14 : decode cX6_out 14 = .ok (.if_icmp .le 6, 3) := by decide +kernel
theorem dX6_out_17 : decode cX6_out 17 = .ok (.ldc 59, 2) := by decide +kernel
theorem dX6_out_19 : decode cX6_out 19 = .ok (.ireturn, 1) := by decide +kernel
theorem dX6_out_20 : decode cX6_out 20 = .ok (.aload_n 0, 1) := by decide +kernel
theorem dX6_out_21 : decode cX6_out 21 = .ok (.getfield 25, 3) := by decide +kernel
theorem dX6_out_24 : decode cX6_out 24 = .ok (.iload_n 1, 1) := by decide +kernel
theorem dX6_out_25 : decode cX6_out 25 = .ok (.invokevirtual 214, 3) := by decide +kernel
theorem dX6_out_28 : decode cX6_out 28 = .ok (.istore_n 3, 1) := by decide +kernel
theorem dX6_out_29 : decode cX6_out 29 = .ok (.iload_n 3, 1) := by decide +kernel
theorem dX6_out_30 : decode cX6_out 30 = .ok (.ldc 191, 2) := by decide +kernel
theorem dX6_out_32 : decode cX6_out 32 = .ok (.if_icmp .eq 8, 3) := by decide +kernel
theorem dX6_out_35 : decode cX6_out 35 = .ok (.iload_n 2, 1) := by decide +kernel
theorem dX6_out_36 : decode cX6_out 36 = .ok (.iconst 1, 1) := by decide +kernel
theorem dX6_out_37 : decode cX6_out 37 = .ok (.if_icmp .ne 7, 3) := by decide +kernel
theorem dX6_out_40 : decode cX6_out 40 = .ok (.iload_n 3, 1) := by decide +kernel
theorem dX6_out_41 : decode cX6_out 41 = .ok (.goto 11, 3) := by decide +kernel
theorem dX6_out_44 : decode cX6_out 44 = .ok (.aload_n 0, 1) := by decide +kernel
theorem dX6_out_45 : decode cX6_out 45 = .ok (.getfield 25, 3) := by decide +kernel
theorem dX6_out_48 : decode cX6_out 48 = .ok (.iload_n 3, 1) := by decide +kernel
theorem dX6_out_49 : decode cX6_out 49 = .ok (.invokevirtual 217, 3) := by decide +kernel
theorem dX6_out_52 : decode cX6_out 52 = .ok (.ireturn, 1) := by decide +kernel
theorem dX6_firstFalse_0 : decode cX6_firstFalse 0 = .ok (.aload_n 0, 1) := by decide +kernel
theorem dX6_firstFalse_1 : decode cX6_firstFalse 1 = .ok (.getfield 25, 3) := by decide +kernel
theorem dX6_firstFalse_4 : decode cX6_firstFalse 4 = .ok (.invokevirtual 156, 3) := by decide +kernel
theorem dX6_firstFalse_7 : decode cX6_firstFalse 7 = .ok (.ifCond .eq 13, 3) := by decide +kernel
theorem dX6_firstFalse_10 : decode cX6_firstFalse 10 = .ok (.aload_n 0, 1) := by decide +kernel
theorem dX6_firstFalse_11 : decode cX6_firstFalse 11 = .ok (.getfield 25, 3) := by decide +kernel
theorem dX6_firstFalse_14 : decode cX6_firstFalse 14 = .ok (.invokevirtual 220, 3) := by decide +kernel
theorem dX6_firstFalse_17 : decode cX6_firstFalse 17 = .ok (.goto 5, 3) := by decide +kernel
theorem dX6_firstFalse_20 : decode cX6_firstFalse 20 = .ok (.ldc 145, 2) := by decide +kernel
theorem dX6_firstFalse_22 : decode cX6_firstFalse 22 = .ok (.ireturn, 1) := by decide +kernel
theorem dX6_wear_0 : decode cX6_wear 0 = .ok (.aload_n 0, 1) := by decide +kernel
theorem dX6_wear_1 : decode cX6_wear 1 = .ok (.getfield 25, 3) := by decide +kernel
theorem dX6_wear_4 : decode cX6_wear 4 = .ok (.invokevirtual 156, 3) := by decide +kernel
theorem dX6_wear_7 : decode cX6_wear 7 = .ok (.ifCond .ne 6, 3) := by decide +kernel
theorem dX6_wear_10 : decode cX6_wear 10 = .ok (.ldc 145, 2) := by decide +kernel
theorem dX6_wear_12 : decode cX6_wear 12 = .ok (.ireturn, 1) := by decide +kernel
theorem dX6_wear_13 : decode cX6_wear 13 = .ok (.iload_n 1, 1) := by decide +kernel
theorem dX6_wear_14 : decode cX6_wear 14 = .ok (.ifCond .lt 32, 3) := by decide +kernel
theorem dX6_wear_17 : decode cX6_wear 17 = .ok (.iload_n 1, 1) := by decide +kernel
theorem dX6_wear_18 : decode cX6_wear 18 = .ok (.iconst 1, 1) := by decide +kernel
theorem dX6_wear_19 : decode cX6_wear 19 = .ok (.aload_n 0, 1) := by decide +kernel
theorem dX6_wear_20 : decode cX6_wear 20 = .ok (.getfield 25, 3) := by decide +kernel
theorem dX6_wear_23 : decode cX6_wear 23 = .ok (.getfield 223, 3) := by decide +kernel
theorem dX6_wear_26 : decode cX6_wear 26 = .ok (.ishl, 1) := by decide +kernel
theorem dX6_wear_27 : decode cX6_wear 27 = .ok (.if_icmp .ge 19, 3) := by decide +kernel
theorem dX6_wear_30 : decode cX6_wear 30 = .ok (.iload_n 2, 1) := by decide +kernel
theorem dX6_wear_31 : decode cX6_wear 31 = .ok (.iconst (-1), 1) := by decide +kernel
theorem dX6_wear_32 : decode cX6_wear 32 = .ok (.if_icmp .lt 14, 3) := by decide +kernel
theorem dX6_wear_35 : decode cX6_wear 35 = .ok (.iload_n 2, 1) := by decide +kernel
theorem dX6_wear_36 : decode cX6_wear 36 = .ok (.aload_n 0, 1) := by decide +kernel
theorem dX6_wear_37 : decode cX6_wear 37 = .ok (.getfield 25, 3) := by decide +kernel
theorem dX6_wear_40 : decode cX6_wear 40 = .ok (.getfield 223, 3) := by decide +kernel
theorem dX6_wear_43 : decode cX6_wear 43 = .ok (.if_icmp .lt 6, 3) := by decide +kernel
theorem dX6_wear_46 : decode cX6_wear 46 = .ok (.ldc 59, 2) := by decide +kernel
theorem dX6_wear_48 : decode cX6_wear 48 = .ok (.ireturn, 1) := by decide +kernel
theorem dX6_wear_49 : decode cX6_wear 49 = .ok (.aload_n 0, 1) := by decide +kernel
theorem dX6_wear_50 : decode cX6_wear 50 = .ok (.getfield 46, 3) := by decide +kernel
theorem dX6_wear_53 : decode cX6_wear 53 = .ok (.aload_n 0, 1) := by decide +kernel
theorem dX6_wear_54 : decode cX6_wear 54 = .ok (.getfield 25, 3) := by decide +kernel
theorem dX6_wear_57 : decode cX6_wear 57 = .ok (.iload_n 1, 1) := by decide +kernel
theorem dX6_wear_58 : decode cX6_wear 58 = .ok (.invokevirtual 226, 3) := by decide +kernel
theorem dX6_wear_61 : decode cX6_wear 61 = .ok (.iload_n 2, 1) := by decide +kernel
theorem dX6_wear_62 : decode cX6_wear 62 = .ok (.iconst (-1), 1) := by decide +kernel
theorem dX6_wear_63 : decode cX6_wear 63 = .ok (.if_icmp .ne 13, 3) := by decide +kernel
theorem dX6_wear_66 : decode cX6_wear 66 = .ok (.aload_n 0, 1) := by decide +kernel
theorem dX6_wear_67 : decode cX6_wear 67 = .ok (.getfield 46, 3) := by decide +kernel
theorem dX6_wear_70 : decode cX6_wear 70 = .ok (.getfield 230, 3) := by decide +kernel
theorem dX6_wear_73 : decode cX6_wear 73 = .ok (.goto 12, 3) := by decide +kernel
theorem dX6_wear_76 : decode cX6_wear 76 = .ok (.aload_n 0, 1) := by decide +kernel
theorem dX6_wear_77 : decode cX6_wear 77 = .ok (.getfield 46, 3) := by decide +kernel
theorem dX6_wear_80 : decode cX6_wear 80 = .ok (.getfield 233, 3) := by decide +kernel
theorem dX6_wear_83 : decode cX6_wear 83 = .ok (.iload_n 2, 1) := by decide +kernel
theorem dX6_wear_84 : decode cX6_wear 84 = .ok (.iaload, 1) := by decide +kernel
theorem dX6_wear_85 : decode cX6_wear 85 = .ok (.ireturn, 1) := by decide +kernel
theorem dX6_bids_0 : decode cX6_bids 0 = .ok (.aload_n 0, 1) := by decide +kernel
theorem dX6_bids_1 : decode cX6_bids 1 = .ok (.getfield 25, 3) := by decide +kernel
theorem dX6_bids_4 : decode cX6_bids 4 = .ok (.invokevirtual 156, 3) := by decide +kernel
theorem dX6_bids_7 : decode cX6_bids 7 = .ok (.ifCond .ne 6, 3) := by decide +kernel
theorem dX6_bids_10 : decode cX6_bids 10 = .ok (.ldc 145, 2) := by decide +kernel
theorem dX6_bids_12 : decode cX6_bids 12 = .ok (.ireturn, 1) := by decide +kernel
theorem dX6_bids_13 : decode cX6_bids 13 = .ok (.iload_n 1, 1) := by decide +kernel
theorem dX6_bids_14 : decode cX6_bids 14 = .ok (.invokestatic 55, 3) := by decide +kernel
theorem dX6_bids_17 : decode cX6_bids 17 = .ok (.ifCond .eq 12, 3) := by decide +kernel
theorem dX6_bids_20 : decode cX6_bids 20 = .ok (.iload_n 3, 1) := by decide +kernel
theorem dX6_bids_21 : decode cX6_bids 21 = .ok (.ifCond .lt 8, 3) := by decide +kernel
theorem dX6_bids_24 : decode cX6_bids 24 = .ok (.iload_n 3, 1) := by decide +kernel
theorem dX6_bids_25 : decode cX6_bids 25 = .ok (.iconst 1, 1) := by decide +kernel
theorem dX6_bids_26 : decode cX6_bids 26 = .ok (.if_icmp .le 6, 3) := by decide +kernel
theorem dX6_bids_29 : decode cX6_bids 29 = .ok (.ldc 59, 2) := by decide +kernel
theorem dX6_bids_31 : decode cX6_bids 31 = .ok (.ireturn, 1) := by decide +kernel
theorem dX6_bids_32 : decode cX6_bids 32 = .ok (.aload_n 0, 1) := by decide +kernel
theorem dX6_bids_33 : decode cX6_bids 33 = .ok (.getfield 11, 3) := by decide +kernel
theorem dX6_bids_36 : decode cX6_bids 36 = .ok (.iload_n 1, 1) := by decide +kernel
theorem dX6_bids_37 : decode cX6_bids 37 = .ok (.aaload, 1) := by decide +kernel
theorem dX6_bids_38 : decode cX6_bids 38 = .ok (.astore 4, 2) := by decide +kernel
theorem dX6_bids_40 : decode cX6_bids 40 = .ok (.aload 4, 2) := by decide +kernel
theorem dX6_bids_42 : decode cX6_bids 42 = .ok (.getfield 71, 3) := by decide +kernel
theorem dX6_bids_45 : decode cX6_bids 45 = .ok (.ifCond .ne 9, 3) := by decide +kernel
theorem dX6_bids_48 : decode cX6_bids 48 = .ok (.aload_n 0, 1) := by decide +kernel
theorem dX6_bids_49 : decode cX6_bids 49 = .ok (.iconst 1, 1) := by decide +kernel
theorem dX6_bids_50 : decode cX6_bids 50 = .ok (.invokevirtual 60, 3) := by decide +kernel
theorem dX6_bids_53 : decode cX6_bids 53 = .ok (.ireturn, 1) := by decide +kernel
theorem dX6_bids_54 : decode cX6_bids 54 = .ok (.aload 4, 2) := by decide +kernel
theorem dX6_bids_56 : decode cX6_bids 56 = .ok (.iload_n 2, 1) := by decide +kernel
theorem dX6_bids_57 : decode cX6_bids 57 = .ok (.aload_n 0, 1) := by decide +kernel
theorem dX6_bids_58 : decode cX6_bids 58 = .ok (.getfield 25, 3) := by decide +kernel
theorem dX6_bids_61 : decode cX6_bids 61 = .ok (.getfield 223, 3) := by decide +kernel
theorem dX6_bids_64 : decode cX6_bids 64 = .ok (.invokevirtual 75, 3) := by decide +kernel
theorem dX6_bids_67 : decode cX6_bids 67 = .ok (.ifCond .ne 9, 3) := by decide +kernel
theorem dX6_bids_70 : decode cX6_bids 70 = .ok (.aload_n 0, 1) := by decide +kernel
theorem dX6_bids_71 : decode cX6_bids 71 = .ok (.iconst 2, 1) := by decide +kernel
theorem dX6_bids_72 : decode cX6_bids 72 = .ok (.invokevirtual 60, 3) := by decide +kernel
theorem dX6_bids_75 : decode cX6_bids 75 = .ok (.ireturn, 1) := by decide +kernel
theorem dX6_bids_76 : decode cX6_bids 76 = .ok (.aload 4, 2) := by decide +kernel
theorem dX6_bids_78 : decode cX6_bids 78 = .ok (.iload_n 2, 1) := by decide +kernel
theorem dX6_bids_79 : decode cX6_bids 79 = .ok (.aload_n 0, 1) := by decide +kernel
theorem dX6_bids_80 : decode cX6_bids 80 = .ok (.getfield 25, 3) := by decide +kernel
theorem dX6_bids_83 : decode cX6_bids 83 = .ok (.getfield 223, 3) := by decide +kernel
theorem dX6_bids_86 : decode cX6_bids 86 = .ok (.sipush 999, 3) := by decide +kernel
theorem dX6_bids_89 : decode cX6_bids 89 = .ok (.invokevirtual 236, 3) := by decide +kernel
theorem dX6_bids_92 : decode cX6_bids 92 = .ok (.ifCond .ne 6, 3) := by decide +kernel
theorem dX6_bids_95 : decode cX6_bids 95 = .ok (.ldc 59, 2) := by decide +kernel
theorem dX6_bids_97 : decode cX6_bids 97 = .ok (.ireturn, 1) := by decide +kernel
theorem dX6_bids_98 : decode cX6_bids 98 = .ok (.aload_n 0, 1) := by decide +kernel
theorem dX6_bids_99 : decode cX6_bids 99 = .ok (.aload_n 0, 1) := by decide +kernel
theorem dX6_bids_100 : decode cX6_bids 100 = .ok (.aload 4, 2) := by decide +kernel
theorem dX6_bids_102 : decode cX6_bids 102 = .ok (.iload_n 2, 1) := by decide +kernel
theorem dX6_bids_103 : decode cX6_bids 103 = .ok (.iload_n 3, 1) := by decide +kernel
theorem dX6_bids_104 : decode cX6_bids 104 = .ok (.invokevirtual 240, 3) := by decide +kernel
theorem dX6_bids_107 : decode cX6_bids 107 = .ok (.invokevirtual 68, 3) := by decide +kernel
theorem dX6_bids_110 : decode cX6_bids 110 = .ok (.ireturn, 1) := by decide +kernel
theorem dX6_latestBid_0 : decode cX6_latestBid 0 = .ok (.ldc 191, 2) := by decide +kernel
theorem dX6_latestBid_2 : decode cX6_latestBid 2 = .ok (.istore 4, 2) := by decide +kernel
theorem dX6_latestBid_4 : decode cX6_latestBid 4 = .ok (.iconst 0, 1) := by decide +kernel
theorem dX6_latestBid_5 : decode cX6_latestBid 5 = .ok (.istore 5, 2) := by decide +kernel
theorem dX6_latestBid_7 : decode cX6_latestBid 7 = .ok (.iconst 1, 1) := by decide +kernel
theorem dX6_latestBid_8 : decode cX6_latestBid 8 = .ok (.istore 6, 2) := by decide +kernel
theorem dX6_latestBid_10 : decode cX6_latestBid 10 = .ok (.iconst 0, 1) := by decide +kernel
theorem dX6_latestBid_11 : decode cX6_latestBid 11 = .ok (.istore 7, 2) := by decide +kernel
theorem dX6_latestBid_13 : decode cX6_latestBid 13 = .ok (.iload 6, 2) := by decide +kernel
theorem dX6_latestBid_15 : decode cX6_latestBid 15 = .ok (.ifCond .eq 72, 3) := by decide +kernel
theorem dX6_latestBid_18 : decode cX6_latestBid 18 = .ok (.iload 7, 2) := by decide +kernel
theorem dX6_latestBid_20 : decode cX6_latestBid 20 = .ok (.sipush 999, 3) := by decide +kernel
theorem dX6_latestBid_23 : decode cX6_latestBid 23 = .ok (.if_icmp .gt 64, 3) := by decide +kernel
theorem dX6_latestBid_26 : decode cX6_latestBid 26 = .ok (.iconst 0, 1) := by decide +kernel
theorem dX6_latestBid_27 : decode cX6_latestBid 27 = .ok (.istore 6, 2) := by decide +kernel
theorem dX6_latestBid_29 : decode cX6_latestBid 29 = .ok (.iconst 0, 1) := by decide +kernel
theorem dX6_latestBid_30 : decode cX6_latestBid 30 = .ok (.istore 8, 2) := by decide +kernel
theorem dX6_latestBid_32 : decode cX6_latestBid 32 = .ok (.iload 8, 2) := by decide +kernel
theorem dX6_latestBid_34 : decode cX6_latestBid 34 = .ok (.aload_n 0, 1) := by decide +kernel
theorem dX6_latestBid_35 : decode cX6_latestBid 35 = .ok (.getfield 25, 3) := by decide +kernel
theorem dX6_latestBid_38 : decode cX6_latestBid 38 = .ok (.getfield 223, 3) := by decide +kernel
theorem dX6_latestBid_41 : decode cX6_latestBid 41 = .ok (.if_icmp .ge 40, 3) := by decide +kernel
theorem dX6_latestBid_44 : decode cX6_latestBid 44 = .ok (.iload 8, 2) := by decide +kernel
theorem dX6_latestBid_46 : decode cX6_latestBid 46 = .ok (.iload 4, 2) := by decide +kernel
theorem dX6_latestBid_48 : decode cX6_latestBid 48 = .ok (.if_icmp .eq 27, 3) := by decide +kernel
theorem dX6_latestBid_51 : decode cX6_latestBid 51 = .ok (.aload_n 1, 1) := by decide +kernel
theorem dX6_latestBid_52 : decode cX6_latestBid 52 = .ok (.getfield 79, 3) := by decide +kernel
theorem dX6_latestBid_55 : decode cX6_latestBid 55 = .ok (.iload_n 2, 1) := by decide +kernel
theorem dX6_latestBid_56 : decode cX6_latestBid 56 = .ok (.iload 8, 2) := by decide +kernel
theorem dX6_latestBid_58 : decode cX6_latestBid 58 = .ok (.iadd, 1) := by decide +kernel
theorem dX6_latestBid_59 : decode cX6_latestBid 59 = .ok (.iaload, 1) := by decide +kernel
theorem dX6_latestBid_60 : decode cX6_latestBid 60 = .ok (.iload 5, 2) := by decide +kernel
theorem dX6_latestBid_62 : decode cX6_latestBid 62 = .ok (.if_icmp .le 13, 3) := by decide +kernel
theorem dX6_latestBid_65 : decode cX6_latestBid 65 = .ok (.iinc 5 1, 3) := by decide +kernel
theorem dX6_latestBid_68 : decode cX6_latestBid 68 = .ok (.iload 8, 2) := by decide +kernel
theorem dX6_latestBid_70 : decode cX6_latestBid 70 = .ok (.istore 4, 2) := by decide +kernel
theorem dX6_latestBid_72 : decode cX6_latestBid 72 = .ok (.iconst 1, 1) := by decide +kernel
theorem dX6_latestBid_73 : decode cX6_latestBid 73 = .ok (.istore 6, 2) := by decide +kernel
theorem dX6_latestBid_75 : decode cX6_latestBid 75 = .ok (.iinc 8 1, 3) := by decide +kernel
theorem dX6_latestBid_78 : decode cX6_latestBid 78 = .ok (.goto (-46), 3) := by decide +kernel
theorem dX6_latestBid_81 : decode cX6_latestBid 81 = .ok (.iinc 7 1, 3) := by decide +kernel
theorem dX6_latestBid_84 : decode cX6_latestBid 84 = .ok (.goto (-71), 3) := by decide +kernel
theorem dX6_latestBid_87 : decode cX6_latestBid 87 = .ok (.iload_n 3, 1) := by decide +kernel
theorem dX6_latestBid_88 : decode cX6_latestBid 88 = .ok (.ifCond .eq 10, 3) := by decide +kernel
theorem dX6_latestBid_91 : decode cX6_latestBid 91 = .ok (.iload 4, 2) := by decide +kernel
theorem dX6_latestBid_93 : decode cX6_latestBid 93 = .ok (.ldc 191, 2) := by decide +kernel
theorem dX6_latestBid_95 : decode cX6_latestBid 95 = .ok (.if_icmp .ne 8, 3) := by decide +kernel
theorem dX6_latestBid_98 : decode cX6_latestBid 98 = .ok (.iload 4, 2) := by decide +kernel
theorem dX6_latestBid_100 : decode cX6_latestBid 100 = .ok (.goto 5, 3) := by decide +kernel
theorem dX6_latestBid_103 : decode cX6_latestBid 103 = .ok (.iload 5, 2) := by decide +kernel
theorem dX6_latestBid_105 : decode cX6_latestBid 105 = .ok (.ireturn, 1) := by decide +kernel
theorem dX6_image_0 : decode cX6_image 0 = .ok (.iload_n 1, 1) := by decide +kernel
theorem dX6_image_1 : decode cX6_image 1 = .ok (.invokestatic 244, 3) := by decide +kernel
theorem dX6_image_4 : decode cX6_image 4 = .ok (.ifCond .ne 6, 3) := by decide +kernel
theorem dX6_image_7 : decode cX6_image 7 = .ok (.ldc 59, 2) := by decide +kernel
theorem dX6_image_9 : decode cX6_image 9 = .ok (.ireturn, 1) := by decide +kernel
theorem dX6_image_10 : decode cX6_image 10 = .ok (.aload_n 0, 1) := by decide +kernel
theorem dX6_image_11 : decode cX6_image 11 = .ok (.getfield 25, 3) := by decide +kernel
theorem dX6_image_14 : decode cX6_image 14 = .ok (.invokevirtual 156, 3) := by decide +kernel
theorem dX6_image_17 : decode cX6_image 17 = .ok (.ifCond .ne 6, 3) := by decide +kernel
theorem dX6_image_20 : decode cX6_image 20 = .ok (.ldc 145, 2) := by decide +kernel
theorem dX6_image_22 : decode cX6_image 22 = .ok (.ireturn, 1) := by decide +kernel
theorem dX6_image_23 : decode cX6_image 23 = .ok (.aload_n 0, 1) := by decide +kernel
theorem dX6_image_24 : decode cX6_image 24 = .ok (.getfield 32, 3) := by decide +kernel
theorem dX6_image_27 : decode cX6_image 27 = .ok (.iload_n 1, 1) := by decide +kernel
theorem dX6_image_28 : decode cX6_image 28 = .ok (.aaload, 1) := by decide +kernel
theorem dX6_image_29 : decode cX6_image 29 = .ok (.aload_n 0, 1) := by decide +kernel
theorem dX6_image_30 : decode cX6_image 30 = .ok (.getfield 25, 3) := by decide +kernel
theorem dX6_image_33 : decode cX6_image 33 = .ok (.invokevirtual 130, 3) := by decide +kernel
theorem dX6_image_36 : decode cX6_image 36 = .ok (.iconst 1, 1) := by decide +kernel
theorem dX6_image_37 : decode cX6_image 37 = .ok (.ireturn, 1) := by decide +kernel
theorem dX6_restore_0 : decode cX6_restore 0 = .ok (.iload_n 1, 1) := by decide +kernel
theorem dX6_restore_1 : decode cX6_restore 1 = .ok (.invokestatic 244, 3) := by decide +kernel
theorem dX6_restore_4 : decode cX6_restore 4 = .ok (.ifCond .ne 6, 3) := by decide +kernel
theorem dX6_restore_7 : decode cX6_restore 7 = .ok (.ldc 59, 2) := by decide +kernel
theorem dX6_restore_9 : decode cX6_restore 9 = .ok (.ireturn, 1) := by decide +kernel
theorem dX6_restore_10 : decode cX6_restore 10 = .ok (.aload_n 0, 1) := by decide +kernel
theorem dX6_restore_11 : decode cX6_restore 11 = .ok (.getfield 32, 3) := by decide +kernel
theorem dX6_restore_14 : decode cX6_restore 14 = .ok (.iload_n 1, 1) := by decide +kernel
theorem dX6_restore_15 : decode cX6_restore 15 = .ok (.aaload, 1) := by decide +kernel
theorem dX6_restore_16 : decode cX6_restore 16 = .ok (.invokevirtual 156, 3) := by decide +kernel
theorem dX6_restore_19 : decode cX6_restore 19 = .ok (.ifCond .ne 6, 3) := by decide +kernel
theorem dX6_restore_22 : decode cX6_restore 22 = .ok (.ldc 145, 2) := by decide +kernel
theorem dX6_restore_24 : decode cX6_restore 24 = .ok (.ireturn, 1) := by decide +kernel
theorem dX6_restore_25 : decode cX6_restore 25 = .ok (.aload_n 0, 1) := by decide +kernel
theorem dX6_restore_26 : decode cX6_restore 26 = .ok (.getfield 25, 3) := by decide +kernel
theorem dX6_restore_29 : decode cX6_restore 29 = .ok (.aload_n 0, 1) := by decide +kernel
theorem dX6_restore_30 : decode cX6_restore 30 = .ok (.getfield 32, 3) := by decide +kernel
theorem dX6_restore_33 : decode cX6_restore 33 = .ok (.iload_n 1, 1) := by decide +kernel
theorem dX6_restore_34 : decode cX6_restore 34 = .ok (.aaload, 1) := by decide +kernel
theorem dX6_restore_35 : decode cX6_restore 35 = .ok (.invokevirtual 130, 3) := by decide +kernel
theorem dX6_restore_38 : decode cX6_restore 38 = .ok (.aload_n 0, 1) := by decide +kernel
theorem dX6_restore_39 : decode cX6_restore 39 = .ok (.getfield 39, 3) := by decide +kernel
theorem dX6_restore_42 : decode cX6_restore 42 = .ok (.invokevirtual 133, 3) := by decide +kernel
theorem dX6_restore_45 : decode cX6_restore 45 = .ok (.iconst 1, 1) := by decide +kernel
theorem dX6_restore_46 : decode cX6_restore 46 = .ok (.ireturn, 1) := by decide +kernel
theorem dX6_isFact_0 : decode cX6_isFact 0 = .ok (.iload_n 1, 1) := by decide +kernel
theorem dX6_isFact_1 : decode cX6_isFact 1 = .ok (.ifCond .lt 18, 3) := by decide +kernel
theorem dX6_isFact_4 : decode cX6_isFact 4 = .ok (.iload_n 1, 1) := by decide +kernel
theorem dX6_isFact_5 : decode cX6_isFact 5 = .ok (.aload_n 0, 1) := by decide +kernel
theorem dX6_isFact_6 : decode cX6_isFact 6 = .ok (.getfield 25, 3) := by decide +kernel
theorem dX6_isFact_9 : decode cX6_isFact 9 = .ok (.getfield 247, 3) := by decide +kernel
theorem dX6_isFact_12 : decode cX6_isFact 12 = .ok (.if_icmp .ge 7, 3) := by decide +kernel
theorem dX6_isFact_15 : decode cX6_isFact 15 = .ok (.iconst 1, 1) := by decide +kernel
theorem dX6_isFact_16 : decode cX6_isFact 16 = .ok (.goto 4, 3) := by decide +kernel
theorem dX6_isFact_19 : decode cX6_isFact 19 = .ok (.iconst 0, 1) := by decide +kernel
theorem dX6_isFact_20 : decode cX6_isFact 20 = .ok (.ireturn, 1) := by decide +kernel
theorem dX6_isImage_0 : decode cX6_isImage 0 = .ok (.iload_n 0, 1) := by decide +kernel
theorem dX6_isImage_1 : decode cX6_isImage 1 = .ok (.ifCond .lt 12, 3) := by decide +kernel
theorem dX6_isImage_4 : decode cX6_isImage 4 = .ok (.iload_n 0, 1) := by decide +kernel
theorem dX6_isImage_5 : decode cX6_isImage 5 = .ok (.iconst 2, 1) := by decide +kernel
theorem dX6_isImage_6 : decode cX6_isImage 6 = .ok (.if_icmp .ge 7, 3) := by decide +kernel
theorem dX6_isImage_9 : decode cX6_isImage 9 = .ok (.iconst 1, 1) := by decide +kernel
theorem dX6_isImage_10 : decode cX6_isImage 10 = .ok (.goto 4, 3) := by decide +kernel
theorem dX6_isImage_13 : decode cX6_isImage 13 = .ok (.iconst 0, 1) := by decide +kernel
theorem dX6_isImage_14 : decode cX6_isImage 14 = .ok (.ireturn, 1) := by decide +kernel
theorem dX6_kind_0 : decode cX6_kind 0 = .ok (.aload_n 0, 1) := by decide +kernel
theorem dX6_kind_1 : decode cX6_kind 1 = .ok (.iload_n 1, 1) := by decide +kernel
theorem dX6_kind_2 : decode cX6_kind 2 = .ok (.invokevirtual 139, 3) := by decide +kernel
theorem dX6_kind_5 : decode cX6_kind 5 = .ok (.ifCond .eq 15, 3) := by decide +kernel
theorem dX6_kind_8 : decode cX6_kind 8 = .ok (.aload_n 0, 1) := by decide +kernel
theorem dX6_kind_9 : decode cX6_kind 9 = .ok (.getfield 25, 3) := by decide +kernel
theorem dX6_kind_12 : decode cX6_kind 12 = .ok (.getfield 250, 3) := by decide +kernel
theorem dX6_kind_15 : decode cX6_kind 15 = .ok (.iload_n 1, 1) := by decide +kernel
theorem dX6_kind_16 : decode cX6_kind 16 = .ok (.iaload, 1) := by decide +kernel
theorem dX6_kind_17 : decode cX6_kind 17 = .ok (.goto 5, 3) := by decide +kernel
theorem dX6_kind_20 : decode cX6_kind 20 = .ok (.ldc 59, 2) := by decide +kernel
theorem dX6_kind_22 : decode cX6_kind 22 = .ok (.ireturn, 1) := by decide +kernel
theorem dX6_as_0 : decode cX6_as 0 = .ok (.aload_n 0, 1) := by decide +kernel
theorem dX6_as_1 : decode cX6_as 1 = .ok (.iload_n 1, 1) := by decide +kernel
theorem dX6_as_2 : decode cX6_as 2 = .ok (.invokevirtual 139, 3) := by decide +kernel
theorem dX6_as_5 : decode cX6_as 5 = .ok (.ifCond .eq 13, 3) := by decide +kernel
theorem dX6_as_8 : decode cX6_as 8 = .ok (.iload_n 2, 1) := by decide +kernel
theorem dX6_as_9 : decode cX6_as 9 = .ok (.ifCond .lt 9, 3) := by decide +kernel
theorem dX6_as_12 : decode cX6_as 12 = .ok (.iload_n 2, 1) := by decide +kernel
theorem dX6_as_13 : decode cX6_as 13 = .ok (.bipush 6, 2) := by decide +kernel
theorem dX6_as_15 : decode cX6_as 15 = .ok (.if_icmp .lt 6, 3) := by decide +kernel
theorem dX6_as_18 : decode cX6_as 18 = .ok (.ldc 59, 2) := by decide +kernel
theorem dX6_as_20 : decode cX6_as 20 = .ok (.ireturn, 1) := by decide +kernel
theorem dX6_as_21 : decode cX6_as 21 = .ok (.aload_n 0, 1) := by decide +kernel
theorem dX6_as_22 : decode cX6_as 22 = .ok (.getfield 25, 3) := by decide +kernel
theorem dX6_as_25 : decode cX6_as 25 = .ok (.getfield 250, 3) := by decide +kernel
theorem dX6_as_28 : decode cX6_as 28 = .ok (.iload_n 1, 1) := by decide +kernel
theorem dX6_as_29 : decode cX6_as 29 = .ok (.iaload, 1) := by decide +kernel
theorem dX6_as_30 : decode cX6_as 30 = .ok (.iload_n 2, 1) := by decide +kernel
theorem dX6_as_31 : decode cX6_as 31 = .ok (.invokestatic 253, 3) := by decide +kernel
theorem dX6_as_34 : decode cX6_as 34 = .ok (.ifCond .eq 11, 3) := by decide +kernel
theorem dX6_as_37 : decode cX6_as 37 = .ok (.aload_n 0, 1) := by decide +kernel
theorem dX6_as_38 : decode cX6_as 38 = .ok (.iload_n 1, 1) := by decide +kernel
theorem dX6_as_39 : decode cX6_as 39 = .ok (.invokevirtual 68, 3) := by decide +kernel
theorem dX6_as_42 : decode cX6_as 42 = .ok (.goto 8, 3) := by decide +kernel
theorem dX6_as_45 : decode cX6_as 45 = .ok (.aload_n 0, 1) := by decide +kernel
theorem dX6_as_46 : decode cX6_as 46 = .ok (.iconst 3, 1) := by decide +kernel
theorem dX6_as_47 : decode cX6_as 47 = .ok (.invokevirtual 60, 3) := by decide +kernel
theorem dX6_as_50 : decode cX6_as 50 = .ok (.ireturn, 1) := by decide +kernel
theorem dX6_ask_0 : decode cX6_ask 0 = .ok (.aload_n 0, 1) := by decide +kernel
theorem dX6_ask_1 : decode cX6_ask 1 = .ok (.iload_n 1, 1) := by decide +kernel
theorem dX6_ask_2 : decode cX6_ask 2 = .ok (.invokevirtual 139, 3) := by decide +kernel
theorem dX6_ask_5 : decode cX6_ask 5 = .ok (.ifCond .eq 12, 3) := by decide +kernel
theorem dX6_ask_8 : decode cX6_ask 8 = .ok (.iload_n 2, 1) := by decide +kernel
theorem dX6_ask_9 : decode cX6_ask 9 = .ok (.ifCond .lt 8, 3) := by decide +kernel
theorem dX6_ask_12 : decode cX6_ask 12 = .ok (.iload_n 2, 1) := by decide +kernel
theorem dX6_ask_13 : decode cX6_ask 13 = .ok (.iconst 1, 1) := by decide +kernel
theorem dX6_ask_14 : decode cX6_ask 14 = .ok (.if_icmp .le 6, 3) := by decide +kernel
theorem dX6_ask_17 : decode cX6_ask 17 = .ok (.ldc 59, 2) := by decide +kernel
theorem dX6_ask_19 : decode cX6_ask 19 = .ok (.ireturn, 1) := by decide +kernel
theorem dX6_ask_20 : decode cX6_ask 20 = .ok (.aload_n 0, 1) := by decide +kernel
theorem dX6_ask_21 : decode cX6_ask 21 = .ok (.iconst 0, 1) := by decide +kernel
theorem dX6_ask_22 : decode cX6_ask 22 = .ok (.putfield 256, 3) := by decide +kernel
theorem dX6_ask_25 : decode cX6_ask 25 = .ok (.aload_n 0, 1) := by decide +kernel
theorem dX6_ask_26 : decode cX6_ask 26 = .ok (.iload_n 2, 1) := by decide +kernel
theorem dX6_ask_27 : decode cX6_ask 27 = .ok (.ifCond .ne 11, 3) := by decide +kernel
theorem dX6_ask_30 : decode cX6_ask 30 = .ok (.aload_n 0, 1) := by decide +kernel
theorem dX6_ask_31 : decode cX6_ask 31 = .ok (.iload_n 1, 1) := by decide +kernel
theorem dX6_ask_32 : decode cX6_ask 32 = .ok (.invokevirtual 259, 3) := by decide +kernel
theorem dX6_ask_35 : decode cX6_ask 35 = .ok (.goto 8, 3) := by decide +kernel
theorem dX6_ask_38 : decode cX6_ask 38 = .ok (.aload_n 0, 1) := by decide +kernel
theorem dX6_ask_39 : decode cX6_ask 39 = .ok (.iload_n 1, 1) := by decide +kernel
theorem dX6_ask_40 : decode cX6_ask 40 = .ok (.invokevirtual 262, 3) := by decide +kernel
theorem dX6_ask_43 : decode cX6_ask 43 = .ok (.iload_n 1, 1) := by decide +kernel
theorem dX6_ask_44 : decode cX6_ask 44 = .ok (.iconst 0, 1) := by decide +kernel
theorem dX6_ask_45 : decode cX6_ask 45 = .ok (.invokevirtual 265, 3) := by decide +kernel
theorem dX6_ask_48 : decode cX6_ask 48 = .ok (.ireturn, 1) := by decide +kernel
theorem dX6_trace_0 : decode cX6_trace 0 = .ok (.iload_n 1, 1) := by decide +kernel
theorem dX6_trace_1 : decode cX6_trace 1 = .ok (.ifCond .lt 20, 3) := by decide +kernel
theorem dX6_trace_4 : decode cX6_trace 4 = .ok (.iload_n 1, 1) := by decide +kernel
theorem dX6_trace_5 : decode cX6_trace 5 = .ok (.aload_n 0, 1) := by decide +kernel
theorem dX6_trace_6 : decode cX6_trace 6 = .ok (.getfield 256, 3) := by decide +kernel
theorem dX6_trace_9 : decode cX6_trace 9 = .ok (.if_icmp .ge 12, 3) := by decide +kernel
theorem dX6_trace_12 : decode cX6_trace 12 = .ok (.aload_n 0, 1) := by decide +kernel
theorem dX6_trace_13 : decode cX6_trace 13 = .ok (.getfield 50, 3) := by decide +kernel
theorem dX6_trace_16 : decode cX6_trace 16 = .ok (.iload_n 1, 1) := by decide +kernel
theorem dX6_trace_17 : decode cX6_trace 17 = .ok (.iaload, 1) := by decide +kernel
theorem dX6_trace_18 : decode cX6_trace 18 = .ok (.goto 5, 3) := by decide +kernel
theorem dX6_trace_21 : decode cX6_trace 21 = .ok (.ldc 191, 2) := by decide +kernel
theorem dX6_trace_23 : decode cX6_trace 23 = .ok (.ireturn, 1) := by decide +kernel
theorem dX6_count_0 : decode cX6_count 0 = .ok (.iload_n 1, 1) := by decide +kernel
theorem dX6_count_1 : decode cX6_count 1 = .ok (.tableswitch 113 0 7 #[47, 52, 60, 68, 76, 84, 94, 102], 47) := by decide +kernel
theorem dX6_count_48 : decode cX6_count 48 = .ok (.aload_n 0, 1) := by decide +kernel
theorem dX6_count_49 : decode cX6_count 49 = .ok (.invokevirtual 269, 3) := by decide +kernel
theorem dX6_count_52 : decode cX6_count 52 = .ok (.ireturn, 1) := by decide +kernel
theorem dX6_count_53 : decode cX6_count 53 = .ok (.aload_n 0, 1) := by decide +kernel
theorem dX6_count_54 : decode cX6_count 54 = .ok (.getfield 25, 3) := by decide +kernel
theorem dX6_count_57 : decode cX6_count 57 = .ok (.getfield 223, 3) := by decide +kernel
theorem dX6_count_60 : decode cX6_count 60 = .ok (.ireturn, 1) := by decide +kernel
theorem dX6_count_61 : decode cX6_count 61 = .ok (.aload_n 0, 1) := by decide +kernel
theorem dX6_count_62 : decode cX6_count 62 = .ok (.getfield 25, 3) := by decide +kernel
theorem dX6_count_65 : decode cX6_count 65 = .ok (.getfield 136, 3) := by decide +kernel
theorem dX6_count_68 : decode cX6_count 68 = .ok (.ireturn, 1) := by decide +kernel
theorem dX6_count_69 : decode cX6_count 69 = .ok (.aload_n 0, 1) := by decide +kernel
theorem dX6_count_70 : decode cX6_count 70 = .ok (.getfield 25, 3) := by decide +kernel
theorem dX6_count_73 : decode cX6_count 73 = .ok (.getfield 182, 3) := by decide +kernel
theorem dX6_count_76 : decode cX6_count 76 = .ok (.ireturn, 1) := by decide +kernel
theorem dX6_count_77 : decode cX6_count 77 = .ok (.aload_n 0, 1) := by decide +kernel
theorem dX6_count_78 : decode cX6_count 78 = .ok (.getfield 39, 3) := by decide +kernel
theorem dX6_count_81 : decode cX6_count 81 = .ok (.getfield 170, 3) := by decide +kernel
theorem dX6_count_84 : decode cX6_count 84 = .ok (.ireturn, 1) := by decide +kernel
theorem dX6_count_85 : decode cX6_count 85 = .ok (.aload_n 0, 1) := by decide +kernel
theorem dX6_count_86 : decode cX6_count 86 = .ok (.getfield 25, 3) := by decide +kernel
theorem dX6_count_89 : decode cX6_count 89 = .ok (.bipush 127, 2) := by decide +kernel
theorem dX6_count_91 : decode cX6_count 91 = .ok (.invokevirtual 217, 3) := by decide +kernel
theorem dX6_count_94 : decode cX6_count 94 = .ok (.ireturn, 1) := by decide +kernel
theorem dX6_count_95 : decode cX6_count 95 = .ok (.aload_n 0, 1) := by decide +kernel
theorem dX6_count_96 : decode cX6_count 96 = .ok (.getfield 25, 3) := by decide +kernel
theorem dX6_count_99 : decode cX6_count 99 = .ok (.invokevirtual 272, 3) := by decide +kernel
theorem dX6_count_102 : decode cX6_count 102 = .ok (.ireturn, 1) := by decide +kernel
theorem dX6_count_103 : decode cX6_count 103 = .ok (.aload_n 0, 1) := by decide +kernel
theorem dX6_count_104 : decode cX6_count 104 = .ok (.getfield 18, 3) := by decide +kernel
theorem dX6_count_107 : decode cX6_count 107 = .ok (.getfield 102, 3) := by decide +kernel
theorem dX6_count_110 : decode cX6_count 110 = .ok (.getfield 106, 3) := by decide +kernel
theorem dX6_count_113 : decode cX6_count 113 = .ok (.ireturn, 1) := by decide +kernel
theorem dX6_count_114 : decode cX6_count 114 = .ok (.ldc 59, 2) := by decide +kernel
theorem dX6_count_116 : decode cX6_count 116 = .ok (.ireturn, 1) := by decide +kernel
theorem dX6_status_0 : decode cX6_status 0 = .ok (.aload_n 0, 1) := by decide +kernel
theorem dX6_status_1 : decode cX6_status 1 = .ok (.getfield 98, 3) := by decide +kernel
theorem dX6_status_4 : decode cX6_status 4 = .ok (.ireturn, 1) := by decide +kernel
theorem dX6_countRows_0 : decode cX6_countRows 0 = .ok (.iconst 0, 1) := by decide +kernel
theorem dX6_countRows_1 : decode cX6_countRows 1 = .ok (.istore_n 1, 1) := by decide +kernel
theorem dX6_countRows_2 : decode cX6_countRows 2 = .ok (.iconst 0, 1) := by decide +kernel
theorem dX6_countRows_3 : decode cX6_countRows 3 = .ok (.istore_n 2, 1) := by decide +kernel
theorem dX6_countRows_4 : decode cX6_countRows 4 = .ok (.iload_n 2, 1) := by decide +kernel
theorem dX6_countRows_5 : decode cX6_countRows 5 = .ok (.aload_n 0, 1) := by decide +kernel
theorem dX6_countRows_6 : decode cX6_countRows 6 = .ok (.getfield 11, 3) := by decide +kernel
theorem dX6_countRows_9 : decode cX6_countRows 9 = .ok (.arraylength, 1) := by decide +kernel
theorem dX6_countRows_10 : decode cX6_countRows 10 = .ok (.if_icmp .ge 24, 3) := by decide +kernel
theorem dX6_countRows_13 : decode cX6_countRows 13 = .ok (.aload_n 0, 1) := by decide +kernel
theorem dX6_countRows_14 : decode cX6_countRows 14 = .ok (.getfield 11, 3) := by decide +kernel
theorem dX6_countRows_17 : decode cX6_countRows 17 = .ok (.iload_n 2, 1) := by decide +kernel
theorem dX6_countRows_18 : decode cX6_countRows 18 = .ok (.aaload, 1) := by decide +kernel
theorem dX6_countRows_19 : decode cX6_countRows 19 = .ok (.getfield 71, 3) := by decide +kernel
theorem dX6_countRows_22 : decode cX6_countRows 22 = .ok (.ifCond .eq 6, 3) := by decide +kernel
theorem dX6_countRows_25 : decode cX6_countRows 25 = .ok (.iinc 1 1, 3) := by decide +kernel
theorem dX6_countRows_28 : decode cX6_countRows 28 = .ok (.iinc 2 1, 3) := by decide +kernel
theorem dX6_countRows_31 : decode cX6_countRows 31 = .ok (.goto (-27), 3) := by decide +kernel
theorem dX6_countRows_34 : decode cX6_countRows 34 = .ok (.iload_n 1, 1) := by decide +kernel
theorem dX6_countRows_35 : decode cX6_countRows 35 = .ok (.ireturn, 1) := by decide +kernel
theorem dX6_isOfKind_0 : decode cX6_isOfKind 0 = .ok (.iload_n 0, 1) := by decide +kernel
theorem dX6_isOfKind_1 : decode cX6_isOfKind 1 = .ok (.istore_n 2, 1) := by decide +kernel
theorem dX6_isOfKind_2 : decode cX6_isOfKind 2 = .ok (.iconst 0, 1) := by decide +kernel
theorem dX6_isOfKind_3 : decode cX6_isOfKind 3 = .ok (.istore_n 3, 1) := by decide +kernel
theorem dX6_isOfKind_4 : decode cX6_isOfKind 4 = .ok (.iload_n 3, 1) := by decide +kernel
theorem dX6_isOfKind_5 : decode cX6_isOfKind 5 = .ok (.bipush 6, 2) := by decide +kernel
theorem dX6_isOfKind_7 : decode cX6_isOfKind 7 = .ok (.if_icmp .ge 20, 3) := by decide +kernel
theorem dX6_isOfKind_10 : decode cX6_isOfKind 10 = .ok (.iload_n 2, 1) := by decide +kernel
theorem dX6_isOfKind_11 : decode cX6_isOfKind 11 = .ok (.iload_n 1, 1) := by decide +kernel
theorem dX6_isOfKind_12 : decode cX6_isOfKind 12 = .ok (.if_icmp .eq 15, 3) := by decide +kernel
theorem dX6_isOfKind_15 : decode cX6_isOfKind 15 = .ok (.getstatic 275, 3) := by decide +kernel
theorem dX6_isOfKind_18 : decode cX6_isOfKind 18 = .ok (.iload_n 2, 1) := by decide +kernel
theorem dX6_isOfKind_19 : decode cX6_isOfKind 19 = .ok (.iaload, 1) := by decide +kernel
theorem dX6_isOfKind_20 : decode cX6_isOfKind 20 = .ok (.istore_n 2, 1) := by decide +kernel
theorem dX6_isOfKind_21 : decode cX6_isOfKind 21 = .ok (.iinc 3 1, 3) := by decide +kernel
theorem dX6_isOfKind_24 : decode cX6_isOfKind 24 = .ok (.goto (-20), 3) := by decide +kernel
theorem dX6_isOfKind_27 : decode cX6_isOfKind 27 = .ok (.iload_n 2, 1) := by decide +kernel
theorem dX6_isOfKind_28 : decode cX6_isOfKind 28 = .ok (.iload_n 1, 1) := by decide +kernel
theorem dX6_isOfKind_29 : decode cX6_isOfKind 29 = .ok (.if_icmp .ne 7, 3) := by decide +kernel
theorem dX6_isOfKind_32 : decode cX6_isOfKind 32 = .ok (.iconst 1, 1) := by decide +kernel
theorem dX6_isOfKind_33 : decode cX6_isOfKind 33 = .ok (.goto 4, 3) := by decide +kernel
theorem dX6_isOfKind_36 : decode cX6_isOfKind 36 = .ok (.iconst 0, 1) := by decide +kernel
theorem dX6_isOfKind_37 : decode cX6_isOfKind 37 = .ok (.ireturn, 1) := by decide +kernel
theorem dX6_sizeBody_0 : decode cX6_sizeBody 0 = .ok (.getstatic 278, 3) := by decide +kernel
theorem dX6_sizeBody_3 : decode cX6_sizeBody 3 = .ok (.aload_n 0, 1) := by decide +kernel
theorem dX6_sizeBody_4 : decode cX6_sizeBody 4 = .ok (.getfield 25, 3) := by decide +kernel
theorem dX6_sizeBody_7 : decode cX6_sizeBody 7 = .ok (.getfield 250, 3) := by decide +kernel
theorem dX6_sizeBody_10 : decode cX6_sizeBody 10 = .ok (.iload_n 1, 1) := by decide +kernel
theorem dX6_sizeBody_11 : decode cX6_sizeBody 11 = .ok (.iaload, 1) := by decide +kernel
theorem dX6_sizeBody_12 : decode cX6_sizeBody 12 = .ok (.invokestatic 281, 3) := by decide +kernel
theorem dX6_sizeBody_15 : decode cX6_sizeBody 15 = .ok (.ireturn, 1) := by decide +kernel
theorem dX6_markBody_0 : decode cX6_markBody 0 = .ok (.getstatic 285, 3) := by decide +kernel
theorem dX6_markBody_3 : decode cX6_markBody 3 = .ok (.aload_n 0, 1) := by decide +kernel
theorem dX6_markBody_4 : decode cX6_markBody 4 = .ok (.getfield 25, 3) := by decide +kernel
theorem dX6_markBody_7 : decode cX6_markBody 7 = .ok (.getfield 250, 3) := by decide +kernel
theorem dX6_markBody_10 : decode cX6_markBody 10 = .ok (.iload_n 1, 1) := by decide +kernel
theorem dX6_markBody_11 : decode cX6_markBody 11 = .ok (.iaload, 1) := by decide +kernel
theorem dX6_markBody_12 : decode cX6_markBody 12 = .ok (.invokestatic 281, 3) := by decide +kernel
theorem dX6_markBody_15 : decode cX6_markBody 15 = .ok (.ireturn, 1) := by decide +kernel
theorem dX6_nearestBody_0 : decode cX6_nearestBody 0 = .ok (.iload_n 1, 1) := by decide +kernel
theorem dX6_nearestBody_1 : decode cX6_nearestBody 1 = .ok (.istore_n 2, 1) := by decide +kernel
theorem dX6_nearestBody_2 : decode cX6_nearestBody 2 = .ok (.iconst 0, 1) := by decide +kernel
theorem dX6_nearestBody_3 : decode cX6_nearestBody 3 = .ok (.istore_n 3, 1) := by decide +kernel
theorem dX6_nearestBody_4 : decode cX6_nearestBody 4 = .ok (.iload_n 3, 1) := by decide +kernel
theorem dX6_nearestBody_5 : decode cX6_nearestBody 5 = .ok (.bipush 6, 2) := by decide +kernel
theorem dX6_nearestBody_7 : decode cX6_nearestBody 7 = .ok (.if_icmp .ge 21, 3) := by decide +kernel
theorem dX6_nearestBody_10 : decode cX6_nearestBody 10 = .ok (.aload_n 0, 1) := by decide +kernel
theorem dX6_nearestBody_11 : decode cX6_nearestBody 11 = .ok (.iload_n 2, 1) := by decide +kernel
theorem dX6_nearestBody_12 : decode cX6_nearestBody 12 = .ok (.iaload, 1) := by decide +kernel
theorem dX6_nearestBody_13 : decode cX6_nearestBody 13 = .ok (.ifCond .ne 15, 3) := by decide +kernel
theorem dX6_nearestBody_16 : decode cX6_nearestBody 16 = .ok (.getstatic 275, 3) := by decide +kernel
theorem dX6_nearestBody_19 : decode cX6_nearestBody 19 = .ok (.iload_n 2, 1) := by decide +kernel
theorem dX6_nearestBody_20 : decode cX6_nearestBody 20 = .ok (.iaload, 1) := by decide +kernel
theorem dX6_nearestBody_21 : decode cX6_nearestBody 21 = .ok (.istore_n 2, 1) := by decide +kernel
theorem dX6_nearestBody_22 : decode cX6_nearestBody 22 = .ok (.iinc 3 1, 3) := by decide +kernel
theorem dX6_nearestBody_25 : decode cX6_nearestBody 25 = .ok (.goto (-21), 3) := by decide +kernel
theorem dX6_nearestBody_28 : decode cX6_nearestBody 28 = .ok (.aload_n 0, 1) := by decide +kernel
theorem dX6_nearestBody_29 : decode cX6_nearestBody 29 = .ok (.iload_n 2, 1) := by decide +kernel
theorem dX6_nearestBody_30 : decode cX6_nearestBody 30 = .ok (.iaload, 1) := by decide +kernel
theorem dX6_nearestBody_31 : decode cX6_nearestBody 31 = .ok (.ireturn, 1) := by decide +kernel
theorem dX6_begin_0 : decode cX6_begin 0 = .ok (.iload_n 3, 1) := by decide +kernel
theorem dX6_begin_1 : decode cX6_begin 1 = .ok (.bipush 16, 2) := by decide +kernel
theorem dX6_begin_3 : decode cX6_begin 3 = .ok (.if_icmp .lt 5, 3) := by decide +kernel
theorem dX6_begin_6 : decode cX6_begin 6 = .ok (.iconst 0, 1) := by decide +kernel
theorem dX6_begin_7 : decode cX6_begin 7 = .ok (.ireturn, 1) := by decide +kernel
theorem dX6_begin_8 : decode cX6_begin 8 = .ok (.aload_n 0, 1) := by decide +kernel
theorem dX6_begin_9 : decode cX6_begin 9 = .ok (.iload_n 1, 1) := by decide +kernel
theorem dX6_begin_10 : decode cX6_begin 10 = .ok (.invokevirtual 288, 3) := by decide +kernel
theorem dX6_begin_13 : decode cX6_begin 13 = .ok (.aload_n 0, 1) := by decide +kernel
theorem dX6_begin_14 : decode cX6_begin 14 = .ok (.iload_n 1, 1) := by decide +kernel
theorem dX6_begin_15 : decode cX6_begin 15 = .ok (.iload_n 2, 1) := by decide +kernel
theorem dX6_begin_16 : decode cX6_begin 16 = .ok (.iload_n 3, 1) := by decide +kernel
theorem dX6_begin_17 : decode cX6_begin 17 = .ok (.iconst 1, 1) := by decide +kernel
theorem dX6_begin_18 : decode cX6_begin 18 = .ok (.iadd, 1) := by decide +kernel
theorem dX6_begin_19 : decode cX6_begin 19 = .ok (.invokevirtual 292, 3) := by decide +kernel
theorem dX6_begin_22 : decode cX6_begin 22 = .ok (.ireturn, 1) := by decide +kernel
theorem dX6_answer_0 : decode cX6_answer 0 = .ok (.iload_n 1, 1) := by decide +kernel
theorem dX6_answer_1 : decode cX6_answer 1 = .ok (.tableswitch 205 10 24 #[75, 85, 106, 116, 128, 205, 205, 205, 205, 205, 139, 141, 160, 173, 194], 75) := by decide +kernel
theorem dX6_answer_76 : decode cX6_answer 76 = .ok (.aload_n 0, 1) := by decide +kernel
theorem dX6_answer_77 : decode cX6_answer 77 = .ok (.getfield 25, 3) := by decide +kernel
theorem dX6_answer_80 : decode cX6_answer 80 = .ok (.getfield 146, 3) := by decide +kernel
theorem dX6_answer_83 : decode cX6_answer 83 = .ok (.iload_n 2, 1) := by decide +kernel
theorem dX6_answer_84 : decode cX6_answer 84 = .ok (.iaload, 1) := by decide +kernel
theorem dX6_answer_85 : decode cX6_answer 85 = .ok (.ireturn, 1) := by decide +kernel
theorem dX6_answer_86 : decode cX6_answer 86 = .ok (.aload_n 0, 1) := by decide +kernel
theorem dX6_answer_87 : decode cX6_answer 87 = .ok (.bipush 10, 2) := by decide +kernel
theorem dX6_answer_89 : decode cX6_answer 89 = .ok (.iload_n 2, 1) := by decide +kernel
theorem dX6_answer_90 : decode cX6_answer 90 = .ok (.iload_n 3, 1) := by decide +kernel
theorem dX6_answer_91 : decode cX6_answer 91 = .ok (.invokevirtual 265, 3) := by decide +kernel
theorem dX6_answer_94 : decode cX6_answer 94 = .ok (.aload_n 0, 1) := by decide +kernel
theorem dX6_answer_95 : decode cX6_answer 95 = .ok (.aload_n 0, 1) := by decide +kernel
theorem dX6_answer_96 : decode cX6_answer 96 = .ok (.iload_n 2, 1) := by decide +kernel
theorem dX6_answer_97 : decode cX6_answer 97 = .ok (.invokevirtual 262, 3) := by decide +kernel
theorem dX6_answer_100 : decode cX6_answer 100 = .ok (.iload_n 2, 1) := by decide +kernel
theorem dX6_answer_101 : decode cX6_answer 101 = .ok (.iload_n 3, 1) := by decide +kernel
theorem dX6_answer_102 : decode cX6_answer 102 = .ok (.invokevirtual 265, 3) := by decide +kernel
theorem dX6_answer_105 : decode cX6_answer 105 = .ok (.iadd, 1) := by decide +kernel
theorem dX6_answer_106 : decode cX6_answer 106 = .ok (.ireturn, 1) := by decide +kernel
theorem dX6_answer_107 : decode cX6_answer 107 = .ok (.aload_n 0, 1) := by decide +kernel
theorem dX6_answer_108 : decode cX6_answer 108 = .ok (.bipush 11, 2) := by decide +kernel
theorem dX6_answer_110 : decode cX6_answer 110 = .ok (.iload_n 2, 1) := by decide +kernel
theorem dX6_answer_111 : decode cX6_answer 111 = .ok (.iload_n 3, 1) := by decide +kernel
theorem dX6_answer_112 : decode cX6_answer 112 = .ok (.invokevirtual 265, 3) := by decide +kernel
theorem dX6_answer_115 : decode cX6_answer 115 = .ok (.ineg, 1) := by decide +kernel
theorem dX6_answer_116 : decode cX6_answer 116 = .ok (.ireturn, 1) := by decide +kernel
theorem dX6_answer_117 : decode cX6_answer 117 = .ok (.aload_n 0, 1) := by decide +kernel
theorem dX6_answer_118 : decode cX6_answer 118 = .ok (.bipush 10, 2) := by decide +kernel
theorem dX6_answer_120 : decode cX6_answer 120 = .ok (.iload_n 2, 1) := by decide +kernel
theorem dX6_answer_121 : decode cX6_answer 121 = .ok (.iload_n 3, 1) := by decide +kernel
theorem dX6_answer_122 : decode cX6_answer 122 = .ok (.invokevirtual 265, 3) := by decide +kernel
theorem dX6_answer_125 : decode cX6_answer 125 = .ok (.bipush 100, 2) := by decide +kernel
theorem dX6_answer_127 : decode cX6_answer 127 = .ok (.isub, 1) := by decide +kernel
theorem dX6_answer_128 : decode cX6_answer 128 = .ok (.ireturn, 1) := by decide +kernel
theorem dX6_answer_129 : decode cX6_answer 129 = .ok (.iconst 2, 1) := by decide +kernel
theorem dX6_answer_130 : decode cX6_answer 130 = .ok (.aload_n 0, 1) := by decide +kernel
theorem dX6_answer_131 : decode cX6_answer 131 = .ok (.bipush 13, 2) := by decide +kernel
theorem dX6_answer_133 : decode cX6_answer 133 = .ok (.iload_n 2, 1) := by decide +kernel
theorem dX6_answer_134 : decode cX6_answer 134 = .ok (.iload_n 3, 1) := by decide +kernel
theorem dX6_answer_135 : decode cX6_answer 135 = .ok (.invokevirtual 265, 3) := by decide +kernel
theorem dX6_answer_138 : decode cX6_answer 138 = .ok (.imul, 1) := by decide +kernel
theorem dX6_answer_139 : decode cX6_answer 139 = .ok (.ireturn, 1) := by decide +kernel
theorem dX6_answer_140 : decode cX6_answer 140 = .ok (.iload_n 2, 1) := by decide +kernel
theorem dX6_answer_141 : decode cX6_answer 141 = .ok (.ireturn, 1) := by decide +kernel
theorem dX6_answer_142 : decode cX6_answer 142 = .ok (.aload_n 0, 1) := by decide +kernel
theorem dX6_answer_143 : decode cX6_answer 143 = .ok (.bipush 20, 2) := by decide +kernel
theorem dX6_answer_145 : decode cX6_answer 145 = .ok (.iload_n 2, 1) := by decide +kernel
theorem dX6_answer_146 : decode cX6_answer 146 = .ok (.iload_n 3, 1) := by decide +kernel
theorem dX6_answer_147 : decode cX6_answer 147 = .ok (.invokevirtual 265, 3) := by decide +kernel
theorem dX6_answer_150 : decode cX6_answer 150 = .ok (.aload_n 0, 1) := by decide +kernel
theorem dX6_answer_151 : decode cX6_answer 151 = .ok (.getfield 25, 3) := by decide +kernel
theorem dX6_answer_154 : decode cX6_answer 154 = .ok (.getfield 167, 3) := by decide +kernel
theorem dX6_answer_157 : decode cX6_answer 157 = .ok (.iload_n 2, 1) := by decide +kernel
theorem dX6_answer_158 : decode cX6_answer 158 = .ok (.iaload, 1) := by decide +kernel
theorem dX6_answer_159 : decode cX6_answer 159 = .ok (.iadd, 1) := by decide +kernel
theorem dX6_answer_160 : decode cX6_answer 160 = .ok (.ireturn, 1) := by decide +kernel
theorem dX6_answer_161 : decode cX6_answer 161 = .ok (.aload_n 0, 1) := by decide +kernel
theorem dX6_answer_162 : decode cX6_answer 162 = .ok (.bipush 21, 2) := by decide +kernel
theorem dX6_answer_164 : decode cX6_answer 164 = .ok (.iload_n 2, 1) := by decide +kernel
theorem dX6_answer_165 : decode cX6_answer 165 = .ok (.iload_n 3, 1) := by decide +kernel
theorem dX6_answer_166 : decode cX6_answer 166 = .ok (.invokevirtual 265, 3) := by decide +kernel
theorem dX6_answer_169 : decode cX6_answer 169 = .ok (.sipush 1000, 3) := by decide +kernel
theorem dX6_answer_172 : decode cX6_answer 172 = .ok (.isub, 1) := by decide +kernel
theorem dX6_answer_173 : decode cX6_answer 173 = .ok (.ireturn, 1) := by decide +kernel
theorem dX6_answer_174 : decode cX6_answer 174 = .ok (.aload_n 0, 1) := by decide +kernel
theorem dX6_answer_175 : decode cX6_answer 175 = .ok (.bipush 20, 2) := by decide +kernel
theorem dX6_answer_177 : decode cX6_answer 177 = .ok (.iload_n 2, 1) := by decide +kernel
theorem dX6_answer_178 : decode cX6_answer 178 = .ok (.iload_n 3, 1) := by decide +kernel
theorem dX6_answer_179 : decode cX6_answer 179 = .ok (.invokevirtual 265, 3) := by decide +kernel
theorem dX6_answer_182 : decode cX6_answer 182 = .ok (.aload_n 0, 1) := by decide +kernel
theorem dX6_answer_183 : decode cX6_answer 183 = .ok (.aload_n 0, 1) := by decide +kernel
theorem dX6_answer_184 : decode cX6_answer 184 = .ok (.iload_n 2, 1) := by decide +kernel
theorem dX6_answer_185 : decode cX6_answer 185 = .ok (.invokevirtual 259, 3) := by decide +kernel
theorem dX6_answer_188 : decode cX6_answer 188 = .ok (.iload_n 2, 1) := by decide +kernel
theorem dX6_answer_189 : decode cX6_answer 189 = .ok (.iload_n 3, 1) := by decide +kernel
theorem dX6_answer_190 : decode cX6_answer 190 = .ok (.invokevirtual 265, 3) := by decide +kernel
theorem dX6_answer_193 : decode cX6_answer 193 = .ok (.isub, 1) := by decide +kernel
theorem dX6_answer_194 : decode cX6_answer 194 = .ok (.ireturn, 1) := by decide +kernel
theorem dX6_answer_195 : decode cX6_answer 195 = .ok (.iconst 2, 1) := by decide +kernel
theorem dX6_answer_196 : decode cX6_answer 196 = .ok (.aload_n 0, 1) := by decide +kernel
theorem dX6_answer_197 : decode cX6_answer 197 = .ok (.bipush 21, 2) := by decide +kernel
theorem dX6_answer_199 : decode cX6_answer 199 = .ok (.iload_n 2, 1) := by decide +kernel
theorem dX6_answer_200 : decode cX6_answer 200 = .ok (.iload_n 3, 1) := by decide +kernel
theorem dX6_answer_201 : decode cX6_answer 201 = .ok (.invokevirtual 265, 3) := by decide +kernel
theorem dX6_answer_204 : decode cX6_answer 204 = .ok (.imul, 1) := by decide +kernel
theorem dX6_answer_205 : decode cX6_answer 205 = .ok (.ireturn, 1) := by decide +kernel
theorem dX6_answer_206 : decode cX6_answer 206 = .ok (.iconst 0, 1) := by decide +kernel
theorem dX6_answer_207 : decode cX6_answer 207 = .ok (.ireturn, 1) := by decide +kernel
theorem dX6_leaveInTrace_0 : decode cX6_leaveInTrace 0 = .ok (.aload_n 0, 1) := by decide +kernel
theorem dX6_leaveInTrace_1 : decode cX6_leaveInTrace 1 = .ok (.getfield 256, 3) := by decide +kernel
theorem dX6_leaveInTrace_4 : decode cX6_leaveInTrace 4 = .ok (.bipush 16, 2) := by decide +kernel
theorem dX6_leaveInTrace_6 : decode cX6_leaveInTrace 6 = .ok (.if_icmp .ge 23, 3) := by decide +kernel
theorem dX6_leaveInTrace_9 : decode cX6_leaveInTrace 9 = .ok (.aload_n 0, 1) := by decide +kernel
theorem dX6_leaveInTrace_10 : decode cX6_leaveInTrace 10 = .ok (.getfield 50, 3) := by decide +kernel
theorem dX6_leaveInTrace_13 : decode cX6_leaveInTrace 13 = .ok (.aload_n 0, 1) := by decide +kernel
theorem dX6_leaveInTrace_14 : decode cX6_leaveInTrace 14 = .ok (.getfield 256, 3) := by decide +kernel
theorem dX6_leaveInTrace_17 : decode cX6_leaveInTrace 17 = .ok (.iload_n 1, 1) := by decide +kernel
theorem dX6_leaveInTrace_18 : decode cX6_leaveInTrace 18 = .ok (.iastore, 1) := by decide +kernel
theorem dX6_leaveInTrace_19 : decode cX6_leaveInTrace 19 = .ok (.aload_n 0, 1) := by decide +kernel
theorem dX6_leaveInTrace_20 : decode cX6_leaveInTrace 20 = .ok (.dup, 1) := by decide +kernel
theorem dX6_leaveInTrace_21 : decode cX6_leaveInTrace 21 = .ok (.getfield 256, 3) := by decide +kernel
theorem dX6_leaveInTrace_24 : decode cX6_leaveInTrace 24 = .ok (.iconst 1, 1) := by decide +kernel
theorem dX6_leaveInTrace_25 : decode cX6_leaveInTrace 25 = .ok (.iadd, 1) := by decide +kernel
theorem dX6_leaveInTrace_26 : decode cX6_leaveInTrace 26 = .ok (.putfield 256, 3) := by decide +kernel
theorem dX6_leaveInTrace_29 : decode cX6_leaveInTrace 29 = .ok (.return_, 1) := by decide +kernel
theorem dX7_init_0 : decode cX7_init 0 = .ok (.aload_n 0, 1) := by decide +kernel
theorem dX7_init_1 : decode cX7_init 1 = .ok (.invokespecial 1, 3) := by decide +kernel
theorem dX7_init_4 : decode cX7_init 4 = .ok (.aload_n 0, 1) := by decide +kernel
theorem dX7_init_5 : decode cX7_init 5 = .ok (.bipush 74, 2) := by decide +kernel
theorem dX7_init_7 : decode cX7_init 7 = .ok (.newarray .int, 2) := by decide +kernel
theorem dX7_init_9 : decode cX7_init 9 = .ok (.putfield 7, 3) := by decide +kernel
theorem dX7_init_12 : decode cX7_init 12 = .ok (.aload_n 0, 1) := by decide +kernel
theorem dX7_init_13 : decode cX7_init 13 = .ok (.sipush 148, 3) := by decide +kernel
theorem dX7_init_16 : decode cX7_init 16 = .ok (.newarray .int, 2) := by decide +kernel
theorem dX7_init_18 : decode cX7_init 18 = .ok (.putfield 13, 3) := by decide +kernel
theorem dX7_init_21 : decode cX7_init 21 = .ok (.aload_n 0, 1) := by decide +kernel
theorem dX7_init_22 : decode cX7_init 22 = .ok (.iconst 2, 1) := by decide +kernel
theorem dX7_init_23 : decode cX7_init 23 = .ok (.newarray .boolean, 2) := by decide +kernel
theorem dX7_init_25 : decode cX7_init 25 = .ok (.putfield 16, 3) := by decide +kernel
theorem dX7_init_28 : decode cX7_init 28 = .ok (.aload_n 0, 1) := by decide +kernel
theorem dX7_init_29 : decode cX7_init 29 = .ok (.sipush 336, 3) := by decide +kernel
theorem dX7_init_32 : decode cX7_init 32 = .ok (.newarray .int, 2) := by decide +kernel
theorem dX7_init_34 : decode cX7_init 34 = .ok (.putfield 20, 3) := by decide +kernel
theorem dX7_init_37 : decode cX7_init 37 = .ok (.aload_n 0, 1) := by decide +kernel
theorem dX7_init_38 : decode cX7_init 38 = .ok (.bipush 8, 2) := by decide +kernel
theorem dX7_init_40 : decode cX7_init 40 = .ok (.newarray .int, 2) := by decide +kernel
theorem dX7_init_42 : decode cX7_init 42 = .ok (.putfield 23, 3) := by decide +kernel
theorem dX7_init_45 : decode cX7_init 45 = .ok (.aload_n 0, 1) := by decide +kernel
theorem dX7_init_46 : decode cX7_init 46 = .ok (.bipush 8, 2) := by decide +kernel
theorem dX7_init_48 : decode cX7_init 48 = .ok (.newarray .int, 2) := by decide +kernel
theorem dX7_init_50 : decode cX7_init 50 = .ok (.putfield 26, 3) := by decide +kernel
theorem dX7_init_53 : decode cX7_init 53 = .ok (.aload_n 0, 1) := by decide +kernel
theorem dX7_init_54 : decode cX7_init 54 = .ok (.sipush 320, 3) := by decide +kernel
theorem dX7_init_57 : decode cX7_init 57 = .ok (.newarray .int, 2) := by decide +kernel
theorem dX7_init_59 : decode cX7_init 59 = .ok (.putfield 29, 3) := by decide +kernel
theorem dX7_init_62 : decode cX7_init 62 = .ok (.aload_n 0, 1) := by decide +kernel
theorem dX7_init_63 : decode cX7_init 63 = .ok (.sipush 400, 3) := by decide +kernel
theorem dX7_init_66 : decode cX7_init 66 = .ok (.newarray .int, 2) := by decide +kernel
theorem dX7_init_68 : decode cX7_init 68 = .ok (.putfield 32, 3) := by decide +kernel
theorem dX7_init_71 : decode cX7_init 71 = .ok (.aload_n 0, 1) := by decide +kernel
theorem dX7_init_72 : decode cX7_init 72 = .ok (.bipush 74, 2) := by decide +kernel
theorem dX7_init_74 : decode cX7_init 74 = .ok (.newarray .int, 2) := by decide +kernel
theorem dX7_init_76 : decode cX7_init 76 = .ok (.putfield 35, 3) := by decide +kernel
theorem dX7_init_79 : decode cX7_init 79 = .ok (.aload_n 0, 1) := by decide +kernel
theorem dX7_init_80 : decode cX7_init 80 = .ok (.bipush 16, 2) := by decide +kernel
theorem dX7_init_82 : decode cX7_init 82 = .ok (.newarray .int, 2) := by decide +kernel
theorem dX7_init_84 : decode cX7_init 84 = .ok (.putfield 38, 3) := by decide +kernel
theorem dX7_init_87 : decode cX7_init 87 = .ok (.iconst 0, 1) := by decide +kernel
theorem dX7_init_88 : decode cX7_init 88 = .ok (.istore_n 1, 1) := by decide +kernel
theorem dX7_init_89 : decode cX7_init 89 = .ok (.iload_n 1, 1) := by decide +kernel
theorem dX7_init_90 : decode cX7_init 90 = .ok (.bipush 8, 2) := by decide +kernel
theorem dX7_init_92 : decode cX7_init 92 = .ok (.if_icmp .ge 17, 3) := by decide +kernel
theorem dX7_init_95 : decode cX7_init 95 = .ok (.aload_n 0, 1) := by decide +kernel
theorem dX7_init_96 : decode cX7_init 96 = .ok (.getfield 23, 3) := by decide +kernel
theorem dX7_init_99 : decode cX7_init 99 = .ok (.iload_n 1, 1) := by decide +kernel
theorem dX7_init_100 : decode cX7_init 100 = .ok (.ldc 41, 2) := by decide +kernel
theorem dX7_init_102 : decode cX7_init 102 = .ok (.iastore, 1) := by decide +kernel
theorem dX7_init_103 : decode cX7_init 103 = .ok (.iinc 1 1, 3) := by decide +kernel
theorem dX7_init_106 : decode cX7_init 106 = .ok (.goto (-17), 3) := by decide +kernel
theorem dX7_init_109 : decode cX7_init 109 = .ok (.return_, 1) := by decide +kernel
theorem dX7_in_0 : decode cX7_in 0 = .ok (.iload_n 0, 1) := by decide +kernel
theorem dX7_in_1 : decode cX7_in 1 = .ok (.iload_n 1, 1) := by decide +kernel
theorem dX7_in_2 : decode cX7_in 2 = .ok (.if_icmp .lt 12, 3) := by decide +kernel
theorem dX7_in_5 : decode cX7_in 5 = .ok (.iload_n 0, 1) := by decide +kernel
theorem dX7_in_6 : decode cX7_in 6 = .ok (.iload_n 2, 1) := by decide +kernel
theorem dX7_in_7 : decode cX7_in 7 = .ok (.if_icmp .gt 7, 3) := by decide +kernel
theorem dX7_in_10 : decode cX7_in 10 = .ok (.iconst 1, 1) := by decide +kernel
theorem dX7_in_11 : decode cX7_in 11 = .ok (.goto 4, 3) := by decide +kernel
theorem dX7_in_14 : decode cX7_in 14 = .ok (.iconst 0, 1) := by decide +kernel
theorem dX7_in_15 : decode cX7_in 15 = .ok (.ireturn, 1) := by decide +kernel
theorem dX7_has_0 : decode cX7_has 0 = .ok (.iload_n 0, 1) := by decide +kernel
theorem dX7_has_1 : decode cX7_has 1 = .ok (.iload_n 1, 1) := by decide +kernel
theorem dX7_has_2 : decode cX7_has 2 = .ok (.ishr, 1) := by decide +kernel
theorem dX7_has_3 : decode cX7_has 3 = .ok (.iconst 1, 1) := by decide +kernel
theorem dX7_has_4 : decode cX7_has 4 = .ok (.iand, 1) := by decide +kernel
theorem dX7_has_5 : decode cX7_has 5 = .ok (.iconst 1, 1) := by decide +kernel
theorem dX7_has_6 : decode cX7_has 6 = .ok (.if_icmp .ne 7, 3) := by decide +kernel
theorem dX7_has_9 : decode cX7_has 9 = .ok (.iconst 1, 1) := by decide +kernel
theorem dX7_has_10 : decode cX7_has 10 = .ok (.goto 4, 3) := by decide +kernel
theorem dX7_has_13 : decode cX7_has 13 = .ok (.iconst 0, 1) := by decide +kernel
theorem dX7_has_14 : decode cX7_has 14 = .ok (.ireturn, 1) := by decide +kernel
theorem dX7_found_0 : decode cX7_found 0 = .ok (.aload_n 0, 1) := by decide +kernel
theorem dX7_found_1 : decode cX7_found 1 = .ok (.iload_n 1, 1) := by decide +kernel
theorem dX7_found_2 : decode cX7_found 2 = .ok (.putfield 42, 3) := by decide +kernel
theorem dX7_found_5 : decode cX7_found 5 = .ok (.ldc 46, 2) := by decide +kernel
theorem dX7_found_7 : decode cX7_found 7 = .ok (.iload_n 1, 1) := by decide +kernel
theorem dX7_found_8 : decode cX7_found 8 = .ok (.isub, 1) := by decide +kernel
theorem dX7_found_9 : decode cX7_found 9 = .ok (.ireturn, 1) := by decide +kernel
theorem dX7_well_0 : decode cX7_well 0 = .ok (.aload_n 0, 1) := by decide +kernel
theorem dX7_well_1 : decode cX7_well 1 = .ok (.iconst 0, 1) := by decide +kernel
theorem dX7_well_2 : decode cX7_well 2 = .ok (.putfield 42, 3) := by decide +kernel
theorem dX7_well_5 : decode cX7_well 5 = .ok (.iload_n 1, 1) := by decide +kernel
theorem dX7_well_6 : decode cX7_well 6 = .ok (.ireturn, 1) := by decide +kernel
theorem dX7_isRow_0 : decode cX7_isRow 0 = .ok (.iload_n 0, 1) := by decide +kernel
theorem dX7_isRow_1 : decode cX7_isRow 1 = .ok (.iconst 0, 1) := by decide +kernel
theorem dX7_isRow_2 : decode cX7_isRow 2 = .ok (.bipush 7, 2) := by decide +kernel
theorem dX7_isRow_4 : decode cX7_isRow 4 = .ok (.invokestatic 47, 3) := by decide +kernel
theorem dX7_isRow_7 : decode cX7_isRow 7 = .ok (.ireturn, 1) := by decide +kernel
theorem dX7_row_0 : decode cX7_row 0 = .ok (.iload_n 1, 1) := by decide +kernel
theorem dX7_row_1 : decode cX7_row 1 = .ok (.invokestatic 51, 3) := by decide +kernel
theorem dX7_row_4 : decode cX7_row 4 = .ok (.ifCond .eq 18, 3) := by decide +kernel
theorem dX7_row_7 : decode cX7_row 7 = .ok (.iload_n 2, 1) := by decide +kernel
theorem dX7_row_8 : decode cX7_row 8 = .ok (.iconst 0, 1) := by decide +kernel
theorem dX7_row_9 : decode cX7_row 9 = .ok (.iconst 2, 1) := by decide +kernel
theorem dX7_row_10 : decode cX7_row 10 = .ok (.invokestatic 47, 3) := by decide +kernel
theorem dX7_row_13 : decode cX7_row 13 = .ok (.ifCond .eq 9, 3) := by decide +kernel
theorem dX7_row_16 : decode cX7_row 16 = .ok (.iload_n 3, 1) := by decide +kernel
theorem dX7_row_17 : decode cX7_row 17 = .ok (.bipush 40, 2) := by decide +kernel
theorem dX7_row_19 : decode cX7_row 19 = .ok (.if_icmp .le 6, 3) := by decide +kernel
theorem dX7_row_22 : decode cX7_row 22 = .ok (.ldc 55, 2) := by decide +kernel
theorem dX7_row_24 : decode cX7_row 24 = .ok (.ireturn, 1) := by decide +kernel
theorem dX7_row_25 : decode cX7_row 25 = .ok (.iload_n 3, 1) := by decide +kernel
theorem dX7_row_26 : decode cX7_row 26 = .ok (.ifCond .ge 9, 3) := by decide +kernel
theorem dX7_row_29 : decode cX7_row 29 = .ok (.aload_n 0, 1) := by decide +kernel
theorem dX7_row_30 : decode cX7_row 30 = .ok (.iconst 4, 1) := by decide +kernel
theorem dX7_row_31 : decode cX7_row 31 = .ok (.invokevirtual 56, 3) := by decide +kernel
theorem dX7_row_34 : decode cX7_row 34 = .ok (.ireturn, 1) := by decide +kernel
theorem dX7_row_35 : decode cX7_row 35 = .ok (.aload_n 0, 1) := by decide +kernel
theorem dX7_row_36 : decode cX7_row 36 = .ok (.getfield 23, 3) := by decide +kernel
theorem dX7_row_39 : decode cX7_row 39 = .ok (.iload_n 1, 1) := by decide +kernel
theorem dX7_row_40 : decode cX7_row 40 = .ok (.iload_n 2, 1) := by decide +kernel
theorem dX7_row_41 : decode cX7_row 41 = .ok (.iastore, 1) := by decide +kernel
theorem dX7_row_42 : decode cX7_row 42 = .ok (.aload_n 0, 1) := by decide +kernel
theorem dX7_row_43 : decode cX7_row 43 = .ok (.getfield 26, 3) := by decide +kernel
theorem dX7_row_46 : decode cX7_row 46 = .ok (.iload_n 1, 1) := by decide +kernel
theorem dX7_row_47 : decode cX7_row 47 = .ok (.iload_n 3, 1) := by decide +kernel
theorem dX7_row_48 : decode cX7_row 48 = .ok (.iastore, 1) := by decide +kernel
theorem dX7_row_49 : decode cX7_row 49 = .ok (.iconst 0, 1) := by decide +kernel
theorem dX7_row_50 : decode cX7_row 50 = .ok (.istore 4, 2) := by decide +kernel
theorem dX7_row_52 : decode cX7_row 52 = .ok (.iload 4, 2) := by decide +kernel
theorem dX7_row_54 : decode cX7_row 54 = .ok (.bipush 40, 2) := by decide +kernel
theorem dX7_row_56 : decode cX7_row 56 = .ok (.if_icmp .ge 22, 3) := by decide +kernel
theorem dX7_row_59 : decode cX7_row 59 = .ok (.aload_n 0, 1) := by decide +kernel
theorem dX7_row_60 : decode cX7_row 60 = .ok (.getfield 29, 3) := by decide +kernel
theorem dX7_row_63 : decode cX7_row 63 = .ok (.bipush 40, 2) := by decide +kernel
theorem dX7_row_65 : decode cX7_row 65 = .ok (.iload_n 1, 1) := by decide +kernel
theorem dX7_row_66 : decode cX7_row 66 = .ok (.imul, 1) := by decide +kernel
theorem dX7_row_67 : decode cX7_row 67 = .ok (.iload 4, 2) := by decide +kernel
theorem dX7_row_69 : decode cX7_row 69 = .ok (.iadd, 1) := by decide +kernel
theorem dX7_row_70 : decode cX7_row 70 = .ok (.iconst 0, 1) := by decide +kernel
theorem dX7_row_71 : decode cX7_row 71 = .ok (.iastore, 1) := by decide +kernel
theorem dX7_row_72 : decode cX7_row 72 = .ok (.iinc 4 1, 3) := by decide +kernel
theorem dX7_row_75 : decode cX7_row 75 = .ok (.goto (-23), 3) := by decide +kernel
theorem dX7_row_78 : decode cX7_row 78 = .ok (.aload_n 0, 1) := by decide +kernel
theorem dX7_row_79 : decode cX7_row 79 = .ok (.iload_n 3, 1) := by decide +kernel
theorem dX7_row_80 : decode cX7_row 80 = .ok (.invokevirtual 60, 3) := by decide +kernel
theorem dX7_row_83 : decode cX7_row 83 = .ok (.ireturn, 1) := by decide +kernel
theorem dX7_set_0 : decode cX7_set 0 = .ok (.iload_n 1, 1) := by decide +kernel
theorem dX7_set_1 : decode cX7_set 1 = .ok (.invokestatic 51, 3) := by decide +kernel
theorem dX7_set_4 : decode cX7_set 4 = .ok (.ifCond .ne 6, 3) := by decide +kernel
theorem dX7_set_7 : decode cX7_set 7 = .ok (.ldc 55, 2) := by decide +kernel
theorem dX7_set_9 : decode cX7_set 9 = .ok (.ireturn, 1) := by decide +kernel
theorem dX7_set_10 : decode cX7_set 10 = .ok (.aload_n 0, 1) := by decide +kernel
theorem dX7_set_11 : decode cX7_set 11 = .ok (.getfield 23, 3) := by decide +kernel
theorem dX7_set_14 : decode cX7_set 14 = .ok (.iload_n 1, 1) := by decide +kernel
theorem dX7_set_15 : decode cX7_set 15 = .ok (.iaload, 1) := by decide +kernel
theorem dX7_set_16 : decode cX7_set 16 = .ok (.ldc 41, 2) := by decide +kernel
theorem dX7_set_18 : decode cX7_set 18 = .ok (.if_icmp .ne 9, 3) := by decide +kernel
theorem dX7_set_21 : decode cX7_set 21 = .ok (.aload_n 0, 1) := by decide +kernel
theorem dX7_set_22 : decode cX7_set 22 = .ok (.iconst 1, 1) := by decide +kernel
theorem dX7_set_23 : decode cX7_set 23 = .ok (.invokevirtual 56, 3) := by decide +kernel
theorem dX7_set_26 : decode cX7_set 26 = .ok (.ireturn, 1) := by decide +kernel
theorem dX7_set_27 : decode cX7_set 27 = .ok (.iload_n 2, 1) := by decide +kernel
theorem dX7_set_28 : decode cX7_set 28 = .ok (.iconst 0, 1) := by decide +kernel
theorem dX7_set_29 : decode cX7_set 29 = .ok (.aload_n 0, 1) := by decide +kernel
theorem dX7_set_30 : decode cX7_set 30 = .ok (.getfield 26, 3) := by decide +kernel
theorem dX7_set_33 : decode cX7_set 33 = .ok (.iload_n 1, 1) := by decide +kernel
theorem dX7_set_34 : decode cX7_set 34 = .ok (.iaload, 1) := by decide +kernel
theorem dX7_set_35 : decode cX7_set 35 = .ok (.iconst 1, 1) := by decide +kernel
theorem dX7_set_36 : decode cX7_set 36 = .ok (.isub, 1) := by decide +kernel
theorem dX7_set_37 : decode cX7_set 37 = .ok (.invokestatic 47, 3) := by decide +kernel
theorem dX7_set_40 : decode cX7_set 40 = .ok (.ifCond .ne 9, 3) := by decide +kernel
theorem dX7_set_43 : decode cX7_set 43 = .ok (.aload_n 0, 1) := by decide +kernel
theorem dX7_set_44 : decode cX7_set 44 = .ok (.iconst 2, 1) := by decide +kernel
theorem dX7_set_45 : decode cX7_set 45 = .ok (.invokevirtual 56, 3) := by decide +kernel
theorem dX7_set_48 : decode cX7_set 48 = .ok (.ireturn, 1) := by decide +kernel
theorem dX7_set_49 : decode cX7_set 49 = .ok (.aload_n 0, 1) := by decide +kernel
theorem dX7_set_50 : decode cX7_set 50 = .ok (.getfield 23, 3) := by decide +kernel
theorem dX7_set_53 : decode cX7_set 53 = .ok (.iload_n 1, 1) := by decide +kernel
theorem dX7_set_54 : decode cX7_set 54 = .ok (.iaload, 1) := by decide +kernel
theorem dX7_set_55 : decode cX7_set 55 = .ok (.ifCond .ne 8, 3) := by decide +kernel
theorem dX7_set_58 : decode cX7_set 58 = .ok (.iload_n 3, 1) := by decide +kernel
theorem dX7_set_59 : decode cX7_set 59 = .ok (.i2b, 1) := by decide +kernel
theorem dX7_set_60 : decode cX7_set 60 = .ok (.goto 19, 3) := by decide +kernel
theorem dX7_set_63 : decode cX7_set 63 = .ok (.aload_n 0, 1) := by decide +kernel
theorem dX7_set_64 : decode cX7_set 64 = .ok (.getfield 23, 3) := by decide +kernel
theorem dX7_set_67 : decode cX7_set 67 = .ok (.iload_n 1, 1) := by decide +kernel
theorem dX7_set_68 : decode cX7_set 68 = .ok (.iaload, 1) := by decide +kernel
theorem dX7_set_69 : decode cX7_set 69 = .ok (.iconst 1, 1) := by decide +kernel
theorem dX7_set_70 : decode cX7_set 70 = .ok (.if_icmp .ne 8, 3) := by decide +kernel
theorem dX7_set_73 : decode cX7_set 73 = .ok (.iload_n 3, 1) := by decide +kernel
theorem dX7_set_74 : decode cX7_set 74 = .ok (.i2s, 1) := by decide +kernel
theorem dX7_set_75 : decode cX7_set 75 = .ok (.goto 4, 3) := by decide +kernel
theorem dX7_set_78 : decode cX7_set 78 = .ok (.iload_n 3, 1) := by decide +kernel
theorem dX7_set_79 : decode cX7_set 79 = .ok (.istore 4, 2) := by decide +kernel
theorem dX7_set_81 : decode cX7_set 81 = .ok (.aload_n 0, 1) := by decide +kernel
theorem dX7_set_82 : decode cX7_set 82 = .ok (.getfield 29, 3) := by decide +kernel
theorem dX7_set_85 : decode cX7_set 85 = .ok (.bipush 40, 2) := by decide +kernel
theorem dX7_set_87 : decode cX7_set 87 = .ok (.iload_n 1, 1) := by decide +kernel
theorem dX7_set_88 : decode cX7_set 88 = .ok (.imul, 1) := by decide +kernel
theorem dX7_set_89 : decode cX7_set 89 = .ok (.iload_n 2, 1) := by decide +kernel
theorem dX7_set_90 : decode cX7_set 90 = .ok (.iadd, 1) := by decide +kernel
theorem dX7_set_91 : decode cX7_set 91 = .ok (.iload 4, 2) := by decide +kernel
theorem dX7_set_93 : decode cX7_set 93 = .ok (.iastore, 1) := by decide +kernel
theorem dX7_set_94 : decode cX7_set 94 = .ok (.aload_n 0, 1) := by decide +kernel
theorem dX7_set_95 : decode cX7_set 95 = .ok (.iload 4, 2) := by decide +kernel
theorem dX7_set_97 : decode cX7_set 97 = .ok (.invokevirtual 60, 3) := by decide +kernel
theorem dX7_set_100 : decode cX7_set 100 = .ok (.ireturn, 1) := by decide +kernel
theorem dX7_isSpan_0 : decode cX7_isSpan 0 = .ok (.iload_n 2, 1) := by decide +kernel
theorem dX7_isSpan_1 : decode cX7_isSpan 1 = .ok (.ifCond .lt 27, 3) := by decide +kernel
theorem dX7_isSpan_4 : decode cX7_isSpan 4 = .ok (.iload_n 3, 1) := by decide +kernel
theorem dX7_isSpan_5 : decode cX7_isSpan 5 = .ok (.ifCond .lt 23, 3) := by decide +kernel
theorem dX7_isSpan_8 : decode cX7_isSpan 8 = .ok (.iload_n 2, 1) := by decide +kernel
theorem dX7_isSpan_9 : decode cX7_isSpan 9 = .ok (.i2l, 1) := by decide +kernel
theorem dX7_isSpan_10 : decode cX7_isSpan 10 = .ok (.iload_n 3, 1) := by decide +kernel
theorem dX7_isSpan_11 : decode cX7_isSpan 11 = .ok (.i2l, 1) := by decide +kernel
theorem dX7_isSpan_12 : decode cX7_isSpan 12 = .ok (.ladd, 1) := by decide +kernel
theorem dX7_isSpan_13 : decode cX7_isSpan 13 = .ok (.aload_n 0, 1) := by decide +kernel
theorem dX7_isSpan_14 : decode cX7_isSpan 14 = .ok (.getfield 26, 3) := by decide +kernel
theorem dX7_isSpan_17 : decode cX7_isSpan 17 = .ok (.iload_n 1, 1) := by decide +kernel
theorem dX7_isSpan_18 : decode cX7_isSpan 18 = .ok (.iaload, 1) := by decide +kernel
theorem dX7_isSpan_19 : decode cX7_isSpan 19 = .ok (.i2l, 1) := by decide +kernel
theorem dX7_isSpan_20 : decode cX7_isSpan 20 = .ok (.lcmp, 1) := by decide +kernel
theorem dX7_isSpan_21 : decode cX7_isSpan 21 = .ok (.ifCond .gt 7, 3) := by decide +kernel
theorem dX7_isSpan_24 : decode cX7_isSpan 24 = .ok (.iconst 1, 1) := by decide +kernel
theorem dX7_isSpan_25 : decode cX7_isSpan 25 = .ok (.goto 4, 3) := by decide +kernel
theorem dX7_isSpan_28 : decode cX7_isSpan 28 = .ok (.iconst 0, 1) := by decide +kernel
theorem dX7_isSpan_29 : decode cX7_isSpan 29 = .ok (.ireturn, 1) := by decide +kernel
theorem dX7_copy_0 : decode cX7_copy 0 = .ok (.iload_n 1, 1) := by decide +kernel
theorem dX7_copy_1 : decode cX7_copy 1 = .ok (.invokestatic 51, 3) := by decide +kernel
theorem dX7_copy_4 : decode cX7_copy 4 = .ok (.ifCond .eq 10, 3) := by decide +kernel
theorem dX7_copy_7 : decode cX7_copy 7 = .ok (.iload_n 3, 1) := by decide +kernel
theorem dX7_copy_8 : decode cX7_copy 8 = .ok (.invokestatic 51, 3) := by decide +kernel
theorem dX7_copy_11 : decode cX7_copy 11 = .ok (.ifCond .ne 6, 3) := by decide +kernel
theorem dX7_copy_14 : decode cX7_copy 14 = .ok (.ldc 55, 2) := by decide +kernel
theorem dX7_copy_16 : decode cX7_copy 16 = .ok (.ireturn, 1) := by decide +kernel
theorem dX7_copy_17 : decode cX7_copy 17 = .ok (.aload_n 0, 1) := by decide +kernel
theorem dX7_copy_18 : decode cX7_copy 18 = .ok (.getfield 23, 3) := by decide +kernel
theorem dX7_copy_21 : decode cX7_copy 21 = .ok (.iload_n 1, 1) := by decide +kernel
theorem dX7_copy_22 : decode cX7_copy 22 = .ok (.iaload, 1) := by decide +kernel
theorem dX7_copy_23 : decode cX7_copy 23 = .ok (.ldc 41, 2) := by decide +kernel
theorem dX7_copy_25 : decode cX7_copy 25 = .ok (.if_icmp .eq 14, 3) := by decide +kernel
theorem dX7_copy_28 : decode cX7_copy 28 = .ok (.aload_n 0, 1) := by decide +kernel
theorem dX7_copy_29 : decode cX7_copy 29 = .ok (.getfield 23, 3) := by decide +kernel
theorem dX7_copy_32 : decode cX7_copy 32 = .ok (.iload_n 3, 1) := by decide +kernel
theorem dX7_copy_33 : decode cX7_copy 33 = .ok (.iaload, 1) := by decide +kernel
theorem dX7_copy_34 : decode cX7_copy 34 = .ok (.ldc 41, 2) := by decide +kernel
theorem dX7_copy_36 : decode cX7_copy 36 = .ok (.if_icmp .ne 9, 3) := by decide +kernel
theorem dX7_copy_39 : decode cX7_copy 39 = .ok (.aload_n 0, 1) := by decide +kernel
theorem dX7_copy_40 : decode cX7_copy 40 = .ok (.iconst 1, 1) := by decide +kernel
theorem dX7_copy_41 : decode cX7_copy 41 = .ok (.invokevirtual 56, 3) := by decide +kernel
theorem dX7_copy_44 : decode cX7_copy 44 = .ok (.ireturn, 1) := by decide +kernel
theorem dX7_copy_45 : decode cX7_copy 45 = .ok (.aload_n 0, 1) := by decide +kernel
theorem dX7_copy_46 : decode cX7_copy 46 = .ok (.getfield 23, 3) := by decide +kernel
theorem dX7_copy_49 : decode cX7_copy 49 = .ok (.iload_n 1, 1) := by decide +kernel
theorem dX7_copy_50 : decode cX7_copy 50 = .ok (.iaload, 1) := by decide +kernel
theorem dX7_copy_51 : decode cX7_copy 51 = .ok (.aload_n 0, 1) := by decide +kernel
theorem dX7_copy_52 : decode cX7_copy 52 = .ok (.getfield 23, 3) := by decide +kernel
theorem dX7_copy_55 : decode cX7_copy 55 = .ok (.iload_n 3, 1) := by decide +kernel
theorem dX7_copy_56 : decode cX7_copy 56 = .ok (.iaload, 1) := by decide +kernel
theorem dX7_copy_57 : decode cX7_copy 57 = .ok (.if_icmp .eq 9, 3) := by decide +kernel
theorem dX7_copy_60 : decode cX7_copy 60 = .ok (.aload_n 0, 1) := by decide +kernel
theorem dX7_copy_61 : decode cX7_copy 61 = .ok (.iconst 5, 1) := by decide +kernel
theorem dX7_copy_62 : decode cX7_copy 62 = .ok (.invokevirtual 56, 3) := by decide +kernel
theorem dX7_copy_65 : decode cX7_copy 65 = .ok (.ireturn, 1) := by decide +kernel
theorem dX7_copy_66 : decode cX7_copy 66 = .ok (.aload_n 0, 1) := by decide +kernel
theorem dX7_copy_67 : decode cX7_copy 67 = .ok (.iload_n 1, 1) := by decide +kernel
theorem dX7_copy_68 : decode cX7_copy 68 = .ok (.iload_n 2, 1) := by decide +kernel
theorem dX7_copy_69 : decode cX7_copy 69 = .ok (.iload 5, 2) := by decide +kernel
theorem dX7_copy_71 : decode cX7_copy 71 = .ok (.invokevirtual 63, 3) := by decide +kernel
theorem dX7_copy_74 : decode cX7_copy 74 = .ok (.ifCond .eq 15, 3) := by decide +kernel
theorem dX7_copy_77 : decode cX7_copy 77 = .ok (.aload_n 0, 1) := by decide +kernel
theorem dX7_copy_78 : decode cX7_copy 78 = .ok (.iload_n 3, 1) := by decide +kernel
theorem dX7_copy_79 : decode cX7_copy 79 = .ok (.iload 4, 2) := by decide +kernel
theorem dX7_copy_81 : decode cX7_copy 81 = .ok (.iload 5, 2) := by decide +kernel
theorem dX7_copy_83 : decode cX7_copy 83 = .ok (.invokevirtual 63, 3) := by decide +kernel
theorem dX7_copy_86 : decode cX7_copy 86 = .ok (.ifCond .ne 9, 3) := by decide +kernel
theorem dX7_copy_89 : decode cX7_copy 89 = .ok (.aload_n 0, 1) := by decide +kernel
theorem dX7_copy_90 : decode cX7_copy 90 = .ok (.iconst 2, 1) := by decide +kernel
theorem dX7_copy_91 : decode cX7_copy 91 = .ok (.invokevirtual 56, 3) := by decide +kernel
theorem dX7_copy_94 : decode cX7_copy 94 = .ok (.ireturn, 1) := by decide +kernel
theorem dX7_copy_95 : decode cX7_copy 95 = .ok (.iconst 0, 1) := by decide +kernel
theorem dX7_copy_96 : decode cX7_copy 96 = .ok (.istore 6, 2) := by decide +kernel
theorem dX7_copy_98 : decode cX7_copy 98 = .ok (.iload 6, 2) := by decide +kernel
theorem dX7_copy_100 : decode cX7_copy 100 = .ok (.iload 5, 2) := by decide +kernel
theorem dX7_copy_102 : decode cX7_copy 102 = .ok (.if_icmp .ge 58, 3) := by decide +kernel
theorem dX7_copy_105 : decode cX7_copy 105 = .ok (.iload_n 2, 1) := by decide +kernel
theorem dX7_copy_106 : decode cX7_copy 106 = .ok (.iload 4, 2) := by decide +kernel
theorem dX7_copy_108 : decode cX7_copy 108 = .ok (.if_icmp .le 8, 3) := by decide +kernel
theorem dX7_copy_111 : decode cX7_copy 111 = .ok (.iload 6, 2) := by decide +kernel
theorem dX7_copy_113 : decode cX7_copy 113 = .ok (.goto 10, 3) := by decide +kernel
theorem dX7_copy_116 : decode cX7_copy 116 = .ok (.iload 5, 2) := by decide +kernel
theorem dX7_copy_118 : decode cX7_copy 118 = .ok (.iconst 1, 1) := by decide +kernel
theorem dX7_copy_119 : decode cX7_copy 119 = .ok (.isub, 1) := by decide +kernel
theorem dX7_copy_120 : decode cX7_copy 120 = .ok (.iload 6, 2) := by decide +kernel
theorem dX7_copy_122 : decode cX7_copy 122 = .ok (.isub, 1) := by decide +kernel
theorem dX7_copy_123 : decode cX7_copy 123 = .ok (.istore 7, 2) := by decide +kernel
theorem dX7_copy_125 : decode cX7_copy 125 = .ok (.aload_n 0, 1) := by decide +kernel
theorem dX7_copy_126 : decode cX7_copy 126 = .ok (.getfield 29, 3) := by decide +kernel
theorem dX7_copy_129 : decode cX7_copy 129 = .ok (.bipush 40, 2) := by decide +kernel
theorem dX7_copy_131 : decode cX7_copy 131 = .ok (.iload_n 3, 1) := by decide +kernel
theorem dX7_copy_132 : decode cX7_copy 132 = .ok (.imul, 1) := by decide +kernel
theorem dX7_copy_133 : decode cX7_copy 133 = .ok (.iload 4, 2) := by decide +kernel
theorem dX7_copy_135 : decode cX7_copy 135 = .ok (.iadd, 1) := by decide +kernel
theorem dX7_copy_136 : decode cX7_copy 136 = .ok (.iload 7, 2) := by decide +kernel
theorem dX7_copy_138 : decode cX7_copy 138 = .ok (.iadd, 1) := by decide +kernel
theorem dX7_copy_139 : decode cX7_copy 139 = .ok (.aload_n 0, 1) := by decide +kernel
theorem dX7_copy_140 : decode cX7_copy 140 = .ok (.getfield 29, 3) := by decide +kernel
theorem dX7_copy_143 : decode cX7_copy 143 = .ok (.bipush 40, 2) := by decide +kernel
theorem dX7_copy_145 : decode cX7_copy 145 = .ok (.iload_n 1, 1) := by decide +kernel
theorem dX7_copy_146 : decode cX7_copy 146 = .ok (.imul, 1) := by decide +kernel
theorem dX7_copy_147 : decode cX7_copy 147 = .ok (.iload_n 2, 1) := by decide +kernel
theorem dX7_copy_148 : decode cX7_copy 148 = .ok (.iadd, 1) := by decide +kernel
theorem dX7_copy_149 : decode cX7_copy 149 = .ok (.iload 7, 2) := by decide +kernel
theorem dX7_copy_151 : decode cX7_copy 151 = .ok (.iadd, 1) := by decide +kernel
theorem dX7_copy_152 : decode cX7_copy 152 = .ok (.iaload, 1) := by decide +kernel
theorem dX7_copy_153 : decode cX7_copy 153 = .ok (.iastore, 1) := by decide +kernel
theorem dX7_copy_154 : decode cX7_copy 154 = .ok (.iinc 6 1, 3) := by decide +kernel
theorem dX7_copy_157 : decode cX7_copy 157 = .ok (.goto (-59), 3) := by decide +kernel
theorem dX7_copy_160 : decode cX7_copy 160 = .ok (.aload_n 0, 1) := by decide +kernel
theorem dX7_copy_161 : decode cX7_copy 161 = .ok (.iload 5, 2) := by decide +kernel
theorem dX7_copy_163 : decode cX7_copy 163 = .ok (.invokevirtual 60, 3) := by decide +kernel
theorem dX7_copy_166 : decode cX7_copy 166 = .ok (.ireturn, 1) := by decide +kernel
theorem dX7_drop_0 : decode cX7_drop 0 = .ok (.iload_n 1, 1) := by decide +kernel
theorem dX7_drop_1 : decode cX7_drop 1 = .ok (.invokestatic 51, 3) := by decide +kernel
theorem dX7_drop_4 : decode cX7_drop 4 = .ok (.ifCond .ne 6, 3) := by decide +kernel
theorem dX7_drop_7 : decode cX7_drop 7 = .ok (.ldc 55, 2) := by decide +kernel
theorem dX7_drop_9 : decode cX7_drop 9 = .ok (.ireturn, 1) := by decide +kernel
theorem dX7_drop_10 : decode cX7_drop 10 = .ok (.aload_n 0, 1) := by decide +kernel
theorem dX7_drop_11 : decode cX7_drop 11 = .ok (.getfield 23, 3) := by decide +kernel
theorem dX7_drop_14 : decode cX7_drop 14 = .ok (.iload_n 1, 1) := by decide +kernel
theorem dX7_drop_15 : decode cX7_drop 15 = .ok (.iaload, 1) := by decide +kernel
theorem dX7_drop_16 : decode cX7_drop 16 = .ok (.ldc 41, 2) := by decide +kernel
theorem dX7_drop_18 : decode cX7_drop 18 = .ok (.if_icmp .ne 9, 3) := by decide +kernel
theorem dX7_drop_21 : decode cX7_drop 21 = .ok (.aload_n 0, 1) := by decide +kernel
theorem dX7_drop_22 : decode cX7_drop 22 = .ok (.iconst 1, 1) := by decide +kernel
theorem dX7_drop_23 : decode cX7_drop 23 = .ok (.invokevirtual 56, 3) := by decide +kernel
theorem dX7_drop_26 : decode cX7_drop 26 = .ok (.ireturn, 1) := by decide +kernel
theorem dX7_drop_27 : decode cX7_drop 27 = .ok (.aload_n 0, 1) := by decide +kernel
theorem dX7_drop_28 : decode cX7_drop 28 = .ok (.getfield 23, 3) := by decide +kernel
theorem dX7_drop_31 : decode cX7_drop 31 = .ok (.iload_n 1, 1) := by decide +kernel
theorem dX7_drop_32 : decode cX7_drop 32 = .ok (.ldc 41, 2) := by decide +kernel
theorem dX7_drop_34 : decode cX7_drop 34 = .ok (.iastore, 1) := by decide +kernel
theorem dX7_drop_35 : decode cX7_drop 35 = .ok (.aload_n 0, 1) := by decide +kernel
theorem dX7_drop_36 : decode cX7_drop 36 = .ok (.aload_n 0, 1) := by decide +kernel
theorem dX7_drop_37 : decode cX7_drop 37 = .ok (.getfield 26, 3) := by decide +kernel
theorem dX7_drop_40 : decode cX7_drop 40 = .ok (.iload_n 1, 1) := by decide +kernel
theorem dX7_drop_41 : decode cX7_drop 41 = .ok (.iaload, 1) := by decide +kernel
theorem dX7_drop_42 : decode cX7_drop 42 = .ok (.invokevirtual 60, 3) := by decide +kernel
theorem dX7_drop_45 : decode cX7_drop 45 = .ok (.ireturn, 1) := by decide +kernel
theorem dX7_feed_0 : decode cX7_feed 0 = .ok (.iload_n 3, 1) := by decide +kernel
theorem dX7_feed_1 : decode cX7_feed 1 = .ok (.iconst 1, 1) := by decide +kernel
theorem dX7_feed_2 : decode cX7_feed 2 = .ok (.bipush 8, 2) := by decide +kernel
theorem dX7_feed_4 : decode cX7_feed 4 = .ok (.invokestatic 47, 3) := by decide +kernel
theorem dX7_feed_7 : decode cX7_feed 7 = .ok (.ifCond .ne 6, 3) := by decide +kernel
theorem dX7_feed_10 : decode cX7_feed 10 = .ok (.ldc 55, 2) := by decide +kernel
theorem dX7_feed_12 : decode cX7_feed 12 = .ok (.ireturn, 1) := by decide +kernel
theorem dX7_feed_13 : decode cX7_feed 13 = .ok (.aload_n 0, 1) := by decide +kernel
theorem dX7_feed_14 : decode cX7_feed 14 = .ok (.getfield 66, 3) := by decide +kernel
theorem dX7_feed_17 : decode cX7_feed 17 = .ok (.iload_n 3, 1) := by decide +kernel
theorem dX7_feed_18 : decode cX7_feed 18 = .ok (.iadd, 1) := by decide +kernel
theorem dX7_feed_19 : decode cX7_feed 19 = .ok (.sipush 400, 3) := by decide +kernel
theorem dX7_feed_22 : decode cX7_feed 22 = .ok (.if_icmp .le 6, 3) := by decide +kernel
theorem dX7_feed_25 : decode cX7_feed 25 = .ok (.ldc 69, 2) := by decide +kernel
theorem dX7_feed_27 : decode cX7_feed 27 = .ok (.ireturn, 1) := by decide +kernel
theorem dX7_feed_28 : decode cX7_feed 28 = .ok (.iload_n 3, 1) := by decide +kernel
theorem dX7_feed_29 : decode cX7_feed 29 = .ok (.iconst 1, 1) := by decide +kernel
theorem dX7_feed_30 : decode cX7_feed 30 = .ok (.isub, 1) := by decide +kernel
theorem dX7_feed_31 : decode cX7_feed 31 = .ok (.istore 4, 2) := by decide +kernel
theorem dX7_feed_33 : decode cX7_feed 33 = .ok (.iload 4, 2) := by decide +kernel
theorem dX7_feed_35 : decode cX7_feed 35 = .ok (.ifCond .lt 40, 3) := by decide +kernel
theorem dX7_feed_38 : decode cX7_feed 38 = .ok (.aload_n 0, 1) := by decide +kernel
theorem dX7_feed_39 : decode cX7_feed 39 = .ok (.getfield 32, 3) := by decide +kernel
theorem dX7_feed_42 : decode cX7_feed 42 = .ok (.aload_n 0, 1) := by decide +kernel
theorem dX7_feed_43 : decode cX7_feed 43 = .ok (.getfield 66, 3) := by decide +kernel
theorem dX7_feed_46 : decode cX7_feed 46 = .ok (.lload_n 1, 1) := by decide +kernel
theorem dX7_feed_47 : decode cX7_feed 47 = .ok (.bipush 8, 2) := by decide +kernel
theorem dX7_feed_49 : decode cX7_feed 49 = .ok (.iload 4, 2) := by decide +kernel
theorem dX7_feed_51 : decode cX7_feed 51 = .ok (.imul, 1) := by decide +kernel
theorem dX7_feed_52 : decode cX7_feed 52 = .ok (.lshr, 1) := by decide +kernel
theorem dX7_feed_53 : decode cX7_feed 53 = .ok (.ldc2_w 70, 3) := by decide +kernel
theorem dX7_feed_56 : decode cX7_feed 56 = .ok (.land, 1) := by decide +kernel
theorem dX7_feed_57 : decode cX7_feed 57 = .ok (.l2i, 1) := by decide +kernel
theorem dX7_feed_58 : decode cX7_feed 58 = .ok (.iastore, 1) := by decide +kernel
theorem dX7_feed_59 : decode cX7_feed 59 = .ok (.aload_n 0, 1) := by decide +kernel
theorem dX7_feed_60 : decode cX7_feed 60 = .ok (.dup, 1) := by decide +kernel
theorem dX7_feed_61 : decode cX7_feed 61 = .ok (.getfield 66, 3) := by decide +kernel
theorem dX7_feed_64 : decode cX7_feed 64 = .ok (.iconst 1, 1) := by decide +kernel
theorem dX7_feed_65 : decode cX7_feed 65 = .ok (.iadd, 1) := by decide +kernel
theorem dX7_feed_66 : decode cX7_feed 66 = .ok (.putfield 66, 3) := by decide +kernel
theorem dX7_feed_69 : decode cX7_feed 69 = .ok (.iinc 4 (-1), 3) := by decide +kernel
theorem dX7_feed_72 : decode cX7_feed 72 = .ok (.goto (-39), 3) := by decide +kernel
theorem dX7_feed_75 : decode cX7_feed 75 = .ok (.aload_n 0, 1) := by decide +kernel
theorem dX7_feed_76 : decode cX7_feed 76 = .ok (.getfield 66, 3) := by decide +kernel
theorem dX7_feed_79 : decode cX7_feed 79 = .ok (.ireturn, 1) := by decide +kernel
theorem dX7_byteAt_0 : decode cX7_byteAt 0 = .ok (.iload_n 1, 1) := by decide +kernel
theorem dX7_byteAt_1 : decode cX7_byteAt 1 = .ok (.aload_n 0, 1) := by decide +kernel
theorem dX7_byteAt_2 : decode cX7_byteAt 2 = .ok (.getfield 66, 3) := by decide +kernel
theorem dX7_byteAt_5 : decode cX7_byteAt 5 = .ok (.if_icmp .ge 12, 3) := by decide +kernel
theorem dX7_byteAt_8 : decode cX7_byteAt 8 = .ok (.aload_n 0, 1) := by decide +kernel
theorem dX7_byteAt_9 : decode cX7_byteAt 9 = .ok (.getfield 32, 3) := by decide +kernel
theorem dX7_byteAt_12 : decode cX7_byteAt 12 = .ok (.iload_n 1, 1) := by decide +kernel
theorem dX7_byteAt_13 : decode cX7_byteAt 13 = .ok (.iaload, 1) := by decide +kernel
theorem dX7_byteAt_14 : decode cX7_byteAt 14 = .ok (.goto 4, 3) := by decide +kernel
theorem dX7_byteAt_17 : decode cX7_byteAt 17 = .ok (.iconst (-1), 1) := by decide +kernel
theorem dX7_byteAt_18 : decode cX7_byteAt 18 = .ok (.ireturn, 1) := by decide +kernel
theorem dX7_next_0 : decode cX7_next 0 = .ok (.aload_n 0, 1) := by decide +kernel
theorem dX7_next_1 : decode cX7_next 1 = .ok (.aload_n 0, 1) := by decide +kernel
theorem dX7_next_2 : decode cX7_next 2 = .ok (.getfield 72, 3) := by decide +kernel
theorem dX7_next_5 : decode cX7_next 5 = .ok (.invokevirtual 75, 3) := by decide +kernel
theorem dX7_next_8 : decode cX7_next 8 = .ok (.bipush 32, 2) := by decide +kernel
theorem dX7_next_10 : decode cX7_next 10 = .ok (.if_icmp .eq 16, 3) := by decide +kernel
theorem dX7_next_13 : decode cX7_next 13 = .ok (.aload_n 0, 1) := by decide +kernel
theorem dX7_next_14 : decode cX7_next 14 = .ok (.aload_n 0, 1) := by decide +kernel
theorem dX7_next_15 : decode cX7_next 15 = .ok (.getfield 72, 3) := by decide +kernel
theorem dX7_next_18 : decode cX7_next 18 = .ok (.invokevirtual 75, 3) := by decide +kernel
theorem dX7_next_21 : decode cX7_next 21 = .ok (.bipush 10, 2) := by decide +kernel
theorem dX7_next_23 : decode cX7_next 23 = .ok (.if_icmp .ne 16, 3) := by decide +kernel
theorem dX7_next_26 : decode cX7_next 26 = .ok (.aload_n 0, 1) := by decide +kernel
theorem dX7_next_27 : decode cX7_next 27 = .ok (.dup, 1) := by decide +kernel
theorem dX7_next_28 : decode cX7_next 28 = .ok (.getfield 72, 3) := by decide +kernel
theorem dX7_next_31 : decode cX7_next 31 = .ok (.iconst 1, 1) := by decide +kernel
theorem dX7_next_32 : decode cX7_next 32 = .ok (.iadd, 1) := by decide +kernel
theorem dX7_next_33 : decode cX7_next 33 = .ok (.putfield 72, 3) := by decide +kernel
theorem dX7_next_36 : decode cX7_next 36 = .ok (.goto (-36), 3) := by decide +kernel
theorem dX7_next_39 : decode cX7_next 39 = .ok (.aload_n 0, 1) := by decide +kernel
theorem dX7_next_40 : decode cX7_next 40 = .ok (.aload_n 0, 1) := by decide +kernel
theorem dX7_next_41 : decode cX7_next 41 = .ok (.getfield 72, 3) := by decide +kernel
theorem dX7_next_44 : decode cX7_next 44 = .ok (.putfield 78, 3) := by decide +kernel
theorem dX7_next_47 : decode cX7_next 47 = .ok (.aload_n 0, 1) := by decide +kernel
theorem dX7_next_48 : decode cX7_next 48 = .ok (.aload_n 0, 1) := by decide +kernel
theorem dX7_next_49 : decode cX7_next 49 = .ok (.getfield 72, 3) := by decide +kernel
theorem dX7_next_52 : decode cX7_next 52 = .ok (.invokevirtual 75, 3) := by decide +kernel
theorem dX7_next_55 : decode cX7_next 55 = .ok (.istore_n 1, 1) := by decide +kernel
theorem dX7_next_56 : decode cX7_next 56 = .ok (.iload_n 1, 1) := by decide +kernel
theorem dX7_next_57 : decode cX7_next 57 = .ok (.ifCond .ge 11, 3) := by decide +kernel
theorem dX7_next_60 : decode cX7_next 60 = .ok (.aload_n 0, 1) := by decide +kernel
theorem dX7_next_61 : decode cX7_next 61 = .ok (.iconst 0, 1) := by decide +kernel
theorem dX7_next_62 : decode cX7_next 62 = .ok (.putfield 81, 3) := by decide +kernel
theorem dX7_next_65 : decode cX7_next 65 = .ok (.goto 234, 3) := by decide +kernel
theorem dX7_next_68 : decode cX7_next 68 = .ok (.iload_n 1, 1) := by decide +kernel
theorem dX7_next_69 : decode cX7_next 69 = .ok (.bipush 97, 2) := by decide +kernel
theorem dX7_next_71 : decode cX7_next 71 = .ok (.bipush 122, 2) := by decide +kernel
theorem dX7_next_73 : decode cX7_next 73 = .ok (.invokestatic 47, 3) := by decide +kernel
theorem dX7_next_76 : decode cX7_next 76 = .ok (.ifCond .eq 83, 3) := by decide +kernel
theorem dX7_next_79 : decode cX7_next 79 = .ok (.aload_n 0, 1) := by decide +kernel
theorem dX7_next_80 : decode cX7_next 80 = .ok (.iconst 1, 1) := by decide +kernel
theorem dX7_next_81 : decode cX7_next 81 = .ok (.putfield 81, 3) := by decide +kernel
theorem dX7_next_84 : decode cX7_next 84 = .ok (.aload_n 0, 1) := by decide +kernel
theorem dX7_next_85 : decode cX7_next 85 = .ok (.lconst 0, 1) := by decide +kernel
theorem dX7_next_86 : decode cX7_next 86 = .ok (.putfield 84, 3) := by decide +kernel
theorem dX7_next_89 : decode cX7_next 89 = .ok (.aload_n 0, 1) := by decide +kernel
theorem dX7_next_90 : decode cX7_next 90 = .ok (.aload_n 0, 1) := by decide +kernel
theorem dX7_next_91 : decode cX7_next 91 = .ok (.getfield 72, 3) := by decide +kernel
theorem dX7_next_94 : decode cX7_next 94 = .ok (.invokevirtual 75, 3) := by decide +kernel
theorem dX7_next_97 : decode cX7_next 97 = .ok (.bipush 97, 2) := by decide +kernel
theorem dX7_next_99 : decode cX7_next 99 = .ok (.bipush 122, 2) := by decide +kernel
theorem dX7_next_101 : decode cX7_next 101 = .ok (.invokestatic 47, 3) := by decide +kernel
theorem dX7_next_104 : decode cX7_next 104 = .ok (.ifCond .eq 195, 3) := by decide +kernel
theorem dX7_next_107 : decode cX7_next 107 = .ok (.aload_n 0, 1) := by decide +kernel
theorem dX7_next_108 : decode cX7_next 108 = .ok (.aload_n 0, 1) := by decide +kernel
theorem dX7_next_109 : decode cX7_next 109 = .ok (.getfield 72, 3) := by decide +kernel
theorem dX7_next_112 : decode cX7_next 112 = .ok (.aload_n 0, 1) := by decide +kernel
theorem dX7_next_113 : decode cX7_next 113 = .ok (.getfield 78, 3) := by decide +kernel
theorem dX7_next_116 : decode cX7_next 116 = .ok (.isub, 1) := by decide +kernel
theorem dX7_next_117 : decode cX7_next 117 = .ok (.bipush 8, 2) := by decide +kernel
theorem dX7_next_119 : decode cX7_next 119 = .ok (.if_icmp .ge 23, 3) := by decide +kernel
theorem dX7_next_122 : decode cX7_next 122 = .ok (.aload_n 0, 1) := by decide +kernel
theorem dX7_next_123 : decode cX7_next 123 = .ok (.getfield 84, 3) := by decide +kernel
theorem dX7_next_126 : decode cX7_next 126 = .ok (.bipush 8, 2) := by decide +kernel
theorem dX7_next_128 : decode cX7_next 128 = .ok (.lshl, 1) := by decide +kernel
theorem dX7_next_129 : decode cX7_next 129 = .ok (.aload_n 0, 1) := by decide +kernel
theorem dX7_next_130 : decode cX7_next 130 = .ok (.aload_n 0, 1) := by decide +kernel
theorem dX7_next_131 : decode cX7_next 131 = .ok (.getfield 72, 3) := by decide +kernel
theorem dX7_next_134 : decode cX7_next 134 = .ok (.invokevirtual 75, 3) := by decide +kernel
theorem dX7_next_137 : decode cX7_next 137 = .ok (.i2l, 1) := by decide +kernel
theorem dX7_next_138 : decode cX7_next 138 = .ok (.lor, 1) := by decide +kernel
theorem dX7_next_139 : decode cX7_next 139 = .ok (.goto 4, 3) := by decide +kernel
theorem dX7_next_142 : decode cX7_next 142 = .ok (.lconst 0, 1) := by decide +kernel
theorem dX7_next_143 : decode cX7_next 143 = .ok (.putfield 84, 3) := by decide +kernel
theorem dX7_next_146 : decode cX7_next 146 = .ok (.aload_n 0, 1) := by decide +kernel
theorem dX7_next_147 : decode cX7_next 147 = .ok (.dup, 1) := by decide +kernel
theorem dX7_next_148 : decode cX7_next 148 = .ok (.getfield 72, 3) := by decide +kernel
theorem dX7_next_151 : decode cX7_next 151 = .ok (.iconst 1, 1) := by decide +kernel
theorem dX7_next_152 : decode cX7_next 152 = .ok (.iadd, 1) := by decide +kernel
theorem dX7_next_153 : decode cX7_next 153 = .ok (.putfield 72, 3) := by decide +kernel
theorem dX7_next_156 : decode cX7_next 156 = .ok (.goto (-67), 3) := by decide +kernel
theorem dX7_next_159 : decode cX7_next 159 = .ok (.iload_n 1, 1) := by decide +kernel
theorem dX7_next_160 : decode cX7_next 160 = .ok (.bipush 48, 2) := by decide +kernel
theorem dX7_next_162 : decode cX7_next 162 = .ok (.bipush 57, 2) := by decide +kernel
theorem dX7_next_164 : decode cX7_next 164 = .ok (.invokestatic 47, 3) := by decide +kernel
theorem dX7_next_167 : decode cX7_next 167 = .ok (.ifCond .eq 107, 3) := by decide +kernel
theorem dX7_next_170 : decode cX7_next 170 = .ok (.aload_n 0, 1) := by decide +kernel
theorem dX7_next_171 : decode cX7_next 171 = .ok (.iconst 0, 1) := by decide +kernel
theorem dX7_next_172 : decode cX7_next 172 = .ok (.putfield 88, 3) := by decide +kernel
theorem dX7_next_175 : decode cX7_next 175 = .ok (.aload_n 0, 1) := by decide +kernel
theorem dX7_next_176 : decode cX7_next 176 = .ok (.aload_n 0, 1) := by decide +kernel
theorem dX7_next_177 : decode cX7_next 177 = .ok (.getfield 72, 3) := by decide +kernel
theorem dX7_next_180 : decode cX7_next 180 = .ok (.invokevirtual 75, 3) := by decide +kernel
theorem dX7_next_183 : decode cX7_next 183 = .ok (.bipush 48, 2) := by decide +kernel
theorem dX7_next_185 : decode cX7_next 185 = .ok (.bipush 57, 2) := by decide +kernel
theorem dX7_next_187 : decode cX7_next 187 = .ok (.invokestatic 47, 3) := by decide +kernel
theorem dX7_next_190 : decode cX7_next 190 = .ok (.ifCond .eq 59, 3) := by decide +kernel
theorem dX7_next_193 : decode cX7_next 193 = .ok (.aload_n 0, 1) := by decide +kernel
theorem dX7_next_194 : decode cX7_next 194 = .ok (.aload_n 0, 1) := by decide +kernel
theorem dX7_next_195 : decode cX7_next 195 = .ok (.getfield 72, 3) := by decide +kernel
theorem dX7_next_198 : decode cX7_next 198 = .ok (.aload_n 0, 1) := by decide +kernel
theorem dX7_next_199 : decode cX7_next 199 = .ok (.getfield 78, 3) := by decide +kernel
theorem dX7_next_202 : decode cX7_next 202 = .ok (.isub, 1) := by decide +kernel
theorem dX7_next_203 : decode cX7_next 203 = .ok (.iconst 3, 1) := by decide +kernel
theorem dX7_next_204 : decode cX7_next 204 = .ok (.if_icmp .ge 25, 3) := by decide +kernel
theorem dX7_next_207 : decode cX7_next 207 = .ok (.bipush 10, 2) := by decide +kernel
theorem dX7_next_209 : decode cX7_next 209 = .ok (.aload_n 0, 1) := by decide +kernel
theorem dX7_next_210 : decode cX7_next 210 = .ok (.getfield 88, 3) := by decide +kernel
theorem dX7_next_213 : decode cX7_next 213 = .ok (.imul, 1) := by decide +kernel
theorem dX7_next_214 : decode cX7_next 214 = .ok (.aload_n 0, 1) := by decide +kernel
theorem dX7_next_215 : decode cX7_next 215 = .ok (.aload_n 0, 1) := by decide +kernel
theorem dX7_next_216 : decode cX7_next 216 = .ok (.getfield 72, 3) := by decide +kernel
theorem dX7_next_219 : decode cX7_next 219 = .ok (.invokevirtual 75, 3) := by decide +kernel
theorem dX7_next_222 : decode cX7_next 222 = .ok (.iadd, 1) := by decide +kernel
theorem dX7_next_223 : decode cX7_next 223 = .ok (.bipush 48, 2) := by decide +kernel
theorem dX7_next_225 : decode cX7_next 225 = .ok (.isub, 1) := by decide +kernel
theorem dX7_next_226 : decode cX7_next 226 = .ok (.goto 7, 3) := by decide +kernel
theorem dX7_next_229 : decode cX7_next 229 = .ok (.aload_n 0, 1) := by decide +kernel
theorem dX7_next_230 : decode cX7_next 230 = .ok (.getfield 88, 3) := by decide +kernel
theorem dX7_next_233 : decode cX7_next 233 = .ok (.putfield 88, 3) := by decide +kernel
theorem dX7_next_236 : decode cX7_next 236 = .ok (.aload_n 0, 1) := by decide +kernel
theorem dX7_next_237 : decode cX7_next 237 = .ok (.dup, 1) := by decide +kernel
theorem dX7_next_238 : decode cX7_next 238 = .ok (.getfield 72, 3) := by decide +kernel
theorem dX7_next_241 : decode cX7_next 241 = .ok (.iconst 1, 1) := by decide +kernel
theorem dX7_next_242 : decode cX7_next 242 = .ok (.iadd, 1) := by decide +kernel
theorem dX7_next_243 : decode cX7_next 243 = .ok (.putfield 72, 3) := by decide +kernel
theorem dX7_next_246 : decode cX7_next 246 = .ok (.goto (-71), 3) := by decide +kernel
theorem dX7_next_249 : decode cX7_next 249 = .ok (.aload_n 0, 1) := by decide +kernel
theorem dX7_next_250 : decode cX7_next 250 = .ok (.aload_n 0, 1) := by decide +kernel
theorem dX7_next_251 : decode cX7_next 251 = .ok (.getfield 72, 3) := by decide +kernel
theorem dX7_next_254 : decode cX7_next 254 = .ok (.aload_n 0, 1) := by decide +kernel
theorem dX7_next_255 : decode cX7_next 255 = .ok (.getfield 78, 3) := by decide +kernel
theorem dX7_next_258 : decode cX7_next 258 = .ok (.isub, 1) := by decide +kernel
theorem dX7_next_259 : decode cX7_next 259 = .ok (.iconst 4, 1) := by decide +kernel
theorem dX7_next_260 : decode cX7_next 260 = .ok (.if_icmp .ge 7, 3) := by decide +kernel
theorem dX7_next_263 : decode cX7_next 263 = .ok (.iconst 2, 1) := by decide +kernel
theorem dX7_next_264 : decode cX7_next 264 = .ok (.goto 4, 3) := by decide +kernel
theorem dX7_next_267 : decode cX7_next 267 = .ok (.iconst 4, 1) := by decide +kernel
theorem dX7_next_268 : decode cX7_next 268 = .ok (.putfield 81, 3) := by decide +kernel
theorem dX7_next_271 : decode cX7_next 271 = .ok (.goto 28, 3) := by decide +kernel
theorem dX7_next_274 : decode cX7_next 274 = .ok (.aload_n 0, 1) := by decide +kernel
theorem dX7_next_275 : decode cX7_next 275 = .ok (.iload_n 1, 1) := by decide +kernel
theorem dX7_next_276 : decode cX7_next 276 = .ok (.bipush 59, 2) := by decide +kernel
theorem dX7_next_278 : decode cX7_next 278 = .ok (.if_icmp .ne 7, 3) := by decide +kernel
theorem dX7_next_281 : decode cX7_next 281 = .ok (.iconst 3, 1) := by decide +kernel
theorem dX7_next_282 : decode cX7_next 282 = .ok (.goto 4, 3) := by decide +kernel
theorem dX7_next_285 : decode cX7_next 285 = .ok (.iconst 4, 1) := by decide +kernel
theorem dX7_next_286 : decode cX7_next 286 = .ok (.putfield 81, 3) := by decide +kernel
theorem dX7_next_289 : decode cX7_next 289 = .ok (.aload_n 0, 1) := by decide +kernel
theorem dX7_next_290 : decode cX7_next 290 = .ok (.dup, 1) := by decide +kernel
theorem dX7_next_291 : decode cX7_next 291 = .ok (.getfield 72, 3) := by decide +kernel
theorem dX7_next_294 : decode cX7_next 294 = .ok (.iconst 1, 1) := by decide +kernel
theorem dX7_next_295 : decode cX7_next 295 = .ok (.iadd, 1) := by decide +kernel
theorem dX7_next_296 : decode cX7_next 296 = .ok (.putfield 72, 3) := by decide +kernel
theorem dX7_next_299 : decode cX7_next 299 = .ok (.return_, 1) := by decide +kernel
