theorem dX0_init_0 : decode cX0_init 0 = .ok (.aload_n 0, 1) := by decide +kernel
theorem dX0_init_1 : decode cX0_init 1 = .ok (.invokespecial 3, 3) := by decide +kernel
theorem dX0_init_4 : decode cX0_init 4 = .ok (.aload_n 0, 1) := by decide +kernel
theorem dX0_init_5 : decode cX0_init 5 = .ok (.sipush 168, 3) := by decide +kernel
theorem dX0_init_8 : decode cX0_init 8 = .ok (.newarray .int, 2) := by decide +kernel
theorem dX0_init_10 : decode cX0_init 10 = .ok (.putfield 9, 3) := by decide +kernel
theorem dX0_init_13 : decode cX0_init 13 = .ok (.aload_n 0, 1) := by decide +kernel
theorem dX0_init_14 : decode cX0_init 14 = .ok (.sipush 168, 3) := by decide +kernel
theorem dX0_init_17 : decode cX0_init 17 = .ok (.newarray .int, 2) := by decide +kernel
theorem dX0_init_19 : decode cX0_init 19 = .ok (.putfield 15, 3) := by decide +kernel
theorem dX0_init_22 : decode cX0_init 22 = .ok (.return_, 1) := by decide +kernel
theorem dX0_keep_0 : decode cX0_keep 0 = .ok (.aload_n 1, 1) := by decide +kernel
theorem dX0_keep_1 : decode cX0_keep 1 = .ok (.getfield 18, 3) := by decide +kernel
theorem dX0_keep_4 : decode cX0_keep 4 = .ok (.iconst 0, 1) := by decide +kernel
theorem dX0_keep_5 : decode cX0_keep 5 = .ok (.aload_n 0, 1) := by decide +kernel
theorem dX0_keep_6 : decode cX0_keep 6 = .ok (.getfield 9, 3) := by decide +kernel
theorem dX0_keep_9 : decode cX0_keep 9 = .ok (.aload_n 0, 1) := by decide +kernel
theorem dX0_keep_10 : decode cX0_keep 10 = .ok (.getfield 21, 3) := by decide +kernel
theorem dX0_keep_13 : decode cX0_keep 13 = .ok (.bipush 7, 2) := by decide +kernel
theorem dX0_keep_15 : decode cX0_keep 15 = .ok (.imul, 1) := by decide +kernel
theorem dX0_keep_16 : decode cX0_keep 16 = .ok (.bipush 7, 2) := by decide +kernel
theorem dX0_keep_18 : decode cX0_keep 18 = .ok (.invokestatic 25, 3) := by decide +kernel
theorem dX0_keep_21 : decode cX0_keep 21 = .ok (.aload_n 1, 1) := by decide +kernel
theorem dX0_keep_22 : decode cX0_keep 22 = .ok (.getfield 31, 3) := by decide +kernel
theorem dX0_keep_25 : decode cX0_keep 25 = .ok (.iconst 0, 1) := by decide +kernel
theorem dX0_keep_26 : decode cX0_keep 26 = .ok (.aload_n 0, 1) := by decide +kernel
theorem dX0_keep_27 : decode cX0_keep 27 = .ok (.getfield 15, 3) := by decide +kernel
theorem dX0_keep_30 : decode cX0_keep 30 = .ok (.aload_n 0, 1) := by decide +kernel
theorem dX0_keep_31 : decode cX0_keep 31 = .ok (.getfield 21, 3) := by decide +kernel
theorem dX0_keep_34 : decode cX0_keep 34 = .ok (.bipush 7, 2) := by decide +kernel
theorem dX0_keep_36 : decode cX0_keep 36 = .ok (.imul, 1) := by decide +kernel
theorem dX0_keep_37 : decode cX0_keep 37 = .ok (.bipush 7, 2) := by decide +kernel
theorem dX0_keep_39 : decode cX0_keep 39 = .ok (.invokestatic 25, 3) := by decide +kernel
theorem dX0_keep_42 : decode cX0_keep 42 = .ok (.aload_n 0, 1) := by decide +kernel
theorem dX0_keep_43 : decode cX0_keep 43 = .ok (.aload_n 0, 1) := by decide +kernel
theorem dX0_keep_44 : decode cX0_keep 44 = .ok (.getfield 21, 3) := by decide +kernel
theorem dX0_keep_47 : decode cX0_keep 47 = .ok (.iconst 1, 1) := by decide +kernel
theorem dX0_keep_48 : decode cX0_keep 48 = .ok (.iadd, 1) := by decide +kernel
theorem dX0_keep_49 : decode cX0_keep 49 = .ok (.bipush 24, 2) := by decide +kernel
theorem dX0_keep_51 : decode cX0_keep 51 = .ok (.irem, 1) := by decide +kernel
theorem dX0_keep_52 : decode cX0_keep 52 = .ok (.putfield 21, 3) := by decide +kernel
theorem dX0_keep_55 : decode cX0_keep 55 = .ok (.aload_n 0, 1) := by decide +kernel
theorem dX0_keep_56 : decode cX0_keep 56 = .ok (.aload_n 0, 1) := by decide +kernel
theorem dX0_keep_57 : decode cX0_keep 57 = .ok (.getfield 32, 3) := by decide +kernel
theorem dX0_keep_60 : decode cX0_keep 60 = .ok (.iconst 1, 1) := by decide +kernel
theorem dX0_keep_61 : decode cX0_keep 61 = .ok (.iadd, 1) := by decide +kernel
theorem dX0_keep_62 : decode cX0_keep 62 = .ok (.bipush 24, 2) := by decide +kernel
theorem dX0_keep_64 : decode cX0_keep 64 = .ok (.invokestatic 35, 3) := by decide +kernel
theorem dX0_keep_67 : decode cX0_keep 67 = .ok (.putfield 32, 3) := by decide +kernel
theorem dX0_keep_70 : decode cX0_keep 70 = .ok (.return_, 1) := by decide +kernel
theorem dX0_takeBack_0 : decode cX0_takeBack 0 = .ok (.aload_n 0, 1) := by decide +kernel
theorem dX0_takeBack_1 : decode cX0_takeBack 1 = .ok (.aload_n 0, 1) := by decide +kernel
theorem dX0_takeBack_2 : decode cX0_takeBack 2 = .ok (.getfield 21, 3) := by decide +kernel
theorem dX0_takeBack_5 : decode cX0_takeBack 5 = .ok (.bipush 24, 2) := by decide +kernel
theorem dX0_takeBack_7 : decode cX0_takeBack 7 = .ok (.iadd, 1) := by decide +kernel
theorem dX0_takeBack_8 : decode cX0_takeBack 8 = .ok (.iconst 1, 1) := by decide +kernel
theorem dX0_takeBack_9 : decode cX0_takeBack 9 = .ok (.isub, 1) := by decide +kernel
theorem dX0_takeBack_10 : decode cX0_takeBack 10 = .ok (.bipush 24, 2) := by decide +kernel
theorem dX0_takeBack_12 : decode cX0_takeBack 12 = .ok (.irem, 1) := by decide +kernel
theorem dX0_takeBack_13 : decode cX0_takeBack 13 = .ok (.putfield 21, 3) := by decide +kernel
theorem dX0_takeBack_16 : decode cX0_takeBack 16 = .ok (.aload_n 0, 1) := by decide +kernel
theorem dX0_takeBack_17 : decode cX0_takeBack 17 = .ok (.dup, 1) := by decide +kernel
theorem dX0_takeBack_18 : decode cX0_takeBack 18 = .ok (.getfield 32, 3) := by decide +kernel
theorem dX0_takeBack_21 : decode cX0_takeBack 21 = .ok (.iconst 1, 1) := by decide +kernel
theorem dX0_takeBack_22 : decode cX0_takeBack 22 = .ok (.isub, 1) := by decide +kernel
theorem dX0_takeBack_23 : decode cX0_takeBack 23 = .ok (.putfield 32, 3) := by decide +kernel
theorem dX0_takeBack_26 : decode cX0_takeBack 26 = .ok (.aload_n 0, 1) := by decide +kernel
theorem dX0_takeBack_27 : decode cX0_takeBack 27 = .ok (.getfield 9, 3) := by decide +kernel
theorem dX0_takeBack_30 : decode cX0_takeBack 30 = .ok (.aload_n 0, 1) := by decide +kernel
theorem dX0_takeBack_31 : decode cX0_takeBack 31 = .ok (.getfield 21, 3) := by decide +kernel
theorem dX0_takeBack_34 : decode cX0_takeBack 34 = .ok (.bipush 7, 2) := by decide +kernel
theorem dX0_takeBack_36 : decode cX0_takeBack 36 = .ok (.imul, 1) := by decide +kernel
theorem dX0_takeBack_37 : decode cX0_takeBack 37 = .ok (.aload_n 1, 1) := by decide +kernel
theorem dX0_takeBack_38 : decode cX0_takeBack 38 = .ok (.getfield 18, 3) := by decide +kernel
theorem dX0_takeBack_41 : decode cX0_takeBack 41 = .ok (.iconst 0, 1) := by decide +kernel
theorem dX0_takeBack_42 : decode cX0_takeBack 42 = .ok (.bipush 7, 2) := by decide +kernel
theorem dX0_takeBack_44 : decode cX0_takeBack 44 = .ok (.invokestatic 25, 3) := by decide +kernel
theorem dX0_takeBack_47 : decode cX0_takeBack 47 = .ok (.aload_n 0, 1) := by decide +kernel
theorem dX0_takeBack_48 : decode cX0_takeBack 48 = .ok (.getfield 15, 3) := by decide +kernel
theorem dX0_takeBack_51 : decode cX0_takeBack 51 = .ok (.aload_n 0, 1) := by decide +kernel
theorem dX0_takeBack_52 : decode cX0_takeBack 52 = .ok (.getfield 21, 3) := by decide +kernel
theorem dX0_takeBack_55 : decode cX0_takeBack 55 = .ok (.bipush 7, 2) := by decide +kernel
theorem dX0_takeBack_57 : decode cX0_takeBack 57 = .ok (.imul, 1) := by decide +kernel
theorem dX0_takeBack_58 : decode cX0_takeBack 58 = .ok (.aload_n 1, 1) := by decide +kernel
theorem dX0_takeBack_59 : decode cX0_takeBack 59 = .ok (.getfield 31, 3) := by decide +kernel
theorem dX0_takeBack_62 : decode cX0_takeBack 62 = .ok (.iconst 0, 1) := by decide +kernel
theorem dX0_takeBack_63 : decode cX0_takeBack 63 = .ok (.bipush 7, 2) := by decide +kernel
theorem dX0_takeBack_65 : decode cX0_takeBack 65 = .ok (.invokestatic 25, 3) := by decide +kernel
theorem dX0_takeBack_68 : decode cX0_takeBack 68 = .ok (.return_, 1) := by decide +kernel
theorem dX0_forget_0 : decode cX0_forget 0 = .ok (.aload_n 0, 1) := by decide +kernel
theorem dX0_forget_1 : decode cX0_forget 1 = .ok (.iconst 0, 1) := by decide +kernel
theorem dX0_forget_2 : decode cX0_forget 2 = .ok (.putfield 32, 3) := by decide +kernel
theorem dX0_forget_5 : decode cX0_forget 5 = .ok (.return_, 1) := by decide +kernel
theorem dX1_init_0 : decode cX1_init 0 = .ok (.aload_n 0, 1) := by decide +kernel
theorem dX1_init_1 : decode cX1_init 1 = .ok (.invokespecial 3, 3) := by decide +kernel
theorem dX1_init_4 : decode cX1_init 4 = .ok (.aload_n 0, 1) := by decide +kernel
theorem dX1_init_5 : decode cX1_init 5 = .ok (.bipush 7, 2) := by decide +kernel
theorem dX1_init_7 : decode cX1_init 7 = .ok (.newarray .int, 2) := by decide +kernel
theorem dX1_init_9 : decode cX1_init 9 = .ok (.putfield 9, 3) := by decide +kernel
theorem dX1_init_12 : decode cX1_init 12 = .ok (.aload_n 0, 1) := by decide +kernel
theorem dX1_init_13 : decode cX1_init 13 = .ok (.iconst 5, 1) := by decide +kernel
theorem dX1_init_14 : decode cX1_init 14 = .ok (.newarray .int, 2) := by decide +kernel
theorem dX1_init_16 : decode cX1_init 16 = .ok (.putfield 15, 3) := by decide +kernel
theorem dX1_init_19 : decode cX1_init 19 = .ok (.aload_n 0, 1) := by decide +kernel
theorem dX1_init_20 : decode cX1_init 20 = .ok (.sipush 768, 3) := by decide +kernel
theorem dX1_init_23 : decode cX1_init 23 = .ok (.newarray .int, 2) := by decide +kernel
theorem dX1_init_25 : decode cX1_init 25 = .ok (.putfield 18, 3) := by decide +kernel
theorem dX1_init_28 : decode cX1_init 28 = .ok (.aload_n 0, 1) := by decide +kernel
theorem dX1_init_29 : decode cX1_init 29 = .ok (.iconst 5, 1) := by decide +kernel
theorem dX1_init_30 : decode cX1_init 30 = .ok (.newarray .int, 2) := by decide +kernel
theorem dX1_init_32 : decode cX1_init 32 = .ok (.putfield 21, 3) := by decide +kernel
theorem dX1_init_35 : decode cX1_init 35 = .ok (.return_, 1) := by decide +kernel
theorem dX1_dress_0 : decode cX1_dress 0 = .ok (.aload_n 0, 1) := by decide +kernel
theorem dX1_dress_1 : decode cX1_dress 1 = .ok (.aload_n 1, 1) := by decide +kernel
theorem dX1_dress_2 : decode cX1_dress 2 = .ok (.iload_n 2, 1) := by decide +kernel
theorem dX1_dress_3 : decode cX1_dress 3 = .ok (.invokevirtual 24, 3) := by decide +kernel
theorem dX1_dress_6 : decode cX1_dress 6 = .ok (.iconst 0, 1) := by decide +kernel
theorem dX1_dress_7 : decode cX1_dress 7 = .ok (.istore_n 3, 1) := by decide +kernel
theorem dX1_dress_8 : decode cX1_dress 8 = .ok (.iload_n 3, 1) := by decide +kernel
theorem dX1_dress_9 : decode cX1_dress 9 = .ok (.iconst 1, 1) := by decide +kernel
theorem dX1_dress_10 : decode cX1_dress 10 = .ok (.aload_n 0, 1) := by decide +kernel
theorem dX1_dress_11 : decode cX1_dress 11 = .ok (.getfield 28, 3) := by decide +kernel
theorem dX1_dress_14 : decode cX1_dress 14 = .ok (.ishl, 1) := by decide +kernel
theorem dX1_dress_15 : decode cX1_dress 15 = .ok (.if_icmp .ge 25, 3) := by decide +kernel
theorem dX1_dress_18 : decode cX1_dress 18 = .ok (.aload_n 0, 1) := by decide +kernel
theorem dX1_dress_19 : decode cX1_dress 19 = .ok (.getfield 18, 3) := by decide +kernel
theorem dX1_dress_22 : decode cX1_dress 22 = .ok (.aload_n 0, 1) := by decide +kernel
theorem dX1_dress_23 : decode cX1_dress 23 = .ok (.getfield 32, 3) := by decide +kernel
theorem dX1_dress_26 : decode cX1_dress 26 = .ok (.sipush 128, 3) := by decide +kernel
theorem dX1_dress_29 : decode cX1_dress 29 = .ok (.imul, 1) := by decide +kernel
theorem dX1_dress_30 : decode cX1_dress 30 = .ok (.iload_n 3, 1) := by decide +kernel
theorem dX1_dress_31 : decode cX1_dress 31 = .ok (.iadd, 1) := by decide +kernel
theorem dX1_dress_32 : decode cX1_dress 32 = .ok (.iconst 0, 1) := by decide +kernel
theorem dX1_dress_33 : decode cX1_dress 33 = .ok (.iastore, 1) := by decide +kernel
theorem dX1_dress_34 : decode cX1_dress 34 = .ok (.iinc 3 1, 3) := by decide +kernel
theorem dX1_dress_37 : decode cX1_dress 37 = .ok (.goto (-29), 3) := by decide +kernel
theorem dX1_dress_40 : decode cX1_dress 40 = .ok (.aload_n 0, 1) := by decide +kernel
theorem dX1_dress_41 : decode cX1_dress 41 = .ok (.getfield 32, 3) := by decide +kernel
theorem dX1_dress_44 : decode cX1_dress 44 = .ok (.iconst 1, 1) := by decide +kernel
theorem dX1_dress_45 : decode cX1_dress 45 = .ok (.isub, 1) := by decide +kernel
theorem dX1_dress_46 : decode cX1_dress 46 = .ok (.istore_n 3, 1) := by decide +kernel
theorem dX1_dress_47 : decode cX1_dress 47 = .ok (.iload_n 3, 1) := by decide +kernel
theorem dX1_dress_48 : decode cX1_dress 48 = .ok (.ifCond .lt 58, 3) := by decide +kernel
theorem dX1_dress_51 : decode cX1_dress 51 = .ok (.iconst 0, 1) := by decide +kernel
theorem dX1_dress_52 : decode cX1_dress 52 = .ok (.istore 4, 2) := by decide +kernel
theorem dX1_dress_54 : decode cX1_dress 54 = .ok (.iload 4, 2) := by decide +kernel
theorem dX1_dress_56 : decode cX1_dress 56 = .ok (.iconst 1, 1) := by decide +kernel
theorem dX1_dress_57 : decode cX1_dress 57 = .ok (.aload_n 0, 1) := by decide +kernel
theorem dX1_dress_58 : decode cX1_dress 58 = .ok (.getfield 28, 3) := by decide +kernel
theorem dX1_dress_61 : decode cX1_dress 61 = .ok (.ishl, 1) := by decide +kernel
theorem dX1_dress_62 : decode cX1_dress 62 = .ok (.if_icmp .ge 38, 3) := by decide +kernel
theorem dX1_dress_65 : decode cX1_dress 65 = .ok (.iload 4, 2) := by decide +kernel
theorem dX1_dress_67 : decode cX1_dress 67 = .ok (.invokestatic 35, 3) := by decide +kernel
theorem dX1_dress_70 : decode cX1_dress 70 = .ok (.iload_n 3, 1) := by decide +kernel
theorem dX1_dress_71 : decode cX1_dress 71 = .ok (.if_icmp .gt 23, 3) := by decide +kernel
theorem dX1_dress_74 : decode cX1_dress 74 = .ok (.aload_n 0, 1) := by decide +kernel
theorem dX1_dress_75 : decode cX1_dress 75 = .ok (.getfield 18, 3) := by decide +kernel
theorem dX1_dress_78 : decode cX1_dress 78 = .ok (.iload_n 3, 1) := by decide +kernel
theorem dX1_dress_79 : decode cX1_dress 79 = .ok (.sipush 128, 3) := by decide +kernel
theorem dX1_dress_82 : decode cX1_dress 82 = .ok (.imul, 1) := by decide +kernel
theorem dX1_dress_83 : decode cX1_dress 83 = .ok (.iload 4, 2) := by decide +kernel
theorem dX1_dress_85 : decode cX1_dress 85 = .ok (.iadd, 1) := by decide +kernel
theorem dX1_dress_86 : decode cX1_dress 86 = .ok (.aload_n 0, 1) := by decide +kernel
theorem dX1_dress_87 : decode cX1_dress 87 = .ok (.iload_n 3, 1) := by decide +kernel
theorem dX1_dress_88 : decode cX1_dress 88 = .ok (.iload 4, 2) := by decide +kernel
theorem dX1_dress_90 : decode cX1_dress 90 = .ok (.invokevirtual 41, 3) := by decide +kernel
theorem dX1_dress_93 : decode cX1_dress 93 = .ok (.iastore, 1) := by decide +kernel
theorem dX1_dress_94 : decode cX1_dress 94 = .ok (.iinc 4 1, 3) := by decide +kernel
theorem dX1_dress_97 : decode cX1_dress 97 = .ok (.goto (-43), 3) := by decide +kernel
theorem dX1_dress_100 : decode cX1_dress 100 = .ok (.iinc 3 (-1), 3) := by decide +kernel
theorem dX1_dress_103 : decode cX1_dress 103 = .ok (.goto (-56), 3) := by decide +kernel
theorem dX1_dress_106 : decode cX1_dress 106 = .ok (.aload_n 0, 1) := by decide +kernel
theorem dX1_dress_107 : decode cX1_dress 107 = .ok (.aload_n 0, 1) := by decide +kernel
theorem dX1_dress_108 : decode cX1_dress 108 = .ok (.getfield 18, 3) := by decide +kernel
theorem dX1_dress_111 : decode cX1_dress 111 = .ok (.iconst 0, 1) := by decide +kernel
theorem dX1_dress_112 : decode cX1_dress 112 = .ok (.iaload, 1) := by decide +kernel
theorem dX1_dress_113 : decode cX1_dress 113 = .ok (.putfield 45, 3) := by decide +kernel
theorem dX1_dress_116 : decode cX1_dress 116 = .ok (.iconst 0, 1) := by decide +kernel
theorem dX1_dress_117 : decode cX1_dress 117 = .ok (.istore_n 3, 1) := by decide +kernel
theorem dX1_dress_118 : decode cX1_dress 118 = .ok (.iconst 0, 1) := by decide +kernel
theorem dX1_dress_119 : decode cX1_dress 119 = .ok (.istore 4, 2) := by decide +kernel
theorem dX1_dress_121 : decode cX1_dress 121 = .ok (.iload 4, 2) := by decide +kernel
theorem dX1_dress_123 : decode cX1_dress 123 = .ok (.aload_n 0, 1) := by decide +kernel
theorem dX1_dress_124 : decode cX1_dress 124 = .ok (.getfield 32, 3) := by decide +kernel
theorem dX1_dress_127 : decode cX1_dress 127 = .ok (.if_icmp .ge 46, 3) := by decide +kernel
theorem dX1_dress_130 : decode cX1_dress 130 = .ok (.aload_n 0, 1) := by decide +kernel
theorem dX1_dress_131 : decode cX1_dress 131 = .ok (.getfield 21, 3) := by decide +kernel
theorem dX1_dress_134 : decode cX1_dress 134 = .ok (.iload 4, 2) := by decide +kernel
theorem dX1_dress_136 : decode cX1_dress 136 = .ok (.aload_n 0, 1) := by decide +kernel
theorem dX1_dress_137 : decode cX1_dress 137 = .ok (.iload 4, 2) := by decide +kernel
theorem dX1_dress_139 : decode cX1_dress 139 = .ok (.iload_n 3, 1) := by decide +kernel
theorem dX1_dress_140 : decode cX1_dress 140 = .ok (.invokevirtual 48, 3) := by decide +kernel
theorem dX1_dress_143 : decode cX1_dress 143 = .ok (.iastore, 1) := by decide +kernel
theorem dX1_dress_144 : decode cX1_dress 144 = .ok (.aload_n 0, 1) := by decide +kernel
theorem dX1_dress_145 : decode cX1_dress 145 = .ok (.getfield 21, 3) := by decide +kernel
theorem dX1_dress_148 : decode cX1_dress 148 = .ok (.iload 4, 2) := by decide +kernel
theorem dX1_dress_150 : decode cX1_dress 150 = .ok (.iaload, 1) := by decide +kernel
theorem dX1_dress_151 : decode cX1_dress 151 = .ok (.iconst (-1), 1) := by decide +kernel
theorem dX1_dress_152 : decode cX1_dress 152 = .ok (.if_icmp .eq 15, 3) := by decide +kernel
theorem dX1_dress_155 : decode cX1_dress 155 = .ok (.iload_n 3, 1) := by decide +kernel
theorem dX1_dress_156 : decode cX1_dress 156 = .ok (.iconst 1, 1) := by decide +kernel
theorem dX1_dress_157 : decode cX1_dress 157 = .ok (.aload_n 0, 1) := by decide +kernel
theorem dX1_dress_158 : decode cX1_dress 158 = .ok (.getfield 21, 3) := by decide +kernel
theorem dX1_dress_161 : decode cX1_dress 161 = .ok (.iload 4, 2) := by decide +kernel
theorem dX1_dress_163 : decode cX1_dress 163 = .ok (.iaload, 1) := by decide +kernel
theorem dX1_dress_164 : decode cX1_dress 164 = .ok (.ishl, 1) := by decide +kernel
theorem dX1_dress_165 : decode cX1_dress 165 = .ok (.ior, 1) := by decide +kernel
theorem dX1_dress_166 : decode cX1_dress 166 = .ok (.istore_n 3, 1) := by decide +kernel
theorem dX1_dress_167 : decode cX1_dress 167 = .ok (.iinc 4 1, 3) := by decide +kernel
theorem dX1_dress_170 : decode cX1_dress 170 = .ok (.goto (-49), 3) := by decide +kernel
theorem dX1_dress_173 : decode cX1_dress 173 = .ok (.return_, 1) := by decide +kernel
theorem dX1_open_0 : decode cX1_open 0 = .ok (.aload_n 0, 1) := by decide +kernel
theorem dX1_open_1 : decode cX1_open 1 = .ok (.aload_n 1, 1) := by decide +kernel
theorem dX1_open_2 : decode cX1_open 2 = .ok (.getfield 51, 3) := by decide +kernel
theorem dX1_open_5 : decode cX1_open 5 = .ok (.putfield 32, 3) := by decide +kernel
theorem dX1_open_8 : decode cX1_open 8 = .ok (.aload_n 0, 1) := by decide +kernel
theorem dX1_open_9 : decode cX1_open 9 = .ok (.aload_n 1, 1) := by decide +kernel
theorem dX1_open_10 : decode cX1_open 10 = .ok (.getfield 54, 3) := by decide +kernel
theorem dX1_open_13 : decode cX1_open 13 = .ok (.putfield 28, 3) := by decide +kernel
theorem dX1_open_16 : decode cX1_open 16 = .ok (.iconst 0, 1) := by decide +kernel
theorem dX1_open_17 : decode cX1_open 17 = .ok (.istore_n 3, 1) := by decide +kernel
theorem dX1_open_18 : decode cX1_open 18 = .ok (.iload_n 3, 1) := by decide +kernel
theorem dX1_open_19 : decode cX1_open 19 = .ok (.aload_n 0, 1) := by decide +kernel
theorem dX1_open_20 : decode cX1_open 20 = .ok (.getfield 28, 3) := by decide +kernel
theorem dX1_open_23 : decode cX1_open 23 = .ok (.if_icmp .ge 20, 3) := by decide +kernel
theorem dX1_open_26 : decode cX1_open 26 = .ok (.aload_n 0, 1) := by decide +kernel
theorem dX1_open_27 : decode cX1_open 27 = .ok (.getfield 9, 3) := by decide +kernel
theorem dX1_open_30 : decode cX1_open 30 = .ok (.iload_n 3, 1) := by decide +kernel
theorem dX1_open_31 : decode cX1_open 31 = .ok (.aload_n 1, 1) := by decide +kernel
theorem dX1_open_32 : decode cX1_open 32 = .ok (.iload_n 3, 1) := by decide +kernel
theorem dX1_open_33 : decode cX1_open 33 = .ok (.invokevirtual 55, 3) := by decide +kernel
theorem dX1_open_36 : decode cX1_open 36 = .ok (.iastore, 1) := by decide +kernel
theorem dX1_open_37 : decode cX1_open 37 = .ok (.iinc 3 1, 3) := by decide +kernel
theorem dX1_open_40 : decode cX1_open 40 = .ok (.goto (-22), 3) := by decide +kernel
theorem dX1_open_43 : decode cX1_open 43 = .ok (.iconst 0, 1) := by decide +kernel
theorem dX1_open_44 : decode cX1_open 44 = .ok (.istore_n 3, 1) := by decide +kernel
theorem dX1_open_45 : decode cX1_open 45 = .ok (.iload_n 3, 1) := by decide +kernel
theorem dX1_open_46 : decode cX1_open 46 = .ok (.aload_n 0, 1) := by decide +kernel
theorem dX1_open_47 : decode cX1_open 47 = .ok (.getfield 32, 3) := by decide +kernel
theorem dX1_open_50 : decode cX1_open 50 = .ok (.if_icmp .ge 25, 3) := by decide +kernel
theorem dX1_open_53 : decode cX1_open 53 = .ok (.aload_n 0, 1) := by decide +kernel
theorem dX1_open_54 : decode cX1_open 54 = .ok (.getfield 15, 3) := by decide +kernel
theorem dX1_open_57 : decode cX1_open 57 = .ok (.iload_n 3, 1) := by decide +kernel
theorem dX1_open_58 : decode cX1_open 58 = .ok (.aload_n 1, 1) := by decide +kernel
theorem dX1_open_59 : decode cX1_open 59 = .ok (.iload_n 3, 1) := by decide +kernel
theorem dX1_open_60 : decode cX1_open 60 = .ok (.iload_n 2, 1) := by decide +kernel
theorem dX1_open_61 : decode cX1_open 61 = .ok (.iload_n 3, 1) := by decide +kernel
theorem dX1_open_62 : decode cX1_open 62 = .ok (.invokestatic 57, 3) := by decide +kernel
theorem dX1_open_65 : decode cX1_open 65 = .ok (.invokestatic 61, 3) := by decide +kernel
theorem dX1_open_68 : decode cX1_open 68 = .ok (.iastore, 1) := by decide +kernel
theorem dX1_open_69 : decode cX1_open 69 = .ok (.iinc 3 1, 3) := by decide +kernel
theorem dX1_open_72 : decode cX1_open 72 = .ok (.goto (-27), 3) := by decide +kernel
theorem dX1_open_75 : decode cX1_open 75 = .ok (.return_, 1) := by decide +kernel
theorem dX1_choiceOf_0 : decode cX1_choiceOf 0 = .ok (.iconst 0, 1) := by decide +kernel
theorem dX1_choiceOf_1 : decode cX1_choiceOf 1 = .ok (.istore_n 3, 1) := by decide +kernel
theorem dX1_choiceOf_2 : decode cX1_choiceOf 2 = .ok (.iconst 0, 1) := by decide +kernel
theorem dX1_choiceOf_3 : decode cX1_choiceOf 3 = .ok (.istore 4, 2) := by decide +kernel
theorem dX1_choiceOf_5 : decode cX1_choiceOf 5 = .ok (.iload 4, 2) := by decide +kernel
theorem dX1_choiceOf_7 : decode cX1_choiceOf 7 = .ok (.aload_n 0, 1) := by decide +kernel
theorem dX1_choiceOf_8 : decode cX1_choiceOf 8 = .ok (.getfield 54, 3) := by decide +kernel
theorem dX1_choiceOf_11 : decode cX1_choiceOf 11 = .ok (.if_icmp .ge 40, 3) := by decide +kernel
theorem dX1_choiceOf_14 : decode cX1_choiceOf 14 = .ok (.aload_n 0, 1) := by decide +kernel
theorem dX1_choiceOf_15 : decode cX1_choiceOf 15 = .ok (.iload 4, 2) := by decide +kernel
theorem dX1_choiceOf_17 : decode cX1_choiceOf 17 = .ok (.invokevirtual 65, 3) := by decide +kernel
theorem dX1_choiceOf_20 : decode cX1_choiceOf 20 = .ok (.ifCond .ne 25, 3) := by decide +kernel
theorem dX1_choiceOf_23 : decode cX1_choiceOf 23 = .ok (.iload_n 2, 1) := by decide +kernel
theorem dX1_choiceOf_24 : decode cX1_choiceOf 24 = .ok (.ifCond .eq 14, 3) := by decide +kernel
theorem dX1_choiceOf_27 : decode cX1_choiceOf 27 = .ok (.aload_n 0, 1) := by decide +kernel
theorem dX1_choiceOf_28 : decode cX1_choiceOf 28 = .ok (.iload_n 1, 1) := by decide +kernel
theorem dX1_choiceOf_29 : decode cX1_choiceOf 29 = .ok (.iload 4, 2) := by decide +kernel
theorem dX1_choiceOf_31 : decode cX1_choiceOf 31 = .ok (.iconst 0, 1) := by decide +kernel
theorem dX1_choiceOf_32 : decode cX1_choiceOf 32 = .ok (.invokevirtual 69, 3) := by decide +kernel
theorem dX1_choiceOf_35 : decode cX1_choiceOf 35 = .ok (.ifCond .ne 10, 3) := by decide +kernel
theorem dX1_choiceOf_38 : decode cX1_choiceOf 38 = .ok (.iload_n 3, 1) := by decide +kernel
theorem dX1_choiceOf_39 : decode cX1_choiceOf 39 = .ok (.iconst 1, 1) := by decide +kernel
theorem dX1_choiceOf_40 : decode cX1_choiceOf 40 = .ok (.iload 4, 2) := by decide +kernel
theorem dX1_choiceOf_42 : decode cX1_choiceOf 42 = .ok (.ishl, 1) := by decide +kernel
theorem dX1_choiceOf_43 : decode cX1_choiceOf 43 = .ok (.ior, 1) := by decide +kernel
theorem dX1_choiceOf_44 : decode cX1_choiceOf 44 = .ok (.istore_n 3, 1) := by decide +kernel
theorem dX1_choiceOf_45 : decode cX1_choiceOf 45 = .ok (.iinc 4 1, 3) := by decide +kernel
theorem dX1_choiceOf_48 : decode cX1_choiceOf 48 = .ok (.goto (-43), 3) := by decide +kernel
theorem dX1_choiceOf_51 : decode cX1_choiceOf 51 = .ok (.iload_n 3, 1) := by decide +kernel
theorem dX1_choiceOf_52 : decode cX1_choiceOf 52 = .ok (.ireturn, 1) := by decide +kernel
theorem dX1_mostFrom_0 : decode cX1_mostFrom 0 = .ok (.aload_n 0, 1) := by decide +kernel
theorem dX1_mostFrom_1 : decode cX1_mostFrom 1 = .ok (.iload_n 1, 1) := by decide +kernel
theorem dX1_mostFrom_2 : decode cX1_mostFrom 2 = .ok (.iload_n 2, 1) := by decide +kernel
theorem dX1_mostFrom_3 : decode cX1_mostFrom 3 = .ok (.iconst (-1), 1) := by decide +kernel
theorem dX1_mostFrom_4 : decode cX1_mostFrom 4 = .ok (.invokevirtual 73, 3) := by decide +kernel
theorem dX1_mostFrom_7 : decode cX1_mostFrom 7 = .ok (.istore_n 3, 1) := by decide +kernel
theorem dX1_mostFrom_8 : decode cX1_mostFrom 8 = .ok (.iconst 0, 1) := by decide +kernel
theorem dX1_mostFrom_9 : decode cX1_mostFrom 9 = .ok (.istore 4, 2) := by decide +kernel
theorem dX1_mostFrom_11 : decode cX1_mostFrom 11 = .ok (.iload 4, 2) := by decide +kernel
theorem dX1_mostFrom_13 : decode cX1_mostFrom 13 = .ok (.aload_n 0, 1) := by decide +kernel
theorem dX1_mostFrom_14 : decode cX1_mostFrom 14 = .ok (.getfield 28, 3) := by decide +kernel
theorem dX1_mostFrom_17 : decode cX1_mostFrom 17 = .ok (.if_icmp .ge 40, 3) := by decide +kernel
theorem dX1_mostFrom_20 : decode cX1_mostFrom 20 = .ok (.aload_n 0, 1) := by decide +kernel
theorem dX1_mostFrom_21 : decode cX1_mostFrom 21 = .ok (.getfield 15, 3) := by decide +kernel
theorem dX1_mostFrom_24 : decode cX1_mostFrom 24 = .ok (.iload_n 1, 1) := by decide +kernel
theorem dX1_mostFrom_25 : decode cX1_mostFrom 25 = .ok (.iaload, 1) := by decide +kernel
theorem dX1_mostFrom_26 : decode cX1_mostFrom 26 = .ok (.iload_n 2, 1) := by decide +kernel
theorem dX1_mostFrom_27 : decode cX1_mostFrom 27 = .ok (.iconst (-1), 1) := by decide +kernel
theorem dX1_mostFrom_28 : decode cX1_mostFrom 28 = .ok (.ixor, 1) := by decide +kernel
theorem dX1_mostFrom_29 : decode cX1_mostFrom 29 = .ok (.iand, 1) := by decide +kernel
theorem dX1_mostFrom_30 : decode cX1_mostFrom 30 = .ok (.iload 4, 2) := by decide +kernel
theorem dX1_mostFrom_32 : decode cX1_mostFrom 32 = .ok (.invokestatic 57, 3) := by decide +kernel
theorem dX1_mostFrom_35 : decode cX1_mostFrom 35 = .ok (.ifCond .eq 16, 3) := by decide +kernel
theorem dX1_mostFrom_38 : decode cX1_mostFrom 38 = .ok (.iload_n 3, 1) := by decide +kernel
theorem dX1_mostFrom_39 : decode cX1_mostFrom 39 = .ok (.aload_n 0, 1) := by decide +kernel
theorem dX1_mostFrom_40 : decode cX1_mostFrom 40 = .ok (.iload_n 1, 1) := by decide +kernel
theorem dX1_mostFrom_41 : decode cX1_mostFrom 41 = .ok (.iload_n 2, 1) := by decide +kernel
theorem dX1_mostFrom_42 : decode cX1_mostFrom 42 = .ok (.iload 4, 2) := by decide +kernel
theorem dX1_mostFrom_44 : decode cX1_mostFrom 44 = .ok (.invokevirtual 73, 3) := by decide +kernel
theorem dX1_mostFrom_47 : decode cX1_mostFrom 47 = .ok (.invokestatic 77, 3) := by decide +kernel
theorem dX1_mostFrom_50 : decode cX1_mostFrom 50 = .ok (.istore_n 3, 1) := by decide +kernel
theorem dX1_mostFrom_51 : decode cX1_mostFrom 51 = .ok (.iinc 4 1, 3) := by decide +kernel
theorem dX1_mostFrom_54 : decode cX1_mostFrom 54 = .ok (.goto (-43), 3) := by decide +kernel
theorem dX1_mostFrom_57 : decode cX1_mostFrom 57 = .ok (.iload_n 3, 1) := by decide +kernel
theorem dX1_mostFrom_58 : decode cX1_mostFrom 58 = .ok (.ireturn, 1) := by decide +kernel
theorem dX1_firstBest_0 : decode cX1_firstBest 0 = .ok (.aload_n 0, 1) := by decide +kernel
theorem dX1_firstBest_1 : decode cX1_firstBest 1 = .ok (.getfield 18, 3) := by decide +kernel
theorem dX1_firstBest_4 : decode cX1_firstBest 4 = .ok (.iload_n 1, 1) := by decide +kernel
theorem dX1_firstBest_5 : decode cX1_firstBest 5 = .ok (.sipush 128, 3) := by decide +kernel
theorem dX1_firstBest_8 : decode cX1_firstBest 8 = .ok (.imul, 1) := by decide +kernel
theorem dX1_firstBest_9 : decode cX1_firstBest 9 = .ok (.iload_n 2, 1) := by decide +kernel
theorem dX1_firstBest_10 : decode cX1_firstBest 10 = .ok (.iadd, 1) := by decide +kernel
theorem dX1_firstBest_11 : decode cX1_firstBest 11 = .ok (.iaload, 1) := by decide +kernel
theorem dX1_firstBest_12 : decode cX1_firstBest 12 = .ok (.istore_n 3, 1) := by decide +kernel
theorem dX1_firstBest_13 : decode cX1_firstBest 13 = .ok (.aload_n 0, 1) := by decide +kernel
theorem dX1_firstBest_14 : decode cX1_firstBest 14 = .ok (.iload_n 1, 1) := by decide +kernel
theorem dX1_firstBest_15 : decode cX1_firstBest 15 = .ok (.iload_n 2, 1) := by decide +kernel
theorem dX1_firstBest_16 : decode cX1_firstBest 16 = .ok (.iconst (-1), 1) := by decide +kernel
theorem dX1_firstBest_17 : decode cX1_firstBest 17 = .ok (.invokevirtual 73, 3) := by decide +kernel
theorem dX1_firstBest_20 : decode cX1_firstBest 20 = .ok (.iload_n 3, 1) := by decide +kernel
theorem dX1_firstBest_21 : decode cX1_firstBest 21 = .ok (.if_icmp .ne 5, 3) := by decide +kernel
theorem dX1_firstBest_24 : decode cX1_firstBest 24 = .ok (.iconst (-1), 1) := by decide +kernel
theorem dX1_firstBest_25 : decode cX1_firstBest 25 = .ok (.ireturn, 1) := by decide +kernel
theorem dX1_firstBest_26 : decode cX1_firstBest 26 = .ok (.iconst 0, 1) := by decide +kernel
theorem dX1_firstBest_27 : decode cX1_firstBest 27 = .ok (.istore 4, 2) := by decide +kernel
theorem dX1_firstBest_29 : decode cX1_firstBest 29 = .ok (.iload 4, 2) := by decide +kernel
theorem dX1_firstBest_31 : decode cX1_firstBest 31 = .ok (.aload_n 0, 1) := by decide +kernel
theorem dX1_firstBest_32 : decode cX1_firstBest 32 = .ok (.getfield 28, 3) := by decide +kernel
theorem dX1_firstBest_35 : decode cX1_firstBest 35 = .ok (.if_icmp .ge 42, 3) := by decide +kernel
theorem dX1_firstBest_38 : decode cX1_firstBest 38 = .ok (.aload_n 0, 1) := by decide +kernel
theorem dX1_firstBest_39 : decode cX1_firstBest 39 = .ok (.getfield 15, 3) := by decide +kernel
theorem dX1_firstBest_42 : decode cX1_firstBest 42 = .ok (.iload_n 1, 1) := by decide +kernel
theorem dX1_firstBest_43 : decode cX1_firstBest 43 = .ok (.iaload, 1) := by decide +kernel
theorem dX1_firstBest_44 : decode cX1_firstBest 44 = .ok (.iload_n 2, 1) := by decide +kernel
theorem dX1_firstBest_45 : decode cX1_firstBest 45 = .ok (.iconst (-1), 1) := by decide +kernel
theorem dX1_firstBest_46 : decode cX1_firstBest 46 = .ok (.ixor, 1) := by decide +kernel
theorem dX1_firstBest_47 : decode cX1_firstBest 47 = .ok (.iand, 1) := by decide +kernel
theorem dX1_firstBest_48 : decode cX1_firstBest 48 = .ok (.iload 4, 2) := by decide +kernel
theorem dX1_firstBest_50 : decode cX1_firstBest 50 = .ok (.invokestatic 57, 3) := by decide +kernel
theorem dX1_firstBest_53 : decode cX1_firstBest 53 = .ok (.ifCond .eq 18, 3) := by decide +kernel
theorem dX1_firstBest_56 : decode cX1_firstBest 56 = .ok (.aload_n 0, 1) := by decide +kernel
theorem dX1_firstBest_57 : decode cX1_firstBest 57 = .ok (.iload_n 1, 1) := by decide +kernel
theorem dX1_firstBest_58 : decode cX1_firstBest 58 = .ok (.iload_n 2, 1) := by decide +kernel
theorem dX1_firstBest_59 : decode cX1_firstBest 59 = .ok (.iload 4, 2) := by decide +kernel
theorem dX1_firstBest_61 : decode cX1_firstBest 61 = .ok (.invokevirtual 73, 3) := by decide +kernel
theorem dX1_firstBest_64 : decode cX1_firstBest 64 = .ok (.iload_n 3, 1) := by decide +kernel
theorem dX1_firstBest_65 : decode cX1_firstBest 65 = .ok (.if_icmp .ne 6, 3) := by decide +kernel
theorem dX1_firstBest_68 : decode cX1_firstBest 68 = .ok (.iload 4, 2) := by decide +kernel
theorem dX1_firstBest_70 : decode cX1_firstBest 70 = .ok (.ireturn, 1) := by decide +kernel
theorem dX1_firstBest_71 : decode cX1_firstBest 71 = .ok (.iinc 4 1, 3) := by decide +kernel
theorem dX1_firstBest_74 : decode cX1_firstBest 74 = .ok (.goto (-45), 3) := by decide +kernel
theorem dX1_firstBest_77 : decode cX1_firstBest 77 = .ok (.iconst (-1), 1) := by decide +kernel
theorem dX1_firstBest_78 : decode cX1_firstBest 78 = .ok (.ireturn, 1) := by decide +kernel
theorem dX1_mostWith_0 : decode cX1_mostWith 0 = .ok (.iload_n 1, 1) := by decide +kernel
theorem dX1_mostWith_1 : decode cX1_mostWith 1 = .ok (.iconst 1, 1) := by decide +kernel
theorem dX1_mostWith_2 : decode cX1_mostWith 2 = .ok (.iadd, 1) := by decide +kernel
theorem dX1_mostWith_3 : decode cX1_mostWith 3 = .ok (.sipush 128, 3) := by decide +kernel
theorem dX1_mostWith_6 : decode cX1_mostWith 6 = .ok (.imul, 1) := by decide +kernel
theorem dX1_mostWith_7 : decode cX1_mostWith 7 = .ok (.iload_n 2, 1) := by decide +kernel
theorem dX1_mostWith_8 : decode cX1_mostWith 8 = .ok (.iadd, 1) := by decide +kernel
theorem dX1_mostWith_9 : decode cX1_mostWith 9 = .ok (.istore 4, 2) := by decide +kernel
theorem dX1_mostWith_11 : decode cX1_mostWith 11 = .ok (.iload_n 3, 1) := by decide +kernel
theorem dX1_mostWith_12 : decode cX1_mostWith 12 = .ok (.iconst (-1), 1) := by decide +kernel
theorem dX1_mostWith_13 : decode cX1_mostWith 13 = .ok (.if_icmp .ne 13, 3) := by decide +kernel
theorem dX1_mostWith_16 : decode cX1_mostWith 16 = .ok (.aload_n 0, 1) := by decide +kernel
theorem dX1_mostWith_17 : decode cX1_mostWith 17 = .ok (.getfield 18, 3) := by decide +kernel
theorem dX1_mostWith_20 : decode cX1_mostWith 20 = .ok (.iload 4, 2) := by decide +kernel
theorem dX1_mostWith_22 : decode cX1_mostWith 22 = .ok (.iaload, 1) := by decide +kernel
theorem dX1_mostWith_23 : decode cX1_mostWith 23 = .ok (.goto 21, 3) := by decide +kernel
theorem dX1_mostWith_26 : decode cX1_mostWith 26 = .ok (.aload_n 0, 1) := by decide +kernel
theorem dX1_mostWith_27 : decode cX1_mostWith 27 = .ok (.getfield 9, 3) := by decide +kernel
theorem dX1_mostWith_30 : decode cX1_mostWith 30 = .ok (.iload_n 3, 1) := by decide +kernel
theorem dX1_mostWith_31 : decode cX1_mostWith 31 = .ok (.iaload, 1) := by decide +kernel
theorem dX1_mostWith_32 : decode cX1_mostWith 32 = .ok (.aload_n 0, 1) := by decide +kernel
theorem dX1_mostWith_33 : decode cX1_mostWith 33 = .ok (.getfield 18, 3) := by decide +kernel
theorem dX1_mostWith_36 : decode cX1_mostWith 36 = .ok (.iload 4, 2) := by decide +kernel
theorem dX1_mostWith_38 : decode cX1_mostWith 38 = .ok (.iconst 1, 1) := by decide +kernel
theorem dX1_mostWith_39 : decode cX1_mostWith 39 = .ok (.iload_n 3, 1) := by decide +kernel
theorem dX1_mostWith_40 : decode cX1_mostWith 40 = .ok (.ishl, 1) := by decide +kernel
theorem dX1_mostWith_41 : decode cX1_mostWith 41 = .ok (.ior, 1) := by decide +kernel
theorem dX1_mostWith_42 : decode cX1_mostWith 42 = .ok (.iaload, 1) := by decide +kernel
theorem dX1_mostWith_43 : decode cX1_mostWith 43 = .ok (.iadd, 1) := by decide +kernel
theorem dX1_mostWith_44 : decode cX1_mostWith 44 = .ok (.ireturn, 1) := by decide +kernel
theorem dX2_init_0 : decode cX2_init 0 = .ok (.aload_n 0, 1) := by decide +kernel
theorem dX2_init_1 : decode cX2_init 1 = .ok (.invokespecial 3, 3) := by decide +kernel
theorem dX2_init_4 : decode cX2_init 4 = .ok (.aload_n 0, 1) := by decide +kernel
theorem dX2_init_5 : decode cX2_init 5 = .ok (.new 9, 3) := by decide +kernel
theorem dX2_init_8 : decode cX2_init 8 = .ok (.dup, 1) := by decide +kernel
theorem dX2_init_9 : decode cX2_init 9 = .ok (.invokespecial 11, 3) := by decide +kernel
theorem dX2_init_12 : decode cX2_init 12 = .ok (.putfield 12, 3) := by decide +kernel
theorem dX2_init_15 : decode cX2_init 15 = .ok (.return_, 1) := by decide +kernel
theorem dX2_read_0 : decode cX2_read 0 = .ok (.aload_n 0, 1) := by decide +kernel
theorem dX2_read_1 : decode cX2_read 1 = .ok (.iconst 0, 1) := by decide +kernel
theorem dX2_read_2 : decode cX2_read 2 = .ok (.putfield 18, 3) := by decide +kernel
theorem dX2_read_5 : decode cX2_read 5 = .ok (.aload_n 0, 1) := by decide +kernel
theorem dX2_read_6 : decode cX2_read 6 = .ok (.iconst 0, 1) := by decide +kernel
theorem dX2_read_7 : decode cX2_read 7 = .ok (.putfield 22, 3) := by decide +kernel
theorem dX2_read_10 : decode cX2_read 10 = .ok (.aload_n 1, 1) := by decide +kernel
theorem dX2_read_11 : decode cX2_read 11 = .ok (.iconst 0, 1) := by decide +kernel
theorem dX2_read_12 : decode cX2_read 12 = .ok (.putfield 25, 3) := by decide +kernel
theorem dX2_read_15 : decode cX2_read 15 = .ok (.aload_n 1, 1) := by decide +kernel
theorem dX2_read_16 : decode cX2_read 16 = .ok (.iconst 0, 1) := by decide +kernel
theorem dX2_read_17 : decode cX2_read 17 = .ok (.putfield 30, 3) := by decide +kernel
theorem dX2_read_20 : decode cX2_read 20 = .ok (.aload_n 0, 1) := by decide +kernel
theorem dX2_read_21 : decode cX2_read 21 = .ok (.getfield 12, 3) := by decide +kernel
theorem dX2_read_24 : decode cX2_read 24 = .ok (.invokevirtual 33, 3) := by decide +kernel
theorem dX2_read_27 : decode cX2_read 27 = .ok (.aload_n 0, 1) := by decide +kernel
theorem dX2_read_28 : decode cX2_read 28 = .ok (.aload_n 1, 1) := by decide +kernel
theorem dX2_read_29 : decode cX2_read 29 = .ok (.invokevirtual 36, 3) := by decide +kernel
theorem dX2_read_32 : decode cX2_read 32 = .ok (.iconst 0, 1) := by decide +kernel
theorem dX2_read_33 : decode cX2_read 33 = .ok (.istore_n 2, 1) := by decide +kernel
theorem dX2_read_34 : decode cX2_read 34 = .ok (.iload_n 2, 1) := by decide +kernel
theorem dX2_read_35 : decode cX2_read 35 = .ok (.bipush 7, 2) := by decide +kernel
theorem dX2_read_37 : decode cX2_read 37 = .ok (.if_icmp .gt 23, 3) := by decide +kernel
theorem dX2_read_40 : decode cX2_read 40 = .ok (.aload_n 0, 1) := by decide +kernel
theorem dX2_read_41 : decode cX2_read 41 = .ok (.ldc 40, 2) := by decide +kernel
theorem dX2_read_43 : decode cX2_read 43 = .ok (.invokevirtual 42, 3) := by decide +kernel
theorem dX2_read_46 : decode cX2_read 46 = .ok (.ifCond .eq 14, 3) := by decide +kernel
theorem dX2_read_49 : decode cX2_read 49 = .ok (.aload_n 0, 1) := by decide +kernel
theorem dX2_read_50 : decode cX2_read 50 = .ok (.aload_n 1, 1) := by decide +kernel
theorem dX2_read_51 : decode cX2_read 51 = .ok (.invokevirtual 46, 3) := by decide +kernel
theorem dX2_read_54 : decode cX2_read 54 = .ok (.iinc 2 1, 3) := by decide +kernel
theorem dX2_read_57 : decode cX2_read 57 = .ok (.goto (-23), 3) := by decide +kernel
theorem dX2_read_60 : decode cX2_read 60 = .ok (.iconst 0, 1) := by decide +kernel
theorem dX2_read_61 : decode cX2_read 61 = .ok (.istore_n 2, 1) := by decide +kernel
theorem dX2_read_62 : decode cX2_read 62 = .ok (.iload_n 2, 1) := by decide +kernel
theorem dX2_read_63 : decode cX2_read 63 = .ok (.bipush 12, 2) := by decide +kernel
theorem dX2_read_65 : decode cX2_read 65 = .ok (.if_icmp .gt 23, 3) := by decide +kernel
theorem dX2_read_68 : decode cX2_read 68 = .ok (.aload_n 0, 1) := by decide +kernel
theorem dX2_read_69 : decode cX2_read 69 = .ok (.ldc 49, 2) := by decide +kernel
theorem dX2_read_71 : decode cX2_read 71 = .ok (.invokevirtual 42, 3) := by decide +kernel
theorem dX2_read_74 : decode cX2_read 74 = .ok (.ifCond .eq 14, 3) := by decide +kernel
theorem dX2_read_77 : decode cX2_read 77 = .ok (.aload_n 0, 1) := by decide +kernel
theorem dX2_read_78 : decode cX2_read 78 = .ok (.aload_n 1, 1) := by decide +kernel
theorem dX2_read_79 : decode cX2_read 79 = .ok (.invokevirtual 51, 3) := by decide +kernel
theorem dX2_read_82 : decode cX2_read 82 = .ok (.iinc 2 1, 3) := by decide +kernel
theorem dX2_read_85 : decode cX2_read 85 = .ok (.goto (-23), 3) := by decide +kernel
theorem dX2_read_88 : decode cX2_read 88 = .ok (.aload_n 0, 1) := by decide +kernel
theorem dX2_read_89 : decode cX2_read 89 = .ok (.getfield 12, 3) := by decide +kernel
theorem dX2_read_92 : decode cX2_read 92 = .ok (.getfield 54, 3) := by decide +kernel
theorem dX2_read_95 : decode cX2_read 95 = .ok (.ifCond .eq 8, 3) := by decide +kernel
theorem dX2_read_98 : decode cX2_read 98 = .ok (.aload_n 0, 1) := by decide +kernel
theorem dX2_read_99 : decode cX2_read 99 = .ok (.iconst 1, 1) := by decide +kernel
theorem dX2_read_100 : decode cX2_read 100 = .ok (.invokevirtual 57, 3) := by decide +kernel
theorem dX2_read_103 : decode cX2_read 103 = .ok (.return_, 1) := by decide +kernel
theorem dX2_readKnitters_0 : decode cX2_readKnitters 0 = .ok (.aload_n 0, 1) := by decide +kernel
theorem dX2_readKnitters_1 : decode cX2_readKnitters 1 = .ok (.ldc 61, 2) := by decide +kernel
theorem dX2_readKnitters_3 : decode cX2_readKnitters 3 = .ok (.invokevirtual 63, 3) := by decide +kernel
theorem dX2_readKnitters_6 : decode cX2_readKnitters 6 = .ok (.aload_n 1, 1) := by decide +kernel
theorem dX2_readKnitters_7 : decode cX2_readKnitters 7 = .ok (.aload_n 0, 1) := by decide +kernel
theorem dX2_readKnitters_8 : decode cX2_readKnitters 8 = .ok (.iconst 1, 1) := by decide +kernel
theorem dX2_readKnitters_9 : decode cX2_readKnitters 9 = .ok (.iconst 5, 1) := by decide +kernel
theorem dX2_readKnitters_10 : decode cX2_readKnitters 10 = .ok (.invokevirtual 67, 3) := by decide +kernel
theorem dX2_readKnitters_13 : decode cX2_readKnitters 13 = .ok (.putfield 71, 3) := by decide +kernel
theorem dX2_readKnitters_16 : decode cX2_readKnitters 16 = .ok (.aload_n 1, 1) := by decide +kernel
theorem dX2_readKnitters_17 : decode cX2_readKnitters 17 = .ok (.aload_n 0, 1) := by decide +kernel
theorem dX2_readKnitters_18 : decode cX2_readKnitters 18 = .ok (.iconst 1, 1) := by decide +kernel
theorem dX2_readKnitters_19 : decode cX2_readKnitters 19 = .ok (.bipush 6, 2) := by decide +kernel
theorem dX2_readKnitters_21 : decode cX2_readKnitters 21 = .ok (.invokevirtual 67, 3) := by decide +kernel
theorem dX2_readKnitters_24 : decode cX2_readKnitters 24 = .ok (.putfield 73, 3) := by decide +kernel
theorem dX2_readKnitters_27 : decode cX2_readKnitters 27 = .ok (.aload_n 0, 1) := by decide +kernel
theorem dX2_readKnitters_28 : decode cX2_readKnitters 28 = .ok (.invokevirtual 76, 3) := by decide +kernel
theorem dX2_readKnitters_31 : decode cX2_readKnitters 31 = .ok (.return_, 1) := by decide +kernel
theorem dX2_readWool_0 : decode cX2_readWool 0 = .ok (.aload_n 1, 1) := by decide +kernel
theorem dX2_readWool_1 : decode cX2_readWool 1 = .ok (.getfield 25, 3) := by decide +kernel
theorem dX2_readWool_4 : decode cX2_readWool 4 = .ok (.istore_n 2, 1) := by decide +kernel
theorem dX2_readWool_5 : decode cX2_readWool 5 = .ok (.iload_n 2, 1) := by decide +kernel
theorem dX2_readWool_6 : decode cX2_readWool 6 = .ok (.bipush 7, 2) := by decide +kernel
theorem dX2_readWool_8 : decode cX2_readWool 8 = .ok (.if_icmp .lt 9, 3) := by decide +kernel
theorem dX2_readWool_11 : decode cX2_readWool 11 = .ok (.aload_n 0, 1) := by decide +kernel
theorem dX2_readWool_12 : decode cX2_readWool 12 = .ok (.iconst 3, 1) := by decide +kernel
theorem dX2_readWool_13 : decode cX2_readWool 13 = .ok (.invokevirtual 57, 3) := by decide +kernel
theorem dX2_readWool_16 : decode cX2_readWool 16 = .ok (.return_, 1) := by decide +kernel
theorem dX2_readWool_17 : decode cX2_readWool 17 = .ok (.aload_n 0, 1) := by decide +kernel
theorem dX2_readWool_18 : decode cX2_readWool 18 = .ok (.ldc 40, 2) := by decide +kernel
theorem dX2_readWool_20 : decode cX2_readWool 20 = .ok (.invokevirtual 63, 3) := by decide +kernel
theorem dX2_readWool_23 : decode cX2_readWool 23 = .ok (.aload_n 1, 1) := by decide +kernel
theorem dX2_readWool_24 : decode cX2_readWool 24 = .ok (.getfield 79, 3) := by decide +kernel
theorem dX2_readWool_27 : decode cX2_readWool 27 = .ok (.iload_n 2, 1) := by decide +kernel
theorem dX2_readWool_28 : decode cX2_readWool 28 = .ok (.aload_n 0, 1) := by decide +kernel
theorem dX2_readWool_29 : decode cX2_readWool 29 = .ok (.invokevirtual 83, 3) := by decide +kernel
theorem dX2_readWool_32 : decode cX2_readWool 32 = .ok (.iastore, 1) := by decide +kernel
theorem dX2_readWool_33 : decode cX2_readWool 33 = .ok (.aload_n 1, 1) := by decide +kernel
theorem dX2_readWool_34 : decode cX2_readWool 34 = .ok (.getfield 87, 3) := by decide +kernel
theorem dX2_readWool_37 : decode cX2_readWool 37 = .ok (.iload_n 2, 1) := by decide +kernel
theorem dX2_readWool_38 : decode cX2_readWool 38 = .ok (.iconst 1, 1) := by decide +kernel
theorem dX2_readWool_39 : decode cX2_readWool 39 = .ok (.aload_n 0, 1) := by decide +kernel
theorem dX2_readWool_40 : decode cX2_readWool 40 = .ok (.iconst 0, 1) := by decide +kernel
theorem dX2_readWool_41 : decode cX2_readWool 41 = .ok (.aload_n 1, 1) := by decide +kernel
theorem dX2_readWool_42 : decode cX2_readWool 42 = .ok (.getfield 71, 3) := by decide +kernel
theorem dX2_readWool_45 : decode cX2_readWool 45 = .ok (.iconst 1, 1) := by decide +kernel
theorem dX2_readWool_46 : decode cX2_readWool 46 = .ok (.isub, 1) := by decide +kernel
theorem dX2_readWool_47 : decode cX2_readWool 47 = .ok (.invokevirtual 67, 3) := by decide +kernel
theorem dX2_readWool_50 : decode cX2_readWool 50 = .ok (.ishl, 1) := by decide +kernel
theorem dX2_readWool_51 : decode cX2_readWool 51 = .ok (.iastore, 1) := by decide +kernel
theorem dX2_readWool_52 : decode cX2_readWool 52 = .ok (.aload_n 1, 1) := by decide +kernel
theorem dX2_readWool_53 : decode cX2_readWool 53 = .ok (.getfield 90, 3) := by decide +kernel
theorem dX2_readWool_56 : decode cX2_readWool 56 = .ok (.iload_n 2, 1) := by decide +kernel
theorem dX2_readWool_57 : decode cX2_readWool 57 = .ok (.aload_n 0, 1) := by decide +kernel
theorem dX2_readWool_58 : decode cX2_readWool 58 = .ok (.iconst 1, 1) := by decide +kernel
theorem dX2_readWool_59 : decode cX2_readWool 59 = .ok (.bipush 30, 2) := by decide +kernel
theorem dX2_readWool_61 : decode cX2_readWool 61 = .ok (.invokevirtual 67, 3) := by decide +kernel
theorem dX2_readWool_64 : decode cX2_readWool 64 = .ok (.iastore, 1) := by decide +kernel
theorem dX2_readWool_65 : decode cX2_readWool 65 = .ok (.aload_n 0, 1) := by decide +kernel
theorem dX2_readWool_66 : decode cX2_readWool 66 = .ok (.invokevirtual 76, 3) := by decide +kernel
theorem dX2_readWool_69 : decode cX2_readWool 69 = .ok (.aload_n 1, 1) := by decide +kernel
theorem dX2_readWool_70 : decode cX2_readWool 70 = .ok (.dup, 1) := by decide +kernel
theorem dX2_readWool_71 : decode cX2_readWool 71 = .ok (.getfield 25, 3) := by decide +kernel
theorem dX2_readWool_74 : decode cX2_readWool 74 = .ok (.iconst 1, 1) := by decide +kernel
theorem dX2_readWool_75 : decode cX2_readWool 75 = .ok (.iadd, 1) := by decide +kernel
theorem dX2_readWool_76 : decode cX2_readWool 76 = .ok (.putfield 25, 3) := by decide +kernel
theorem dX2_readWool_79 : decode cX2_readWool 79 = .ok (.return_, 1) := by decide +kernel
theorem dX2_readSaying_0 : decode cX2_readSaying 0 = .ok (.aload_n 1, 1) := by decide +kernel
theorem dX2_readSaying_1 : decode cX2_readSaying 1 = .ok (.getfield 30, 3) := by decide +kernel
theorem dX2_readSaying_4 : decode cX2_readSaying 4 = .ok (.istore_n 2, 1) := by decide +kernel
theorem dX2_readSaying_5 : decode cX2_readSaying 5 = .ok (.iload_n 2, 1) := by decide +kernel
theorem dX2_readSaying_6 : decode cX2_readSaying 6 = .ok (.bipush 12, 2) := by decide +kernel
theorem dX2_readSaying_8 : decode cX2_readSaying 8 = .ok (.if_icmp .lt 9, 3) := by decide +kernel
theorem dX2_readSaying_11 : decode cX2_readSaying 11 = .ok (.aload_n 0, 1) := by decide +kernel
theorem dX2_readSaying_12 : decode cX2_readSaying 12 = .ok (.iconst 3, 1) := by decide +kernel
theorem dX2_readSaying_13 : decode cX2_readSaying 13 = .ok (.invokevirtual 57, 3) := by decide +kernel
theorem dX2_readSaying_16 : decode cX2_readSaying 16 = .ok (.return_, 1) := by decide +kernel
theorem dX2_readSaying_17 : decode cX2_readSaying 17 = .ok (.aload_n 0, 1) := by decide +kernel
theorem dX2_readSaying_18 : decode cX2_readSaying 18 = .ok (.ldc 49, 2) := by decide +kernel
theorem dX2_readSaying_20 : decode cX2_readSaying 20 = .ok (.invokevirtual 63, 3) := by decide +kernel
theorem dX2_readSaying_23 : decode cX2_readSaying 23 = .ok (.aload_n 1, 1) := by decide +kernel
theorem dX2_readSaying_24 : decode cX2_readSaying 24 = .ok (.getfield 93, 3) := by decide +kernel
theorem dX2_readSaying_27 : decode cX2_readSaying 27 = .ok (.iload_n 2, 1) := by decide +kernel
theorem dX2_readSaying_28 : decode cX2_readSaying 28 = .ok (.aload_n 0, 1) := by decide +kernel
theorem dX2_readSaying_29 : decode cX2_readSaying 29 = .ok (.iconst 0, 1) := by decide +kernel
theorem dX2_readSaying_30 : decode cX2_readSaying 30 = .ok (.aload_n 1, 1) := by decide +kernel
theorem dX2_readSaying_31 : decode cX2_readSaying 31 = .ok (.getfield 71, 3) := by decide +kernel
theorem dX2_readSaying_34 : decode cX2_readSaying 34 = .ok (.iconst 1, 1) := by decide +kernel
theorem dX2_readSaying_35 : decode cX2_readSaying 35 = .ok (.isub, 1) := by decide +kernel
theorem dX2_readSaying_36 : decode cX2_readSaying 36 = .ok (.invokevirtual 67, 3) := by decide +kernel
theorem dX2_readSaying_39 : decode cX2_readSaying 39 = .ok (.iastore, 1) := by decide +kernel
theorem dX2_readSaying_40 : decode cX2_readSaying 40 = .ok (.aload_n 1, 1) := by decide +kernel
theorem dX2_readSaying_41 : decode cX2_readSaying 41 = .ok (.getfield 96, 3) := by decide +kernel
theorem dX2_readSaying_44 : decode cX2_readSaying 44 = .ok (.iload_n 2, 1) := by decide +kernel
theorem dX2_readSaying_45 : decode cX2_readSaying 45 = .ok (.aload_n 0, 1) := by decide +kernel
theorem dX2_readSaying_46 : decode cX2_readSaying 46 = .ok (.aload_n 1, 1) := by decide +kernel
theorem dX2_readSaying_47 : decode cX2_readSaying 47 = .ok (.getfield 25, 3) := by decide +kernel
theorem dX2_readSaying_50 : decode cX2_readSaying 50 = .ok (.invokevirtual 99, 3) := by decide +kernel
theorem dX2_readSaying_53 : decode cX2_readSaying 53 = .ok (.iastore, 1) := by decide +kernel
theorem dX2_readSaying_54 : decode cX2_readSaying 54 = .ok (.aload_n 1, 1) := by decide +kernel
theorem dX2_readSaying_55 : decode cX2_readSaying 55 = .ok (.getfield 103, 3) := by decide +kernel
theorem dX2_readSaying_58 : decode cX2_readSaying 58 = .ok (.iload_n 2, 1) := by decide +kernel
theorem dX2_readSaying_59 : decode cX2_readSaying 59 = .ok (.aload_n 0, 1) := by decide +kernel
theorem dX2_readSaying_60 : decode cX2_readSaying 60 = .ok (.iconst 0, 1) := by decide +kernel
theorem dX2_readSaying_61 : decode cX2_readSaying 61 = .ok (.aload_n 1, 1) := by decide +kernel
theorem dX2_readSaying_62 : decode cX2_readSaying 62 = .ok (.getfield 73, 3) := by decide +kernel
theorem dX2_readSaying_65 : decode cX2_readSaying 65 = .ok (.iconst 1, 1) := by decide +kernel
theorem dX2_readSaying_66 : decode cX2_readSaying 66 = .ok (.isub, 1) := by decide +kernel
theorem dX2_readSaying_67 : decode cX2_readSaying 67 = .ok (.invokevirtual 67, 3) := by decide +kernel
theorem dX2_readSaying_70 : decode cX2_readSaying 70 = .ok (.iastore, 1) := by decide +kernel
theorem dX2_readSaying_71 : decode cX2_readSaying 71 = .ok (.aload_n 1, 1) := by decide +kernel
theorem dX2_readSaying_72 : decode cX2_readSaying 72 = .ok (.getfield 106, 3) := by decide +kernel
theorem dX2_readSaying_75 : decode cX2_readSaying 75 = .ok (.iload_n 2, 1) := by decide +kernel
theorem dX2_readSaying_76 : decode cX2_readSaying 76 = .ok (.aload_n 0, 1) := by decide +kernel
theorem dX2_readSaying_77 : decode cX2_readSaying 77 = .ok (.iconst 0, 1) := by decide +kernel
theorem dX2_readSaying_78 : decode cX2_readSaying 78 = .ok (.iconst 1, 1) := by decide +kernel
theorem dX2_readSaying_79 : decode cX2_readSaying 79 = .ok (.invokevirtual 67, 3) := by decide +kernel
theorem dX2_readSaying_82 : decode cX2_readSaying 82 = .ok (.iastore, 1) := by decide +kernel
theorem dX2_readSaying_83 : decode cX2_readSaying 83 = .ok (.aload_n 0, 1) := by decide +kernel
theorem dX2_readSaying_84 : decode cX2_readSaying 84 = .ok (.invokevirtual 76, 3) := by decide +kernel
theorem dX2_readSaying_87 : decode cX2_readSaying 87 = .ok (.aload_n 1, 1) := by decide +kernel
theorem dX2_readSaying_88 : decode cX2_readSaying 88 = .ok (.dup, 1) := by decide +kernel
theorem dX2_readSaying_89 : decode cX2_readSaying 89 = .ok (.getfield 30, 3) := by decide +kernel
theorem dX2_readSaying_92 : decode cX2_readSaying 92 = .ok (.iconst 1, 1) := by decide +kernel
theorem dX2_readSaying_93 : decode cX2_readSaying 93 = .ok (.iadd, 1) := by decide +kernel
theorem dX2_readSaying_94 : decode cX2_readSaying 94 = .ok (.putfield 30, 3) := by decide +kernel
theorem dX2_readSaying_97 : decode cX2_readSaying 97 = .ok (.return_, 1) := by decide +kernel
theorem dX2_isNext_0 : decode cX2_isNext 0 = .ok (.aload_n 0, 1) := by decide +kernel
theorem dX2_isNext_1 : decode cX2_isNext 1 = .ok (.getfield 18, 3) := by decide +kernel
theorem dX2_isNext_4 : decode cX2_isNext 4 = .ok (.ifCond .ne 18, 3) := by decide +kernel
theorem dX2_isNext_7 : decode cX2_isNext 7 = .ok (.aload_n 0, 1) := by decide +kernel
theorem dX2_isNext_8 : decode cX2_isNext 8 = .ok (.getfield 12, 3) := by decide +kernel
theorem dX2_isNext_11 : decode cX2_isNext 11 = .ok (.aload_n 1, 1) := by decide +kernel
theorem dX2_isNext_12 : decode cX2_isNext 12 = .ok (.invokevirtual 109, 3) := by decide +kernel
theorem dX2_isNext_15 : decode cX2_isNext 15 = .ok (.ifCond .eq 7, 3) := by decide +kernel
theorem dX2_isNext_18 : decode cX2_isNext 18 = .ok (.iconst 1, 1) := by decide +kernel
theorem dX2_isNext_19 : decode cX2_isNext 19 = .ok (.goto 4, 3) := by decide +kernel
theorem dX2_isNext_22 : decode cX2_isNext 22 = .ok (.iconst 0, 1) := by decide +kernel
theorem dX2_isNext_23 : decode cX2_isNext 23 = .ok (.ireturn, 1) := by decide +kernel
theorem dX2_readWord_0 : decode cX2_readWord 0 = .ok (.aload_n 0, 1) := by decide +kernel
theorem dX2_readWord_1 : decode cX2_readWord 1 = .ok (.aload_n 0, 1) := by decide +kernel
theorem dX2_readWord_2 : decode cX2_readWord 2 = .ok (.getfield 12, 3) := by decide +kernel
theorem dX2_readWord_5 : decode cX2_readWord 5 = .ok (.aload_n 1, 1) := by decide +kernel
theorem dX2_readWord_6 : decode cX2_readWord 6 = .ok (.invokevirtual 109, 3) := by decide +kernel
theorem dX2_readWord_9 : decode cX2_readWord 9 = .ok (.invokevirtual 112, 3) := by decide +kernel
theorem dX2_readWord_12 : decode cX2_readWord 12 = .ok (.return_, 1) := by decide +kernel
theorem dX2_readSign_0 : decode cX2_readSign 0 = .ok (.aload_n 0, 1) := by decide +kernel
theorem dX2_readSign_1 : decode cX2_readSign 1 = .ok (.aload_n 0, 1) := by decide +kernel
theorem dX2_readSign_2 : decode cX2_readSign 2 = .ok (.getfield 12, 3) := by decide +kernel
theorem dX2_readSign_5 : decode cX2_readSign 5 = .ok (.getfield 54, 3) := by decide +kernel
theorem dX2_readSign_8 : decode cX2_readSign 8 = .ok (.iconst 3, 1) := by decide +kernel
theorem dX2_readSign_9 : decode cX2_readSign 9 = .ok (.if_icmp .ne 7, 3) := by decide +kernel
theorem dX2_readSign_12 : decode cX2_readSign 12 = .ok (.iconst 1, 1) := by decide +kernel
theorem dX2_readSign_13 : decode cX2_readSign 13 = .ok (.goto 4, 3) := by decide +kernel
theorem dX2_readSign_16 : decode cX2_readSign 16 = .ok (.iconst 0, 1) := by decide +kernel
theorem dX2_readSign_17 : decode cX2_readSign 17 = .ok (.invokevirtual 112, 3) := by decide +kernel
theorem dX2_readSign_20 : decode cX2_readSign 20 = .ok (.return_, 1) := by decide +kernel
theorem dX2_readSort_0 : decode cX2_readSort 0 = .ok (.aload_n 0, 1) := by decide +kernel
theorem dX2_readSort_1 : decode cX2_readSort 1 = .ok (.invokevirtual 116, 3) := by decide +kernel
theorem dX2_readSort_4 : decode cX2_readSort 4 = .ok (.istore_n 1, 1) := by decide +kernel
theorem dX2_readSort_5 : decode cX2_readSort 5 = .ok (.aload_n 0, 1) := by decide +kernel
theorem dX2_readSort_6 : decode cX2_readSort 6 = .ok (.iload_n 1, 1) := by decide +kernel
theorem dX2_readSort_7 : decode cX2_readSort 7 = .ok (.ifCond .eq 7, 3) := by decide +kernel
theorem dX2_readSort_10 : decode cX2_readSort 10 = .ok (.iconst 1, 1) := by decide +kernel
theorem dX2_readSort_11 : decode cX2_readSort 11 = .ok (.goto 4, 3) := by decide +kernel
theorem dX2_readSort_14 : decode cX2_readSort 14 = .ok (.iconst 0, 1) := by decide +kernel
theorem dX2_readSort_15 : decode cX2_readSort 15 = .ok (.invokevirtual 112, 3) := by decide +kernel
theorem dX2_readSort_18 : decode cX2_readSort 18 = .ok (.iload_n 1, 1) := by decide +kernel
theorem dX2_readSort_19 : decode cX2_readSort 19 = .ok (.ireturn, 1) := by decide +kernel
theorem dX2_sortTold_0 : decode cX2_sortTold 0 = .ok (.aload_n 0, 1) := by decide +kernel
theorem dX2_sortTold_1 : decode cX2_sortTold 1 = .ok (.getfield 12, 3) := by decide +kernel
theorem dX2_sortTold_4 : decode cX2_sortTold 4 = .ok (.ldc 119, 2) := by decide +kernel
theorem dX2_sortTold_6 : decode cX2_sortTold 6 = .ok (.invokevirtual 109, 3) := by decide +kernel
theorem dX2_sortTold_9 : decode cX2_sortTold 9 = .ok (.ifCond .eq 5, 3) := by decide +kernel
theorem dX2_sortTold_12 : decode cX2_sortTold 12 = .ok (.iconst 1, 1) := by decide +kernel
theorem dX2_sortTold_13 : decode cX2_sortTold 13 = .ok (.ireturn, 1) := by decide +kernel
theorem dX2_sortTold_14 : decode cX2_sortTold 14 = .ok (.aload_n 0, 1) := by decide +kernel
theorem dX2_sortTold_15 : decode cX2_sortTold 15 = .ok (.getfield 12, 3) := by decide +kernel
theorem dX2_sortTold_18 : decode cX2_sortTold 18 = .ok (.ldc 121, 2) := by decide +kernel
theorem dX2_sortTold_20 : decode cX2_sortTold 20 = .ok (.invokevirtual 109, 3) := by decide +kernel
theorem dX2_sortTold_23 : decode cX2_sortTold 23 = .ok (.ifCond .eq 5, 3) := by decide +kernel
theorem dX2_sortTold_26 : decode cX2_sortTold 26 = .ok (.iconst 2, 1) := by decide +kernel
theorem dX2_sortTold_27 : decode cX2_sortTold 27 = .ok (.ireturn, 1) := by decide +kernel
theorem dX2_sortTold_28 : decode cX2_sortTold 28 = .ok (.aload_n 0, 1) := by decide +kernel
theorem dX2_sortTold_29 : decode cX2_sortTold 29 = .ok (.getfield 12, 3) := by decide +kernel
theorem dX2_sortTold_32 : decode cX2_sortTold 32 = .ok (.ldc 123, 2) := by decide +kernel
theorem dX2_sortTold_34 : decode cX2_sortTold 34 = .ok (.invokevirtual 109, 3) := by decide +kernel
theorem dX2_sortTold_37 : decode cX2_sortTold 37 = .ok (.ifCond .eq 5, 3) := by decide +kernel
theorem dX2_sortTold_40 : decode cX2_sortTold 40 = .ok (.iconst 3, 1) := by decide +kernel
theorem dX2_sortTold_41 : decode cX2_sortTold 41 = .ok (.ireturn, 1) := by decide +kernel
theorem dX2_sortTold_42 : decode cX2_sortTold 42 = .ok (.aload_n 0, 1) := by decide +kernel
theorem dX2_sortTold_43 : decode cX2_sortTold 43 = .ok (.getfield 12, 3) := by decide +kernel
theorem dX2_sortTold_46 : decode cX2_sortTold 46 = .ok (.ldc 125, 2) := by decide +kernel
theorem dX2_sortTold_48 : decode cX2_sortTold 48 = .ok (.invokevirtual 109, 3) := by decide +kernel
theorem dX2_sortTold_51 : decode cX2_sortTold 51 = .ok (.ifCond .eq 5, 3) := by decide +kernel
theorem dX2_sortTold_54 : decode cX2_sortTold 54 = .ok (.iconst 4, 1) := by decide +kernel
theorem dX2_sortTold_55 : decode cX2_sortTold 55 = .ok (.ireturn, 1) := by decide +kernel
theorem dX2_sortTold_56 : decode cX2_sortTold 56 = .ok (.aload_n 0, 1) := by decide +kernel
theorem dX2_sortTold_57 : decode cX2_sortTold 57 = .ok (.getfield 12, 3) := by decide +kernel
theorem dX2_sortTold_60 : decode cX2_sortTold 60 = .ok (.ldc 127, 2) := by decide +kernel
theorem dX2_sortTold_62 : decode cX2_sortTold 62 = .ok (.invokevirtual 109, 3) := by decide +kernel
theorem dX2_sortTold_65 : decode cX2_sortTold 65 = .ok (.ifCond .eq 7, 3) := by decide +kernel
theorem dX2_sortTold_68 : decode cX2_sortTold 68 = .ok (.iconst 5, 1) := by decide +kernel
theorem dX2_sortTold_69 : decode cX2_sortTold 69 = .ok (.goto 4, 3) := by decide +kernel
theorem dX2_sortTold_72 : decode cX2_sortTold 72 = .ok (.iconst 0, 1) := by decide +kernel
theorem dX2_sortTold_73 : decode cX2_sortTold 73 = .ok (.ireturn, 1) := by decide +kernel
theorem dX2_readNumber_0 : decode cX2_readNumber 0 = .ok (.aload_n 0, 1) := by decide +kernel
theorem dX2_readNumber_1 : decode cX2_readNumber 1 = .ok (.getfield 18, 3) := by decide +kernel
theorem dX2_readNumber_4 : decode cX2_readNumber 4 = .ok (.ifCond .ne 48, 3) := by decide +kernel
theorem dX2_readNumber_7 : decode cX2_readNumber 7 = .ok (.aload_n 0, 1) := by decide +kernel
theorem dX2_readNumber_8 : decode cX2_readNumber 8 = .ok (.getfield 12, 3) := by decide +kernel
theorem dX2_readNumber_11 : decode cX2_readNumber 11 = .ok (.getfield 54, 3) := by decide +kernel
theorem dX2_readNumber_14 : decode cX2_readNumber 14 = .ok (.iconst 2, 1) := by decide +kernel
theorem dX2_readNumber_15 : decode cX2_readNumber 15 = .ok (.if_icmp .ne 37, 3) := by decide +kernel
theorem dX2_readNumber_18 : decode cX2_readNumber 18 = .ok (.aload_n 0, 1) := by decide +kernel
theorem dX2_readNumber_19 : decode cX2_readNumber 19 = .ok (.getfield 12, 3) := by decide +kernel
theorem dX2_readNumber_22 : decode cX2_readNumber 22 = .ok (.invokevirtual 129, 3) := by decide +kernel
theorem dX2_readNumber_25 : decode cX2_readNumber 25 = .ok (.istore_n 3, 1) := by decide +kernel
theorem dX2_readNumber_26 : decode cX2_readNumber 26 = .ok (.iload_n 3, 1) := by decide +kernel
theorem dX2_readNumber_27 : decode cX2_readNumber 27 = .ok (.iload_n 1, 1) := by decide +kernel
theorem dX2_readNumber_28 : decode cX2_readNumber 28 = .ok (.if_icmp .lt 8, 3) := by decide +kernel
theorem dX2_readNumber_31 : decode cX2_readNumber 31 = .ok (.iload_n 3, 1) := by decide +kernel
theorem dX2_readNumber_32 : decode cX2_readNumber 32 = .ok (.iload_n 2, 1) := by decide +kernel
theorem dX2_readNumber_33 : decode cX2_readNumber 33 = .ok (.if_icmp .le 10, 3) := by decide +kernel
theorem dX2_readNumber_36 : decode cX2_readNumber 36 = .ok (.aload_n 0, 1) := by decide +kernel
theorem dX2_readNumber_37 : decode cX2_readNumber 37 = .ok (.iconst 2, 1) := by decide +kernel
theorem dX2_readNumber_38 : decode cX2_readNumber 38 = .ok (.invokevirtual 57, 3) := by decide +kernel
theorem dX2_readNumber_41 : decode cX2_readNumber 41 = .ok (.iconst 0, 1) := by decide +kernel
theorem dX2_readNumber_42 : decode cX2_readNumber 42 = .ok (.ireturn, 1) := by decide +kernel
theorem dX2_readNumber_43 : decode cX2_readNumber 43 = .ok (.aload_n 0, 1) := by decide +kernel
theorem dX2_readNumber_44 : decode cX2_readNumber 44 = .ok (.getfield 12, 3) := by decide +kernel
theorem dX2_readNumber_47 : decode cX2_readNumber 47 = .ok (.invokevirtual 132, 3) := by decide +kernel
theorem dX2_readNumber_50 : decode cX2_readNumber 50 = .ok (.iload_n 3, 1) := by decide +kernel
theorem dX2_readNumber_51 : decode cX2_readNumber 51 = .ok (.ireturn, 1) := by decide +kernel
theorem dX2_readNumber_52 : decode cX2_readNumber 52 = .ok (.aload_n 0, 1) := by decide +kernel
theorem dX2_readNumber_53 : decode cX2_readNumber 53 = .ok (.iconst 1, 1) := by decide +kernel
theorem dX2_readNumber_54 : decode cX2_readNumber 54 = .ok (.invokevirtual 57, 3) := by decide +kernel
theorem dX2_readNumber_57 : decode cX2_readNumber 57 = .ok (.iconst 0, 1) := by decide +kernel
theorem dX2_readNumber_58 : decode cX2_readNumber 58 = .ok (.ireturn, 1) := by decide +kernel
theorem dX2_readWorn_0 : decode cX2_readWorn 0 = .ok (.aload_n 0, 1) := by decide +kernel
theorem dX2_readWorn_1 : decode cX2_readWorn 1 = .ok (.getfield 18, 3) := by decide +kernel
theorem dX2_readWorn_4 : decode cX2_readWorn 4 = .ok (.ifCond .ne 35, 3) := by decide +kernel
theorem dX2_readWorn_7 : decode cX2_readWorn 7 = .ok (.aload_n 0, 1) := by decide +kernel
theorem dX2_readWorn_8 : decode cX2_readWorn 8 = .ok (.getfield 12, 3) := by decide +kernel
theorem dX2_readWorn_11 : decode cX2_readWorn 11 = .ok (.getfield 54, 3) := by decide +kernel
theorem dX2_readWorn_14 : decode cX2_readWorn 14 = .ok (.iconst 2, 1) := by decide +kernel
theorem dX2_readWorn_15 : decode cX2_readWorn 15 = .ok (.if_icmp .ne 24, 3) := by decide +kernel
theorem dX2_readWorn_18 : decode cX2_readWorn 18 = .ok (.aload_n 0, 1) := by decide +kernel
theorem dX2_readWorn_19 : decode cX2_readWorn 19 = .ok (.getfield 12, 3) := by decide +kernel
theorem dX2_readWorn_22 : decode cX2_readWorn 22 = .ok (.invokevirtual 129, 3) := by decide +kernel
theorem dX2_readWorn_25 : decode cX2_readWorn 25 = .ok (.bipush 9, 2) := by decide +kernel
theorem dX2_readWorn_27 : decode cX2_readWorn 27 = .ok (.if_icmp .ne 12, 3) := by decide +kernel
theorem dX2_readWorn_30 : decode cX2_readWorn 30 = .ok (.aload_n 0, 1) := by decide +kernel
theorem dX2_readWorn_31 : decode cX2_readWorn 31 = .ok (.getfield 12, 3) := by decide +kernel
theorem dX2_readWorn_34 : decode cX2_readWorn 34 = .ok (.invokevirtual 132, 3) := by decide +kernel
theorem dX2_readWorn_37 : decode cX2_readWorn 37 = .ok (.iconst (-1), 1) := by decide +kernel
theorem dX2_readWorn_38 : decode cX2_readWorn 38 = .ok (.ireturn, 1) := by decide +kernel
theorem dX2_readWorn_39 : decode cX2_readWorn 39 = .ok (.aload_n 0, 1) := by decide +kernel
theorem dX2_readWorn_40 : decode cX2_readWorn 40 = .ok (.iconst 0, 1) := by decide +kernel
theorem dX2_readWorn_41 : decode cX2_readWorn 41 = .ok (.iload_n 1, 1) := by decide +kernel
theorem dX2_readWorn_42 : decode cX2_readWorn 42 = .ok (.iconst 1, 1) := by decide +kernel
theorem dX2_readWorn_43 : decode cX2_readWorn 43 = .ok (.isub, 1) := by decide +kernel
theorem dX2_readWorn_44 : decode cX2_readWorn 44 = .ok (.invokevirtual 67, 3) := by decide +kernel
theorem dX2_readWorn_47 : decode cX2_readWorn 47 = .ok (.ireturn, 1) := by decide +kernel
theorem dX2_stepIf_0 : decode cX2_stepIf 0 = .ok (.aload_n 0, 1) := by decide +kernel
theorem dX2_stepIf_1 : decode cX2_stepIf 1 = .ok (.getfield 18, 3) := by decide +kernel
theorem dX2_stepIf_4 : decode cX2_stepIf 4 = .ok (.ifCond .eq 4, 3) := by decide +kernel
theorem dX2_stepIf_7 : decode cX2_stepIf 7 = .ok (.return_, 1) := by decide +kernel
theorem dX2_stepIf_8 : decode cX2_stepIf 8 = .ok (.iload_n 1, 1) := by decide +kernel
theorem dX2_stepIf_9 : decode cX2_stepIf 9 = .ok (.ifCond .eq 13, 3) := by decide +kernel
theorem dX2_stepIf_12 : decode cX2_stepIf 12 = .ok (.aload_n 0, 1) := by decide +kernel
theorem dX2_stepIf_13 : decode cX2_stepIf 13 = .ok (.getfield 12, 3) := by decide +kernel
theorem dX2_stepIf_16 : decode cX2_stepIf 16 = .ok (.invokevirtual 132, 3) := by decide +kernel
theorem dX2_stepIf_19 : decode cX2_stepIf 19 = .ok (.goto 8, 3) := by decide +kernel
theorem dX2_stepIf_22 : decode cX2_stepIf 22 = .ok (.aload_n 0, 1) := by decide +kernel
theorem dX2_stepIf_23 : decode cX2_stepIf 23 = .ok (.iconst 1, 1) := by decide +kernel
theorem dX2_stepIf_24 : decode cX2_stepIf 24 = .ok (.invokevirtual 57, 3) := by decide +kernel
theorem dX2_stepIf_27 : decode cX2_stepIf 27 = .ok (.return_, 1) := by decide +kernel
theorem dX2_fail_0 : decode cX2_fail 0 = .ok (.aload_n 0, 1) := by decide +kernel
theorem dX2_fail_1 : decode cX2_fail 1 = .ok (.getfield 18, 3) := by decide +kernel
theorem dX2_fail_4 : decode cX2_fail 4 = .ok (.ifCond .ne 19, 3) := by decide +kernel
theorem dX2_fail_7 : decode cX2_fail 7 = .ok (.aload_n 0, 1) := by decide +kernel
theorem dX2_fail_8 : decode cX2_fail 8 = .ok (.iload_n 1, 1) := by decide +kernel
theorem dX2_fail_9 : decode cX2_fail 9 = .ok (.putfield 18, 3) := by decide +kernel
theorem dX2_fail_12 : decode cX2_fail 12 = .ok (.aload_n 0, 1) := by decide +kernel
theorem dX2_fail_13 : decode cX2_fail 13 = .ok (.aload_n 0, 1) := by decide +kernel
theorem dX2_fail_14 : decode cX2_fail 14 = .ok (.getfield 12, 3) := by decide +kernel
theorem dX2_fail_17 : decode cX2_fail 17 = .ok (.getfield 135, 3) := by decide +kernel
theorem dX2_fail_20 : decode cX2_fail 20 = .ok (.putfield 22, 3) := by decide +kernel
theorem dX2_fail_23 : decode cX2_fail 23 = .ok (.return_, 1) := by decide +kernel
theorem dX3_init_0 : decode cX3_init 0 = .ok (.aload_n 0, 1) := by decide +kernel
theorem dX3_init_1 : decode cX3_init 1 = .ok (.invokespecial 3, 3) := by decide +kernel
theorem dX3_init_4 : decode cX3_init 4 = .ok (.aload_n 0, 1) := by decide +kernel
theorem dX3_init_5 : decode cX3_init 5 = .ok (.bipush 40, 2) := by decide +kernel
theorem dX3_init_7 : decode cX3_init 7 = .ok (.newarray .int, 2) := by decide +kernel
theorem dX3_init_9 : decode cX3_init 9 = .ok (.putfield 9, 3) := by decide +kernel
theorem dX3_init_12 : decode cX3_init 12 = .ok (.return_, 1) := by decide +kernel
theorem dX3_renew_0 : decode cX3_renew 0 = .ok (.aload_n 0, 1) := by decide +kernel
theorem dX3_renew_1 : decode cX3_renew 1 = .ok (.iconst 1, 1) := by decide +kernel
theorem dX3_renew_2 : decode cX3_renew 2 = .ok (.putfield 15, 3) := by decide +kernel
theorem dX3_renew_5 : decode cX3_renew 5 = .ok (.aload_n 0, 1) := by decide +kernel
theorem dX3_renew_6 : decode cX3_renew 6 = .ok (.iload_n 1, 1) := by decide +kernel
theorem dX3_renew_7 : decode cX3_renew 7 = .ok (.putfield 19, 3) := by decide +kernel
theorem dX3_renew_10 : decode cX3_renew 10 = .ok (.aload_n 0, 1) := by decide +kernel
theorem dX3_renew_11 : decode cX3_renew 11 = .ok (.iload_n 2, 1) := by decide +kernel
theorem dX3_renew_12 : decode cX3_renew 12 = .ok (.putfield 23, 3) := by decide +kernel
theorem dX3_renew_15 : decode cX3_renew 15 = .ok (.iconst 0, 1) := by decide +kernel
theorem dX3_renew_16 : decode cX3_renew 16 = .ok (.istore_n 3, 1) := by decide +kernel
theorem dX3_renew_17 : decode cX3_renew 17 = .ok (.iload_n 3, 1) := by decide +kernel
theorem dX3_renew_18 : decode cX3_renew 18 = .ok (.aload_n 0, 1) := by decide +kernel
theorem dX3_renew_19 : decode cX3_renew 19 = .ok (.getfield 9, 3) := by decide +kernel
theorem dX3_renew_22 : decode cX3_renew 22 = .ok (.arraylength, 1) := by decide +kernel
theorem dX3_renew_23 : decode cX3_renew 23 = .ok (.if_icmp .ge 16, 3) := by decide +kernel
theorem dX3_renew_26 : decode cX3_renew 26 = .ok (.aload_n 0, 1) := by decide +kernel
theorem dX3_renew_27 : decode cX3_renew 27 = .ok (.getfield 9, 3) := by decide +kernel
theorem dX3_renew_30 : decode cX3_renew 30 = .ok (.iload_n 3, 1) := by decide +kernel
theorem dX3_renew_31 : decode cX3_renew 31 = .ok (.iconst 0, 1) := by decide +kernel
theorem dX3_renew_32 : decode cX3_renew 32 = .ok (.iastore, 1) := by decide +kernel
theorem dX3_renew_33 : decode cX3_renew 33 = .ok (.iinc 3 1, 3) := by decide +kernel
theorem dX3_renew_36 : decode cX3_renew 36 = .ok (.goto (-19), 3) := by decide +kernel
theorem dX3_renew_39 : decode cX3_renew 39 = .ok (.return_, 1) := by decide +kernel
theorem dX3_holds_0 : decode cX3_holds 0 = .ok (.iload_n 1, 1) := by decide +kernel
theorem dX3_holds_1 : decode cX3_holds 1 = .ok (.ifCond .lt 29, 3) := by decide +kernel
theorem dX3_holds_4 : decode cX3_holds 4 = .ok (.iload_n 2, 1) := by decide +kernel
theorem dX3_holds_5 : decode cX3_holds 5 = .ok (.ifCond .lt 25, 3) := by decide +kernel
theorem dX3_holds_8 : decode cX3_holds 8 = .ok (.iload_n 1, 1) := by decide +kernel
theorem dX3_holds_9 : decode cX3_holds 9 = .ok (.aload_n 0, 1) := by decide +kernel
theorem dX3_holds_10 : decode cX3_holds 10 = .ok (.getfield 23, 3) := by decide +kernel
theorem dX3_holds_13 : decode cX3_holds 13 = .ok (.if_icmp .gt 17, 3) := by decide +kernel
theorem dX3_holds_16 : decode cX3_holds 16 = .ok (.iload_n 2, 1) := by decide +kernel
theorem dX3_holds_17 : decode cX3_holds 17 = .ok (.aload_n 0, 1) := by decide +kernel
theorem dX3_holds_18 : decode cX3_holds 18 = .ok (.getfield 23, 3) := by decide +kernel
theorem dX3_holds_21 : decode cX3_holds 21 = .ok (.iload_n 1, 1) := by decide +kernel
theorem dX3_holds_22 : decode cX3_holds 22 = .ok (.isub, 1) := by decide +kernel
theorem dX3_holds_23 : decode cX3_holds 23 = .ok (.if_icmp .gt 7, 3) := by decide +kernel
theorem dX3_holds_26 : decode cX3_holds 26 = .ok (.iconst 1, 1) := by decide +kernel
theorem dX3_holds_27 : decode cX3_holds 27 = .ok (.goto 4, 3) := by decide +kernel
theorem dX3_holds_30 : decode cX3_holds 30 = .ok (.iconst 0, 1) := by decide +kernel
theorem dX3_holds_31 : decode cX3_holds 31 = .ok (.ireturn, 1) := by decide +kernel
theorem dX3_narrowed_0 : decode cX3_narrowed 0 = .ok (.aload_n 0, 1) := by decide +kernel
theorem dX3_narrowed_1 : decode cX3_narrowed 1 = .ok (.getfield 19, 3) := by decide +kernel
theorem dX3_narrowed_4 : decode cX3_narrowed 4 = .ok (.ifCond .ne 6, 3) := by decide +kernel
theorem dX3_narrowed_7 : decode cX3_narrowed 7 = .ok (.iload_n 1, 1) := by decide +kernel
theorem dX3_narrowed_8 : decode cX3_narrowed 8 = .ok (.i2b, 1) := by decide +kernel
theorem dX3_narrowed_9 : decode cX3_narrowed 9 = .ok (.ireturn, 1) := by decide +kernel
theorem dX3_narrowed_10 : decode cX3_narrowed 10 = .ok (.aload_n 0, 1) := by decide +kernel
theorem dX3_narrowed_11 : decode cX3_narrowed 11 = .ok (.getfield 19, 3) := by decide +kernel
theorem dX3_narrowed_14 : decode cX3_narrowed 14 = .ok (.iconst 1, 1) := by decide +kernel
theorem dX3_narrowed_15 : decode cX3_narrowed 15 = .ok (.if_icmp .ne 8, 3) := by decide +kernel
theorem dX3_narrowed_18 : decode cX3_narrowed 18 = .ok (.iload_n 1, 1) := by decide +kernel
theorem dX3_narrowed_19 : decode cX3_narrowed 19 = .ok (.i2s, 1) := by decide +kernel
theorem dX3_narrowed_20 : decode cX3_narrowed 20 = .ok (.goto 4, 3) := by decide +kernel
theorem dX3_narrowed_23 : decode cX3_narrowed 23 = .ok (.iload_n 1, 1) := by decide +kernel
theorem dX3_narrowed_24 : decode cX3_narrowed 24 = .ok (.ireturn, 1) := by decide +kernel
theorem dX3_liesWithin_0 : decode cX3_liesWithin 0 = .ok (.iload_n 1, 1) := by decide +kernel
theorem dX3_liesWithin_1 : decode cX3_liesWithin 1 = .ok (.istore 4, 2) := by decide +kernel
theorem dX3_liesWithin_3 : decode cX3_liesWithin 3 = .ok (.iload 4, 2) := by decide +kernel
theorem dX3_liesWithin_5 : decode cX3_liesWithin 5 = .ok (.iload_n 1, 1) := by decide +kernel
theorem dX3_liesWithin_6 : decode cX3_liesWithin 6 = .ok (.iload_n 2, 1) := by decide +kernel
theorem dX3_liesWithin_7 : decode cX3_liesWithin 7 = .ok (.iadd, 1) := by decide +kernel
theorem dX3_liesWithin_8 : decode cX3_liesWithin 8 = .ok (.if_icmp .ge 32, 3) := by decide +kernel
theorem dX3_liesWithin_11 : decode cX3_liesWithin 11 = .ok (.aload_n 0, 1) := by decide +kernel
theorem dX3_liesWithin_12 : decode cX3_liesWithin 12 = .ok (.getfield 9, 3) := by decide +kernel
theorem dX3_liesWithin_15 : decode cX3_liesWithin 15 = .ok (.iload 4, 2) := by decide +kernel
theorem dX3_liesWithin_17 : decode cX3_liesWithin 17 = .ok (.iaload, 1) := by decide +kernel
theorem dX3_liesWithin_18 : decode cX3_liesWithin 18 = .ok (.ifCond .lt 14, 3) := by decide +kernel
theorem dX3_liesWithin_21 : decode cX3_liesWithin 21 = .ok (.aload_n 0, 1) := by decide +kernel
theorem dX3_liesWithin_22 : decode cX3_liesWithin 22 = .ok (.getfield 9, 3) := by decide +kernel
theorem dX3_liesWithin_25 : decode cX3_liesWithin 25 = .ok (.iload 4, 2) := by decide +kernel
theorem dX3_liesWithin_27 : decode cX3_liesWithin 27 = .ok (.iaload, 1) := by decide +kernel
theorem dX3_liesWithin_28 : decode cX3_liesWithin 28 = .ok (.iload_n 3, 1) := by decide +kernel
theorem dX3_liesWithin_29 : decode cX3_liesWithin 29 = .ok (.if_icmp .le 5, 3) := by decide +kernel
theorem dX3_liesWithin_32 : decode cX3_liesWithin 32 = .ok (.iconst 0, 1) := by decide +kernel
theorem dX3_liesWithin_33 : decode cX3_liesWithin 33 = .ok (.ireturn, 1) := by decide +kernel
theorem dX3_liesWithin_34 : decode cX3_liesWithin 34 = .ok (.iinc 4 1, 3) := by decide +kernel
theorem dX3_liesWithin_37 : decode cX3_liesWithin 37 = .ok (.goto (-34), 3) := by decide +kernel
theorem dX3_liesWithin_40 : decode cX3_liesWithin 40 = .ok (.iconst 1, 1) := by decide +kernel
theorem dX3_liesWithin_41 : decode cX3_liesWithin 41 = .ok (.ireturn, 1) := by decide +kernel
theorem dX4_init_0 : decode cX4_init 0 = .ok (.aload_n 0, 1) := by decide +kernel
theorem dX4_init_1 : decode cX4_init 1 = .ok (.invokespecial 3, 3) := by decide +kernel
theorem dX4_init_4 : decode cX4_init 4 = .ok (.aload_n 0, 1) := by decide +kernel
theorem dX4_init_5 : decode cX4_init 5 = .ok (.sipush 400, 3) := by decide +kernel
theorem dX4_init_8 : decode cX4_init 8 = .ok (.newarray .byte, 2) := by decide +kernel
theorem dX4_init_10 : decode cX4_init 10 = .ok (.putfield 9, 3) := by decide +kernel
theorem dX4_init_13 : decode cX4_init 13 = .ok (.return_, 1) := by decide +kernel
theorem dX4_append_0 : decode cX4_append 0 = .ok (.iload_n 3, 1) := by decide +kernel
theorem dX4_append_1 : decode cX4_append 1 = .ok (.iconst 1, 1) := by decide +kernel
theorem dX4_append_2 : decode cX4_append 2 = .ok (.isub, 1) := by decide +kernel
theorem dX4_append_3 : decode cX4_append 3 = .ok (.istore 4, 2) := by decide +kernel
theorem dX4_append_5 : decode cX4_append 5 = .ok (.iload 4, 2) := by decide +kernel
theorem dX4_append_7 : decode cX4_append 7 = .ok (.ifCond .lt 37, 3) := by decide +kernel
theorem dX4_append_10 : decode cX4_append 10 = .ok (.aload_n 0, 1) := by decide +kernel
theorem dX4_append_11 : decode cX4_append 11 = .ok (.getfield 9, 3) := by decide +kernel
theorem dX4_append_14 : decode cX4_append 14 = .ok (.aload_n 0, 1) := by decide +kernel
theorem dX4_append_15 : decode cX4_append 15 = .ok (.getfield 15, 3) := by decide +kernel
theorem dX4_append_18 : decode cX4_append 18 = .ok (.lload_n 1, 1) := by decide +kernel
theorem dX4_append_19 : decode cX4_append 19 = .ok (.bipush 8, 2) := by decide +kernel
theorem dX4_append_21 : decode cX4_append 21 = .ok (.iload 4, 2) := by decide +kernel
theorem dX4_append_23 : decode cX4_append 23 = .ok (.imul, 1) := by decide +kernel
theorem dX4_append_24 : decode cX4_append 24 = .ok (.lshr, 1) := by decide +kernel
theorem dX4_append_25 : decode cX4_append 25 = .ok (.l2i, 1) := by decide +kernel
theorem dX4_append_26 : decode cX4_append 26 = .ok (.i2b, 1) := by decide +kernel
theorem dX4_append_27 : decode cX4_append 27 = .ok (.bastore, 1) := by decide +kernel
theorem dX4_append_28 : decode cX4_append 28 = .ok (.aload_n 0, 1) := by decide +kernel
theorem dX4_append_29 : decode cX4_append 29 = .ok (.dup, 1) := by decide +kernel
theorem dX4_append_30 : decode cX4_append 30 = .ok (.getfield 15, 3) := by decide +kernel
theorem dX4_append_33 : decode cX4_append 33 = .ok (.iconst 1, 1) := by decide +kernel
theorem dX4_append_34 : decode cX4_append 34 = .ok (.iadd, 1) := by decide +kernel
theorem dX4_append_35 : decode cX4_append 35 = .ok (.putfield 15, 3) := by decide +kernel
theorem dX4_append_38 : decode cX4_append 38 = .ok (.iinc 4 (-1), 3) := by decide +kernel
theorem dX4_append_41 : decode cX4_append 41 = .ok (.goto (-36), 3) := by decide +kernel
theorem dX4_append_44 : decode cX4_append 44 = .ok (.return_, 1) := by decide +kernel
theorem dX4_rewind_0 : decode cX4_rewind 0 = .ok (.aload_n 0, 1) := by decide +kernel
theorem dX4_rewind_1 : decode cX4_rewind 1 = .ok (.iconst 0, 1) := by decide +kernel
theorem dX4_rewind_2 : decode cX4_rewind 2 = .ok (.putfield 19, 3) := by decide +kernel
theorem dX4_rewind_5 : decode cX4_rewind 5 = .ok (.aload_n 0, 1) := by decide +kernel
theorem dX4_rewind_6 : decode cX4_rewind 6 = .ok (.invokevirtual 22, 3) := by decide +kernel
theorem dX4_rewind_9 : decode cX4_rewind 9 = .ok (.return_, 1) := by decide +kernel
theorem dX4_step_0 : decode cX4_step 0 = .ok (.aload_n 0, 1) := by decide +kernel
theorem dX4_step_1 : decode cX4_step 1 = .ok (.aload_n 0, 1) := by decide +kernel
theorem dX4_step_2 : decode cX4_step 2 = .ok (.getfield 19, 3) := by decide +kernel
theorem dX4_step_5 : decode cX4_step 5 = .ok (.putfield 25, 3) := by decide +kernel
theorem dX4_step_8 : decode cX4_step 8 = .ok (.aload_n 0, 1) := by decide +kernel
theorem dX4_step_9 : decode cX4_step 9 = .ok (.getfield 25, 3) := by decide +kernel
theorem dX4_step_12 : decode cX4_step 12 = .ok (.aload_n 0, 1) := by decide +kernel
theorem dX4_step_13 : decode cX4_step 13 = .ok (.getfield 15, 3) := by decide +kernel
theorem dX4_step_16 : decode cX4_step 16 = .ok (.if_icmp .ge 31, 3) := by decide +kernel
theorem dX4_step_19 : decode cX4_step 19 = .ok (.aload_n 0, 1) := by decide +kernel
theorem dX4_step_20 : decode cX4_step 20 = .ok (.getfield 9, 3) := by decide +kernel
theorem dX4_step_23 : decode cX4_step 23 = .ok (.aload_n 0, 1) := by decide +kernel
theorem dX4_step_24 : decode cX4_step 24 = .ok (.getfield 25, 3) := by decide +kernel
theorem dX4_step_27 : decode cX4_step 27 = .ok (.baload, 1) := by decide +kernel
theorem dX4_step_28 : decode cX4_step 28 = .ok (.invokestatic 28, 3) := by decide +kernel
theorem dX4_step_31 : decode cX4_step 31 = .ok (.ifCond .eq 16, 3) := by decide +kernel
theorem dX4_step_34 : decode cX4_step 34 = .ok (.aload_n 0, 1) := by decide +kernel
theorem dX4_step_35 : decode cX4_step 35 = .ok (.dup, 1) := by decide +kernel
theorem dX4_step_36 : decode cX4_step 36 = .ok (.getfield 25, 3) := by decide +kernel
theorem dX4_step_39 : decode cX4_step 39 = .ok (.iconst 1, 1) := by decide +kernel
theorem dX4_step_40 : decode cX4_step 40 = .ok (.iadd, 1) := by decide +kernel
theorem dX4_step_41 : decode cX4_step 41 = .ok (.putfield 25, 3) := by decide +kernel
theorem dX4_step_44 : decode cX4_step 44 = .ok (.goto (-36), 3) := by decide +kernel
theorem dX4_step_47 : decode cX4_step 47 = .ok (.aload_n 0, 1) := by decide +kernel
theorem dX4_step_48 : decode cX4_step 48 = .ok (.aload_n 0, 1) := by decide +kernel
theorem dX4_step_49 : decode cX4_step 49 = .ok (.getfield 25, 3) := by decide +kernel
theorem dX4_step_52 : decode cX4_step 52 = .ok (.putfield 19, 3) := by decide +kernel
theorem dX4_step_55 : decode cX4_step 55 = .ok (.aload_n 0, 1) := by decide +kernel
theorem dX4_step_56 : decode cX4_step 56 = .ok (.getfield 25, 3) := by decide +kernel
theorem dX4_step_59 : decode cX4_step 59 = .ok (.aload_n 0, 1) := by decide +kernel
theorem dX4_step_60 : decode cX4_step 60 = .ok (.getfield 15, 3) := by decide +kernel
theorem dX4_step_63 : decode cX4_step 63 = .ok (.if_icmp .lt 11, 3) := by decide +kernel
theorem dX4_step_66 : decode cX4_step 66 = .ok (.aload_n 0, 1) := by decide +kernel
theorem dX4_step_67 : decode cX4_step 67 = .ok (.iconst 0, 1) := by decide +kernel
theorem dX4_step_68 : decode cX4_step 68 = .ok (.putfield 32, 3) := by decide +kernel
theorem dX4_step_71 : decode cX4_step 71 = .ok (.goto 177, 3) := by decide +kernel
theorem dX4_step_74 : decode cX4_step 74 = .ok (.aload_n 0, 1) := by decide +kernel
theorem dX4_step_75 : decode cX4_step 75 = .ok (.getfield 9, 3) := by decide +kernel
theorem dX4_step_78 : decode cX4_step 78 = .ok (.aload_n 0, 1) := by decide +kernel
theorem dX4_step_79 : decode cX4_step 79 = .ok (.getfield 25, 3) := by decide +kernel
theorem dX4_step_82 : decode cX4_step 82 = .ok (.baload, 1) := by decide +kernel
theorem dX4_step_83 : decode cX4_step 83 = .ok (.invokestatic 35, 3) := by decide +kernel
theorem dX4_step_86 : decode cX4_step 86 = .ok (.ifCond .eq 50, 3) := by decide +kernel
theorem dX4_step_89 : decode cX4_step 89 = .ok (.aload_n 0, 1) := by decide +kernel
theorem dX4_step_90 : decode cX4_step 90 = .ok (.getfield 19, 3) := by decide +kernel
theorem dX4_step_93 : decode cX4_step 93 = .ok (.aload_n 0, 1) := by decide +kernel
theorem dX4_step_94 : decode cX4_step 94 = .ok (.getfield 15, 3) := by decide +kernel
theorem dX4_step_97 : decode cX4_step 97 = .ok (.if_icmp .ge 31, 3) := by decide +kernel
theorem dX4_step_100 : decode cX4_step 100 = .ok (.aload_n 0, 1) := by decide +kernel
theorem dX4_step_101 : decode cX4_step 101 = .ok (.getfield 9, 3) := by decide +kernel
theorem dX4_step_104 : decode cX4_step 104 = .ok (.aload_n 0, 1) := by decide +kernel
theorem dX4_step_105 : decode cX4_step 105 = .ok (.getfield 19, 3) := by decide +kernel
theorem dX4_step_108 : decode cX4_step 108 = .ok (.baload, 1) := by decide +kernel
theorem dX4_step_109 : decode cX4_step 109 = .ok (.invokestatic 35, 3) := by decide +kernel
theorem dX4_step_112 : decode cX4_step 112 = .ok (.ifCond .eq 16, 3) := by decide +kernel
theorem dX4_step_115 : decode cX4_step 115 = .ok (.aload_n 0, 1) := by decide +kernel
theorem dX4_step_116 : decode cX4_step 116 = .ok (.dup, 1) := by decide +kernel
theorem dX4_step_117 : decode cX4_step 117 = .ok (.getfield 19, 3) := by decide +kernel
theorem dX4_step_120 : decode cX4_step 120 = .ok (.iconst 1, 1) := by decide +kernel
theorem dX4_step_121 : decode cX4_step 121 = .ok (.iadd, 1) := by decide +kernel
theorem dX4_step_122 : decode cX4_step 122 = .ok (.putfield 19, 3) := by decide +kernel
theorem dX4_step_125 : decode cX4_step 125 = .ok (.goto (-36), 3) := by decide +kernel
theorem dX4_step_128 : decode cX4_step 128 = .ok (.aload_n 0, 1) := by decide +kernel
theorem dX4_step_129 : decode cX4_step 129 = .ok (.iconst 1, 1) := by decide +kernel
theorem dX4_step_130 : decode cX4_step 130 = .ok (.putfield 32, 3) := by decide +kernel
theorem dX4_step_133 : decode cX4_step 133 = .ok (.goto 115, 3) := by decide +kernel
theorem dX4_step_136 : decode cX4_step 136 = .ok (.aload_n 0, 1) := by decide +kernel
theorem dX4_step_137 : decode cX4_step 137 = .ok (.getfield 9, 3) := by decide +kernel
theorem dX4_step_140 : decode cX4_step 140 = .ok (.aload_n 0, 1) := by decide +kernel
theorem dX4_step_141 : decode cX4_step 141 = .ok (.getfield 25, 3) := by decide +kernel
theorem dX4_step_144 : decode cX4_step 144 = .ok (.baload, 1) := by decide +kernel
theorem dX4_step_145 : decode cX4_step 145 = .ok (.invokestatic 38, 3) := by decide +kernel
theorem dX4_step_148 : decode cX4_step 148 = .ok (.ifCond .eq 67, 3) := by decide +kernel
theorem dX4_step_151 : decode cX4_step 151 = .ok (.aload_n 0, 1) := by decide +kernel
theorem dX4_step_152 : decode cX4_step 152 = .ok (.getfield 19, 3) := by decide +kernel
theorem dX4_step_155 : decode cX4_step 155 = .ok (.aload_n 0, 1) := by decide +kernel
theorem dX4_step_156 : decode cX4_step 156 = .ok (.getfield 15, 3) := by decide +kernel
theorem dX4_step_159 : decode cX4_step 159 = .ok (.if_icmp .ge 31, 3) := by decide +kernel
theorem dX4_step_162 : decode cX4_step 162 = .ok (.aload_n 0, 1) := by decide +kernel
theorem dX4_step_163 : decode cX4_step 163 = .ok (.getfield 9, 3) := by decide +kernel
theorem dX4_step_166 : decode cX4_step 166 = .ok (.aload_n 0, 1) := by decide +kernel
theorem dX4_step_167 : decode cX4_step 167 = .ok (.getfield 19, 3) := by decide +kernel
theorem dX4_step_170 : decode cX4_step 170 = .ok (.baload, 1) := by decide +kernel
theorem dX4_step_171 : decode cX4_step 171 = .ok (.invokestatic 38, 3) := by decide +kernel
theorem dX4_step_174 : decode cX4_step 174 = .ok (.ifCond .eq 16, 3) := by decide +kernel
theorem dX4_step_177 : decode cX4_step 177 = .ok (.aload_n 0, 1) := by decide +kernel
theorem dX4_step_178 : decode cX4_step 178 = .ok (.dup, 1) := by decide +kernel
theorem dX4_step_179 : decode cX4_step 179 = .ok (.getfield 19, 3) := by decide +kernel
theorem dX4_step_182 : decode cX4_step 182 = .ok (.iconst 1, 1) := by decide +kernel
theorem dX4_step_183 : decode cX4_step 183 = .ok (.iadd, 1) := by decide +kernel
theorem dX4_step_184 : decode cX4_step 184 = .ok (.putfield 19, 3) := by decide +kernel
theorem dX4_step_187 : decode cX4_step 187 = .ok (.goto (-36), 3) := by decide +kernel
theorem dX4_step_190 : decode cX4_step 190 = .ok (.aload_n 0, 1) := by decide +kernel
theorem dX4_step_191 : decode cX4_step 191 = .ok (.aload_n 0, 1) := by decide +kernel
theorem dX4_step_192 : decode cX4_step 192 = .ok (.getfield 19, 3) := by decide +kernel
theorem dX4_step_195 : decode cX4_step 195 = .ok (.aload_n 0, 1) := by decide +kernel
theorem dX4_step_196 : decode cX4_step 196 = .ok (.getfield 25, 3) := by decide +kernel
theorem dX4_step_199 : decode cX4_step 199 = .ok (.isub, 1) := by decide +kernel
theorem dX4_step_200 : decode cX4_step 200 = .ok (.iconst 3, 1) := by decide +kernel
theorem dX4_step_201 : decode cX4_step 201 = .ok (.if_icmp .gt 7, 3) := by decide +kernel
theorem dX4_step_204 : decode cX4_step 204 = .ok (.iconst 2, 1) := by decide +kernel
theorem dX4_step_205 : decode cX4_step 205 = .ok (.goto 4, 3) := by decide +kernel
theorem dX4_step_208 : decode cX4_step 208 = .ok (.iconst 4, 1) := by decide +kernel
theorem dX4_step_209 : decode cX4_step 209 = .ok (.putfield 32, 3) := by decide +kernel
theorem dX4_step_212 : decode cX4_step 212 = .ok (.goto 36, 3) := by decide +kernel
theorem dX4_step_215 : decode cX4_step 215 = .ok (.aload_n 0, 1) := by decide +kernel
theorem dX4_step_216 : decode cX4_step 216 = .ok (.aload_n 0, 1) := by decide +kernel
theorem dX4_step_217 : decode cX4_step 217 = .ok (.getfield 9, 3) := by decide +kernel
theorem dX4_step_220 : decode cX4_step 220 = .ok (.aload_n 0, 1) := by decide +kernel
theorem dX4_step_221 : decode cX4_step 221 = .ok (.getfield 25, 3) := by decide +kernel
theorem dX4_step_224 : decode cX4_step 224 = .ok (.baload, 1) := by decide +kernel
theorem dX4_step_225 : decode cX4_step 225 = .ok (.bipush 59, 2) := by decide +kernel
theorem dX4_step_227 : decode cX4_step 227 = .ok (.if_icmp .ne 7, 3) := by decide +kernel
theorem dX4_step_230 : decode cX4_step 230 = .ok (.iconst 3, 1) := by decide +kernel
theorem dX4_step_231 : decode cX4_step 231 = .ok (.goto 4, 3) := by decide +kernel
theorem dX4_step_234 : decode cX4_step 234 = .ok (.iconst 4, 1) := by decide +kernel
theorem dX4_step_235 : decode cX4_step 235 = .ok (.putfield 32, 3) := by decide +kernel
theorem dX4_step_238 : decode cX4_step 238 = .ok (.aload_n 0, 1) := by decide +kernel
theorem dX4_step_239 : decode cX4_step 239 = .ok (.dup, 1) := by decide +kernel
theorem dX4_step_240 : decode cX4_step 240 = .ok (.getfield 19, 3) := by decide +kernel
theorem dX4_step_243 : decode cX4_step 243 = .ok (.iconst 1, 1) := by decide +kernel
theorem dX4_step_244 : decode cX4_step 244 = .ok (.iadd, 1) := by decide +kernel
theorem dX4_step_245 : decode cX4_step 245 = .ok (.putfield 19, 3) := by decide +kernel
theorem dX4_step_248 : decode cX4_step 248 = .ok (.return_, 1) := by decide +kernel
theorem dX4_isWord_0 : decode cX4_isWord 0 = .ok (.aload_n 0, 1) := by decide +kernel
theorem dX4_isWord_1 : decode cX4_isWord 1 = .ok (.getfield 32, 3) := by decide +kernel
theorem dX4_isWord_4 : decode cX4_isWord 4 = .ok (.iconst 1, 1) := by decide +kernel
theorem dX4_isWord_5 : decode cX4_isWord 5 = .ok (.if_icmp .ne 19, 3) := by decide +kernel
theorem dX4_isWord_8 : decode cX4_isWord 8 = .ok (.aload_n 0, 1) := by decide +kernel
theorem dX4_isWord_9 : decode cX4_isWord 9 = .ok (.getfield 19, 3) := by decide +kernel
theorem dX4_isWord_12 : decode cX4_isWord 12 = .ok (.aload_n 0, 1) := by decide +kernel
theorem dX4_isWord_13 : decode cX4_isWord 13 = .ok (.getfield 25, 3) := by decide +kernel
theorem dX4_isWord_16 : decode cX4_isWord 16 = .ok (.isub, 1) := by decide +kernel
theorem dX4_isWord_17 : decode cX4_isWord 17 = .ok (.aload_n 1, 1) := by decide +kernel
theorem dX4_isWord_18 : decode cX4_isWord 18 = .ok (.invokevirtual 41, 3) := by decide +kernel
theorem dX4_isWord_21 : decode cX4_isWord 21 = .ok (.if_icmp .eq 5, 3) := by decide +kernel
theorem dX4_isWord_24 : decode cX4_isWord 24 = .ok (.iconst 0, 1) := by decide +kernel
theorem dX4_isWord_25 : decode cX4_isWord 25 = .ok (.ireturn, 1) := by decide +kernel
theorem dX4_isWord_26 : decode cX4_isWord 26 = .ok (.iconst 0, 1) := by decide +kernel
theorem dX4_isWord_27 : decode cX4_isWord 27 = .ok (.istore_n 2, 1) := by decide +kernel
theorem dX4_isWord_28 : decode cX4_isWord 28 = .ok (.iload_n 2, 1) := by decide +kernel
theorem dX4_isWord_29 : decode cX4_isWord 29 = .ok (.aload_n 1, 1) := by decide +kernel
theorem dX4_isWord_30 : decode cX4_isWord 30 = .ok (.invokevirtual 41, 3) := by decide +kernel
theorem dX4_isWord_33 : decode cX4_isWord 33 = .ok (.if_icmp .ge 30, 3) := by decide +kernel
theorem dX4_isWord_36 : decode cX4_isWord 36 = .ok (.aload_n 0, 1) := by decide +kernel
theorem dX4_isWord_37 : decode cX4_isWord 37 = .ok (.getfield 9, 3) := by decide +kernel
theorem dX4_isWord_40 : decode cX4_isWord 40 = .ok (.aload_n 0, 1) := by decide +kernel
theorem dX4_isWord_41 : decode cX4_isWord 41 = .ok (.getfield 25, 3) := by decide +kernel
theorem dX4_isWord_44 : decode cX4_isWord 44 = .ok (.iload_n 2, 1) := by decide +kernel
theorem dX4_isWord_45 : decode cX4_isWord 45 = .ok (.iadd, 1) := by decide +kernel
theorem dX4_isWord_46 : decode cX4_isWord 46 = .ok (.baload, 1) := by decide +kernel
theorem dX4_isWord_47 : decode cX4_isWord 47 = .ok (.aload_n 1, 1) := by decide +kernel
theorem dX4_isWord_48 : decode cX4_isWord 48 = .ok (.iload_n 2, 1) := by decide +kernel
theorem dX4_isWord_49 : decode cX4_isWord 49 = .ok (.invokevirtual 46, 3) := by decide +kernel
theorem dX4_isWord_52 : decode cX4_isWord 52 = .ok (.if_icmp .eq 5, 3) := by decide +kernel
theorem dX4_isWord_55 : decode cX4_isWord 55 = .ok (.iconst 0, 1) := by decide +kernel
theorem dX4_isWord_56 : decode cX4_isWord 56 = .ok (.ireturn, 1) := by decide +kernel
theorem dX4_isWord_57 : decode cX4_isWord 57 = .ok (.iinc 2 1, 3) := by decide +kernel
theorem dX4_isWord_60 : decode cX4_isWord 60 = .ok (.goto (-32), 3) := by decide +kernel
theorem dX4_isWord_63 : decode cX4_isWord 63 = .ok (.iconst 1, 1) := by decide +kernel
theorem dX4_isWord_64 : decode cX4_isWord 64 = .ok (.ireturn, 1) := by decide +kernel
theorem dX4_value_0 : decode cX4_value 0 = .ok (.iconst 0, 1) := by decide +kernel
theorem dX4_value_1 : decode cX4_value 1 = .ok (.istore_n 1, 1) := by decide +kernel
theorem dX4_value_2 : decode cX4_value 2 = .ok (.aload_n 0, 1) := by decide +kernel
theorem dX4_value_3 : decode cX4_value 3 = .ok (.getfield 25, 3) := by decide +kernel
theorem dX4_value_6 : decode cX4_value 6 = .ok (.istore_n 2, 1) := by decide +kernel
theorem dX4_value_7 : decode cX4_value 7 = .ok (.iload_n 2, 1) := by decide +kernel
theorem dX4_value_8 : decode cX4_value 8 = .ok (.aload_n 0, 1) := by decide +kernel
theorem dX4_value_9 : decode cX4_value 9 = .ok (.getfield 19, 3) := by decide +kernel
theorem dX4_value_12 : decode cX4_value 12 = .ok (.if_icmp .ge 24, 3) := by decide +kernel
theorem dX4_value_15 : decode cX4_value 15 = .ok (.iload_n 1, 1) := by decide +kernel
theorem dX4_value_16 : decode cX4_value 16 = .ok (.bipush 10, 2) := by decide +kernel
theorem dX4_value_18 : decode cX4_value 18 = .ok (.imul, 1) := by decide +kernel
theorem dX4_value_19 : decode cX4_value 19 = .ok (.aload_n 0, 1) := by decide +kernel
theorem dX4_value_20 : decode cX4_value 20 = .ok (.getfield 9, 3) := by decide +kernel
theorem dX4_value_23 : decode cX4_value 23 = .ok (.iload_n 2, 1) := by decide +kernel
theorem dX4_value_24 : decode cX4_value 24 = .ok (.baload, 1) := by decide +kernel
theorem dX4_value_25 : decode cX4_value 25 = .ok (.iadd, 1) := by decide +kernel
theorem dX4_value_26 : decode cX4_value 26 = .ok (.bipush 48, 2) := by decide +kernel
theorem dX4_value_28 : decode cX4_value 28 = .ok (.isub, 1) := by decide +kernel
theorem dX4_value_29 : decode cX4_value 29 = .ok (.istore_n 1, 1) := by decide +kernel
theorem dX4_value_30 : decode cX4_value 30 = .ok (.iinc 2 1, 3) := by decide +kernel
theorem dX4_value_33 : decode cX4_value 33 = .ok (.goto (-26), 3) := by decide +kernel
theorem dX4_value_36 : decode cX4_value 36 = .ok (.iload_n 1, 1) := by decide +kernel
theorem dX4_value_37 : decode cX4_value 37 = .ok (.ireturn, 1) := by decide +kernel
theorem dX4_isBlank_0 : decode cX4_isBlank 0 = .ok (.iload_n 0, 1) := by decide +kernel
theorem dX4_isBlank_1 : decode cX4_isBlank 1 = .ok (.bipush 32, 2) := by decide +kernel
theorem dX4_isBlank_3 : decode cX4_isBlank 3 = .ok (.if_icmp .eq 9, 3) := by decide +kernel
theorem dX4_isBlank_6 : decode cX4_isBlank 6 = .ok (.iload_n 0, 1) := by decide +kernel
theorem dX4_isBlank_7 : decode cX4_isBlank 7 = .ok (.bipush 10, 2) := by decide +kernel
theorem dX4_isBlank_9 : decode cX4_isBlank 9 = .ok (.if_icmp .ne 7, 3) := by decide +kernel
theorem dX4_isBlank_12 : decode cX4_isBlank 12 = .ok (.iconst 1, 1) := by decide +kernel
theorem dX4_isBlank_13 : decode cX4_isBlank 13 = .ok (.goto 4, 3) := by decide +kernel
theorem dX4_isBlank_16 : decode cX4_isBlank 16 = .ok (.iconst 0, 1) := by decide +kernel
theorem dX4_isBlank_17 : decode cX4_isBlank 17 = .ok (.ireturn, 1) := by decide +kernel
theorem dX4_isLetter_0 : decode cX4_isLetter 0 = .ok (.iload_n 0, 1) := by decide +kernel
theorem dX4_isLetter_1 : decode cX4_isLetter 1 = .ok (.bipush 97, 2) := by decide +kernel
theorem dX4_isLetter_3 : decode cX4_isLetter 3 = .ok (.if_icmp .lt 13, 3) := by decide +kernel
theorem dX4_isLetter_6 : decode cX4_isLetter 6 = .ok (.iload_n 0, 1) := by decide +kernel
theorem dX4_isLetter_7 : decode cX4_isLetter 7 = .ok (.bipush 122, 2) := by decide +kernel
theorem dX4_isLetter_9 : decode cX4_isLetter 9 = .ok (.if_icmp .gt 7, 3) := by decide +kernel
theorem dX4_isLetter_12 : decode cX4_isLetter 12 = .ok (.iconst 1, 1) := by decide +kernel
theorem dX4_isLetter_13 : decode cX4_isLetter 13 = .ok (.goto 4, 3) := by decide +kernel
theorem dX4_isLetter_16 : decode cX4_isLetter 16 = .ok (.iconst 0, 1) := by decide +kernel
theorem dX4_isLetter_17 : decode cX4_isLetter 17 = .ok (.ireturn, 1) := by decide +kernel
theorem dX4_isFigure_0 : decode cX4_isFigure 0 = .ok (.iload_n 0, 1) := by decide +kernel
theorem dX4_isFigure_1 : decode cX4_isFigure 1 = .ok (.bipush 48, 2) := by decide +kernel
theorem dX4_isFigure_3 : decode cX4_isFigure 3 = .ok (.if_icmp .lt 13, 3) := by decide +kernel
theorem dX4_isFigure_6 : decode cX4_isFigure 6 = .ok (.iload_n 0, 1) := by decide +kernel
theorem dX4_isFigure_7 : decode cX4_isFigure 7 = .ok (.bipush 57, 2) := by decide +kernel
theorem dX4_isFigure_9 : decode cX4_isFigure 9 = .ok (.if_icmp .gt 7, 3) := by decide +kernel
theorem dX4_isFigure_12 : decode cX4_isFigure 12 = .ok (.iconst 1, 1) := by decide +kernel
theorem dX4_isFigure_13 : decode cX4_isFigure 13 = .ok (.goto 4, 3) := by decide +kernel
theorem dX4_isFigure_16 : decode cX4_isFigure 16 = .ok (.iconst 0, 1) := by decide +kernel
theorem dX4_isFigure_17 : decode cX4_isFigure 17 = .ok (.ireturn, 1) := by decide +kernel
theorem dX5_init_0 : decode cX5_init 0 = .ok (.aload_n 0, 1) := by decide +kernel
theorem dX5_init_1 : decode cX5_init 1 = .ok (.invokespecial 3, 3) := by decide +kernel
theorem dX5_init_4 : decode cX5_init 4 = .ok (.aload_n 0, 1) := by decide +kernel
theorem dX5_init_5 : decode cX5_init 5 = .ok (.bipush 7, 2) := by decide +kernel
theorem dX5_init_7 : decode cX5_init 7 = .ok (.newarray .int, 2) := by decide +kernel
theorem dX5_init_9 : decode cX5_init 9 = .ok (.putfield 9, 3) := by decide +kernel
theorem dX5_init_12 : decode cX5_init 12 = .ok (.aload_n 0, 1) := by decide +kernel
theorem dX5_init_13 : decode cX5_init 13 = .ok (.bipush 7, 2) := by decide +kernel
theorem dX5_init_15 : decode cX5_init 15 = .ok (.newarray .int, 2) := by decide +kernel
theorem dX5_init_17 : decode cX5_init 17 = .ok (.putfield 15, 3) := by decide +kernel
theorem dX5_init_20 : decode cX5_init 20 = .ok (.aload_n 0, 1) := by decide +kernel
theorem dX5_init_21 : decode cX5_init 21 = .ok (.bipush 7, 2) := by decide +kernel
theorem dX5_init_23 : decode cX5_init 23 = .ok (.newarray .int, 2) := by decide +kernel
theorem dX5_init_25 : decode cX5_init 25 = .ok (.putfield 18, 3) := by decide +kernel
theorem dX5_init_28 : decode cX5_init 28 = .ok (.aload_n 0, 1) := by decide +kernel
theorem dX5_init_29 : decode cX5_init 29 = .ok (.bipush 12, 2) := by decide +kernel
theorem dX5_init_31 : decode cX5_init 31 = .ok (.newarray .int, 2) := by decide +kernel
theorem dX5_init_33 : decode cX5_init 33 = .ok (.putfield 21, 3) := by decide +kernel
theorem dX5_init_36 : decode cX5_init 36 = .ok (.aload_n 0, 1) := by decide +kernel
theorem dX5_init_37 : decode cX5_init 37 = .ok (.bipush 12, 2) := by decide +kernel
theorem dX5_init_39 : decode cX5_init 39 = .ok (.newarray .int, 2) := by decide +kernel
theorem dX5_init_41 : decode cX5_init 41 = .ok (.putfield 24, 3) := by decide +kernel
theorem dX5_init_44 : decode cX5_init 44 = .ok (.aload_n 0, 1) := by decide +kernel
theorem dX5_init_45 : decode cX5_init 45 = .ok (.bipush 12, 2) := by decide +kernel
theorem dX5_init_47 : decode cX5_init 47 = .ok (.newarray .int, 2) := by decide +kernel
theorem dX5_init_49 : decode cX5_init 49 = .ok (.putfield 27, 3) := by decide +kernel
theorem dX5_init_52 : decode cX5_init 52 = .ok (.aload_n 0, 1) := by decide +kernel
theorem dX5_init_53 : decode cX5_init 53 = .ok (.bipush 12, 2) := by decide +kernel
theorem dX5_init_55 : decode cX5_init 55 = .ok (.newarray .int, 2) := by decide +kernel
theorem dX5_init_57 : decode cX5_init 57 = .ok (.putfield 30, 3) := by decide +kernel
theorem dX5_init_60 : decode cX5_init 60 = .ok (.return_, 1) := by decide +kernel
theorem dX5_isThere_0 : decode cX5_isThere 0 = .ok (.aload_n 0, 1) := by decide +kernel
theorem dX5_isThere_1 : decode cX5_isThere 1 = .ok (.getfield 33, 3) := by decide +kernel
theorem dX5_isThere_4 : decode cX5_isThere 4 = .ok (.ifCond .le 7, 3) := by decide +kernel
theorem dX5_isThere_7 : decode cX5_isThere 7 = .ok (.iconst 1, 1) := by decide +kernel
theorem dX5_isThere_8 : decode cX5_isThere 8 = .ok (.goto 4, 3) := by decide +kernel
theorem dX5_isThere_11 : decode cX5_isThere 11 = .ok (.iconst 0, 1) := by decide +kernel
theorem dX5_isThere_12 : decode cX5_isThere 12 = .ok (.ireturn, 1) := by decide +kernel
theorem dX5_become_0 : decode cX5_become 0 = .ok (.aload_n 0, 1) := by decide +kernel
theorem dX5_become_1 : decode cX5_become 1 = .ok (.aload_n 1, 1) := by decide +kernel
theorem dX5_become_2 : decode cX5_become 2 = .ok (.getfield 33, 3) := by decide +kernel
theorem dX5_become_5 : decode cX5_become 5 = .ok (.putfield 33, 3) := by decide +kernel
theorem dX5_become_8 : decode cX5_become 8 = .ok (.aload_n 0, 1) := by decide +kernel
theorem dX5_become_9 : decode cX5_become 9 = .ok (.aload_n 1, 1) := by decide +kernel
theorem dX5_become_10 : decode cX5_become 10 = .ok (.getfield 37, 3) := by decide +kernel
theorem dX5_become_13 : decode cX5_become 13 = .ok (.putfield 37, 3) := by decide +kernel
theorem dX5_become_16 : decode cX5_become 16 = .ok (.aload_n 0, 1) := by decide +kernel
theorem dX5_become_17 : decode cX5_become 17 = .ok (.aload_n 1, 1) := by decide +kernel
theorem dX5_become_18 : decode cX5_become 18 = .ok (.getfield 40, 3) := by decide +kernel
theorem dX5_become_21 : decode cX5_become 21 = .ok (.putfield 40, 3) := by decide +kernel
theorem dX5_become_24 : decode cX5_become 24 = .ok (.aload_n 1, 1) := by decide +kernel
theorem dX5_become_25 : decode cX5_become 25 = .ok (.getfield 9, 3) := by decide +kernel
theorem dX5_become_28 : decode cX5_become 28 = .ok (.iconst 0, 1) := by decide +kernel
theorem dX5_become_29 : decode cX5_become 29 = .ok (.aload_n 0, 1) := by decide +kernel
theorem dX5_become_30 : decode cX5_become 30 = .ok (.getfield 9, 3) := by decide +kernel
theorem dX5_become_33 : decode cX5_become 33 = .ok (.iconst 0, 1) := by decide +kernel
theorem dX5_become_34 : decode cX5_become 34 = .ok (.bipush 7, 2) := by decide +kernel
theorem dX5_become_36 : decode cX5_become 36 = .ok (.invokestatic 43, 3) := by decide +kernel
theorem dX5_become_39 : decode cX5_become 39 = .ok (.aload_n 1, 1) := by decide +kernel
theorem dX5_become_40 : decode cX5_become 40 = .ok (.getfield 15, 3) := by decide +kernel
theorem dX5_become_43 : decode cX5_become 43 = .ok (.iconst 0, 1) := by decide +kernel
theorem dX5_become_44 : decode cX5_become 44 = .ok (.aload_n 0, 1) := by decide +kernel
theorem dX5_become_45 : decode cX5_become 45 = .ok (.getfield 15, 3) := by decide +kernel
theorem dX5_become_48 : decode cX5_become 48 = .ok (.iconst 0, 1) := by decide +kernel
theorem dX5_become_49 : decode cX5_become 49 = .ok (.bipush 7, 2) := by decide +kernel
theorem dX5_become_51 : decode cX5_become 51 = .ok (.invokestatic 43, 3) := by decide +kernel
theorem dX5_become_54 : decode cX5_become 54 = .ok (.aload_n 1, 1) := by decide +kernel
theorem dX5_become_55 : decode cX5_become 55 = .ok (.getfield 18, 3) := by decide +kernel
theorem dX5_become_58 : decode cX5_become 58 = .ok (.iconst 0, 1) := by decide +kernel
theorem dX5_become_59 : decode cX5_become 59 = .ok (.aload_n 0, 1) := by decide +kernel
theorem dX5_become_60 : decode cX5_become 60 = .ok (.getfield 18, 3) := by decide +kernel
theorem dX5_become_63 : decode cX5_become 63 = .ok (.iconst 0, 1) := by decide +kernel
theorem dX5_become_64 : decode cX5_become 64 = .ok (.bipush 7, 2) := by decide +kernel
theorem dX5_become_66 : decode cX5_become 66 = .ok (.invokestatic 43, 3) := by decide +kernel
theorem dX5_become_69 : decode cX5_become 69 = .ok (.aload_n 0, 1) := by decide +kernel
theorem dX5_become_70 : decode cX5_become 70 = .ok (.aload_n 1, 1) := by decide +kernel
theorem dX5_become_71 : decode cX5_become 71 = .ok (.getfield 49, 3) := by decide +kernel
theorem dX5_become_74 : decode cX5_become 74 = .ok (.putfield 49, 3) := by decide +kernel
theorem dX5_become_77 : decode cX5_become 77 = .ok (.aload_n 1, 1) := by decide +kernel
theorem dX5_become_78 : decode cX5_become 78 = .ok (.getfield 21, 3) := by decide +kernel
theorem dX5_become_81 : decode cX5_become 81 = .ok (.iconst 0, 1) := by decide +kernel
theorem dX5_become_82 : decode cX5_become 82 = .ok (.aload_n 0, 1) := by decide +kernel
theorem dX5_become_83 : decode cX5_become 83 = .ok (.getfield 21, 3) := by decide +kernel
theorem dX5_become_86 : decode cX5_become 86 = .ok (.iconst 0, 1) := by decide +kernel
theorem dX5_become_87 : decode cX5_become 87 = .ok (.bipush 12, 2) := by decide +kernel
theorem dX5_become_89 : decode cX5_become 89 = .ok (.invokestatic 43, 3) := by decide +kernel
theorem dX5_become_92 : decode cX5_become 92 = .ok (.aload_n 1, 1) := by decide +kernel
theorem dX5_become_93 : decode cX5_become 93 = .ok (.getfield 24, 3) := by decide +kernel
theorem dX5_become_96 : decode cX5_become 96 = .ok (.iconst 0, 1) := by decide +kernel
theorem dX5_become_97 : decode cX5_become 97 = .ok (.aload_n 0, 1) := by decide +kernel
theorem dX5_become_98 : decode cX5_become 98 = .ok (.getfield 24, 3) := by decide +kernel
theorem dX5_become_101 : decode cX5_become 101 = .ok (.iconst 0, 1) := by decide +kernel
theorem dX5_become_102 : decode cX5_become 102 = .ok (.bipush 12, 2) := by decide +kernel
theorem dX5_become_104 : decode cX5_become 104 = .ok (.invokestatic 43, 3) := by decide +kernel
theorem dX5_become_107 : decode cX5_become 107 = .ok (.aload_n 1, 1) := by decide +kernel
theorem dX5_become_108 : decode cX5_become 108 = .ok (.getfield 27, 3) := by decide +kernel
theorem dX5_become_111 : decode cX5_become 111 = .ok (.iconst 0, 1) := by decide +kernel
theorem dX5_become_112 : decode cX5_become 112 = .ok (.aload_n 0, 1) := by decide +kernel
theorem dX5_become_113 : decode cX5_become 113 = .ok (.getfield 27, 3) := by decide +kernel
theorem dX5_become_116 : decode cX5_become 116 = .ok (.iconst 0, 1) := by decide +kernel
theorem dX5_become_117 : decode cX5_become 117 = .ok (.bipush 12, 2) := by decide +kernel
theorem dX5_become_119 : decode cX5_become 119 = .ok (.invokestatic 43, 3) := by decide +kernel
theorem dX5_become_122 : decode cX5_become 122 = .ok (.aload_n 1, 1) := by decide +kernel
theorem dX5_become_123 : decode cX5_become 123 = .ok (.getfield 30, 3) := by decide +kernel
theorem dX5_become_126 : decode cX5_become 126 = .ok (.iconst 0, 1) := by decide +kernel
theorem dX5_become_127 : decode cX5_become 127 = .ok (.aload_n 0, 1) := by decide +kernel
theorem dX5_become_128 : decode cX5_become 128 = .ok (.getfield 30, 3) := by decide +kernel
theorem dX5_become_131 : decode cX5_become 131 = .ok (.iconst 0, 1) := by decide +kernel
theorem dX5_become_132 : decode cX5_become 132 = .ok (.bipush 12, 2) := by decide +kernel
theorem dX5_become_134 : decode cX5_become 134 = .ok (.invokestatic 43, 3) := by decide +kernel
theorem dX5_become_137 : decode cX5_become 137 = .ok (.return_, 1) := by decide +kernel
theorem dX5_isGone_0 : decode cX5_isGone 0 = .ok (.aload_n 0, 1) := by decide +kernel
theorem dX5_isGone_1 : decode cX5_isGone 1 = .ok (.getfield 15, 3) := by decide +kernel
theorem dX5_isGone_4 : decode cX5_isGone 4 = .ok (.iload_n 1, 1) := by decide +kernel
theorem dX5_isGone_5 : decode cX5_isGone 5 = .ok (.iaload, 1) := by decide +kernel
theorem dX5_isGone_6 : decode cX5_isGone 6 = .ok (.ifCond .ne 7, 3) := by decide +kernel
theorem dX5_isGone_9 : decode cX5_isGone 9 = .ok (.iconst 1, 1) := by decide +kernel
theorem dX5_isGone_10 : decode cX5_isGone 10 = .ok (.goto 4, 3) := by decide +kernel
theorem dX5_isGone_13 : decode cX5_isGone 13 = .ok (.iconst 0, 1) := by decide +kernel
theorem dX5_isGone_14 : decode cX5_isGone 14 = .ok (.ireturn, 1) := by decide +kernel
theorem dX5_shorten_0 : decode cX5_shorten 0 = .ok (.iload_n 2, 1) := by decide +kernel
theorem dX5_shorten_1 : decode cX5_shorten 1 = .ok (.aload_n 0, 1) := by decide +kernel
theorem dX5_shorten_2 : decode cX5_shorten 2 = .ok (.getfield 15, 3) := by decide +kernel
theorem dX5_shorten_5 : decode cX5_shorten 5 = .ok (.iload_n 1, 1) := by decide +kernel
theorem dX5_shorten_6 : decode cX5_shorten 6 = .ok (.iaload, 1) := by decide +kernel
theorem dX5_shorten_7 : decode cX5_shorten 7 = .ok (.invokestatic 52, 3) := by decide +kernel
theorem dX5_shorten_10 : decode cX5_shorten 10 = .ok (.istore_n 3, 1) := by decide +kernel
theorem dX5_shorten_11 : decode cX5_shorten 11 = .ok (.aload_n 0, 1) := by decide +kernel
theorem dX5_shorten_12 : decode cX5_shorten 12 = .ok (.getfield 15, 3) := by decide +kernel
theorem dX5_shorten_15 : decode cX5_shorten 15 = .ok (.iload_n 1, 1) := by decide +kernel
theorem dX5_shorten_16 : decode cX5_shorten 16 = .ok (.dup2, 1) := by decide +kernel
theorem dX5_shorten_17 : decode cX5_shorten 17 = .ok (.iaload, 1) := by decide +kernel
theorem dX5_shorten_18 : decode cX5_shorten 18 = .ok (.iload_n 3, 1) := by decide +kernel
theorem dX5_shorten_19 : decode cX5_shorten 19 = .ok (.isub, 1) := by decide +kernel
theorem dX5_shorten_20 : decode cX5_shorten 20 = .ok (.iastore, 1) := by decide +kernel
theorem dX5_shorten_21 : decode cX5_shorten 21 = .ok (.iload_n 3, 1) := by decide +kernel
theorem dX5_shorten_22 : decode cX5_shorten 22 = .ok (.ireturn, 1) := by decide +kernel
theorem dX5_linesOf_0 : decode cX5_linesOf 0 = .ok (.iconst 0, 1) := by decide +kernel
theorem dX5_linesOf_1 : decode cX5_linesOf 1 = .ok (.istore_n 2, 1) := by decide +kernel
theorem dX5_linesOf_2 : decode cX5_linesOf 2 = .ok (.iconst 0, 1) := by decide +kernel
theorem dX5_linesOf_3 : decode cX5_linesOf 3 = .ok (.istore_n 3, 1) := by decide +kernel
theorem dX5_linesOf_4 : decode cX5_linesOf 4 = .ok (.iload_n 3, 1) := by decide +kernel
theorem dX5_linesOf_5 : decode cX5_linesOf 5 = .ok (.aload_n 0, 1) := by decide +kernel
theorem dX5_linesOf_6 : decode cX5_linesOf 6 = .ok (.getfield 40, 3) := by decide +kernel
theorem dX5_linesOf_9 : decode cX5_linesOf 9 = .ok (.if_icmp .ge 26, 3) := by decide +kernel
theorem dX5_linesOf_12 : decode cX5_linesOf 12 = .ok (.iload_n 1, 1) := by decide +kernel
theorem dX5_linesOf_13 : decode cX5_linesOf 13 = .ok (.iload_n 3, 1) := by decide +kernel
theorem dX5_linesOf_14 : decode cX5_linesOf 14 = .ok (.invokestatic 58, 3) := by decide +kernel
theorem dX5_linesOf_17 : decode cX5_linesOf 17 = .ok (.ifCond .eq 12, 3) := by decide +kernel
theorem dX5_linesOf_20 : decode cX5_linesOf 20 = .ok (.iload_n 2, 1) := by decide +kernel
theorem dX5_linesOf_21 : decode cX5_linesOf 21 = .ok (.aload_n 0, 1) := by decide +kernel
theorem dX5_linesOf_22 : decode cX5_linesOf 22 = .ok (.getfield 15, 3) := by decide +kernel
theorem dX5_linesOf_25 : decode cX5_linesOf 25 = .ok (.iload_n 3, 1) := by decide +kernel
theorem dX5_linesOf_26 : decode cX5_linesOf 26 = .ok (.iaload, 1) := by decide +kernel
theorem dX5_linesOf_27 : decode cX5_linesOf 27 = .ok (.iadd, 1) := by decide +kernel
theorem dX5_linesOf_28 : decode cX5_linesOf 28 = .ok (.istore_n 2, 1) := by decide +kernel
theorem dX5_linesOf_29 : decode cX5_linesOf 29 = .ok (.iinc 3 1, 3) := by decide +kernel
theorem dX5_linesOf_32 : decode cX5_linesOf 32 = .ok (.goto (-28), 3) := by decide +kernel
theorem dX5_linesOf_35 : decode cX5_linesOf 35 = .ok (.iload_n 2, 1) := by decide +kernel
theorem dX5_linesOf_36 : decode cX5_linesOf 36 = .ok (.ireturn, 1) := by decide +kernel
theorem dX5_warmth_0 : decode cX5_warmth 0 = .ok (.aload_n 0, 1) := by decide +kernel
theorem dX5_warmth_1 : decode cX5_warmth 1 = .ok (.iload_n 1, 1) := by decide +kernel
theorem dX5_warmth_2 : decode cX5_warmth 2 = .ok (.invokevirtual 62, 3) := by decide +kernel
theorem dX5_warmth_5 : decode cX5_warmth 5 = .ok (.ifCond .eq 5, 3) := by decide +kernel
theorem dX5_warmth_8 : decode cX5_warmth 8 = .ok (.iconst 0, 1) := by decide +kernel
theorem dX5_warmth_9 : decode cX5_warmth 9 = .ok (.ireturn, 1) := by decide +kernel
theorem dX5_warmth_10 : decode cX5_warmth 10 = .ok (.aload_n 0, 1) := by decide +kernel
theorem dX5_warmth_11 : decode cX5_warmth 11 = .ok (.getfield 9, 3) := by decide +kernel
theorem dX5_warmth_14 : decode cX5_warmth 14 = .ok (.iload_n 1, 1) := by decide +kernel
theorem dX5_warmth_15 : decode cX5_warmth 15 = .ok (.iaload, 1) := by decide +kernel
theorem dX5_warmth_16 : decode cX5_warmth 16 = .ok (.tableswitch 52 2 5 #[32, 41, 52, 50], 32) := by decide +kernel
theorem dX5_warmth_48 : decode cX5_warmth 48 = .ok (.aload_n 0, 1) := by decide +kernel
theorem dX5_warmth_49 : decode cX5_warmth 49 = .ok (.getfield 15, 3) := by decide +kernel
theorem dX5_warmth_52 : decode cX5_warmth 52 = .ok (.iload_n 1, 1) := by decide +kernel
theorem dX5_warmth_53 : decode cX5_warmth 53 = .ok (.iaload, 1) := by decide +kernel
theorem dX5_warmth_54 : decode cX5_warmth 54 = .ok (.iconst 2, 1) := by decide +kernel
theorem dX5_warmth_55 : decode cX5_warmth 55 = .ok (.idiv, 1) := by decide +kernel
theorem dX5_warmth_56 : decode cX5_warmth 56 = .ok (.ireturn, 1) := by decide +kernel
theorem dX5_warmth_57 : decode cX5_warmth 57 = .ok (.aload_n 0, 1) := by decide +kernel
theorem dX5_warmth_58 : decode cX5_warmth 58 = .ok (.getfield 15, 3) := by decide +kernel
theorem dX5_warmth_61 : decode cX5_warmth 61 = .ok (.iload_n 1, 1) := by decide +kernel
theorem dX5_warmth_62 : decode cX5_warmth 62 = .ok (.iaload, 1) := by decide +kernel
theorem dX5_warmth_63 : decode cX5_warmth 63 = .ok (.iconst 2, 1) := by decide +kernel
theorem dX5_warmth_64 : decode cX5_warmth 64 = .ok (.iadd, 1) := by decide +kernel
theorem dX5_warmth_65 : decode cX5_warmth 65 = .ok (.ireturn, 1) := by decide +kernel
theorem dX5_warmth_66 : decode cX5_warmth 66 = .ok (.iconst 0, 1) := by decide +kernel
theorem dX5_warmth_67 : decode cX5_warmth 67 = .ok (.ireturn, 1) := by decide +kernel
theorem dX5_warmth_68 : decode cX5_warmth 68 = .ok (.aload_n 0, 1) := by decide +kernel
theorem dX5_warmth_69 : decode cX5_warmth 69 = .ok (.getfield 15, 3) := by decide +kernel
theorem dX5_warmth_72 : decode cX5_warmth 72 = .ok (.iload_n 1, 1) := by decide +kernel
theorem dX5_warmth_73 : decode cX5_warmth 73 = .ok (.iaload, 1) := by decide +kernel
theorem dX5_warmth_74 : decode cX5_warmth 74 = .ok (.ireturn, 1) := by decide +kernel
theorem dX5_mayLie_0 : decode cX5_mayLie 0 = .ok (.iload_n 2, 1) := by decide +kernel
theorem dX5_mayLie_1 : decode cX5_mayLie 1 = .ok (.iconst (-1), 1) := by decide +kernel
theorem dX5_mayLie_2 : decode cX5_mayLie 2 = .ok (.if_icmp .eq 19, 3) := by decide +kernel
theorem dX5_mayLie_5 : decode cX5_mayLie 5 = .ok (.aload_n 0, 1) := by decide +kernel
theorem dX5_mayLie_6 : decode cX5_mayLie 6 = .ok (.iload_n 2, 1) := by decide +kernel
theorem dX5_mayLie_7 : decode cX5_mayLie 7 = .ok (.invokevirtual 62, 3) := by decide +kernel
theorem dX5_mayLie_10 : decode cX5_mayLie 10 = .ok (.ifCond .ne 11, 3) := by decide +kernel
theorem dX5_mayLie_13 : decode cX5_mayLie 13 = .ok (.iload_n 3, 1) := by decide +kernel
theorem dX5_mayLie_14 : decode cX5_mayLie 14 = .ok (.iload_n 2, 1) := by decide +kernel
theorem dX5_mayLie_15 : decode cX5_mayLie 15 = .ok (.invokestatic 58, 3) := by decide +kernel
theorem dX5_mayLie_18 : decode cX5_mayLie 18 = .ok (.ifCond .eq 5, 3) := by decide +kernel
theorem dX5_mayLie_21 : decode cX5_mayLie 21 = .ok (.iconst 0, 1) := by decide +kernel
theorem dX5_mayLie_22 : decode cX5_mayLie 22 = .ok (.ireturn, 1) := by decide +kernel
theorem dX5_mayLie_23 : decode cX5_mayLie 23 = .ok (.aload_n 0, 1) := by decide +kernel
theorem dX5_mayLie_24 : decode cX5_mayLie 24 = .ok (.getfield 9, 3) := by decide +kernel
theorem dX5_mayLie_27 : decode cX5_mayLie 27 = .ok (.iload_n 2, 1) := by decide +kernel
theorem dX5_mayLie_28 : decode cX5_mayLie 28 = .ok (.iaload, 1) := by decide +kernel
theorem dX5_mayLie_29 : decode cX5_mayLie 29 = .ok (.iconst 5, 1) := by decide +kernel
theorem dX5_mayLie_30 : decode cX5_mayLie 30 = .ok (.if_icmp .ne 5, 3) := by decide +kernel
theorem dX5_mayLie_33 : decode cX5_mayLie 33 = .ok (.iconst 1, 1) := by decide +kernel
theorem dX5_mayLie_34 : decode cX5_mayLie 34 = .ok (.ireturn, 1) := by decide +kernel
theorem dX5_mayLie_35 : decode cX5_mayLie 35 = .ok (.aload_n 0, 1) := by decide +kernel
theorem dX5_mayLie_36 : decode cX5_mayLie 36 = .ok (.getfield 15, 3) := by decide +kernel
theorem dX5_mayLie_39 : decode cX5_mayLie 39 = .ok (.iload_n 2, 1) := by decide +kernel
theorem dX5_mayLie_40 : decode cX5_mayLie 40 = .ok (.iaload, 1) := by decide +kernel
theorem dX5_mayLie_41 : decode cX5_mayLie 41 = .ok (.iconst 2, 1) := by decide +kernel
theorem dX5_mayLie_42 : decode cX5_mayLie 42 = .ok (.irem, 1) := by decide +kernel
theorem dX5_mayLie_43 : decode cX5_mayLie 43 = .ok (.iconst 1, 1) := by decide +kernel
theorem dX5_mayLie_44 : decode cX5_mayLie 44 = .ok (.if_icmp .ne 7, 3) := by decide +kernel
theorem dX5_mayLie_47 : decode cX5_mayLie 47 = .ok (.iconst 1, 1) := by decide +kernel
theorem dX5_mayLie_48 : decode cX5_mayLie 48 = .ok (.goto 4, 3) := by decide +kernel
theorem dX5_mayLie_51 : decode cX5_mayLie 51 = .ok (.iconst 0, 1) := by decide +kernel
theorem dX5_mayLie_52 : decode cX5_mayLie 52 = .ok (.istore 4, 2) := by decide +kernel
theorem dX5_mayLie_54 : decode cX5_mayLie 54 = .ok (.aload_n 0, 1) := by decide +kernel
theorem dX5_mayLie_55 : decode cX5_mayLie 55 = .ok (.getfield 18, 3) := by decide +kernel
theorem dX5_mayLie_58 : decode cX5_mayLie 58 = .ok (.iload_n 2, 1) := by decide +kernel
theorem dX5_mayLie_59 : decode cX5_mayLie 59 = .ok (.iaload, 1) := by decide +kernel
theorem dX5_mayLie_60 : decode cX5_mayLie 60 = .ok (.iload_n 1, 1) := by decide +kernel
theorem dX5_mayLie_61 : decode cX5_mayLie 61 = .ok (.invokestatic 58, 3) := by decide +kernel
theorem dX5_mayLie_64 : decode cX5_mayLie 64 = .ok (.ifCond .eq 22, 3) := by decide +kernel
theorem dX5_mayLie_67 : decode cX5_mayLie 67 = .ok (.aload_n 0, 1) := by decide +kernel
theorem dX5_mayLie_68 : decode cX5_mayLie 68 = .ok (.getfield 9, 3) := by decide +kernel
theorem dX5_mayLie_71 : decode cX5_mayLie 71 = .ok (.iload_n 2, 1) := by decide +kernel
theorem dX5_mayLie_72 : decode cX5_mayLie 72 = .ok (.iaload, 1) := by decide +kernel
theorem dX5_mayLie_73 : decode cX5_mayLie 73 = .ok (.iconst 4, 1) := by decide +kernel
theorem dX5_mayLie_74 : decode cX5_mayLie 74 = .ok (.if_icmp .ne 8, 3) := by decide +kernel
theorem dX5_mayLie_77 : decode cX5_mayLie 77 = .ok (.iload 4, 2) := by decide +kernel
theorem dX5_mayLie_79 : decode cX5_mayLie 79 = .ok (.ifCond .ne 7, 3) := by decide +kernel
theorem dX5_mayLie_82 : decode cX5_mayLie 82 = .ok (.iconst 1, 1) := by decide +kernel
theorem dX5_mayLie_83 : decode cX5_mayLie 83 = .ok (.goto 4, 3) := by decide +kernel
theorem dX5_mayLie_86 : decode cX5_mayLie 86 = .ok (.iconst 0, 1) := by decide +kernel
theorem dX5_mayLie_87 : decode cX5_mayLie 87 = .ok (.ireturn, 1) := by decide +kernel
theorem dX5_liars_0 : decode cX5_liars 0 = .ok (.iconst 0, 1) := by decide +kernel
theorem dX5_liars_1 : decode cX5_liars 1 = .ok (.istore_n 2, 1) := by decide +kernel
theorem dX5_liars_2 : decode cX5_liars 2 = .ok (.iconst 0, 1) := by decide +kernel
theorem dX5_liars_3 : decode cX5_liars 3 = .ok (.istore_n 3, 1) := by decide +kernel
theorem dX5_liars_4 : decode cX5_liars 4 = .ok (.iload_n 3, 1) := by decide +kernel
theorem dX5_liars_5 : decode cX5_liars 5 = .ok (.aload_n 0, 1) := by decide +kernel
theorem dX5_liars_6 : decode cX5_liars 6 = .ok (.getfield 33, 3) := by decide +kernel
theorem dX5_liars_9 : decode cX5_liars 9 = .ok (.if_icmp .ge 25, 3) := by decide +kernel
theorem dX5_liars_12 : decode cX5_liars 12 = .ok (.aload_n 0, 1) := by decide +kernel
theorem dX5_liars_13 : decode cX5_liars 13 = .ok (.iload_n 3, 1) := by decide +kernel
theorem dX5_liars_14 : decode cX5_liars 14 = .ok (.iload_n 1, 1) := by decide +kernel
theorem dX5_liars_15 : decode cX5_liars 15 = .ok (.iconst 0, 1) := by decide +kernel
theorem dX5_liars_16 : decode cX5_liars 16 = .ok (.invokevirtual 66, 3) := by decide +kernel
theorem dX5_liars_19 : decode cX5_liars 19 = .ok (.ifCond .eq 9, 3) := by decide +kernel
theorem dX5_liars_22 : decode cX5_liars 22 = .ok (.iload_n 2, 1) := by decide +kernel
theorem dX5_liars_23 : decode cX5_liars 23 = .ok (.iconst 1, 1) := by decide +kernel
theorem dX5_liars_24 : decode cX5_liars 24 = .ok (.iload_n 3, 1) := by decide +kernel
theorem dX5_liars_25 : decode cX5_liars 25 = .ok (.ishl, 1) := by decide +kernel
theorem dX5_liars_26 : decode cX5_liars 26 = .ok (.ior, 1) := by decide +kernel
theorem dX5_liars_27 : decode cX5_liars 27 = .ok (.istore_n 2, 1) := by decide +kernel
theorem dX5_liars_28 : decode cX5_liars 28 = .ok (.iinc 3 1, 3) := by decide +kernel
theorem dX5_liars_31 : decode cX5_liars 31 = .ok (.goto (-27), 3) := by decide +kernel
theorem dX5_liars_34 : decode cX5_liars 34 = .ok (.iload_n 2, 1) := by decide +kernel
theorem dX5_liars_35 : decode cX5_liars 35 = .ok (.ireturn, 1) := by decide +kernel
theorem dX5_isBound_0 : decode cX5_isBound 0 = .ok (.aload_n 0, 1) := by decide +kernel
theorem dX5_isBound_1 : decode cX5_isBound 1 = .ok (.aload_n 0, 1) := by decide +kernel
theorem dX5_isBound_2 : decode cX5_isBound 2 = .ok (.getfield 21, 3) := by decide +kernel
theorem dX5_isBound_5 : decode cX5_isBound 5 = .ok (.iload_n 1, 1) := by decide +kernel
theorem dX5_isBound_6 : decode cX5_isBound 6 = .ok (.iaload, 1) := by decide +kernel
theorem dX5_isBound_7 : decode cX5_isBound 7 = .ok (.aload_n 0, 1) := by decide +kernel
theorem dX5_isBound_8 : decode cX5_isBound 8 = .ok (.getfield 24, 3) := by decide +kernel
theorem dX5_isBound_11 : decode cX5_isBound 11 = .ok (.iload_n 1, 1) := by decide +kernel
theorem dX5_isBound_12 : decode cX5_isBound 12 = .ok (.iaload, 1) := by decide +kernel
theorem dX5_isBound_13 : decode cX5_isBound 13 = .ok (.iload_n 2, 1) := by decide +kernel
theorem dX5_isBound_14 : decode cX5_isBound 14 = .ok (.invokevirtual 66, 3) := by decide +kernel
theorem dX5_isBound_17 : decode cX5_isBound 17 = .ok (.ifCond .ne 7, 3) := by decide +kernel
theorem dX5_isBound_20 : decode cX5_isBound 20 = .ok (.iconst 1, 1) := by decide +kernel
theorem dX5_isBound_21 : decode cX5_isBound 21 = .ok (.goto 4, 3) := by decide +kernel
theorem dX5_isBound_24 : decode cX5_isBound 24 = .ok (.iconst 0, 1) := by decide +kernel
theorem dX5_isBound_25 : decode cX5_isBound 25 = .ok (.ireturn, 1) := by decide +kernel
theorem dX5_countBound_0 : decode cX5_countBound 0 = .ok (.iconst 0, 1) := by decide +kernel
theorem dX5_countBound_1 : decode cX5_countBound 1 = .ok (.istore_n 1, 1) := by decide +kernel
theorem dX5_countBound_2 : decode cX5_countBound 2 = .ok (.iconst 0, 1) := by decide +kernel
theorem dX5_countBound_3 : decode cX5_countBound 3 = .ok (.istore_n 2, 1) := by decide +kernel
theorem dX5_countBound_4 : decode cX5_countBound 4 = .ok (.iload_n 2, 1) := by decide +kernel
theorem dX5_countBound_5 : decode cX5_countBound 5 = .ok (.aload_n 0, 1) := by decide +kernel
theorem dX5_countBound_6 : decode cX5_countBound 6 = .ok (.getfield 49, 3) := by decide +kernel
theorem dX5_countBound_9 : decode cX5_countBound 9 = .ok (.if_icmp .ge 21, 3) := by decide +kernel
theorem dX5_countBound_12 : decode cX5_countBound 12 = .ok (.aload_n 0, 1) := by decide +kernel
theorem dX5_countBound_13 : decode cX5_countBound 13 = .ok (.iload_n 2, 1) := by decide +kernel
theorem dX5_countBound_14 : decode cX5_countBound 14 = .ok (.iconst 0, 1) := by decide +kernel
theorem dX5_countBound_15 : decode cX5_countBound 15 = .ok (.invokevirtual 70, 3) := by decide +kernel
theorem dX5_countBound_18 : decode cX5_countBound 18 = .ok (.ifCond .eq 6, 3) := by decide +kernel
theorem dX5_countBound_21 : decode cX5_countBound 21 = .ok (.iinc 1 1, 3) := by decide +kernel
theorem dX5_countBound_24 : decode cX5_countBound 24 = .ok (.iinc 2 1, 3) := by decide +kernel
theorem dX5_countBound_27 : decode cX5_countBound 27 = .ok (.goto (-23), 3) := by decide +kernel
theorem dX5_countBound_30 : decode cX5_countBound 30 = .ok (.iload_n 1, 1) := by decide +kernel
theorem dX5_countBound_31 : decode cX5_countBound 31 = .ok (.ireturn, 1) := by decide +kernel
theorem dX5_factsSaid_0 : decode cX5_factsSaid 0 = .ok (.iconst 0, 1) := by decide +kernel
theorem dX5_factsSaid_1 : decode cX5_factsSaid 1 = .ok (.istore_n 3, 1) := by decide +kernel
theorem dX5_factsSaid_2 : decode cX5_factsSaid 2 = .ok (.iconst 0, 1) := by decide +kernel
theorem dX5_factsSaid_3 : decode cX5_factsSaid 3 = .ok (.istore 4, 2) := by decide +kernel
theorem dX5_factsSaid_5 : decode cX5_factsSaid 5 = .ok (.iload 4, 2) := by decide +kernel
theorem dX5_factsSaid_7 : decode cX5_factsSaid 7 = .ok (.aload_n 0, 1) := by decide +kernel
theorem dX5_factsSaid_8 : decode cX5_factsSaid 8 = .ok (.getfield 49, 3) := by decide +kernel
theorem dX5_factsSaid_11 : decode cX5_factsSaid 11 = .ok (.if_icmp .ge 42, 3) := by decide +kernel
theorem dX5_factsSaid_14 : decode cX5_factsSaid 14 = .ok (.aload_n 0, 1) := by decide +kernel
theorem dX5_factsSaid_15 : decode cX5_factsSaid 15 = .ok (.getfield 30, 3) := by decide +kernel
theorem dX5_factsSaid_18 : decode cX5_factsSaid 18 = .ok (.iload 4, 2) := by decide +kernel
theorem dX5_factsSaid_20 : decode cX5_factsSaid 20 = .ok (.iaload, 1) := by decide +kernel
theorem dX5_factsSaid_21 : decode cX5_factsSaid 21 = .ok (.iload_n 1, 1) := by decide +kernel
theorem dX5_factsSaid_22 : decode cX5_factsSaid 22 = .ok (.if_icmp .ne 25, 3) := by decide +kernel
theorem dX5_factsSaid_25 : decode cX5_factsSaid 25 = .ok (.aload_n 0, 1) := by decide +kernel
theorem dX5_factsSaid_26 : decode cX5_factsSaid 26 = .ok (.iload 4, 2) := by decide +kernel
theorem dX5_factsSaid_28 : decode cX5_factsSaid 28 = .ok (.iload_n 2, 1) := by decide +kernel
theorem dX5_factsSaid_29 : decode cX5_factsSaid 29 = .ok (.invokevirtual 70, 3) := by decide +kernel
theorem dX5_factsSaid_32 : decode cX5_factsSaid 32 = .ok (.ifCond .eq 15, 3) := by decide +kernel
theorem dX5_factsSaid_35 : decode cX5_factsSaid 35 = .ok (.iload_n 3, 1) := by decide +kernel
theorem dX5_factsSaid_36 : decode cX5_factsSaid 36 = .ok (.iconst 1, 1) := by decide +kernel
theorem dX5_factsSaid_37 : decode cX5_factsSaid 37 = .ok (.aload_n 0, 1) := by decide +kernel
theorem dX5_factsSaid_38 : decode cX5_factsSaid 38 = .ok (.getfield 27, 3) := by decide +kernel
theorem dX5_factsSaid_41 : decode cX5_factsSaid 41 = .ok (.iload 4, 2) := by decide +kernel
theorem dX5_factsSaid_43 : decode cX5_factsSaid 43 = .ok (.iaload, 1) := by decide +kernel
theorem dX5_factsSaid_44 : decode cX5_factsSaid 44 = .ok (.ishl, 1) := by decide +kernel
theorem dX5_factsSaid_45 : decode cX5_factsSaid 45 = .ok (.ior, 1) := by decide +kernel
theorem dX5_factsSaid_46 : decode cX5_factsSaid 46 = .ok (.istore_n 3, 1) := by decide +kernel
theorem dX5_factsSaid_47 : decode cX5_factsSaid 47 = .ok (.iinc 4 1, 3) := by decide +kernel
theorem dX5_factsSaid_50 : decode cX5_factsSaid 50 = .ok (.goto (-45), 3) := by decide +kernel
theorem dX5_factsSaid_53 : decode cX5_factsSaid 53 = .ok (.iload_n 3, 1) := by decide +kernel
theorem dX5_factsSaid_54 : decode cX5_factsSaid 54 = .ok (.ireturn, 1) := by decide +kernel
theorem dX5_knowledge_0 : decode cX5_knowledge 0 = .ok (.aload_n 0, 1) := by decide +kernel
theorem dX5_knowledge_1 : decode cX5_knowledge 1 = .ok (.iconst 1, 1) := by decide +kernel
theorem dX5_knowledge_2 : decode cX5_knowledge 2 = .ok (.iconst 0, 1) := by decide +kernel
theorem dX5_knowledge_3 : decode cX5_knowledge 3 = .ok (.invokevirtual 73, 3) := by decide +kernel
theorem dX5_knowledge_6 : decode cX5_knowledge 6 = .ok (.iload_n 1, 1) := by decide +kernel
theorem dX5_knowledge_7 : decode cX5_knowledge 7 = .ok (.invokestatic 58, 3) := by decide +kernel
theorem dX5_knowledge_10 : decode cX5_knowledge 10 = .ok (.istore_n 2, 1) := by decide +kernel
theorem dX5_knowledge_11 : decode cX5_knowledge 11 = .ok (.aload_n 0, 1) := by decide +kernel
theorem dX5_knowledge_12 : decode cX5_knowledge 12 = .ok (.iconst 0, 1) := by decide +kernel
theorem dX5_knowledge_13 : decode cX5_knowledge 13 = .ok (.iconst 0, 1) := by decide +kernel
theorem dX5_knowledge_14 : decode cX5_knowledge 14 = .ok (.invokevirtual 73, 3) := by decide +kernel
theorem dX5_knowledge_17 : decode cX5_knowledge 17 = .ok (.iload_n 1, 1) := by decide +kernel
theorem dX5_knowledge_18 : decode cX5_knowledge 18 = .ok (.invokestatic 58, 3) := by decide +kernel
theorem dX5_knowledge_21 : decode cX5_knowledge 21 = .ok (.istore_n 3, 1) := by decide +kernel
theorem dX5_knowledge_22 : decode cX5_knowledge 22 = .ok (.iload_n 2, 1) := by decide +kernel
theorem dX5_knowledge_23 : decode cX5_knowledge 23 = .ok (.ifCond .eq 14, 3) := by decide +kernel
theorem dX5_knowledge_26 : decode cX5_knowledge 26 = .ok (.iload_n 3, 1) := by decide +kernel
theorem dX5_knowledge_27 : decode cX5_knowledge 27 = .ok (.ifCond .eq 8, 3) := by decide +kernel
theorem dX5_knowledge_30 : decode cX5_knowledge 30 = .ok (.bipush (-2), 2) := by decide +kernel
theorem dX5_knowledge_32 : decode cX5_knowledge 32 = .ok (.goto 4, 3) := by decide +kernel
theorem dX5_knowledge_35 : decode cX5_knowledge 35 = .ok (.iconst 1, 1) := by decide +kernel
theorem dX5_knowledge_36 : decode cX5_knowledge 36 = .ok (.ireturn, 1) := by decide +kernel
theorem dX5_knowledge_37 : decode cX5_knowledge 37 = .ok (.iload_n 3, 1) := by decide +kernel
theorem dX5_knowledge_38 : decode cX5_knowledge 38 = .ok (.ifCond .eq 7, 3) := by decide +kernel
theorem dX5_knowledge_41 : decode cX5_knowledge 41 = .ok (.iconst 0, 1) := by decide +kernel
theorem dX5_knowledge_42 : decode cX5_knowledge 42 = .ok (.goto 4, 3) := by decide +kernel
theorem dX5_knowledge_45 : decode cX5_knowledge 45 = .ok (.iconst (-1), 1) := by decide +kernel
theorem dX5_knowledge_46 : decode cX5_knowledge 46 = .ok (.ireturn, 1) := by decide +kernel
theorem dX5_possibleWorlds_0 : decode cX5_possibleWorlds 0 = .ok (.aload_n 0, 1) := by decide +kernel
theorem dX5_possibleWorlds_1 : decode cX5_possibleWorlds 1 = .ok (.iconst 1, 1) := by decide +kernel
theorem dX5_possibleWorlds_2 : decode cX5_possibleWorlds 2 = .ok (.iconst 0, 1) := by decide +kernel
theorem dX5_possibleWorlds_3 : decode cX5_possibleWorlds 3 = .ok (.invokevirtual 73, 3) := by decide +kernel
theorem dX5_possibleWorlds_6 : decode cX5_possibleWorlds 6 = .ok (.istore_n 1, 1) := by decide +kernel
theorem dX5_possibleWorlds_7 : decode cX5_possibleWorlds 7 = .ok (.aload_n 0, 1) := by decide +kernel
theorem dX5_possibleWorlds_8 : decode cX5_possibleWorlds 8 = .ok (.iconst 0, 1) := by decide +kernel
theorem dX5_possibleWorlds_9 : decode cX5_possibleWorlds 9 = .ok (.iconst 0, 1) := by decide +kernel
theorem dX5_possibleWorlds_10 : decode cX5_possibleWorlds 10 = .ok (.invokevirtual 73, 3) := by decide +kernel
theorem dX5_possibleWorlds_13 : decode cX5_possibleWorlds 13 = .ok (.istore_n 2, 1) := by decide +kernel
theorem dX5_possibleWorlds_14 : decode cX5_possibleWorlds 14 = .ok (.iload_n 1, 1) := by decide +kernel
theorem dX5_possibleWorlds_15 : decode cX5_possibleWorlds 15 = .ok (.iload_n 2, 1) := by decide +kernel
theorem dX5_possibleWorlds_16 : decode cX5_possibleWorlds 16 = .ok (.iand, 1) := by decide +kernel
theorem dX5_possibleWorlds_17 : decode cX5_possibleWorlds 17 = .ok (.ifCond .eq 7, 3) := by decide +kernel
theorem dX5_possibleWorlds_20 : decode cX5_possibleWorlds 20 = .ok (.iconst 0, 1) := by decide +kernel
theorem dX5_possibleWorlds_21 : decode cX5_possibleWorlds 21 = .ok (.goto 16, 3) := by decide +kernel
theorem dX5_possibleWorlds_24 : decode cX5_possibleWorlds 24 = .ok (.iconst 1, 1) := by decide +kernel
theorem dX5_possibleWorlds_25 : decode cX5_possibleWorlds 25 = .ok (.aload_n 0, 1) := by decide +kernel
theorem dX5_possibleWorlds_26 : decode cX5_possibleWorlds 26 = .ok (.getfield 37, 3) := by decide +kernel
theorem dX5_possibleWorlds_29 : decode cX5_possibleWorlds 29 = .ok (.iload_n 1, 1) := by decide +kernel
theorem dX5_possibleWorlds_30 : decode cX5_possibleWorlds 30 = .ok (.iload_n 2, 1) := by decide +kernel
theorem dX5_possibleWorlds_31 : decode cX5_possibleWorlds 31 = .ok (.ior, 1) := by decide +kernel
theorem dX5_possibleWorlds_32 : decode cX5_possibleWorlds 32 = .ok (.invokestatic 76, 3) := by decide +kernel
theorem dX5_possibleWorlds_35 : decode cX5_possibleWorlds 35 = .ok (.isub, 1) := by decide +kernel
theorem dX5_possibleWorlds_36 : decode cX5_possibleWorlds 36 = .ok (.ishl, 1) := by decide +kernel
theorem dX5_possibleWorlds_37 : decode cX5_possibleWorlds 37 = .ok (.ireturn, 1) := by decide +kernel
theorem dX5_lies_0 : decode cX5_lies 0 = .ok (.aload_n 0, 1) := by decide +kernel
theorem dX5_lies_1 : decode cX5_lies 1 = .ok (.invokevirtual 82, 3) := by decide +kernel
theorem dX5_lies_4 : decode cX5_lies 4 = .ok (.ifCond .ne 5, 3) := by decide +kernel
theorem dX5_lies_7 : decode cX5_lies 7 = .ok (.iconst 0, 1) := by decide +kernel
theorem dX5_lies_8 : decode cX5_lies 8 = .ok (.ireturn, 1) := by decide +kernel
theorem dX5_lies_9 : decode cX5_lies 9 = .ok (.aload_n 0, 1) := by decide +kernel
theorem dX5_lies_10 : decode cX5_lies 10 = .ok (.iconst 1, 1) := by decide +kernel
theorem dX5_lies_11 : decode cX5_lies 11 = .ok (.iconst 0, 1) := by decide +kernel
theorem dX5_lies_12 : decode cX5_lies 12 = .ok (.invokevirtual 73, 3) := by decide +kernel
theorem dX5_lies_15 : decode cX5_lies 15 = .ok (.istore_n 1, 1) := by decide +kernel
theorem dX5_lies_16 : decode cX5_lies 16 = .ok (.aload_n 0, 1) := by decide +kernel
theorem dX5_lies_17 : decode cX5_lies 17 = .ok (.iconst 0, 1) := by decide +kernel
theorem dX5_lies_18 : decode cX5_lies 18 = .ok (.iconst 0, 1) := by decide +kernel
theorem dX5_lies_19 : decode cX5_lies 19 = .ok (.invokevirtual 73, 3) := by decide +kernel
theorem dX5_lies_22 : decode cX5_lies 22 = .ok (.istore_n 2, 1) := by decide +kernel
theorem dX5_lies_23 : decode cX5_lies 23 = .ok (.iconst 0, 1) := by decide +kernel
theorem dX5_lies_24 : decode cX5_lies 24 = .ok (.istore_n 3, 1) := by decide +kernel
theorem dX5_lies_25 : decode cX5_lies 25 = .ok (.iconst 0, 1) := by decide +kernel
theorem dX5_lies_26 : decode cX5_lies 26 = .ok (.istore 4, 2) := by decide +kernel
theorem dX5_lies_28 : decode cX5_lies 28 = .ok (.iload 4, 2) := by decide +kernel
theorem dX5_lies_30 : decode cX5_lies 30 = .ok (.aload_n 0, 1) := by decide +kernel
theorem dX5_lies_31 : decode cX5_lies 31 = .ok (.getfield 49, 3) := by decide +kernel
theorem dX5_lies_34 : decode cX5_lies 34 = .ok (.if_icmp .ge 55, 3) := by decide +kernel
theorem dX5_lies_37 : decode cX5_lies 37 = .ok (.aload_n 0, 1) := by decide +kernel
theorem dX5_lies_38 : decode cX5_lies 38 = .ok (.iload 4, 2) := by decide +kernel
theorem dX5_lies_40 : decode cX5_lies 40 = .ok (.iconst 0, 1) := by decide +kernel
theorem dX5_lies_41 : decode cX5_lies 41 = .ok (.invokevirtual 70, 3) := by decide +kernel
theorem dX5_lies_44 : decode cX5_lies 44 = .ok (.ifCond .ne 39, 3) := by decide +kernel
theorem dX5_lies_47 : decode cX5_lies 47 = .ok (.aload_n 0, 1) := by decide +kernel
theorem dX5_lies_48 : decode cX5_lies 48 = .ok (.getfield 30, 3) := by decide +kernel
theorem dX5_lies_51 : decode cX5_lies 51 = .ok (.iload 4, 2) := by decide +kernel
theorem dX5_lies_53 : decode cX5_lies 53 = .ok (.iaload, 1) := by decide +kernel
theorem dX5_lies_54 : decode cX5_lies 54 = .ok (.iconst 1, 1) := by decide +kernel
theorem dX5_lies_55 : decode cX5_lies 55 = .ok (.if_icmp .ne 7, 3) := by decide +kernel
theorem dX5_lies_58 : decode cX5_lies 58 = .ok (.iload_n 2, 1) := by decide +kernel
theorem dX5_lies_59 : decode cX5_lies 59 = .ok (.goto 4, 3) := by decide +kernel
theorem dX5_lies_62 : decode cX5_lies 62 = .ok (.iload_n 1, 1) := by decide +kernel
theorem dX5_lies_63 : decode cX5_lies 63 = .ok (.aload_n 0, 1) := by decide +kernel
theorem dX5_lies_64 : decode cX5_lies 64 = .ok (.getfield 27, 3) := by decide +kernel
theorem dX5_lies_67 : decode cX5_lies 67 = .ok (.iload 4, 2) := by decide +kernel
theorem dX5_lies_69 : decode cX5_lies 69 = .ok (.iaload, 1) := by decide +kernel
theorem dX5_lies_70 : decode cX5_lies 70 = .ok (.invokestatic 58, 3) := by decide +kernel
theorem dX5_lies_73 : decode cX5_lies 73 = .ok (.ifCond .eq 10, 3) := by decide +kernel
theorem dX5_lies_76 : decode cX5_lies 76 = .ok (.iload_n 3, 1) := by decide +kernel
theorem dX5_lies_77 : decode cX5_lies 77 = .ok (.iconst 1, 1) := by decide +kernel
theorem dX5_lies_78 : decode cX5_lies 78 = .ok (.iload 4, 2) := by decide +kernel
theorem dX5_lies_80 : decode cX5_lies 80 = .ok (.ishl, 1) := by decide +kernel
theorem dX5_lies_81 : decode cX5_lies 81 = .ok (.ior, 1) := by decide +kernel
theorem dX5_lies_82 : decode cX5_lies 82 = .ok (.istore_n 3, 1) := by decide +kernel
theorem dX5_lies_83 : decode cX5_lies 83 = .ok (.iinc 4 1, 3) := by decide +kernel
theorem dX5_lies_86 : decode cX5_lies 86 = .ok (.goto (-58), 3) := by decide +kernel
theorem dX5_lies_89 : decode cX5_lies 89 = .ok (.iload_n 3, 1) := by decide +kernel
theorem dX5_lies_90 : decode cX5_lies 90 = .ok (.ireturn, 1) := by decide +kernel
theorem dX5_fewestToUnpick_0 : decode cX5_fewestToUnpick 0 = .ok (.ldc 86, 2) := by decide +kernel
theorem dX5_fewestToUnpick_2 : decode cX5_fewestToUnpick 2 = .ok (.istore_n 2, 1) := by decide +kernel
theorem dX5_fewestToUnpick_3 : decode cX5_fewestToUnpick 3 = .ok (.iconst 0, 1) := by decide +kernel
theorem dX5_fewestToUnpick_4 : decode cX5_fewestToUnpick 4 = .ok (.istore_n 3, 1) := by decide +kernel
theorem dX5_fewestToUnpick_5 : decode cX5_fewestToUnpick 5 = .ok (.iconst 0, 1) := by decide +kernel
theorem dX5_fewestToUnpick_6 : decode cX5_fewestToUnpick 6 = .ok (.istore 4, 2) := by decide +kernel
theorem dX5_fewestToUnpick_8 : decode cX5_fewestToUnpick 8 = .ok (.iload 4, 2) := by decide +kernel
theorem dX5_fewestToUnpick_10 : decode cX5_fewestToUnpick 10 = .ok (.iconst 1, 1) := by decide +kernel
theorem dX5_fewestToUnpick_11 : decode cX5_fewestToUnpick 11 = .ok (.aload_n 0, 1) := by decide +kernel
theorem dX5_fewestToUnpick_12 : decode cX5_fewestToUnpick 12 = .ok (.getfield 40, 3) := by decide +kernel
theorem dX5_fewestToUnpick_15 : decode cX5_fewestToUnpick 15 = .ok (.ishl, 1) := by decide +kernel
theorem dX5_fewestToUnpick_16 : decode cX5_fewestToUnpick 16 = .ok (.if_icmp .ge 45, 3) := by decide +kernel
theorem dX5_fewestToUnpick_19 : decode cX5_fewestToUnpick 19 = .ok (.aload_n 0, 1) := by decide +kernel
theorem dX5_fewestToUnpick_20 : decode cX5_fewestToUnpick 20 = .ok (.iload 4, 2) := by decide +kernel
theorem dX5_fewestToUnpick_22 : decode cX5_fewestToUnpick 22 = .ok (.invokevirtual 87, 3) := by decide +kernel
theorem dX5_fewestToUnpick_25 : decode cX5_fewestToUnpick 25 = .ok (.istore 5, 2) := by decide +kernel
theorem dX5_fewestToUnpick_27 : decode cX5_fewestToUnpick 27 = .ok (.iload_n 2, 1) := by decide +kernel
theorem dX5_fewestToUnpick_28 : decode cX5_fewestToUnpick 28 = .ok (.ldc 86, 2) := by decide +kernel
theorem dX5_fewestToUnpick_30 : decode cX5_fewestToUnpick 30 = .ok (.if_icmp .eq 9, 3) := by decide +kernel
theorem dX5_fewestToUnpick_33 : decode cX5_fewestToUnpick 33 = .ok (.iload 5, 2) := by decide +kernel
theorem dX5_fewestToUnpick_35 : decode cX5_fewestToUnpick 35 = .ok (.iload_n 3, 1) := by decide +kernel
theorem dX5_fewestToUnpick_36 : decode cX5_fewestToUnpick 36 = .ok (.if_icmp .ge 19, 3) := by decide +kernel
theorem dX5_fewestToUnpick_39 : decode cX5_fewestToUnpick 39 = .ok (.aload_n 0, 1) := by decide +kernel
theorem dX5_fewestToUnpick_40 : decode cX5_fewestToUnpick 40 = .ok (.iload_n 1, 1) := by decide +kernel
theorem dX5_fewestToUnpick_41 : decode cX5_fewestToUnpick 41 = .ok (.iload 4, 2) := by decide +kernel
theorem dX5_fewestToUnpick_43 : decode cX5_fewestToUnpick 43 = .ok (.invokevirtual 90, 3) := by decide +kernel
theorem dX5_fewestToUnpick_46 : decode cX5_fewestToUnpick 46 = .ok (.ifCond .eq 9, 3) := by decide +kernel
theorem dX5_fewestToUnpick_49 : decode cX5_fewestToUnpick 49 = .ok (.iload 4, 2) := by decide +kernel
theorem dX5_fewestToUnpick_51 : decode cX5_fewestToUnpick 51 = .ok (.istore_n 2, 1) := by decide +kernel
theorem dX5_fewestToUnpick_52 : decode cX5_fewestToUnpick 52 = .ok (.iload 5, 2) := by decide +kernel
theorem dX5_fewestToUnpick_54 : decode cX5_fewestToUnpick 54 = .ok (.istore_n 3, 1) := by decide +kernel
theorem dX5_fewestToUnpick_55 : decode cX5_fewestToUnpick 55 = .ok (.iinc 4 1, 3) := by decide +kernel
theorem dX5_fewestToUnpick_58 : decode cX5_fewestToUnpick 58 = .ok (.goto (-50), 3) := by decide +kernel
theorem dX5_fewestToUnpick_61 : decode cX5_fewestToUnpick 61 = .ok (.iload_n 2, 1) := by decide +kernel
theorem dX5_fewestToUnpick_62 : decode cX5_fewestToUnpick 62 = .ok (.ireturn, 1) := by decide +kernel
theorem dX5_comesOut_0 : decode cX5_comesOut 0 = .ok (.aload_n 0, 1) := by decide +kernel
theorem dX5_comesOut_1 : decode cX5_comesOut 1 = .ok (.iconst 1, 1) := by decide +kernel
theorem dX5_comesOut_2 : decode cX5_comesOut 2 = .ok (.iload_n 2, 1) := by decide +kernel
theorem dX5_comesOut_3 : decode cX5_comesOut 3 = .ok (.invokevirtual 73, 3) := by decide +kernel
theorem dX5_comesOut_6 : decode cX5_comesOut 6 = .ok (.istore_n 3, 1) := by decide +kernel
theorem dX5_comesOut_7 : decode cX5_comesOut 7 = .ok (.aload_n 0, 1) := by decide +kernel
theorem dX5_comesOut_8 : decode cX5_comesOut 8 = .ok (.iconst 0, 1) := by decide +kernel
theorem dX5_comesOut_9 : decode cX5_comesOut 9 = .ok (.iload_n 2, 1) := by decide +kernel
theorem dX5_comesOut_10 : decode cX5_comesOut 10 = .ok (.invokevirtual 73, 3) := by decide +kernel
theorem dX5_comesOut_13 : decode cX5_comesOut 13 = .ok (.istore 4, 2) := by decide +kernel
theorem dX5_comesOut_15 : decode cX5_comesOut 15 = .ok (.iload_n 3, 1) := by decide +kernel
theorem dX5_comesOut_16 : decode cX5_comesOut 16 = .ok (.iload 4, 2) := by decide +kernel
theorem dX5_comesOut_18 : decode cX5_comesOut 18 = .ok (.iand, 1) := by decide +kernel
theorem dX5_comesOut_19 : decode cX5_comesOut 19 = .ok (.ifCond .ne 18, 3) := by decide +kernel
theorem dX5_comesOut_22 : decode cX5_comesOut 22 = .ok (.iload_n 3, 1) := by decide +kernel
theorem dX5_comesOut_23 : decode cX5_comesOut 23 = .ok (.iload 4, 2) := by decide +kernel
theorem dX5_comesOut_25 : decode cX5_comesOut 25 = .ok (.ior, 1) := by decide +kernel
theorem dX5_comesOut_26 : decode cX5_comesOut 26 = .ok (.iload_n 1, 1) := by decide +kernel
theorem dX5_comesOut_27 : decode cX5_comesOut 27 = .ok (.invokestatic 58, 3) := by decide +kernel
theorem dX5_comesOut_30 : decode cX5_comesOut 30 = .ok (.ifCond .eq 7, 3) := by decide +kernel
theorem dX5_comesOut_33 : decode cX5_comesOut 33 = .ok (.iconst 1, 1) := by decide +kernel
theorem dX5_comesOut_34 : decode cX5_comesOut 34 = .ok (.goto 4, 3) := by decide +kernel
theorem dX5_comesOut_37 : decode cX5_comesOut 37 = .ok (.iconst 0, 1) := by decide +kernel
theorem dX5_comesOut_38 : decode cX5_comesOut 38 = .ok (.ireturn, 1) := by decide +kernel
theorem dX5_firstContradiction_0 : decode cX5_firstContradiction 0 = .ok (.iconst 0, 1) := by decide +kernel
theorem dX5_firstContradiction_1 : decode cX5_firstContradiction 1 = .ok (.istore_n 1, 1) := by decide +kernel
theorem dX5_firstContradiction_2 : decode cX5_firstContradiction 2 = .ok (.iload_n 1, 1) := by decide +kernel
theorem dX5_firstContradiction_3 : decode cX5_firstContradiction 3 = .ok (.aload_n 0, 1) := by decide +kernel
theorem dX5_firstContradiction_4 : decode cX5_firstContradiction 4 = .ok (.getfield 49, 3) := by decide +kernel
theorem dX5_firstContradiction_7 : decode cX5_firstContradiction 7 = .ok (.if_icmp .ge 82, 3) := by decide +kernel
theorem dX5_firstContradiction_10 : decode cX5_firstContradiction 10 = .ok (.iconst 0, 1) := by decide +kernel
theorem dX5_firstContradiction_11 : decode cX5_firstContradiction 11 = .ok (.istore_n 2, 1) := by decide +kernel
theorem dX5_firstContradiction_12 : decode cX5_firstContradiction 12 = .ok (.iload_n 2, 1) := by decide +kernel
theorem dX5_firstContradiction_13 : decode cX5_firstContradiction 13 = .ok (.iload_n 1, 1) := by decide +kernel
theorem dX5_firstContradiction_14 : decode cX5_firstContradiction 14 = .ok (.if_icmp .ge 69, 3) := by decide +kernel
theorem dX5_firstContradiction_17 : decode cX5_firstContradiction 17 = .ok (.aload_n 0, 1) := by decide +kernel
theorem dX5_firstContradiction_18 : decode cX5_firstContradiction 18 = .ok (.getfield 27, 3) := by decide +kernel
theorem dX5_firstContradiction_21 : decode cX5_firstContradiction 21 = .ok (.iload_n 2, 1) := by decide +kernel
theorem dX5_firstContradiction_22 : decode cX5_firstContradiction 22 = .ok (.iaload, 1) := by decide +kernel
theorem dX5_firstContradiction_23 : decode cX5_firstContradiction 23 = .ok (.aload_n 0, 1) := by decide +kernel
theorem dX5_firstContradiction_24 : decode cX5_firstContradiction 24 = .ok (.getfield 27, 3) := by decide +kernel
theorem dX5_firstContradiction_27 : decode cX5_firstContradiction 27 = .ok (.iload_n 1, 1) := by decide +kernel
theorem dX5_firstContradiction_28 : decode cX5_firstContradiction 28 = .ok (.iaload, 1) := by decide +kernel
theorem dX5_firstContradiction_29 : decode cX5_firstContradiction 29 = .ok (.if_icmp .ne 22, 3) := by decide +kernel
theorem dX5_firstContradiction_32 : decode cX5_firstContradiction 32 = .ok (.aload_n 0, 1) := by decide +kernel
theorem dX5_firstContradiction_33 : decode cX5_firstContradiction 33 = .ok (.getfield 30, 3) := by decide +kernel
theorem dX5_firstContradiction_36 : decode cX5_firstContradiction 36 = .ok (.iload_n 2, 1) := by decide +kernel
theorem dX5_firstContradiction_37 : decode cX5_firstContradiction 37 = .ok (.iaload, 1) := by decide +kernel
theorem dX5_firstContradiction_38 : decode cX5_firstContradiction 38 = .ok (.aload_n 0, 1) := by decide +kernel
theorem dX5_firstContradiction_39 : decode cX5_firstContradiction 39 = .ok (.getfield 30, 3) := by decide +kernel
theorem dX5_firstContradiction_42 : decode cX5_firstContradiction 42 = .ok (.iload_n 1, 1) := by decide +kernel
theorem dX5_firstContradiction_43 : decode cX5_firstContradiction 43 = .ok (.iaload, 1) := by decide +kernel
theorem dX5_firstContradiction_44 : decode cX5_firstContradiction 44 = .ok (.if_icmp .eq 7, 3) := by decide +kernel
theorem dX5_firstContradiction_47 : decode cX5_firstContradiction 47 = .ok (.iconst 1, 1) := by decide +kernel
theorem dX5_firstContradiction_48 : decode cX5_firstContradiction 48 = .ok (.goto 4, 3) := by decide +kernel
theorem dX5_firstContradiction_51 : decode cX5_firstContradiction 51 = .ok (.iconst 0, 1) := by decide +kernel
theorem dX5_firstContradiction_52 : decode cX5_firstContradiction 52 = .ok (.istore_n 3, 1) := by decide +kernel
theorem dX5_firstContradiction_53 : decode cX5_firstContradiction 53 = .ok (.iload_n 3, 1) := by decide +kernel
theorem dX5_firstContradiction_54 : decode cX5_firstContradiction 54 = .ok (.ifCond .eq 23, 3) := by decide +kernel
theorem dX5_firstContradiction_57 : decode cX5_firstContradiction 57 = .ok (.aload_n 0, 1) := by decide +kernel
theorem dX5_firstContradiction_58 : decode cX5_firstContradiction 58 = .ok (.iload_n 2, 1) := by decide +kernel
theorem dX5_firstContradiction_59 : decode cX5_firstContradiction 59 = .ok (.iconst 0, 1) := by decide +kernel
theorem dX5_firstContradiction_60 : decode cX5_firstContradiction 60 = .ok (.invokevirtual 70, 3) := by decide +kernel
theorem dX5_firstContradiction_63 : decode cX5_firstContradiction 63 = .ok (.ifCond .eq 14, 3) := by decide +kernel
theorem dX5_firstContradiction_66 : decode cX5_firstContradiction 66 = .ok (.aload_n 0, 1) := by decide +kernel
theorem dX5_firstContradiction_67 : decode cX5_firstContradiction 67 = .ok (.iload_n 1, 1) := by decide +kernel
theorem dX5_firstContradiction_68 : decode cX5_firstContradiction 68 = .ok (.iconst 0, 1) := by decide +kernel
theorem dX5_firstContradiction_69 : decode cX5_firstContradiction 69 = .ok (.invokevirtual 70, 3) := by decide +kernel
theorem dX5_firstContradiction_72 : decode cX5_firstContradiction 72 = .ok (.ifCond .eq 5, 3) := by decide +kernel
theorem dX5_firstContradiction_75 : decode cX5_firstContradiction 75 = .ok (.iload_n 1, 1) := by decide +kernel
theorem dX5_firstContradiction_76 : decode cX5_firstContradiction 76 = .ok (.ireturn, 1) := by decide +kernel
theorem dX5_firstContradiction_77 : decode cX5_firstContradiction 77 = .ok (.iinc 2 1, 3) := by decide +kernel
theorem dX5_firstContradiction_80 : decode cX5_firstContradiction 80 = .ok (.goto (-68), 3) := by decide +kernel
theorem dX5_firstContradiction_83 : decode cX5_firstContradiction 83 = .ok (.iinc 1 1, 3) := by decide +kernel
theorem dX5_firstContradiction_86 : decode cX5_firstContradiction 86 = .ok (.goto (-84), 3) := by decide +kernel
theorem dX5_firstContradiction_89 : decode cX5_firstContradiction 89 = .ok (.ldc 86, 2) := by decide +kernel
theorem dX5_firstContradiction_91 : decode cX5_firstContradiction 91 = .ok (.ireturn, 1) := by decide +kernel
theorem dX5_isIn_0 : decode cX5_isIn 0 = .ok (.iload_n 0, 1) := by decide +kernel
theorem dX5_isIn_1 : decode cX5_isIn 1 = .ok (.iload_n 1, 1) := by decide +kernel
theorem dX5_isIn_2 : decode cX5_isIn 2 = .ok (.ishr, 1) := by decide +kernel
theorem dX5_isIn_3 : decode cX5_isIn 3 = .ok (.iconst 1, 1) := by decide +kernel
theorem dX5_isIn_4 : decode cX5_isIn 4 = .ok (.iand, 1) := by decide +kernel
theorem dX5_isIn_5 : decode cX5_isIn 5 = .ok (.iconst 1, 1) := by decide +kernel
theorem dX5_isIn_6 : decode cX5_isIn 6 = .ok (.if_icmp .ne 7, 3) := by decide +kernel
theorem dX5_isIn_9 : decode cX5_isIn 9 = .ok (.iconst 1, 1) := by decide +kernel
theorem dX5_isIn_10 : decode cX5_isIn 10 = .ok (.goto 4, 3) := by decide +kernel
theorem dX5_isIn_13 : decode cX5_isIn 13 = .ok (.iconst 0, 1) := by decide +kernel
theorem dX5_isIn_14 : decode cX5_isIn 14 = .ok (.ireturn, 1) := by decide +kernel
theorem dX6_init_0 : decode cX6_init 0 = .ok (.aload_n 0, 1) := by decide +kernel
theorem dX6_init_1 : decode cX6_init 1 = .ok (.invokespecial 3, 3) := by decide +kernel
theorem dX6_init_4 : decode cX6_init 4 = .ok (.aload_n 0, 1) := by decide +kernel
theorem dX6_init_5 : decode cX6_init 5 = .ok (.bipush 8, 2) := by decide +kernel
theorem dX6_init_7 : decode cX6_init 7 = .ok (.anewarray 9, 3) := by decide +kernel
theorem dX6_init_10 : decode cX6_init 10 = .ok (.putfield 11, 3) := by decide +kernel
theorem dX6_init_13 : decode cX6_init 13 = .ok (.aload_n 0, 1) := by decide +kernel
theorem dX6_init_14 : decode cX6_init 14 = .ok (.new 15, 3) := by decide +kernel
theorem dX6_init_17 : decode cX6_init 17 = .ok (.dup, 1) := by decide +kernel
theorem dX6_init_18 : decode cX6_init 18 = .ok (.invokespecial 17, 3) := by decide +kernel
theorem dX6_init_21 : decode cX6_init 21 = .ok (.putfield 18, 3) := by decide +kernel
theorem dX6_init_24 : decode cX6_init 24 = .ok (.aload_n 0, 1) := by decide +kernel
theorem dX6_init_25 : decode cX6_init 25 = .ok (.new 22, 3) := by decide +kernel
theorem dX6_init_28 : decode cX6_init 28 = .ok (.dup, 1) := by decide +kernel
theorem dX6_init_29 : decode cX6_init 29 = .ok (.invokespecial 24, 3) := by decide +kernel
theorem dX6_init_32 : decode cX6_init 32 = .ok (.putfield 25, 3) := by decide +kernel
theorem dX6_init_35 : decode cX6_init 35 = .ok (.aload_n 0, 1) := by decide +kernel
theorem dX6_init_36 : decode cX6_init 36 = .ok (.new 22, 3) := by decide +kernel
theorem dX6_init_39 : decode cX6_init 39 = .ok (.dup, 1) := by decide +kernel
theorem dX6_init_40 : decode cX6_init 40 = .ok (.invokespecial 24, 3) := by decide +kernel
theorem dX6_init_43 : decode cX6_init 43 = .ok (.putfield 29, 3) := by decide +kernel
theorem dX6_init_46 : decode cX6_init 46 = .ok (.aload_n 0, 1) := by decide +kernel
theorem dX6_init_47 : decode cX6_init 47 = .ok (.iconst 2, 1) := by decide +kernel
theorem dX6_init_48 : decode cX6_init 48 = .ok (.anewarray 22, 3) := by decide +kernel
theorem dX6_init_51 : decode cX6_init 51 = .ok (.putfield 32, 3) := by decide +kernel
theorem dX6_init_54 : decode cX6_init 54 = .ok (.aload_n 0, 1) := by decide +kernel
theorem dX6_init_55 : decode cX6_init 55 = .ok (.new 36, 3) := by decide +kernel
theorem dX6_init_58 : decode cX6_init 58 = .ok (.dup, 1) := by decide +kernel
theorem dX6_init_59 : decode cX6_init 59 = .ok (.invokespecial 38, 3) := by decide +kernel
theorem dX6_init_62 : decode cX6_init 62 = .ok (.putfield 39, 3) := by decide +kernel
theorem dX6_init_65 : decode cX6_init 65 = .ok (.aload_n 0, 1) := by decide +kernel
theorem dX6_init_66 : decode cX6_init 66 = .ok (.new 43, 3) := by decide +kernel
theorem dX6_init_69 : decode cX6_init 69 = .ok (.dup, 1) := by decide +kernel
theorem dX6_init_70 : decode cX6_init 70 = .ok (.invokespecial 45, 3) := by decide +kernel
theorem dX6_init_73 : decode cX6_init 73 = .ok (.putfield 46, 3) := by decide +kernel
theorem dX6_init_76 : decode cX6_init 76 = .ok (.aload_n 0, 1) := by decide +kernel
theorem dX6_init_77 : decode cX6_init 77 = .ok (.bipush 16, 2) := by decide +kernel
theorem dX6_init_79 : decode cX6_init 79 = .ok (.newarray .int, 2) := by decide +kernel
theorem dX6_init_81 : decode cX6_init 81 = .ok (.putfield 50, 3) := by decide +kernel
theorem dX6_init_84 : decode cX6_init 84 = .ok (.iconst 0, 1) := by decide +kernel
theorem dX6_init_85 : decode cX6_init 85 = .ok (.istore_n 1, 1) := by decide +kernel
theorem dX6_init_86 : decode cX6_init 86 = .ok (.iload_n 1, 1) := by decide +kernel
theorem dX6_init_87 : decode cX6_init 87 = .ok (.aload_n 0, 1) := by decide +kernel
theorem dX6_init_88 : decode cX6_init 88 = .ok (.getfield 11, 3) := by decide +kernel
theorem dX6_init_91 : decode cX6_init 91 = .ok (.arraylength, 1) := by decide +kernel
theorem dX6_init_92 : decode cX6_init 92 = .ok (.if_icmp .ge 22, 3) := by decide +kernel
theorem dX6_init_95 : decode cX6_init 95 = .ok (.aload_n 0, 1) := by decide +kernel
theorem dX6_init_96 : decode cX6_init 96 = .ok (.getfield 11, 3) := by decide +kernel
theorem dX6_init_99 : decode cX6_init 99 = .ok (.iload_n 1, 1) := by decide +kernel
theorem dX6_init_100 : decode cX6_init 100 = .ok (.new 9, 3) := by decide +kernel
theorem dX6_init_103 : decode cX6_init 103 = .ok (.dup, 1) := by decide +kernel
theorem dX6_init_104 : decode cX6_init 104 = .ok (.invokespecial 54, 3) := by decide +kernel
theorem dX6_init_107 : decode cX6_init 107 = .ok (.aastore, 1) := by decide +kernel
theorem dX6_init_108 : decode cX6_init 108 = .ok (.iinc 1 1, 3) := by decide +kernel
theorem dX6_init_111 : decode cX6_init 111 = .ok (.goto (-25), 3) := by decide +kernel
theorem dX6_init_114 : decode cX6_init 114 = .ok (.iconst 0, 1) := by decide +kernel
theorem dX6_init_115 : decode cX6_init 115 = .ok (.istore_n 1, 1) := by decide +kernel
theorem dX6_init_116 : decode cX6_init 116 = .ok (.iload_n 1, 1) := by decide +kernel
theorem dX6_init_117 : decode cX6_init 117 = .ok (.aload_n 0, 1) := by decide +kernel
theorem dX6_init_118 : decode cX6_init 118 = .ok (.getfield 32, 3) := by decide +kernel
theorem dX6_init_121 : decode cX6_init 121 = .ok (.arraylength, 1) := by decide +kernel
theorem dX6_init_122 : decode cX6_init 122 = .ok (.if_icmp .ge 22, 3) := by decide +kernel
theorem dX6_init_125 : decode cX6_init 125 = .ok (.aload_n 0, 1) := by decide +kernel
theorem dX6_init_126 : decode cX6_init 126 = .ok (.getfield 32, 3) := by decide +kernel
theorem dX6_init_129 : decode cX6_init 129 = .ok (.iload_n 1, 1) := by decide +kernel
theorem dX6_init_130 : decode cX6_init 130 = .ok (.new 22, 3) := by decide +kernel
theorem dX6_init_133 : decode cX6_init 133 = .ok (.dup, 1) := by decide +kernel
theorem dX6_init_134 : decode cX6_init 134 = .ok (.invokespecial 24, 3) := by decide +kernel
theorem dX6_init_137 : decode cX6_init 137 = .ok (.aastore, 1) := by decide +kernel
theorem dX6_init_138 : decode cX6_init 138 = .ok (.iinc 1 1, 3) := by decide +kernel
theorem dX6_init_141 : decode cX6_init 141 = .ok (.goto (-25), 3) := by decide +kernel
theorem dX6_init_144 : decode cX6_init 144 = .ok (.return_, 1) := by decide +kernel
