theorem dX9_copy_0 : decode cX9_copy 0 = .ok (.aload_n 0, 1) := by decide +kernel
theorem dX9_copy_1 : decode cX9_copy 1 = .ok (.aload_n 1, 1) := by decide +kernel
theorem dX9_copy_2 : decode cX9_copy 2 = .ok (.getfield 69, 3) := by decide +kernel
theorem dX9_copy_5 : decode cX9_copy 5 = .ok (.putfield 69, 3) := by decide +kernel
theorem dX9_copy_8 : decode cX9_copy 8 = .ok (.aload_n 0, 1) := by decide +kernel
theorem dX9_copy_9 : decode cX9_copy 9 = .ok (.getfield 14, 3) := by decide +kernel
theorem dX9_copy_12 : decode cX9_copy 12 = .ok (.aload_n 1, 1) := by decide +kernel
theorem dX9_copy_13 : decode cX9_copy 13 = .ok (.getfield 14, 3) := by decide +kernel
theorem dX9_copy_16 : decode cX9_copy 16 = .ok (.invokevirtual 103, 3) := by decide +kernel
theorem dX9_copy_19 : decode cX9_copy 19 = .ok (.aload_n 0, 1) := by decide +kernel
theorem dX9_copy_20 : decode cX9_copy 20 = .ok (.getfield 20, 3) := by decide +kernel
theorem dX9_copy_23 : decode cX9_copy 23 = .ok (.aload_n 1, 1) := by decide +kernel
theorem dX9_copy_24 : decode cX9_copy 24 = .ok (.getfield 20, 3) := by decide +kernel
theorem dX9_copy_27 : decode cX9_copy 27 = .ok (.invokevirtual 103, 3) := by decide +kernel
theorem dX9_copy_30 : decode cX9_copy 30 = .ok (.aload_n 0, 1) := by decide +kernel
theorem dX9_copy_31 : decode cX9_copy 31 = .ok (.getfield 23, 3) := by decide +kernel
theorem dX9_copy_34 : decode cX9_copy 34 = .ok (.aload_n 1, 1) := by decide +kernel
theorem dX9_copy_35 : decode cX9_copy 35 = .ok (.getfield 23, 3) := by decide +kernel
theorem dX9_copy_38 : decode cX9_copy 38 = .ok (.invokevirtual 103, 3) := by decide +kernel
theorem dX9_copy_41 : decode cX9_copy 41 = .ok (.aload_n 0, 1) := by decide +kernel
theorem dX9_copy_42 : decode cX9_copy 42 = .ok (.getfield 26, 3) := by decide +kernel
theorem dX9_copy_45 : decode cX9_copy 45 = .ok (.aload_n 1, 1) := by decide +kernel
theorem dX9_copy_46 : decode cX9_copy 46 = .ok (.getfield 26, 3) := by decide +kernel
theorem dX9_copy_49 : decode cX9_copy 49 = .ok (.invokevirtual 103, 3) := by decide +kernel
theorem dX9_copy_52 : decode cX9_copy 52 = .ok (.aload_n 0, 1) := by decide +kernel
theorem dX9_copy_53 : decode cX9_copy 53 = .ok (.getfield 29, 3) := by decide +kernel
theorem dX9_copy_56 : decode cX9_copy 56 = .ok (.aload_n 1, 1) := by decide +kernel
theorem dX9_copy_57 : decode cX9_copy 57 = .ok (.getfield 29, 3) := by decide +kernel
theorem dX9_copy_60 : decode cX9_copy 60 = .ok (.invokevirtual 103, 3) := by decide +kernel
theorem dX9_copy_63 : decode cX9_copy 63 = .ok (.aload_n 0, 1) := by decide +kernel
theorem dX9_copy_64 : decode cX9_copy 64 = .ok (.getfield 32, 3) := by decide +kernel
theorem dX9_copy_67 : decode cX9_copy 67 = .ok (.aload_n 1, 1) := by decide +kernel
theorem dX9_copy_68 : decode cX9_copy 68 = .ok (.getfield 32, 3) := by decide +kernel
theorem dX9_copy_71 : decode cX9_copy 71 = .ok (.invokevirtual 103, 3) := by decide +kernel
theorem dX9_copy_74 : decode cX9_copy 74 = .ok (.aload_n 0, 1) := by decide +kernel
theorem dX9_copy_75 : decode cX9_copy 75 = .ok (.getfield 35, 3) := by decide +kernel
theorem dX9_copy_78 : decode cX9_copy 78 = .ok (.aload_n 1, 1) := by decide +kernel
theorem dX9_copy_79 : decode cX9_copy 79 = .ok (.getfield 35, 3) := by decide +kernel
theorem dX9_copy_82 : decode cX9_copy 82 = .ok (.invokevirtual 103, 3) := by decide +kernel
theorem dX9_copy_85 : decode cX9_copy 85 = .ok (.aload_n 0, 1) := by decide +kernel
theorem dX9_copy_86 : decode cX9_copy 86 = .ok (.getfield 38, 3) := by decide +kernel
theorem dX9_copy_89 : decode cX9_copy 89 = .ok (.aload_n 1, 1) := by decide +kernel
theorem dX9_copy_90 : decode cX9_copy 90 = .ok (.getfield 38, 3) := by decide +kernel
theorem dX9_copy_93 : decode cX9_copy 93 = .ok (.invokevirtual 103, 3) := by decide +kernel
theorem dX9_copy_96 : decode cX9_copy 96 = .ok (.aload_n 0, 1) := by decide +kernel
theorem dX9_copy_97 : decode cX9_copy 97 = .ok (.getfield 41, 3) := by decide +kernel
theorem dX9_copy_100 : decode cX9_copy 100 = .ok (.aload_n 1, 1) := by decide +kernel
theorem dX9_copy_101 : decode cX9_copy 101 = .ok (.getfield 41, 3) := by decide +kernel
theorem dX9_copy_104 : decode cX9_copy 104 = .ok (.invokevirtual 103, 3) := by decide +kernel
theorem dX9_copy_107 : decode cX9_copy 107 = .ok (.aload_n 0, 1) := by decide +kernel
theorem dX9_copy_108 : decode cX9_copy 108 = .ok (.getfield 44, 3) := by decide +kernel
theorem dX9_copy_111 : decode cX9_copy 111 = .ok (.aload_n 1, 1) := by decide +kernel
theorem dX9_copy_112 : decode cX9_copy 112 = .ok (.getfield 44, 3) := by decide +kernel
theorem dX9_copy_115 : decode cX9_copy 115 = .ok (.invokevirtual 103, 3) := by decide +kernel
theorem dX9_copy_118 : decode cX9_copy 118 = .ok (.aload_n 0, 1) := by decide +kernel
theorem dX9_copy_119 : decode cX9_copy 119 = .ok (.getfield 47, 3) := by decide +kernel
theorem dX9_copy_122 : decode cX9_copy 122 = .ok (.aload_n 1, 1) := by decide +kernel
theorem dX9_copy_123 : decode cX9_copy 123 = .ok (.getfield 47, 3) := by decide +kernel
theorem dX9_copy_126 : decode cX9_copy 126 = .ok (.invokevirtual 103, 3) := by decide +kernel
theorem dX9_copy_129 : decode cX9_copy 129 = .ok (.aload_n 0, 1) := by decide +kernel
theorem dX9_copy_130 : decode cX9_copy 130 = .ok (.getfield 50, 3) := by decide +kernel
theorem dX9_copy_133 : decode cX9_copy 133 = .ok (.aload_n 1, 1) := by decide +kernel
theorem dX9_copy_134 : decode cX9_copy 134 = .ok (.getfield 50, 3) := by decide +kernel
theorem dX9_copy_137 : decode cX9_copy 137 = .ok (.invokevirtual 103, 3) := by decide +kernel
theorem dX9_copy_140 : decode cX9_copy 140 = .ok (.aload_n 0, 1) := by decide +kernel
theorem dX9_copy_141 : decode cX9_copy 141 = .ok (.getfield 53, 3) := by decide +kernel
theorem dX9_copy_144 : decode cX9_copy 144 = .ok (.aload_n 1, 1) := by decide +kernel
theorem dX9_copy_145 : decode cX9_copy 145 = .ok (.getfield 53, 3) := by decide +kernel
theorem dX9_copy_148 : decode cX9_copy 148 = .ok (.invokevirtual 103, 3) := by decide +kernel
theorem dX9_copy_151 : decode cX9_copy 151 = .ok (.aload_n 0, 1) := by decide +kernel
theorem dX9_copy_152 : decode cX9_copy 152 = .ok (.getfield 56, 3) := by decide +kernel
theorem dX9_copy_155 : decode cX9_copy 155 = .ok (.aload_n 1, 1) := by decide +kernel
theorem dX9_copy_156 : decode cX9_copy 156 = .ok (.getfield 56, 3) := by decide +kernel
theorem dX9_copy_159 : decode cX9_copy 159 = .ok (.invokevirtual 103, 3) := by decide +kernel
theorem dX9_copy_162 : decode cX9_copy 162 = .ok (.aload_n 0, 1) := by decide +kernel
theorem dX9_copy_163 : decode cX9_copy 163 = .ok (.getfield 59, 3) := by decide +kernel
theorem dX9_copy_166 : decode cX9_copy 166 = .ok (.aload_n 1, 1) := by decide +kernel
theorem dX9_copy_167 : decode cX9_copy 167 = .ok (.getfield 59, 3) := by decide +kernel
theorem dX9_copy_170 : decode cX9_copy 170 = .ok (.invokevirtual 103, 3) := by decide +kernel
theorem dX9_copy_173 : decode cX9_copy 173 = .ok (.aload_n 0, 1) := by decide +kernel
theorem dX9_copy_174 : decode cX9_copy 174 = .ok (.getfield 65, 3) := by decide +kernel
theorem dX9_copy_177 : decode cX9_copy 177 = .ok (.aload_n 1, 1) := by decide +kernel
theorem dX9_copy_178 : decode cX9_copy 178 = .ok (.getfield 65, 3) := by decide +kernel
theorem dX9_copy_181 : decode cX9_copy 181 = .ok (.invokevirtual 107, 3) := by decide +kernel
theorem dX9_copy_184 : decode cX9_copy 184 = .ok (.return_, 1) := by decide +kernel
theorem dX10_init_0 : decode cX10_init 0 = .ok (.aload_n 0, 1) := by decide +kernel
theorem dX10_init_1 : decode cX10_init 1 = .ok (.invokespecial 3, 3) := by decide +kernel
theorem dX10_init_4 : decode cX10_init 4 = .ok (.aload_n 0, 1) := by decide +kernel
theorem dX10_init_5 : decode cX10_init 5 = .ok (.new 9, 3) := by decide +kernel
theorem dX10_init_8 : decode cX10_init 8 = .ok (.dup, 1) := by decide +kernel
theorem dX10_init_9 : decode cX10_init 9 = .ok (.bipush 6, 2) := by decide +kernel
theorem dX10_init_11 : decode cX10_init 11 = .ok (.invokespecial 11, 3) := by decide +kernel
theorem dX10_init_14 : decode cX10_init 14 = .ok (.putfield 14, 3) := by decide +kernel
theorem dX10_init_17 : decode cX10_init 17 = .ok (.aload_n 0, 1) := by decide +kernel
theorem dX10_init_18 : decode cX10_init 18 = .ok (.new 20, 3) := by decide +kernel
theorem dX10_init_21 : decode cX10_init 21 = .ok (.dup, 1) := by decide +kernel
theorem dX10_init_22 : decode cX10_init 22 = .ok (.invokespecial 22, 3) := by decide +kernel
theorem dX10_init_25 : decode cX10_init 25 = .ok (.putfield 23, 3) := by decide +kernel
theorem dX10_init_28 : decode cX10_init 28 = .ok (.aload_n 0, 1) := by decide +kernel
theorem dX10_init_29 : decode cX10_init 29 = .ok (.new 27, 3) := by decide +kernel
theorem dX10_init_32 : decode cX10_init 32 = .ok (.dup, 1) := by decide +kernel
theorem dX10_init_33 : decode cX10_init 33 = .ok (.invokespecial 29, 3) := by decide +kernel
theorem dX10_init_36 : decode cX10_init 36 = .ok (.putfield 30, 3) := by decide +kernel
theorem dX10_init_39 : decode cX10_init 39 = .ok (.aload_n 0, 1) := by decide +kernel
theorem dX10_init_40 : decode cX10_init 40 = .ok (.new 34, 3) := by decide +kernel
theorem dX10_init_43 : decode cX10_init 43 = .ok (.dup, 1) := by decide +kernel
theorem dX10_init_44 : decode cX10_init 44 = .ok (.invokespecial 36, 3) := by decide +kernel
theorem dX10_init_47 : decode cX10_init 47 = .ok (.putfield 37, 3) := by decide +kernel
theorem dX10_init_50 : decode cX10_init 50 = .ok (.aload_n 0, 1) := by decide +kernel
theorem dX10_init_51 : decode cX10_init 51 = .ok (.new 41, 3) := by decide +kernel
theorem dX10_init_54 : decode cX10_init 54 = .ok (.dup, 1) := by decide +kernel
theorem dX10_init_55 : decode cX10_init 55 = .ok (.invokespecial 43, 3) := by decide +kernel
theorem dX10_init_58 : decode cX10_init 58 = .ok (.putfield 44, 3) := by decide +kernel
theorem dX10_init_61 : decode cX10_init 61 = .ok (.aload_n 0, 1) := by decide +kernel
theorem dX10_init_62 : decode cX10_init 62 = .ok (.new 48, 3) := by decide +kernel
theorem dX10_init_65 : decode cX10_init 65 = .ok (.dup, 1) := by decide +kernel
theorem dX10_init_66 : decode cX10_init 66 = .ok (.bipush 24, 2) := by decide +kernel
theorem dX10_init_68 : decode cX10_init 68 = .ok (.invokespecial 50, 3) := by decide +kernel
theorem dX10_init_71 : decode cX10_init 71 = .ok (.putfield 51, 3) := by decide +kernel
theorem dX10_init_74 : decode cX10_init 74 = .ok (.aload_n 0, 1) := by decide +kernel
theorem dX10_init_75 : decode cX10_init 75 = .ok (.new 48, 3) := by decide +kernel
theorem dX10_init_78 : decode cX10_init 78 = .ok (.dup, 1) := by decide +kernel
theorem dX10_init_79 : decode cX10_init 79 = .ok (.bipush 24, 2) := by decide +kernel
theorem dX10_init_81 : decode cX10_init 81 = .ok (.invokespecial 50, 3) := by decide +kernel
theorem dX10_init_84 : decode cX10_init 84 = .ok (.putfield 55, 3) := by decide +kernel
theorem dX10_init_87 : decode cX10_init 87 = .ok (.aload_n 0, 1) := by decide +kernel
theorem dX10_init_88 : decode cX10_init 88 = .ok (.new 58, 3) := by decide +kernel
theorem dX10_init_91 : decode cX10_init 91 = .ok (.dup, 1) := by decide +kernel
theorem dX10_init_92 : decode cX10_init 92 = .ok (.bipush 12, 2) := by decide +kernel
theorem dX10_init_94 : decode cX10_init 94 = .ok (.invokespecial 60, 3) := by decide +kernel
theorem dX10_init_97 : decode cX10_init 97 = .ok (.putfield 61, 3) := by decide +kernel
theorem dX10_init_100 : decode cX10_init 100 = .ok (.return_, 1) := by decide +kernel
theorem dX10_copy_0 : decode cX10_copy 0 = .ok (.aload_n 0, 1) := by decide +kernel
theorem dX10_copy_1 : decode cX10_copy 1 = .ok (.getfield 14, 3) := by decide +kernel
theorem dX10_copy_4 : decode cX10_copy 4 = .ok (.aload_n 1, 1) := by decide +kernel
theorem dX10_copy_5 : decode cX10_copy 5 = .ok (.getfield 14, 3) := by decide +kernel
theorem dX10_copy_8 : decode cX10_copy 8 = .ok (.invokevirtual 65, 3) := by decide +kernel
theorem dX10_copy_11 : decode cX10_copy 11 = .ok (.aload_n 0, 1) := by decide +kernel
theorem dX10_copy_12 : decode cX10_copy 12 = .ok (.getfield 23, 3) := by decide +kernel
theorem dX10_copy_15 : decode cX10_copy 15 = .ok (.aload_n 1, 1) := by decide +kernel
theorem dX10_copy_16 : decode cX10_copy 16 = .ok (.getfield 23, 3) := by decide +kernel
theorem dX10_copy_19 : decode cX10_copy 19 = .ok (.invokevirtual 69, 3) := by decide +kernel
theorem dX10_copy_22 : decode cX10_copy 22 = .ok (.aload_n 0, 1) := by decide +kernel
theorem dX10_copy_23 : decode cX10_copy 23 = .ok (.getfield 30, 3) := by decide +kernel
theorem dX10_copy_26 : decode cX10_copy 26 = .ok (.aload_n 1, 1) := by decide +kernel
theorem dX10_copy_27 : decode cX10_copy 27 = .ok (.getfield 30, 3) := by decide +kernel
theorem dX10_copy_30 : decode cX10_copy 30 = .ok (.invokevirtual 72, 3) := by decide +kernel
theorem dX10_copy_33 : decode cX10_copy 33 = .ok (.aload_n 0, 1) := by decide +kernel
theorem dX10_copy_34 : decode cX10_copy 34 = .ok (.getfield 37, 3) := by decide +kernel
theorem dX10_copy_37 : decode cX10_copy 37 = .ok (.aload_n 1, 1) := by decide +kernel
theorem dX10_copy_38 : decode cX10_copy 38 = .ok (.getfield 37, 3) := by decide +kernel
theorem dX10_copy_41 : decode cX10_copy 41 = .ok (.invokevirtual 75, 3) := by decide +kernel
theorem dX10_copy_44 : decode cX10_copy 44 = .ok (.aload_n 0, 1) := by decide +kernel
theorem dX10_copy_45 : decode cX10_copy 45 = .ok (.getfield 44, 3) := by decide +kernel
theorem dX10_copy_48 : decode cX10_copy 48 = .ok (.aload_n 1, 1) := by decide +kernel
theorem dX10_copy_49 : decode cX10_copy 49 = .ok (.getfield 44, 3) := by decide +kernel
theorem dX10_copy_52 : decode cX10_copy 52 = .ok (.invokevirtual 78, 3) := by decide +kernel
theorem dX10_copy_55 : decode cX10_copy 55 = .ok (.aload_n 0, 1) := by decide +kernel
theorem dX10_copy_56 : decode cX10_copy 56 = .ok (.getfield 51, 3) := by decide +kernel
theorem dX10_copy_59 : decode cX10_copy 59 = .ok (.aload_n 1, 1) := by decide +kernel
theorem dX10_copy_60 : decode cX10_copy 60 = .ok (.getfield 51, 3) := by decide +kernel
theorem dX10_copy_63 : decode cX10_copy 63 = .ok (.invokevirtual 81, 3) := by decide +kernel
theorem dX10_copy_66 : decode cX10_copy 66 = .ok (.aload_n 0, 1) := by decide +kernel
theorem dX10_copy_67 : decode cX10_copy 67 = .ok (.getfield 55, 3) := by decide +kernel
theorem dX10_copy_70 : decode cX10_copy 70 = .ok (.aload_n 1, 1) := by decide +kernel
theorem dX10_copy_71 : decode cX10_copy 71 = .ok (.getfield 55, 3) := by decide +kernel
theorem dX10_copy_74 : decode cX10_copy 74 = .ok (.invokevirtual 81, 3) := by decide +kernel
theorem dX10_copy_77 : decode cX10_copy 77 = .ok (.aload_n 0, 1) := by decide +kernel
theorem dX10_copy_78 : decode cX10_copy 78 = .ok (.getfield 61, 3) := by decide +kernel
theorem dX10_copy_81 : decode cX10_copy 81 = .ok (.aload_n 1, 1) := by decide +kernel
theorem dX10_copy_82 : decode cX10_copy 82 = .ok (.getfield 61, 3) := by decide +kernel
theorem dX10_copy_85 : decode cX10_copy 85 = .ok (.invokevirtual 84, 3) := by decide +kernel
theorem dX10_copy_88 : decode cX10_copy 88 = .ok (.return_, 1) := by decide +kernel
theorem dX10_removeTasks_0 : decode cX10_removeTasks 0 = .ok (.aload_n 0, 1) := by decide +kernel
theorem dX10_removeTasks_1 : decode cX10_removeTasks 1 = .ok (.getfield 23, 3) := by decide +kernel
theorem dX10_removeTasks_4 : decode cX10_removeTasks 4 = .ok (.iconst 0, 1) := by decide +kernel
theorem dX10_removeTasks_5 : decode cX10_removeTasks 5 = .ok (.putfield 87, 3) := by decide +kernel
theorem dX10_removeTasks_8 : decode cX10_removeTasks 8 = .ok (.aload_n 0, 1) := by decide +kernel
theorem dX10_removeTasks_9 : decode cX10_removeTasks 9 = .ok (.getfield 30, 3) := by decide +kernel
theorem dX10_removeTasks_12 : decode cX10_removeTasks 12 = .ok (.iconst 0, 1) := by decide +kernel
theorem dX10_removeTasks_13 : decode cX10_removeTasks 13 = .ok (.putfield 91, 3) := by decide +kernel
theorem dX10_removeTasks_16 : decode cX10_removeTasks 16 = .ok (.aload_n 0, 1) := by decide +kernel
theorem dX10_removeTasks_17 : decode cX10_removeTasks 17 = .ok (.getfield 37, 3) := by decide +kernel
theorem dX10_removeTasks_20 : decode cX10_removeTasks 20 = .ok (.getfield 92, 3) := by decide +kernel
theorem dX10_removeTasks_23 : decode cX10_removeTasks 23 = .ok (.invokevirtual 95, 3) := by decide +kernel
theorem dX10_removeTasks_26 : decode cX10_removeTasks 26 = .ok (.aload_n 0, 1) := by decide +kernel
theorem dX10_removeTasks_27 : decode cX10_removeTasks 27 = .ok (.getfield 44, 3) := by decide +kernel
theorem dX10_removeTasks_30 : decode cX10_removeTasks 30 = .ok (.invokevirtual 98, 3) := by decide +kernel
theorem dX10_removeTasks_33 : decode cX10_removeTasks 33 = .ok (.aload_n 0, 1) := by decide +kernel
theorem dX10_removeTasks_34 : decode cX10_removeTasks 34 = .ok (.getfield 51, 3) := by decide +kernel
theorem dX10_removeTasks_37 : decode cX10_removeTasks 37 = .ok (.invokevirtual 99, 3) := by decide +kernel
theorem dX10_removeTasks_40 : decode cX10_removeTasks 40 = .ok (.aload_n 0, 1) := by decide +kernel
theorem dX10_removeTasks_41 : decode cX10_removeTasks 41 = .ok (.getfield 55, 3) := by decide +kernel
theorem dX10_removeTasks_44 : decode cX10_removeTasks 44 = .ok (.invokevirtual 99, 3) := by decide +kernel
theorem dX10_removeTasks_47 : decode cX10_removeTasks 47 = .ok (.aload_n 0, 1) := by decide +kernel
theorem dX10_removeTasks_48 : decode cX10_removeTasks 48 = .ok (.getfield 61, 3) := by decide +kernel
theorem dX10_removeTasks_51 : decode cX10_removeTasks 51 = .ok (.invokevirtual 95, 3) := by decide +kernel
theorem dX10_removeTasks_54 : decode cX10_removeTasks 54 = .ok (.return_, 1) := by decide +kernel
theorem dX10_liveTasks_0 : decode cX10_liveTasks 0 = .ok (.aload_n 0, 1) := by decide +kernel
theorem dX10_liveTasks_1 : decode cX10_liveTasks 1 = .ok (.getfield 23, 3) := by decide +kernel
theorem dX10_liveTasks_4 : decode cX10_liveTasks 4 = .ok (.getfield 87, 3) := by decide +kernel
theorem dX10_liveTasks_7 : decode cX10_liveTasks 7 = .ok (.aload_n 0, 1) := by decide +kernel
theorem dX10_liveTasks_8 : decode cX10_liveTasks 8 = .ok (.getfield 55, 3) := by decide +kernel
theorem dX10_liveTasks_11 : decode cX10_liveTasks 11 = .ok (.invokevirtual 100, 3) := by decide +kernel
theorem dX10_liveTasks_14 : decode cX10_liveTasks 14 = .ok (.isub, 1) := by decide +kernel
theorem dX10_liveTasks_15 : decode cX10_liveTasks 15 = .ok (.ireturn, 1) := by decide +kernel
theorem dX10_startTask_0 : decode cX10_startTask 0 = .ok (.aload_n 0, 1) := by decide +kernel
theorem dX10_startTask_1 : decode cX10_startTask 1 = .ok (.getfield 23, 3) := by decide +kernel
theorem dX10_startTask_4 : decode cX10_startTask 4 = .ok (.getfield 87, 3) := by decide +kernel
theorem dX10_startTask_7 : decode cX10_startTask 7 = .ok (.bipush 24, 2) := by decide +kernel
theorem dX10_startTask_9 : decode cX10_startTask 9 = .ok (.if_icmp .lt 5, 3) := by decide +kernel
theorem dX10_startTask_12 : decode cX10_startTask 12 = .ok (.iconst (-1), 1) := by decide +kernel
theorem dX10_startTask_13 : decode cX10_startTask 13 = .ok (.ireturn, 1) := by decide +kernel
theorem dX10_startTask_14 : decode cX10_startTask 14 = .ok (.aload_n 0, 1) := by decide +kernel
theorem dX10_startTask_15 : decode cX10_startTask 15 = .ok (.getfield 23, 3) := by decide +kernel
theorem dX10_startTask_18 : decode cX10_startTask 18 = .ok (.iload_n 2, 1) := by decide +kernel
theorem dX10_startTask_19 : decode cX10_startTask 19 = .ok (.invokevirtual 104, 3) := by decide +kernel
theorem dX10_startTask_22 : decode cX10_startTask 22 = .ok (.istore_n 3, 1) := by decide +kernel
theorem dX10_startTask_23 : decode cX10_startTask 23 = .ok (.aload_n 0, 1) := by decide +kernel
theorem dX10_startTask_24 : decode cX10_startTask 24 = .ok (.getfield 23, 3) := by decide +kernel
theorem dX10_startTask_27 : decode cX10_startTask 27 = .ok (.getfield 108, 3) := by decide +kernel
theorem dX10_startTask_30 : decode cX10_startTask 30 = .ok (.iload_n 3, 1) := by decide +kernel
theorem dX10_startTask_31 : decode cX10_startTask 31 = .ok (.aload_n 0, 1) := by decide +kernel
theorem dX10_startTask_32 : decode cX10_startTask 32 = .ok (.getfield 14, 3) := by decide +kernel
theorem dX10_startTask_35 : decode cX10_startTask 35 = .ok (.iload_n 1, 1) := by decide +kernel
theorem dX10_startTask_36 : decode cX10_startTask 36 = .ok (.invokevirtual 111, 3) := by decide +kernel
theorem dX10_startTask_39 : decode cX10_startTask 39 = .ok (.aload_n 0, 1) := by decide +kernel
theorem dX10_startTask_40 : decode cX10_startTask 40 = .ok (.getfield 51, 3) := by decide +kernel
theorem dX10_startTask_43 : decode cX10_startTask 43 = .ok (.iload_n 3, 1) := by decide +kernel
theorem dX10_startTask_44 : decode cX10_startTask 44 = .ok (.invokevirtual 115, 3) := by decide +kernel
theorem dX10_startTask_47 : decode cX10_startTask 47 = .ok (.iload_n 3, 1) := by decide +kernel
theorem dX10_startTask_48 : decode cX10_startTask 48 = .ok (.ireturn, 1) := by decide +kernel
theorem dX10_ownerAbove_0 : decode cX10_ownerAbove 0 = .ok (.aload_n 0, 1) := by decide +kernel
theorem dX10_ownerAbove_1 : decode cX10_ownerAbove 1 = .ok (.getfield 23, 3) := by decide +kernel
theorem dX10_ownerAbove_4 : decode cX10_ownerAbove 4 = .ok (.getfield 117, 3) := by decide +kernel
theorem dX10_ownerAbove_7 : decode cX10_ownerAbove 7 = .ok (.iload_n 1, 1) := by decide +kernel
theorem dX10_ownerAbove_8 : decode cX10_ownerAbove 8 = .ok (.invokevirtual 120, 3) := by decide +kernel
theorem dX10_ownerAbove_11 : decode cX10_ownerAbove 11 = .ok (.istore_n 2, 1) := by decide +kernel
theorem dX10_ownerAbove_12 : decode cX10_ownerAbove 12 = .ok (.iload_n 2, 1) := by decide +kernel
theorem dX10_ownerAbove_13 : decode cX10_ownerAbove 13 = .ok (.iconst (-1), 1) := by decide +kernel
theorem dX10_ownerAbove_14 : decode cX10_ownerAbove 14 = .ok (.if_icmp .ne 7, 3) := by decide +kernel
theorem dX10_ownerAbove_17 : decode cX10_ownerAbove 17 = .ok (.iconst (-1), 1) := by decide +kernel
theorem dX10_ownerAbove_18 : decode cX10_ownerAbove 18 = .ok (.goto 14, 3) := by decide +kernel
theorem dX10_ownerAbove_21 : decode cX10_ownerAbove 21 = .ok (.aload_n 0, 1) := by decide +kernel
theorem dX10_ownerAbove_22 : decode cX10_ownerAbove 22 = .ok (.getfield 30, 3) := by decide +kernel
theorem dX10_ownerAbove_25 : decode cX10_ownerAbove 25 = .ok (.getfield 123, 3) := by decide +kernel
theorem dX10_ownerAbove_28 : decode cX10_ownerAbove 28 = .ok (.iload_n 2, 1) := by decide +kernel
theorem dX10_ownerAbove_29 : decode cX10_ownerAbove 29 = .ok (.invokevirtual 120, 3) := by decide +kernel
theorem dX10_ownerAbove_32 : decode cX10_ownerAbove 32 = .ok (.ireturn, 1) := by decide +kernel
theorem dX10_makeReady_0 : decode cX10_makeReady 0 = .ok (.aload_n 0, 1) := by decide +kernel
theorem dX10_makeReady_1 : decode cX10_makeReady 1 = .ok (.getfield 23, 3) := by decide +kernel
theorem dX10_makeReady_4 : decode cX10_makeReady 4 = .ok (.getfield 126, 3) := by decide +kernel
theorem dX10_makeReady_7 : decode cX10_makeReady 7 = .ok (.iload_n 1, 1) := by decide +kernel
theorem dX10_makeReady_8 : decode cX10_makeReady 8 = .ok (.iconst 0, 1) := by decide +kernel
theorem dX10_makeReady_9 : decode cX10_makeReady 9 = .ok (.invokevirtual 129, 3) := by decide +kernel
theorem dX10_makeReady_12 : decode cX10_makeReady 12 = .ok (.aload_n 0, 1) := by decide +kernel
theorem dX10_makeReady_13 : decode cX10_makeReady 13 = .ok (.getfield 23, 3) := by decide +kernel
theorem dX10_makeReady_16 : decode cX10_makeReady 16 = .ok (.getfield 133, 3) := by decide +kernel
theorem dX10_makeReady_19 : decode cX10_makeReady 19 = .ok (.iload_n 1, 1) := by decide +kernel
theorem dX10_makeReady_20 : decode cX10_makeReady 20 = .ok (.iconst (-1), 1) := by decide +kernel
theorem dX10_makeReady_21 : decode cX10_makeReady 21 = .ok (.invokevirtual 129, 3) := by decide +kernel
theorem dX10_makeReady_24 : decode cX10_makeReady 24 = .ok (.aload_n 0, 1) := by decide +kernel
theorem dX10_makeReady_25 : decode cX10_makeReady 25 = .ok (.getfield 51, 3) := by decide +kernel
theorem dX10_makeReady_28 : decode cX10_makeReady 28 = .ok (.iload_n 1, 1) := by decide +kernel
theorem dX10_makeReady_29 : decode cX10_makeReady 29 = .ok (.invokevirtual 115, 3) := by decide +kernel
theorem dX10_makeReady_32 : decode cX10_makeReady 32 = .ok (.return_, 1) := by decide +kernel
theorem dX10_interrupt_0 : decode cX10_interrupt 0 = .ok (.aload_n 0, 1) := by decide +kernel
theorem dX10_interrupt_1 : decode cX10_interrupt 1 = .ok (.getfield 23, 3) := by decide +kernel
theorem dX10_interrupt_4 : decode cX10_interrupt 4 = .ok (.iload_n 1, 1) := by decide +kernel
theorem dX10_interrupt_5 : decode cX10_interrupt 5 = .ok (.invokevirtual 136, 3) := by decide +kernel
theorem dX10_interrupt_8 : decode cX10_interrupt 8 = .ok (.ifCond .eq 4, 3) := by decide +kernel
theorem dX10_interrupt_11 : decode cX10_interrupt 11 = .ok (.return_, 1) := by decide +kernel
theorem dX10_interrupt_12 : decode cX10_interrupt 12 = .ok (.aload_n 0, 1) := by decide +kernel
theorem dX10_interrupt_13 : decode cX10_interrupt 13 = .ok (.getfield 23, 3) := by decide +kernel
theorem dX10_interrupt_16 : decode cX10_interrupt 16 = .ok (.getfield 126, 3) := by decide +kernel
theorem dX10_interrupt_19 : decode cX10_interrupt 19 = .ok (.iload_n 1, 1) := by decide +kernel
theorem dX10_interrupt_20 : decode cX10_interrupt 20 = .ok (.invokevirtual 120, 3) := by decide +kernel
theorem dX10_interrupt_23 : decode cX10_interrupt 23 = .ok (.iconst 5, 1) := by decide +kernel
theorem dX10_interrupt_24 : decode cX10_interrupt 24 = .ok (.if_icmp .ne 18, 3) := by decide +kernel
theorem dX10_interrupt_27 : decode cX10_interrupt 27 = .ok (.aload_n 0, 1) := by decide +kernel
theorem dX10_interrupt_28 : decode cX10_interrupt 28 = .ok (.getfield 23, 3) := by decide +kernel
theorem dX10_interrupt_31 : decode cX10_interrupt 31 = .ok (.iload_n 1, 1) := by decide +kernel
theorem dX10_interrupt_32 : decode cX10_interrupt 32 = .ok (.invokevirtual 140, 3) := by decide +kernel
theorem dX10_interrupt_35 : decode cX10_interrupt 35 = .ok (.ifCond .eq 7, 3) := by decide +kernel
theorem dX10_interrupt_38 : decode cX10_interrupt 38 = .ok (.iconst 1, 1) := by decide +kernel
theorem dX10_interrupt_39 : decode cX10_interrupt 39 = .ok (.goto 4, 3) := by decide +kernel
theorem dX10_interrupt_42 : decode cX10_interrupt 42 = .ok (.iconst 0, 1) := by decide +kernel
theorem dX10_interrupt_43 : decode cX10_interrupt 43 = .ok (.istore 5, 2) := by decide +kernel
theorem dX10_interrupt_45 : decode cX10_interrupt 45 = .ok (.aload_n 0, 1) := by decide +kernel
theorem dX10_interrupt_46 : decode cX10_interrupt 46 = .ok (.getfield 23, 3) := by decide +kernel
theorem dX10_interrupt_49 : decode cX10_interrupt 49 = .ok (.iload_n 1, 1) := by decide +kernel
theorem dX10_interrupt_50 : decode cX10_interrupt 50 = .ok (.invokevirtual 140, 3) := by decide +kernel
theorem dX10_interrupt_53 : decode cX10_interrupt 53 = .ok (.ifCond .ne 18, 3) := by decide +kernel
theorem dX10_interrupt_56 : decode cX10_interrupt 56 = .ok (.aload_n 0, 1) := by decide +kernel
theorem dX10_interrupt_57 : decode cX10_interrupt 57 = .ok (.getfield 23, 3) := by decide +kernel
theorem dX10_interrupt_60 : decode cX10_interrupt 60 = .ok (.iload_n 1, 1) := by decide +kernel
theorem dX10_interrupt_61 : decode cX10_interrupt 61 = .ok (.iload_n 2, 1) := by decide +kernel
theorem dX10_interrupt_62 : decode cX10_interrupt 62 = .ok (.iload_n 3, 1) := by decide +kernel
theorem dX10_interrupt_63 : decode cX10_interrupt 63 = .ok (.iload 4, 2) := by decide +kernel
theorem dX10_interrupt_65 : decode cX10_interrupt 65 = .ok (.invokevirtual 143, 3) := by decide +kernel
theorem dX10_interrupt_68 : decode cX10_interrupt 68 = .ok (.goto 53, 3) := by decide +kernel
theorem dX10_interrupt_71 : decode cX10_interrupt 71 = .ok (.iload_n 3, 1) := by decide +kernel
theorem dX10_interrupt_72 : decode cX10_interrupt 72 = .ok (.aload_n 0, 1) := by decide +kernel
theorem dX10_interrupt_73 : decode cX10_interrupt 73 = .ok (.getfield 23, 3) := by decide +kernel
theorem dX10_interrupt_76 : decode cX10_interrupt 76 = .ok (.getfield 147, 3) := by decide +kernel
theorem dX10_interrupt_79 : decode cX10_interrupt 79 = .ok (.iload_n 1, 1) := by decide +kernel
theorem dX10_interrupt_80 : decode cX10_interrupt 80 = .ok (.invokevirtual 120, 3) := by decide +kernel
theorem dX10_interrupt_83 : decode cX10_interrupt 83 = .ok (.if_icmp .ge 33, 3) := by decide +kernel
theorem dX10_interrupt_86 : decode cX10_interrupt 86 = .ok (.aload_n 0, 1) := by decide +kernel
theorem dX10_interrupt_87 : decode cX10_interrupt 87 = .ok (.aload_n 0, 1) := by decide +kernel
theorem dX10_interrupt_88 : decode cX10_interrupt 88 = .ok (.getfield 23, 3) := by decide +kernel
theorem dX10_interrupt_91 : decode cX10_interrupt 91 = .ok (.getfield 150, 3) := by decide +kernel
theorem dX10_interrupt_94 : decode cX10_interrupt 94 = .ok (.iload_n 1, 1) := by decide +kernel
theorem dX10_interrupt_95 : decode cX10_interrupt 95 = .ok (.invokevirtual 120, 3) := by decide +kernel
theorem dX10_interrupt_98 : decode cX10_interrupt 98 = .ok (.invokevirtual 153, 3) := by decide +kernel
theorem dX10_interrupt_101 : decode cX10_interrupt 101 = .ok (.aload_n 0, 1) := by decide +kernel
theorem dX10_interrupt_102 : decode cX10_interrupt 102 = .ok (.getfield 23, 3) := by decide +kernel
theorem dX10_interrupt_105 : decode cX10_interrupt 105 = .ok (.iload_n 1, 1) := by decide +kernel
theorem dX10_interrupt_106 : decode cX10_interrupt 106 = .ok (.iload_n 2, 1) := by decide +kernel
theorem dX10_interrupt_107 : decode cX10_interrupt 107 = .ok (.iload_n 3, 1) := by decide +kernel
theorem dX10_interrupt_108 : decode cX10_interrupt 108 = .ok (.iload 4, 2) := by decide +kernel
theorem dX10_interrupt_110 : decode cX10_interrupt 110 = .ok (.invokevirtual 143, 3) := by decide +kernel
theorem dX10_interrupt_113 : decode cX10_interrupt 113 = .ok (.goto 8, 3) := by decide +kernel
theorem dX10_interrupt_116 : decode cX10_interrupt 116 = .ok (.aload_n 0, 1) := by decide +kernel
theorem dX10_interrupt_117 : decode cX10_interrupt 117 = .ok (.iload_n 2, 1) := by decide +kernel
theorem dX10_interrupt_118 : decode cX10_interrupt 118 = .ok (.invokevirtual 153, 3) := by decide +kernel
theorem dX10_interrupt_121 : decode cX10_interrupt 121 = .ok (.aload_n 0, 1) := by decide +kernel
theorem dX10_interrupt_122 : decode cX10_interrupt 122 = .ok (.getfield 23, 3) := by decide +kernel
theorem dX10_interrupt_125 : decode cX10_interrupt 125 = .ok (.getfield 126, 3) := by decide +kernel
theorem dX10_interrupt_128 : decode cX10_interrupt 128 = .ok (.iload_n 1, 1) := by decide +kernel
theorem dX10_interrupt_129 : decode cX10_interrupt 129 = .ok (.invokevirtual 120, 3) := by decide +kernel
theorem dX10_interrupt_132 : decode cX10_interrupt 132 = .ok (.ifCond .eq 12, 3) := by decide +kernel
theorem dX10_interrupt_135 : decode cX10_interrupt 135 = .ok (.iload 5, 2) := by decide +kernel
theorem dX10_interrupt_137 : decode cX10_interrupt 137 = .ok (.ifCond .ne 7, 3) := by decide +kernel
theorem dX10_interrupt_140 : decode cX10_interrupt 140 = .ok (.iconst 1, 1) := by decide +kernel
theorem dX10_interrupt_141 : decode cX10_interrupt 141 = .ok (.goto 4, 3) := by decide +kernel
theorem dX10_interrupt_144 : decode cX10_interrupt 144 = .ok (.iconst 0, 1) := by decide +kernel
theorem dX10_interrupt_145 : decode cX10_interrupt 145 = .ok (.istore 6, 2) := by decide +kernel
theorem dX10_interrupt_147 : decode cX10_interrupt 147 = .ok (.iload 6, 2) := by decide +kernel
theorem dX10_interrupt_149 : decode cX10_interrupt 149 = .ok (.ifCond .eq 19, 3) := by decide +kernel
theorem dX10_interrupt_152 : decode cX10_interrupt 152 = .ok (.aload_n 0, 1) := by decide +kernel
theorem dX10_interrupt_153 : decode cX10_interrupt 153 = .ok (.getfield 23, 3) := by decide +kernel
theorem dX10_interrupt_156 : decode cX10_interrupt 156 = .ok (.iload_n 1, 1) := by decide +kernel
theorem dX10_interrupt_157 : decode cX10_interrupt 157 = .ok (.invokevirtual 156, 3) := by decide +kernel
theorem dX10_interrupt_160 : decode cX10_interrupt 160 = .ok (.ifCond .ne 8, 3) := by decide +kernel
theorem dX10_interrupt_163 : decode cX10_interrupt 163 = .ok (.aload_n 0, 1) := by decide +kernel
theorem dX10_interrupt_164 : decode cX10_interrupt 164 = .ok (.iload_n 1, 1) := by decide +kernel
theorem dX10_interrupt_165 : decode cX10_interrupt 165 = .ok (.invokevirtual 159, 3) := by decide +kernel
theorem dX10_interrupt_168 : decode cX10_interrupt 168 = .ok (.return_, 1) := by decide +kernel
theorem dX10_suppress_0 : decode cX10_suppress 0 = .ok (.iload_n 1, 1) := by decide +kernel
theorem dX10_suppress_1 : decode cX10_suppress 1 = .ok (.iconst 3, 1) := by decide +kernel
theorem dX10_suppress_2 : decode cX10_suppress 2 = .ok (.if_icmp .ne 13, 3) := by decide +kernel
theorem dX10_suppress_5 : decode cX10_suppress 5 = .ok (.aload_n 0, 1) := by decide +kernel
theorem dX10_suppress_6 : decode cX10_suppress 6 = .ok (.getfield 61, 3) := by decide +kernel
theorem dX10_suppress_9 : decode cX10_suppress 9 = .ok (.bipush 9, 2) := by decide +kernel
theorem dX10_suppress_11 : decode cX10_suppress 11 = .ok (.iconst 1, 1) := by decide +kernel
theorem dX10_suppress_12 : decode cX10_suppress 12 = .ok (.invokevirtual 162, 3) := by decide +kernel
theorem dX10_suppress_15 : decode cX10_suppress 15 = .ok (.return_, 1) := by decide +kernel
theorem dX10_fail_0 : decode cX10_fail 0 = .ok (.aload_n 0, 1) := by decide +kernel
theorem dX10_fail_1 : decode cX10_fail 1 = .ok (.getfield 44, 3) := by decide +kernel
theorem dX10_fail_4 : decode cX10_fail 4 = .ok (.iload_n 2, 1) := by decide +kernel
theorem dX10_fail_5 : decode cX10_fail 5 = .ok (.iload_n 1, 1) := by decide +kernel
theorem dX10_fail_6 : decode cX10_fail 6 = .ok (.iload_n 3, 1) := by decide +kernel
theorem dX10_fail_7 : decode cX10_fail 7 = .ok (.invokevirtual 165, 3) := by decide +kernel
theorem dX10_fail_10 : decode cX10_fail 10 = .ok (.istore 5, 2) := by decide +kernel
theorem dX10_fail_12 : decode cX10_fail 12 = .ok (.aload_n 0, 1) := by decide +kernel
theorem dX10_fail_13 : decode cX10_fail 13 = .ok (.iload_n 1, 1) := by decide +kernel
theorem dX10_fail_14 : decode cX10_fail 14 = .ok (.iconst 3, 1) := by decide +kernel
theorem dX10_fail_15 : decode cX10_fail 15 = .ok (.aload_n 0, 1) := by decide +kernel
theorem dX10_fail_16 : decode cX10_fail 16 = .ok (.iload_n 1, 1) := by decide +kernel
theorem dX10_fail_17 : decode cX10_fail 17 = .ok (.iload 4, 2) := by decide +kernel
theorem dX10_fail_19 : decode cX10_fail 19 = .ok (.invokevirtual 168, 3) := by decide +kernel
theorem dX10_fail_22 : decode cX10_fail 22 = .ok (.iload 5, 2) := by decide +kernel
theorem dX10_fail_24 : decode cX10_fail 24 = .ok (.invokevirtual 172, 3) := by decide +kernel
theorem dX10_fail_27 : decode cX10_fail 27 = .ok (.return_, 1) := by decide +kernel
theorem dX10_guardLevel_0 : decode cX10_guardLevel 0 = .ok (.iload_n 2, 1) := by decide +kernel
theorem dX10_guardLevel_1 : decode cX10_guardLevel 1 = .ok (.istore_n 3, 1) := by decide +kernel
theorem dX10_guardLevel_2 : decode cX10_guardLevel 2 = .ok (.iload_n 3, 1) := by decide +kernel
theorem dX10_guardLevel_3 : decode cX10_guardLevel 3 = .ok (.ifCond .lt 34, 3) := by decide +kernel
theorem dX10_guardLevel_6 : decode cX10_guardLevel 6 = .ok (.aload_n 0, 1) := by decide +kernel
theorem dX10_guardLevel_7 : decode cX10_guardLevel 7 = .ok (.getfield 30, 3) := by decide +kernel
theorem dX10_guardLevel_10 : decode cX10_guardLevel 10 = .ok (.getfield 175, 3) := by decide +kernel
theorem dX10_guardLevel_13 : decode cX10_guardLevel 13 = .ok (.aload_n 0, 1) := by decide +kernel
theorem dX10_guardLevel_14 : decode cX10_guardLevel 14 = .ok (.getfield 23, 3) := by decide +kernel
theorem dX10_guardLevel_17 : decode cX10_guardLevel 17 = .ok (.iload_n 1, 1) := by decide +kernel
theorem dX10_guardLevel_18 : decode cX10_guardLevel 18 = .ok (.iload_n 3, 1) := by decide +kernel
theorem dX10_guardLevel_19 : decode cX10_guardLevel 19 = .ok (.invokevirtual 178, 3) := by decide +kernel
theorem dX10_guardLevel_22 : decode cX10_guardLevel 22 = .ok (.invokevirtual 120, 3) := by decide +kernel
theorem dX10_guardLevel_25 : decode cX10_guardLevel 25 = .ok (.iconst 2, 1) := by decide +kernel
theorem dX10_guardLevel_26 : decode cX10_guardLevel 26 = .ok (.if_icmp .ne 5, 3) := by decide +kernel
theorem dX10_guardLevel_29 : decode cX10_guardLevel 29 = .ok (.iload_n 3, 1) := by decide +kernel
theorem dX10_guardLevel_30 : decode cX10_guardLevel 30 = .ok (.ireturn, 1) := by decide +kernel
theorem dX10_guardLevel_31 : decode cX10_guardLevel 31 = .ok (.iinc 3 (-1), 3) := by decide +kernel
theorem dX10_guardLevel_34 : decode cX10_guardLevel 34 = .ok (.goto (-32), 3) := by decide +kernel
theorem dX10_guardLevel_37 : decode cX10_guardLevel 37 = .ok (.iconst (-1), 1) := by decide +kernel
theorem dX10_guardLevel_38 : decode cX10_guardLevel 38 = .ok (.ireturn, 1) := by decide +kernel
theorem dX10_cancelChildren_0 : decode cX10_cancelChildren 0 = .ok (.iconst 0, 1) := by decide +kernel
theorem dX10_cancelChildren_1 : decode cX10_cancelChildren 1 = .ok (.istore_n 2, 1) := by decide +kernel
theorem dX10_cancelChildren_2 : decode cX10_cancelChildren 2 = .ok (.iload_n 2, 1) := by decide +kernel
theorem dX10_cancelChildren_3 : decode cX10_cancelChildren 3 = .ok (.aload_n 0, 1) := by decide +kernel
theorem dX10_cancelChildren_4 : decode cX10_cancelChildren 4 = .ok (.getfield 23, 3) := by decide +kernel
theorem dX10_cancelChildren_7 : decode cX10_cancelChildren 7 = .ok (.getfield 87, 3) := by decide +kernel
theorem dX10_cancelChildren_10 : decode cX10_cancelChildren 10 = .ok (.if_icmp .ge 32, 3) := by decide +kernel
theorem dX10_cancelChildren_13 : decode cX10_cancelChildren 13 = .ok (.aload_n 0, 1) := by decide +kernel
theorem dX10_cancelChildren_14 : decode cX10_cancelChildren 14 = .ok (.getfield 23, 3) := by decide +kernel
theorem dX10_cancelChildren_17 : decode cX10_cancelChildren 17 = .ok (.getfield 117, 3) := by decide +kernel
theorem dX10_cancelChildren_20 : decode cX10_cancelChildren 20 = .ok (.iload_n 2, 1) := by decide +kernel
theorem dX10_cancelChildren_21 : decode cX10_cancelChildren 21 = .ok (.invokevirtual 120, 3) := by decide +kernel
theorem dX10_cancelChildren_24 : decode cX10_cancelChildren 24 = .ok (.iload_n 1, 1) := by decide +kernel
theorem dX10_cancelChildren_25 : decode cX10_cancelChildren 25 = .ok (.if_icmp .ne 11, 3) := by decide +kernel
theorem dX10_cancelChildren_28 : decode cX10_cancelChildren 28 = .ok (.aload_n 0, 1) := by decide +kernel
theorem dX10_cancelChildren_29 : decode cX10_cancelChildren 29 = .ok (.iload_n 2, 1) := by decide +kernel
theorem dX10_cancelChildren_30 : decode cX10_cancelChildren 30 = .ok (.iconst 1, 1) := by decide +kernel
theorem dX10_cancelChildren_31 : decode cX10_cancelChildren 31 = .ok (.iconst (-1), 1) := by decide +kernel
theorem dX10_cancelChildren_32 : decode cX10_cancelChildren 32 = .ok (.iconst (-1), 1) := by decide +kernel
theorem dX10_cancelChildren_33 : decode cX10_cancelChildren 33 = .ok (.invokevirtual 172, 3) := by decide +kernel
theorem dX10_cancelChildren_36 : decode cX10_cancelChildren 36 = .ok (.iinc 2 1, 3) := by decide +kernel
theorem dX10_cancelChildren_39 : decode cX10_cancelChildren 39 = .ok (.goto (-37), 3) := by decide +kernel
theorem dX10_cancelChildren_42 : decode cX10_cancelChildren 42 = .ok (.return_, 1) := by decide +kernel
theorem dX11_init_0 : decode cX11_init 0 = .ok (.aload_n 0, 1) := by decide +kernel
theorem dX11_init_1 : decode cX11_init 1 = .ok (.invokespecial 3, 3) := by decide +kernel
theorem dX11_init_4 : decode cX11_init 4 = .ok (.aload_n 0, 1) := by decide +kernel
theorem dX11_init_5 : decode cX11_init 5 = .ok (.new 9, 3) := by decide +kernel
theorem dX11_init_8 : decode cX11_init 8 = .ok (.dup, 1) := by decide +kernel
theorem dX11_init_9 : decode cX11_init 9 = .ok (.bipush 60, 2) := by decide +kernel
theorem dX11_init_11 : decode cX11_init 11 = .ok (.invokespecial 11, 3) := by decide +kernel
theorem dX11_init_14 : decode cX11_init 14 = .ok (.putfield 14, 3) := by decide +kernel
theorem dX11_init_17 : decode cX11_init 17 = .ok (.aload_n 0, 1) := by decide +kernel
theorem dX11_init_18 : decode cX11_init 18 = .ok (.new 18, 3) := by decide +kernel
theorem dX11_init_21 : decode cX11_init 21 = .ok (.dup, 1) := by decide +kernel
theorem dX11_init_22 : decode cX11_init 22 = .ok (.aload_n 0, 1) := by decide +kernel
theorem dX11_init_23 : decode cX11_init 23 = .ok (.getfield 14, 3) := by decide +kernel
theorem dX11_init_26 : decode cX11_init 26 = .ok (.invokespecial 20, 3) := by decide +kernel
theorem dX11_init_29 : decode cX11_init 29 = .ok (.putfield 23, 3) := by decide +kernel
theorem dX11_init_32 : decode cX11_init 32 = .ok (.aload_n 0, 1) := by decide +kernel
theorem dX11_init_33 : decode cX11_init 33 = .ok (.new 27, 3) := by decide +kernel
theorem dX11_init_36 : decode cX11_init 36 = .ok (.dup, 1) := by decide +kernel
theorem dX11_init_37 : decode cX11_init 37 = .ok (.invokespecial 29, 3) := by decide +kernel
theorem dX11_init_40 : decode cX11_init 40 = .ok (.putfield 30, 3) := by decide +kernel
theorem dX11_init_43 : decode cX11_init 43 = .ok (.aload_n 0, 1) := by decide +kernel
theorem dX11_init_44 : decode cX11_init 44 = .ok (.new 27, 3) := by decide +kernel
theorem dX11_init_47 : decode cX11_init 47 = .ok (.dup, 1) := by decide +kernel
theorem dX11_init_48 : decode cX11_init 48 = .ok (.invokespecial 29, 3) := by decide +kernel
theorem dX11_init_51 : decode cX11_init 51 = .ok (.putfield 34, 3) := by decide +kernel
theorem dX11_init_54 : decode cX11_init 54 = .ok (.aload_n 0, 1) := by decide +kernel
theorem dX11_init_55 : decode cX11_init 55 = .ok (.new 37, 3) := by decide +kernel
theorem dX11_init_58 : decode cX11_init 58 = .ok (.dup, 1) := by decide +kernel
theorem dX11_init_59 : decode cX11_init 59 = .ok (.aload_n 0, 1) := by decide +kernel
theorem dX11_init_60 : decode cX11_init 60 = .ok (.getfield 30, 3) := by decide +kernel
theorem dX11_init_63 : decode cX11_init 63 = .ok (.invokespecial 39, 3) := by decide +kernel
theorem dX11_init_66 : decode cX11_init 66 = .ok (.putfield 42, 3) := by decide +kernel
theorem dX11_init_69 : decode cX11_init 69 = .ok (.aload_n 0, 1) := by decide +kernel
theorem dX11_init_70 : decode cX11_init 70 = .ok (.iconst (-1), 1) := by decide +kernel
theorem dX11_init_71 : decode cX11_init 71 = .ok (.putfield 46, 3) := by decide +kernel
theorem dX11_init_74 : decode cX11_init 74 = .ok (.return_, 1) := by decide +kernel
theorem dX11_append_0 : decode cX11_append 0 = .ok (.iload_n 1, 1) := by decide +kernel
theorem dX11_append_1 : decode cX11_append 1 = .ok (.invokestatic 50, 3) := by decide +kernel
theorem dX11_append_4 : decode cX11_append 4 = .ok (.istore_n 2, 1) := by decide +kernel
theorem dX11_append_5 : decode cX11_append 5 = .ok (.iload_n 2, 1) := by decide +kernel
theorem dX11_append_6 : decode cX11_append 6 = .ok (.iconst (-1), 1) := by decide +kernel
theorem dX11_append_7 : decode cX11_append 7 = .ok (.if_icmp .ne 13, 3) := by decide +kernel
theorem dX11_append_10 : decode cX11_append 10 = .ok (.new 54, 3) := by decide +kernel
theorem dX11_append_13 : decode cX11_append 13 = .ok (.dup, 1) := by decide +kernel
theorem dX11_append_14 : decode cX11_append 14 = .ok (.ldc 56, 2) := by decide +kernel
theorem dX11_append_16 : decode cX11_append 16 = .ok (.invokespecial 58, 3) := by decide +kernel
theorem dX11_append_19 : decode cX11_append 19 = .ok (.athrow, 1) := by decide +kernel
theorem dX11_append_20 : decode cX11_append 20 = .ok (.aload_n 0, 1) := by decide +kernel
theorem dX11_append_21 : decode cX11_append 21 = .ok (.getfield 14, 3) := by decide +kernel
theorem dX11_append_24 : decode cX11_append 24 = .ok (.invokevirtual 61, 3) := by decide +kernel
theorem dX11_append_27 : decode cX11_append 27 = .ok (.iload_n 2, 1) := by decide +kernel
theorem dX11_append_28 : decode cX11_append 28 = .ok (.iadd, 1) := by decide +kernel
theorem dX11_append_29 : decode cX11_append 29 = .ok (.bipush 60, 2) := by decide +kernel
theorem dX11_append_31 : decode cX11_append 31 = .ok (.if_icmp .le 13, 3) := by decide +kernel
theorem dX11_append_34 : decode cX11_append 34 = .ok (.new 65, 3) := by decide +kernel
theorem dX11_append_37 : decode cX11_append 37 = .ok (.dup, 1) := by decide +kernel
theorem dX11_append_38 : decode cX11_append 38 = .ok (.ldc 67, 2) := by decide +kernel
theorem dX11_append_40 : decode cX11_append 40 = .ok (.invokespecial 69, 3) := by decide +kernel
theorem dX11_append_43 : decode cX11_append 43 = .ok (.athrow, 1) := by decide +kernel
theorem dX11_append_44 : decode cX11_append 44 = .ok (.bipush 24, 2) := by decide +kernel
theorem dX11_append_46 : decode cX11_append 46 = .ok (.istore_n 3, 1) := by decide +kernel
theorem dX11_append_47 : decode cX11_append 47 = .ok (.iload_n 3, 1) := by decide +kernel
theorem dX11_append_48 : decode cX11_append 48 = .ok (.ifCond .lt 32, 3) := by decide +kernel
theorem dX11_append_51 : decode cX11_append 51 = .ok (.iload_n 1, 1) := by decide +kernel
theorem dX11_append_52 : decode cX11_append 52 = .ok (.iload_n 3, 1) := by decide +kernel
theorem dX11_append_53 : decode cX11_append 53 = .ok (.iushr, 1) := by decide +kernel
theorem dX11_append_54 : decode cX11_append 54 = .ok (.sipush 255, 3) := by decide +kernel
theorem dX11_append_57 : decode cX11_append 57 = .ok (.iand, 1) := by decide +kernel
theorem dX11_append_58 : decode cX11_append 58 = .ok (.istore 4, 2) := by decide +kernel
theorem dX11_append_60 : decode cX11_append 60 = .ok (.iload 4, 2) := by decide +kernel
theorem dX11_append_62 : decode cX11_append 62 = .ok (.ifCond .eq 12, 3) := by decide +kernel
theorem dX11_append_65 : decode cX11_append 65 = .ok (.aload_n 0, 1) := by decide +kernel
theorem dX11_append_66 : decode cX11_append 66 = .ok (.getfield 14, 3) := by decide +kernel
theorem dX11_append_69 : decode cX11_append 69 = .ok (.iload 4, 2) := by decide +kernel
theorem dX11_append_71 : decode cX11_append 71 = .ok (.invokevirtual 70, 3) := by decide +kernel
theorem dX11_append_74 : decode cX11_append 74 = .ok (.iinc 3 (-8), 3) := by decide +kernel
theorem dX11_append_77 : decode cX11_append 77 = .ok (.goto (-30), 3) := by decide +kernel
theorem dX11_append_80 : decode cX11_append 80 = .ok (.aload_n 0, 1) := by decide +kernel
theorem dX11_append_81 : decode cX11_append 81 = .ok (.getfield 14, 3) := by decide +kernel
theorem dX11_append_84 : decode cX11_append 84 = .ok (.invokevirtual 61, 3) := by decide +kernel
theorem dX11_append_87 : decode cX11_append 87 = .ok (.ireturn, 1) := by decide +kernel
theorem dX11_execute_0 : decode cX11_execute 0 = .ok (.aload_n 0, 1) := by decide +kernel
theorem dX11_execute_1 : decode cX11_execute 1 = .ok (.aload_n 0, 1) := by decide +kernel
theorem dX11_execute_2 : decode cX11_execute 2 = .ok (.getfield 23, 3) := by decide +kernel
theorem dX11_execute_5 : decode cX11_execute 5 = .ok (.invokevirtual 73, 3) := by decide +kernel
theorem dX11_execute_8 : decode cX11_execute 8 = .ok (.putfield 46, 3) := by decide +kernel
theorem dX11_execute_11 : decode cX11_execute 11 = .ok (.aload_n 0, 1) := by decide +kernel
theorem dX11_execute_12 : decode cX11_execute 12 = .ok (.getfield 14, 3) := by decide +kernel
theorem dX11_execute_15 : decode cX11_execute 15 = .ok (.invokevirtual 76, 3) := by decide +kernel
theorem dX11_execute_18 : decode cX11_execute 18 = .ok (.aload_n 0, 1) := by decide +kernel
theorem dX11_execute_19 : decode cX11_execute 19 = .ok (.getfield 46, 3) := by decide +kernel
theorem dX11_execute_22 : decode cX11_execute 22 = .ok (.iconst (-1), 1) := by decide +kernel
theorem dX11_execute_23 : decode cX11_execute 23 = .ok (.if_icmp .eq 13, 3) := by decide +kernel
theorem dX11_execute_26 : decode cX11_execute 26 = .ok (.new 54, 3) := by decide +kernel
theorem dX11_execute_29 : decode cX11_execute 29 = .ok (.dup, 1) := by decide +kernel
theorem dX11_execute_30 : decode cX11_execute 30 = .ok (.ldc 79, 2) := by decide +kernel
theorem dX11_execute_32 : decode cX11_execute 32 = .ok (.invokespecial 58, 3) := by decide +kernel
theorem dX11_execute_35 : decode cX11_execute 35 = .ok (.athrow, 1) := by decide +kernel
theorem dX11_execute_36 : decode cX11_execute 36 = .ok (.aload_n 0, 1) := by decide +kernel
theorem dX11_execute_37 : decode cX11_execute 37 = .ok (.getfield 23, 3) := by decide +kernel
theorem dX11_execute_40 : decode cX11_execute 40 = .ok (.aload_n 0, 1) := by decide +kernel
theorem dX11_execute_41 : decode cX11_execute 41 = .ok (.getfield 30, 3) := by decide +kernel
theorem dX11_execute_44 : decode cX11_execute 44 = .ok (.invokevirtual 81, 3) := by decide +kernel
theorem dX11_execute_47 : decode cX11_execute 47 = .ok (.ifCond .ne 13, 3) := by decide +kernel
theorem dX11_execute_50 : decode cX11_execute 50 = .ok (.new 65, 3) := by decide +kernel
theorem dX11_execute_53 : decode cX11_execute 53 = .ok (.dup, 1) := by decide +kernel
theorem dX11_execute_54 : decode cX11_execute 54 = .ok (.ldc 85, 2) := by decide +kernel
theorem dX11_execute_56 : decode cX11_execute 56 = .ok (.invokespecial 69, 3) := by decide +kernel
theorem dX11_execute_59 : decode cX11_execute 59 = .ok (.athrow, 1) := by decide +kernel
theorem dX11_execute_60 : decode cX11_execute 60 = .ok (.aload_n 0, 1) := by decide +kernel
theorem dX11_execute_61 : decode cX11_execute 61 = .ok (.getfield 23, 3) := by decide +kernel
theorem dX11_execute_64 : decode cX11_execute 64 = .ok (.aload_n 0, 1) := by decide +kernel
theorem dX11_execute_65 : decode cX11_execute 65 = .ok (.getfield 30, 3) := by decide +kernel
theorem dX11_execute_68 : decode cX11_execute 68 = .ok (.invokevirtual 87, 3) := by decide +kernel
theorem dX11_execute_71 : decode cX11_execute 71 = .ok (.aload_n 0, 1) := by decide +kernel
theorem dX11_execute_72 : decode cX11_execute 72 = .ok (.getfield 23, 3) := by decide +kernel
theorem dX11_execute_75 : decode cX11_execute 75 = .ok (.invokevirtual 90, 3) := by decide +kernel
theorem dX11_execute_78 : decode cX11_execute 78 = .ok (.ireturn, 1) := by decide +kernel
theorem dX11_errorPosition_0 : decode cX11_errorPosition 0 = .ok (.aload_n 0, 1) := by decide +kernel
theorem dX11_errorPosition_1 : decode cX11_errorPosition 1 = .ok (.getfield 46, 3) := by decide +kernel
theorem dX11_errorPosition_4 : decode cX11_errorPosition 4 = .ok (.ireturn, 1) := by decide +kernel
theorem dX11_program_0 : decode cX11_program 0 = .ok (.iload_n 1, 1) := by decide +kernel
theorem dX11_program_1 : decode cX11_program 1 = .ok (.ifCond .lt 9, 3) := by decide +kernel
theorem dX11_program_4 : decode cX11_program 4 = .ok (.iload_n 1, 1) := by decide +kernel
theorem dX11_program_5 : decode cX11_program 5 = .ok (.bipush 6, 2) := by decide +kernel
theorem dX11_program_7 : decode cX11_program 7 = .ok (.if_icmp .lt 13, 3) := by decide +kernel
theorem dX11_program_10 : decode cX11_program 10 = .ok (.new 93, 3) := by decide +kernel
theorem dX11_program_13 : decode cX11_program 13 = .ok (.dup, 1) := by decide +kernel
theorem dX11_program_14 : decode cX11_program 14 = .ok (.ldc 95, 2) := by decide +kernel
theorem dX11_program_16 : decode cX11_program 16 = .ok (.invokespecial 97, 3) := by decide +kernel
theorem dX11_program_19 : decode cX11_program 19 = .ok (.athrow, 1) := by decide +kernel
theorem dX11_program_20 : decode cX11_program 20 = .ok (.aload_n 0, 1) := by decide +kernel
theorem dX11_program_21 : decode cX11_program 21 = .ok (.getfield 30, 3) := by decide +kernel
theorem dX11_program_24 : decode cX11_program 24 = .ok (.getfield 98, 3) := by decide +kernel
theorem dX11_program_27 : decode cX11_program 27 = .ok (.iload_n 1, 1) := by decide +kernel
theorem dX11_program_28 : decode cX11_program 28 = .ok (.invokevirtual 102, 3) := by decide +kernel
theorem dX11_program_31 : decode cX11_program 31 = .ok (.istore_n 3, 1) := by decide +kernel
theorem dX11_program_32 : decode cX11_program 32 = .ok (.iload_n 2, 1) := by decide +kernel
theorem dX11_program_33 : decode cX11_program 33 = .ok (.iconst (-1), 1) := by decide +kernel
theorem dX11_program_34 : decode cX11_program 34 = .ok (.if_icmp .lt 8, 3) := by decide +kernel
theorem dX11_program_37 : decode cX11_program 37 = .ok (.iload_n 2, 1) := by decide +kernel
theorem dX11_program_38 : decode cX11_program 38 = .ok (.iload_n 3, 1) := by decide +kernel
theorem dX11_program_39 : decode cX11_program 39 = .ok (.if_icmp .lt 13, 3) := by decide +kernel
theorem dX11_program_42 : decode cX11_program 42 = .ok (.new 93, 3) := by decide +kernel
theorem dX11_program_45 : decode cX11_program 45 = .ok (.dup, 1) := by decide +kernel
theorem dX11_program_46 : decode cX11_program 46 = .ok (.ldc 107, 2) := by decide +kernel
theorem dX11_program_48 : decode cX11_program 48 = .ok (.invokespecial 97, 3) := by decide +kernel
theorem dX11_program_51 : decode cX11_program 51 = .ok (.athrow, 1) := by decide +kernel
theorem dX11_program_52 : decode cX11_program 52 = .ok (.iload_n 2, 1) := by decide +kernel
theorem dX11_program_53 : decode cX11_program 53 = .ok (.iconst (-1), 1) := by decide +kernel
theorem dX11_program_54 : decode cX11_program 54 = .ok (.if_icmp .ne 7, 3) := by decide +kernel
theorem dX11_program_57 : decode cX11_program 57 = .ok (.iload_n 3, 1) := by decide +kernel
theorem dX11_program_58 : decode cX11_program 58 = .ok (.goto 15, 3) := by decide +kernel
theorem dX11_program_61 : decode cX11_program 61 = .ok (.aload_n 0, 1) := by decide +kernel
theorem dX11_program_62 : decode cX11_program 62 = .ok (.getfield 30, 3) := by decide +kernel
theorem dX11_program_65 : decode cX11_program 65 = .ok (.getfield 98, 3) := by decide +kernel
theorem dX11_program_68 : decode cX11_program 68 = .ok (.iload_n 1, 1) := by decide +kernel
theorem dX11_program_69 : decode cX11_program 69 = .ok (.iload_n 2, 1) := by decide +kernel
theorem dX11_program_70 : decode cX11_program 70 = .ok (.invokevirtual 109, 3) := by decide +kernel
theorem dX11_program_73 : decode cX11_program 73 = .ok (.ireturn, 1) := by decide +kernel
theorem dX11_reset_0 : decode cX11_reset 0 = .ok (.aload_n 0, 1) := by decide +kernel
theorem dX11_reset_1 : decode cX11_reset 1 = .ok (.getfield 30, 3) := by decide +kernel
theorem dX11_reset_4 : decode cX11_reset 4 = .ok (.invokevirtual 113, 3) := by decide +kernel
theorem dX11_reset_7 : decode cX11_reset 7 = .ok (.istore_n 1, 1) := by decide +kernel
theorem dX11_reset_8 : decode cX11_reset 8 = .ok (.aload_n 0, 1) := by decide +kernel
theorem dX11_reset_9 : decode cX11_reset 9 = .ok (.getfield 30, 3) := by decide +kernel
theorem dX11_reset_12 : decode cX11_reset 12 = .ok (.invokevirtual 116, 3) := by decide +kernel
theorem dX11_reset_15 : decode cX11_reset 15 = .ok (.iload_n 1, 1) := by decide +kernel
theorem dX11_reset_16 : decode cX11_reset 16 = .ok (.ireturn, 1) := by decide +kernel
theorem dX11_start_0 : decode cX11_start 0 = .ok (.iload_n 1, 1) := by decide +kernel
theorem dX11_start_1 : decode cX11_start 1 = .ok (.ifCond .lt 9, 3) := by decide +kernel
theorem dX11_start_4 : decode cX11_start 4 = .ok (.iload_n 1, 1) := by decide +kernel
theorem dX11_start_5 : decode cX11_start 5 = .ok (.bipush 6, 2) := by decide +kernel
theorem dX11_start_7 : decode cX11_start 7 = .ok (.if_icmp .lt 13, 3) := by decide +kernel
theorem dX11_start_10 : decode cX11_start 10 = .ok (.new 93, 3) := by decide +kernel
theorem dX11_start_13 : decode cX11_start 13 = .ok (.dup, 1) := by decide +kernel
theorem dX11_start_14 : decode cX11_start 14 = .ok (.ldc 95, 2) := by decide +kernel
theorem dX11_start_16 : decode cX11_start 16 = .ok (.invokespecial 97, 3) := by decide +kernel
theorem dX11_start_19 : decode cX11_start 19 = .ok (.athrow, 1) := by decide +kernel
theorem dX11_start_20 : decode cX11_start 20 = .ok (.aload_n 0, 1) := by decide +kernel
theorem dX11_start_21 : decode cX11_start 21 = .ok (.getfield 30, 3) := by decide +kernel
theorem dX11_start_24 : decode cX11_start 24 = .ok (.iload_n 1, 1) := by decide +kernel
theorem dX11_start_25 : decode cX11_start 25 = .ok (.iconst (-1), 1) := by decide +kernel
theorem dX11_start_26 : decode cX11_start 26 = .ok (.invokevirtual 119, 3) := by decide +kernel
theorem dX11_start_29 : decode cX11_start 29 = .ok (.istore_n 2, 1) := by decide +kernel
theorem dX11_start_30 : decode cX11_start 30 = .ok (.iload_n 2, 1) := by decide +kernel
theorem dX11_start_31 : decode cX11_start 31 = .ok (.iconst (-1), 1) := by decide +kernel
theorem dX11_start_32 : decode cX11_start 32 = .ok (.if_icmp .ne 13, 3) := by decide +kernel
theorem dX11_start_35 : decode cX11_start 35 = .ok (.new 65, 3) := by decide +kernel
theorem dX11_start_38 : decode cX11_start 38 = .ok (.dup, 1) := by decide +kernel
theorem dX11_start_39 : decode cX11_start 39 = .ok (.ldc 122, 2) := by decide +kernel
theorem dX11_start_41 : decode cX11_start 41 = .ok (.invokespecial 69, 3) := by decide +kernel
theorem dX11_start_44 : decode cX11_start 44 = .ok (.athrow, 1) := by decide +kernel
theorem dX11_start_45 : decode cX11_start 45 = .ok (.iload_n 2, 1) := by decide +kernel
theorem dX11_start_46 : decode cX11_start 46 = .ok (.ireturn, 1) := by decide +kernel
theorem dX11_cancel_0 : decode cX11_cancel 0 = .ok (.aload_n 0, 1) := by decide +kernel
theorem dX11_cancel_1 : decode cX11_cancel 1 = .ok (.getfield 30, 3) := by decide +kernel
theorem dX11_cancel_4 : decode cX11_cancel 4 = .ok (.getfield 124, 3) := by decide +kernel
theorem dX11_cancel_7 : decode cX11_cancel 7 = .ok (.iload_n 1, 1) := by decide +kernel
theorem dX11_cancel_8 : decode cX11_cancel 8 = .ok (.invokevirtual 128, 3) := by decide +kernel
theorem dX11_cancel_11 : decode cX11_cancel 11 = .ok (.ifCond .ne 13, 3) := by decide +kernel
theorem dX11_cancel_14 : decode cX11_cancel 14 = .ok (.new 93, 3) := by decide +kernel
theorem dX11_cancel_17 : decode cX11_cancel 17 = .ok (.dup, 1) := by decide +kernel
theorem dX11_cancel_18 : decode cX11_cancel 18 = .ok (.ldc 134, 2) := by decide +kernel
theorem dX11_cancel_20 : decode cX11_cancel 20 = .ok (.invokespecial 97, 3) := by decide +kernel
theorem dX11_cancel_23 : decode cX11_cancel 23 = .ok (.athrow, 1) := by decide +kernel
theorem dX11_cancel_24 : decode cX11_cancel 24 = .ok (.aload_n 0, 1) := by decide +kernel
theorem dX11_cancel_25 : decode cX11_cancel 25 = .ok (.getfield 30, 3) := by decide +kernel
theorem dX11_cancel_28 : decode cX11_cancel 28 = .ok (.iload_n 1, 1) := by decide +kernel
theorem dX11_cancel_29 : decode cX11_cancel 29 = .ok (.iconst 1, 1) := by decide +kernel
theorem dX11_cancel_30 : decode cX11_cancel 30 = .ok (.iconst (-1), 1) := by decide +kernel
theorem dX11_cancel_31 : decode cX11_cancel 31 = .ok (.iconst (-1), 1) := by decide +kernel
theorem dX11_cancel_32 : decode cX11_cancel 32 = .ok (.invokevirtual 136, 3) := by decide +kernel
theorem dX11_cancel_35 : decode cX11_cancel 35 = .ok (.aload_n 0, 1) := by decide +kernel
theorem dX11_cancel_36 : decode cX11_cancel 36 = .ok (.getfield 30, 3) := by decide +kernel
theorem dX11_cancel_39 : decode cX11_cancel 39 = .ok (.getfield 124, 3) := by decide +kernel
theorem dX11_cancel_42 : decode cX11_cancel 42 = .ok (.getfield 140, 3) := by decide +kernel
theorem dX11_cancel_45 : decode cX11_cancel 45 = .ok (.iload_n 1, 1) := by decide +kernel
theorem dX11_cancel_46 : decode cX11_cancel 46 = .ok (.invokevirtual 144, 3) := by decide +kernel
theorem dX11_cancel_49 : decode cX11_cancel 49 = .ok (.ireturn, 1) := by decide +kernel
theorem dX11_run_0 : decode cX11_run 0 = .ok (.iload_n 1, 1) := by decide +kernel
theorem dX11_run_1 : decode cX11_run 1 = .ok (.iconst 1, 1) := by decide +kernel
theorem dX11_run_2 : decode cX11_run 2 = .ok (.if_icmp .lt 9, 3) := by decide +kernel
theorem dX11_run_5 : decode cX11_run 5 = .ok (.iload_n 1, 1) := by decide +kernel
theorem dX11_run_6 : decode cX11_run 6 = .ok (.bipush 100, 2) := by decide +kernel
theorem dX11_run_8 : decode cX11_run 8 = .ok (.if_icmp .le 13, 3) := by decide +kernel
theorem dX11_run_11 : decode cX11_run 11 = .ok (.new 54, 3) := by decide +kernel
theorem dX11_run_14 : decode cX11_run 14 = .ok (.dup, 1) := by decide +kernel
theorem dX11_run_15 : decode cX11_run 15 = .ok (.ldc 148, 2) := by decide +kernel
theorem dX11_run_17 : decode cX11_run 17 = .ok (.invokespecial 58, 3) := by decide +kernel
theorem dX11_run_20 : decode cX11_run 20 = .ok (.athrow, 1) := by decide +kernel
theorem dX11_run_21 : decode cX11_run 21 = .ok (.iconst 0, 1) := by decide +kernel
theorem dX11_run_22 : decode cX11_run 22 = .ok (.istore_n 2, 1) := by decide +kernel
theorem dX11_run_23 : decode cX11_run 23 = .ok (.iload_n 2, 1) := by decide +kernel
theorem dX11_run_24 : decode cX11_run 24 = .ok (.iload_n 1, 1) := by decide +kernel
theorem dX11_run_25 : decode cX11_run 25 = .ok (.if_icmp .ge 19, 3) := by decide +kernel
theorem dX11_run_28 : decode cX11_run 28 = .ok (.aload_n 0, 1) := by decide +kernel
theorem dX11_run_29 : decode cX11_run 29 = .ok (.getfield 42, 3) := by decide +kernel
theorem dX11_run_32 : decode cX11_run 32 = .ok (.invokevirtual 150, 3) := by decide +kernel
theorem dX11_run_35 : decode cX11_run 35 = .ok (.ifCond .eq 9, 3) := by decide +kernel
theorem dX11_run_38 : decode cX11_run 38 = .ok (.iinc 2 1, 3) := by decide +kernel
theorem dX11_run_41 : decode cX11_run 41 = .ok (.goto (-18), 3) := by decide +kernel
theorem dX11_run_44 : decode cX11_run 44 = .ok (.iload_n 2, 1) := by decide +kernel
theorem dX11_run_45 : decode cX11_run 45 = .ok (.ireturn, 1) := by decide +kernel
theorem dX11_next_0 : decode cX11_next 0 = .ok (.aload_n 0, 1) := by decide +kernel
theorem dX11_next_1 : decode cX11_next 1 = .ok (.getfield 42, 3) := by decide +kernel
theorem dX11_next_4 : decode cX11_next 4 = .ok (.invokevirtual 154, 3) := by decide +kernel
theorem dX11_next_7 : decode cX11_next 7 = .ok (.ireturn, 1) := by decide +kernel
theorem dX11_task_0 : decode cX11_task 0 = .ok (.aload_n 0, 1) := by decide +kernel
theorem dX11_task_1 : decode cX11_task 1 = .ok (.getfield 30, 3) := by decide +kernel
theorem dX11_task_4 : decode cX11_task 4 = .ok (.getfield 124, 3) := by decide +kernel
theorem dX11_task_7 : decode cX11_task 7 = .ok (.iload_n 1, 1) := by decide +kernel
theorem dX11_task_8 : decode cX11_task 8 = .ok (.invokevirtual 128, 3) := by decide +kernel
theorem dX11_task_11 : decode cX11_task 11 = .ok (.ifCond .ne 13, 3) := by decide +kernel
theorem dX11_task_14 : decode cX11_task 14 = .ok (.new 93, 3) := by decide +kernel
theorem dX11_task_17 : decode cX11_task 17 = .ok (.dup, 1) := by decide +kernel
theorem dX11_task_18 : decode cX11_task 18 = .ok (.ldc 134, 2) := by decide +kernel
theorem dX11_task_20 : decode cX11_task 20 = .ok (.invokespecial 97, 3) := by decide +kernel
theorem dX11_task_23 : decode cX11_task 23 = .ok (.athrow, 1) := by decide +kernel
theorem dX11_task_24 : decode cX11_task 24 = .ok (.iload_n 2, 1) := by decide +kernel
theorem dX11_task_25 : decode cX11_task 25 = .ok (.ifCond .lt 9, 3) := by decide +kernel
theorem dX11_task_28 : decode cX11_task 28 = .ok (.iload_n 2, 1) := by decide +kernel
theorem dX11_task_29 : decode cX11_task 29 = .ok (.bipush 9, 2) := by decide +kernel
theorem dX11_task_31 : decode cX11_task 31 = .ok (.if_icmp .le 13, 3) := by decide +kernel
theorem dX11_task_34 : decode cX11_task 34 = .ok (.new 54, 3) := by decide +kernel
theorem dX11_task_37 : decode cX11_task 37 = .ok (.dup, 1) := by decide +kernel
theorem dX11_task_38 : decode cX11_task 38 = .ok (.ldc 157, 2) := by decide +kernel
theorem dX11_task_40 : decode cX11_task 40 = .ok (.invokespecial 58, 3) := by decide +kernel
theorem dX11_task_43 : decode cX11_task 43 = .ok (.athrow, 1) := by decide +kernel
theorem dX11_task_44 : decode cX11_task 44 = .ok (.aload_n 0, 1) := by decide +kernel
theorem dX11_task_45 : decode cX11_task 45 = .ok (.getfield 30, 3) := by decide +kernel
theorem dX11_task_48 : decode cX11_task 48 = .ok (.getfield 124, 3) := by decide +kernel
theorem dX11_task_51 : decode cX11_task 51 = .ok (.iload_n 1, 1) := by decide +kernel
theorem dX11_task_52 : decode cX11_task 52 = .ok (.iload_n 2, 1) := by decide +kernel
theorem dX11_task_53 : decode cX11_task 53 = .ok (.invokevirtual 159, 3) := by decide +kernel
theorem dX11_task_56 : decode cX11_task 56 = .ok (.ireturn, 1) := by decide +kernel
theorem dX11_scope_0 : decode cX11_scope 0 = .ok (.aload_n 0, 1) := by decide +kernel
theorem dX11_scope_1 : decode cX11_scope 1 = .ok (.getfield 30, 3) := by decide +kernel
theorem dX11_scope_4 : decode cX11_scope 4 = .ok (.getfield 162, 3) := by decide +kernel
theorem dX11_scope_7 : decode cX11_scope 7 = .ok (.iload_n 1, 1) := by decide +kernel
theorem dX11_scope_8 : decode cX11_scope 8 = .ok (.invokevirtual 166, 3) := by decide +kernel
theorem dX11_scope_11 : decode cX11_scope 11 = .ok (.ifCond .ne 13, 3) := by decide +kernel
theorem dX11_scope_14 : decode cX11_scope 14 = .ok (.new 93, 3) := by decide +kernel
theorem dX11_scope_17 : decode cX11_scope 17 = .ok (.dup, 1) := by decide +kernel
theorem dX11_scope_18 : decode cX11_scope 18 = .ok (.ldc 169, 2) := by decide +kernel
theorem dX11_scope_20 : decode cX11_scope 20 = .ok (.invokespecial 97, 3) := by decide +kernel
theorem dX11_scope_23 : decode cX11_scope 23 = .ok (.athrow, 1) := by decide +kernel
theorem dX11_scope_24 : decode cX11_scope 24 = .ok (.iload_n 2, 1) := by decide +kernel
theorem dX11_scope_25 : decode cX11_scope 25 = .ok (.ifCond .lt 9, 3) := by decide +kernel
theorem dX11_scope_28 : decode cX11_scope 28 = .ok (.iload_n 2, 1) := by decide +kernel
theorem dX11_scope_29 : decode cX11_scope 29 = .ok (.bipush 7, 2) := by decide +kernel
theorem dX11_scope_31 : decode cX11_scope 31 = .ok (.if_icmp .le 13, 3) := by decide +kernel
theorem dX11_scope_34 : decode cX11_scope 34 = .ok (.new 54, 3) := by decide +kernel
theorem dX11_scope_37 : decode cX11_scope 37 = .ok (.dup, 1) := by decide +kernel
theorem dX11_scope_38 : decode cX11_scope 38 = .ok (.ldc 171, 2) := by decide +kernel
theorem dX11_scope_40 : decode cX11_scope 40 = .ok (.invokespecial 58, 3) := by decide +kernel
theorem dX11_scope_43 : decode cX11_scope 43 = .ok (.athrow, 1) := by decide +kernel
theorem dX11_scope_44 : decode cX11_scope 44 = .ok (.aload_n 0, 1) := by decide +kernel
theorem dX11_scope_45 : decode cX11_scope 45 = .ok (.getfield 30, 3) := by decide +kernel
theorem dX11_scope_48 : decode cX11_scope 48 = .ok (.getfield 162, 3) := by decide +kernel
theorem dX11_scope_51 : decode cX11_scope 51 = .ok (.iload_n 1, 1) := by decide +kernel
theorem dX11_scope_52 : decode cX11_scope 52 = .ok (.iload_n 2, 1) := by decide +kernel
theorem dX11_scope_53 : decode cX11_scope 53 = .ok (.invokevirtual 173, 3) := by decide +kernel
theorem dX11_scope_56 : decode cX11_scope 56 = .ok (.ireturn, 1) := by decide +kernel
theorem dX11_failure_0 : decode cX11_failure 0 = .ok (.aload_n 0, 1) := by decide +kernel
theorem dX11_failure_1 : decode cX11_failure 1 = .ok (.getfield 30, 3) := by decide +kernel
theorem dX11_failure_4 : decode cX11_failure 4 = .ok (.getfield 124, 3) := by decide +kernel
theorem dX11_failure_7 : decode cX11_failure 7 = .ok (.iload_n 1, 1) := by decide +kernel
theorem dX11_failure_8 : decode cX11_failure 8 = .ok (.invokevirtual 128, 3) := by decide +kernel
theorem dX11_failure_11 : decode cX11_failure 11 = .ok (.ifCond .ne 13, 3) := by decide +kernel
theorem dX11_failure_14 : decode cX11_failure 14 = .ok (.new 93, 3) := by decide +kernel
theorem dX11_failure_17 : decode cX11_failure 17 = .ok (.dup, 1) := by decide +kernel
theorem dX11_failure_18 : decode cX11_failure 18 = .ok (.ldc 134, 2) := by decide +kernel
theorem dX11_failure_20 : decode cX11_failure 20 = .ok (.invokespecial 97, 3) := by decide +kernel
theorem dX11_failure_23 : decode cX11_failure 23 = .ok (.athrow, 1) := by decide +kernel
theorem dX11_failure_24 : decode cX11_failure 24 = .ok (.iload_n 3, 1) := by decide +kernel
theorem dX11_failure_25 : decode cX11_failure 25 = .ok (.ifCond .eq 18, 3) := by decide +kernel
theorem dX11_failure_28 : decode cX11_failure 28 = .ok (.iload_n 3, 1) := by decide +kernel
theorem dX11_failure_29 : decode cX11_failure 29 = .ok (.iconst 1, 1) := by decide +kernel
theorem dX11_failure_30 : decode cX11_failure 30 = .ok (.if_icmp .eq 13, 3) := by decide +kernel
theorem dX11_failure_33 : decode cX11_failure 33 = .ok (.new 54, 3) := by decide +kernel
theorem dX11_failure_36 : decode cX11_failure 36 = .ok (.dup, 1) := by decide +kernel
theorem dX11_failure_37 : decode cX11_failure 37 = .ok (.ldc 174, 2) := by decide +kernel
theorem dX11_failure_39 : decode cX11_failure 39 = .ok (.invokespecial 58, 3) := by decide +kernel
theorem dX11_failure_42 : decode cX11_failure 42 = .ok (.athrow, 1) := by decide +kernel
theorem dX11_failure_43 : decode cX11_failure 43 = .ok (.aload_n 0, 1) := by decide +kernel
theorem dX11_failure_44 : decode cX11_failure 44 = .ok (.getfield 30, 3) := by decide +kernel
theorem dX11_failure_47 : decode cX11_failure 47 = .ok (.getfield 176, 3) := by decide +kernel
theorem dX11_failure_50 : decode cX11_failure 50 = .ok (.aload_n 0, 1) := by decide +kernel
theorem dX11_failure_51 : decode cX11_failure 51 = .ok (.getfield 30, 3) := by decide +kernel
theorem dX11_failure_54 : decode cX11_failure 54 = .ok (.getfield 124, 3) := by decide +kernel
theorem dX11_failure_57 : decode cX11_failure 57 = .ok (.getfield 180, 3) := by decide +kernel
theorem dX11_failure_60 : decode cX11_failure 60 = .ok (.iload_n 1, 1) := by decide +kernel
theorem dX11_failure_61 : decode cX11_failure 61 = .ok (.invokevirtual 144, 3) := by decide +kernel
theorem dX11_failure_64 : decode cX11_failure 64 = .ok (.iload_n 2, 1) := by decide +kernel
theorem dX11_failure_65 : decode cX11_failure 65 = .ok (.invokevirtual 183, 3) := by decide +kernel
theorem dX11_failure_68 : decode cX11_failure 68 = .ok (.istore 4, 2) := by decide +kernel
theorem dX11_failure_70 : decode cX11_failure 70 = .ok (.iload 4, 2) := by decide +kernel
theorem dX11_failure_72 : decode cX11_failure 72 = .ok (.iconst (-1), 1) := by decide +kernel
theorem dX11_failure_73 : decode cX11_failure 73 = .ok (.if_icmp .ne 13, 3) := by decide +kernel
theorem dX11_failure_76 : decode cX11_failure 76 = .ok (.new 188, 3) := by decide +kernel
theorem dX11_failure_79 : decode cX11_failure 79 = .ok (.dup, 1) := by decide +kernel
theorem dX11_failure_80 : decode cX11_failure 80 = .ok (.ldc 190, 2) := by decide +kernel
theorem dX11_failure_82 : decode cX11_failure 82 = .ok (.invokespecial 192, 3) := by decide +kernel
theorem dX11_failure_85 : decode cX11_failure 85 = .ok (.athrow, 1) := by decide +kernel
theorem dX11_failure_86 : decode cX11_failure 86 = .ok (.iload_n 3, 1) := by decide +kernel
theorem dX11_failure_87 : decode cX11_failure 87 = .ok (.ifCond .ne 21, 3) := by decide +kernel
theorem dX11_failure_90 : decode cX11_failure 90 = .ok (.aload_n 0, 1) := by decide +kernel
theorem dX11_failure_91 : decode cX11_failure 91 = .ok (.getfield 30, 3) := by decide +kernel
theorem dX11_failure_94 : decode cX11_failure 94 = .ok (.getfield 176, 3) := by decide +kernel
theorem dX11_failure_97 : decode cX11_failure 97 = .ok (.getfield 193, 3) := by decide +kernel
theorem dX11_failure_100 : decode cX11_failure 100 = .ok (.iload 4, 2) := by decide +kernel
theorem dX11_failure_102 : decode cX11_failure 102 = .ok (.invokevirtual 196, 3) := by decide +kernel
theorem dX11_failure_105 : decode cX11_failure 105 = .ok (.goto 18, 3) := by decide +kernel
theorem dX11_failure_108 : decode cX11_failure 108 = .ok (.aload_n 0, 1) := by decide +kernel
theorem dX11_failure_109 : decode cX11_failure 109 = .ok (.getfield 30, 3) := by decide +kernel
theorem dX11_failure_112 : decode cX11_failure 112 = .ok (.getfield 176, 3) := by decide +kernel
theorem dX11_failure_115 : decode cX11_failure 115 = .ok (.getfield 197, 3) := by decide +kernel
theorem dX11_failure_118 : decode cX11_failure 118 = .ok (.iload 4, 2) := by decide +kernel
theorem dX11_failure_120 : decode cX11_failure 120 = .ok (.invokevirtual 196, 3) := by decide +kernel
theorem dX11_failure_123 : decode cX11_failure 123 = .ok (.ireturn, 1) := by decide +kernel
theorem dX11_ready_0 : decode cX11_ready 0 = .ok (.aload_n 0, 1) := by decide +kernel
theorem dX11_ready_1 : decode cX11_ready 1 = .ok (.getfield 30, 3) := by decide +kernel
theorem dX11_ready_4 : decode cX11_ready 4 = .ok (.getfield 199, 3) := by decide +kernel
theorem dX11_ready_7 : decode cX11_ready 7 = .ok (.iload_n 1, 1) := by decide +kernel
theorem dX11_ready_8 : decode cX11_ready 8 = .ok (.invokevirtual 202, 3) := by decide +kernel
theorem dX11_ready_11 : decode cX11_ready 11 = .ok (.ifCond .ne 13, 3) := by decide +kernel
theorem dX11_ready_14 : decode cX11_ready 14 = .ok (.new 188, 3) := by decide +kernel
theorem dX11_ready_17 : decode cX11_ready 17 = .ok (.dup, 1) := by decide +kernel
theorem dX11_ready_18 : decode cX11_ready 18 = .ok (.ldc 203, 2) := by decide +kernel
theorem dX11_ready_20 : decode cX11_ready 20 = .ok (.invokespecial 192, 3) := by decide +kernel
theorem dX11_ready_23 : decode cX11_ready 23 = .ok (.athrow, 1) := by decide +kernel
theorem dX11_ready_24 : decode cX11_ready 24 = .ok (.aload_n 0, 1) := by decide +kernel
theorem dX11_ready_25 : decode cX11_ready 25 = .ok (.getfield 30, 3) := by decide +kernel
theorem dX11_ready_28 : decode cX11_ready 28 = .ok (.getfield 199, 3) := by decide +kernel
theorem dX11_ready_31 : decode cX11_ready 31 = .ok (.iload_n 1, 1) := by decide +kernel
theorem dX11_ready_32 : decode cX11_ready 32 = .ok (.invokevirtual 196, 3) := by decide +kernel
theorem dX11_ready_35 : decode cX11_ready 35 = .ok (.ireturn, 1) := by decide +kernel
theorem dX11_ended_0 : decode cX11_ended 0 = .ok (.aload_n 0, 1) := by decide +kernel
theorem dX11_ended_1 : decode cX11_ended 1 = .ok (.getfield 30, 3) := by decide +kernel
theorem dX11_ended_4 : decode cX11_ended 4 = .ok (.getfield 205, 3) := by decide +kernel
theorem dX11_ended_7 : decode cX11_ended 7 = .ok (.iload_n 1, 1) := by decide +kernel
theorem dX11_ended_8 : decode cX11_ended 8 = .ok (.invokevirtual 202, 3) := by decide +kernel
theorem dX11_ended_11 : decode cX11_ended 11 = .ok (.ifCond .ne 13, 3) := by decide +kernel
theorem dX11_ended_14 : decode cX11_ended 14 = .ok (.new 188, 3) := by decide +kernel
theorem dX11_ended_17 : decode cX11_ended 17 = .ok (.dup, 1) := by decide +kernel
theorem dX11_ended_18 : decode cX11_ended 18 = .ok (.ldc 208, 2) := by decide +kernel
theorem dX11_ended_20 : decode cX11_ended 20 = .ok (.invokespecial 192, 3) := by decide +kernel
theorem dX11_ended_23 : decode cX11_ended 23 = .ok (.athrow, 1) := by decide +kernel
theorem dX11_ended_24 : decode cX11_ended 24 = .ok (.aload_n 0, 1) := by decide +kernel
theorem dX11_ended_25 : decode cX11_ended 25 = .ok (.getfield 30, 3) := by decide +kernel
theorem dX11_ended_28 : decode cX11_ended 28 = .ok (.getfield 205, 3) := by decide +kernel
theorem dX11_ended_31 : decode cX11_ended 31 = .ok (.iload_n 1, 1) := by decide +kernel
theorem dX11_ended_32 : decode cX11_ended 32 = .ok (.invokevirtual 196, 3) := by decide +kernel
theorem dX11_ended_35 : decode cX11_ended 35 = .ok (.ireturn, 1) := by decide +kernel
theorem dX11_isAbove_0 : decode cX11_isAbove 0 = .ok (.aload_n 0, 1) := by decide +kernel
theorem dX11_isAbove_1 : decode cX11_isAbove 1 = .ok (.getfield 30, 3) := by decide +kernel
theorem dX11_isAbove_4 : decode cX11_isAbove 4 = .ok (.getfield 124, 3) := by decide +kernel
theorem dX11_isAbove_7 : decode cX11_isAbove 7 = .ok (.iload_n 1, 1) := by decide +kernel
theorem dX11_isAbove_8 : decode cX11_isAbove 8 = .ok (.invokevirtual 128, 3) := by decide +kernel
theorem dX11_isAbove_11 : decode cX11_isAbove 11 = .ok (.ifCond .eq 17, 3) := by decide +kernel
theorem dX11_isAbove_14 : decode cX11_isAbove 14 = .ok (.aload_n 0, 1) := by decide +kernel
theorem dX11_isAbove_15 : decode cX11_isAbove 15 = .ok (.getfield 30, 3) := by decide +kernel
theorem dX11_isAbove_18 : decode cX11_isAbove 18 = .ok (.getfield 124, 3) := by decide +kernel
theorem dX11_isAbove_21 : decode cX11_isAbove 21 = .ok (.iload_n 2, 1) := by decide +kernel
theorem dX11_isAbove_22 : decode cX11_isAbove 22 = .ok (.invokevirtual 128, 3) := by decide +kernel
theorem dX11_isAbove_25 : decode cX11_isAbove 25 = .ok (.ifCond .ne 13, 3) := by decide +kernel
theorem dX11_isAbove_28 : decode cX11_isAbove 28 = .ok (.new 93, 3) := by decide +kernel
theorem dX11_isAbove_31 : decode cX11_isAbove 31 = .ok (.dup, 1) := by decide +kernel
theorem dX11_isAbove_32 : decode cX11_isAbove 32 = .ok (.ldc 134, 2) := by decide +kernel
theorem dX11_isAbove_34 : decode cX11_isAbove 34 = .ok (.invokespecial 97, 3) := by decide +kernel
theorem dX11_isAbove_37 : decode cX11_isAbove 37 = .ok (.athrow, 1) := by decide +kernel
theorem dX11_isAbove_38 : decode cX11_isAbove 38 = .ok (.aload_n 0, 1) := by decide +kernel
theorem dX11_isAbove_39 : decode cX11_isAbove 39 = .ok (.getfield 30, 3) := by decide +kernel
theorem dX11_isAbove_42 : decode cX11_isAbove 42 = .ok (.iload_n 2, 1) := by decide +kernel
theorem dX11_isAbove_43 : decode cX11_isAbove 43 = .ok (.invokevirtual 210, 3) := by decide +kernel
theorem dX11_isAbove_46 : decode cX11_isAbove 46 = .ok (.istore_n 3, 1) := by decide +kernel
theorem dX11_isAbove_47 : decode cX11_isAbove 47 = .ok (.iconst 0, 1) := by decide +kernel
theorem dX11_isAbove_48 : decode cX11_isAbove 48 = .ok (.istore 4, 2) := by decide +kernel
theorem dX11_isAbove_50 : decode cX11_isAbove 50 = .ok (.iload 4, 2) := by decide +kernel
theorem dX11_isAbove_52 : decode cX11_isAbove 52 = .ok (.bipush 24, 2) := by decide +kernel
theorem dX11_isAbove_54 : decode cX11_isAbove 54 = .ok (.if_icmp .ge 30, 3) := by decide +kernel
theorem dX11_isAbove_57 : decode cX11_isAbove 57 = .ok (.iload_n 3, 1) := by decide +kernel
theorem dX11_isAbove_58 : decode cX11_isAbove 58 = .ok (.iconst (-1), 1) := by decide +kernel
theorem dX11_isAbove_59 : decode cX11_isAbove 59 = .ok (.if_icmp .eq 25, 3) := by decide +kernel
theorem dX11_isAbove_62 : decode cX11_isAbove 62 = .ok (.iload_n 3, 1) := by decide +kernel
theorem dX11_isAbove_63 : decode cX11_isAbove 63 = .ok (.iload_n 1, 1) := by decide +kernel
theorem dX11_isAbove_64 : decode cX11_isAbove 64 = .ok (.if_icmp .ne 5, 3) := by decide +kernel
theorem dX11_isAbove_67 : decode cX11_isAbove 67 = .ok (.iconst 1, 1) := by decide +kernel
theorem dX11_isAbove_68 : decode cX11_isAbove 68 = .ok (.ireturn, 1) := by decide +kernel
theorem dX11_isAbove_69 : decode cX11_isAbove 69 = .ok (.aload_n 0, 1) := by decide +kernel
theorem dX11_isAbove_70 : decode cX11_isAbove 70 = .ok (.getfield 30, 3) := by decide +kernel
theorem dX11_isAbove_73 : decode cX11_isAbove 73 = .ok (.iload_n 3, 1) := by decide +kernel
theorem dX11_isAbove_74 : decode cX11_isAbove 74 = .ok (.invokevirtual 210, 3) := by decide +kernel
theorem dX11_isAbove_77 : decode cX11_isAbove 77 = .ok (.istore_n 3, 1) := by decide +kernel
theorem dX11_isAbove_78 : decode cX11_isAbove 78 = .ok (.iinc 4 1, 3) := by decide +kernel
theorem dX11_isAbove_81 : decode cX11_isAbove 81 = .ok (.goto (-31), 3) := by decide +kernel
theorem dX11_isAbove_84 : decode cX11_isAbove 84 = .ok (.iconst 0, 1) := by decide +kernel
theorem dX11_isAbove_85 : decode cX11_isAbove 85 = .ok (.ireturn, 1) := by decide +kernel
theorem dX11_scopeOf_0 : decode cX11_scopeOf 0 = .ok (.aload_n 0, 1) := by decide +kernel
theorem dX11_scopeOf_1 : decode cX11_scopeOf 1 = .ok (.getfield 30, 3) := by decide +kernel
theorem dX11_scopeOf_4 : decode cX11_scopeOf 4 = .ok (.getfield 124, 3) := by decide +kernel
theorem dX11_scopeOf_7 : decode cX11_scopeOf 7 = .ok (.iload_n 1, 1) := by decide +kernel
theorem dX11_scopeOf_8 : decode cX11_scopeOf 8 = .ok (.invokevirtual 128, 3) := by decide +kernel
theorem dX11_scopeOf_11 : decode cX11_scopeOf 11 = .ok (.ifCond .ne 13, 3) := by decide +kernel
theorem dX11_scopeOf_14 : decode cX11_scopeOf 14 = .ok (.new 93, 3) := by decide +kernel
theorem dX11_scopeOf_17 : decode cX11_scopeOf 17 = .ok (.dup, 1) := by decide +kernel
theorem dX11_scopeOf_18 : decode cX11_scopeOf 18 = .ok (.ldc 134, 2) := by decide +kernel
theorem dX11_scopeOf_20 : decode cX11_scopeOf 20 = .ok (.invokespecial 97, 3) := by decide +kernel
theorem dX11_scopeOf_23 : decode cX11_scopeOf 23 = .ok (.athrow, 1) := by decide +kernel
theorem dX11_scopeOf_24 : decode cX11_scopeOf 24 = .ok (.iload_n 2, 1) := by decide +kernel
theorem dX11_scopeOf_25 : decode cX11_scopeOf 25 = .ok (.ifCond .lt 21, 3) := by decide +kernel
theorem dX11_scopeOf_28 : decode cX11_scopeOf 28 = .ok (.iload_n 2, 1) := by decide +kernel
theorem dX11_scopeOf_29 : decode cX11_scopeOf 29 = .ok (.aload_n 0, 1) := by decide +kernel
theorem dX11_scopeOf_30 : decode cX11_scopeOf 30 = .ok (.getfield 30, 3) := by decide +kernel
theorem dX11_scopeOf_33 : decode cX11_scopeOf 33 = .ok (.getfield 124, 3) := by decide +kernel
theorem dX11_scopeOf_36 : decode cX11_scopeOf 36 = .ok (.getfield 213, 3) := by decide +kernel
theorem dX11_scopeOf_39 : decode cX11_scopeOf 39 = .ok (.iload_n 1, 1) := by decide +kernel
theorem dX11_scopeOf_40 : decode cX11_scopeOf 40 = .ok (.invokevirtual 144, 3) := by decide +kernel
theorem dX11_scopeOf_43 : decode cX11_scopeOf 43 = .ok (.if_icmp .lt 13, 3) := by decide +kernel
theorem dX11_scopeOf_46 : decode cX11_scopeOf 46 = .ok (.new 93, 3) := by decide +kernel
theorem dX11_scopeOf_49 : decode cX11_scopeOf 49 = .ok (.dup, 1) := by decide +kernel
theorem dX11_scopeOf_50 : decode cX11_scopeOf 50 = .ok (.ldc 216, 2) := by decide +kernel
theorem dX11_scopeOf_52 : decode cX11_scopeOf 52 = .ok (.invokespecial 97, 3) := by decide +kernel
theorem dX11_scopeOf_55 : decode cX11_scopeOf 55 = .ok (.athrow, 1) := by decide +kernel
theorem dX11_scopeOf_56 : decode cX11_scopeOf 56 = .ok (.aload_n 0, 1) := by decide +kernel
theorem dX11_scopeOf_57 : decode cX11_scopeOf 57 = .ok (.getfield 30, 3) := by decide +kernel
theorem dX11_scopeOf_60 : decode cX11_scopeOf 60 = .ok (.getfield 124, 3) := by decide +kernel
theorem dX11_scopeOf_63 : decode cX11_scopeOf 63 = .ok (.iload_n 1, 1) := by decide +kernel
theorem dX11_scopeOf_64 : decode cX11_scopeOf 64 = .ok (.iload_n 2, 1) := by decide +kernel
theorem dX11_scopeOf_65 : decode cX11_scopeOf 65 = .ok (.invokevirtual 218, 3) := by decide +kernel
theorem dX11_scopeOf_68 : decode cX11_scopeOf 68 = .ok (.ireturn, 1) := by decide +kernel
theorem dX11_channel_0 : decode cX11_channel 0 = .ok (.iload_n 1, 1) := by decide +kernel
theorem dX11_channel_1 : decode cX11_channel 1 = .ok (.ifCond .lt 8, 3) := by decide +kernel
theorem dX11_channel_4 : decode cX11_channel 4 = .ok (.iload_n 1, 1) := by decide +kernel
theorem dX11_channel_5 : decode cX11_channel 5 = .ok (.iconst 4, 1) := by decide +kernel
theorem dX11_channel_6 : decode cX11_channel 6 = .ok (.if_icmp .lt 13, 3) := by decide +kernel
theorem dX11_channel_9 : decode cX11_channel 9 = .ok (.new 93, 3) := by decide +kernel
theorem dX11_channel_12 : decode cX11_channel 12 = .ok (.dup, 1) := by decide +kernel
theorem dX11_channel_13 : decode cX11_channel 13 = .ok (.ldc 221, 2) := by decide +kernel
theorem dX11_channel_15 : decode cX11_channel 15 = .ok (.invokespecial 97, 3) := by decide +kernel
theorem dX11_channel_18 : decode cX11_channel 18 = .ok (.athrow, 1) := by decide +kernel
theorem dX11_channel_19 : decode cX11_channel 19 = .ok (.iload_n 2, 1) := by decide +kernel
theorem dX11_channel_20 : decode cX11_channel 20 = .ok (.tableswitch 86 0 3 #[32, 47, 62, 74], 32) := by decide +kernel
theorem dX11_channel_52 : decode cX11_channel 52 = .ok (.aload_n 0, 1) := by decide +kernel
theorem dX11_channel_53 : decode cX11_channel 53 = .ok (.getfield 30, 3) := by decide +kernel
theorem dX11_channel_56 : decode cX11_channel 56 = .ok (.getfield 223, 3) := by decide +kernel
theorem dX11_channel_59 : decode cX11_channel 59 = .ok (.getfield 227, 3) := by decide +kernel
theorem dX11_channel_62 : decode cX11_channel 62 = .ok (.iload_n 1, 1) := by decide +kernel
theorem dX11_channel_63 : decode cX11_channel 63 = .ok (.invokevirtual 144, 3) := by decide +kernel
theorem dX11_channel_66 : decode cX11_channel 66 = .ok (.ireturn, 1) := by decide +kernel
theorem dX11_channel_67 : decode cX11_channel 67 = .ok (.aload_n 0, 1) := by decide +kernel
theorem dX11_channel_68 : decode cX11_channel 68 = .ok (.getfield 30, 3) := by decide +kernel
theorem dX11_channel_71 : decode cX11_channel 71 = .ok (.getfield 223, 3) := by decide +kernel
theorem dX11_channel_74 : decode cX11_channel 74 = .ok (.getfield 232, 3) := by decide +kernel
theorem dX11_channel_77 : decode cX11_channel 77 = .ok (.iload_n 1, 1) := by decide +kernel
theorem dX11_channel_78 : decode cX11_channel 78 = .ok (.invokevirtual 144, 3) := by decide +kernel
theorem dX11_channel_81 : decode cX11_channel 81 = .ok (.ireturn, 1) := by decide +kernel
theorem dX11_channel_82 : decode cX11_channel 82 = .ok (.aload_n 0, 1) := by decide +kernel
theorem dX11_channel_83 : decode cX11_channel 83 = .ok (.getfield 30, 3) := by decide +kernel
theorem dX11_channel_86 : decode cX11_channel 86 = .ok (.getfield 124, 3) := by decide +kernel
theorem dX11_channel_89 : decode cX11_channel 89 = .ok (.iload_n 1, 1) := by decide +kernel
theorem dX11_channel_90 : decode cX11_channel 90 = .ok (.invokevirtual 235, 3) := by decide +kernel
theorem dX11_channel_93 : decode cX11_channel 93 = .ok (.ireturn, 1) := by decide +kernel
theorem dX11_channel_94 : decode cX11_channel 94 = .ok (.aload_n 0, 1) := by decide +kernel
theorem dX11_channel_95 : decode cX11_channel 95 = .ok (.getfield 30, 3) := by decide +kernel
theorem dX11_channel_98 : decode cX11_channel 98 = .ok (.getfield 124, 3) := by decide +kernel
theorem dX11_channel_101 : decode cX11_channel 101 = .ok (.iload_n 1, 1) := by decide +kernel
theorem dX11_channel_102 : decode cX11_channel 102 = .ok (.invokevirtual 238, 3) := by decide +kernel
theorem dX11_channel_105 : decode cX11_channel 105 = .ok (.ireturn, 1) := by decide +kernel
theorem dX11_channel_106 : decode cX11_channel 106 = .ok (.new 54, 3) := by decide +kernel
theorem dX11_channel_109 : decode cX11_channel 109 = .ok (.dup, 1) := by decide +kernel
theorem dX11_channel_110 : decode cX11_channel 110 = .ok (.ldc 241, 2) := by decide +kernel
theorem dX11_channel_112 : decode cX11_channel 112 = .ok (.invokespecial 58, 3) := by decide +kernel
theorem dX11_channel_115 : decode cX11_channel 115 = .ok (.athrow, 1) := by decide +kernel
theorem dX11_content_0 : decode cX11_content 0 = .ok (.iload_n 1, 1) := by decide +kernel
theorem dX11_content_1 : decode cX11_content 1 = .ok (.ifCond .lt 8, 3) := by decide +kernel
theorem dX11_content_4 : decode cX11_content 4 = .ok (.iload_n 1, 1) := by decide +kernel
theorem dX11_content_5 : decode cX11_content 5 = .ok (.iconst 4, 1) := by decide +kernel
theorem dX11_content_6 : decode cX11_content 6 = .ok (.if_icmp .lt 13, 3) := by decide +kernel
theorem dX11_content_9 : decode cX11_content 9 = .ok (.new 93, 3) := by decide +kernel
theorem dX11_content_12 : decode cX11_content 12 = .ok (.dup, 1) := by decide +kernel
theorem dX11_content_13 : decode cX11_content 13 = .ok (.ldc 221, 2) := by decide +kernel
theorem dX11_content_15 : decode cX11_content 15 = .ok (.invokespecial 97, 3) := by decide +kernel
theorem dX11_content_18 : decode cX11_content 18 = .ok (.athrow, 1) := by decide +kernel
theorem dX11_content_19 : decode cX11_content 19 = .ok (.iload_n 2, 1) := by decide +kernel
theorem dX11_content_20 : decode cX11_content 20 = .ok (.ifCond .lt 21, 3) := by decide +kernel
theorem dX11_content_23 : decode cX11_content 23 = .ok (.iload_n 2, 1) := by decide +kernel
theorem dX11_content_24 : decode cX11_content 24 = .ok (.aload_n 0, 1) := by decide +kernel
theorem dX11_content_25 : decode cX11_content 25 = .ok (.getfield 30, 3) := by decide +kernel
theorem dX11_content_28 : decode cX11_content 28 = .ok (.getfield 223, 3) := by decide +kernel
theorem dX11_content_31 : decode cX11_content 31 = .ok (.getfield 232, 3) := by decide +kernel
theorem dX11_content_34 : decode cX11_content 34 = .ok (.iload_n 1, 1) := by decide +kernel
theorem dX11_content_35 : decode cX11_content 35 = .ok (.invokevirtual 144, 3) := by decide +kernel
theorem dX11_content_38 : decode cX11_content 38 = .ok (.if_icmp .lt 13, 3) := by decide +kernel
theorem dX11_content_41 : decode cX11_content 41 = .ok (.new 188, 3) := by decide +kernel
theorem dX11_content_44 : decode cX11_content 44 = .ok (.dup, 1) := by decide +kernel
theorem dX11_content_45 : decode cX11_content 45 = .ok (.ldc 243, 2) := by decide +kernel
theorem dX11_content_47 : decode cX11_content 47 = .ok (.invokespecial 192, 3) := by decide +kernel
theorem dX11_content_50 : decode cX11_content 50 = .ok (.athrow, 1) := by decide +kernel
theorem dX11_content_51 : decode cX11_content 51 = .ok (.aload_n 0, 1) := by decide +kernel
theorem dX11_content_52 : decode cX11_content 52 = .ok (.getfield 30, 3) := by decide +kernel
theorem dX11_content_55 : decode cX11_content 55 = .ok (.getfield 223, 3) := by decide +kernel
theorem dX11_content_58 : decode cX11_content 58 = .ok (.iload_n 1, 1) := by decide +kernel
theorem dX11_content_59 : decode cX11_content 59 = .ok (.iload_n 2, 1) := by decide +kernel
theorem dX11_content_60 : decode cX11_content 60 = .ok (.invokevirtual 245, 3) := by decide +kernel
theorem dX11_content_63 : decode cX11_content 63 = .ok (.ireturn, 1) := by decide +kernel
theorem dX11_count_0 : decode cX11_count 0 = .ok (.iload_n 1, 1) := by decide +kernel
theorem dX11_count_1 : decode cX11_count 1 = .ok (.tableswitch 127 0 12 #[67, 78, 86, 97, 108, 127, 127, 127, 127, 127, 127, 127, 119], 67) := by decide +kernel
theorem dX11_count_68 : decode cX11_count 68 = .ok (.aload_n 0, 1) := by decide +kernel
theorem dX11_count_69 : decode cX11_count 69 = .ok (.getfield 30, 3) := by decide +kernel
theorem dX11_count_72 : decode cX11_count 72 = .ok (.getfield 124, 3) := by decide +kernel
theorem dX11_count_75 : decode cX11_count 75 = .ok (.getfield 246, 3) := by decide +kernel
theorem dX11_count_78 : decode cX11_count 78 = .ok (.ireturn, 1) := by decide +kernel
theorem dX11_count_79 : decode cX11_count 79 = .ok (.aload_n 0, 1) := by decide +kernel
theorem dX11_count_80 : decode cX11_count 80 = .ok (.getfield 30, 3) := by decide +kernel
theorem dX11_count_83 : decode cX11_count 83 = .ok (.invokevirtual 113, 3) := by decide +kernel
theorem dX11_count_86 : decode cX11_count 86 = .ok (.ireturn, 1) := by decide +kernel
theorem dX11_count_87 : decode cX11_count 87 = .ok (.aload_n 0, 1) := by decide +kernel
theorem dX11_count_88 : decode cX11_count 88 = .ok (.getfield 30, 3) := by decide +kernel
theorem dX11_count_91 : decode cX11_count 91 = .ok (.getfield 199, 3) := by decide +kernel
theorem dX11_count_94 : decode cX11_count 94 = .ok (.invokevirtual 61, 3) := by decide +kernel
theorem dX11_count_97 : decode cX11_count 97 = .ok (.ireturn, 1) := by decide +kernel
theorem dX11_count_98 : decode cX11_count 98 = .ok (.aload_n 0, 1) := by decide +kernel
theorem dX11_count_99 : decode cX11_count 99 = .ok (.getfield 30, 3) := by decide +kernel
theorem dX11_count_102 : decode cX11_count 102 = .ok (.getfield 162, 3) := by decide +kernel
theorem dX11_count_105 : decode cX11_count 105 = .ok (.getfield 249, 3) := by decide +kernel
theorem dX11_count_108 : decode cX11_count 108 = .ok (.ireturn, 1) := by decide +kernel
theorem dX11_count_109 : decode cX11_count 109 = .ok (.aload_n 0, 1) := by decide +kernel
theorem dX11_count_110 : decode cX11_count 110 = .ok (.getfield 30, 3) := by decide +kernel
theorem dX11_count_113 : decode cX11_count 113 = .ok (.getfield 162, 3) := by decide +kernel
theorem dX11_count_116 : decode cX11_count 116 = .ok (.invokevirtual 250, 3) := by decide +kernel
theorem dX11_count_119 : decode cX11_count 119 = .ok (.ireturn, 1) := by decide +kernel
theorem dX11_count_120 : decode cX11_count 120 = .ok (.aload_n 0, 1) := by decide +kernel
theorem dX11_count_121 : decode cX11_count 121 = .ok (.getfield 14, 3) := by decide +kernel
theorem dX11_count_124 : decode cX11_count 124 = .ok (.invokevirtual 61, 3) := by decide +kernel
theorem dX11_count_127 : decode cX11_count 127 = .ok (.ireturn, 1) := by decide +kernel
theorem dX11_count_128 : decode cX11_count 128 = .ok (.iload_n 1, 1) := by decide +kernel
theorem dX11_count_129 : decode cX11_count 129 = .ok (.iconst 5, 1) := by decide +kernel
theorem dX11_count_130 : decode cX11_count 130 = .ok (.if_icmp .lt 9, 3) := by decide +kernel
theorem dX11_count_133 : decode cX11_count 133 = .ok (.iload_n 1, 1) := by decide +kernel
theorem dX11_count_134 : decode cX11_count 134 = .ok (.bipush 11, 2) := by decide +kernel
theorem dX11_count_136 : decode cX11_count 136 = .ok (.if_icmp .le 13, 3) := by decide +kernel
theorem dX11_count_139 : decode cX11_count 139 = .ok (.new 54, 3) := by decide +kernel
theorem dX11_count_142 : decode cX11_count 142 = .ok (.dup, 1) := by decide +kernel
theorem dX11_count_143 : decode cX11_count 143 = .ok (.ldc 253, 2) := by decide +kernel
theorem dX11_count_145 : decode cX11_count 145 = .ok (.invokespecial 58, 3) := by decide +kernel
theorem dX11_count_148 : decode cX11_count 148 = .ok (.athrow, 1) := by decide +kernel
theorem dX11_count_149 : decode cX11_count 149 = .ok (.aload_n 0, 1) := by decide +kernel
theorem dX11_count_150 : decode cX11_count 150 = .ok (.getfield 30, 3) := by decide +kernel
theorem dX11_count_153 : decode cX11_count 153 = .ok (.getfield 255, 3) := by decide +kernel
theorem dX11_count_156 : decode cX11_count 156 = .ok (.iload_n 1, 1) := by decide +kernel
theorem dX11_count_157 : decode cX11_count 157 = .ok (.invokevirtual 144, 3) := by decide +kernel
theorem dX11_count_160 : decode cX11_count 160 = .ok (.ireturn, 1) := by decide +kernel
theorem dX11_save_0 : decode cX11_save 0 = .ok (.aload_n 0, 1) := by decide +kernel
theorem dX11_save_1 : decode cX11_save 1 = .ok (.getfield 34, 3) := by decide +kernel
theorem dX11_save_4 : decode cX11_save 4 = .ok (.aload_n 0, 1) := by decide +kernel
theorem dX11_save_5 : decode cX11_save 5 = .ok (.getfield 30, 3) := by decide +kernel
theorem dX11_save_8 : decode cX11_save 8 = .ok (.invokevirtual 258, 3) := by decide +kernel
theorem dX11_save_11 : decode cX11_save 11 = .ok (.aload_n 0, 1) := by decide +kernel
theorem dX11_save_12 : decode cX11_save 12 = .ok (.iconst 1, 1) := by decide +kernel
theorem dX11_save_13 : decode cX11_save 13 = .ok (.putfield 261, 3) := by decide +kernel
theorem dX11_save_16 : decode cX11_save 16 = .ok (.aload_n 0, 1) := by decide +kernel
theorem dX11_save_17 : decode cX11_save 17 = .ok (.getfield 30, 3) := by decide +kernel
theorem dX11_save_20 : decode cX11_save 20 = .ok (.getfield 124, 3) := by decide +kernel
theorem dX11_save_23 : decode cX11_save 23 = .ok (.getfield 246, 3) := by decide +kernel
theorem dX11_save_26 : decode cX11_save 26 = .ok (.ireturn, 1) := by decide +kernel
theorem dX11_restore_0 : decode cX11_restore 0 = .ok (.aload_n 0, 1) := by decide +kernel
theorem dX11_restore_1 : decode cX11_restore 1 = .ok (.getfield 261, 3) := by decide +kernel
theorem dX11_restore_4 : decode cX11_restore 4 = .ok (.ifCond .ne 14, 3) := by decide +kernel
theorem dX11_restore_7 : decode cX11_restore 7 = .ok (.new 65, 3) := by decide +kernel
theorem dX11_restore_10 : decode cX11_restore 10 = .ok (.dup, 1) := by decide +kernel
theorem dX11_restore_11 : decode cX11_restore 11 = .ok (.ldc_w 265, 3) := by decide +kernel
theorem dX11_restore_14 : decode cX11_restore 14 = .ok (.invokespecial 69, 3) := by decide +kernel
theorem dX11_restore_17 : decode cX11_restore 17 = .ok (.athrow, 1) := by decide +kernel
theorem dX11_restore_18 : decode cX11_restore 18 = .ok (.aload_n 0, 1) := by decide +kernel
theorem dX11_restore_19 : decode cX11_restore 19 = .ok (.getfield 30, 3) := by decide +kernel
theorem dX11_restore_22 : decode cX11_restore 22 = .ok (.aload_n 0, 1) := by decide +kernel
theorem dX11_restore_23 : decode cX11_restore 23 = .ok (.getfield 34, 3) := by decide +kernel
theorem dX11_restore_26 : decode cX11_restore 26 = .ok (.invokevirtual 258, 3) := by decide +kernel
theorem dX11_restore_29 : decode cX11_restore 29 = .ok (.aload_n 0, 1) := by decide +kernel
theorem dX11_restore_30 : decode cX11_restore 30 = .ok (.getfield 30, 3) := by decide +kernel
theorem dX11_restore_33 : decode cX11_restore 33 = .ok (.getfield 124, 3) := by decide +kernel
theorem dX11_restore_36 : decode cX11_restore 36 = .ok (.getfield 246, 3) := by decide +kernel
theorem dX11_restore_39 : decode cX11_restore 39 = .ok (.ireturn, 1) := by decide +kernel
theorem dX11_countCharacters_0 : decode cX11_countCharacters 0 = .ok (.iconst 0, 1) := by decide +kernel
theorem dX11_countCharacters_1 : decode cX11_countCharacters 1 = .ok (.istore_n 1, 1) := by decide +kernel
theorem dX11_countCharacters_2 : decode cX11_countCharacters 2 = .ok (.bipush 24, 2) := by decide +kernel
theorem dX11_countCharacters_4 : decode cX11_countCharacters 4 = .ok (.istore_n 2, 1) := by decide +kernel
theorem dX11_countCharacters_5 : decode cX11_countCharacters 5 = .ok (.iload_n 2, 1) := by decide +kernel
theorem dX11_countCharacters_6 : decode cX11_countCharacters 6 = .ok (.ifCond .lt 42, 3) := by decide +kernel
theorem dX11_countCharacters_9 : decode cX11_countCharacters 9 = .ok (.iload_n 0, 1) := by decide +kernel
theorem dX11_countCharacters_10 : decode cX11_countCharacters 10 = .ok (.iload_n 2, 1) := by decide +kernel
theorem dX11_countCharacters_11 : decode cX11_countCharacters 11 = .ok (.iushr, 1) := by decide +kernel
theorem dX11_countCharacters_12 : decode cX11_countCharacters 12 = .ok (.sipush 255, 3) := by decide +kernel
theorem dX11_countCharacters_15 : decode cX11_countCharacters 15 = .ok (.iand, 1) := by decide +kernel
theorem dX11_countCharacters_16 : decode cX11_countCharacters 16 = .ok (.istore_n 3, 1) := by decide +kernel
theorem dX11_countCharacters_17 : decode cX11_countCharacters 17 = .ok (.iload_n 3, 1) := by decide +kernel
theorem dX11_countCharacters_18 : decode cX11_countCharacters 18 = .ok (.ifCond .eq 17, 3) := by decide +kernel
theorem dX11_countCharacters_21 : decode cX11_countCharacters 21 = .ok (.iload_n 3, 1) := by decide +kernel
theorem dX11_countCharacters_22 : decode cX11_countCharacters 22 = .ok (.bipush 33, 2) := by decide +kernel
theorem dX11_countCharacters_24 : decode cX11_countCharacters 24 = .ok (.if_icmp .lt 9, 3) := by decide +kernel
theorem dX11_countCharacters_27 : decode cX11_countCharacters 27 = .ok (.iload_n 3, 1) := by decide +kernel
theorem dX11_countCharacters_28 : decode cX11_countCharacters 28 = .ok (.bipush 126, 2) := by decide +kernel
theorem dX11_countCharacters_30 : decode cX11_countCharacters 30 = .ok (.if_icmp .le 5, 3) := by decide +kernel
theorem dX11_countCharacters_33 : decode cX11_countCharacters 33 = .ok (.iconst (-1), 1) := by decide +kernel
theorem dX11_countCharacters_34 : decode cX11_countCharacters 34 = .ok (.ireturn, 1) := by decide +kernel
theorem dX11_countCharacters_35 : decode cX11_countCharacters 35 = .ok (.iload_n 3, 1) := by decide +kernel
theorem dX11_countCharacters_36 : decode cX11_countCharacters 36 = .ok (.ifCond .eq 6, 3) := by decide +kernel
theorem dX11_countCharacters_39 : decode cX11_countCharacters 39 = .ok (.iinc 1 1, 3) := by decide +kernel
theorem dX11_countCharacters_42 : decode cX11_countCharacters 42 = .ok (.iinc 2 (-8), 3) := by decide +kernel
theorem dX11_countCharacters_45 : decode cX11_countCharacters 45 = .ok (.goto (-40), 3) := by decide +kernel
theorem dX11_countCharacters_48 : decode cX11_countCharacters 48 = .ok (.iload_n 1, 1) := by decide +kernel
theorem dX11_countCharacters_49 : decode cX11_countCharacters 49 = .ok (.ireturn, 1) := by decide +kernel
theorem dX12_init_0 : decode cX12_init 0 = .ok (.aload_n 0, 1) := by decide +kernel
theorem dX12_init_1 : decode cX12_init 1 = .ok (.invokespecial 3, 3) := by decide +kernel
theorem dX12_init_4 : decode cX12_init 4 = .ok (.aload_n 0, 1) := by decide +kernel
theorem dX12_init_5 : decode cX12_init 5 = .ok (.sipush 9231, 3) := by decide +kernel
theorem dX12_init_8 : decode cX12_init 8 = .ok (.newarray .int, 2) := by decide +kernel
theorem dX12_init_10 : decode cX12_init 10 = .ok (.putfield 9, 3) := by decide +kernel
theorem dX12_init_13 : decode cX12_init 13 = .ok (.aload_n 0, 1) := by decide +kernel
theorem dX12_init_14 : decode cX12_init 14 = .ok (.sipush 9231, 3) := by decide +kernel
theorem dX12_init_17 : decode cX12_init 17 = .ok (.newarray .int, 2) := by decide +kernel
theorem dX12_init_19 : decode cX12_init 19 = .ok (.putfield 13, 3) := by decide +kernel
theorem dX12_init_22 : decode cX12_init 22 = .ok (.aload_n 0, 1) := by decide +kernel
theorem dX12_init_23 : decode cX12_init 23 = .ok (.bipush 60, 2) := by decide +kernel
theorem dX12_init_25 : decode cX12_init 25 = .ok (.newarray .int, 2) := by decide +kernel
theorem dX12_init_27 : decode cX12_init 27 = .ok (.putfield 16, 3) := by decide +kernel
theorem dX12_init_30 : decode cX12_init 30 = .ok (.aload_n 0, 1) := by decide +kernel
theorem dX12_init_31 : decode cX12_init 31 = .ok (.iconst (-1), 1) := by decide +kernel
theorem dX12_init_32 : decode cX12_init 32 = .ok (.putfield 19, 3) := by decide +kernel
theorem dX12_init_35 : decode cX12_init 35 = .ok (.aload_n 0, 1) := by decide +kernel
theorem dX12_init_36 : decode cX12_init 36 = .ok (.bipush 25, 2) := by decide +kernel
theorem dX12_init_38 : decode cX12_init 38 = .ok (.newarray .int, 2) := by decide +kernel
theorem dX12_init_40 : decode cX12_init 40 = .ok (.putfield 23, 3) := by decide +kernel
theorem dX12_init_43 : decode cX12_init 43 = .ok (.return_, 1) := by decide +kernel
theorem dX12_thrown_0 : decode cX12_thrown 0 = .ok (.aload_n 0, 1) := by decide +kernel
theorem dX12_thrown_1 : decode cX12_thrown 1 = .ok (.getfield 26, 3) := by decide +kernel
theorem dX12_thrown_4 : decode cX12_thrown 4 = .ok (.ireturn, 1) := by decide +kernel
theorem dX12_in_0 : decode cX12_in 0 = .ok (.iload_n 0, 1) := by decide +kernel
theorem dX12_in_1 : decode cX12_in 1 = .ok (.iload_n 1, 1) := by decide +kernel
theorem dX12_in_2 : decode cX12_in 2 = .ok (.if_icmp .lt 12, 3) := by decide +kernel
theorem dX12_in_5 : decode cX12_in 5 = .ok (.iload_n 0, 1) := by decide +kernel
theorem dX12_in_6 : decode cX12_in 6 = .ok (.iload_n 2, 1) := by decide +kernel
theorem dX12_in_7 : decode cX12_in 7 = .ok (.if_icmp .gt 7, 3) := by decide +kernel
theorem dX12_in_10 : decode cX12_in 10 = .ok (.iconst 1, 1) := by decide +kernel
theorem dX12_in_11 : decode cX12_in 11 = .ok (.goto 4, 3) := by decide +kernel
theorem dX12_in_14 : decode cX12_in 14 = .ok (.iconst 0, 1) := by decide +kernel
theorem dX12_in_15 : decode cX12_in 15 = .ok (.ireturn, 1) := by decide +kernel
theorem dX12_raises_0 : decode cX12_raises 0 = .ok (.aload_n 0, 1) := by decide +kernel
theorem dX12_raises_1 : decode cX12_raises 1 = .ok (.iload_n 1, 1) := by decide +kernel
theorem dX12_raises_2 : decode cX12_raises 2 = .ok (.putfield 26, 3) := by decide +kernel
theorem dX12_raises_5 : decode cX12_raises 5 = .ok (.iconst 0, 1) := by decide +kernel
theorem dX12_raises_6 : decode cX12_raises 6 = .ok (.ireturn, 1) := by decide +kernel
theorem dX12_task_0 : decode cX12_task 0 = .ok (.sipush 231, 3) := by decide +kernel
theorem dX12_task_3 : decode cX12_task 3 = .ok (.bipush 45, 2) := by decide +kernel
theorem dX12_task_5 : decode cX12_task 5 = .ok (.iload_n 0, 1) := by decide +kernel
theorem dX12_task_6 : decode cX12_task 6 = .ok (.imul, 1) := by decide +kernel
theorem dX12_task_7 : decode cX12_task 7 = .ok (.iadd, 1) := by decide +kernel
theorem dX12_task_8 : decode cX12_task 8 = .ok (.ireturn, 1) := by decide +kernel
theorem dX12_scope_0 : decode cX12_scope 0 = .ok (.sipush 1311, 3) := by decide +kernel
theorem dX12_scope_3 : decode cX12_scope 3 = .ok (.bipush 32, 2) := by decide +kernel
theorem dX12_scope_5 : decode cX12_scope 5 = .ok (.iload_n 0, 1) := by decide +kernel
theorem dX12_scope_6 : decode cX12_scope 6 = .ok (.imul, 1) := by decide +kernel
theorem dX12_scope_7 : decode cX12_scope 7 = .ok (.iadd, 1) := by decide +kernel
theorem dX12_scope_8 : decode cX12_scope 8 = .ok (.ireturn, 1) := by decide +kernel
theorem dX12_channel_0 : decode cX12_channel 0 = .ok (.sipush 150, 3) := by decide +kernel
theorem dX12_channel_3 : decode cX12_channel 3 = .ok (.iconst 5, 1) := by decide +kernel
theorem dX12_channel_4 : decode cX12_channel 4 = .ok (.iload_n 0, 1) := by decide +kernel
theorem dX12_channel_5 : decode cX12_channel 5 = .ok (.imul, 1) := by decide +kernel
theorem dX12_channel_6 : decode cX12_channel 6 = .ok (.iadd, 1) := by decide +kernel
theorem dX12_channel_7 : decode cX12_channel 7 = .ok (.ireturn, 1) := by decide +kernel
theorem dX12_of_0 : decode cX12_of 0 = .ok (.aload_n 0, 1) := by decide +kernel
theorem dX12_of_1 : decode cX12_of 1 = .ok (.getfield 9, 3) := by decide +kernel
theorem dX12_of_4 : decode cX12_of 4 = .ok (.iload_n 1, 1) := by decide +kernel
theorem dX12_of_5 : decode cX12_of 5 = .ok (.invokestatic 29, 3) := by decide +kernel
theorem dX12_of_8 : decode cX12_of 8 = .ok (.iload_n 2, 1) := by decide +kernel
theorem dX12_of_9 : decode cX12_of 9 = .ok (.iadd, 1) := by decide +kernel
theorem dX12_of_10 : decode cX12_of 10 = .ok (.iaload, 1) := by decide +kernel
theorem dX12_of_11 : decode cX12_of 11 = .ok (.ireturn, 1) := by decide +kernel
theorem dX12_sets_0 : decode cX12_sets 0 = .ok (.aload_n 0, 1) := by decide +kernel
theorem dX12_sets_1 : decode cX12_sets 1 = .ok (.getfield 9, 3) := by decide +kernel
theorem dX12_sets_4 : decode cX12_sets 4 = .ok (.iload_n 1, 1) := by decide +kernel
theorem dX12_sets_5 : decode cX12_sets 5 = .ok (.invokestatic 29, 3) := by decide +kernel
theorem dX12_sets_8 : decode cX12_sets 8 = .ok (.iload_n 2, 1) := by decide +kernel
theorem dX12_sets_9 : decode cX12_sets 9 = .ok (.iadd, 1) := by decide +kernel
theorem dX12_sets_10 : decode cX12_sets 10 = .ok (.iload_n 3, 1) := by decide +kernel
theorem dX12_sets_11 : decode cX12_sets 11 = .ok (.iastore, 1) := by decide +kernel
theorem dX12_sets_12 : decode cX12_sets 12 = .ok (.return_, 1) := by decide +kernel
theorem dX12_isTask_0 : decode cX12_isTask 0 = .ok (.iload_n 1, 1) := by decide +kernel
theorem dX12_isTask_1 : decode cX12_isTask 1 = .ok (.iconst 0, 1) := by decide +kernel
theorem dX12_isTask_2 : decode cX12_isTask 2 = .ok (.aload_n 0, 1) := by decide +kernel
theorem dX12_isTask_3 : decode cX12_isTask 3 = .ok (.getfield 9, 3) := by decide +kernel
theorem dX12_isTask_6 : decode cX12_isTask 6 = .ok (.sipush 170, 3) := by decide +kernel
theorem dX12_isTask_9 : decode cX12_isTask 9 = .ok (.iaload, 1) := by decide +kernel
theorem dX12_isTask_10 : decode cX12_isTask 10 = .ok (.iconst 1, 1) := by decide +kernel
theorem dX12_isTask_11 : decode cX12_isTask 11 = .ok (.isub, 1) := by decide +kernel
theorem dX12_isTask_12 : decode cX12_isTask 12 = .ok (.invokestatic 33, 3) := by decide +kernel
theorem dX12_isTask_15 : decode cX12_isTask 15 = .ok (.ireturn, 1) := by decide +kernel
theorem dX12_isLive_0 : decode cX12_isLive 0 = .ok (.aload_n 0, 1) := by decide +kernel
theorem dX12_isLive_1 : decode cX12_isLive 1 = .ok (.iload_n 1, 1) := by decide +kernel
theorem dX12_isLive_2 : decode cX12_isLive 2 = .ok (.iconst 0, 1) := by decide +kernel
theorem dX12_isLive_3 : decode cX12_isLive 3 = .ok (.invokevirtual 37, 3) := by decide +kernel
theorem dX12_isLive_6 : decode cX12_isLive 6 = .ok (.bipush 6, 2) := by decide +kernel
theorem dX12_isLive_8 : decode cX12_isLive 8 = .ok (.if_icmp .ge 7, 3) := by decide +kernel
theorem dX12_isLive_11 : decode cX12_isLive 11 = .ok (.iconst 1, 1) := by decide +kernel
theorem dX12_isLive_12 : decode cX12_isLive 12 = .ok (.goto 4, 3) := by decide +kernel
theorem dX12_isLive_15 : decode cX12_isLive 15 = .ok (.iconst 0, 1) := by decide +kernel
theorem dX12_isLive_16 : decode cX12_isLive 16 = .ok (.ireturn, 1) := by decide +kernel
theorem dX12_live_0 : decode cX12_live 0 = .ok (.iconst 0, 1) := by decide +kernel
theorem dX12_live_1 : decode cX12_live 1 = .ok (.istore_n 1, 1) := by decide +kernel
theorem dX12_live_2 : decode cX12_live 2 = .ok (.iconst 0, 1) := by decide +kernel
theorem dX12_live_3 : decode cX12_live 3 = .ok (.istore_n 2, 1) := by decide +kernel
theorem dX12_live_4 : decode cX12_live 4 = .ok (.iload_n 2, 1) := by decide +kernel
theorem dX12_live_5 : decode cX12_live 5 = .ok (.aload_n 0, 1) := by decide +kernel
theorem dX12_live_6 : decode cX12_live 6 = .ok (.getfield 9, 3) := by decide +kernel
theorem dX12_live_9 : decode cX12_live 9 = .ok (.sipush 170, 3) := by decide +kernel
theorem dX12_live_12 : decode cX12_live 12 = .ok (.iaload, 1) := by decide +kernel
theorem dX12_live_13 : decode cX12_live 13 = .ok (.if_icmp .ge 20, 3) := by decide +kernel
theorem dX12_live_16 : decode cX12_live 16 = .ok (.aload_n 0, 1) := by decide +kernel
theorem dX12_live_17 : decode cX12_live 17 = .ok (.iload_n 2, 1) := by decide +kernel
theorem dX12_live_18 : decode cX12_live 18 = .ok (.invokevirtual 41, 3) := by decide +kernel
theorem dX12_live_21 : decode cX12_live 21 = .ok (.ifCond .eq 6, 3) := by decide +kernel
theorem dX12_live_24 : decode cX12_live 24 = .ok (.iinc 1 1, 3) := by decide +kernel
theorem dX12_live_27 : decode cX12_live 27 = .ok (.iinc 2 1, 3) := by decide +kernel
theorem dX12_live_30 : decode cX12_live 30 = .ok (.goto (-26), 3) := by decide +kernel
theorem dX12_live_33 : decode cX12_live 33 = .ok (.iload_n 1, 1) := by decide +kernel
theorem dX12_live_34 : decode cX12_live 34 = .ok (.ireturn, 1) := by decide +kernel
theorem dX12_append_0 : decode cX12_append 0 = .ok (.aload_n 0, 1) := by decide +kernel
theorem dX12_append_1 : decode cX12_append 1 = .ok (.iconst 0, 1) := by decide +kernel
theorem dX12_append_2 : decode cX12_append 2 = .ok (.putfield 26, 3) := by decide +kernel
theorem dX12_append_5 : decode cX12_append 5 = .ok (.iconst 0, 1) := by decide +kernel
theorem dX12_append_6 : decode cX12_append 6 = .ok (.istore_n 2, 1) := by decide +kernel
theorem dX12_append_7 : decode cX12_append 7 = .ok (.bipush 24, 2) := by decide +kernel
theorem dX12_append_9 : decode cX12_append 9 = .ok (.istore_n 3, 1) := by decide +kernel
theorem dX12_append_10 : decode cX12_append 10 = .ok (.iload_n 3, 1) := by decide +kernel
theorem dX12_append_11 : decode cX12_append 11 = .ok (.ifCond .lt 47, 3) := by decide +kernel
theorem dX12_append_14 : decode cX12_append 14 = .ok (.iload_n 1, 1) := by decide +kernel
theorem dX12_append_15 : decode cX12_append 15 = .ok (.iload_n 3, 1) := by decide +kernel
theorem dX12_append_16 : decode cX12_append 16 = .ok (.iushr, 1) := by decide +kernel
theorem dX12_append_17 : decode cX12_append 17 = .ok (.sipush 255, 3) := by decide +kernel
theorem dX12_append_20 : decode cX12_append 20 = .ok (.iand, 1) := by decide +kernel
theorem dX12_append_21 : decode cX12_append 21 = .ok (.istore 4, 2) := by decide +kernel
theorem dX12_append_23 : decode cX12_append 23 = .ok (.iload 4, 2) := by decide +kernel
theorem dX12_append_25 : decode cX12_append 25 = .ok (.ifCond .ne 6, 3) := by decide +kernel
theorem dX12_append_28 : decode cX12_append 28 = .ok (.goto 24, 3) := by decide +kernel
theorem dX12_append_31 : decode cX12_append 31 = .ok (.iload 4, 2) := by decide +kernel
theorem dX12_append_33 : decode cX12_append 33 = .ok (.bipush 33, 2) := by decide +kernel
theorem dX12_append_35 : decode cX12_append 35 = .ok (.bipush 126, 2) := by decide +kernel
theorem dX12_append_37 : decode cX12_append 37 = .ok (.invokestatic 33, 3) := by decide +kernel
theorem dX12_append_40 : decode cX12_append 40 = .ok (.ifCond .ne 9, 3) := by decide +kernel
theorem dX12_append_43 : decode cX12_append 43 = .ok (.aload_n 0, 1) := by decide +kernel
theorem dX12_append_44 : decode cX12_append 44 = .ok (.iconst 1, 1) := by decide +kernel
theorem dX12_append_45 : decode cX12_append 45 = .ok (.invokevirtual 45, 3) := by decide +kernel
theorem dX12_append_48 : decode cX12_append 48 = .ok (.ireturn, 1) := by decide +kernel
theorem dX12_append_49 : decode cX12_append 49 = .ok (.iinc 2 1, 3) := by decide +kernel
theorem dX12_append_52 : decode cX12_append 52 = .ok (.iinc 3 (-8), 3) := by decide +kernel
theorem dX12_append_55 : decode cX12_append 55 = .ok (.goto (-45), 3) := by decide +kernel
theorem dX12_append_58 : decode cX12_append 58 = .ok (.aload_n 0, 1) := by decide +kernel
theorem dX12_append_59 : decode cX12_append 59 = .ok (.getfield 48, 3) := by decide +kernel
theorem dX12_append_62 : decode cX12_append 62 = .ok (.iload_n 2, 1) := by decide +kernel
theorem dX12_append_63 : decode cX12_append 63 = .ok (.iadd, 1) := by decide +kernel
theorem dX12_append_64 : decode cX12_append 64 = .ok (.bipush 60, 2) := by decide +kernel
theorem dX12_append_66 : decode cX12_append 66 = .ok (.if_icmp .le 9, 3) := by decide +kernel
theorem dX12_append_69 : decode cX12_append 69 = .ok (.aload_n 0, 1) := by decide +kernel
theorem dX12_append_70 : decode cX12_append 70 = .ok (.iconst 2, 1) := by decide +kernel
theorem dX12_append_71 : decode cX12_append 71 = .ok (.invokevirtual 45, 3) := by decide +kernel
theorem dX12_append_74 : decode cX12_append 74 = .ok (.ireturn, 1) := by decide +kernel
theorem dX12_append_75 : decode cX12_append 75 = .ok (.bipush 24, 2) := by decide +kernel
theorem dX12_append_77 : decode cX12_append 77 = .ok (.istore_n 3, 1) := by decide +kernel
theorem dX12_append_78 : decode cX12_append 78 = .ok (.iload_n 3, 1) := by decide +kernel
theorem dX12_append_79 : decode cX12_append 79 = .ok (.ifCond .lt 42, 3) := by decide +kernel
theorem dX12_append_82 : decode cX12_append 82 = .ok (.iload_n 1, 1) := by decide +kernel
theorem dX12_append_83 : decode cX12_append 83 = .ok (.iload_n 3, 1) := by decide +kernel
theorem dX12_append_84 : decode cX12_append 84 = .ok (.iushr, 1) := by decide +kernel
theorem dX12_append_85 : decode cX12_append 85 = .ok (.sipush 255, 3) := by decide +kernel
theorem dX12_append_88 : decode cX12_append 88 = .ok (.iand, 1) := by decide +kernel
theorem dX12_append_89 : decode cX12_append 89 = .ok (.ifCond .eq 26, 3) := by decide +kernel
theorem dX12_append_92 : decode cX12_append 92 = .ok (.aload_n 0, 1) := by decide +kernel
theorem dX12_append_93 : decode cX12_append 93 = .ok (.getfield 16, 3) := by decide +kernel
theorem dX12_append_96 : decode cX12_append 96 = .ok (.aload_n 0, 1) := by decide +kernel
theorem dX12_append_97 : decode cX12_append 97 = .ok (.dup, 1) := by decide +kernel
theorem dX12_append_98 : decode cX12_append 98 = .ok (.getfield 48, 3) := by decide +kernel
theorem dX12_append_101 : decode cX12_append 101 = .ok (.dup_x1, 1) := by decide +kernel
theorem dX12_append_102 : decode cX12_append 102 = .ok (.iconst 1, 1) := by decide +kernel
theorem dX12_append_103 : decode cX12_append 103 = .ok (.iadd, 1) := by decide +kernel
theorem dX12_append_104 : decode cX12_append 104 = .ok (.putfield 48, 3) := by decide +kernel
theorem dX12_append_107 : decode cX12_append 107 = .ok (.iload_n 1, 1) := by decide +kernel
theorem dX12_append_108 : decode cX12_append 108 = .ok (.iload_n 3, 1) := by decide +kernel
theorem dX12_append_109 : decode cX12_append 109 = .ok (.iushr, 1) := by decide +kernel
theorem dX12_append_110 : decode cX12_append 110 = .ok (.sipush 255, 3) := by decide +kernel
theorem dX12_append_113 : decode cX12_append 113 = .ok (.iand, 1) := by decide +kernel
theorem dX12_append_114 : decode cX12_append 114 = .ok (.iastore, 1) := by decide +kernel
theorem dX12_append_115 : decode cX12_append 115 = .ok (.iinc 3 (-8), 3) := by decide +kernel
theorem dX12_append_118 : decode cX12_append 118 = .ok (.goto (-40), 3) := by decide +kernel
theorem dX12_append_121 : decode cX12_append 121 = .ok (.aload_n 0, 1) := by decide +kernel
theorem dX12_append_122 : decode cX12_append 122 = .ok (.getfield 48, 3) := by decide +kernel
theorem dX12_append_125 : decode cX12_append 125 = .ok (.ireturn, 1) := by decide +kernel
theorem dX12_here_0 : decode cX12_here 0 = .ok (.aload_n 0, 1) := by decide +kernel
theorem dX12_here_1 : decode cX12_here 1 = .ok (.getfield 51, 3) := by decide +kernel
theorem dX12_here_4 : decode cX12_here 4 = .ok (.aload_n 0, 1) := by decide +kernel
theorem dX12_here_5 : decode cX12_here 5 = .ok (.getfield 48, 3) := by decide +kernel
theorem dX12_here_8 : decode cX12_here 8 = .ok (.if_icmp .ge 15, 3) := by decide +kernel
theorem dX12_here_11 : decode cX12_here 11 = .ok (.aload_n 0, 1) := by decide +kernel
theorem dX12_here_12 : decode cX12_here 12 = .ok (.getfield 16, 3) := by decide +kernel
theorem dX12_here_15 : decode cX12_here 15 = .ok (.aload_n 0, 1) := by decide +kernel
theorem dX12_here_16 : decode cX12_here 16 = .ok (.getfield 51, 3) := by decide +kernel
theorem dX12_here_19 : decode cX12_here 19 = .ok (.iaload, 1) := by decide +kernel
theorem dX12_here_20 : decode cX12_here 20 = .ok (.goto 4, 3) := by decide +kernel
theorem dX12_here_23 : decode cX12_here 23 = .ok (.iconst (-1), 1) := by decide +kernel
theorem dX12_here_24 : decode cX12_here 24 = .ok (.ireturn, 1) := by decide +kernel
theorem dX12_digit_0 : decode cX12_digit 0 = .ok (.aload_n 0, 1) := by decide +kernel
theorem dX12_digit_1 : decode cX12_digit 1 = .ok (.invokevirtual 54, 3) := by decide +kernel
theorem dX12_digit_4 : decode cX12_digit 4 = .ok (.iload_n 1, 1) := by decide +kernel
theorem dX12_digit_5 : decode cX12_digit 5 = .ok (.iload_n 2, 1) := by decide +kernel
theorem dX12_digit_6 : decode cX12_digit 6 = .ok (.invokestatic 33, 3) := by decide +kernel
theorem dX12_digit_9 : decode cX12_digit 9 = .ok (.ifCond .eq 24, 3) := by decide +kernel
theorem dX12_digit_12 : decode cX12_digit 12 = .ok (.aload_n 0, 1) := by decide +kernel
theorem dX12_digit_13 : decode cX12_digit 13 = .ok (.getfield 16, 3) := by decide +kernel
theorem dX12_digit_16 : decode cX12_digit 16 = .ok (.aload_n 0, 1) := by decide +kernel
theorem dX12_digit_17 : decode cX12_digit 17 = .ok (.dup, 1) := by decide +kernel
theorem dX12_digit_18 : decode cX12_digit 18 = .ok (.getfield 51, 3) := by decide +kernel
theorem dX12_digit_21 : decode cX12_digit 21 = .ok (.dup_x1, 1) := by decide +kernel
theorem dX12_digit_22 : decode cX12_digit 22 = .ok (.iconst 1, 1) := by decide +kernel
theorem dX12_digit_23 : decode cX12_digit 23 = .ok (.iadd, 1) := by decide +kernel
theorem dX12_digit_24 : decode cX12_digit 24 = .ok (.putfield 51, 3) := by decide +kernel
theorem dX12_digit_27 : decode cX12_digit 27 = .ok (.iaload, 1) := by decide +kernel
theorem dX12_digit_28 : decode cX12_digit 28 = .ok (.iload_n 1, 1) := by decide +kernel
theorem dX12_digit_29 : decode cX12_digit 29 = .ok (.isub, 1) := by decide +kernel
theorem dX12_digit_30 : decode cX12_digit 30 = .ok (.goto 4, 3) := by decide +kernel
theorem dX12_digit_33 : decode cX12_digit 33 = .ok (.iconst (-1), 1) := by decide +kernel
theorem dX12_digit_34 : decode cX12_digit 34 = .ok (.ireturn, 1) := by decide +kernel
theorem dX12_isAny_0 : decode cX12_isAny 0 = .ok (.iload_n 0, 1) := by decide +kernel
theorem dX12_isAny_1 : decode cX12_isAny 1 = .ok (.ifCond .lt 15, 3) := by decide +kernel
theorem dX12_isAny_4 : decode cX12_isAny 4 = .ok (.aload_n 1, 1) := by decide +kernel
theorem dX12_isAny_5 : decode cX12_isAny 5 = .ok (.iload_n 0, 1) := by decide +kernel
theorem dX12_isAny_6 : decode cX12_isAny 6 = .ok (.invokevirtual 58, 3) := by decide +kernel
theorem dX12_isAny_9 : decode cX12_isAny 9 = .ok (.ifCond .lt 7, 3) := by decide +kernel
theorem dX12_isAny_12 : decode cX12_isAny 12 = .ok (.iconst 1, 1) := by decide +kernel
theorem dX12_isAny_13 : decode cX12_isAny 13 = .ok (.goto 4, 3) := by decide +kernel
theorem dX12_isAny_16 : decode cX12_isAny 16 = .ok (.iconst 0, 1) := by decide +kernel
theorem dX12_isAny_17 : decode cX12_isAny 17 = .ok (.ireturn, 1) := by decide +kernel
theorem dX12_instruction_0 : decode cX12_instruction 0 = .ok (.aload_n 0, 1) := by decide +kernel
theorem dX12_instruction_1 : decode cX12_instruction 1 = .ok (.invokevirtual 54, 3) := by decide +kernel
theorem dX12_instruction_4 : decode cX12_instruction 4 = .ok (.istore_n 2, 1) := by decide +kernel
theorem dX12_instruction_5 : decode cX12_instruction 5 = .ok (.iload_n 2, 1) := by decide +kernel
theorem dX12_instruction_6 : decode cX12_instruction 6 = .ok (.ldc 63, 2) := by decide +kernel
theorem dX12_instruction_8 : decode cX12_instruction 8 = .ok (.invokestatic 65, 3) := by decide +kernel
theorem dX12_instruction_11 : decode cX12_instruction 11 = .ok (.ifCond .ne 5, 3) := by decide +kernel
theorem dX12_instruction_14 : decode cX12_instruction 14 = .ok (.iconst (-1), 1) := by decide +kernel
theorem dX12_instruction_15 : decode cX12_instruction 15 = .ok (.ireturn, 1) := by decide +kernel
theorem dX12_instruction_16 : decode cX12_instruction 16 = .ok (.iload_n 1, 1) := by decide +kernel
theorem dX12_instruction_17 : decode cX12_instruction 17 = .ok (.ifCond .eq 14, 3) := by decide +kernel
theorem dX12_instruction_20 : decode cX12_instruction 20 = .ok (.iload_n 2, 1) := by decide +kernel
theorem dX12_instruction_21 : decode cX12_instruction 21 = .ok (.ldc 69, 2) := by decide +kernel
theorem dX12_instruction_23 : decode cX12_instruction 23 = .ok (.invokestatic 65, 3) := by decide +kernel
theorem dX12_instruction_26 : decode cX12_instruction 26 = .ok (.ifCond .eq 5, 3) := by decide +kernel
theorem dX12_instruction_29 : decode cX12_instruction 29 = .ok (.iconst (-1), 1) := by decide +kernel
theorem dX12_instruction_30 : decode cX12_instruction 30 = .ok (.ireturn, 1) := by decide +kernel
theorem dX12_instruction_31 : decode cX12_instruction 31 = .ok (.iload_n 2, 1) := by decide +kernel
theorem dX12_instruction_32 : decode cX12_instruction 32 = .ok (.ldc 71, 2) := by decide +kernel
theorem dX12_instruction_34 : decode cX12_instruction 34 = .ok (.invokestatic 65, 3) := by decide +kernel
theorem dX12_instruction_37 : decode cX12_instruction 37 = .ok (.ifCond .eq 13, 3) := by decide +kernel
theorem dX12_instruction_40 : decode cX12_instruction 40 = .ok (.aload_n 0, 1) := by decide +kernel
theorem dX12_instruction_41 : decode cX12_instruction 41 = .ok (.getfield 73, 3) := by decide +kernel
theorem dX12_instruction_44 : decode cX12_instruction 44 = .ok (.iconst 5, 1) := by decide +kernel
theorem dX12_instruction_45 : decode cX12_instruction 45 = .ok (.if_icmp .ne 5, 3) := by decide +kernel
theorem dX12_instruction_48 : decode cX12_instruction 48 = .ok (.iconst (-1), 1) := by decide +kernel
theorem dX12_instruction_49 : decode cX12_instruction 49 = .ok (.ireturn, 1) := by decide +kernel
theorem dX12_instruction_50 : decode cX12_instruction 50 = .ok (.iload_n 2, 1) := by decide +kernel
theorem dX12_instruction_51 : decode cX12_instruction 51 = .ok (.ldc 76, 2) := by decide +kernel
theorem dX12_instruction_53 : decode cX12_instruction 53 = .ok (.invokestatic 65, 3) := by decide +kernel
theorem dX12_instruction_56 : decode cX12_instruction 56 = .ok (.ifCond .eq 12, 3) := by decide +kernel
theorem dX12_instruction_59 : decode cX12_instruction 59 = .ok (.aload_n 0, 1) := by decide +kernel
theorem dX12_instruction_60 : decode cX12_instruction 60 = .ok (.getfield 73, 3) := by decide +kernel
theorem dX12_instruction_63 : decode cX12_instruction 63 = .ok (.ifCond .ne 5, 3) := by decide +kernel
theorem dX12_instruction_66 : decode cX12_instruction 66 = .ok (.iconst (-1), 1) := by decide +kernel
theorem dX12_instruction_67 : decode cX12_instruction 67 = .ok (.ireturn, 1) := by decide +kernel
theorem dX12_instruction_68 : decode cX12_instruction 68 = .ok (.aload_n 0, 1) := by decide +kernel
theorem dX12_instruction_69 : decode cX12_instruction 69 = .ok (.dup, 1) := by decide +kernel
theorem dX12_instruction_70 : decode cX12_instruction 70 = .ok (.getfield 51, 3) := by decide +kernel
theorem dX12_instruction_73 : decode cX12_instruction 73 = .ok (.iconst 1, 1) := by decide +kernel
theorem dX12_instruction_74 : decode cX12_instruction 74 = .ok (.iadd, 1) := by decide +kernel
theorem dX12_instruction_75 : decode cX12_instruction 75 = .ok (.putfield 51, 3) := by decide +kernel
theorem dX12_instruction_78 : decode cX12_instruction 78 = .ok (.iload_n 2, 1) := by decide +kernel
theorem dX12_instruction_79 : decode cX12_instruction 79 = .ok (.ldc 71, 2) := by decide +kernel
theorem dX12_instruction_81 : decode cX12_instruction 81 = .ok (.invokestatic 65, 3) := by decide +kernel
theorem dX12_instruction_84 : decode cX12_instruction 84 = .ok (.ifCond .eq 13, 3) := by decide +kernel
theorem dX12_instruction_87 : decode cX12_instruction 87 = .ok (.aload_n 0, 1) := by decide +kernel
theorem dX12_instruction_88 : decode cX12_instruction 88 = .ok (.dup, 1) := by decide +kernel
theorem dX12_instruction_89 : decode cX12_instruction 89 = .ok (.getfield 73, 3) := by decide +kernel
theorem dX12_instruction_92 : decode cX12_instruction 92 = .ok (.iconst 1, 1) := by decide +kernel
theorem dX12_instruction_93 : decode cX12_instruction 93 = .ok (.iadd, 1) := by decide +kernel
theorem dX12_instruction_94 : decode cX12_instruction 94 = .ok (.putfield 73, 3) := by decide +kernel
theorem dX12_instruction_97 : decode cX12_instruction 97 = .ok (.iload_n 2, 1) := by decide +kernel
theorem dX12_instruction_98 : decode cX12_instruction 98 = .ok (.bipush 41, 2) := by decide +kernel
theorem dX12_instruction_100 : decode cX12_instruction 100 = .ok (.if_icmp .ne 13, 3) := by decide +kernel
theorem dX12_instruction_103 : decode cX12_instruction 103 = .ok (.aload_n 0, 1) := by decide +kernel
theorem dX12_instruction_104 : decode cX12_instruction 104 = .ok (.dup, 1) := by decide +kernel
theorem dX12_instruction_105 : decode cX12_instruction 105 = .ok (.getfield 73, 3) := by decide +kernel
theorem dX12_instruction_108 : decode cX12_instruction 108 = .ok (.iconst 1, 1) := by decide +kernel
theorem dX12_instruction_109 : decode cX12_instruction 109 = .ok (.isub, 1) := by decide +kernel
theorem dX12_instruction_110 : decode cX12_instruction 110 = .ok (.putfield 73, 3) := by decide +kernel
theorem dX12_instruction_113 : decode cX12_instruction 113 = .ok (.iconst 0, 1) := by decide +kernel
theorem dX12_instruction_114 : decode cX12_instruction 114 = .ok (.istore_n 3, 1) := by decide +kernel
theorem dX12_instruction_115 : decode cX12_instruction 115 = .ok (.iload_n 2, 1) := by decide +kernel
theorem dX12_instruction_116 : decode cX12_instruction 116 = .ok (.ldc 78, 2) := by decide +kernel
theorem dX12_instruction_118 : decode cX12_instruction 118 = .ok (.invokestatic 65, 3) := by decide +kernel
theorem dX12_instruction_121 : decode cX12_instruction 121 = .ok (.ifCond .eq 17, 3) := by decide +kernel
theorem dX12_instruction_124 : decode cX12_instruction 124 = .ok (.aload_n 0, 1) := by decide +kernel
theorem dX12_instruction_125 : decode cX12_instruction 125 = .ok (.bipush 49, 2) := by decide +kernel
theorem dX12_instruction_127 : decode cX12_instruction 127 = .ok (.bipush 57, 2) := by decide +kernel
theorem dX12_instruction_129 : decode cX12_instruction 129 = .ok (.invokevirtual 80, 3) := by decide +kernel
theorem dX12_instruction_132 : decode cX12_instruction 132 = .ok (.iconst 1, 1) := by decide +kernel
theorem dX12_instruction_133 : decode cX12_instruction 133 = .ok (.iadd, 1) := by decide +kernel
theorem dX12_instruction_134 : decode cX12_instruction 134 = .ok (.istore_n 3, 1) := by decide +kernel
theorem dX12_instruction_135 : decode cX12_instruction 135 = .ok (.goto 42, 3) := by decide +kernel
theorem dX12_instruction_138 : decode cX12_instruction 138 = .ok (.iload_n 2, 1) := by decide +kernel
theorem dX12_instruction_139 : decode cX12_instruction 139 = .ok (.ldc 84, 2) := by decide +kernel
theorem dX12_instruction_141 : decode cX12_instruction 141 = .ok (.invokestatic 65, 3) := by decide +kernel
theorem dX12_instruction_144 : decode cX12_instruction 144 = .ok (.ifCond .eq 15, 3) := by decide +kernel
theorem dX12_instruction_147 : decode cX12_instruction 147 = .ok (.aload_n 0, 1) := by decide +kernel
theorem dX12_instruction_148 : decode cX12_instruction 148 = .ok (.bipush 48, 2) := by decide +kernel
theorem dX12_instruction_150 : decode cX12_instruction 150 = .ok (.bipush 53, 2) := by decide +kernel
theorem dX12_instruction_152 : decode cX12_instruction 152 = .ok (.invokevirtual 80, 3) := by decide +kernel
theorem dX12_instruction_155 : decode cX12_instruction 155 = .ok (.istore_n 3, 1) := by decide +kernel
theorem dX12_instruction_156 : decode cX12_instruction 156 = .ok (.goto 21, 3) := by decide +kernel
theorem dX12_instruction_159 : decode cX12_instruction 159 = .ok (.iload_n 2, 1) := by decide +kernel
theorem dX12_instruction_160 : decode cX12_instruction 160 = .ok (.ldc 86, 2) := by decide +kernel
theorem dX12_instruction_162 : decode cX12_instruction 162 = .ok (.invokestatic 65, 3) := by decide +kernel
theorem dX12_instruction_165 : decode cX12_instruction 165 = .ok (.ifCond .eq 12, 3) := by decide +kernel
theorem dX12_instruction_168 : decode cX12_instruction 168 = .ok (.aload_n 0, 1) := by decide +kernel
theorem dX12_instruction_169 : decode cX12_instruction 169 = .ok (.bipush 48, 2) := by decide +kernel
theorem dX12_instruction_171 : decode cX12_instruction 171 = .ok (.bipush 51, 2) := by decide +kernel
theorem dX12_instruction_173 : decode cX12_instruction 173 = .ok (.invokevirtual 80, 3) := by decide +kernel
theorem dX12_instruction_176 : decode cX12_instruction 176 = .ok (.istore_n 3, 1) := by decide +kernel
theorem dX12_instruction_177 : decode cX12_instruction 177 = .ok (.iload_n 3, 1) := by decide +kernel
theorem dX12_instruction_178 : decode cX12_instruction 178 = .ok (.iconst (-1), 1) := by decide +kernel
theorem dX12_instruction_179 : decode cX12_instruction 179 = .ok (.if_icmp .eq 16, 3) := by decide +kernel
theorem dX12_instruction_182 : decode cX12_instruction 182 = .ok (.iload_n 3, 1) := by decide +kernel
theorem dX12_instruction_183 : decode cX12_instruction 183 = .ok (.ifCond .ne 14, 3) := by decide +kernel
theorem dX12_instruction_186 : decode cX12_instruction 186 = .ok (.iload_n 2, 1) := by decide +kernel
theorem dX12_instruction_187 : decode cX12_instruction 187 = .ok (.ldc 78, 2) := by decide +kernel
theorem dX12_instruction_189 : decode cX12_instruction 189 = .ok (.invokestatic 65, 3) := by decide +kernel
theorem dX12_instruction_192 : decode cX12_instruction 192 = .ok (.ifCond .eq 5, 3) := by decide +kernel
theorem dX12_instruction_195 : decode cX12_instruction 195 = .ok (.iconst (-1), 1) := by decide +kernel
theorem dX12_instruction_196 : decode cX12_instruction 196 = .ok (.ireturn, 1) := by decide +kernel
theorem dX12_instruction_197 : decode cX12_instruction 197 = .ok (.iload_n 2, 1) := by decide +kernel
theorem dX12_instruction_198 : decode cX12_instruction 198 = .ok (.bipush 63, 2) := by decide +kernel
theorem dX12_instruction_200 : decode cX12_instruction 200 = .ok (.if_icmp .eq 10, 3) := by decide +kernel
theorem dX12_instruction_203 : decode cX12_instruction 203 = .ok (.bipush 100, 2) := by decide +kernel
theorem dX12_instruction_205 : decode cX12_instruction 205 = .ok (.iload_n 2, 1) := by decide +kernel
theorem dX12_instruction_206 : decode cX12_instruction 206 = .ok (.imul, 1) := by decide +kernel
theorem dX12_instruction_207 : decode cX12_instruction 207 = .ok (.iload_n 3, 1) := by decide +kernel
theorem dX12_instruction_208 : decode cX12_instruction 208 = .ok (.iadd, 1) := by decide +kernel
theorem dX12_instruction_209 : decode cX12_instruction 209 = .ok (.ireturn, 1) := by decide +kernel
theorem dX12_instruction_210 : decode cX12_instruction 210 = .ok (.aload_n 0, 1) := by decide +kernel
theorem dX12_instruction_211 : decode cX12_instruction 211 = .ok (.bipush 48, 2) := by decide +kernel
theorem dX12_instruction_213 : decode cX12_instruction 213 = .ok (.bipush 51, 2) := by decide +kernel
theorem dX12_instruction_215 : decode cX12_instruction 215 = .ok (.invokevirtual 80, 3) := by decide +kernel
theorem dX12_instruction_218 : decode cX12_instruction 218 = .ok (.istore 4, 2) := by decide +kernel
theorem dX12_instruction_220 : decode cX12_instruction 220 = .ok (.iload 4, 2) := by decide +kernel
theorem dX12_instruction_222 : decode cX12_instruction 222 = .ok (.iconst (-1), 1) := by decide +kernel
theorem dX12_instruction_223 : decode cX12_instruction 223 = .ok (.if_icmp .ne 7, 3) := by decide +kernel
theorem dX12_instruction_226 : decode cX12_instruction 226 = .ok (.iconst (-1), 1) := by decide +kernel
theorem dX12_instruction_227 : decode cX12_instruction 227 = .ok (.goto 15, 3) := by decide +kernel
theorem dX12_instruction_230 : decode cX12_instruction 230 = .ok (.bipush 100, 2) := by decide +kernel
theorem dX12_instruction_232 : decode cX12_instruction 232 = .ok (.iload_n 2, 1) := by decide +kernel
theorem dX12_instruction_233 : decode cX12_instruction 233 = .ok (.imul, 1) := by decide +kernel
theorem dX12_instruction_234 : decode cX12_instruction 234 = .ok (.bipush 10, 2) := by decide +kernel
theorem dX12_instruction_236 : decode cX12_instruction 236 = .ok (.iload_n 3, 1) := by decide +kernel
theorem dX12_instruction_237 : decode cX12_instruction 237 = .ok (.imul, 1) := by decide +kernel
theorem dX12_instruction_238 : decode cX12_instruction 238 = .ok (.iadd, 1) := by decide +kernel
theorem dX12_instruction_239 : decode cX12_instruction 239 = .ok (.iload 4, 2) := by decide +kernel
theorem dX12_instruction_241 : decode cX12_instruction 241 = .ok (.iadd, 1) := by decide +kernel
theorem dX12_instruction_242 : decode cX12_instruction 242 = .ok (.ireturn, 1) := by decide +kernel
theorem dX12_instructions_0 : decode cX12_instructions 0 = .ok (.aload_n 0, 1) := by decide +kernel
theorem dX12_instructions_1 : decode cX12_instructions 1 = .ok (.getfield 23, 3) := by decide +kernel
theorem dX12_instructions_4 : decode cX12_instructions 4 = .ok (.iconst 0, 1) := by decide +kernel
theorem dX12_instructions_5 : decode cX12_instructions 5 = .ok (.iconst 0, 1) := by decide +kernel
theorem dX12_instructions_6 : decode cX12_instructions 6 = .ok (.iastore, 1) := by decide +kernel
theorem dX12_instructions_7 : decode cX12_instructions 7 = .ok (.aload_n 0, 1) := by decide +kernel
theorem dX12_instructions_8 : decode cX12_instructions 8 = .ok (.iconst 0, 1) := by decide +kernel
theorem dX12_instructions_9 : decode cX12_instructions 9 = .ok (.putfield 73, 3) := by decide +kernel
theorem dX12_instructions_12 : decode cX12_instructions 12 = .ok (.iconst 0, 1) := by decide +kernel
theorem dX12_instructions_13 : decode cX12_instructions 13 = .ok (.istore_n 1, 1) := by decide +kernel
theorem dX12_instructions_14 : decode cX12_instructions 14 = .ok (.aload_n 0, 1) := by decide +kernel
theorem dX12_instructions_15 : decode cX12_instructions 15 = .ok (.invokevirtual 54, 3) := by decide +kernel
theorem dX12_instructions_18 : decode cX12_instructions 18 = .ok (.bipush 59, 2) := by decide +kernel
theorem dX12_instructions_20 : decode cX12_instructions 20 = .ok (.if_icmp .ne 14, 3) := by decide +kernel
theorem dX12_instructions_23 : decode cX12_instructions 23 = .ok (.aload_n 0, 1) := by decide +kernel
theorem dX12_instructions_24 : decode cX12_instructions 24 = .ok (.getfield 73, 3) := by decide +kernel
theorem dX12_instructions_27 : decode cX12_instructions 27 = .ok (.ifCond .gt 7, 3) := by decide +kernel
theorem dX12_instructions_30 : decode cX12_instructions 30 = .ok (.iload_n 1, 1) := by decide +kernel
theorem dX12_instructions_31 : decode cX12_instructions 31 = .ok (.ifCond .eq 64, 3) := by decide +kernel
theorem dX12_instructions_34 : decode cX12_instructions 34 = .ok (.aload_n 0, 1) := by decide +kernel
theorem dX12_instructions_35 : decode cX12_instructions 35 = .ok (.getfield 23, 3) := by decide +kernel
theorem dX12_instructions_38 : decode cX12_instructions 38 = .ok (.iconst 0, 1) := by decide +kernel
theorem dX12_instructions_39 : decode cX12_instructions 39 = .ok (.iaload, 1) := by decide +kernel
theorem dX12_instructions_40 : decode cX12_instructions 40 = .ok (.bipush 24, 2) := by decide +kernel
theorem dX12_instructions_42 : decode cX12_instructions 42 = .ok (.if_icmp .ne 5, 3) := by decide +kernel
theorem dX12_instructions_45 : decode cX12_instructions 45 = .ok (.iconst 0, 1) := by decide +kernel
theorem dX12_instructions_46 : decode cX12_instructions 46 = .ok (.ireturn, 1) := by decide +kernel
theorem dX12_instructions_47 : decode cX12_instructions 47 = .ok (.aload_n 0, 1) := by decide +kernel
theorem dX12_instructions_48 : decode cX12_instructions 48 = .ok (.iload_n 1, 1) := by decide +kernel
theorem dX12_instructions_49 : decode cX12_instructions 49 = .ok (.invokevirtual 88, 3) := by decide +kernel
theorem dX12_instructions_52 : decode cX12_instructions 52 = .ok (.istore_n 2, 1) := by decide +kernel
theorem dX12_instructions_53 : decode cX12_instructions 53 = .ok (.iload_n 2, 1) := by decide +kernel
theorem dX12_instructions_54 : decode cX12_instructions 54 = .ok (.iconst (-1), 1) := by decide +kernel
theorem dX12_instructions_55 : decode cX12_instructions 55 = .ok (.if_icmp .ne 5, 3) := by decide +kernel
theorem dX12_instructions_58 : decode cX12_instructions 58 = .ok (.iconst 0, 1) := by decide +kernel
theorem dX12_instructions_59 : decode cX12_instructions 59 = .ok (.ireturn, 1) := by decide +kernel
theorem dX12_instructions_60 : decode cX12_instructions 60 = .ok (.aload_n 0, 1) := by decide +kernel
theorem dX12_instructions_61 : decode cX12_instructions 61 = .ok (.getfield 23, 3) := by decide +kernel
theorem dX12_instructions_64 : decode cX12_instructions 64 = .ok (.aload_n 0, 1) := by decide +kernel
theorem dX12_instructions_65 : decode cX12_instructions 65 = .ok (.getfield 23, 3) := by decide +kernel
theorem dX12_instructions_68 : decode cX12_instructions 68 = .ok (.iconst 0, 1) := by decide +kernel
theorem dX12_instructions_69 : decode cX12_instructions 69 = .ok (.dup2, 1) := by decide +kernel
theorem dX12_instructions_70 : decode cX12_instructions 70 = .ok (.iaload, 1) := by decide +kernel
theorem dX12_instructions_71 : decode cX12_instructions 71 = .ok (.iconst 1, 1) := by decide +kernel
theorem dX12_instructions_72 : decode cX12_instructions 72 = .ok (.iadd, 1) := by decide +kernel
theorem dX12_instructions_73 : decode cX12_instructions 73 = .ok (.dup_x2, 1) := by decide +kernel
theorem dX12_instructions_74 : decode cX12_instructions 74 = .ok (.iastore, 1) := by decide +kernel
theorem dX12_instructions_75 : decode cX12_instructions 75 = .ok (.iload_n 2, 1) := by decide +kernel
theorem dX12_instructions_76 : decode cX12_instructions 76 = .ok (.iastore, 1) := by decide +kernel
theorem dX12_instructions_77 : decode cX12_instructions 77 = .ok (.iload_n 2, 1) := by decide +kernel
theorem dX12_instructions_78 : decode cX12_instructions 78 = .ok (.bipush 100, 2) := by decide +kernel
theorem dX12_instructions_80 : decode cX12_instructions 80 = .ok (.idiv, 1) := by decide +kernel
theorem dX12_instructions_81 : decode cX12_instructions 81 = .ok (.bipush 122, 2) := by decide +kernel
theorem dX12_instructions_83 : decode cX12_instructions 83 = .ok (.if_icmp .ne 7, 3) := by decide +kernel
theorem dX12_instructions_86 : decode cX12_instructions 86 = .ok (.iconst 1, 1) := by decide +kernel
theorem dX12_instructions_87 : decode cX12_instructions 87 = .ok (.goto 4, 3) := by decide +kernel
theorem dX12_instructions_90 : decode cX12_instructions 90 = .ok (.iconst 0, 1) := by decide +kernel
theorem dX12_instructions_91 : decode cX12_instructions 91 = .ok (.istore_n 1, 1) := by decide +kernel
theorem dX12_instructions_92 : decode cX12_instructions 92 = .ok (.goto (-78), 3) := by decide +kernel
theorem dX12_instructions_95 : decode cX12_instructions 95 = .ok (.aload_n 0, 1) := by decide +kernel
theorem dX12_instructions_96 : decode cX12_instructions 96 = .ok (.dup, 1) := by decide +kernel
theorem dX12_instructions_97 : decode cX12_instructions 97 = .ok (.getfield 51, 3) := by decide +kernel
theorem dX12_instructions_100 : decode cX12_instructions 100 = .ok (.iconst 1, 1) := by decide +kernel
theorem dX12_instructions_101 : decode cX12_instructions 101 = .ok (.iadd, 1) := by decide +kernel
theorem dX12_instructions_102 : decode cX12_instructions 102 = .ok (.putfield 51, 3) := by decide +kernel
theorem dX12_instructions_105 : decode cX12_instructions 105 = .ok (.iconst 1, 1) := by decide +kernel
theorem dX12_instructions_106 : decode cX12_instructions 106 = .ok (.ireturn, 1) := by decide +kernel
theorem dX12_commands_0 : decode cX12_commands 0 = .ok (.aload_n 0, 1) := by decide +kernel
theorem dX12_commands_1 : decode cX12_commands 1 = .ok (.iconst 0, 1) := by decide +kernel
theorem dX12_commands_2 : decode cX12_commands 2 = .ok (.putfield 51, 3) := by decide +kernel
theorem dX12_commands_5 : decode cX12_commands 5 = .ok (.iconst 0, 1) := by decide +kernel
theorem dX12_commands_6 : decode cX12_commands 6 = .ok (.istore_n 2, 1) := by decide +kernel
theorem dX12_commands_7 : decode cX12_commands 7 = .ok (.aload_n 0, 1) := by decide +kernel
theorem dX12_commands_8 : decode cX12_commands 8 = .ok (.getfield 51, 3) := by decide +kernel
theorem dX12_commands_11 : decode cX12_commands 11 = .ok (.aload_n 0, 1) := by decide +kernel
theorem dX12_commands_12 : decode cX12_commands 12 = .ok (.getfield 48, 3) := by decide +kernel
theorem dX12_commands_15 : decode cX12_commands 15 = .ok (.if_icmp .lt 7, 3) := by decide +kernel
theorem dX12_commands_18 : decode cX12_commands 18 = .ok (.iload_n 2, 1) := by decide +kernel
theorem dX12_commands_19 : decode cX12_commands 19 = .ok (.ifCond .ne 201, 3) := by decide +kernel
theorem dX12_commands_22 : decode cX12_commands 22 = .ok (.aload_n 0, 1) := by decide +kernel
theorem dX12_commands_23 : decode cX12_commands 23 = .ok (.invokevirtual 54, 3) := by decide +kernel
theorem dX12_commands_26 : decode cX12_commands 26 = .ok (.bipush 35, 2) := by decide +kernel
theorem dX12_commands_28 : decode cX12_commands 28 = .ok (.if_icmp .ne 110, 3) := by decide +kernel
theorem dX12_commands_31 : decode cX12_commands 31 = .ok (.aload_n 0, 1) := by decide +kernel
theorem dX12_commands_32 : decode cX12_commands 32 = .ok (.dup, 1) := by decide +kernel
theorem dX12_commands_33 : decode cX12_commands 33 = .ok (.getfield 51, 3) := by decide +kernel
theorem dX12_commands_36 : decode cX12_commands 36 = .ok (.iconst 1, 1) := by decide +kernel
theorem dX12_commands_37 : decode cX12_commands 37 = .ok (.iadd, 1) := by decide +kernel
theorem dX12_commands_38 : decode cX12_commands 38 = .ok (.putfield 51, 3) := by decide +kernel
theorem dX12_commands_41 : decode cX12_commands 41 = .ok (.aload_n 0, 1) := by decide +kernel
theorem dX12_commands_42 : decode cX12_commands 42 = .ok (.bipush 48, 2) := by decide +kernel
theorem dX12_commands_44 : decode cX12_commands 44 = .ok (.bipush 51, 2) := by decide +kernel
theorem dX12_commands_46 : decode cX12_commands 46 = .ok (.invokevirtual 80, 3) := by decide +kernel
theorem dX12_commands_49 : decode cX12_commands 49 = .ok (.istore_n 3, 1) := by decide +kernel
theorem dX12_commands_50 : decode cX12_commands 50 = .ok (.iload_n 3, 1) := by decide +kernel
theorem dX12_commands_51 : decode cX12_commands 51 = .ok (.iconst (-1), 1) := by decide +kernel
theorem dX12_commands_52 : decode cX12_commands 52 = .ok (.if_icmp .ne 7, 3) := by decide +kernel
theorem dX12_commands_55 : decode cX12_commands 55 = .ok (.iconst (-1), 1) := by decide +kernel
theorem dX12_commands_56 : decode cX12_commands 56 = .ok (.goto 11, 3) := by decide +kernel
theorem dX12_commands_59 : decode cX12_commands 59 = .ok (.aload_n 0, 1) := by decide +kernel
theorem dX12_commands_60 : decode cX12_commands 60 = .ok (.bipush 48, 2) := by decide +kernel
theorem dX12_commands_62 : decode cX12_commands 62 = .ok (.bipush 51, 2) := by decide +kernel
theorem dX12_commands_64 : decode cX12_commands 64 = .ok (.invokevirtual 80, 3) := by decide +kernel
theorem dX12_commands_67 : decode cX12_commands 67 = .ok (.istore 4, 2) := by decide +kernel
theorem dX12_commands_69 : decode cX12_commands 69 = .ok (.iload 4, 2) := by decide +kernel
theorem dX12_commands_71 : decode cX12_commands 71 = .ok (.iconst (-1), 1) := by decide +kernel
theorem dX12_commands_72 : decode cX12_commands 72 = .ok (.if_icmp .eq 15, 3) := by decide +kernel
theorem dX12_commands_75 : decode cX12_commands 75 = .ok (.aload_n 0, 1) := by decide +kernel
theorem dX12_commands_76 : decode cX12_commands 76 = .ok (.bipush 59, 2) := by decide +kernel
theorem dX12_commands_78 : decode cX12_commands 78 = .ok (.bipush 59, 2) := by decide +kernel
theorem dX12_commands_80 : decode cX12_commands 80 = .ok (.invokevirtual 80, 3) := by decide +kernel
theorem dX12_commands_83 : decode cX12_commands 83 = .ok (.iconst (-1), 1) := by decide +kernel
theorem dX12_commands_84 : decode cX12_commands 84 = .ok (.if_icmp .ne 5, 3) := by decide +kernel
theorem dX12_commands_87 : decode cX12_commands 87 = .ok (.iconst (-1), 1) := by decide +kernel
theorem dX12_commands_88 : decode cX12_commands 88 = .ok (.ireturn, 1) := by decide +kernel
theorem dX12_commands_89 : decode cX12_commands 89 = .ok (.iload_n 1, 1) := by decide +kernel
theorem dX12_commands_90 : decode cX12_commands 90 = .ok (.ifCond .eq 17, 3) := by decide +kernel
theorem dX12_commands_93 : decode cX12_commands 93 = .ok (.aload_n 0, 1) := by decide +kernel
theorem dX12_commands_94 : decode cX12_commands 94 = .ok (.getfield 9, 3) := by decide +kernel
theorem dX12_commands_97 : decode cX12_commands 97 = .ok (.iload_n 3, 1) := by decide +kernel
theorem dX12_commands_98 : decode cX12_commands 98 = .ok (.invokestatic 92, 3) := by decide +kernel
theorem dX12_commands_101 : decode cX12_commands 101 = .ok (.iload 4, 2) := by decide +kernel
theorem dX12_commands_103 : decode cX12_commands 103 = .ok (.iastore, 1) := by decide +kernel
theorem dX12_commands_104 : decode cX12_commands 104 = .ok (.goto 31, 3) := by decide +kernel
theorem dX12_commands_107 : decode cX12_commands 107 = .ok (.aload_n 0, 1) := by decide +kernel
theorem dX12_commands_108 : decode cX12_commands 108 = .ok (.invokevirtual 95, 3) := by decide +kernel
theorem dX12_commands_111 : decode cX12_commands 111 = .ok (.ifCond .gt 19, 3) := by decide +kernel
theorem dX12_commands_114 : decode cX12_commands 114 = .ok (.iload 4, 2) := by decide +kernel
theorem dX12_commands_116 : decode cX12_commands 116 = .ok (.aload_n 0, 1) := by decide +kernel
theorem dX12_commands_117 : decode cX12_commands 117 = .ok (.getfield 9, 3) := by decide +kernel
theorem dX12_commands_120 : decode cX12_commands 120 = .ok (.iload_n 3, 1) := by decide +kernel
theorem dX12_commands_121 : decode cX12_commands 121 = .ok (.invokestatic 92, 3) := by decide +kernel
theorem dX12_commands_124 : decode cX12_commands 124 = .ok (.iconst 1, 1) := by decide +kernel
theorem dX12_commands_125 : decode cX12_commands 125 = .ok (.iadd, 1) := by decide +kernel
theorem dX12_commands_126 : decode cX12_commands 126 = .ok (.iaload, 1) := by decide +kernel
theorem dX12_commands_127 : decode cX12_commands 127 = .ok (.if_icmp .ge 8, 3) := by decide +kernel
theorem dX12_commands_130 : decode cX12_commands 130 = .ok (.aload_n 0, 1) := by decide +kernel
theorem dX12_commands_131 : decode cX12_commands 131 = .ok (.iconst 1, 1) := by decide +kernel
theorem dX12_commands_132 : decode cX12_commands 132 = .ok (.putfield 98, 3) := by decide +kernel
theorem dX12_commands_135 : decode cX12_commands 135 = .ok (.goto 79, 3) := by decide +kernel
theorem dX12_commands_138 : decode cX12_commands 138 = .ok (.aload_n 0, 1) := by decide +kernel
theorem dX12_commands_139 : decode cX12_commands 139 = .ok (.bipush 48, 2) := by decide +kernel
theorem dX12_commands_141 : decode cX12_commands 141 = .ok (.bipush 53, 2) := by decide +kernel
theorem dX12_commands_143 : decode cX12_commands 143 = .ok (.invokevirtual 80, 3) := by decide +kernel
theorem dX12_commands_146 : decode cX12_commands 146 = .ok (.istore_n 3, 1) := by decide +kernel
theorem dX12_commands_147 : decode cX12_commands 147 = .ok (.iload_n 3, 1) := by decide +kernel
theorem dX12_commands_148 : decode cX12_commands 148 = .ok (.iconst (-1), 1) := by decide +kernel
theorem dX12_commands_149 : decode cX12_commands 149 = .ok (.if_icmp .eq 22, 3) := by decide +kernel
theorem dX12_commands_152 : decode cX12_commands 152 = .ok (.aload_n 0, 1) := by decide +kernel
theorem dX12_commands_153 : decode cX12_commands 153 = .ok (.bipush 58, 2) := by decide +kernel
theorem dX12_commands_155 : decode cX12_commands 155 = .ok (.bipush 58, 2) := by decide +kernel
theorem dX12_commands_157 : decode cX12_commands 157 = .ok (.invokevirtual 80, 3) := by decide +kernel
theorem dX12_commands_160 : decode cX12_commands 160 = .ok (.iconst (-1), 1) := by decide +kernel
theorem dX12_commands_161 : decode cX12_commands 161 = .ok (.if_icmp .eq 10, 3) := by decide +kernel
theorem dX12_commands_164 : decode cX12_commands 164 = .ok (.aload_n 0, 1) := by decide +kernel
theorem dX12_commands_165 : decode cX12_commands 165 = .ok (.invokevirtual 102, 3) := by decide +kernel
theorem dX12_commands_168 : decode cX12_commands 168 = .ok (.ifCond .ne 5, 3) := by decide +kernel
theorem dX12_commands_171 : decode cX12_commands 171 = .ok (.iconst (-1), 1) := by decide +kernel
theorem dX12_commands_172 : decode cX12_commands 172 = .ok (.ireturn, 1) := by decide +kernel
theorem dX12_commands_173 : decode cX12_commands 173 = .ok (.iconst 0, 1) := by decide +kernel
theorem dX12_commands_174 : decode cX12_commands 174 = .ok (.istore 4, 2) := by decide +kernel
theorem dX12_commands_176 : decode cX12_commands 176 = .ok (.iload 4, 2) := by decide +kernel
theorem dX12_commands_178 : decode cX12_commands 178 = .ok (.bipush 25, 2) := by decide +kernel
theorem dX12_commands_180 : decode cX12_commands 180 = .ok (.if_icmp .ge 34, 3) := by decide +kernel
theorem dX12_commands_183 : decode cX12_commands 183 = .ok (.iload_n 1, 1) := by decide +kernel
theorem dX12_commands_184 : decode cX12_commands 184 = .ok (.ifCond .eq 30, 3) := by decide +kernel
theorem dX12_commands_187 : decode cX12_commands 187 = .ok (.aload_n 0, 1) := by decide +kernel
theorem dX12_commands_188 : decode cX12_commands 188 = .ok (.getfield 9, 3) := by decide +kernel
theorem dX12_commands_191 : decode cX12_commands 191 = .ok (.iconst 0, 1) := by decide +kernel
theorem dX12_commands_192 : decode cX12_commands 192 = .ok (.bipush 25, 2) := by decide +kernel
theorem dX12_commands_194 : decode cX12_commands 194 = .ok (.iload_n 3, 1) := by decide +kernel
theorem dX12_commands_195 : decode cX12_commands 195 = .ok (.imul, 1) := by decide +kernel
theorem dX12_commands_196 : decode cX12_commands 196 = .ok (.iadd, 1) := by decide +kernel
theorem dX12_commands_197 : decode cX12_commands 197 = .ok (.iload 4, 2) := by decide +kernel
theorem dX12_commands_199 : decode cX12_commands 199 = .ok (.iadd, 1) := by decide +kernel
theorem dX12_commands_200 : decode cX12_commands 200 = .ok (.aload_n 0, 1) := by decide +kernel
theorem dX12_commands_201 : decode cX12_commands 201 = .ok (.getfield 23, 3) := by decide +kernel
theorem dX12_commands_204 : decode cX12_commands 204 = .ok (.iload 4, 2) := by decide +kernel
theorem dX12_commands_206 : decode cX12_commands 206 = .ok (.iaload, 1) := by decide +kernel
theorem dX12_commands_207 : decode cX12_commands 207 = .ok (.iastore, 1) := by decide +kernel
theorem dX12_commands_208 : decode cX12_commands 208 = .ok (.iinc 4 1, 3) := by decide +kernel
theorem dX12_commands_211 : decode cX12_commands 211 = .ok (.goto (-35), 3) := by decide +kernel
theorem dX12_commands_214 : decode cX12_commands 214 = .ok (.iinc 2 1, 3) := by decide +kernel
theorem dX12_commands_217 : decode cX12_commands 217 = .ok (.goto (-210), 3) := by decide +kernel
theorem dX12_commands_220 : decode cX12_commands 220 = .ok (.iload_n 2, 1) := by decide +kernel
theorem dX12_commands_221 : decode cX12_commands 221 = .ok (.ireturn, 1) := by decide +kernel
theorem dX12_execute_0 : decode cX12_execute 0 = .ok (.aload_n 0, 1) := by decide +kernel
theorem dX12_execute_1 : decode cX12_execute 1 = .ok (.iconst 0, 1) := by decide +kernel
theorem dX12_execute_2 : decode cX12_execute 2 = .ok (.putfield 26, 3) := by decide +kernel
theorem dX12_execute_5 : decode cX12_execute 5 = .ok (.aload_n 0, 1) := by decide +kernel
theorem dX12_execute_6 : decode cX12_execute 6 = .ok (.iconst 0, 1) := by decide +kernel
theorem dX12_execute_7 : decode cX12_execute 7 = .ok (.putfield 98, 3) := by decide +kernel
theorem dX12_execute_10 : decode cX12_execute 10 = .ok (.aload_n 0, 1) := by decide +kernel
theorem dX12_execute_11 : decode cX12_execute 11 = .ok (.iconst 0, 1) := by decide +kernel
theorem dX12_execute_12 : decode cX12_execute 12 = .ok (.invokevirtual 106, 3) := by decide +kernel
theorem dX12_execute_15 : decode cX12_execute 15 = .ok (.istore_n 1, 1) := by decide +kernel
theorem dX12_execute_16 : decode cX12_execute 16 = .ok (.aload_n 0, 1) := by decide +kernel
theorem dX12_execute_17 : decode cX12_execute 17 = .ok (.iload_n 1, 1) := by decide +kernel
theorem dX12_execute_18 : decode cX12_execute 18 = .ok (.ifCond .ge 10, 3) := by decide +kernel
theorem dX12_execute_21 : decode cX12_execute 21 = .ok (.aload_n 0, 1) := by decide +kernel
theorem dX12_execute_22 : decode cX12_execute 22 = .ok (.getfield 51, 3) := by decide +kernel
theorem dX12_execute_25 : decode cX12_execute 25 = .ok (.goto 4, 3) := by decide +kernel
theorem dX12_execute_28 : decode cX12_execute 28 = .ok (.iconst (-1), 1) := by decide +kernel
theorem dX12_execute_29 : decode cX12_execute 29 = .ok (.putfield 19, 3) := by decide +kernel
theorem dX12_execute_32 : decode cX12_execute 32 = .ok (.iload_n 1, 1) := by decide +kernel
theorem dX12_execute_33 : decode cX12_execute 33 = .ok (.ifCond .ge 12, 3) := by decide +kernel
theorem dX12_execute_36 : decode cX12_execute 36 = .ok (.aload_n 0, 1) := by decide +kernel
theorem dX12_execute_37 : decode cX12_execute 37 = .ok (.iconst 1, 1) := by decide +kernel
theorem dX12_execute_38 : decode cX12_execute 38 = .ok (.invokevirtual 45, 3) := by decide +kernel
theorem dX12_execute_41 : decode cX12_execute 41 = .ok (.pop, 1) := by decide +kernel
theorem dX12_execute_42 : decode cX12_execute 42 = .ok (.goto 25, 3) := by decide +kernel
theorem dX12_execute_45 : decode cX12_execute 45 = .ok (.aload_n 0, 1) := by decide +kernel
theorem dX12_execute_46 : decode cX12_execute 46 = .ok (.getfield 98, 3) := by decide +kernel
theorem dX12_execute_49 : decode cX12_execute 49 = .ok (.ifCond .eq 12, 3) := by decide +kernel
theorem dX12_execute_52 : decode cX12_execute 52 = .ok (.aload_n 0, 1) := by decide +kernel
theorem dX12_execute_53 : decode cX12_execute 53 = .ok (.iconst 2, 1) := by decide +kernel
theorem dX12_execute_54 : decode cX12_execute 54 = .ok (.invokevirtual 45, 3) := by decide +kernel
theorem dX12_execute_57 : decode cX12_execute 57 = .ok (.pop, 1) := by decide +kernel
theorem dX12_execute_58 : decode cX12_execute 58 = .ok (.goto 9, 3) := by decide +kernel
theorem dX12_execute_61 : decode cX12_execute 61 = .ok (.aload_n 0, 1) := by decide +kernel
theorem dX12_execute_62 : decode cX12_execute 62 = .ok (.iconst 1, 1) := by decide +kernel
theorem dX12_execute_63 : decode cX12_execute 63 = .ok (.invokevirtual 106, 3) := by decide +kernel
theorem dX12_execute_66 : decode cX12_execute 66 = .ok (.pop, 1) := by decide +kernel
theorem dX12_execute_67 : decode cX12_execute 67 = .ok (.aload_n 0, 1) := by decide +kernel
theorem dX12_execute_68 : decode cX12_execute 68 = .ok (.iconst 0, 1) := by decide +kernel
theorem dX12_execute_69 : decode cX12_execute 69 = .ok (.putfield 48, 3) := by decide +kernel
theorem dX12_execute_72 : decode cX12_execute 72 = .ok (.aload_n 0, 1) := by decide +kernel
theorem dX12_execute_73 : decode cX12_execute 73 = .ok (.getfield 26, 3) := by decide +kernel
theorem dX12_execute_76 : decode cX12_execute 76 = .ok (.ifCond .le 7, 3) := by decide +kernel
theorem dX12_execute_79 : decode cX12_execute 79 = .ok (.iconst 0, 1) := by decide +kernel
theorem dX12_execute_80 : decode cX12_execute 80 = .ok (.goto 4, 3) := by decide +kernel
theorem dX12_execute_83 : decode cX12_execute 83 = .ok (.iload_n 1, 1) := by decide +kernel
theorem dX12_execute_84 : decode cX12_execute 84 = .ok (.ireturn, 1) := by decide +kernel
theorem dX12_errorPosition_0 : decode cX12_errorPosition 0 = .ok (.aload_n 0, 1) := by decide +kernel
theorem dX12_errorPosition_1 : decode cX12_errorPosition 1 = .ok (.iconst 0, 1) := by decide +kernel
theorem dX12_errorPosition_2 : decode cX12_errorPosition 2 = .ok (.putfield 26, 3) := by decide +kernel
theorem dX12_errorPosition_5 : decode cX12_errorPosition 5 = .ok (.aload_n 0, 1) := by decide +kernel
theorem dX12_errorPosition_6 : decode cX12_errorPosition 6 = .ok (.getfield 19, 3) := by decide +kernel
theorem dX12_errorPosition_9 : decode cX12_errorPosition 9 = .ok (.ireturn, 1) := by decide +kernel
theorem dX12_program_0 : decode cX12_program 0 = .ok (.aload_n 0, 1) := by decide +kernel
theorem dX12_program_1 : decode cX12_program 1 = .ok (.iconst 0, 1) := by decide +kernel
theorem dX12_program_2 : decode cX12_program 2 = .ok (.putfield 26, 3) := by decide +kernel
theorem dX12_program_5 : decode cX12_program 5 = .ok (.iload_n 1, 1) := by decide +kernel
theorem dX12_program_6 : decode cX12_program 6 = .ok (.iconst 0, 1) := by decide +kernel
theorem dX12_program_7 : decode cX12_program 7 = .ok (.iconst 5, 1) := by decide +kernel
theorem dX12_program_8 : decode cX12_program 8 = .ok (.invokestatic 33, 3) := by decide +kernel
theorem dX12_program_11 : decode cX12_program 11 = .ok (.ifCond .ne 9, 3) := by decide +kernel
theorem dX12_program_14 : decode cX12_program 14 = .ok (.aload_n 0, 1) := by decide +kernel
theorem dX12_program_15 : decode cX12_program 15 = .ok (.iconst 1, 1) := by decide +kernel
theorem dX12_program_16 : decode cX12_program 16 = .ok (.invokevirtual 45, 3) := by decide +kernel
theorem dX12_program_19 : decode cX12_program 19 = .ok (.ireturn, 1) := by decide +kernel
theorem dX12_program_20 : decode cX12_program 20 = .ok (.iconst 0, 1) := by decide +kernel
theorem dX12_program_21 : decode cX12_program 21 = .ok (.bipush 25, 2) := by decide +kernel
theorem dX12_program_23 : decode cX12_program 23 = .ok (.iload_n 1, 1) := by decide +kernel
theorem dX12_program_24 : decode cX12_program 24 = .ok (.imul, 1) := by decide +kernel
theorem dX12_program_25 : decode cX12_program 25 = .ok (.iadd, 1) := by decide +kernel
theorem dX12_program_26 : decode cX12_program 26 = .ok (.istore_n 3, 1) := by decide +kernel
theorem dX12_program_27 : decode cX12_program 27 = .ok (.iload_n 2, 1) := by decide +kernel
theorem dX12_program_28 : decode cX12_program 28 = .ok (.iconst (-1), 1) := by decide +kernel
theorem dX12_program_29 : decode cX12_program 29 = .ok (.aload_n 0, 1) := by decide +kernel
theorem dX12_program_30 : decode cX12_program 30 = .ok (.getfield 9, 3) := by decide +kernel
theorem dX12_program_33 : decode cX12_program 33 = .ok (.iload_n 3, 1) := by decide +kernel
theorem dX12_program_34 : decode cX12_program 34 = .ok (.iaload, 1) := by decide +kernel
theorem dX12_program_35 : decode cX12_program 35 = .ok (.iconst 1, 1) := by decide +kernel
theorem dX12_program_36 : decode cX12_program 36 = .ok (.isub, 1) := by decide +kernel
theorem dX12_program_37 : decode cX12_program 37 = .ok (.invokestatic 33, 3) := by decide +kernel
theorem dX12_program_40 : decode cX12_program 40 = .ok (.ifCond .eq 16, 3) := by decide +kernel
theorem dX12_program_43 : decode cX12_program 43 = .ok (.aload_n 0, 1) := by decide +kernel
theorem dX12_program_44 : decode cX12_program 44 = .ok (.getfield 9, 3) := by decide +kernel
theorem dX12_program_47 : decode cX12_program 47 = .ok (.iload_n 3, 1) := by decide +kernel
theorem dX12_program_48 : decode cX12_program 48 = .ok (.iload_n 2, 1) := by decide +kernel
theorem dX12_program_49 : decode cX12_program 49 = .ok (.iadd, 1) := by decide +kernel
theorem dX12_program_50 : decode cX12_program 50 = .ok (.iconst 1, 1) := by decide +kernel
theorem dX12_program_51 : decode cX12_program 51 = .ok (.iadd, 1) := by decide +kernel
theorem dX12_program_52 : decode cX12_program 52 = .ok (.iaload, 1) := by decide +kernel
theorem dX12_program_53 : decode cX12_program 53 = .ok (.goto 8, 3) := by decide +kernel
theorem dX12_program_56 : decode cX12_program 56 = .ok (.aload_n 0, 1) := by decide +kernel
theorem dX12_program_57 : decode cX12_program 57 = .ok (.iconst 1, 1) := by decide +kernel
theorem dX12_program_58 : decode cX12_program 58 = .ok (.invokevirtual 45, 3) := by decide +kernel
theorem dX12_program_61 : decode cX12_program 61 = .ok (.ireturn, 1) := by decide +kernel
theorem dX12_reset_0 : decode cX12_reset 0 = .ok (.aload_n 0, 1) := by decide +kernel
theorem dX12_reset_1 : decode cX12_reset 1 = .ok (.iconst 0, 1) := by decide +kernel
theorem dX12_reset_2 : decode cX12_reset 2 = .ok (.putfield 26, 3) := by decide +kernel
theorem dX12_reset_5 : decode cX12_reset 5 = .ok (.aload_n 0, 1) := by decide +kernel
theorem dX12_reset_6 : decode cX12_reset 6 = .ok (.invokevirtual 95, 3) := by decide +kernel
theorem dX12_reset_9 : decode cX12_reset 9 = .ok (.istore_n 1, 1) := by decide +kernel
theorem dX12_reset_10 : decode cX12_reset 10 = .ok (.sipush 170, 3) := by decide +kernel
theorem dX12_reset_13 : decode cX12_reset 13 = .ok (.istore_n 2, 1) := by decide +kernel
theorem dX12_reset_14 : decode cX12_reset 14 = .ok (.iload_n 2, 1) := by decide +kernel
theorem dX12_reset_15 : decode cX12_reset 15 = .ok (.sipush 9231, 3) := by decide +kernel
theorem dX12_reset_18 : decode cX12_reset 18 = .ok (.if_icmp .ge 16, 3) := by decide +kernel
theorem dX12_reset_21 : decode cX12_reset 21 = .ok (.aload_n 0, 1) := by decide +kernel
theorem dX12_reset_22 : decode cX12_reset 22 = .ok (.getfield 9, 3) := by decide +kernel
theorem dX12_reset_25 : decode cX12_reset 25 = .ok (.iload_n 2, 1) := by decide +kernel
theorem dX12_reset_26 : decode cX12_reset 26 = .ok (.iconst 0, 1) := by decide +kernel
theorem dX12_reset_27 : decode cX12_reset 27 = .ok (.iastore, 1) := by decide +kernel
theorem dX12_reset_28 : decode cX12_reset 28 = .ok (.iinc 2 1, 3) := by decide +kernel
theorem dX12_reset_31 : decode cX12_reset 31 = .ok (.goto (-17), 3) := by decide +kernel
theorem dX12_reset_34 : decode cX12_reset 34 = .ok (.iconst 0, 1) := by decide +kernel
theorem dX12_reset_35 : decode cX12_reset 35 = .ok (.istore_n 2, 1) := by decide +kernel
theorem dX12_reset_36 : decode cX12_reset 36 = .ok (.iload_n 2, 1) := by decide +kernel
theorem dX12_reset_37 : decode cX12_reset 37 = .ok (.iconst 4, 1) := by decide +kernel
theorem dX12_reset_38 : decode cX12_reset 38 = .ok (.if_icmp .ge 21, 3) := by decide +kernel
theorem dX12_reset_41 : decode cX12_reset 41 = .ok (.aload_n 0, 1) := by decide +kernel
theorem dX12_reset_42 : decode cX12_reset 42 = .ok (.getfield 9, 3) := by decide +kernel
theorem dX12_reset_45 : decode cX12_reset 45 = .ok (.iload_n 2, 1) := by decide +kernel
theorem dX12_reset_46 : decode cX12_reset 46 = .ok (.invokestatic 92, 3) := by decide +kernel
theorem dX12_reset_49 : decode cX12_reset 49 = .ok (.iconst 1, 1) := by decide +kernel
theorem dX12_reset_50 : decode cX12_reset 50 = .ok (.iadd, 1) := by decide +kernel
theorem dX12_reset_51 : decode cX12_reset 51 = .ok (.iconst 0, 1) := by decide +kernel
theorem dX12_reset_52 : decode cX12_reset 52 = .ok (.iastore, 1) := by decide +kernel
theorem dX12_reset_53 : decode cX12_reset 53 = .ok (.iinc 2 1, 3) := by decide +kernel
theorem dX12_reset_56 : decode cX12_reset 56 = .ok (.goto (-20), 3) := by decide +kernel
theorem dX12_reset_59 : decode cX12_reset 59 = .ok (.iload_n 1, 1) := by decide +kernel
theorem dX12_reset_60 : decode cX12_reset 60 = .ok (.ireturn, 1) := by decide +kernel
theorem dX12_queues_0 : decode cX12_queues 0 = .ok (.iconst 0, 1) := by decide +kernel
theorem dX12_queues_1 : decode cX12_queues 1 = .ok (.istore_n 2, 1) := by decide +kernel
theorem dX12_queues_2 : decode cX12_queues 2 = .ok (.iload_n 2, 1) := by decide +kernel
theorem dX12_queues_3 : decode cX12_queues 3 = .ok (.aload_n 0, 1) := by decide +kernel
theorem dX12_queues_4 : decode cX12_queues 4 = .ok (.getfield 9, 3) := by decide +kernel
theorem dX12_queues_7 : decode cX12_queues 7 = .ok (.sipush 173, 3) := by decide +kernel
theorem dX12_queues_10 : decode cX12_queues 10 = .ok (.iaload, 1) := by decide +kernel
theorem dX12_queues_11 : decode cX12_queues 11 = .ok (.if_icmp .ge 24, 3) := by decide +kernel
theorem dX12_queues_14 : decode cX12_queues 14 = .ok (.aload_n 0, 1) := by decide +kernel
theorem dX12_queues_15 : decode cX12_queues 15 = .ok (.getfield 9, 3) := by decide +kernel
theorem dX12_queues_18 : decode cX12_queues 18 = .ok (.sipush 183, 3) := by decide +kernel
theorem dX12_queues_21 : decode cX12_queues 21 = .ok (.iload_n 2, 1) := by decide +kernel
theorem dX12_queues_22 : decode cX12_queues 22 = .ok (.iadd, 1) := by decide +kernel
theorem dX12_queues_23 : decode cX12_queues 23 = .ok (.iaload, 1) := by decide +kernel
theorem dX12_queues_24 : decode cX12_queues 24 = .ok (.iload_n 1, 1) := by decide +kernel
theorem dX12_queues_25 : decode cX12_queues 25 = .ok (.if_icmp .ne 4, 3) := by decide +kernel
theorem dX12_queues_28 : decode cX12_queues 28 = .ok (.return_, 1) := by decide +kernel
theorem dX12_queues_29 : decode cX12_queues 29 = .ok (.iinc 2 1, 3) := by decide +kernel
theorem dX12_queues_32 : decode cX12_queues 32 = .ok (.goto (-30), 3) := by decide +kernel
theorem dX12_queues_35 : decode cX12_queues 35 = .ok (.aload_n 0, 1) := by decide +kernel
theorem dX12_queues_36 : decode cX12_queues 36 = .ok (.getfield 9, 3) := by decide +kernel
theorem dX12_queues_39 : decode cX12_queues 39 = .ok (.sipush 183, 3) := by decide +kernel
theorem dX12_queues_42 : decode cX12_queues 42 = .ok (.aload_n 0, 1) := by decide +kernel
theorem dX12_queues_43 : decode cX12_queues 43 = .ok (.getfield 9, 3) := by decide +kernel
theorem dX12_queues_46 : decode cX12_queues 46 = .ok (.sipush 173, 3) := by decide +kernel
theorem dX12_queues_49 : decode cX12_queues 49 = .ok (.dup2, 1) := by decide +kernel
theorem dX12_queues_50 : decode cX12_queues 50 = .ok (.iaload, 1) := by decide +kernel
theorem dX12_queues_51 : decode cX12_queues 51 = .ok (.dup_x2, 1) := by decide +kernel
theorem dX12_queues_52 : decode cX12_queues 52 = .ok (.iconst 1, 1) := by decide +kernel
theorem dX12_queues_53 : decode cX12_queues 53 = .ok (.iadd, 1) := by decide +kernel
theorem dX12_queues_54 : decode cX12_queues 54 = .ok (.iastore, 1) := by decide +kernel
theorem dX12_queues_55 : decode cX12_queues 55 = .ok (.iadd, 1) := by decide +kernel
theorem dX12_queues_56 : decode cX12_queues 56 = .ok (.iload_n 1, 1) := by decide +kernel
theorem dX12_queues_57 : decode cX12_queues 57 = .ok (.iastore, 1) := by decide +kernel
theorem dX12_queues_58 : decode cX12_queues 58 = .ok (.return_, 1) := by decide +kernel
theorem dX12_readies_0 : decode cX12_readies 0 = .ok (.aload_n 0, 1) := by decide +kernel
theorem dX12_readies_1 : decode cX12_readies 1 = .ok (.iload_n 1, 1) := by decide +kernel
theorem dX12_readies_2 : decode cX12_readies 2 = .ok (.iconst 0, 1) := by decide +kernel
theorem dX12_readies_3 : decode cX12_readies 3 = .ok (.iconst 0, 1) := by decide +kernel
theorem dX12_readies_4 : decode cX12_readies 4 = .ok (.invokevirtual 109, 3) := by decide +kernel
theorem dX12_readies_7 : decode cX12_readies 7 = .ok (.aload_n 0, 1) := by decide +kernel
theorem dX12_readies_8 : decode cX12_readies 8 = .ok (.iload_n 1, 1) := by decide +kernel
theorem dX12_readies_9 : decode cX12_readies 9 = .ok (.invokevirtual 113, 3) := by decide +kernel
theorem dX12_readies_12 : decode cX12_readies 12 = .ok (.return_, 1) := by decide +kernel
theorem dX12_copies_0 : decode cX12_copies 0 = .ok (.iconst 0, 1) := by decide +kernel
theorem dX12_copies_1 : decode cX12_copies 1 = .ok (.istore_n 3, 1) := by decide +kernel
theorem dX12_copies_2 : decode cX12_copies 2 = .ok (.iload_n 3, 1) := by decide +kernel
theorem dX12_copies_3 : decode cX12_copies 3 = .ok (.bipush 25, 2) := by decide +kernel
theorem dX12_copies_5 : decode cX12_copies 5 = .ok (.if_icmp .ge 25, 3) := by decide +kernel
theorem dX12_copies_8 : decode cX12_copies 8 = .ok (.aload_n 0, 1) := by decide +kernel
theorem dX12_copies_9 : decode cX12_copies 9 = .ok (.getfield 9, 3) := by decide +kernel
theorem dX12_copies_12 : decode cX12_copies 12 = .ok (.iload_n 2, 1) := by decide +kernel
theorem dX12_copies_13 : decode cX12_copies 13 = .ok (.iload_n 3, 1) := by decide +kernel
theorem dX12_copies_14 : decode cX12_copies 14 = .ok (.iadd, 1) := by decide +kernel
theorem dX12_copies_15 : decode cX12_copies 15 = .ok (.aload_n 0, 1) := by decide +kernel
theorem dX12_copies_16 : decode cX12_copies 16 = .ok (.getfield 9, 3) := by decide +kernel
theorem dX12_copies_19 : decode cX12_copies 19 = .ok (.iload_n 1, 1) := by decide +kernel
theorem dX12_copies_20 : decode cX12_copies 20 = .ok (.iload_n 3, 1) := by decide +kernel
theorem dX12_copies_21 : decode cX12_copies 21 = .ok (.iadd, 1) := by decide +kernel
theorem dX12_copies_22 : decode cX12_copies 22 = .ok (.iaload, 1) := by decide +kernel
theorem dX12_copies_23 : decode cX12_copies 23 = .ok (.iastore, 1) := by decide +kernel
theorem dX12_copies_24 : decode cX12_copies 24 = .ok (.iinc 3 1, 3) := by decide +kernel
theorem dX12_copies_27 : decode cX12_copies 27 = .ok (.goto (-25), 3) := by decide +kernel
theorem dX12_copies_30 : decode cX12_copies 30 = .ok (.return_, 1) := by decide +kernel
theorem dX12_starts_0 : decode cX12_starts 0 = .ok (.aload_n 0, 1) := by decide +kernel
theorem dX12_starts_1 : decode cX12_starts 1 = .ok (.getfield 9, 3) := by decide +kernel
theorem dX12_starts_4 : decode cX12_starts 4 = .ok (.sipush 170, 3) := by decide +kernel
theorem dX12_starts_7 : decode cX12_starts 7 = .ok (.dup2, 1) := by decide +kernel
theorem dX12_starts_8 : decode cX12_starts 8 = .ok (.iaload, 1) := by decide +kernel
theorem dX12_starts_9 : decode cX12_starts 9 = .ok (.dup_x2, 1) := by decide +kernel
theorem dX12_starts_10 : decode cX12_starts 10 = .ok (.iconst 1, 1) := by decide +kernel
theorem dX12_starts_11 : decode cX12_starts 11 = .ok (.iadd, 1) := by decide +kernel
theorem dX12_starts_12 : decode cX12_starts 12 = .ok (.iastore, 1) := by decide +kernel
theorem dX12_starts_13 : decode cX12_starts 13 = .ok (.istore_n 3, 1) := by decide +kernel
theorem dX12_starts_14 : decode cX12_starts 14 = .ok (.iconst 0, 1) := by decide +kernel
theorem dX12_starts_15 : decode cX12_starts 15 = .ok (.istore 4, 2) := by decide +kernel
theorem dX12_starts_17 : decode cX12_starts 17 = .ok (.iload 4, 2) := by decide +kernel
theorem dX12_starts_19 : decode cX12_starts 19 = .ok (.bipush 45, 2) := by decide +kernel
theorem dX12_starts_21 : decode cX12_starts 21 = .ok (.if_icmp .ge 17, 3) := by decide +kernel
theorem dX12_starts_24 : decode cX12_starts 24 = .ok (.aload_n 0, 1) := by decide +kernel
theorem dX12_starts_25 : decode cX12_starts 25 = .ok (.iload_n 3, 1) := by decide +kernel
theorem dX12_starts_26 : decode cX12_starts 26 = .ok (.iload 4, 2) := by decide +kernel
theorem dX12_starts_28 : decode cX12_starts 28 = .ok (.iconst 0, 1) := by decide +kernel
theorem dX12_starts_29 : decode cX12_starts 29 = .ok (.invokevirtual 109, 3) := by decide +kernel
theorem dX12_starts_32 : decode cX12_starts 32 = .ok (.iinc 4 1, 3) := by decide +kernel
theorem dX12_starts_35 : decode cX12_starts 35 = .ok (.goto (-18), 3) := by decide +kernel
theorem dX12_starts_38 : decode cX12_starts 38 = .ok (.aload_n 0, 1) := by decide +kernel
theorem dX12_starts_39 : decode cX12_starts 39 = .ok (.iload_n 3, 1) := by decide +kernel
theorem dX12_starts_40 : decode cX12_starts 40 = .ok (.iconst 4, 1) := by decide +kernel
theorem dX12_starts_41 : decode cX12_starts 41 = .ok (.iload_n 2, 1) := by decide +kernel
theorem dX12_starts_42 : decode cX12_starts 42 = .ok (.invokevirtual 109, 3) := by decide +kernel
theorem dX12_starts_45 : decode cX12_starts 45 = .ok (.aload_n 0, 1) := by decide +kernel
theorem dX12_starts_46 : decode cX12_starts 46 = .ok (.iload_n 3, 1) := by decide +kernel
theorem dX12_starts_47 : decode cX12_starts 47 = .ok (.bipush 7, 2) := by decide +kernel
theorem dX12_starts_49 : decode cX12_starts 49 = .ok (.bipush (-2), 2) := by decide +kernel
theorem dX12_starts_51 : decode cX12_starts 51 = .ok (.invokevirtual 109, 3) := by decide +kernel
theorem dX12_starts_54 : decode cX12_starts 54 = .ok (.aload_n 0, 1) := by decide +kernel
theorem dX12_starts_55 : decode cX12_starts 55 = .ok (.iconst 0, 1) := by decide +kernel
theorem dX12_starts_56 : decode cX12_starts 56 = .ok (.bipush 25, 2) := by decide +kernel
theorem dX12_starts_58 : decode cX12_starts 58 = .ok (.iload_n 1, 1) := by decide +kernel
theorem dX12_starts_59 : decode cX12_starts 59 = .ok (.imul, 1) := by decide +kernel
theorem dX12_starts_60 : decode cX12_starts 60 = .ok (.iadd, 1) := by decide +kernel
theorem dX12_starts_61 : decode cX12_starts 61 = .ok (.iload_n 3, 1) := by decide +kernel
theorem dX12_starts_62 : decode cX12_starts 62 = .ok (.invokestatic 29, 3) := by decide +kernel
theorem dX12_starts_65 : decode cX12_starts 65 = .ok (.bipush 20, 2) := by decide +kernel
theorem dX12_starts_67 : decode cX12_starts 67 = .ok (.iadd, 1) := by decide +kernel
theorem dX12_starts_68 : decode cX12_starts 68 = .ok (.invokevirtual 117, 3) := by decide +kernel
theorem dX12_starts_71 : decode cX12_starts 71 = .ok (.aload_n 0, 1) := by decide +kernel
theorem dX12_starts_72 : decode cX12_starts 72 = .ok (.iload_n 3, 1) := by decide +kernel
theorem dX12_starts_73 : decode cX12_starts 73 = .ok (.invokevirtual 121, 3) := by decide +kernel
theorem dX12_starts_76 : decode cX12_starts 76 = .ok (.iload_n 3, 1) := by decide +kernel
theorem dX12_starts_77 : decode cX12_starts 77 = .ok (.ireturn, 1) := by decide +kernel
theorem dX12_start_0 : decode cX12_start 0 = .ok (.aload_n 0, 1) := by decide +kernel
theorem dX12_start_1 : decode cX12_start 1 = .ok (.iconst 0, 1) := by decide +kernel
theorem dX12_start_2 : decode cX12_start 2 = .ok (.putfield 26, 3) := by decide +kernel
theorem dX12_start_5 : decode cX12_start 5 = .ok (.iload_n 1, 1) := by decide +kernel
theorem dX12_start_6 : decode cX12_start 6 = .ok (.iconst 0, 1) := by decide +kernel
theorem dX12_start_7 : decode cX12_start 7 = .ok (.iconst 5, 1) := by decide +kernel
theorem dX12_start_8 : decode cX12_start 8 = .ok (.invokestatic 33, 3) := by decide +kernel
theorem dX12_start_11 : decode cX12_start 11 = .ok (.ifCond .ne 9, 3) := by decide +kernel
theorem dX12_start_14 : decode cX12_start 14 = .ok (.aload_n 0, 1) := by decide +kernel
theorem dX12_start_15 : decode cX12_start 15 = .ok (.iconst 1, 1) := by decide +kernel
theorem dX12_start_16 : decode cX12_start 16 = .ok (.invokevirtual 45, 3) := by decide +kernel
theorem dX12_start_19 : decode cX12_start 19 = .ok (.ireturn, 1) := by decide +kernel
theorem dX12_start_20 : decode cX12_start 20 = .ok (.aload_n 0, 1) := by decide +kernel
theorem dX12_start_21 : decode cX12_start 21 = .ok (.getfield 9, 3) := by decide +kernel
theorem dX12_start_24 : decode cX12_start 24 = .ok (.sipush 170, 3) := by decide +kernel
theorem dX12_start_27 : decode cX12_start 27 = .ok (.iaload, 1) := by decide +kernel
theorem dX12_start_28 : decode cX12_start 28 = .ok (.bipush 24, 2) := by decide +kernel
theorem dX12_start_30 : decode cX12_start 30 = .ok (.if_icmp .ne 11, 3) := by decide +kernel
theorem dX12_start_33 : decode cX12_start 33 = .ok (.aload_n 0, 1) := by decide +kernel
theorem dX12_start_34 : decode cX12_start 34 = .ok (.iconst 2, 1) := by decide +kernel
theorem dX12_start_35 : decode cX12_start 35 = .ok (.invokevirtual 45, 3) := by decide +kernel
theorem dX12_start_38 : decode cX12_start 38 = .ok (.goto 9, 3) := by decide +kernel
theorem dX12_start_41 : decode cX12_start 41 = .ok (.aload_n 0, 1) := by decide +kernel
theorem dX12_start_42 : decode cX12_start 42 = .ok (.iload_n 1, 1) := by decide +kernel
theorem dX12_start_43 : decode cX12_start 43 = .ok (.iconst (-1), 1) := by decide +kernel
theorem dX12_start_44 : decode cX12_start 44 = .ok (.invokevirtual 124, 3) := by decide +kernel
theorem dX12_start_47 : decode cX12_start 47 = .ok (.ireturn, 1) := by decide +kernel
theorem dX12_inner_0 : decode cX12_inner 0 = .ok (.aload_n 0, 1) := by decide +kernel
theorem dX12_inner_1 : decode cX12_inner 1 = .ok (.iload_n 1, 1) := by decide +kernel
theorem dX12_inner_2 : decode cX12_inner 2 = .ok (.bipush 15, 2) := by decide +kernel
theorem dX12_inner_4 : decode cX12_inner 4 = .ok (.aload_n 0, 1) := by decide +kernel
theorem dX12_inner_5 : decode cX12_inner 5 = .ok (.iload_n 1, 1) := by decide +kernel
theorem dX12_inner_6 : decode cX12_inner 6 = .ok (.iconst 3, 1) := by decide +kernel
theorem dX12_inner_7 : decode cX12_inner 7 = .ok (.invokevirtual 37, 3) := by decide +kernel
theorem dX12_inner_10 : decode cX12_inner 10 = .ok (.iadd, 1) := by decide +kernel
theorem dX12_inner_11 : decode cX12_inner 11 = .ok (.iconst 1, 1) := by decide +kernel
theorem dX12_inner_12 : decode cX12_inner 12 = .ok (.isub, 1) := by decide +kernel
theorem dX12_inner_13 : decode cX12_inner 13 = .ok (.invokevirtual 37, 3) := by decide +kernel
theorem dX12_inner_16 : decode cX12_inner 16 = .ok (.ireturn, 1) := by decide +kernel
theorem dX12_children_0 : decode cX12_children 0 = .ok (.iconst 0, 1) := by decide +kernel
theorem dX12_children_1 : decode cX12_children 1 = .ok (.istore_n 3, 1) := by decide +kernel
theorem dX12_children_2 : decode cX12_children 2 = .ok (.iconst 0, 1) := by decide +kernel
theorem dX12_children_3 : decode cX12_children 3 = .ok (.istore 4, 2) := by decide +kernel
theorem dX12_children_5 : decode cX12_children 5 = .ok (.iload 4, 2) := by decide +kernel
theorem dX12_children_7 : decode cX12_children 7 = .ok (.aload_n 0, 1) := by decide +kernel
theorem dX12_children_8 : decode cX12_children 8 = .ok (.getfield 9, 3) := by decide +kernel
theorem dX12_children_11 : decode cX12_children 11 = .ok (.sipush 170, 3) := by decide +kernel
theorem dX12_children_14 : decode cX12_children 14 = .ok (.iaload, 1) := by decide +kernel
theorem dX12_children_15 : decode cX12_children 15 = .ok (.if_icmp .ge 36, 3) := by decide +kernel
theorem dX12_children_18 : decode cX12_children 18 = .ok (.aload_n 0, 1) := by decide +kernel
theorem dX12_children_19 : decode cX12_children 19 = .ok (.iload 4, 2) := by decide +kernel
theorem dX12_children_21 : decode cX12_children 21 = .ok (.iconst 4, 1) := by decide +kernel
theorem dX12_children_22 : decode cX12_children 22 = .ok (.invokevirtual 37, 3) := by decide +kernel
theorem dX12_children_25 : decode cX12_children 25 = .ok (.iload_n 1, 1) := by decide +kernel
theorem dX12_children_26 : decode cX12_children 26 = .ok (.if_icmp .ne 19, 3) := by decide +kernel
theorem dX12_children_29 : decode cX12_children 29 = .ok (.iload_n 2, 1) := by decide +kernel
theorem dX12_children_30 : decode cX12_children 30 = .ok (.ifCond .eq 12, 3) := by decide +kernel
theorem dX12_children_33 : decode cX12_children 33 = .ok (.aload_n 0, 1) := by decide +kernel
theorem dX12_children_34 : decode cX12_children 34 = .ok (.iload 4, 2) := by decide +kernel
theorem dX12_children_36 : decode cX12_children 36 = .ok (.invokevirtual 41, 3) := by decide +kernel
theorem dX12_children_39 : decode cX12_children 39 = .ok (.ifCond .eq 6, 3) := by decide +kernel
theorem dX12_children_42 : decode cX12_children 42 = .ok (.iinc 3 1, 3) := by decide +kernel
theorem dX12_children_45 : decode cX12_children 45 = .ok (.iinc 4 1, 3) := by decide +kernel
theorem dX12_children_48 : decode cX12_children 48 = .ok (.goto (-43), 3) := by decide +kernel
theorem dX12_children_51 : decode cX12_children 51 = .ok (.iload_n 3, 1) := by decide +kernel
theorem dX12_children_52 : decode cX12_children 52 = .ok (.ireturn, 1) := by decide +kernel
theorem dX12_fault_0 : decode cX12_fault 0 = .ok (.aload_n 0, 1) := by decide +kernel
theorem dX12_fault_1 : decode cX12_fault 1 = .ok (.getfield 9, 3) := by decide +kernel
theorem dX12_fault_4 : decode cX12_fault 4 = .ok (.sipush 172, 3) := by decide +kernel
theorem dX12_fault_7 : decode cX12_fault 7 = .ok (.dup2, 1) := by decide +kernel
theorem dX12_fault_8 : decode cX12_fault 8 = .ok (.iaload, 1) := by decide +kernel
theorem dX12_fault_9 : decode cX12_fault 9 = .ok (.dup_x2, 1) := by decide +kernel
theorem dX12_fault_10 : decode cX12_fault 10 = .ok (.iconst 1, 1) := by decide +kernel
theorem dX12_fault_11 : decode cX12_fault 11 = .ok (.iadd, 1) := by decide +kernel
theorem dX12_fault_12 : decode cX12_fault 12 = .ok (.iastore, 1) := by decide +kernel
theorem dX12_fault_13 : decode cX12_fault 13 = .ok (.istore 4, 2) := by decide +kernel
theorem dX12_fault_15 : decode cX12_fault 15 = .ok (.aload_n 0, 1) := by decide +kernel
theorem dX12_fault_16 : decode cX12_fault 16 = .ok (.getfield 9, 3) := by decide +kernel
theorem dX12_fault_19 : decode cX12_fault 19 = .ok (.sipush 3231, 3) := by decide +kernel
theorem dX12_fault_22 : decode cX12_fault 22 = .ok (.iconst 3, 1) := by decide +kernel
theorem dX12_fault_23 : decode cX12_fault 23 = .ok (.iload 4, 2) := by decide +kernel
theorem dX12_fault_25 : decode cX12_fault 25 = .ok (.imul, 1) := by decide +kernel
theorem dX12_fault_26 : decode cX12_fault 26 = .ok (.iadd, 1) := by decide +kernel
theorem dX12_fault_27 : decode cX12_fault 27 = .ok (.iload_n 1, 1) := by decide +kernel
theorem dX12_fault_28 : decode cX12_fault 28 = .ok (.iastore, 1) := by decide +kernel
theorem dX12_fault_29 : decode cX12_fault 29 = .ok (.aload_n 0, 1) := by decide +kernel
theorem dX12_fault_30 : decode cX12_fault 30 = .ok (.getfield 9, 3) := by decide +kernel
theorem dX12_fault_33 : decode cX12_fault 33 = .ok (.sipush 3231, 3) := by decide +kernel
theorem dX12_fault_36 : decode cX12_fault 36 = .ok (.iconst 3, 1) := by decide +kernel
theorem dX12_fault_37 : decode cX12_fault 37 = .ok (.iload 4, 2) := by decide +kernel
theorem dX12_fault_39 : decode cX12_fault 39 = .ok (.imul, 1) := by decide +kernel
theorem dX12_fault_40 : decode cX12_fault 40 = .ok (.iadd, 1) := by decide +kernel
theorem dX12_fault_41 : decode cX12_fault 41 = .ok (.iconst 1, 1) := by decide +kernel
theorem dX12_fault_42 : decode cX12_fault 42 = .ok (.iadd, 1) := by decide +kernel
theorem dX12_fault_43 : decode cX12_fault 43 = .ok (.iload_n 2, 1) := by decide +kernel
theorem dX12_fault_44 : decode cX12_fault 44 = .ok (.iastore, 1) := by decide +kernel
theorem dX12_fault_45 : decode cX12_fault 45 = .ok (.aload_n 0, 1) := by decide +kernel
theorem dX12_fault_46 : decode cX12_fault 46 = .ok (.getfield 9, 3) := by decide +kernel
theorem dX12_fault_49 : decode cX12_fault 49 = .ok (.sipush 3231, 3) := by decide +kernel
theorem dX12_fault_52 : decode cX12_fault 52 = .ok (.iconst 3, 1) := by decide +kernel
theorem dX12_fault_53 : decode cX12_fault 53 = .ok (.iload 4, 2) := by decide +kernel
theorem dX12_fault_55 : decode cX12_fault 55 = .ok (.imul, 1) := by decide +kernel
theorem dX12_fault_56 : decode cX12_fault 56 = .ok (.iadd, 1) := by decide +kernel
theorem dX12_fault_57 : decode cX12_fault 57 = .ok (.iconst 2, 1) := by decide +kernel
theorem dX12_fault_58 : decode cX12_fault 58 = .ok (.iadd, 1) := by decide +kernel
theorem dX12_fault_59 : decode cX12_fault 59 = .ok (.iload_n 3, 1) := by decide +kernel
theorem dX12_fault_60 : decode cX12_fault 60 = .ok (.iastore, 1) := by decide +kernel
theorem dX12_fault_61 : decode cX12_fault 61 = .ok (.iload 4, 2) := by decide +kernel
theorem dX12_fault_63 : decode cX12_fault 63 = .ok (.ireturn, 1) := by decide +kernel
theorem dX12_interrupts_0 : decode cX12_interrupts 0 = .ok (.aload_n 0, 1) := by decide +kernel
theorem dX12_interrupts_1 : decode cX12_interrupts 1 = .ok (.iload_n 1, 1) := by decide +kernel
theorem dX12_interrupts_2 : decode cX12_interrupts 2 = .ok (.invokevirtual 41, 3) := by decide +kernel
theorem dX12_interrupts_5 : decode cX12_interrupts 5 = .ok (.ifCond .ne 4, 3) := by decide +kernel
theorem dX12_interrupts_8 : decode cX12_interrupts 8 = .ok (.return_, 1) := by decide +kernel
theorem dX12_interrupts_9 : decode cX12_interrupts 9 = .ok (.aload_n 0, 1) := by decide +kernel
theorem dX12_interrupts_10 : decode cX12_interrupts 10 = .ok (.iload_n 1, 1) := by decide +kernel
theorem dX12_interrupts_11 : decode cX12_interrupts 11 = .ok (.bipush 6, 2) := by decide +kernel
theorem dX12_interrupts_13 : decode cX12_interrupts 13 = .ok (.invokevirtual 37, 3) := by decide +kernel
theorem dX12_interrupts_16 : decode cX12_interrupts 16 = .ok (.istore 5, 2) := by decide +kernel
theorem dX12_interrupts_18 : decode cX12_interrupts 18 = .ok (.iload 5, 2) := by decide +kernel
theorem dX12_interrupts_20 : decode cX12_interrupts 20 = .ok (.ifCond .le 32, 3) := by decide +kernel
theorem dX12_interrupts_23 : decode cX12_interrupts 23 = .ok (.iload_n 3, 1) := by decide +kernel
theorem dX12_interrupts_24 : decode cX12_interrupts 24 = .ok (.aload_n 0, 1) := by decide +kernel
theorem dX12_interrupts_25 : decode cX12_interrupts 25 = .ok (.iload_n 1, 1) := by decide +kernel
theorem dX12_interrupts_26 : decode cX12_interrupts 26 = .ok (.bipush 7, 2) := by decide +kernel
theorem dX12_interrupts_28 : decode cX12_interrupts 28 = .ok (.invokevirtual 37, 3) := by decide +kernel
theorem dX12_interrupts_31 : decode cX12_interrupts 31 = .ok (.if_icmp .lt 21, 3) := by decide +kernel
theorem dX12_interrupts_34 : decode cX12_interrupts 34 = .ok (.iload_n 2, 1) := by decide +kernel
theorem dX12_interrupts_35 : decode cX12_interrupts 35 = .ok (.iconst 3, 1) := by decide +kernel
theorem dX12_interrupts_36 : decode cX12_interrupts 36 = .ok (.if_icmp .ne 15, 3) := by decide +kernel
theorem dX12_interrupts_39 : decode cX12_interrupts 39 = .ok (.aload_n 0, 1) := by decide +kernel
theorem dX12_interrupts_40 : decode cX12_interrupts 40 = .ok (.getfield 9, 3) := by decide +kernel
theorem dX12_interrupts_43 : decode cX12_interrupts 43 = .ok (.sipush 179, 3) := by decide +kernel
theorem dX12_interrupts_46 : decode cX12_interrupts 46 = .ok (.dup2, 1) := by decide +kernel
theorem dX12_interrupts_47 : decode cX12_interrupts 47 = .ok (.iaload, 1) := by decide +kernel
theorem dX12_interrupts_48 : decode cX12_interrupts 48 = .ok (.iconst 1, 1) := by decide +kernel
theorem dX12_interrupts_49 : decode cX12_interrupts 49 = .ok (.iadd, 1) := by decide +kernel
theorem dX12_interrupts_50 : decode cX12_interrupts 50 = .ok (.iastore, 1) := by decide +kernel
theorem dX12_interrupts_51 : decode cX12_interrupts 51 = .ok (.return_, 1) := by decide +kernel
theorem dX12_interrupts_52 : decode cX12_interrupts 52 = .ok (.iload 5, 2) := by decide +kernel
theorem dX12_interrupts_54 : decode cX12_interrupts 54 = .ok (.iconst 3, 1) := by decide +kernel
theorem dX12_interrupts_55 : decode cX12_interrupts 55 = .ok (.if_icmp .ne 15, 3) := by decide +kernel
theorem dX12_interrupts_58 : decode cX12_interrupts 58 = .ok (.aload_n 0, 1) := by decide +kernel
theorem dX12_interrupts_59 : decode cX12_interrupts 59 = .ok (.getfield 9, 3) := by decide +kernel
theorem dX12_interrupts_62 : decode cX12_interrupts 62 = .ok (.sipush 179, 3) := by decide +kernel
theorem dX12_interrupts_65 : decode cX12_interrupts 65 = .ok (.dup2, 1) := by decide +kernel
theorem dX12_interrupts_66 : decode cX12_interrupts 66 = .ok (.iaload, 1) := by decide +kernel
theorem dX12_interrupts_67 : decode cX12_interrupts 67 = .ok (.iconst 1, 1) := by decide +kernel
theorem dX12_interrupts_68 : decode cX12_interrupts 68 = .ok (.iadd, 1) := by decide +kernel
theorem dX12_interrupts_69 : decode cX12_interrupts 69 = .ok (.iastore, 1) := by decide +kernel
theorem dX12_interrupts_70 : decode cX12_interrupts 70 = .ok (.aload_n 0, 1) := by decide +kernel
theorem dX12_interrupts_71 : decode cX12_interrupts 71 = .ok (.iload_n 1, 1) := by decide +kernel
theorem dX12_interrupts_72 : decode cX12_interrupts 72 = .ok (.bipush 6, 2) := by decide +kernel
theorem dX12_interrupts_74 : decode cX12_interrupts 74 = .ok (.iload_n 2, 1) := by decide +kernel
theorem dX12_interrupts_75 : decode cX12_interrupts 75 = .ok (.invokevirtual 109, 3) := by decide +kernel
theorem dX12_interrupts_78 : decode cX12_interrupts 78 = .ok (.aload_n 0, 1) := by decide +kernel
theorem dX12_interrupts_79 : decode cX12_interrupts 79 = .ok (.iload_n 1, 1) := by decide +kernel
theorem dX12_interrupts_80 : decode cX12_interrupts 80 = .ok (.bipush 7, 2) := by decide +kernel
theorem dX12_interrupts_82 : decode cX12_interrupts 82 = .ok (.iload_n 3, 1) := by decide +kernel
theorem dX12_interrupts_83 : decode cX12_interrupts 83 = .ok (.invokevirtual 109, 3) := by decide +kernel
theorem dX12_interrupts_86 : decode cX12_interrupts 86 = .ok (.aload_n 0, 1) := by decide +kernel
theorem dX12_interrupts_87 : decode cX12_interrupts 87 = .ok (.iload_n 1, 1) := by decide +kernel
theorem dX12_interrupts_88 : decode cX12_interrupts 88 = .ok (.bipush 8, 2) := by decide +kernel
theorem dX12_interrupts_90 : decode cX12_interrupts 90 = .ok (.iload 4, 2) := by decide +kernel
theorem dX12_interrupts_92 : decode cX12_interrupts 92 = .ok (.invokevirtual 109, 3) := by decide +kernel
theorem dX12_interrupts_95 : decode cX12_interrupts 95 = .ok (.aload_n 0, 1) := by decide +kernel
theorem dX12_interrupts_96 : decode cX12_interrupts 96 = .ok (.iload_n 1, 1) := by decide +kernel
theorem dX12_interrupts_97 : decode cX12_interrupts 97 = .ok (.iconst 0, 1) := by decide +kernel
theorem dX12_interrupts_98 : decode cX12_interrupts 98 = .ok (.invokevirtual 37, 3) := by decide +kernel
theorem dX12_interrupts_101 : decode cX12_interrupts 101 = .ok (.istore 6, 2) := by decide +kernel
theorem dX12_interrupts_103 : decode cX12_interrupts 103 = .ok (.iload 6, 2) := by decide +kernel
theorem dX12_interrupts_105 : decode cX12_interrupts 105 = .ok (.ifCond .eq 25, 3) := by decide +kernel
theorem dX12_interrupts_108 : decode cX12_interrupts 108 = .ok (.aload_n 0, 1) := by decide +kernel
theorem dX12_interrupts_109 : decode cX12_interrupts 109 = .ok (.iload_n 1, 1) := by decide +kernel
theorem dX12_interrupts_110 : decode cX12_interrupts 110 = .ok (.bipush 9, 2) := by decide +kernel
theorem dX12_interrupts_112 : decode cX12_interrupts 112 = .ok (.invokevirtual 37, 3) := by decide +kernel
theorem dX12_interrupts_115 : decode cX12_interrupts 115 = .ok (.iconst 1, 1) := by decide +kernel
theorem dX12_interrupts_116 : decode cX12_interrupts 116 = .ok (.if_icmp .eq 14, 3) := by decide +kernel
theorem dX12_interrupts_119 : decode cX12_interrupts 119 = .ok (.iload 6, 2) := by decide +kernel
theorem dX12_interrupts_121 : decode cX12_interrupts 121 = .ok (.iconst 5, 1) := by decide +kernel
theorem dX12_interrupts_122 : decode cX12_interrupts 122 = .ok (.if_icmp .ne 9, 3) := by decide +kernel
theorem dX12_interrupts_125 : decode cX12_interrupts 125 = .ok (.iload 5, 2) := by decide +kernel
theorem dX12_interrupts_127 : decode cX12_interrupts 127 = .ok (.ifCond .le 4, 3) := by decide +kernel
theorem dX12_interrupts_130 : decode cX12_interrupts 130 = .ok (.return_, 1) := by decide +kernel
theorem dX12_interrupts_131 : decode cX12_interrupts 131 = .ok (.aload_n 0, 1) := by decide +kernel
theorem dX12_interrupts_132 : decode cX12_interrupts 132 = .ok (.iload_n 1, 1) := by decide +kernel
theorem dX12_interrupts_133 : decode cX12_interrupts 133 = .ok (.invokevirtual 121, 3) := by decide +kernel
theorem dX12_interrupts_136 : decode cX12_interrupts 136 = .ok (.return_, 1) := by decide +kernel
theorem dX12_fails_0 : decode cX12_fails 0 = .ok (.iconst (-1), 1) := by decide +kernel
theorem dX12_fails_1 : decode cX12_fails 1 = .ok (.istore 4, 2) := by decide +kernel
theorem dX12_fails_3 : decode cX12_fails 3 = .ok (.iconst 0, 1) := by decide +kernel
theorem dX12_fails_4 : decode cX12_fails 4 = .ok (.istore 5, 2) := by decide +kernel
theorem dX12_fails_6 : decode cX12_fails 6 = .ok (.iload 5, 2) := by decide +kernel
theorem dX12_fails_8 : decode cX12_fails 8 = .ok (.iload_n 3, 1) := by decide +kernel
theorem dX12_fails_9 : decode cX12_fails 9 = .ok (.if_icmp .gt 37, 3) := by decide +kernel
theorem dX12_fails_12 : decode cX12_fails 12 = .ok (.aload_n 0, 1) := by decide +kernel
theorem dX12_fails_13 : decode cX12_fails 13 = .ok (.getfield 9, 3) := by decide +kernel
theorem dX12_fails_16 : decode cX12_fails 16 = .ok (.aload_n 0, 1) := by decide +kernel
theorem dX12_fails_17 : decode cX12_fails 17 = .ok (.iload_n 1, 1) := by decide +kernel
theorem dX12_fails_18 : decode cX12_fails 18 = .ok (.bipush 15, 2) := by decide +kernel
theorem dX12_fails_20 : decode cX12_fails 20 = .ok (.iload 5, 2) := by decide +kernel
theorem dX12_fails_22 : decode cX12_fails 22 = .ok (.iadd, 1) := by decide +kernel
theorem dX12_fails_23 : decode cX12_fails 23 = .ok (.invokevirtual 37, 3) := by decide +kernel
theorem dX12_fails_26 : decode cX12_fails 26 = .ok (.invokestatic 127, 3) := by decide +kernel
theorem dX12_fails_29 : decode cX12_fails 29 = .ok (.iconst 2, 1) := by decide +kernel
theorem dX12_fails_30 : decode cX12_fails 30 = .ok (.iadd, 1) := by decide +kernel
theorem dX12_fails_31 : decode cX12_fails 31 = .ok (.iaload, 1) := by decide +kernel
theorem dX12_fails_32 : decode cX12_fails 32 = .ok (.iconst 2, 1) := by decide +kernel
theorem dX12_fails_33 : decode cX12_fails 33 = .ok (.if_icmp .ne 7, 3) := by decide +kernel
theorem dX12_fails_36 : decode cX12_fails 36 = .ok (.iload 5, 2) := by decide +kernel
theorem dX12_fails_38 : decode cX12_fails 38 = .ok (.istore 4, 2) := by decide +kernel
theorem dX12_fails_40 : decode cX12_fails 40 = .ok (.iinc 5 1, 3) := by decide +kernel
theorem dX12_fails_43 : decode cX12_fails 43 = .ok (.goto (-37), 3) := by decide +kernel
theorem dX12_fails_46 : decode cX12_fails 46 = .ok (.aload_n 0, 1) := by decide +kernel
theorem dX12_fails_47 : decode cX12_fails 47 = .ok (.iload_n 1, 1) := by decide +kernel
theorem dX12_fails_48 : decode cX12_fails 48 = .ok (.iconst 3, 1) := by decide +kernel
theorem dX12_fails_49 : decode cX12_fails 49 = .ok (.iload 4, 2) := by decide +kernel
theorem dX12_fails_51 : decode cX12_fails 51 = .ok (.iload_n 2, 1) := by decide +kernel
theorem dX12_fails_52 : decode cX12_fails 52 = .ok (.invokevirtual 130, 3) := by decide +kernel
theorem dX12_fails_55 : decode cX12_fails 55 = .ok (.return_, 1) := by decide +kernel
theorem dX12_fails__0 : decode cX12_fails_ 0 = .ok (.aload_n 0, 1) := by decide +kernel
theorem dX12_fails__1 : decode cX12_fails_ 1 = .ok (.iload_n 1, 1) := by decide +kernel
theorem dX12_fails__2 : decode cX12_fails_ 2 = .ok (.aload_n 0, 1) := by decide +kernel
theorem dX12_fails__3 : decode cX12_fails_ 3 = .ok (.iload_n 2, 1) := by decide +kernel
theorem dX12_fails__4 : decode cX12_fails_ 4 = .ok (.iload_n 1, 1) := by decide +kernel
theorem dX12_fails__5 : decode cX12_fails_ 5 = .ok (.iconst (-1), 1) := by decide +kernel
theorem dX12_fails__6 : decode cX12_fails_ 6 = .ok (.invokevirtual 134, 3) := by decide +kernel
theorem dX12_fails__9 : decode cX12_fails_ 9 = .ok (.aload_n 0, 1) := by decide +kernel
theorem dX12_fails__10 : decode cX12_fails_ 10 = .ok (.iload_n 1, 1) := by decide +kernel
theorem dX12_fails__11 : decode cX12_fails_ 11 = .ok (.iconst 3, 1) := by decide +kernel
theorem dX12_fails__12 : decode cX12_fails_ 12 = .ok (.invokevirtual 37, 3) := by decide +kernel
theorem dX12_fails__15 : decode cX12_fails_ 15 = .ok (.iconst 1, 1) := by decide +kernel
theorem dX12_fails__16 : decode cX12_fails_ 16 = .ok (.isub, 1) := by decide +kernel
theorem dX12_fails__17 : decode cX12_fails_ 17 = .ok (.invokevirtual 138, 3) := by decide +kernel
theorem dX12_fails__20 : decode cX12_fails_ 20 = .ok (.return_, 1) := by decide +kernel
theorem dX12_cancels_0 : decode cX12_cancels 0 = .ok (.iconst 0, 1) := by decide +kernel
theorem dX12_cancels_1 : decode cX12_cancels 1 = .ok (.istore_n 2, 1) := by decide +kernel
theorem dX12_cancels_2 : decode cX12_cancels 2 = .ok (.iload_n 2, 1) := by decide +kernel
theorem dX12_cancels_3 : decode cX12_cancels 3 = .ok (.aload_n 0, 1) := by decide +kernel
theorem dX12_cancels_4 : decode cX12_cancels 4 = .ok (.getfield 9, 3) := by decide +kernel
theorem dX12_cancels_7 : decode cX12_cancels 7 = .ok (.sipush 170, 3) := by decide +kernel
theorem dX12_cancels_10 : decode cX12_cancels 10 = .ok (.iaload, 1) := by decide +kernel
theorem dX12_cancels_11 : decode cX12_cancels 11 = .ok (.if_icmp .ge 35, 3) := by decide +kernel
theorem dX12_cancels_14 : decode cX12_cancels 14 = .ok (.aload_n 0, 1) := by decide +kernel
theorem dX12_cancels_15 : decode cX12_cancels 15 = .ok (.iload_n 2, 1) := by decide +kernel
theorem dX12_cancels_16 : decode cX12_cancels 16 = .ok (.iconst 4, 1) := by decide +kernel
theorem dX12_cancels_17 : decode cX12_cancels 17 = .ok (.invokevirtual 37, 3) := by decide +kernel
theorem dX12_cancels_20 : decode cX12_cancels 20 = .ok (.iload_n 1, 1) := by decide +kernel
theorem dX12_cancels_21 : decode cX12_cancels 21 = .ok (.if_icmp .ne 19, 3) := by decide +kernel
theorem dX12_cancels_24 : decode cX12_cancels 24 = .ok (.aload_n 0, 1) := by decide +kernel
theorem dX12_cancels_25 : decode cX12_cancels 25 = .ok (.iload_n 2, 1) := by decide +kernel
theorem dX12_cancels_26 : decode cX12_cancels 26 = .ok (.invokevirtual 41, 3) := by decide +kernel
theorem dX12_cancels_29 : decode cX12_cancels 29 = .ok (.ifCond .eq 11, 3) := by decide +kernel
theorem dX12_cancels_32 : decode cX12_cancels 32 = .ok (.aload_n 0, 1) := by decide +kernel
theorem dX12_cancels_33 : decode cX12_cancels 33 = .ok (.iload_n 2, 1) := by decide +kernel
theorem dX12_cancels_34 : decode cX12_cancels 34 = .ok (.iconst 1, 1) := by decide +kernel
theorem dX12_cancels_35 : decode cX12_cancels 35 = .ok (.iconst (-1), 1) := by decide +kernel
theorem dX12_cancels_36 : decode cX12_cancels 36 = .ok (.iconst (-1), 1) := by decide +kernel
theorem dX12_cancels_37 : decode cX12_cancels 37 = .ok (.invokevirtual 130, 3) := by decide +kernel
theorem dX12_cancels_40 : decode cX12_cancels 40 = .ok (.iinc 2 1, 3) := by decide +kernel
theorem dX12_cancels_43 : decode cX12_cancels 43 = .ok (.goto (-41), 3) := by decide +kernel
theorem dX12_cancels_46 : decode cX12_cancels 46 = .ok (.return_, 1) := by decide +kernel
theorem dX12_cancel_0 : decode cX12_cancel 0 = .ok (.aload_n 0, 1) := by decide +kernel
theorem dX12_cancel_1 : decode cX12_cancel 1 = .ok (.iconst 0, 1) := by decide +kernel
theorem dX12_cancel_2 : decode cX12_cancel 2 = .ok (.putfield 26, 3) := by decide +kernel
theorem dX12_cancel_5 : decode cX12_cancel 5 = .ok (.aload_n 0, 1) := by decide +kernel
theorem dX12_cancel_6 : decode cX12_cancel 6 = .ok (.iload_n 1, 1) := by decide +kernel
theorem dX12_cancel_7 : decode cX12_cancel 7 = .ok (.invokevirtual 141, 3) := by decide +kernel
theorem dX12_cancel_10 : decode cX12_cancel 10 = .ok (.ifCond .ne 9, 3) := by decide +kernel
theorem dX12_cancel_13 : decode cX12_cancel 13 = .ok (.aload_n 0, 1) := by decide +kernel
theorem dX12_cancel_14 : decode cX12_cancel 14 = .ok (.iconst 1, 1) := by decide +kernel
theorem dX12_cancel_15 : decode cX12_cancel 15 = .ok (.invokevirtual 45, 3) := by decide +kernel
theorem dX12_cancel_18 : decode cX12_cancel 18 = .ok (.ireturn, 1) := by decide +kernel
theorem dX12_cancel_19 : decode cX12_cancel 19 = .ok (.aload_n 0, 1) := by decide +kernel
theorem dX12_cancel_20 : decode cX12_cancel 20 = .ok (.iload_n 1, 1) := by decide +kernel
theorem dX12_cancel_21 : decode cX12_cancel 21 = .ok (.iconst 1, 1) := by decide +kernel
theorem dX12_cancel_22 : decode cX12_cancel 22 = .ok (.iconst (-1), 1) := by decide +kernel
theorem dX12_cancel_23 : decode cX12_cancel 23 = .ok (.iconst (-1), 1) := by decide +kernel
theorem dX12_cancel_24 : decode cX12_cancel 24 = .ok (.invokevirtual 130, 3) := by decide +kernel
theorem dX12_cancel_27 : decode cX12_cancel 27 = .ok (.aload_n 0, 1) := by decide +kernel
theorem dX12_cancel_28 : decode cX12_cancel 28 = .ok (.iload_n 1, 1) := by decide +kernel
theorem dX12_cancel_29 : decode cX12_cancel 29 = .ok (.iconst 0, 1) := by decide +kernel
theorem dX12_cancel_30 : decode cX12_cancel 30 = .ok (.invokevirtual 37, 3) := by decide +kernel
theorem dX12_cancel_33 : decode cX12_cancel 33 = .ok (.ireturn, 1) := by decide +kernel
theorem dX12_ends_0 : decode cX12_ends 0 = .ok (.aload_n 0, 1) := by decide +kernel
theorem dX12_ends_1 : decode cX12_ends 1 = .ok (.iload_n 1, 1) := by decide +kernel
theorem dX12_ends_2 : decode cX12_ends 2 = .ok (.iconst 0, 1) := by decide +kernel
theorem dX12_ends_3 : decode cX12_ends 3 = .ok (.iload_n 2, 1) := by decide +kernel
theorem dX12_ends_4 : decode cX12_ends 4 = .ok (.invokevirtual 109, 3) := by decide +kernel
theorem dX12_ends_7 : decode cX12_ends 7 = .ok (.aload_n 0, 1) := by decide +kernel
theorem dX12_ends_8 : decode cX12_ends 8 = .ok (.getfield 9, 3) := by decide +kernel
theorem dX12_ends_11 : decode cX12_ends 11 = .ok (.sipush 207, 3) := by decide +kernel
theorem dX12_ends_14 : decode cX12_ends 14 = .ok (.aload_n 0, 1) := by decide +kernel
theorem dX12_ends_15 : decode cX12_ends 15 = .ok (.getfield 9, 3) := by decide +kernel
theorem dX12_ends_18 : decode cX12_ends 18 = .ok (.sipush 174, 3) := by decide +kernel
theorem dX12_ends_21 : decode cX12_ends 21 = .ok (.dup2, 1) := by decide +kernel
theorem dX12_ends_22 : decode cX12_ends 22 = .ok (.iaload, 1) := by decide +kernel
theorem dX12_ends_23 : decode cX12_ends 23 = .ok (.dup_x2, 1) := by decide +kernel
theorem dX12_ends_24 : decode cX12_ends 24 = .ok (.iconst 1, 1) := by decide +kernel
theorem dX12_ends_25 : decode cX12_ends 25 = .ok (.iadd, 1) := by decide +kernel
theorem dX12_ends_26 : decode cX12_ends 26 = .ok (.iastore, 1) := by decide +kernel
theorem dX12_ends_27 : decode cX12_ends 27 = .ok (.iadd, 1) := by decide +kernel
theorem dX12_ends_28 : decode cX12_ends 28 = .ok (.iload_n 1, 1) := by decide +kernel
theorem dX12_ends_29 : decode cX12_ends 29 = .ok (.iastore, 1) := by decide +kernel
theorem dX12_ends_30 : decode cX12_ends 30 = .ok (.aload_n 0, 1) := by decide +kernel
theorem dX12_ends_31 : decode cX12_ends 31 = .ok (.iload_n 1, 1) := by decide +kernel
theorem dX12_ends_32 : decode cX12_ends 32 = .ok (.iconst 4, 1) := by decide +kernel
theorem dX12_ends_33 : decode cX12_ends 33 = .ok (.invokevirtual 37, 3) := by decide +kernel
theorem dX12_ends_36 : decode cX12_ends 36 = .ok (.istore_n 3, 1) := by decide +kernel
theorem dX12_ends_37 : decode cX12_ends 37 = .ok (.iload_n 3, 1) := by decide +kernel
theorem dX12_ends_38 : decode cX12_ends 38 = .ok (.iconst (-1), 1) := by decide +kernel
theorem dX12_ends_39 : decode cX12_ends 39 = .ok (.if_icmp .ne 4, 3) := by decide +kernel
theorem dX12_ends_42 : decode cX12_ends 42 = .ok (.return_, 1) := by decide +kernel
theorem dX12_ends_43 : decode cX12_ends 43 = .ok (.aload_n 0, 1) := by decide +kernel
theorem dX12_ends_44 : decode cX12_ends 44 = .ok (.getfield 9, 3) := by decide +kernel
theorem dX12_ends_47 : decode cX12_ends 47 = .ok (.iload_n 3, 1) := by decide +kernel
theorem dX12_ends_48 : decode cX12_ends 48 = .ok (.invokestatic 127, 3) := by decide +kernel
theorem dX12_ends_51 : decode cX12_ends 51 = .ok (.iconst 0, 1) := by decide +kernel
theorem dX12_ends_52 : decode cX12_ends 52 = .ok (.iadd, 1) := by decide +kernel
theorem dX12_ends_53 : decode cX12_ends 53 = .ok (.iaload, 1) := by decide +kernel
theorem dX12_ends_54 : decode cX12_ends 54 = .ok (.istore 4, 2) := by decide +kernel
theorem dX12_ends_56 : decode cX12_ends 56 = .ok (.iload_n 2, 1) := by decide +kernel
theorem dX12_ends_57 : decode cX12_ends 57 = .ok (.bipush 7, 2) := by decide +kernel
theorem dX12_ends_59 : decode cX12_ends 59 = .ok (.if_icmp .ne 64, 3) := by decide +kernel
theorem dX12_ends_62 : decode cX12_ends 62 = .ok (.aload_n 0, 1) := by decide +kernel
theorem dX12_ends_63 : decode cX12_ends 63 = .ok (.getfield 9, 3) := by decide +kernel
theorem dX12_ends_66 : decode cX12_ends 66 = .ok (.iload_n 3, 1) := by decide +kernel
theorem dX12_ends_67 : decode cX12_ends 67 = .ok (.invokestatic 127, 3) := by decide +kernel
theorem dX12_ends_70 : decode cX12_ends 70 = .ok (.iconst 3, 1) := by decide +kernel
theorem dX12_ends_71 : decode cX12_ends 71 = .ok (.iadd, 1) := by decide +kernel
theorem dX12_ends_72 : decode cX12_ends 72 = .ok (.iaload, 1) := by decide +kernel
theorem dX12_ends_73 : decode cX12_ends 73 = .ok (.ifCond .ne 38, 3) := by decide +kernel
theorem dX12_ends_76 : decode cX12_ends 76 = .ok (.aload_n 0, 1) := by decide +kernel
theorem dX12_ends_77 : decode cX12_ends 77 = .ok (.iload 4, 2) := by decide +kernel
theorem dX12_ends_79 : decode cX12_ends 79 = .ok (.aload_n 0, 1) := by decide +kernel
theorem dX12_ends_80 : decode cX12_ends 80 = .ok (.bipush 10, 2) := by decide +kernel
theorem dX12_ends_82 : decode cX12_ends 82 = .ok (.iload 4, 2) := by decide +kernel
theorem dX12_ends_84 : decode cX12_ends 84 = .ok (.aload_n 0, 1) := by decide +kernel
theorem dX12_ends_85 : decode cX12_ends 85 = .ok (.iload_n 1, 1) := by decide +kernel
theorem dX12_ends_86 : decode cX12_ends 86 = .ok (.bipush 8, 2) := by decide +kernel
theorem dX12_ends_88 : decode cX12_ends 88 = .ok (.invokevirtual 37, 3) := by decide +kernel
theorem dX12_ends_91 : decode cX12_ends 91 = .ok (.invokevirtual 134, 3) := by decide +kernel
theorem dX12_ends_94 : decode cX12_ends 94 = .ok (.aload_n 0, 1) := by decide +kernel
theorem dX12_ends_95 : decode cX12_ends 95 = .ok (.getfield 9, 3) := by decide +kernel
theorem dX12_ends_98 : decode cX12_ends 98 = .ok (.iload_n 3, 1) := by decide +kernel
theorem dX12_ends_99 : decode cX12_ends 99 = .ok (.invokestatic 127, 3) := by decide +kernel
theorem dX12_ends_102 : decode cX12_ends 102 = .ok (.iconst 1, 1) := by decide +kernel
theorem dX12_ends_103 : decode cX12_ends 103 = .ok (.iadd, 1) := by decide +kernel
theorem dX12_ends_104 : decode cX12_ends 104 = .ok (.iaload, 1) := by decide +kernel
theorem dX12_ends_105 : decode cX12_ends 105 = .ok (.invokevirtual 138, 3) := by decide +kernel
theorem dX12_ends_108 : decode cX12_ends 108 = .ok (.goto 15, 3) := by decide +kernel
theorem dX12_ends_111 : decode cX12_ends 111 = .ok (.aload_n 0, 1) := by decide +kernel
theorem dX12_ends_112 : decode cX12_ends 112 = .ok (.getfield 9, 3) := by decide +kernel
theorem dX12_ends_115 : decode cX12_ends 115 = .ok (.sipush 179, 3) := by decide +kernel
theorem dX12_ends_118 : decode cX12_ends 118 = .ok (.dup2, 1) := by decide +kernel
theorem dX12_ends_119 : decode cX12_ends 119 = .ok (.iaload, 1) := by decide +kernel
theorem dX12_ends_120 : decode cX12_ends 120 = .ok (.iconst 1, 1) := by decide +kernel
theorem dX12_ends_121 : decode cX12_ends 121 = .ok (.iadd, 1) := by decide +kernel
theorem dX12_ends_122 : decode cX12_ends 122 = .ok (.iastore, 1) := by decide +kernel
theorem dX12_ends_123 : decode cX12_ends 123 = .ok (.aload_n 0, 1) := by decide +kernel
theorem dX12_ends_124 : decode cX12_ends 124 = .ok (.iload 4, 2) := by decide +kernel
theorem dX12_ends_126 : decode cX12_ends 126 = .ok (.iconst 0, 1) := by decide +kernel
theorem dX12_ends_127 : decode cX12_ends 127 = .ok (.invokevirtual 37, 3) := by decide +kernel
theorem dX12_ends_130 : decode cX12_ends 130 = .ok (.iconst 5, 1) := by decide +kernel
theorem dX12_ends_131 : decode cX12_ends 131 = .ok (.if_icmp .ne 28, 3) := by decide +kernel
theorem dX12_ends_134 : decode cX12_ends 134 = .ok (.aload_n 0, 1) := by decide +kernel
theorem dX12_ends_135 : decode cX12_ends 135 = .ok (.iload 4, 2) := by decide +kernel
theorem dX12_ends_137 : decode cX12_ends 137 = .ok (.invokevirtual 144, 3) := by decide +kernel
theorem dX12_ends_140 : decode cX12_ends 140 = .ok (.iload_n 3, 1) := by decide +kernel
theorem dX12_ends_141 : decode cX12_ends 141 = .ok (.if_icmp .ne 18, 3) := by decide +kernel
theorem dX12_ends_144 : decode cX12_ends 144 = .ok (.aload_n 0, 1) := by decide +kernel
theorem dX12_ends_145 : decode cX12_ends 145 = .ok (.iload_n 3, 1) := by decide +kernel
theorem dX12_ends_146 : decode cX12_ends 146 = .ok (.iconst 1, 1) := by decide +kernel
theorem dX12_ends_147 : decode cX12_ends 147 = .ok (.invokevirtual 147, 3) := by decide +kernel
theorem dX12_ends_150 : decode cX12_ends 150 = .ok (.ifCond .ne 9, 3) := by decide +kernel
theorem dX12_ends_153 : decode cX12_ends 153 = .ok (.aload_n 0, 1) := by decide +kernel
theorem dX12_ends_154 : decode cX12_ends 154 = .ok (.iload 4, 2) := by decide +kernel
theorem dX12_ends_156 : decode cX12_ends 156 = .ok (.invokevirtual 121, 3) := by decide +kernel
theorem dX12_ends_159 : decode cX12_ends 159 = .ok (.return_, 1) := by decide +kernel
theorem dX12_cleans_0 : decode cX12_cleans 0 = .ok (.aload_n 0, 1) := by decide +kernel
theorem dX12_cleans_1 : decode cX12_cleans 1 = .ok (.getfield 9, 3) := by decide +kernel
theorem dX12_cleans_4 : decode cX12_cleans 4 = .ok (.sipush 178, 3) := by decide +kernel
theorem dX12_cleans_7 : decode cX12_cleans 7 = .ok (.dup2, 1) := by decide +kernel
theorem dX12_cleans_8 : decode cX12_cleans 8 = .ok (.iaload, 1) := by decide +kernel
theorem dX12_cleans_9 : decode cX12_cleans 9 = .ok (.iconst 1, 1) := by decide +kernel
theorem dX12_cleans_10 : decode cX12_cleans 10 = .ok (.iadd, 1) := by decide +kernel
theorem dX12_cleans_11 : decode cX12_cleans 11 = .ok (.iastore, 1) := by decide +kernel
theorem dX12_cleans_12 : decode cX12_cleans 12 = .ok (.aload_n 0, 1) := by decide +kernel
theorem dX12_cleans_13 : decode cX12_cleans 13 = .ok (.getfield 9, 3) := by decide +kernel
theorem dX12_cleans_16 : decode cX12_cleans 16 = .ok (.iload_n 2, 1) := by decide +kernel
theorem dX12_cleans_17 : decode cX12_cleans 17 = .ok (.invokestatic 127, 3) := by decide +kernel
theorem dX12_cleans_20 : decode cX12_cleans 20 = .ok (.iconst 5, 1) := by decide +kernel
theorem dX12_cleans_21 : decode cX12_cleans 21 = .ok (.iadd, 1) := by decide +kernel
theorem dX12_cleans_22 : decode cX12_cleans 22 = .ok (.iconst 2, 1) := by decide +kernel
theorem dX12_cleans_23 : decode cX12_cleans 23 = .ok (.iastore, 1) := by decide +kernel
theorem dX12_cleans_24 : decode cX12_cleans 24 = .ok (.aload_n 0, 1) := by decide +kernel
theorem dX12_cleans_25 : decode cX12_cleans 25 = .ok (.iload_n 1, 1) := by decide +kernel
theorem dX12_cleans_26 : decode cX12_cleans 26 = .ok (.bipush 9, 2) := by decide +kernel
theorem dX12_cleans_28 : decode cX12_cleans 28 = .ok (.iconst 1, 1) := by decide +kernel
theorem dX12_cleans_29 : decode cX12_cleans 29 = .ok (.invokevirtual 109, 3) := by decide +kernel
theorem dX12_cleans_32 : decode cX12_cleans 32 = .ok (.aload_n 0, 1) := by decide +kernel
theorem dX12_cleans_33 : decode cX12_cleans 33 = .ok (.iload_n 1, 1) := by decide +kernel
theorem dX12_cleans_34 : decode cX12_cleans 34 = .ok (.bipush 10, 2) := by decide +kernel
theorem dX12_cleans_36 : decode cX12_cleans 36 = .ok (.iconst 0, 1) := by decide +kernel
theorem dX12_cleans_37 : decode cX12_cleans 37 = .ok (.invokevirtual 109, 3) := by decide +kernel
theorem dX12_cleans_40 : decode cX12_cleans 40 = .ok (.return_, 1) := by decide +kernel
theorem dX12_hasFresh_0 : decode cX12_hasFresh 0 = .ok (.aload_n 0, 1) := by decide +kernel
theorem dX12_hasFresh_1 : decode cX12_hasFresh 1 = .ok (.getfield 9, 3) := by decide +kernel
theorem dX12_hasFresh_4 : decode cX12_hasFresh 4 = .ok (.iload_n 1, 1) := by decide +kernel
theorem dX12_hasFresh_5 : decode cX12_hasFresh 5 = .ok (.invokestatic 127, 3) := by decide +kernel
theorem dX12_hasFresh_8 : decode cX12_hasFresh 8 = .ok (.iconst 5, 1) := by decide +kernel
theorem dX12_hasFresh_9 : decode cX12_hasFresh 9 = .ok (.iadd, 1) := by decide +kernel
theorem dX12_hasFresh_10 : decode cX12_hasFresh 10 = .ok (.iaload, 1) := by decide +kernel
theorem dX12_hasFresh_11 : decode cX12_hasFresh 11 = .ok (.iconst 1, 1) := by decide +kernel
theorem dX12_hasFresh_12 : decode cX12_hasFresh 12 = .ok (.if_icmp .ne 7, 3) := by decide +kernel
theorem dX12_hasFresh_15 : decode cX12_hasFresh 15 = .ok (.iconst 1, 1) := by decide +kernel
theorem dX12_hasFresh_16 : decode cX12_hasFresh 16 = .ok (.goto 4, 3) := by decide +kernel
theorem dX12_hasFresh_19 : decode cX12_hasFresh 19 = .ok (.iconst 0, 1) := by decide +kernel
theorem dX12_hasFresh_20 : decode cX12_hasFresh 20 = .ok (.ireturn, 1) := by decide +kernel
theorem dX12_endsScope_0 : decode cX12_endsScope 0 = .ok (.aload_n 0, 1) := by decide +kernel
theorem dX12_endsScope_1 : decode cX12_endsScope 1 = .ok (.getfield 9, 3) := by decide +kernel
theorem dX12_endsScope_4 : decode cX12_endsScope 4 = .ok (.iload_n 2, 1) := by decide +kernel
theorem dX12_endsScope_5 : decode cX12_endsScope 5 = .ok (.invokestatic 127, 3) := by decide +kernel
theorem dX12_endsScope_8 : decode cX12_endsScope 8 = .ok (.iconst 3, 1) := by decide +kernel
theorem dX12_endsScope_9 : decode cX12_endsScope 9 = .ok (.iadd, 1) := by decide +kernel
theorem dX12_endsScope_10 : decode cX12_endsScope 10 = .ok (.iconst 2, 1) := by decide +kernel
theorem dX12_endsScope_11 : decode cX12_endsScope 11 = .ok (.iastore, 1) := by decide +kernel
theorem dX12_endsScope_12 : decode cX12_endsScope 12 = .ok (.aload_n 0, 1) := by decide +kernel
theorem dX12_endsScope_13 : decode cX12_endsScope 13 = .ok (.iload_n 1, 1) := by decide +kernel
theorem dX12_endsScope_14 : decode cX12_endsScope 14 = .ok (.iconst 3, 1) := by decide +kernel
theorem dX12_endsScope_15 : decode cX12_endsScope 15 = .ok (.aload_n 0, 1) := by decide +kernel
theorem dX12_endsScope_16 : decode cX12_endsScope 16 = .ok (.iload_n 1, 1) := by decide +kernel
theorem dX12_endsScope_17 : decode cX12_endsScope 17 = .ok (.iconst 3, 1) := by decide +kernel
theorem dX12_endsScope_18 : decode cX12_endsScope 18 = .ok (.invokevirtual 37, 3) := by decide +kernel
theorem dX12_endsScope_21 : decode cX12_endsScope 21 = .ok (.iconst 1, 1) := by decide +kernel
theorem dX12_endsScope_22 : decode cX12_endsScope 22 = .ok (.isub, 1) := by decide +kernel
theorem dX12_endsScope_23 : decode cX12_endsScope 23 = .ok (.invokevirtual 109, 3) := by decide +kernel
theorem dX12_endsScope_26 : decode cX12_endsScope 26 = .ok (.return_, 1) := by decide +kernel
theorem dX12_firstCause_0 : decode cX12_firstCause 0 = .ok (.iload_n 1, 1) := by decide +kernel
theorem dX12_firstCause_1 : decode cX12_firstCause 1 = .ok (.istore_n 2, 1) := by decide +kernel
theorem dX12_firstCause_2 : decode cX12_firstCause 2 = .ok (.aload_n 0, 1) := by decide +kernel
theorem dX12_firstCause_3 : decode cX12_firstCause 3 = .ok (.getfield 9, 3) := by decide +kernel
theorem dX12_firstCause_6 : decode cX12_firstCause 6 = .ok (.sipush 3231, 3) := by decide +kernel
theorem dX12_firstCause_9 : decode cX12_firstCause 9 = .ok (.iconst 3, 1) := by decide +kernel
theorem dX12_firstCause_10 : decode cX12_firstCause 10 = .ok (.iload_n 2, 1) := by decide +kernel
theorem dX12_firstCause_11 : decode cX12_firstCause 11 = .ok (.imul, 1) := by decide +kernel
theorem dX12_firstCause_12 : decode cX12_firstCause 12 = .ok (.iadd, 1) := by decide +kernel
theorem dX12_firstCause_13 : decode cX12_firstCause 13 = .ok (.iconst 2, 1) := by decide +kernel
theorem dX12_firstCause_14 : decode cX12_firstCause 14 = .ok (.iadd, 1) := by decide +kernel
theorem dX12_firstCause_15 : decode cX12_firstCause 15 = .ok (.iaload, 1) := by decide +kernel
theorem dX12_firstCause_16 : decode cX12_firstCause 16 = .ok (.iconst (-1), 1) := by decide +kernel
theorem dX12_firstCause_17 : decode cX12_firstCause 17 = .ok (.if_icmp .eq 21, 3) := by decide +kernel
theorem dX12_firstCause_20 : decode cX12_firstCause 20 = .ok (.aload_n 0, 1) := by decide +kernel
theorem dX12_firstCause_21 : decode cX12_firstCause 21 = .ok (.getfield 9, 3) := by decide +kernel
theorem dX12_firstCause_24 : decode cX12_firstCause 24 = .ok (.sipush 3231, 3) := by decide +kernel
theorem dX12_firstCause_27 : decode cX12_firstCause 27 = .ok (.iconst 3, 1) := by decide +kernel
theorem dX12_firstCause_28 : decode cX12_firstCause 28 = .ok (.iload_n 2, 1) := by decide +kernel
theorem dX12_firstCause_29 : decode cX12_firstCause 29 = .ok (.imul, 1) := by decide +kernel
theorem dX12_firstCause_30 : decode cX12_firstCause 30 = .ok (.iadd, 1) := by decide +kernel
theorem dX12_firstCause_31 : decode cX12_firstCause 31 = .ok (.iconst 2, 1) := by decide +kernel
theorem dX12_firstCause_32 : decode cX12_firstCause 32 = .ok (.iadd, 1) := by decide +kernel
theorem dX12_firstCause_33 : decode cX12_firstCause 33 = .ok (.iaload, 1) := by decide +kernel
theorem dX12_firstCause_34 : decode cX12_firstCause 34 = .ok (.istore_n 2, 1) := by decide +kernel
theorem dX12_firstCause_35 : decode cX12_firstCause 35 = .ok (.goto (-33), 3) := by decide +kernel
theorem dX12_firstCause_38 : decode cX12_firstCause 38 = .ok (.iload_n 2, 1) := by decide +kernel
theorem dX12_firstCause_39 : decode cX12_firstCause 39 = .ok (.ireturn, 1) := by decide +kernel
theorem dX12_unwinds_0 : decode cX12_unwinds 0 = .ok (.aload_n 0, 1) := by decide +kernel
theorem dX12_unwinds_1 : decode cX12_unwinds 1 = .ok (.iload_n 1, 1) := by decide +kernel
theorem dX12_unwinds_2 : decode cX12_unwinds 2 = .ok (.invokevirtual 144, 3) := by decide +kernel
theorem dX12_unwinds_5 : decode cX12_unwinds 5 = .ok (.istore_n 2, 1) := by decide +kernel
theorem dX12_unwinds_6 : decode cX12_unwinds 6 = .ok (.aload_n 0, 1) := by decide +kernel
theorem dX12_unwinds_7 : decode cX12_unwinds 7 = .ok (.getfield 9, 3) := by decide +kernel
theorem dX12_unwinds_10 : decode cX12_unwinds 10 = .ok (.iload_n 2, 1) := by decide +kernel
theorem dX12_unwinds_11 : decode cX12_unwinds 11 = .ok (.invokestatic 127, 3) := by decide +kernel
theorem dX12_unwinds_14 : decode cX12_unwinds 14 = .ok (.iconst 3, 1) := by decide +kernel
theorem dX12_unwinds_15 : decode cX12_unwinds 15 = .ok (.iadd, 1) := by decide +kernel
theorem dX12_unwinds_16 : decode cX12_unwinds 16 = .ok (.iaload, 1) := by decide +kernel
theorem dX12_unwinds_17 : decode cX12_unwinds 17 = .ok (.ifCond .ne 20, 3) := by decide +kernel
theorem dX12_unwinds_20 : decode cX12_unwinds 20 = .ok (.aload_n 0, 1) := by decide +kernel
theorem dX12_unwinds_21 : decode cX12_unwinds 21 = .ok (.getfield 9, 3) := by decide +kernel
theorem dX12_unwinds_24 : decode cX12_unwinds 24 = .ok (.iload_n 2, 1) := by decide +kernel
theorem dX12_unwinds_25 : decode cX12_unwinds 25 = .ok (.invokestatic 127, 3) := by decide +kernel
theorem dX12_unwinds_28 : decode cX12_unwinds 28 = .ok (.iconst 3, 1) := by decide +kernel
theorem dX12_unwinds_29 : decode cX12_unwinds 29 = .ok (.iadd, 1) := by decide +kernel
theorem dX12_unwinds_30 : decode cX12_unwinds 30 = .ok (.iconst 1, 1) := by decide +kernel
theorem dX12_unwinds_31 : decode cX12_unwinds 31 = .ok (.iastore, 1) := by decide +kernel
theorem dX12_unwinds_32 : decode cX12_unwinds 32 = .ok (.aload_n 0, 1) := by decide +kernel
theorem dX12_unwinds_33 : decode cX12_unwinds 33 = .ok (.iload_n 2, 1) := by decide +kernel
theorem dX12_unwinds_34 : decode cX12_unwinds 34 = .ok (.invokevirtual 151, 3) := by decide +kernel
theorem dX12_unwinds_37 : decode cX12_unwinds 37 = .ok (.aload_n 0, 1) := by decide +kernel
theorem dX12_unwinds_38 : decode cX12_unwinds 38 = .ok (.iload_n 2, 1) := by decide +kernel
theorem dX12_unwinds_39 : decode cX12_unwinds 39 = .ok (.iconst 1, 1) := by decide +kernel
theorem dX12_unwinds_40 : decode cX12_unwinds 40 = .ok (.invokevirtual 147, 3) := by decide +kernel
theorem dX12_unwinds_43 : decode cX12_unwinds 43 = .ok (.ifCond .le 11, 3) := by decide +kernel
theorem dX12_unwinds_46 : decode cX12_unwinds 46 = .ok (.aload_n 0, 1) := by decide +kernel
theorem dX12_unwinds_47 : decode cX12_unwinds 47 = .ok (.iload_n 1, 1) := by decide +kernel
theorem dX12_unwinds_48 : decode cX12_unwinds 48 = .ok (.iconst 0, 1) := by decide +kernel
theorem dX12_unwinds_49 : decode cX12_unwinds 49 = .ok (.iconst 5, 1) := by decide +kernel
theorem dX12_unwinds_50 : decode cX12_unwinds 50 = .ok (.invokevirtual 109, 3) := by decide +kernel
theorem dX12_unwinds_53 : decode cX12_unwinds 53 = .ok (.return_, 1) := by decide +kernel
theorem dX12_unwinds_54 : decode cX12_unwinds 54 = .ok (.aload_n 0, 1) := by decide +kernel
theorem dX12_unwinds_55 : decode cX12_unwinds 55 = .ok (.iload_n 2, 1) := by decide +kernel
theorem dX12_unwinds_56 : decode cX12_unwinds 56 = .ok (.invokevirtual 154, 3) := by decide +kernel
theorem dX12_unwinds_59 : decode cX12_unwinds 59 = .ok (.ifCond .eq 10, 3) := by decide +kernel
theorem dX12_unwinds_62 : decode cX12_unwinds 62 = .ok (.aload_n 0, 1) := by decide +kernel
theorem dX12_unwinds_63 : decode cX12_unwinds 63 = .ok (.iload_n 1, 1) := by decide +kernel
theorem dX12_unwinds_64 : decode cX12_unwinds 64 = .ok (.iload_n 2, 1) := by decide +kernel
theorem dX12_unwinds_65 : decode cX12_unwinds 65 = .ok (.invokevirtual 157, 3) := by decide +kernel
theorem dX12_unwinds_68 : decode cX12_unwinds 68 = .ok (.return_, 1) := by decide +kernel
theorem dX12_unwinds_69 : decode cX12_unwinds 69 = .ok (.aload_n 0, 1) := by decide +kernel
theorem dX12_unwinds_70 : decode cX12_unwinds 70 = .ok (.iload_n 1, 1) := by decide +kernel
theorem dX12_unwinds_71 : decode cX12_unwinds 71 = .ok (.iload_n 2, 1) := by decide +kernel
theorem dX12_unwinds_72 : decode cX12_unwinds 72 = .ok (.invokevirtual 160, 3) := by decide +kernel
theorem dX12_unwinds_75 : decode cX12_unwinds 75 = .ok (.aload_n 0, 1) := by decide +kernel
theorem dX12_unwinds_76 : decode cX12_unwinds 76 = .ok (.getfield 9, 3) := by decide +kernel
theorem dX12_unwinds_79 : decode cX12_unwinds 79 = .ok (.iload_n 2, 1) := by decide +kernel
theorem dX12_unwinds_80 : decode cX12_unwinds 80 = .ok (.invokestatic 127, 3) := by decide +kernel
theorem dX12_unwinds_83 : decode cX12_unwinds 83 = .ok (.iconst 1, 1) := by decide +kernel
theorem dX12_unwinds_84 : decode cX12_unwinds 84 = .ok (.iadd, 1) := by decide +kernel
theorem dX12_unwinds_85 : decode cX12_unwinds 85 = .ok (.iaload, 1) := by decide +kernel
theorem dX12_unwinds_86 : decode cX12_unwinds 86 = .ok (.aload_n 0, 1) := by decide +kernel
theorem dX12_unwinds_87 : decode cX12_unwinds 87 = .ok (.iload_n 1, 1) := by decide +kernel
theorem dX12_unwinds_88 : decode cX12_unwinds 88 = .ok (.bipush 7, 2) := by decide +kernel
theorem dX12_unwinds_90 : decode cX12_unwinds 90 = .ok (.invokevirtual 37, 3) := by decide +kernel
theorem dX12_unwinds_93 : decode cX12_unwinds 93 = .ok (.if_icmp .eq 4, 3) := by decide +kernel
theorem dX12_unwinds_96 : decode cX12_unwinds 96 = .ok (.return_, 1) := by decide +kernel
theorem dX12_unwinds_97 : decode cX12_unwinds 97 = .ok (.aload_n 0, 1) := by decide +kernel
theorem dX12_unwinds_98 : decode cX12_unwinds 98 = .ok (.iload_n 1, 1) := by decide +kernel
theorem dX12_unwinds_99 : decode cX12_unwinds 99 = .ok (.iconst 1, 1) := by decide +kernel
theorem dX12_unwinds_100 : decode cX12_unwinds 100 = .ok (.aload_n 0, 1) := by decide +kernel
theorem dX12_unwinds_101 : decode cX12_unwinds 101 = .ok (.iload_n 1, 1) := by decide +kernel
theorem dX12_unwinds_102 : decode cX12_unwinds 102 = .ok (.bipush 6, 2) := by decide +kernel
theorem dX12_unwinds_104 : decode cX12_unwinds 104 = .ok (.invokevirtual 37, 3) := by decide +kernel
theorem dX12_unwinds_107 : decode cX12_unwinds 107 = .ok (.iconst 2, 1) := by decide +kernel
theorem dX12_unwinds_108 : decode cX12_unwinds 108 = .ok (.if_icmp .ne 7, 3) := by decide +kernel
theorem dX12_unwinds_111 : decode cX12_unwinds 111 = .ok (.iconst (-1), 1) := by decide +kernel
theorem dX12_unwinds_112 : decode cX12_unwinds 112 = .ok (.goto 25, 3) := by decide +kernel
theorem dX12_unwinds_115 : decode cX12_unwinds 115 = .ok (.aload_n 0, 1) := by decide +kernel
theorem dX12_unwinds_116 : decode cX12_unwinds 116 = .ok (.getfield 9, 3) := by decide +kernel
theorem dX12_unwinds_119 : decode cX12_unwinds 119 = .ok (.sipush 3231, 3) := by decide +kernel
theorem dX12_unwinds_122 : decode cX12_unwinds 122 = .ok (.iconst 3, 1) := by decide +kernel
theorem dX12_unwinds_123 : decode cX12_unwinds 123 = .ok (.aload_n 0, 1) := by decide +kernel
theorem dX12_unwinds_124 : decode cX12_unwinds 124 = .ok (.aload_n 0, 1) := by decide +kernel
theorem dX12_unwinds_125 : decode cX12_unwinds 125 = .ok (.iload_n 1, 1) := by decide +kernel
theorem dX12_unwinds_126 : decode cX12_unwinds 126 = .ok (.bipush 8, 2) := by decide +kernel
theorem dX12_unwinds_128 : decode cX12_unwinds 128 = .ok (.invokevirtual 37, 3) := by decide +kernel
theorem dX12_unwinds_131 : decode cX12_unwinds 131 = .ok (.invokevirtual 163, 3) := by decide +kernel
theorem dX12_unwinds_134 : decode cX12_unwinds 134 = .ok (.imul, 1) := by decide +kernel
theorem dX12_unwinds_135 : decode cX12_unwinds 135 = .ok (.iadd, 1) := by decide +kernel
theorem dX12_unwinds_136 : decode cX12_unwinds 136 = .ok (.iaload, 1) := by decide +kernel
theorem dX12_unwinds_137 : decode cX12_unwinds 137 = .ok (.invokevirtual 109, 3) := by decide +kernel
theorem dX12_unwinds_140 : decode cX12_unwinds 140 = .ok (.aload_n 0, 1) := by decide +kernel
theorem dX12_unwinds_141 : decode cX12_unwinds 141 = .ok (.iload_n 1, 1) := by decide +kernel
theorem dX12_unwinds_142 : decode cX12_unwinds 142 = .ok (.iconst 2, 1) := by decide +kernel
theorem dX12_unwinds_143 : decode cX12_unwinds 143 = .ok (.aload_n 0, 1) := by decide +kernel
theorem dX12_unwinds_144 : decode cX12_unwinds 144 = .ok (.getfield 9, 3) := by decide +kernel
theorem dX12_unwinds_147 : decode cX12_unwinds 147 = .ok (.iload_n 2, 1) := by decide +kernel
theorem dX12_unwinds_148 : decode cX12_unwinds 148 = .ok (.invokestatic 127, 3) := by decide +kernel
theorem dX12_unwinds_151 : decode cX12_unwinds 151 = .ok (.bipush 6, 2) := by decide +kernel
theorem dX12_unwinds_153 : decode cX12_unwinds 153 = .ok (.iadd, 1) := by decide +kernel
theorem dX12_unwinds_154 : decode cX12_unwinds 154 = .ok (.iaload, 1) := by decide +kernel
theorem dX12_unwinds_155 : decode cX12_unwinds 155 = .ok (.invokevirtual 109, 3) := by decide +kernel
theorem dX12_unwinds_158 : decode cX12_unwinds 158 = .ok (.aload_n 0, 1) := by decide +kernel
theorem dX12_unwinds_159 : decode cX12_unwinds 159 = .ok (.iload_n 1, 1) := by decide +kernel
theorem dX12_unwinds_160 : decode cX12_unwinds 160 = .ok (.bipush 6, 2) := by decide +kernel
theorem dX12_unwinds_162 : decode cX12_unwinds 162 = .ok (.iconst 0, 1) := by decide +kernel
theorem dX12_unwinds_163 : decode cX12_unwinds 163 = .ok (.invokevirtual 109, 3) := by decide +kernel
theorem dX12_unwinds_166 : decode cX12_unwinds 166 = .ok (.aload_n 0, 1) := by decide +kernel
theorem dX12_unwinds_167 : decode cX12_unwinds 167 = .ok (.iload_n 1, 1) := by decide +kernel
theorem dX12_unwinds_168 : decode cX12_unwinds 168 = .ok (.bipush 7, 2) := by decide +kernel
theorem dX12_unwinds_170 : decode cX12_unwinds 170 = .ok (.bipush (-2), 2) := by decide +kernel
theorem dX12_unwinds_172 : decode cX12_unwinds 172 = .ok (.invokevirtual 109, 3) := by decide +kernel
theorem dX12_unwinds_175 : decode cX12_unwinds 175 = .ok (.return_, 1) := by decide +kernel
theorem dX12_sleeps_0 : decode cX12_sleeps 0 = .ok (.aload_n 0, 1) := by decide +kernel
theorem dX12_sleeps_1 : decode cX12_sleeps 1 = .ok (.iload_n 1, 1) := by decide +kernel
theorem dX12_sleeps_2 : decode cX12_sleeps 2 = .ok (.iconst 0, 1) := by decide +kernel
theorem dX12_sleeps_3 : decode cX12_sleeps 3 = .ok (.iconst 1, 1) := by decide +kernel
theorem dX12_sleeps_4 : decode cX12_sleeps 4 = .ok (.invokevirtual 109, 3) := by decide +kernel
theorem dX12_sleeps_7 : decode cX12_sleeps 7 = .ok (.aload_n 0, 1) := by decide +kernel
theorem dX12_sleeps_8 : decode cX12_sleeps 8 = .ok (.iload_n 1, 1) := by decide +kernel
theorem dX12_sleeps_9 : decode cX12_sleeps 9 = .ok (.bipush 11, 2) := by decide +kernel
theorem dX12_sleeps_11 : decode cX12_sleeps 11 = .ok (.aload_n 0, 1) := by decide +kernel
theorem dX12_sleeps_12 : decode cX12_sleeps 12 = .ok (.getfield 9, 3) := by decide +kernel
theorem dX12_sleeps_15 : decode cX12_sleeps 15 = .ok (.sipush 175, 3) := by decide +kernel
theorem dX12_sleeps_18 : decode cX12_sleeps 18 = .ok (.iaload, 1) := by decide +kernel
theorem dX12_sleeps_19 : decode cX12_sleeps 19 = .ok (.iload_n 2, 1) := by decide +kernel
theorem dX12_sleeps_20 : decode cX12_sleeps 20 = .ok (.iadd, 1) := by decide +kernel
theorem dX12_sleeps_21 : decode cX12_sleeps 21 = .ok (.invokevirtual 109, 3) := by decide +kernel
theorem dX12_sleeps_24 : decode cX12_sleeps 24 = .ok (.return_, 1) := by decide +kernel
theorem dX12_simple_0 : decode cX12_simple 0 = .ok (.iload_n 2, 1) := by decide +kernel
theorem dX12_simple_1 : decode cX12_simple 1 = .ok (.bipush 100, 2) := by decide +kernel
theorem dX12_simple_3 : decode cX12_simple 3 = .ok (.irem, 1) := by decide +kernel
theorem dX12_simple_4 : decode cX12_simple 4 = .ok (.istore 4, 2) := by decide +kernel
theorem dX12_simple_6 : decode cX12_simple 6 = .ok (.iload_n 2, 1) := by decide +kernel
theorem dX12_simple_7 : decode cX12_simple 7 = .ok (.bipush 100, 2) := by decide +kernel
theorem dX12_simple_9 : decode cX12_simple 9 = .ok (.idiv, 1) := by decide +kernel
theorem dX12_simple_10 : decode cX12_simple 10 = .ok (.lookupswitch 101 #[(43, 42), (45, 60), (119, 78), (122, 88)], 42) := by decide +kernel
theorem dX12_simple_52 : decode cX12_simple 52 = .ok (.aload_n 0, 1) := by decide +kernel
theorem dX12_simple_53 : decode cX12_simple 53 = .ok (.iload_n 1, 1) := by decide +kernel
theorem dX12_simple_54 : decode cX12_simple 54 = .ok (.iconst 1, 1) := by decide +kernel
theorem dX12_simple_55 : decode cX12_simple 55 = .ok (.aload_n 0, 1) := by decide +kernel
theorem dX12_simple_56 : decode cX12_simple 56 = .ok (.iload_n 1, 1) := by decide +kernel
theorem dX12_simple_57 : decode cX12_simple 57 = .ok (.iconst 1, 1) := by decide +kernel
theorem dX12_simple_58 : decode cX12_simple 58 = .ok (.invokevirtual 37, 3) := by decide +kernel
theorem dX12_simple_61 : decode cX12_simple 61 = .ok (.iload 4, 2) := by decide +kernel
theorem dX12_simple_63 : decode cX12_simple 63 = .ok (.iadd, 1) := by decide +kernel
theorem dX12_simple_64 : decode cX12_simple 64 = .ok (.invokevirtual 109, 3) := by decide +kernel
theorem dX12_simple_67 : decode cX12_simple 67 = .ok (.goto 44, 3) := by decide +kernel
theorem dX12_simple_70 : decode cX12_simple 70 = .ok (.aload_n 0, 1) := by decide +kernel
theorem dX12_simple_71 : decode cX12_simple 71 = .ok (.iload_n 1, 1) := by decide +kernel
theorem dX12_simple_72 : decode cX12_simple 72 = .ok (.iconst 1, 1) := by decide +kernel
theorem dX12_simple_73 : decode cX12_simple 73 = .ok (.aload_n 0, 1) := by decide +kernel
theorem dX12_simple_74 : decode cX12_simple 74 = .ok (.iload_n 1, 1) := by decide +kernel
theorem dX12_simple_75 : decode cX12_simple 75 = .ok (.iconst 1, 1) := by decide +kernel
theorem dX12_simple_76 : decode cX12_simple 76 = .ok (.invokevirtual 37, 3) := by decide +kernel
theorem dX12_simple_79 : decode cX12_simple 79 = .ok (.iload 4, 2) := by decide +kernel
theorem dX12_simple_81 : decode cX12_simple 81 = .ok (.isub, 1) := by decide +kernel
theorem dX12_simple_82 : decode cX12_simple 82 = .ok (.invokevirtual 109, 3) := by decide +kernel
theorem dX12_simple_85 : decode cX12_simple 85 = .ok (.goto 26, 3) := by decide +kernel
theorem dX12_simple_88 : decode cX12_simple 88 = .ok (.aload_n 0, 1) := by decide +kernel
theorem dX12_simple_89 : decode cX12_simple 89 = .ok (.iload_n 1, 1) := by decide +kernel
theorem dX12_simple_90 : decode cX12_simple 90 = .ok (.iload 4, 2) := by decide +kernel
theorem dX12_simple_92 : decode cX12_simple 92 = .ok (.invokevirtual 166, 3) := by decide +kernel
theorem dX12_simple_95 : decode cX12_simple 95 = .ok (.goto 16, 3) := by decide +kernel
theorem dX12_simple_98 : decode cX12_simple 98 = .ok (.aload_n 0, 1) := by decide +kernel
theorem dX12_simple_99 : decode cX12_simple 99 = .ok (.iload_n 1, 1) := by decide +kernel
theorem dX12_simple_100 : decode cX12_simple 100 = .ok (.iconst 1, 1) := by decide +kernel
theorem dX12_simple_101 : decode cX12_simple 101 = .ok (.invokevirtual 37, 3) := by decide +kernel
theorem dX12_simple_104 : decode cX12_simple 104 = .ok (.ifCond .ne 7, 3) := by decide +kernel
theorem dX12_simple_107 : decode cX12_simple 107 = .ok (.iload_n 3, 1) := by decide +kernel
theorem dX12_simple_108 : decode cX12_simple 108 = .ok (.iconst 2, 1) := by decide +kernel
theorem dX12_simple_109 : decode cX12_simple 109 = .ok (.iadd, 1) := by decide +kernel
theorem dX12_simple_110 : decode cX12_simple 110 = .ok (.ireturn, 1) := by decide +kernel
theorem dX12_simple_111 : decode cX12_simple 111 = .ok (.iload_n 3, 1) := by decide +kernel
theorem dX12_simple_112 : decode cX12_simple 112 = .ok (.iconst 1, 1) := by decide +kernel
theorem dX12_simple_113 : decode cX12_simple 113 = .ok (.iadd, 1) := by decide +kernel
theorem dX12_simple_114 : decode cX12_simple 114 = .ok (.ireturn, 1) := by decide +kernel
theorem dX12_cleanup_0 : decode cX12_cleanup 0 = .ok (.aload_n 0, 1) := by decide +kernel
theorem dX12_cleanup_1 : decode cX12_cleanup 1 = .ok (.iload_n 1, 1) := by decide +kernel
theorem dX12_cleanup_2 : decode cX12_cleanup 2 = .ok (.invokevirtual 144, 3) := by decide +kernel
theorem dX12_cleanup_5 : decode cX12_cleanup 5 = .ok (.istore_n 2, 1) := by decide +kernel
theorem dX12_cleanup_6 : decode cX12_cleanup 6 = .ok (.iload_n 2, 1) := by decide +kernel
theorem dX12_cleanup_7 : decode cX12_cleanup 7 = .ok (.invokestatic 127, 3) := by decide +kernel
theorem dX12_cleanup_10 : decode cX12_cleanup 10 = .ok (.bipush 7, 2) := by decide +kernel
theorem dX12_cleanup_12 : decode cX12_cleanup 12 = .ok (.iadd, 1) := by decide +kernel
theorem dX12_cleanup_13 : decode cX12_cleanup 13 = .ok (.istore_n 3, 1) := by decide +kernel
theorem dX12_cleanup_14 : decode cX12_cleanup 14 = .ok (.aload_n 0, 1) := by decide +kernel
theorem dX12_cleanup_15 : decode cX12_cleanup 15 = .ok (.iload_n 1, 1) := by decide +kernel
theorem dX12_cleanup_16 : decode cX12_cleanup 16 = .ok (.bipush 10, 2) := by decide +kernel
theorem dX12_cleanup_18 : decode cX12_cleanup 18 = .ok (.invokevirtual 37, 3) := by decide +kernel
theorem dX12_cleanup_21 : decode cX12_cleanup 21 = .ok (.istore 4, 2) := by decide +kernel
theorem dX12_cleanup_23 : decode cX12_cleanup 23 = .ok (.iload 4, 2) := by decide +kernel
theorem dX12_cleanup_25 : decode cX12_cleanup 25 = .ok (.aload_n 0, 1) := by decide +kernel
theorem dX12_cleanup_26 : decode cX12_cleanup 26 = .ok (.getfield 9, 3) := by decide +kernel
theorem dX12_cleanup_29 : decode cX12_cleanup 29 = .ok (.iload_n 3, 1) := by decide +kernel
theorem dX12_cleanup_30 : decode cX12_cleanup 30 = .ok (.iaload, 1) := by decide +kernel
theorem dX12_cleanup_31 : decode cX12_cleanup 31 = .ok (.if_icmp .lt 12, 3) := by decide +kernel
theorem dX12_cleanup_34 : decode cX12_cleanup 34 = .ok (.aload_n 0, 1) := by decide +kernel
theorem dX12_cleanup_35 : decode cX12_cleanup 35 = .ok (.iload_n 1, 1) := by decide +kernel
theorem dX12_cleanup_36 : decode cX12_cleanup 36 = .ok (.bipush 9, 2) := by decide +kernel
theorem dX12_cleanup_38 : decode cX12_cleanup 38 = .ok (.iconst 0, 1) := by decide +kernel
theorem dX12_cleanup_39 : decode cX12_cleanup 39 = .ok (.invokevirtual 109, 3) := by decide +kernel
theorem dX12_cleanup_42 : decode cX12_cleanup 42 = .ok (.return_, 1) := by decide +kernel
theorem dX12_cleanup_43 : decode cX12_cleanup 43 = .ok (.aload_n 0, 1) := by decide +kernel
theorem dX12_cleanup_44 : decode cX12_cleanup 44 = .ok (.getfield 9, 3) := by decide +kernel
theorem dX12_cleanup_47 : decode cX12_cleanup 47 = .ok (.iload_n 3, 1) := by decide +kernel
theorem dX12_cleanup_48 : decode cX12_cleanup 48 = .ok (.iconst 1, 1) := by decide +kernel
theorem dX12_cleanup_49 : decode cX12_cleanup 49 = .ok (.iadd, 1) := by decide +kernel
theorem dX12_cleanup_50 : decode cX12_cleanup 50 = .ok (.iload 4, 2) := by decide +kernel
theorem dX12_cleanup_52 : decode cX12_cleanup 52 = .ok (.iadd, 1) := by decide +kernel
theorem dX12_cleanup_53 : decode cX12_cleanup 53 = .ok (.iaload, 1) := by decide +kernel
theorem dX12_cleanup_54 : decode cX12_cleanup 54 = .ok (.istore 5, 2) := by decide +kernel
theorem dX12_cleanup_56 : decode cX12_cleanup 56 = .ok (.iload 5, 2) := by decide +kernel
theorem dX12_cleanup_58 : decode cX12_cleanup 58 = .ok (.bipush 100, 2) := by decide +kernel
theorem dX12_cleanup_60 : decode cX12_cleanup 60 = .ok (.idiv, 1) := by decide +kernel
theorem dX12_cleanup_61 : decode cX12_cleanup 61 = .ok (.bipush 33, 2) := by decide +kernel
theorem dX12_cleanup_63 : decode cX12_cleanup 63 = .ok (.if_icmp .eq 20, 3) := by decide +kernel
theorem dX12_cleanup_66 : decode cX12_cleanup 66 = .ok (.aload_n 0, 1) := by decide +kernel
theorem dX12_cleanup_67 : decode cX12_cleanup 67 = .ok (.iload_n 1, 1) := by decide +kernel
theorem dX12_cleanup_68 : decode cX12_cleanup 68 = .ok (.bipush 10, 2) := by decide +kernel
theorem dX12_cleanup_70 : decode cX12_cleanup 70 = .ok (.aload_n 0, 1) := by decide +kernel
theorem dX12_cleanup_71 : decode cX12_cleanup 71 = .ok (.iload_n 1, 1) := by decide +kernel
theorem dX12_cleanup_72 : decode cX12_cleanup 72 = .ok (.iload 5, 2) := by decide +kernel
theorem dX12_cleanup_74 : decode cX12_cleanup 74 = .ok (.iload 4, 2) := by decide +kernel
theorem dX12_cleanup_76 : decode cX12_cleanup 76 = .ok (.invokevirtual 169, 3) := by decide +kernel
theorem dX12_cleanup_79 : decode cX12_cleanup 79 = .ok (.invokevirtual 109, 3) := by decide +kernel
theorem dX12_cleanup_82 : decode cX12_cleanup 82 = .ok (.return_, 1) := by decide +kernel
theorem dX12_cleanup_83 : decode cX12_cleanup 83 = .ok (.aload_n 0, 1) := by decide +kernel
theorem dX12_cleanup_84 : decode cX12_cleanup 84 = .ok (.iload_n 1, 1) := by decide +kernel
theorem dX12_cleanup_85 : decode cX12_cleanup 85 = .ok (.bipush 9, 2) := by decide +kernel
theorem dX12_cleanup_87 : decode cX12_cleanup 87 = .ok (.iconst 0, 1) := by decide +kernel
theorem dX12_cleanup_88 : decode cX12_cleanup 88 = .ok (.invokevirtual 109, 3) := by decide +kernel
theorem dX12_cleanup_91 : decode cX12_cleanup 91 = .ok (.aload_n 0, 1) := by decide +kernel
theorem dX12_cleanup_92 : decode cX12_cleanup 92 = .ok (.iload_n 1, 1) := by decide +kernel
theorem dX12_cleanup_93 : decode cX12_cleanup 93 = .ok (.bipush 6, 2) := by decide +kernel
theorem dX12_cleanup_95 : decode cX12_cleanup 95 = .ok (.invokevirtual 37, 3) := by decide +kernel
theorem dX12_cleanup_98 : decode cX12_cleanup 98 = .ok (.ifCond .ne 30, 3) := by decide +kernel
theorem dX12_cleanup_101 : decode cX12_cleanup 101 = .ok (.aload_n 0, 1) := by decide +kernel
theorem dX12_cleanup_102 : decode cX12_cleanup 102 = .ok (.iload_n 1, 1) := by decide +kernel
theorem dX12_cleanup_103 : decode cX12_cleanup 103 = .ok (.aload_n 0, 1) := by decide +kernel
theorem dX12_cleanup_104 : decode cX12_cleanup 104 = .ok (.iload 5, 2) := by decide +kernel
theorem dX12_cleanup_106 : decode cX12_cleanup 106 = .ok (.bipush 100, 2) := by decide +kernel
theorem dX12_cleanup_108 : decode cX12_cleanup 108 = .ok (.irem, 1) := by decide +kernel
theorem dX12_cleanup_109 : decode cX12_cleanup 109 = .ok (.iload_n 1, 1) := by decide +kernel
theorem dX12_cleanup_110 : decode cX12_cleanup 110 = .ok (.iconst (-1), 1) := by decide +kernel
theorem dX12_cleanup_111 : decode cX12_cleanup 111 = .ok (.invokevirtual 134, 3) := by decide +kernel
theorem dX12_cleanup_114 : decode cX12_cleanup 114 = .ok (.aload_n 0, 1) := by decide +kernel
theorem dX12_cleanup_115 : decode cX12_cleanup 115 = .ok (.iload_n 1, 1) := by decide +kernel
theorem dX12_cleanup_116 : decode cX12_cleanup 116 = .ok (.iconst 3, 1) := by decide +kernel
theorem dX12_cleanup_117 : decode cX12_cleanup 117 = .ok (.invokevirtual 37, 3) := by decide +kernel
theorem dX12_cleanup_120 : decode cX12_cleanup 120 = .ok (.iconst 2, 1) := by decide +kernel
theorem dX12_cleanup_121 : decode cX12_cleanup 121 = .ok (.isub, 1) := by decide +kernel
theorem dX12_cleanup_122 : decode cX12_cleanup 122 = .ok (.invokevirtual 138, 3) := by decide +kernel
theorem dX12_cleanup_125 : decode cX12_cleanup 125 = .ok (.goto 53, 3) := by decide +kernel
theorem dX12_cleanup_128 : decode cX12_cleanup 128 = .ok (.aload_n 0, 1) := by decide +kernel
theorem dX12_cleanup_129 : decode cX12_cleanup 129 = .ok (.iload_n 1, 1) := by decide +kernel
theorem dX12_cleanup_130 : decode cX12_cleanup 130 = .ok (.bipush 6, 2) := by decide +kernel
theorem dX12_cleanup_132 : decode cX12_cleanup 132 = .ok (.invokevirtual 37, 3) := by decide +kernel
theorem dX12_cleanup_135 : decode cX12_cleanup 135 = .ok (.iconst 3, 1) := by decide +kernel
theorem dX12_cleanup_136 : decode cX12_cleanup 136 = .ok (.if_icmp .ne 30, 3) := by decide +kernel
theorem dX12_cleanup_139 : decode cX12_cleanup 139 = .ok (.aload_n 0, 1) := by decide +kernel
theorem dX12_cleanup_140 : decode cX12_cleanup 140 = .ok (.iload_n 1, 1) := by decide +kernel
theorem dX12_cleanup_141 : decode cX12_cleanup 141 = .ok (.bipush 8, 2) := by decide +kernel
theorem dX12_cleanup_143 : decode cX12_cleanup 143 = .ok (.aload_n 0, 1) := by decide +kernel
theorem dX12_cleanup_144 : decode cX12_cleanup 144 = .ok (.iload 5, 2) := by decide +kernel
theorem dX12_cleanup_146 : decode cX12_cleanup 146 = .ok (.bipush 100, 2) := by decide +kernel
theorem dX12_cleanup_148 : decode cX12_cleanup 148 = .ok (.irem, 1) := by decide +kernel
theorem dX12_cleanup_149 : decode cX12_cleanup 149 = .ok (.iload_n 1, 1) := by decide +kernel
theorem dX12_cleanup_150 : decode cX12_cleanup 150 = .ok (.aload_n 0, 1) := by decide +kernel
theorem dX12_cleanup_151 : decode cX12_cleanup 151 = .ok (.iload_n 1, 1) := by decide +kernel
theorem dX12_cleanup_152 : decode cX12_cleanup 152 = .ok (.bipush 8, 2) := by decide +kernel
theorem dX12_cleanup_154 : decode cX12_cleanup 154 = .ok (.invokevirtual 37, 3) := by decide +kernel
theorem dX12_cleanup_157 : decode cX12_cleanup 157 = .ok (.invokevirtual 134, 3) := by decide +kernel
theorem dX12_cleanup_160 : decode cX12_cleanup 160 = .ok (.invokevirtual 109, 3) := by decide +kernel
theorem dX12_cleanup_163 : decode cX12_cleanup 163 = .ok (.goto 15, 3) := by decide +kernel
theorem dX12_cleanup_166 : decode cX12_cleanup 166 = .ok (.aload_n 0, 1) := by decide +kernel
theorem dX12_cleanup_167 : decode cX12_cleanup 167 = .ok (.getfield 9, 3) := by decide +kernel
theorem dX12_cleanup_170 : decode cX12_cleanup 170 = .ok (.sipush 179, 3) := by decide +kernel
theorem dX12_cleanup_173 : decode cX12_cleanup 173 = .ok (.dup2, 1) := by decide +kernel
theorem dX12_cleanup_174 : decode cX12_cleanup 174 = .ok (.iaload, 1) := by decide +kernel
theorem dX12_cleanup_175 : decode cX12_cleanup 175 = .ok (.iconst 1, 1) := by decide +kernel
theorem dX12_cleanup_176 : decode cX12_cleanup 176 = .ok (.iadd, 1) := by decide +kernel
theorem dX12_cleanup_177 : decode cX12_cleanup 177 = .ok (.iastore, 1) := by decide +kernel
theorem dX12_cleanup_178 : decode cX12_cleanup 178 = .ok (.return_, 1) := by decide +kernel
theorem dX12_opens_0 : decode cX12_opens 0 = .ok (.aload_n 0, 1) := by decide +kernel
theorem dX12_opens_1 : decode cX12_opens 1 = .ok (.getfield 9, 3) := by decide +kernel
theorem dX12_opens_4 : decode cX12_opens 4 = .ok (.sipush 171, 3) := by decide +kernel
theorem dX12_opens_7 : decode cX12_opens 7 = .ok (.iaload, 1) := by decide +kernel
theorem dX12_opens_8 : decode cX12_opens 8 = .ok (.bipush 60, 2) := by decide +kernel
theorem dX12_opens_10 : decode cX12_opens 10 = .ok (.if_icmp .ne 11, 3) := by decide +kernel
theorem dX12_opens_13 : decode cX12_opens 13 = .ok (.aload_n 0, 1) := by decide +kernel
theorem dX12_opens_14 : decode cX12_opens 14 = .ok (.iload_n 1, 1) := by decide +kernel
theorem dX12_opens_15 : decode cX12_opens 15 = .ok (.bipush 12, 2) := by decide +kernel
theorem dX12_opens_17 : decode cX12_opens 17 = .ok (.invokevirtual 172, 3) := by decide +kernel
theorem dX12_opens_20 : decode cX12_opens 20 = .ok (.return_, 1) := by decide +kernel
theorem dX12_opens_21 : decode cX12_opens 21 = .ok (.aload_n 0, 1) := by decide +kernel
theorem dX12_opens_22 : decode cX12_opens 22 = .ok (.getfield 9, 3) := by decide +kernel
theorem dX12_opens_25 : decode cX12_opens 25 = .ok (.sipush 171, 3) := by decide +kernel
theorem dX12_opens_28 : decode cX12_opens 28 = .ok (.dup2, 1) := by decide +kernel
theorem dX12_opens_29 : decode cX12_opens 29 = .ok (.iaload, 1) := by decide +kernel
theorem dX12_opens_30 : decode cX12_opens 30 = .ok (.dup_x2, 1) := by decide +kernel
theorem dX12_opens_31 : decode cX12_opens 31 = .ok (.iconst 1, 1) := by decide +kernel
theorem dX12_opens_32 : decode cX12_opens 32 = .ok (.iadd, 1) := by decide +kernel
theorem dX12_opens_33 : decode cX12_opens 33 = .ok (.iastore, 1) := by decide +kernel
theorem dX12_opens_34 : decode cX12_opens 34 = .ok (.istore 4, 2) := by decide +kernel
theorem dX12_opens_36 : decode cX12_opens 36 = .ok (.aload_n 0, 1) := by decide +kernel
theorem dX12_opens_37 : decode cX12_opens 37 = .ok (.getfield 9, 3) := by decide +kernel
theorem dX12_opens_40 : decode cX12_opens 40 = .ok (.iload 4, 2) := by decide +kernel
theorem dX12_opens_42 : decode cX12_opens 42 = .ok (.invokestatic 127, 3) := by decide +kernel
theorem dX12_opens_45 : decode cX12_opens 45 = .ok (.iconst 0, 1) := by decide +kernel
theorem dX12_opens_46 : decode cX12_opens 46 = .ok (.iadd, 1) := by decide +kernel
theorem dX12_opens_47 : decode cX12_opens 47 = .ok (.iload_n 1, 1) := by decide +kernel
theorem dX12_opens_48 : decode cX12_opens 48 = .ok (.iastore, 1) := by decide +kernel
theorem dX12_opens_49 : decode cX12_opens 49 = .ok (.aload_n 0, 1) := by decide +kernel
theorem dX12_opens_50 : decode cX12_opens 50 = .ok (.getfield 9, 3) := by decide +kernel
theorem dX12_opens_53 : decode cX12_opens 53 = .ok (.iload 4, 2) := by decide +kernel
theorem dX12_opens_55 : decode cX12_opens 55 = .ok (.invokestatic 127, 3) := by decide +kernel
theorem dX12_opens_58 : decode cX12_opens 58 = .ok (.iconst 1, 1) := by decide +kernel
theorem dX12_opens_59 : decode cX12_opens 59 = .ok (.iadd, 1) := by decide +kernel
theorem dX12_opens_60 : decode cX12_opens 60 = .ok (.aload_n 0, 1) := by decide +kernel
theorem dX12_opens_61 : decode cX12_opens 61 = .ok (.iload_n 1, 1) := by decide +kernel
theorem dX12_opens_62 : decode cX12_opens 62 = .ok (.iconst 3, 1) := by decide +kernel
theorem dX12_opens_63 : decode cX12_opens 63 = .ok (.invokevirtual 37, 3) := by decide +kernel
theorem dX12_opens_66 : decode cX12_opens 66 = .ok (.iastore, 1) := by decide +kernel
theorem dX12_opens_67 : decode cX12_opens 67 = .ok (.aload_n 0, 1) := by decide +kernel
theorem dX12_opens_68 : decode cX12_opens 68 = .ok (.getfield 9, 3) := by decide +kernel
theorem dX12_opens_71 : decode cX12_opens 71 = .ok (.iload 4, 2) := by decide +kernel
theorem dX12_opens_73 : decode cX12_opens 73 = .ok (.invokestatic 127, 3) := by decide +kernel
theorem dX12_opens_76 : decode cX12_opens 76 = .ok (.iconst 2, 1) := by decide +kernel
theorem dX12_opens_77 : decode cX12_opens 77 = .ok (.iadd, 1) := by decide +kernel
theorem dX12_opens_78 : decode cX12_opens 78 = .ok (.iload_n 2, 1) := by decide +kernel
theorem dX12_opens_79 : decode cX12_opens 79 = .ok (.iastore, 1) := by decide +kernel
theorem dX12_opens_80 : decode cX12_opens 80 = .ok (.aload_n 0, 1) := by decide +kernel
theorem dX12_opens_81 : decode cX12_opens 81 = .ok (.getfield 9, 3) := by decide +kernel
theorem dX12_opens_84 : decode cX12_opens 84 = .ok (.iload 4, 2) := by decide +kernel
theorem dX12_opens_86 : decode cX12_opens 86 = .ok (.invokestatic 127, 3) := by decide +kernel
theorem dX12_opens_89 : decode cX12_opens 89 = .ok (.iconst 3, 1) := by decide +kernel
theorem dX12_opens_90 : decode cX12_opens 90 = .ok (.iadd, 1) := by decide +kernel
theorem dX12_opens_91 : decode cX12_opens 91 = .ok (.iconst 0, 1) := by decide +kernel
theorem dX12_opens_92 : decode cX12_opens 92 = .ok (.iastore, 1) := by decide +kernel
theorem dX12_opens_93 : decode cX12_opens 93 = .ok (.aload_n 0, 1) := by decide +kernel
theorem dX12_opens_94 : decode cX12_opens 94 = .ok (.getfield 9, 3) := by decide +kernel
theorem dX12_opens_97 : decode cX12_opens 97 = .ok (.iload 4, 2) := by decide +kernel
theorem dX12_opens_99 : decode cX12_opens 99 = .ok (.invokestatic 127, 3) := by decide +kernel
theorem dX12_opens_102 : decode cX12_opens 102 = .ok (.iconst 4, 1) := by decide +kernel
theorem dX12_opens_103 : decode cX12_opens 103 = .ok (.iadd, 1) := by decide +kernel
theorem dX12_opens_104 : decode cX12_opens 104 = .ok (.iload_n 3, 1) := by decide +kernel
theorem dX12_opens_105 : decode cX12_opens 105 = .ok (.iastore, 1) := by decide +kernel
theorem dX12_opens_106 : decode cX12_opens 106 = .ok (.aload_n 0, 1) := by decide +kernel
theorem dX12_opens_107 : decode cX12_opens 107 = .ok (.getfield 9, 3) := by decide +kernel
theorem dX12_opens_110 : decode cX12_opens 110 = .ok (.iload 4, 2) := by decide +kernel
theorem dX12_opens_112 : decode cX12_opens 112 = .ok (.invokestatic 127, 3) := by decide +kernel
theorem dX12_opens_115 : decode cX12_opens 115 = .ok (.iconst 5, 1) := by decide +kernel
theorem dX12_opens_116 : decode cX12_opens 116 = .ok (.iadd, 1) := by decide +kernel
theorem dX12_opens_117 : decode cX12_opens 117 = .ok (.iconst 0, 1) := by decide +kernel
theorem dX12_opens_118 : decode cX12_opens 118 = .ok (.iastore, 1) := by decide +kernel
theorem dX12_opens_119 : decode cX12_opens 119 = .ok (.aload_n 0, 1) := by decide +kernel
theorem dX12_opens_120 : decode cX12_opens 120 = .ok (.iload_n 1, 1) := by decide +kernel
theorem dX12_opens_121 : decode cX12_opens 121 = .ok (.iconst 2, 1) := by decide +kernel
theorem dX12_opens_122 : decode cX12_opens 122 = .ok (.invokevirtual 37, 3) := by decide +kernel
theorem dX12_opens_125 : decode cX12_opens 125 = .ok (.istore 5, 2) := by decide +kernel
theorem dX12_opens_127 : decode cX12_opens 127 = .ok (.iconst 1, 1) := by decide +kernel
theorem dX12_opens_128 : decode cX12_opens 128 = .ok (.istore 6, 2) := by decide +kernel
theorem dX12_opens_130 : decode cX12_opens 130 = .ok (.iload 6, 2) := by decide +kernel
theorem dX12_opens_132 : decode cX12_opens 132 = .ok (.ifCond .le 54, 3) := by decide +kernel
theorem dX12_opens_135 : decode cX12_opens 135 = .ok (.aload_n 0, 1) := by decide +kernel
theorem dX12_opens_136 : decode cX12_opens 136 = .ok (.getfield 9, 3) := by decide +kernel
theorem dX12_opens_139 : decode cX12_opens 139 = .ok (.iload_n 1, 1) := by decide +kernel
theorem dX12_opens_140 : decode cX12_opens 140 = .ok (.invokestatic 29, 3) := by decide +kernel
theorem dX12_opens_143 : decode cX12_opens 143 = .ok (.bipush 20, 2) := by decide +kernel
theorem dX12_opens_145 : decode cX12_opens 145 = .ok (.iadd, 1) := by decide +kernel
theorem dX12_opens_146 : decode cX12_opens 146 = .ok (.iconst 1, 1) := by decide +kernel
theorem dX12_opens_147 : decode cX12_opens 147 = .ok (.iadd, 1) := by decide +kernel
theorem dX12_opens_148 : decode cX12_opens 148 = .ok (.iload 5, 2) := by decide +kernel
theorem dX12_opens_150 : decode cX12_opens 150 = .ok (.iadd, 1) := by decide +kernel
theorem dX12_opens_151 : decode cX12_opens 151 = .ok (.iaload, 1) := by decide +kernel
theorem dX12_opens_152 : decode cX12_opens 152 = .ok (.bipush 100, 2) := by decide +kernel
theorem dX12_opens_154 : decode cX12_opens 154 = .ok (.idiv, 1) := by decide +kernel
theorem dX12_opens_155 : decode cX12_opens 155 = .ok (.istore 7, 2) := by decide +kernel
theorem dX12_opens_157 : decode cX12_opens 157 = .ok (.iload 7, 2) := by decide +kernel
theorem dX12_opens_159 : decode cX12_opens 159 = .ok (.ldc 71, 2) := by decide +kernel
theorem dX12_opens_161 : decode cX12_opens 161 = .ok (.invokestatic 65, 3) := by decide +kernel
theorem dX12_opens_164 : decode cX12_opens 164 = .ok (.ifCond .eq 6, 3) := by decide +kernel
theorem dX12_opens_167 : decode cX12_opens 167 = .ok (.iinc 6 1, 3) := by decide +kernel
theorem dX12_opens_170 : decode cX12_opens 170 = .ok (.iload 7, 2) := by decide +kernel
theorem dX12_opens_172 : decode cX12_opens 172 = .ok (.bipush 41, 2) := by decide +kernel
theorem dX12_opens_174 : decode cX12_opens 174 = .ok (.if_icmp .ne 6, 3) := by decide +kernel
theorem dX12_opens_177 : decode cX12_opens 177 = .ok (.iinc 6 (-1), 3) := by decide +kernel
theorem dX12_opens_180 : decode cX12_opens 180 = .ok (.iinc 5 1, 3) := by decide +kernel
theorem dX12_opens_183 : decode cX12_opens 183 = .ok (.goto (-53), 3) := by decide +kernel
theorem dX12_opens_186 : decode cX12_opens 186 = .ok (.aload_n 0, 1) := by decide +kernel
theorem dX12_opens_187 : decode cX12_opens 187 = .ok (.getfield 9, 3) := by decide +kernel
theorem dX12_opens_190 : decode cX12_opens 190 = .ok (.iload 4, 2) := by decide +kernel
theorem dX12_opens_192 : decode cX12_opens 192 = .ok (.invokestatic 127, 3) := by decide +kernel
theorem dX12_opens_195 : decode cX12_opens 195 = .ok (.bipush 6, 2) := by decide +kernel
theorem dX12_opens_197 : decode cX12_opens 197 = .ok (.iadd, 1) := by decide +kernel
theorem dX12_opens_198 : decode cX12_opens 198 = .ok (.iload 5, 2) := by decide +kernel
theorem dX12_opens_200 : decode cX12_opens 200 = .ok (.iastore, 1) := by decide +kernel
theorem dX12_opens_201 : decode cX12_opens 201 = .ok (.aload_n 0, 1) := by decide +kernel
theorem dX12_opens_202 : decode cX12_opens 202 = .ok (.iload_n 1, 1) := by decide +kernel
theorem dX12_opens_203 : decode cX12_opens 203 = .ok (.bipush 15, 2) := by decide +kernel
theorem dX12_opens_205 : decode cX12_opens 205 = .ok (.aload_n 0, 1) := by decide +kernel
theorem dX12_opens_206 : decode cX12_opens 206 = .ok (.iload_n 1, 1) := by decide +kernel
theorem dX12_opens_207 : decode cX12_opens 207 = .ok (.iconst 3, 1) := by decide +kernel
theorem dX12_opens_208 : decode cX12_opens 208 = .ok (.invokevirtual 37, 3) := by decide +kernel
theorem dX12_opens_211 : decode cX12_opens 211 = .ok (.iadd, 1) := by decide +kernel
theorem dX12_opens_212 : decode cX12_opens 212 = .ok (.iload 4, 2) := by decide +kernel
theorem dX12_opens_214 : decode cX12_opens 214 = .ok (.invokevirtual 109, 3) := by decide +kernel
theorem dX12_opens_217 : decode cX12_opens 217 = .ok (.aload_n 0, 1) := by decide +kernel
theorem dX12_opens_218 : decode cX12_opens 218 = .ok (.iload_n 1, 1) := by decide +kernel
theorem dX12_opens_219 : decode cX12_opens 219 = .ok (.iconst 3, 1) := by decide +kernel
theorem dX12_opens_220 : decode cX12_opens 220 = .ok (.aload_n 0, 1) := by decide +kernel
theorem dX12_opens_221 : decode cX12_opens 221 = .ok (.iload_n 1, 1) := by decide +kernel
theorem dX12_opens_222 : decode cX12_opens 222 = .ok (.iconst 3, 1) := by decide +kernel
theorem dX12_opens_223 : decode cX12_opens 223 = .ok (.invokevirtual 37, 3) := by decide +kernel
theorem dX12_opens_226 : decode cX12_opens 226 = .ok (.iconst 1, 1) := by decide +kernel
theorem dX12_opens_227 : decode cX12_opens 227 = .ok (.iadd, 1) := by decide +kernel
theorem dX12_opens_228 : decode cX12_opens 228 = .ok (.invokevirtual 109, 3) := by decide +kernel
theorem dX12_opens_231 : decode cX12_opens 231 = .ok (.return_, 1) := by decide +kernel
theorem dX12_closes_0 : decode cX12_closes 0 = .ok (.aload_n 0, 1) := by decide +kernel
theorem dX12_closes_1 : decode cX12_closes 1 = .ok (.iload_n 1, 1) := by decide +kernel
theorem dX12_closes_2 : decode cX12_closes 2 = .ok (.invokevirtual 144, 3) := by decide +kernel
theorem dX12_closes_5 : decode cX12_closes 5 = .ok (.istore_n 2, 1) := by decide +kernel
theorem dX12_closes_6 : decode cX12_closes 6 = .ok (.aload_n 0, 1) := by decide +kernel
theorem dX12_closes_7 : decode cX12_closes 7 = .ok (.iload_n 2, 1) := by decide +kernel
theorem dX12_closes_8 : decode cX12_closes 8 = .ok (.iconst 1, 1) := by decide +kernel
theorem dX12_closes_9 : decode cX12_closes 9 = .ok (.invokevirtual 147, 3) := by decide +kernel
theorem dX12_closes_12 : decode cX12_closes 12 = .ok (.ifCond .le 27, 3) := by decide +kernel
theorem dX12_closes_15 : decode cX12_closes 15 = .ok (.aload_n 0, 1) := by decide +kernel
theorem dX12_closes_16 : decode cX12_closes 16 = .ok (.iload_n 1, 1) := by decide +kernel
theorem dX12_closes_17 : decode cX12_closes 17 = .ok (.iconst 0, 1) := by decide +kernel
theorem dX12_closes_18 : decode cX12_closes 18 = .ok (.iconst 5, 1) := by decide +kernel
theorem dX12_closes_19 : decode cX12_closes 19 = .ok (.invokevirtual 109, 3) := by decide +kernel
theorem dX12_closes_22 : decode cX12_closes 22 = .ok (.aload_n 0, 1) := by decide +kernel
theorem dX12_closes_23 : decode cX12_closes 23 = .ok (.iload_n 1, 1) := by decide +kernel
theorem dX12_closes_24 : decode cX12_closes 24 = .ok (.iconst 2, 1) := by decide +kernel
theorem dX12_closes_25 : decode cX12_closes 25 = .ok (.aload_n 0, 1) := by decide +kernel
theorem dX12_closes_26 : decode cX12_closes 26 = .ok (.iload_n 1, 1) := by decide +kernel
theorem dX12_closes_27 : decode cX12_closes 27 = .ok (.iconst 2, 1) := by decide +kernel
theorem dX12_closes_28 : decode cX12_closes 28 = .ok (.invokevirtual 37, 3) := by decide +kernel
theorem dX12_closes_31 : decode cX12_closes 31 = .ok (.iconst 1, 1) := by decide +kernel
theorem dX12_closes_32 : decode cX12_closes 32 = .ok (.isub, 1) := by decide +kernel
theorem dX12_closes_33 : decode cX12_closes 33 = .ok (.invokevirtual 109, 3) := by decide +kernel
theorem dX12_closes_36 : decode cX12_closes 36 = .ok (.goto 40, 3) := by decide +kernel
theorem dX12_closes_39 : decode cX12_closes 39 = .ok (.aload_n 0, 1) := by decide +kernel
theorem dX12_closes_40 : decode cX12_closes 40 = .ok (.iload_n 2, 1) := by decide +kernel
theorem dX12_closes_41 : decode cX12_closes 41 = .ok (.invokevirtual 154, 3) := by decide +kernel
theorem dX12_closes_44 : decode cX12_closes 44 = .ok (.ifCond .eq 26, 3) := by decide +kernel
theorem dX12_closes_47 : decode cX12_closes 47 = .ok (.aload_n 0, 1) := by decide +kernel
theorem dX12_closes_48 : decode cX12_closes 48 = .ok (.iload_n 1, 1) := by decide +kernel
theorem dX12_closes_49 : decode cX12_closes 49 = .ok (.iload_n 2, 1) := by decide +kernel
theorem dX12_closes_50 : decode cX12_closes 50 = .ok (.invokevirtual 157, 3) := by decide +kernel
theorem dX12_closes_53 : decode cX12_closes 53 = .ok (.aload_n 0, 1) := by decide +kernel
theorem dX12_closes_54 : decode cX12_closes 54 = .ok (.iload_n 1, 1) := by decide +kernel
theorem dX12_closes_55 : decode cX12_closes 55 = .ok (.iconst 2, 1) := by decide +kernel
theorem dX12_closes_56 : decode cX12_closes 56 = .ok (.aload_n 0, 1) := by decide +kernel
theorem dX12_closes_57 : decode cX12_closes 57 = .ok (.iload_n 1, 1) := by decide +kernel
theorem dX12_closes_58 : decode cX12_closes 58 = .ok (.iconst 2, 1) := by decide +kernel
theorem dX12_closes_59 : decode cX12_closes 59 = .ok (.invokevirtual 37, 3) := by decide +kernel
theorem dX12_closes_62 : decode cX12_closes 62 = .ok (.iconst 1, 1) := by decide +kernel
theorem dX12_closes_63 : decode cX12_closes 63 = .ok (.isub, 1) := by decide +kernel
theorem dX12_closes_64 : decode cX12_closes 64 = .ok (.invokevirtual 109, 3) := by decide +kernel
theorem dX12_closes_67 : decode cX12_closes 67 = .ok (.goto 9, 3) := by decide +kernel
theorem dX12_closes_70 : decode cX12_closes 70 = .ok (.aload_n 0, 1) := by decide +kernel
theorem dX12_closes_71 : decode cX12_closes 71 = .ok (.iload_n 1, 1) := by decide +kernel
theorem dX12_closes_72 : decode cX12_closes 72 = .ok (.iload_n 2, 1) := by decide +kernel
theorem dX12_closes_73 : decode cX12_closes 73 = .ok (.invokevirtual 160, 3) := by decide +kernel
theorem dX12_closes_76 : decode cX12_closes 76 = .ok (.return_, 1) := by decide +kernel
theorem dX12_waits_0 : decode cX12_waits 0 = .ok (.aload_n 0, 1) := by decide +kernel
theorem dX12_waits_1 : decode cX12_waits 1 = .ok (.iload_n 1, 1) := by decide +kernel
theorem dX12_waits_2 : decode cX12_waits 2 = .ok (.iconst 0, 1) := by decide +kernel
theorem dX12_waits_3 : decode cX12_waits 3 = .ok (.iload_n 2, 1) := by decide +kernel
theorem dX12_waits_4 : decode cX12_waits 4 = .ok (.invokevirtual 109, 3) := by decide +kernel
theorem dX12_waits_7 : decode cX12_waits 7 = .ok (.aload_n 0, 1) := by decide +kernel
theorem dX12_waits_8 : decode cX12_waits 8 = .ok (.iload_n 1, 1) := by decide +kernel
theorem dX12_waits_9 : decode cX12_waits 9 = .ok (.bipush 12, 2) := by decide +kernel
theorem dX12_waits_11 : decode cX12_waits 11 = .ok (.iload_n 3, 1) := by decide +kernel
theorem dX12_waits_12 : decode cX12_waits 12 = .ok (.invokevirtual 109, 3) := by decide +kernel
theorem dX12_waits_15 : decode cX12_waits 15 = .ok (.aload_n 0, 1) := by decide +kernel
theorem dX12_waits_16 : decode cX12_waits 16 = .ok (.iload_n 1, 1) := by decide +kernel
theorem dX12_waits_17 : decode cX12_waits 17 = .ok (.bipush 13, 2) := by decide +kernel
theorem dX12_waits_19 : decode cX12_waits 19 = .ok (.iload 4, 2) := by decide +kernel
theorem dX12_waits_21 : decode cX12_waits 21 = .ok (.invokevirtual 109, 3) := by decide +kernel
theorem dX12_waits_24 : decode cX12_waits 24 = .ok (.aload_n 0, 1) := by decide +kernel
theorem dX12_waits_25 : decode cX12_waits 25 = .ok (.iload_n 1, 1) := by decide +kernel
theorem dX12_waits_26 : decode cX12_waits 26 = .ok (.bipush 14, 2) := by decide +kernel
theorem dX12_waits_28 : decode cX12_waits 28 = .ok (.aload_n 0, 1) := by decide +kernel
theorem dX12_waits_29 : decode cX12_waits 29 = .ok (.getfield 9, 3) := by decide +kernel
theorem dX12_waits_32 : decode cX12_waits 32 = .ok (.sipush 182, 3) := by decide +kernel
theorem dX12_waits_35 : decode cX12_waits 35 = .ok (.dup2, 1) := by decide +kernel
theorem dX12_waits_36 : decode cX12_waits 36 = .ok (.iaload, 1) := by decide +kernel
theorem dX12_waits_37 : decode cX12_waits 37 = .ok (.dup_x2, 1) := by decide +kernel
theorem dX12_waits_38 : decode cX12_waits 38 = .ok (.iconst 1, 1) := by decide +kernel
theorem dX12_waits_39 : decode cX12_waits 39 = .ok (.iadd, 1) := by decide +kernel
theorem dX12_waits_40 : decode cX12_waits 40 = .ok (.iastore, 1) := by decide +kernel
theorem dX12_waits_41 : decode cX12_waits 41 = .ok (.invokevirtual 109, 3) := by decide +kernel
theorem dX12_waits_44 : decode cX12_waits 44 = .ok (.return_, 1) := by decide +kernel
theorem dX12_waitsFor_0 : decode cX12_waitsFor 0 = .ok (.aload_n 0, 1) := by decide +kernel
theorem dX12_waitsFor_1 : decode cX12_waitsFor 1 = .ok (.iload_n 1, 1) := by decide +kernel
theorem dX12_waitsFor_2 : decode cX12_waitsFor 2 = .ok (.iconst 0, 1) := by decide +kernel
theorem dX12_waitsFor_3 : decode cX12_waitsFor 3 = .ok (.invokevirtual 37, 3) := by decide +kernel
theorem dX12_waitsFor_6 : decode cX12_waitsFor 6 = .ok (.istore 4, 2) := by decide +kernel
theorem dX12_waitsFor_8 : decode cX12_waitsFor 8 = .ok (.iload_n 3, 1) := by decide +kernel
theorem dX12_waitsFor_9 : decode cX12_waitsFor 9 = .ok (.ifCond .eq 26, 3) := by decide +kernel
theorem dX12_waitsFor_12 : decode cX12_waitsFor 12 = .ok (.iload 4, 2) := by decide +kernel
theorem dX12_waitsFor_14 : decode cX12_waitsFor 14 = .ok (.iconst 2, 1) := by decide +kernel
theorem dX12_waitsFor_15 : decode cX12_waitsFor 15 = .ok (.if_icmp .ne 18, 3) := by decide +kernel
theorem dX12_waitsFor_18 : decode cX12_waitsFor 18 = .ok (.aload_n 0, 1) := by decide +kernel
theorem dX12_waitsFor_19 : decode cX12_waitsFor 19 = .ok (.iload_n 1, 1) := by decide +kernel
theorem dX12_waitsFor_20 : decode cX12_waitsFor 20 = .ok (.bipush 12, 2) := by decide +kernel
theorem dX12_waitsFor_22 : decode cX12_waitsFor 22 = .ok (.invokevirtual 37, 3) := by decide +kernel
theorem dX12_waitsFor_25 : decode cX12_waitsFor 25 = .ok (.iload_n 2, 1) := by decide +kernel
theorem dX12_waitsFor_26 : decode cX12_waitsFor 26 = .ok (.if_icmp .ne 7, 3) := by decide +kernel
theorem dX12_waitsFor_29 : decode cX12_waitsFor 29 = .ok (.iconst 1, 1) := by decide +kernel
theorem dX12_waitsFor_30 : decode cX12_waitsFor 30 = .ok (.goto 4, 3) := by decide +kernel
theorem dX12_waitsFor_33 : decode cX12_waitsFor 33 = .ok (.iconst 0, 1) := by decide +kernel
theorem dX12_waitsFor_34 : decode cX12_waitsFor 34 = .ok (.ireturn, 1) := by decide +kernel
theorem dX12_waitsFor_35 : decode cX12_waitsFor 35 = .ok (.iload 4, 2) := by decide +kernel
theorem dX12_waitsFor_37 : decode cX12_waitsFor 37 = .ok (.iconst 3, 1) := by decide +kernel
theorem dX12_waitsFor_38 : decode cX12_waitsFor 38 = .ok (.if_icmp .eq 9, 3) := by decide +kernel
theorem dX12_waitsFor_41 : decode cX12_waitsFor 41 = .ok (.iload 4, 2) := by decide +kernel
theorem dX12_waitsFor_43 : decode cX12_waitsFor 43 = .ok (.iconst 4, 1) := by decide +kernel
theorem dX12_waitsFor_44 : decode cX12_waitsFor 44 = .ok (.if_icmp .ne 29, 3) := by decide +kernel
theorem dX12_waitsFor_47 : decode cX12_waitsFor 47 = .ok (.aload_n 0, 1) := by decide +kernel
theorem dX12_waitsFor_48 : decode cX12_waitsFor 48 = .ok (.iload_n 1, 1) := by decide +kernel
theorem dX12_waitsFor_49 : decode cX12_waitsFor 49 = .ok (.bipush 12, 2) := by decide +kernel
theorem dX12_waitsFor_51 : decode cX12_waitsFor 51 = .ok (.invokevirtual 37, 3) := by decide +kernel
theorem dX12_waitsFor_54 : decode cX12_waitsFor 54 = .ok (.iload_n 2, 1) := by decide +kernel
theorem dX12_waitsFor_55 : decode cX12_waitsFor 55 = .ok (.if_icmp .eq 14, 3) := by decide +kernel
theorem dX12_waitsFor_58 : decode cX12_waitsFor 58 = .ok (.aload_n 0, 1) := by decide +kernel
theorem dX12_waitsFor_59 : decode cX12_waitsFor 59 = .ok (.iload_n 1, 1) := by decide +kernel
theorem dX12_waitsFor_60 : decode cX12_waitsFor 60 = .ok (.bipush 13, 2) := by decide +kernel
theorem dX12_waitsFor_62 : decode cX12_waitsFor 62 = .ok (.invokevirtual 37, 3) := by decide +kernel
theorem dX12_waitsFor_65 : decode cX12_waitsFor 65 = .ok (.iload_n 2, 1) := by decide +kernel
theorem dX12_waitsFor_66 : decode cX12_waitsFor 66 = .ok (.if_icmp .ne 7, 3) := by decide +kernel
theorem dX12_waitsFor_69 : decode cX12_waitsFor 69 = .ok (.iconst 1, 1) := by decide +kernel
theorem dX12_waitsFor_70 : decode cX12_waitsFor 70 = .ok (.goto 4, 3) := by decide +kernel
theorem dX12_waitsFor_73 : decode cX12_waitsFor 73 = .ok (.iconst 0, 1) := by decide +kernel
theorem dX12_waitsFor_74 : decode cX12_waitsFor 74 = .ok (.ireturn, 1) := by decide +kernel
theorem dX12_longest_0 : decode cX12_longest 0 = .ok (.iconst (-1), 1) := by decide +kernel
theorem dX12_longest_1 : decode cX12_longest 1 = .ok (.istore_n 3, 1) := by decide +kernel
theorem dX12_longest_2 : decode cX12_longest 2 = .ok (.iconst 0, 1) := by decide +kernel
theorem dX12_longest_3 : decode cX12_longest 3 = .ok (.istore 4, 2) := by decide +kernel
theorem dX12_longest_5 : decode cX12_longest 5 = .ok (.iload 4, 2) := by decide +kernel
theorem dX12_longest_7 : decode cX12_longest 7 = .ok (.aload_n 0, 1) := by decide +kernel
theorem dX12_longest_8 : decode cX12_longest 8 = .ok (.getfield 9, 3) := by decide +kernel
theorem dX12_longest_11 : decode cX12_longest 11 = .ok (.sipush 170, 3) := by decide +kernel
theorem dX12_longest_14 : decode cX12_longest 14 = .ok (.iaload, 1) := by decide +kernel
theorem dX12_longest_15 : decode cX12_longest 15 = .ok (.if_icmp .ge 45, 3) := by decide +kernel
theorem dX12_longest_18 : decode cX12_longest 18 = .ok (.aload_n 0, 1) := by decide +kernel
theorem dX12_longest_19 : decode cX12_longest 19 = .ok (.iload 4, 2) := by decide +kernel
theorem dX12_longest_21 : decode cX12_longest 21 = .ok (.iload_n 1, 1) := by decide +kernel
theorem dX12_longest_22 : decode cX12_longest 22 = .ok (.iload_n 2, 1) := by decide +kernel
theorem dX12_longest_23 : decode cX12_longest 23 = .ok (.invokevirtual 174, 3) := by decide +kernel
theorem dX12_longest_26 : decode cX12_longest 26 = .ok (.ifCond .eq 28, 3) := by decide +kernel
theorem dX12_longest_29 : decode cX12_longest 29 = .ok (.iload_n 3, 1) := by decide +kernel
theorem dX12_longest_30 : decode cX12_longest 30 = .ok (.ifCond .lt 21, 3) := by decide +kernel
theorem dX12_longest_33 : decode cX12_longest 33 = .ok (.aload_n 0, 1) := by decide +kernel
theorem dX12_longest_34 : decode cX12_longest 34 = .ok (.iload 4, 2) := by decide +kernel
theorem dX12_longest_36 : decode cX12_longest 36 = .ok (.bipush 14, 2) := by decide +kernel
theorem dX12_longest_38 : decode cX12_longest 38 = .ok (.invokevirtual 37, 3) := by decide +kernel
theorem dX12_longest_41 : decode cX12_longest 41 = .ok (.aload_n 0, 1) := by decide +kernel
theorem dX12_longest_42 : decode cX12_longest 42 = .ok (.iload_n 3, 1) := by decide +kernel
theorem dX12_longest_43 : decode cX12_longest 43 = .ok (.bipush 14, 2) := by decide +kernel
theorem dX12_longest_45 : decode cX12_longest 45 = .ok (.invokevirtual 37, 3) := by decide +kernel
theorem dX12_longest_48 : decode cX12_longest 48 = .ok (.if_icmp .ge 6, 3) := by decide +kernel
theorem dX12_longest_51 : decode cX12_longest 51 = .ok (.iload 4, 2) := by decide +kernel
theorem dX12_longest_53 : decode cX12_longest 53 = .ok (.istore_n 3, 1) := by decide +kernel
theorem dX12_longest_54 : decode cX12_longest 54 = .ok (.iinc 4 1, 3) := by decide +kernel
theorem dX12_longest_57 : decode cX12_longest 57 = .ok (.goto (-52), 3) := by decide +kernel
theorem dX12_longest_60 : decode cX12_longest 60 = .ok (.iload_n 3, 1) := by decide +kernel
theorem dX12_longest_61 : decode cX12_longest 61 = .ok (.ireturn, 1) := by decide +kernel
theorem dX12_waiting_0 : decode cX12_waiting 0 = .ok (.iconst 0, 1) := by decide +kernel
theorem dX12_waiting_1 : decode cX12_waiting 1 = .ok (.istore_n 3, 1) := by decide +kernel
theorem dX12_waiting_2 : decode cX12_waiting 2 = .ok (.iconst 0, 1) := by decide +kernel
theorem dX12_waiting_3 : decode cX12_waiting 3 = .ok (.istore 4, 2) := by decide +kernel
theorem dX12_waiting_5 : decode cX12_waiting 5 = .ok (.iload 4, 2) := by decide +kernel
theorem dX12_waiting_7 : decode cX12_waiting 7 = .ok (.aload_n 0, 1) := by decide +kernel
theorem dX12_waiting_8 : decode cX12_waiting 8 = .ok (.getfield 9, 3) := by decide +kernel
theorem dX12_waiting_11 : decode cX12_waiting 11 = .ok (.sipush 170, 3) := by decide +kernel
theorem dX12_waiting_14 : decode cX12_waiting 14 = .ok (.iaload, 1) := by decide +kernel
theorem dX12_waiting_15 : decode cX12_waiting 15 = .ok (.if_icmp .ge 23, 3) := by decide +kernel
theorem dX12_waiting_18 : decode cX12_waiting 18 = .ok (.aload_n 0, 1) := by decide +kernel
theorem dX12_waiting_19 : decode cX12_waiting 19 = .ok (.iload 4, 2) := by decide +kernel
theorem dX12_waiting_21 : decode cX12_waiting 21 = .ok (.iload_n 1, 1) := by decide +kernel
theorem dX12_waiting_22 : decode cX12_waiting 22 = .ok (.iload_n 2, 1) := by decide +kernel
theorem dX12_waiting_23 : decode cX12_waiting 23 = .ok (.invokevirtual 174, 3) := by decide +kernel
theorem dX12_waiting_26 : decode cX12_waiting 26 = .ok (.ifCond .eq 6, 3) := by decide +kernel
theorem dX12_waiting_29 : decode cX12_waiting 29 = .ok (.iinc 3 1, 3) := by decide +kernel
theorem dX12_waiting_32 : decode cX12_waiting 32 = .ok (.iinc 4 1, 3) := by decide +kernel
theorem dX12_waiting_35 : decode cX12_waiting 35 = .ok (.goto (-30), 3) := by decide +kernel
theorem dX12_waiting_38 : decode cX12_waiting 38 = .ok (.iload_n 3, 1) := by decide +kernel
theorem dX12_waiting_39 : decode cX12_waiting 39 = .ok (.ireturn, 1) := by decide +kernel
theorem dX12_gets_0 : decode cX12_gets 0 = .ok (.aload_n 0, 1) := by decide +kernel
theorem dX12_gets_1 : decode cX12_gets 1 = .ok (.iload_n 1, 1) := by decide +kernel
theorem dX12_gets_2 : decode cX12_gets 2 = .ok (.iconst 1, 1) := by decide +kernel
theorem dX12_gets_3 : decode cX12_gets 3 = .ok (.iload_n 2, 1) := by decide +kernel
theorem dX12_gets_4 : decode cX12_gets 4 = .ok (.invokevirtual 109, 3) := by decide +kernel
theorem dX12_gets_7 : decode cX12_gets 7 = .ok (.iload_n 3, 1) := by decide +kernel
theorem dX12_gets_8 : decode cX12_gets 8 = .ok (.ifCond .eq 17, 3) := by decide +kernel
theorem dX12_gets_11 : decode cX12_gets 11 = .ok (.aload_n 0, 1) := by decide +kernel
theorem dX12_gets_12 : decode cX12_gets 12 = .ok (.iload_n 1, 1) := by decide +kernel
theorem dX12_gets_13 : decode cX12_gets 13 = .ok (.iconst 5, 1) := by decide +kernel
theorem dX12_gets_14 : decode cX12_gets 14 = .ok (.aload_n 0, 1) := by decide +kernel
theorem dX12_gets_15 : decode cX12_gets 15 = .ok (.iload_n 1, 1) := by decide +kernel
theorem dX12_gets_16 : decode cX12_gets 16 = .ok (.iconst 5, 1) := by decide +kernel
theorem dX12_gets_17 : decode cX12_gets 17 = .ok (.invokevirtual 37, 3) := by decide +kernel
theorem dX12_gets_20 : decode cX12_gets 20 = .ok (.iconst 1, 1) := by decide +kernel
theorem dX12_gets_21 : decode cX12_gets 21 = .ok (.iadd, 1) := by decide +kernel
theorem dX12_gets_22 : decode cX12_gets 22 = .ok (.invokevirtual 109, 3) := by decide +kernel
theorem dX12_gets_25 : decode cX12_gets 25 = .ok (.aload_n 0, 1) := by decide +kernel
theorem dX12_gets_26 : decode cX12_gets 26 = .ok (.getfield 9, 3) := by decide +kernel
theorem dX12_gets_29 : decode cX12_gets 29 = .ok (.sipush 180, 3) := by decide +kernel
theorem dX12_gets_32 : decode cX12_gets 32 = .ok (.dup2, 1) := by decide +kernel
theorem dX12_gets_33 : decode cX12_gets 33 = .ok (.iaload, 1) := by decide +kernel
theorem dX12_gets_34 : decode cX12_gets 34 = .ok (.iconst 1, 1) := by decide +kernel
theorem dX12_gets_35 : decode cX12_gets 35 = .ok (.iadd, 1) := by decide +kernel
theorem dX12_gets_36 : decode cX12_gets 36 = .ok (.iastore, 1) := by decide +kernel
theorem dX12_gets_37 : decode cX12_gets 37 = .ok (.return_, 1) := by decide +kernel
theorem dX12_sends_0 : decode cX12_sends 0 = .ok (.aload_n 0, 1) := by decide +kernel
theorem dX12_sends_1 : decode cX12_sends 1 = .ok (.iload_n 1, 1) := by decide +kernel
theorem dX12_sends_2 : decode cX12_sends 2 = .ok (.iconst 1, 1) := by decide +kernel
theorem dX12_sends_3 : decode cX12_sends 3 = .ok (.invokevirtual 37, 3) := by decide +kernel
theorem dX12_sends_6 : decode cX12_sends 6 = .ok (.istore_n 3, 1) := by decide +kernel
theorem dX12_sends_7 : decode cX12_sends 7 = .ok (.aload_n 0, 1) := by decide +kernel
theorem dX12_sends_8 : decode cX12_sends 8 = .ok (.iload_n 2, 1) := by decide +kernel
theorem dX12_sends_9 : decode cX12_sends 9 = .ok (.iconst 0, 1) := by decide +kernel
theorem dX12_sends_10 : decode cX12_sends 10 = .ok (.invokevirtual 178, 3) := by decide +kernel
theorem dX12_sends_13 : decode cX12_sends 13 = .ok (.istore 4, 2) := by decide +kernel
theorem dX12_sends_15 : decode cX12_sends 15 = .ok (.iload 4, 2) := by decide +kernel
theorem dX12_sends_17 : decode cX12_sends 17 = .ok (.ifCond .lt 35, 3) := by decide +kernel
theorem dX12_sends_20 : decode cX12_sends 20 = .ok (.aload_n 0, 1) := by decide +kernel
theorem dX12_sends_21 : decode cX12_sends 21 = .ok (.iload 4, 2) := by decide +kernel
theorem dX12_sends_23 : decode cX12_sends 23 = .ok (.iload_n 3, 1) := by decide +kernel
theorem dX12_sends_24 : decode cX12_sends 24 = .ok (.aload_n 0, 1) := by decide +kernel
theorem dX12_sends_25 : decode cX12_sends 25 = .ok (.iload 4, 2) := by decide +kernel
theorem dX12_sends_27 : decode cX12_sends 27 = .ok (.iconst 0, 1) := by decide +kernel
theorem dX12_sends_28 : decode cX12_sends 28 = .ok (.invokevirtual 37, 3) := by decide +kernel
theorem dX12_sends_31 : decode cX12_sends 31 = .ok (.iconst 4, 1) := by decide +kernel
theorem dX12_sends_32 : decode cX12_sends 32 = .ok (.if_icmp .ne 7, 3) := by decide +kernel
theorem dX12_sends_35 : decode cX12_sends 35 = .ok (.iconst 1, 1) := by decide +kernel
theorem dX12_sends_36 : decode cX12_sends 36 = .ok (.goto 4, 3) := by decide +kernel
theorem dX12_sends_39 : decode cX12_sends 39 = .ok (.iconst 0, 1) := by decide +kernel
theorem dX12_sends_40 : decode cX12_sends 40 = .ok (.invokevirtual 181, 3) := by decide +kernel
theorem dX12_sends_43 : decode cX12_sends 43 = .ok (.aload_n 0, 1) := by decide +kernel
theorem dX12_sends_44 : decode cX12_sends 44 = .ok (.iload 4, 2) := by decide +kernel
theorem dX12_sends_46 : decode cX12_sends 46 = .ok (.invokevirtual 121, 3) := by decide +kernel
theorem dX12_sends_49 : decode cX12_sends 49 = .ok (.goto 66, 3) := by decide +kernel
theorem dX12_sends_52 : decode cX12_sends 52 = .ok (.aload_n 0, 1) := by decide +kernel
theorem dX12_sends_53 : decode cX12_sends 53 = .ok (.getfield 9, 3) := by decide +kernel
theorem dX12_sends_56 : decode cX12_sends 56 = .ok (.iload_n 2, 1) := by decide +kernel
theorem dX12_sends_57 : decode cX12_sends 57 = .ok (.invokestatic 92, 3) := by decide +kernel
theorem dX12_sends_60 : decode cX12_sends 60 = .ok (.iconst 1, 1) := by decide +kernel
theorem dX12_sends_61 : decode cX12_sends 61 = .ok (.iadd, 1) := by decide +kernel
theorem dX12_sends_62 : decode cX12_sends 62 = .ok (.iaload, 1) := by decide +kernel
theorem dX12_sends_63 : decode cX12_sends 63 = .ok (.aload_n 0, 1) := by decide +kernel
theorem dX12_sends_64 : decode cX12_sends 64 = .ok (.getfield 9, 3) := by decide +kernel
theorem dX12_sends_67 : decode cX12_sends 67 = .ok (.iload_n 2, 1) := by decide +kernel
theorem dX12_sends_68 : decode cX12_sends 68 = .ok (.invokestatic 92, 3) := by decide +kernel
theorem dX12_sends_71 : decode cX12_sends 71 = .ok (.iaload, 1) := by decide +kernel
theorem dX12_sends_72 : decode cX12_sends 72 = .ok (.if_icmp .ge 35, 3) := by decide +kernel
theorem dX12_sends_75 : decode cX12_sends 75 = .ok (.aload_n 0, 1) := by decide +kernel
theorem dX12_sends_76 : decode cX12_sends 76 = .ok (.getfield 9, 3) := by decide +kernel
theorem dX12_sends_79 : decode cX12_sends 79 = .ok (.iload_n 2, 1) := by decide +kernel
theorem dX12_sends_80 : decode cX12_sends 80 = .ok (.invokestatic 92, 3) := by decide +kernel
theorem dX12_sends_83 : decode cX12_sends 83 = .ok (.iconst 2, 1) := by decide +kernel
theorem dX12_sends_84 : decode cX12_sends 84 = .ok (.iadd, 1) := by decide +kernel
theorem dX12_sends_85 : decode cX12_sends 85 = .ok (.aload_n 0, 1) := by decide +kernel
theorem dX12_sends_86 : decode cX12_sends 86 = .ok (.getfield 9, 3) := by decide +kernel
theorem dX12_sends_89 : decode cX12_sends 89 = .ok (.iload_n 2, 1) := by decide +kernel
theorem dX12_sends_90 : decode cX12_sends 90 = .ok (.invokestatic 92, 3) := by decide +kernel
theorem dX12_sends_93 : decode cX12_sends 93 = .ok (.iconst 1, 1) := by decide +kernel
theorem dX12_sends_94 : decode cX12_sends 94 = .ok (.iadd, 1) := by decide +kernel
theorem dX12_sends_95 : decode cX12_sends 95 = .ok (.dup2, 1) := by decide +kernel
theorem dX12_sends_96 : decode cX12_sends 96 = .ok (.iaload, 1) := by decide +kernel
theorem dX12_sends_97 : decode cX12_sends 97 = .ok (.dup_x2, 1) := by decide +kernel
theorem dX12_sends_98 : decode cX12_sends 98 = .ok (.iconst 1, 1) := by decide +kernel
theorem dX12_sends_99 : decode cX12_sends 99 = .ok (.iadd, 1) := by decide +kernel
