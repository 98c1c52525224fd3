theorem dX12_sends_100 : decode cX12_sends 100 = .ok (.iastore, 1) := by decide +kernel
theorem dX12_sends_101 : decode cX12_sends 101 = .ok (.iadd, 1) := by decide +kernel
theorem dX12_sends_102 : decode cX12_sends 102 = .ok (.iload_n 3, 1) := by decide +kernel
theorem dX12_sends_103 : decode cX12_sends 103 = .ok (.iastore, 1) := by decide +kernel
theorem dX12_sends_104 : decode cX12_sends 104 = .ok (.goto 11, 3) := by decide +kernel
theorem dX12_sends_107 : decode cX12_sends 107 = .ok (.aload_n 0, 1) := by decide +kernel
theorem dX12_sends_108 : decode cX12_sends 108 = .ok (.iload_n 1, 1) := by decide +kernel
theorem dX12_sends_109 : decode cX12_sends 109 = .ok (.iconst 2, 1) := by decide +kernel
theorem dX12_sends_110 : decode cX12_sends 110 = .ok (.iload_n 2, 1) := by decide +kernel
theorem dX12_sends_111 : decode cX12_sends 111 = .ok (.iconst (-1), 1) := by decide +kernel
theorem dX12_sends_112 : decode cX12_sends 112 = .ok (.invokevirtual 185, 3) := by decide +kernel
theorem dX12_sends_115 : decode cX12_sends 115 = .ok (.return_, 1) := by decide +kernel
theorem dX12_canReceive_0 : decode cX12_canReceive 0 = .ok (.aload_n 0, 1) := by decide +kernel
theorem dX12_canReceive_1 : decode cX12_canReceive 1 = .ok (.getfield 9, 3) := by decide +kernel
theorem dX12_canReceive_4 : decode cX12_canReceive 4 = .ok (.iload_n 1, 1) := by decide +kernel
theorem dX12_canReceive_5 : decode cX12_canReceive 5 = .ok (.invokestatic 92, 3) := by decide +kernel
theorem dX12_canReceive_8 : decode cX12_canReceive 8 = .ok (.iconst 1, 1) := by decide +kernel
theorem dX12_canReceive_9 : decode cX12_canReceive 9 = .ok (.iadd, 1) := by decide +kernel
theorem dX12_canReceive_10 : decode cX12_canReceive 10 = .ok (.iaload, 1) := by decide +kernel
theorem dX12_canReceive_11 : decode cX12_canReceive 11 = .ok (.ifCond .gt 12, 3) := by decide +kernel
theorem dX12_canReceive_14 : decode cX12_canReceive 14 = .ok (.aload_n 0, 1) := by decide +kernel
theorem dX12_canReceive_15 : decode cX12_canReceive 15 = .ok (.iload_n 1, 1) := by decide +kernel
theorem dX12_canReceive_16 : decode cX12_canReceive 16 = .ok (.iconst 1, 1) := by decide +kernel
theorem dX12_canReceive_17 : decode cX12_canReceive 17 = .ok (.invokevirtual 178, 3) := by decide +kernel
theorem dX12_canReceive_20 : decode cX12_canReceive 20 = .ok (.ifCond .lt 7, 3) := by decide +kernel
theorem dX12_canReceive_23 : decode cX12_canReceive 23 = .ok (.iconst 1, 1) := by decide +kernel
theorem dX12_canReceive_24 : decode cX12_canReceive 24 = .ok (.goto 4, 3) := by decide +kernel
theorem dX12_canReceive_27 : decode cX12_canReceive 27 = .ok (.iconst 0, 1) := by decide +kernel
theorem dX12_canReceive_28 : decode cX12_canReceive 28 = .ok (.ireturn, 1) := by decide +kernel
theorem dX12_receives_0 : decode cX12_receives 0 = .ok (.aload_n 0, 1) := by decide +kernel
theorem dX12_receives_1 : decode cX12_receives 1 = .ok (.iload_n 2, 1) := by decide +kernel
theorem dX12_receives_2 : decode cX12_receives 2 = .ok (.iconst 1, 1) := by decide +kernel
theorem dX12_receives_3 : decode cX12_receives 3 = .ok (.invokevirtual 178, 3) := by decide +kernel
theorem dX12_receives_6 : decode cX12_receives 6 = .ok (.istore 4, 2) := by decide +kernel
theorem dX12_receives_8 : decode cX12_receives 8 = .ok (.iload_n 2, 1) := by decide +kernel
theorem dX12_receives_9 : decode cX12_receives 9 = .ok (.invokestatic 92, 3) := by decide +kernel
theorem dX12_receives_12 : decode cX12_receives 12 = .ok (.istore 5, 2) := by decide +kernel
theorem dX12_receives_14 : decode cX12_receives 14 = .ok (.aload_n 0, 1) := by decide +kernel
theorem dX12_receives_15 : decode cX12_receives 15 = .ok (.getfield 9, 3) := by decide +kernel
theorem dX12_receives_18 : decode cX12_receives 18 = .ok (.iload 5, 2) := by decide +kernel
theorem dX12_receives_20 : decode cX12_receives 20 = .ok (.iconst 1, 1) := by decide +kernel
theorem dX12_receives_21 : decode cX12_receives 21 = .ok (.iadd, 1) := by decide +kernel
theorem dX12_receives_22 : decode cX12_receives 22 = .ok (.iaload, 1) := by decide +kernel
theorem dX12_receives_23 : decode cX12_receives 23 = .ok (.ifCond .le 117, 3) := by decide +kernel
theorem dX12_receives_26 : decode cX12_receives 26 = .ok (.aload_n 0, 1) := by decide +kernel
theorem dX12_receives_27 : decode cX12_receives 27 = .ok (.iload_n 1, 1) := by decide +kernel
theorem dX12_receives_28 : decode cX12_receives 28 = .ok (.aload_n 0, 1) := by decide +kernel
theorem dX12_receives_29 : decode cX12_receives 29 = .ok (.getfield 9, 3) := by decide +kernel
theorem dX12_receives_32 : decode cX12_receives 32 = .ok (.iload 5, 2) := by decide +kernel
theorem dX12_receives_34 : decode cX12_receives 34 = .ok (.iconst 2, 1) := by decide +kernel
theorem dX12_receives_35 : decode cX12_receives 35 = .ok (.iadd, 1) := by decide +kernel
theorem dX12_receives_36 : decode cX12_receives 36 = .ok (.iaload, 1) := by decide +kernel
theorem dX12_receives_37 : decode cX12_receives 37 = .ok (.iload_n 3, 1) := by decide +kernel
theorem dX12_receives_38 : decode cX12_receives 38 = .ok (.invokevirtual 181, 3) := by decide +kernel
theorem dX12_receives_41 : decode cX12_receives 41 = .ok (.aload_n 0, 1) := by decide +kernel
theorem dX12_receives_42 : decode cX12_receives 42 = .ok (.getfield 9, 3) := by decide +kernel
theorem dX12_receives_45 : decode cX12_receives 45 = .ok (.iload 5, 2) := by decide +kernel
theorem dX12_receives_47 : decode cX12_receives 47 = .ok (.iconst 1, 1) := by decide +kernel
theorem dX12_receives_48 : decode cX12_receives 48 = .ok (.iadd, 1) := by decide +kernel
theorem dX12_receives_49 : decode cX12_receives 49 = .ok (.dup2, 1) := by decide +kernel
theorem dX12_receives_50 : decode cX12_receives 50 = .ok (.iaload, 1) := by decide +kernel
theorem dX12_receives_51 : decode cX12_receives 51 = .ok (.iconst 1, 1) := by decide +kernel
theorem dX12_receives_52 : decode cX12_receives 52 = .ok (.isub, 1) := by decide +kernel
theorem dX12_receives_53 : decode cX12_receives 53 = .ok (.iastore, 1) := by decide +kernel
theorem dX12_receives_54 : decode cX12_receives 54 = .ok (.iconst 0, 1) := by decide +kernel
theorem dX12_receives_55 : decode cX12_receives 55 = .ok (.istore 6, 2) := by decide +kernel
theorem dX12_receives_57 : decode cX12_receives 57 = .ok (.iload 6, 2) := by decide +kernel
theorem dX12_receives_59 : decode cX12_receives 59 = .ok (.aload_n 0, 1) := by decide +kernel
theorem dX12_receives_60 : decode cX12_receives 60 = .ok (.getfield 9, 3) := by decide +kernel
theorem dX12_receives_63 : decode cX12_receives 63 = .ok (.iload 5, 2) := by decide +kernel
theorem dX12_receives_65 : decode cX12_receives 65 = .ok (.iconst 1, 1) := by decide +kernel
theorem dX12_receives_66 : decode cX12_receives 66 = .ok (.iadd, 1) := by decide +kernel
theorem dX12_receives_67 : decode cX12_receives 67 = .ok (.iaload, 1) := by decide +kernel
theorem dX12_receives_68 : decode cX12_receives 68 = .ok (.if_icmp .ge 33, 3) := by decide +kernel
theorem dX12_receives_71 : decode cX12_receives 71 = .ok (.aload_n 0, 1) := by decide +kernel
theorem dX12_receives_72 : decode cX12_receives 72 = .ok (.getfield 9, 3) := by decide +kernel
theorem dX12_receives_75 : decode cX12_receives 75 = .ok (.iload 5, 2) := by decide +kernel
theorem dX12_receives_77 : decode cX12_receives 77 = .ok (.iconst 2, 1) := by decide +kernel
theorem dX12_receives_78 : decode cX12_receives 78 = .ok (.iadd, 1) := by decide +kernel
theorem dX12_receives_79 : decode cX12_receives 79 = .ok (.iload 6, 2) := by decide +kernel
theorem dX12_receives_81 : decode cX12_receives 81 = .ok (.iadd, 1) := by decide +kernel
theorem dX12_receives_82 : decode cX12_receives 82 = .ok (.aload_n 0, 1) := by decide +kernel
theorem dX12_receives_83 : decode cX12_receives 83 = .ok (.getfield 9, 3) := by decide +kernel
theorem dX12_receives_86 : decode cX12_receives 86 = .ok (.iload 5, 2) := by decide +kernel
theorem dX12_receives_88 : decode cX12_receives 88 = .ok (.iconst 3, 1) := by decide +kernel
theorem dX12_receives_89 : decode cX12_receives 89 = .ok (.iadd, 1) := by decide +kernel
theorem dX12_receives_90 : decode cX12_receives 90 = .ok (.iload 6, 2) := by decide +kernel
theorem dX12_receives_92 : decode cX12_receives 92 = .ok (.iadd, 1) := by decide +kernel
theorem dX12_receives_93 : decode cX12_receives 93 = .ok (.iaload, 1) := by decide +kernel
theorem dX12_receives_94 : decode cX12_receives 94 = .ok (.iastore, 1) := by decide +kernel
theorem dX12_receives_95 : decode cX12_receives 95 = .ok (.iinc 6 1, 3) := by decide +kernel
theorem dX12_receives_98 : decode cX12_receives 98 = .ok (.goto (-41), 3) := by decide +kernel
theorem dX12_receives_101 : decode cX12_receives 101 = .ok (.iload 4, 2) := by decide +kernel
theorem dX12_receives_103 : decode cX12_receives 103 = .ok (.ifCond .lt 50, 3) := by decide +kernel
theorem dX12_receives_106 : decode cX12_receives 106 = .ok (.aload_n 0, 1) := by decide +kernel
theorem dX12_receives_107 : decode cX12_receives 107 = .ok (.getfield 9, 3) := by decide +kernel
theorem dX12_receives_110 : decode cX12_receives 110 = .ok (.iload 5, 2) := by decide +kernel
theorem dX12_receives_112 : decode cX12_receives 112 = .ok (.iconst 2, 1) := by decide +kernel
theorem dX12_receives_113 : decode cX12_receives 113 = .ok (.iadd, 1) := by decide +kernel
theorem dX12_receives_114 : decode cX12_receives 114 = .ok (.aload_n 0, 1) := by decide +kernel
theorem dX12_receives_115 : decode cX12_receives 115 = .ok (.getfield 9, 3) := by decide +kernel
theorem dX12_receives_118 : decode cX12_receives 118 = .ok (.iload 5, 2) := by decide +kernel
theorem dX12_receives_120 : decode cX12_receives 120 = .ok (.iconst 1, 1) := by decide +kernel
theorem dX12_receives_121 : decode cX12_receives 121 = .ok (.iadd, 1) := by decide +kernel
theorem dX12_receives_122 : decode cX12_receives 122 = .ok (.dup2, 1) := by decide +kernel
theorem dX12_receives_123 : decode cX12_receives 123 = .ok (.iaload, 1) := by decide +kernel
theorem dX12_receives_124 : decode cX12_receives 124 = .ok (.dup_x2, 1) := by decide +kernel
theorem dX12_receives_125 : decode cX12_receives 125 = .ok (.iconst 1, 1) := by decide +kernel
theorem dX12_receives_126 : decode cX12_receives 126 = .ok (.iadd, 1) := by decide +kernel
theorem dX12_receives_127 : decode cX12_receives 127 = .ok (.iastore, 1) := by decide +kernel
theorem dX12_receives_128 : decode cX12_receives 128 = .ok (.iadd, 1) := by decide +kernel
theorem dX12_receives_129 : decode cX12_receives 129 = .ok (.aload_n 0, 1) := by decide +kernel
theorem dX12_receives_130 : decode cX12_receives 130 = .ok (.iload 4, 2) := by decide +kernel
theorem dX12_receives_132 : decode cX12_receives 132 = .ok (.iconst 1, 1) := by decide +kernel
theorem dX12_receives_133 : decode cX12_receives 133 = .ok (.invokevirtual 37, 3) := by decide +kernel
theorem dX12_receives_136 : decode cX12_receives 136 = .ok (.iastore, 1) := by decide +kernel
theorem dX12_receives_137 : decode cX12_receives 137 = .ok (.goto 16, 3) := by decide +kernel
theorem dX12_receives_140 : decode cX12_receives 140 = .ok (.aload_n 0, 1) := by decide +kernel
theorem dX12_receives_141 : decode cX12_receives 141 = .ok (.iload_n 1, 1) := by decide +kernel
theorem dX12_receives_142 : decode cX12_receives 142 = .ok (.aload_n 0, 1) := by decide +kernel
theorem dX12_receives_143 : decode cX12_receives 143 = .ok (.iload 4, 2) := by decide +kernel
theorem dX12_receives_145 : decode cX12_receives 145 = .ok (.iconst 1, 1) := by decide +kernel
theorem dX12_receives_146 : decode cX12_receives 146 = .ok (.invokevirtual 37, 3) := by decide +kernel
theorem dX12_receives_149 : decode cX12_receives 149 = .ok (.iload_n 3, 1) := by decide +kernel
theorem dX12_receives_150 : decode cX12_receives 150 = .ok (.invokevirtual 181, 3) := by decide +kernel
theorem dX12_receives_153 : decode cX12_receives 153 = .ok (.iload 4, 2) := by decide +kernel
theorem dX12_receives_155 : decode cX12_receives 155 = .ok (.ifCond .lt 9, 3) := by decide +kernel
theorem dX12_receives_158 : decode cX12_receives 158 = .ok (.aload_n 0, 1) := by decide +kernel
theorem dX12_receives_159 : decode cX12_receives 159 = .ok (.iload 4, 2) := by decide +kernel
theorem dX12_receives_161 : decode cX12_receives 161 = .ok (.invokevirtual 121, 3) := by decide +kernel
theorem dX12_receives_164 : decode cX12_receives 164 = .ok (.return_, 1) := by decide +kernel
theorem dX12_chooses_0 : decode cX12_chooses 0 = .ok (.aload_n 0, 1) := by decide +kernel
theorem dX12_chooses_1 : decode cX12_chooses 1 = .ok (.iload_n 1, 1) := by decide +kernel
theorem dX12_chooses_2 : decode cX12_chooses 2 = .ok (.iconst 5, 1) := by decide +kernel
theorem dX12_chooses_3 : decode cX12_chooses 3 = .ok (.invokevirtual 37, 3) := by decide +kernel
theorem dX12_chooses_6 : decode cX12_chooses 6 = .ok (.iconst 2, 1) := by decide +kernel
theorem dX12_chooses_7 : decode cX12_chooses 7 = .ok (.irem, 1) := by decide +kernel
theorem dX12_chooses_8 : decode cX12_chooses 8 = .ok (.ifCond .ne 7, 3) := by decide +kernel
theorem dX12_chooses_11 : decode cX12_chooses 11 = .ok (.iconst 1, 1) := by decide +kernel
theorem dX12_chooses_12 : decode cX12_chooses 12 = .ok (.goto 4, 3) := by decide +kernel
theorem dX12_chooses_15 : decode cX12_chooses 15 = .ok (.iconst 0, 1) := by decide +kernel
theorem dX12_chooses_16 : decode cX12_chooses 16 = .ok (.istore 4, 2) := by decide +kernel
theorem dX12_chooses_18 : decode cX12_chooses 18 = .ok (.iload 4, 2) := by decide +kernel
theorem dX12_chooses_20 : decode cX12_chooses 20 = .ok (.ifCond .eq 7, 3) := by decide +kernel
theorem dX12_chooses_23 : decode cX12_chooses 23 = .ok (.iload_n 2, 1) := by decide +kernel
theorem dX12_chooses_24 : decode cX12_chooses 24 = .ok (.goto 4, 3) := by decide +kernel
theorem dX12_chooses_27 : decode cX12_chooses 27 = .ok (.iload_n 3, 1) := by decide +kernel
theorem dX12_chooses_28 : decode cX12_chooses 28 = .ok (.istore 5, 2) := by decide +kernel
theorem dX12_chooses_30 : decode cX12_chooses 30 = .ok (.iload 4, 2) := by decide +kernel
theorem dX12_chooses_32 : decode cX12_chooses 32 = .ok (.ifCond .eq 7, 3) := by decide +kernel
theorem dX12_chooses_35 : decode cX12_chooses 35 = .ok (.iload_n 3, 1) := by decide +kernel
theorem dX12_chooses_36 : decode cX12_chooses 36 = .ok (.goto 4, 3) := by decide +kernel
theorem dX12_chooses_39 : decode cX12_chooses 39 = .ok (.iload_n 2, 1) := by decide +kernel
theorem dX12_chooses_40 : decode cX12_chooses 40 = .ok (.istore 6, 2) := by decide +kernel
theorem dX12_chooses_42 : decode cX12_chooses 42 = .ok (.aload_n 0, 1) := by decide +kernel
theorem dX12_chooses_43 : decode cX12_chooses 43 = .ok (.iload 5, 2) := by decide +kernel
theorem dX12_chooses_45 : decode cX12_chooses 45 = .ok (.invokevirtual 188, 3) := by decide +kernel
theorem dX12_chooses_48 : decode cX12_chooses 48 = .ok (.ifCond .eq 14, 3) := by decide +kernel
theorem dX12_chooses_51 : decode cX12_chooses 51 = .ok (.aload_n 0, 1) := by decide +kernel
theorem dX12_chooses_52 : decode cX12_chooses 52 = .ok (.iload_n 1, 1) := by decide +kernel
theorem dX12_chooses_53 : decode cX12_chooses 53 = .ok (.iload 5, 2) := by decide +kernel
theorem dX12_chooses_55 : decode cX12_chooses 55 = .ok (.iconst 1, 1) := by decide +kernel
theorem dX12_chooses_56 : decode cX12_chooses 56 = .ok (.invokevirtual 191, 3) := by decide +kernel
theorem dX12_chooses_59 : decode cX12_chooses 59 = .ok (.goto 31, 3) := by decide +kernel
theorem dX12_chooses_62 : decode cX12_chooses 62 = .ok (.aload_n 0, 1) := by decide +kernel
theorem dX12_chooses_63 : decode cX12_chooses 63 = .ok (.iload 6, 2) := by decide +kernel
theorem dX12_chooses_65 : decode cX12_chooses 65 = .ok (.invokevirtual 188, 3) := by decide +kernel
theorem dX12_chooses_68 : decode cX12_chooses 68 = .ok (.ifCond .eq 14, 3) := by decide +kernel
theorem dX12_chooses_71 : decode cX12_chooses 71 = .ok (.aload_n 0, 1) := by decide +kernel
theorem dX12_chooses_72 : decode cX12_chooses 72 = .ok (.iload_n 1, 1) := by decide +kernel
theorem dX12_chooses_73 : decode cX12_chooses 73 = .ok (.iload 6, 2) := by decide +kernel
theorem dX12_chooses_75 : decode cX12_chooses 75 = .ok (.iconst 1, 1) := by decide +kernel
theorem dX12_chooses_76 : decode cX12_chooses 76 = .ok (.invokevirtual 191, 3) := by decide +kernel
theorem dX12_chooses_79 : decode cX12_chooses 79 = .ok (.goto 11, 3) := by decide +kernel
theorem dX12_chooses_82 : decode cX12_chooses 82 = .ok (.aload_n 0, 1) := by decide +kernel
theorem dX12_chooses_83 : decode cX12_chooses 83 = .ok (.iload_n 1, 1) := by decide +kernel
theorem dX12_chooses_84 : decode cX12_chooses 84 = .ok (.iconst 4, 1) := by decide +kernel
theorem dX12_chooses_85 : decode cX12_chooses 85 = .ok (.iload_n 2, 1) := by decide +kernel
theorem dX12_chooses_86 : decode cX12_chooses 86 = .ok (.iload_n 3, 1) := by decide +kernel
theorem dX12_chooses_87 : decode cX12_chooses 87 = .ok (.invokevirtual 185, 3) := by decide +kernel
theorem dX12_chooses_90 : decode cX12_chooses 90 = .ok (.return_, 1) := by decide +kernel
theorem dX12_executes_0 : decode cX12_executes 0 = .ok (.aload_n 0, 1) := by decide +kernel
theorem dX12_executes_1 : decode cX12_executes 1 = .ok (.iload_n 1, 1) := by decide +kernel
theorem dX12_executes_2 : decode cX12_executes 2 = .ok (.iconst 2, 1) := by decide +kernel
theorem dX12_executes_3 : decode cX12_executes 3 = .ok (.invokevirtual 37, 3) := by decide +kernel
theorem dX12_executes_6 : decode cX12_executes 6 = .ok (.istore_n 2, 1) := by decide +kernel
theorem dX12_executes_7 : decode cX12_executes 7 = .ok (.aload_n 0, 1) := by decide +kernel
theorem dX12_executes_8 : decode cX12_executes 8 = .ok (.getfield 9, 3) := by decide +kernel
theorem dX12_executes_11 : decode cX12_executes 11 = .ok (.iload_n 1, 1) := by decide +kernel
theorem dX12_executes_12 : decode cX12_executes 12 = .ok (.invokestatic 29, 3) := by decide +kernel
theorem dX12_executes_15 : decode cX12_executes 15 = .ok (.bipush 20, 2) := by decide +kernel
theorem dX12_executes_17 : decode cX12_executes 17 = .ok (.iadd, 1) := by decide +kernel
theorem dX12_executes_18 : decode cX12_executes 18 = .ok (.iconst 1, 1) := by decide +kernel
theorem dX12_executes_19 : decode cX12_executes 19 = .ok (.iadd, 1) := by decide +kernel
theorem dX12_executes_20 : decode cX12_executes 20 = .ok (.iload_n 2, 1) := by decide +kernel
theorem dX12_executes_21 : decode cX12_executes 21 = .ok (.iadd, 1) := by decide +kernel
theorem dX12_executes_22 : decode cX12_executes 22 = .ok (.iaload, 1) := by decide +kernel
theorem dX12_executes_23 : decode cX12_executes 23 = .ok (.istore_n 3, 1) := by decide +kernel
theorem dX12_executes_24 : decode cX12_executes 24 = .ok (.iload_n 3, 1) := by decide +kernel
theorem dX12_executes_25 : decode cX12_executes 25 = .ok (.bipush 100, 2) := by decide +kernel
theorem dX12_executes_27 : decode cX12_executes 27 = .ok (.irem, 1) := by decide +kernel
theorem dX12_executes_28 : decode cX12_executes 28 = .ok (.istore 4, 2) := by decide +kernel
theorem dX12_executes_30 : decode cX12_executes 30 = .ok (.aload_n 0, 1) := by decide +kernel
theorem dX12_executes_31 : decode cX12_executes 31 = .ok (.iload_n 1, 1) := by decide +kernel
theorem dX12_executes_32 : decode cX12_executes 32 = .ok (.iconst 2, 1) := by decide +kernel
theorem dX12_executes_33 : decode cX12_executes 33 = .ok (.iload_n 2, 1) := by decide +kernel
theorem dX12_executes_34 : decode cX12_executes 34 = .ok (.iconst 1, 1) := by decide +kernel
theorem dX12_executes_35 : decode cX12_executes 35 = .ok (.iadd, 1) := by decide +kernel
theorem dX12_executes_36 : decode cX12_executes 36 = .ok (.invokevirtual 109, 3) := by decide +kernel
theorem dX12_executes_39 : decode cX12_executes 39 = .ok (.iload_n 3, 1) := by decide +kernel
theorem dX12_executes_40 : decode cX12_executes 40 = .ok (.bipush 100, 2) := by decide +kernel
theorem dX12_executes_42 : decode cX12_executes 42 = .ok (.idiv, 1) := by decide +kernel
theorem dX12_executes_43 : decode cX12_executes 43 = .ok (.lookupswitch 306 #[(33, 296), (40, 97), (41, 137), (60, 246), (62, 236), (63, 278), (91, 107), (94, 145), (112, 186), (120, 224), (123, 127)], 97) := by decide +kernel
theorem dX12_executes_140 : decode cX12_executes 140 = .ok (.aload_n 0, 1) := by decide +kernel
theorem dX12_executes_141 : decode cX12_executes 141 = .ok (.iload_n 1, 1) := by decide +kernel
theorem dX12_executes_142 : decode cX12_executes 142 = .ok (.iconst 0, 1) := by decide +kernel
theorem dX12_executes_143 : decode cX12_executes 143 = .ok (.iconst (-1), 1) := by decide +kernel
theorem dX12_executes_144 : decode cX12_executes 144 = .ok (.invokevirtual 194, 3) := by decide +kernel
theorem dX12_executes_147 : decode cX12_executes 147 = .ok (.goto 215, 3) := by decide +kernel
theorem dX12_executes_150 : decode cX12_executes 150 = .ok (.aload_n 0, 1) := by decide +kernel
theorem dX12_executes_151 : decode cX12_executes 151 = .ok (.iload_n 1, 1) := by decide +kernel
theorem dX12_executes_152 : decode cX12_executes 152 = .ok (.iconst 1, 1) := by decide +kernel
theorem dX12_executes_153 : decode cX12_executes 153 = .ok (.aload_n 0, 1) := by decide +kernel
theorem dX12_executes_154 : decode cX12_executes 154 = .ok (.getfield 9, 3) := by decide +kernel
theorem dX12_executes_157 : decode cX12_executes 157 = .ok (.sipush 175, 3) := by decide +kernel
theorem dX12_executes_160 : decode cX12_executes 160 = .ok (.iaload, 1) := by decide +kernel
theorem dX12_executes_161 : decode cX12_executes 161 = .ok (.iload 4, 2) := by decide +kernel
theorem dX12_executes_163 : decode cX12_executes 163 = .ok (.iadd, 1) := by decide +kernel
theorem dX12_executes_164 : decode cX12_executes 164 = .ok (.invokevirtual 194, 3) := by decide +kernel
theorem dX12_executes_167 : decode cX12_executes 167 = .ok (.goto 195, 3) := by decide +kernel
theorem dX12_executes_170 : decode cX12_executes 170 = .ok (.aload_n 0, 1) := by decide +kernel
theorem dX12_executes_171 : decode cX12_executes 171 = .ok (.iload_n 1, 1) := by decide +kernel
theorem dX12_executes_172 : decode cX12_executes 172 = .ok (.iconst 2, 1) := by decide +kernel
theorem dX12_executes_173 : decode cX12_executes 173 = .ok (.iconst (-1), 1) := by decide +kernel
theorem dX12_executes_174 : decode cX12_executes 174 = .ok (.invokevirtual 194, 3) := by decide +kernel
theorem dX12_executes_177 : decode cX12_executes 177 = .ok (.goto 185, 3) := by decide +kernel
theorem dX12_executes_180 : decode cX12_executes 180 = .ok (.aload_n 0, 1) := by decide +kernel
theorem dX12_executes_181 : decode cX12_executes 181 = .ok (.iload_n 1, 1) := by decide +kernel
theorem dX12_executes_182 : decode cX12_executes 182 = .ok (.invokevirtual 197, 3) := by decide +kernel
theorem dX12_executes_185 : decode cX12_executes 185 = .ok (.goto 177, 3) := by decide +kernel
theorem dX12_executes_188 : decode cX12_executes 188 = .ok (.aload_n 0, 1) := by decide +kernel
theorem dX12_executes_189 : decode cX12_executes 189 = .ok (.getfield 9, 3) := by decide +kernel
theorem dX12_executes_192 : decode cX12_executes 192 = .ok (.aload_n 0, 1) := by decide +kernel
theorem dX12_executes_193 : decode cX12_executes 193 = .ok (.iload_n 1, 1) := by decide +kernel
theorem dX12_executes_194 : decode cX12_executes 194 = .ok (.invokevirtual 144, 3) := by decide +kernel
theorem dX12_executes_197 : decode cX12_executes 197 = .ok (.invokestatic 127, 3) := by decide +kernel
theorem dX12_executes_200 : decode cX12_executes 200 = .ok (.iconst 5, 1) := by decide +kernel
theorem dX12_executes_201 : decode cX12_executes 201 = .ok (.iadd, 1) := by decide +kernel
theorem dX12_executes_202 : decode cX12_executes 202 = .ok (.iconst 1, 1) := by decide +kernel
theorem dX12_executes_203 : decode cX12_executes 203 = .ok (.iastore, 1) := by decide +kernel
theorem dX12_executes_204 : decode cX12_executes 204 = .ok (.aload_n 0, 1) := by decide +kernel
theorem dX12_executes_205 : decode cX12_executes 205 = .ok (.iconst 0, 1) := by decide +kernel
theorem dX12_executes_206 : decode cX12_executes 206 = .ok (.bipush 25, 2) := by decide +kernel
theorem dX12_executes_208 : decode cX12_executes 208 = .ok (.iload 4, 2) := by decide +kernel
theorem dX12_executes_210 : decode cX12_executes 210 = .ok (.imul, 1) := by decide +kernel
theorem dX12_executes_211 : decode cX12_executes 211 = .ok (.iadd, 1) := by decide +kernel
theorem dX12_executes_212 : decode cX12_executes 212 = .ok (.aload_n 0, 1) := by decide +kernel
theorem dX12_executes_213 : decode cX12_executes 213 = .ok (.iload_n 1, 1) := by decide +kernel
theorem dX12_executes_214 : decode cX12_executes 214 = .ok (.invokevirtual 144, 3) := by decide +kernel
theorem dX12_executes_217 : decode cX12_executes 217 = .ok (.invokestatic 127, 3) := by decide +kernel
theorem dX12_executes_220 : decode cX12_executes 220 = .ok (.bipush 7, 2) := by decide +kernel
theorem dX12_executes_222 : decode cX12_executes 222 = .ok (.iadd, 1) := by decide +kernel
theorem dX12_executes_223 : decode cX12_executes 223 = .ok (.invokevirtual 117, 3) := by decide +kernel
theorem dX12_executes_226 : decode cX12_executes 226 = .ok (.goto 136, 3) := by decide +kernel
theorem dX12_executes_229 : decode cX12_executes 229 = .ok (.aload_n 0, 1) := by decide +kernel
theorem dX12_executes_230 : decode cX12_executes 230 = .ok (.getfield 9, 3) := by decide +kernel
theorem dX12_executes_233 : decode cX12_executes 233 = .ok (.sipush 170, 3) := by decide +kernel
theorem dX12_executes_236 : decode cX12_executes 236 = .ok (.iaload, 1) := by decide +kernel
theorem dX12_executes_237 : decode cX12_executes 237 = .ok (.bipush 24, 2) := by decide +kernel
theorem dX12_executes_239 : decode cX12_executes 239 = .ok (.if_icmp .ne 13, 3) := by decide +kernel
theorem dX12_executes_242 : decode cX12_executes 242 = .ok (.aload_n 0, 1) := by decide +kernel
theorem dX12_executes_243 : decode cX12_executes 243 = .ok (.iload_n 1, 1) := by decide +kernel
theorem dX12_executes_244 : decode cX12_executes 244 = .ok (.bipush 11, 2) := by decide +kernel
theorem dX12_executes_246 : decode cX12_executes 246 = .ok (.invokevirtual 172, 3) := by decide +kernel
theorem dX12_executes_249 : decode cX12_executes 249 = .ok (.goto 113, 3) := by decide +kernel
theorem dX12_executes_252 : decode cX12_executes 252 = .ok (.aload_n 0, 1) := by decide +kernel
theorem dX12_executes_253 : decode cX12_executes 253 = .ok (.iload 4, 2) := by decide +kernel
theorem dX12_executes_255 : decode cX12_executes 255 = .ok (.aload_n 0, 1) := by decide +kernel
theorem dX12_executes_256 : decode cX12_executes 256 = .ok (.iload_n 1, 1) := by decide +kernel
theorem dX12_executes_257 : decode cX12_executes 257 = .ok (.invokevirtual 144, 3) := by decide +kernel
theorem dX12_executes_260 : decode cX12_executes 260 = .ok (.invokevirtual 124, 3) := by decide +kernel
theorem dX12_executes_263 : decode cX12_executes 263 = .ok (.pop, 1) := by decide +kernel
theorem dX12_executes_264 : decode cX12_executes 264 = .ok (.goto 98, 3) := by decide +kernel
theorem dX12_executes_267 : decode cX12_executes 267 = .ok (.aload_n 0, 1) := by decide +kernel
theorem dX12_executes_268 : decode cX12_executes 268 = .ok (.aload_n 0, 1) := by decide +kernel
theorem dX12_executes_269 : decode cX12_executes 269 = .ok (.iload_n 1, 1) := by decide +kernel
theorem dX12_executes_270 : decode cX12_executes 270 = .ok (.invokevirtual 144, 3) := by decide +kernel
theorem dX12_executes_273 : decode cX12_executes 273 = .ok (.invokevirtual 151, 3) := by decide +kernel
theorem dX12_executes_276 : decode cX12_executes 276 = .ok (.goto 86, 3) := by decide +kernel
theorem dX12_executes_279 : decode cX12_executes 279 = .ok (.aload_n 0, 1) := by decide +kernel
theorem dX12_executes_280 : decode cX12_executes 280 = .ok (.iload_n 1, 1) := by decide +kernel
theorem dX12_executes_281 : decode cX12_executes 281 = .ok (.iload 4, 2) := by decide +kernel
theorem dX12_executes_283 : decode cX12_executes 283 = .ok (.invokevirtual 200, 3) := by decide +kernel
theorem dX12_executes_286 : decode cX12_executes 286 = .ok (.goto 76, 3) := by decide +kernel
theorem dX12_executes_289 : decode cX12_executes 289 = .ok (.aload_n 0, 1) := by decide +kernel
theorem dX12_executes_290 : decode cX12_executes 290 = .ok (.iload 4, 2) := by decide +kernel
theorem dX12_executes_292 : decode cX12_executes 292 = .ok (.invokevirtual 188, 3) := by decide +kernel
theorem dX12_executes_295 : decode cX12_executes 295 = .ok (.ifCond .eq 14, 3) := by decide +kernel
theorem dX12_executes_298 : decode cX12_executes 298 = .ok (.aload_n 0, 1) := by decide +kernel
theorem dX12_executes_299 : decode cX12_executes 299 = .ok (.iload_n 1, 1) := by decide +kernel
theorem dX12_executes_300 : decode cX12_executes 300 = .ok (.iload 4, 2) := by decide +kernel
theorem dX12_executes_302 : decode cX12_executes 302 = .ok (.iconst 0, 1) := by decide +kernel
theorem dX12_executes_303 : decode cX12_executes 303 = .ok (.invokevirtual 191, 3) := by decide +kernel
theorem dX12_executes_306 : decode cX12_executes 306 = .ok (.goto 56, 3) := by decide +kernel
theorem dX12_executes_309 : decode cX12_executes 309 = .ok (.aload_n 0, 1) := by decide +kernel
theorem dX12_executes_310 : decode cX12_executes 310 = .ok (.iload_n 1, 1) := by decide +kernel
theorem dX12_executes_311 : decode cX12_executes 311 = .ok (.iconst 3, 1) := by decide +kernel
theorem dX12_executes_312 : decode cX12_executes 312 = .ok (.iload 4, 2) := by decide +kernel
theorem dX12_executes_314 : decode cX12_executes 314 = .ok (.iconst (-1), 1) := by decide +kernel
theorem dX12_executes_315 : decode cX12_executes 315 = .ok (.invokevirtual 185, 3) := by decide +kernel
theorem dX12_executes_318 : decode cX12_executes 318 = .ok (.goto 44, 3) := by decide +kernel
theorem dX12_executes_321 : decode cX12_executes 321 = .ok (.aload_n 0, 1) := by decide +kernel
theorem dX12_executes_322 : decode cX12_executes 322 = .ok (.iload_n 1, 1) := by decide +kernel
theorem dX12_executes_323 : decode cX12_executes 323 = .ok (.iload 4, 2) := by decide +kernel
theorem dX12_executes_325 : decode cX12_executes 325 = .ok (.bipush 10, 2) := by decide +kernel
theorem dX12_executes_327 : decode cX12_executes 327 = .ok (.idiv, 1) := by decide +kernel
theorem dX12_executes_328 : decode cX12_executes 328 = .ok (.iload 4, 2) := by decide +kernel
theorem dX12_executes_330 : decode cX12_executes 330 = .ok (.bipush 10, 2) := by decide +kernel
theorem dX12_executes_332 : decode cX12_executes 332 = .ok (.irem, 1) := by decide +kernel
theorem dX12_executes_333 : decode cX12_executes 333 = .ok (.invokevirtual 203, 3) := by decide +kernel
theorem dX12_executes_336 : decode cX12_executes 336 = .ok (.goto 26, 3) := by decide +kernel
theorem dX12_executes_339 : decode cX12_executes 339 = .ok (.aload_n 0, 1) := by decide +kernel
theorem dX12_executes_340 : decode cX12_executes 340 = .ok (.iload_n 1, 1) := by decide +kernel
theorem dX12_executes_341 : decode cX12_executes 341 = .ok (.iload 4, 2) := by decide +kernel
theorem dX12_executes_343 : decode cX12_executes 343 = .ok (.invokevirtual 172, 3) := by decide +kernel
theorem dX12_executes_346 : decode cX12_executes 346 = .ok (.goto 16, 3) := by decide +kernel
theorem dX12_executes_349 : decode cX12_executes 349 = .ok (.aload_n 0, 1) := by decide +kernel
theorem dX12_executes_350 : decode cX12_executes 350 = .ok (.iload_n 1, 1) := by decide +kernel
theorem dX12_executes_351 : decode cX12_executes 351 = .ok (.iconst 2, 1) := by decide +kernel
theorem dX12_executes_352 : decode cX12_executes 352 = .ok (.aload_n 0, 1) := by decide +kernel
theorem dX12_executes_353 : decode cX12_executes 353 = .ok (.iload_n 1, 1) := by decide +kernel
theorem dX12_executes_354 : decode cX12_executes 354 = .ok (.iload_n 3, 1) := by decide +kernel
theorem dX12_executes_355 : decode cX12_executes 355 = .ok (.iload_n 2, 1) := by decide +kernel
theorem dX12_executes_356 : decode cX12_executes 356 = .ok (.invokevirtual 169, 3) := by decide +kernel
theorem dX12_executes_359 : decode cX12_executes 359 = .ok (.invokevirtual 109, 3) := by decide +kernel
theorem dX12_executes_362 : decode cX12_executes 362 = .ok (.return_, 1) := by decide +kernel
theorem dX12_turns_0 : decode cX12_turns 0 = .ok (.aload_n 0, 1) := by decide +kernel
theorem dX12_turns_1 : decode cX12_turns 1 = .ok (.iload_n 1, 1) := by decide +kernel
theorem dX12_turns_2 : decode cX12_turns 2 = .ok (.bipush 9, 2) := by decide +kernel
theorem dX12_turns_4 : decode cX12_turns 4 = .ok (.invokevirtual 37, 3) := by decide +kernel
theorem dX12_turns_7 : decode cX12_turns 7 = .ok (.iconst 1, 1) := by decide +kernel
theorem dX12_turns_8 : decode cX12_turns 8 = .ok (.if_icmp .ne 11, 3) := by decide +kernel
theorem dX12_turns_11 : decode cX12_turns 11 = .ok (.aload_n 0, 1) := by decide +kernel
theorem dX12_turns_12 : decode cX12_turns 12 = .ok (.iload_n 1, 1) := by decide +kernel
theorem dX12_turns_13 : decode cX12_turns 13 = .ok (.invokevirtual 206, 3) := by decide +kernel
theorem dX12_turns_16 : decode cX12_turns 16 = .ok (.goto 97, 3) := by decide +kernel
theorem dX12_turns_19 : decode cX12_turns 19 = .ok (.aload_n 0, 1) := by decide +kernel
theorem dX12_turns_20 : decode cX12_turns 20 = .ok (.iload_n 1, 1) := by decide +kernel
theorem dX12_turns_21 : decode cX12_turns 21 = .ok (.bipush 6, 2) := by decide +kernel
theorem dX12_turns_23 : decode cX12_turns 23 = .ok (.invokevirtual 37, 3) := by decide +kernel
theorem dX12_turns_26 : decode cX12_turns 26 = .ok (.ifCond .le 20, 3) := by decide +kernel
theorem dX12_turns_29 : decode cX12_turns 29 = .ok (.aload_n 0, 1) := by decide +kernel
theorem dX12_turns_30 : decode cX12_turns 30 = .ok (.iload_n 1, 1) := by decide +kernel
theorem dX12_turns_31 : decode cX12_turns 31 = .ok (.iconst 3, 1) := by decide +kernel
theorem dX12_turns_32 : decode cX12_turns 32 = .ok (.invokevirtual 37, 3) := by decide +kernel
theorem dX12_turns_35 : decode cX12_turns 35 = .ok (.ifCond .le 11, 3) := by decide +kernel
theorem dX12_turns_38 : decode cX12_turns 38 = .ok (.aload_n 0, 1) := by decide +kernel
theorem dX12_turns_39 : decode cX12_turns 39 = .ok (.iload_n 1, 1) := by decide +kernel
theorem dX12_turns_40 : decode cX12_turns 40 = .ok (.invokevirtual 209, 3) := by decide +kernel
theorem dX12_turns_43 : decode cX12_turns 43 = .ok (.goto 70, 3) := by decide +kernel
theorem dX12_turns_46 : decode cX12_turns 46 = .ok (.aload_n 0, 1) := by decide +kernel
theorem dX12_turns_47 : decode cX12_turns 47 = .ok (.iload_n 1, 1) := by decide +kernel
theorem dX12_turns_48 : decode cX12_turns 48 = .ok (.bipush 6, 2) := by decide +kernel
theorem dX12_turns_50 : decode cX12_turns 50 = .ok (.invokevirtual 37, 3) := by decide +kernel
theorem dX12_turns_53 : decode cX12_turns 53 = .ok (.ifCond .le 29, 3) := by decide +kernel
theorem dX12_turns_56 : decode cX12_turns 56 = .ok (.aload_n 0, 1) := by decide +kernel
theorem dX12_turns_57 : decode cX12_turns 57 = .ok (.iload_n 1, 1) := by decide +kernel
theorem dX12_turns_58 : decode cX12_turns 58 = .ok (.aload_n 0, 1) := by decide +kernel
theorem dX12_turns_59 : decode cX12_turns 59 = .ok (.iload_n 1, 1) := by decide +kernel
theorem dX12_turns_60 : decode cX12_turns 60 = .ok (.bipush 6, 2) := by decide +kernel
theorem dX12_turns_62 : decode cX12_turns 62 = .ok (.invokevirtual 37, 3) := by decide +kernel
theorem dX12_turns_65 : decode cX12_turns 65 = .ok (.iconst 1, 1) := by decide +kernel
theorem dX12_turns_66 : decode cX12_turns 66 = .ok (.if_icmp .ne 8, 3) := by decide +kernel
theorem dX12_turns_69 : decode cX12_turns 69 = .ok (.bipush 8, 2) := by decide +kernel
theorem dX12_turns_71 : decode cX12_turns 71 = .ok (.goto 5, 3) := by decide +kernel
theorem dX12_turns_74 : decode cX12_turns 74 = .ok (.bipush 7, 2) := by decide +kernel
theorem dX12_turns_76 : decode cX12_turns 76 = .ok (.invokevirtual 212, 3) := by decide +kernel
theorem dX12_turns_79 : decode cX12_turns 79 = .ok (.goto 34, 3) := by decide +kernel
theorem dX12_turns_82 : decode cX12_turns 82 = .ok (.aload_n 0, 1) := by decide +kernel
theorem dX12_turns_83 : decode cX12_turns 83 = .ok (.iload_n 1, 1) := by decide +kernel
theorem dX12_turns_84 : decode cX12_turns 84 = .ok (.iconst 2, 1) := by decide +kernel
theorem dX12_turns_85 : decode cX12_turns 85 = .ok (.invokevirtual 37, 3) := by decide +kernel
theorem dX12_turns_88 : decode cX12_turns 88 = .ok (.aload_n 0, 1) := by decide +kernel
theorem dX12_turns_89 : decode cX12_turns 89 = .ok (.iload_n 1, 1) := by decide +kernel
theorem dX12_turns_90 : decode cX12_turns 90 = .ok (.bipush 20, 2) := by decide +kernel
theorem dX12_turns_92 : decode cX12_turns 92 = .ok (.invokevirtual 37, 3) := by decide +kernel
theorem dX12_turns_95 : decode cX12_turns 95 = .ok (.if_icmp .lt 13, 3) := by decide +kernel
theorem dX12_turns_98 : decode cX12_turns 98 = .ok (.aload_n 0, 1) := by decide +kernel
theorem dX12_turns_99 : decode cX12_turns 99 = .ok (.iload_n 1, 1) := by decide +kernel
theorem dX12_turns_100 : decode cX12_turns 100 = .ok (.bipush 6, 2) := by decide +kernel
theorem dX12_turns_102 : decode cX12_turns 102 = .ok (.invokevirtual 212, 3) := by decide +kernel
theorem dX12_turns_105 : decode cX12_turns 105 = .ok (.goto 8, 3) := by decide +kernel
theorem dX12_turns_108 : decode cX12_turns 108 = .ok (.aload_n 0, 1) := by decide +kernel
theorem dX12_turns_109 : decode cX12_turns 109 = .ok (.iload_n 1, 1) := by decide +kernel
theorem dX12_turns_110 : decode cX12_turns 110 = .ok (.invokevirtual 215, 3) := by decide +kernel
theorem dX12_turns_113 : decode cX12_turns 113 = .ok (.aload_n 0, 1) := by decide +kernel
theorem dX12_turns_114 : decode cX12_turns 114 = .ok (.iload_n 1, 1) := by decide +kernel
theorem dX12_turns_115 : decode cX12_turns 115 = .ok (.iconst 0, 1) := by decide +kernel
theorem dX12_turns_116 : decode cX12_turns 116 = .ok (.invokevirtual 37, 3) := by decide +kernel
theorem dX12_turns_119 : decode cX12_turns 119 = .ok (.ifCond .ne 8, 3) := by decide +kernel
theorem dX12_turns_122 : decode cX12_turns 122 = .ok (.aload_n 0, 1) := by decide +kernel
theorem dX12_turns_123 : decode cX12_turns 123 = .ok (.iload_n 1, 1) := by decide +kernel
theorem dX12_turns_124 : decode cX12_turns 124 = .ok (.invokevirtual 113, 3) := by decide +kernel
theorem dX12_turns_127 : decode cX12_turns 127 = .ok (.return_, 1) := by decide +kernel
theorem dX12_isDue_0 : decode cX12_isDue 0 = .ok (.aload_n 0, 1) := by decide +kernel
theorem dX12_isDue_1 : decode cX12_isDue 1 = .ok (.getfield 9, 3) := by decide +kernel
theorem dX12_isDue_4 : decode cX12_isDue 4 = .ok (.iload_n 1, 1) := by decide +kernel
theorem dX12_isDue_5 : decode cX12_isDue 5 = .ok (.invokestatic 127, 3) := by decide +kernel
theorem dX12_isDue_8 : decode cX12_isDue 8 = .ok (.iconst 3, 1) := by decide +kernel
theorem dX12_isDue_9 : decode cX12_isDue 9 = .ok (.iadd, 1) := by decide +kernel
theorem dX12_isDue_10 : decode cX12_isDue 10 = .ok (.iaload, 1) := by decide +kernel
theorem dX12_isDue_11 : decode cX12_isDue 11 = .ok (.iconst 2, 1) := by decide +kernel
theorem dX12_isDue_12 : decode cX12_isDue 12 = .ok (.if_icmp .ge 44, 3) := by decide +kernel
theorem dX12_isDue_15 : decode cX12_isDue 15 = .ok (.aload_n 0, 1) := by decide +kernel
theorem dX12_isDue_16 : decode cX12_isDue 16 = .ok (.getfield 9, 3) := by decide +kernel
theorem dX12_isDue_19 : decode cX12_isDue 19 = .ok (.iload_n 1, 1) := by decide +kernel
theorem dX12_isDue_20 : decode cX12_isDue 20 = .ok (.invokestatic 127, 3) := by decide +kernel
theorem dX12_isDue_23 : decode cX12_isDue 23 = .ok (.iconst 2, 1) := by decide +kernel
theorem dX12_isDue_24 : decode cX12_isDue 24 = .ok (.iadd, 1) := by decide +kernel
theorem dX12_isDue_25 : decode cX12_isDue 25 = .ok (.iaload, 1) := by decide +kernel
theorem dX12_isDue_26 : decode cX12_isDue 26 = .ok (.iconst 1, 1) := by decide +kernel
theorem dX12_isDue_27 : decode cX12_isDue 27 = .ok (.if_icmp .ne 29, 3) := by decide +kernel
theorem dX12_isDue_30 : decode cX12_isDue 30 = .ok (.aload_n 0, 1) := by decide +kernel
theorem dX12_isDue_31 : decode cX12_isDue 31 = .ok (.getfield 9, 3) := by decide +kernel
theorem dX12_isDue_34 : decode cX12_isDue 34 = .ok (.iload_n 1, 1) := by decide +kernel
theorem dX12_isDue_35 : decode cX12_isDue 35 = .ok (.invokestatic 127, 3) := by decide +kernel
theorem dX12_isDue_38 : decode cX12_isDue 38 = .ok (.iconst 4, 1) := by decide +kernel
theorem dX12_isDue_39 : decode cX12_isDue 39 = .ok (.iadd, 1) := by decide +kernel
theorem dX12_isDue_40 : decode cX12_isDue 40 = .ok (.iaload, 1) := by decide +kernel
theorem dX12_isDue_41 : decode cX12_isDue 41 = .ok (.aload_n 0, 1) := by decide +kernel
theorem dX12_isDue_42 : decode cX12_isDue 42 = .ok (.getfield 9, 3) := by decide +kernel
theorem dX12_isDue_45 : decode cX12_isDue 45 = .ok (.sipush 175, 3) := by decide +kernel
theorem dX12_isDue_48 : decode cX12_isDue 48 = .ok (.iaload, 1) := by decide +kernel
theorem dX12_isDue_49 : decode cX12_isDue 49 = .ok (.if_icmp .le 7, 3) := by decide +kernel
theorem dX12_isDue_52 : decode cX12_isDue 52 = .ok (.iconst 1, 1) := by decide +kernel
theorem dX12_isDue_53 : decode cX12_isDue 53 = .ok (.goto 4, 3) := by decide +kernel
theorem dX12_isDue_56 : decode cX12_isDue 56 = .ok (.iconst 0, 1) := by decide +kernel
theorem dX12_isDue_57 : decode cX12_isDue 57 = .ok (.ireturn, 1) := by decide +kernel
theorem dX12_nextTime_0 : decode cX12_nextTime 0 = .ok (.iconst (-1), 1) := by decide +kernel
theorem dX12_nextTime_1 : decode cX12_nextTime 1 = .ok (.istore_n 1, 1) := by decide +kernel
theorem dX12_nextTime_2 : decode cX12_nextTime 2 = .ok (.iconst 0, 1) := by decide +kernel
theorem dX12_nextTime_3 : decode cX12_nextTime 3 = .ok (.istore_n 2, 1) := by decide +kernel
theorem dX12_nextTime_4 : decode cX12_nextTime 4 = .ok (.iload_n 2, 1) := by decide +kernel
theorem dX12_nextTime_5 : decode cX12_nextTime 5 = .ok (.aload_n 0, 1) := by decide +kernel
theorem dX12_nextTime_6 : decode cX12_nextTime 6 = .ok (.getfield 9, 3) := by decide +kernel
theorem dX12_nextTime_9 : decode cX12_nextTime 9 = .ok (.sipush 170, 3) := by decide +kernel
theorem dX12_nextTime_12 : decode cX12_nextTime 12 = .ok (.iaload, 1) := by decide +kernel
theorem dX12_nextTime_13 : decode cX12_nextTime 13 = .ok (.if_icmp .ge 42, 3) := by decide +kernel
theorem dX12_nextTime_16 : decode cX12_nextTime 16 = .ok (.aload_n 0, 1) := by decide +kernel
theorem dX12_nextTime_17 : decode cX12_nextTime 17 = .ok (.iload_n 2, 1) := by decide +kernel
theorem dX12_nextTime_18 : decode cX12_nextTime 18 = .ok (.iconst 0, 1) := by decide +kernel
theorem dX12_nextTime_19 : decode cX12_nextTime 19 = .ok (.invokevirtual 37, 3) := by decide +kernel
theorem dX12_nextTime_22 : decode cX12_nextTime 22 = .ok (.iconst 1, 1) := by decide +kernel
theorem dX12_nextTime_23 : decode cX12_nextTime 23 = .ok (.if_icmp .ne 26, 3) := by decide +kernel
theorem dX12_nextTime_26 : decode cX12_nextTime 26 = .ok (.iload_n 1, 1) := by decide +kernel
theorem dX12_nextTime_27 : decode cX12_nextTime 27 = .ok (.ifCond .lt 14, 3) := by decide +kernel
theorem dX12_nextTime_30 : decode cX12_nextTime 30 = .ok (.aload_n 0, 1) := by decide +kernel
theorem dX12_nextTime_31 : decode cX12_nextTime 31 = .ok (.iload_n 2, 1) := by decide +kernel
theorem dX12_nextTime_32 : decode cX12_nextTime 32 = .ok (.bipush 11, 2) := by decide +kernel
theorem dX12_nextTime_34 : decode cX12_nextTime 34 = .ok (.invokevirtual 37, 3) := by decide +kernel
theorem dX12_nextTime_37 : decode cX12_nextTime 37 = .ok (.iload_n 1, 1) := by decide +kernel
theorem dX12_nextTime_38 : decode cX12_nextTime 38 = .ok (.if_icmp .ge 11, 3) := by decide +kernel
theorem dX12_nextTime_41 : decode cX12_nextTime 41 = .ok (.aload_n 0, 1) := by decide +kernel
theorem dX12_nextTime_42 : decode cX12_nextTime 42 = .ok (.iload_n 2, 1) := by decide +kernel
theorem dX12_nextTime_43 : decode cX12_nextTime 43 = .ok (.bipush 11, 2) := by decide +kernel
theorem dX12_nextTime_45 : decode cX12_nextTime 45 = .ok (.invokevirtual 37, 3) := by decide +kernel
theorem dX12_nextTime_48 : decode cX12_nextTime 48 = .ok (.istore_n 1, 1) := by decide +kernel
theorem dX12_nextTime_49 : decode cX12_nextTime 49 = .ok (.iinc 2 1, 3) := by decide +kernel
theorem dX12_nextTime_52 : decode cX12_nextTime 52 = .ok (.goto (-48), 3) := by decide +kernel
theorem dX12_nextTime_55 : decode cX12_nextTime 55 = .ok (.iconst 0, 1) := by decide +kernel
theorem dX12_nextTime_56 : decode cX12_nextTime 56 = .ok (.istore_n 2, 1) := by decide +kernel
theorem dX12_nextTime_57 : decode cX12_nextTime 57 = .ok (.iload_n 2, 1) := by decide +kernel
theorem dX12_nextTime_58 : decode cX12_nextTime 58 = .ok (.aload_n 0, 1) := by decide +kernel
theorem dX12_nextTime_59 : decode cX12_nextTime 59 = .ok (.getfield 9, 3) := by decide +kernel
theorem dX12_nextTime_62 : decode cX12_nextTime 62 = .ok (.sipush 171, 3) := by decide +kernel
theorem dX12_nextTime_65 : decode cX12_nextTime 65 = .ok (.iaload, 1) := by decide +kernel
theorem dX12_nextTime_66 : decode cX12_nextTime 66 = .ok (.if_icmp .ge 48, 3) := by decide +kernel
theorem dX12_nextTime_69 : decode cX12_nextTime 69 = .ok (.aload_n 0, 1) := by decide +kernel
theorem dX12_nextTime_70 : decode cX12_nextTime 70 = .ok (.iload_n 2, 1) := by decide +kernel
theorem dX12_nextTime_71 : decode cX12_nextTime 71 = .ok (.invokevirtual 218, 3) := by decide +kernel
theorem dX12_nextTime_74 : decode cX12_nextTime 74 = .ok (.ifCond .eq 34, 3) := by decide +kernel
theorem dX12_nextTime_77 : decode cX12_nextTime 77 = .ok (.iload_n 1, 1) := by decide +kernel
theorem dX12_nextTime_78 : decode cX12_nextTime 78 = .ok (.ifCond .lt 18, 3) := by decide +kernel
theorem dX12_nextTime_81 : decode cX12_nextTime 81 = .ok (.aload_n 0, 1) := by decide +kernel
theorem dX12_nextTime_82 : decode cX12_nextTime 82 = .ok (.getfield 9, 3) := by decide +kernel
theorem dX12_nextTime_85 : decode cX12_nextTime 85 = .ok (.iload_n 2, 1) := by decide +kernel
theorem dX12_nextTime_86 : decode cX12_nextTime 86 = .ok (.invokestatic 127, 3) := by decide +kernel
theorem dX12_nextTime_89 : decode cX12_nextTime 89 = .ok (.iconst 4, 1) := by decide +kernel
theorem dX12_nextTime_90 : decode cX12_nextTime 90 = .ok (.iadd, 1) := by decide +kernel
theorem dX12_nextTime_91 : decode cX12_nextTime 91 = .ok (.iaload, 1) := by decide +kernel
theorem dX12_nextTime_92 : decode cX12_nextTime 92 = .ok (.iload_n 1, 1) := by decide +kernel
theorem dX12_nextTime_93 : decode cX12_nextTime 93 = .ok (.if_icmp .ge 15, 3) := by decide +kernel
theorem dX12_nextTime_96 : decode cX12_nextTime 96 = .ok (.aload_n 0, 1) := by decide +kernel
theorem dX12_nextTime_97 : decode cX12_nextTime 97 = .ok (.getfield 9, 3) := by decide +kernel
theorem dX12_nextTime_100 : decode cX12_nextTime 100 = .ok (.iload_n 2, 1) := by decide +kernel
theorem dX12_nextTime_101 : decode cX12_nextTime 101 = .ok (.invokestatic 127, 3) := by decide +kernel
theorem dX12_nextTime_104 : decode cX12_nextTime 104 = .ok (.iconst 4, 1) := by decide +kernel
theorem dX12_nextTime_105 : decode cX12_nextTime 105 = .ok (.iadd, 1) := by decide +kernel
theorem dX12_nextTime_106 : decode cX12_nextTime 106 = .ok (.iaload, 1) := by decide +kernel
theorem dX12_nextTime_107 : decode cX12_nextTime 107 = .ok (.istore_n 1, 1) := by decide +kernel
theorem dX12_nextTime_108 : decode cX12_nextTime 108 = .ok (.iinc 2 1, 3) := by decide +kernel
theorem dX12_nextTime_111 : decode cX12_nextTime 111 = .ok (.goto (-54), 3) := by decide +kernel
theorem dX12_nextTime_114 : decode cX12_nextTime 114 = .ok (.iload_n 1, 1) := by decide +kernel
theorem dX12_nextTime_115 : decode cX12_nextTime 115 = .ok (.ireturn, 1) := by decide +kernel
theorem dX12_passes_0 : decode cX12_passes 0 = .ok (.aload_n 0, 1) := by decide +kernel
theorem dX12_passes_1 : decode cX12_passes 1 = .ok (.getfield 9, 3) := by decide +kernel
theorem dX12_passes_4 : decode cX12_passes 4 = .ok (.sipush 177, 3) := by decide +kernel
theorem dX12_passes_7 : decode cX12_passes 7 = .ok (.dup2, 1) := by decide +kernel
theorem dX12_passes_8 : decode cX12_passes 8 = .ok (.iaload, 1) := by decide +kernel
theorem dX12_passes_9 : decode cX12_passes 9 = .ok (.iconst 1, 1) := by decide +kernel
theorem dX12_passes_10 : decode cX12_passes 10 = .ok (.iadd, 1) := by decide +kernel
theorem dX12_passes_11 : decode cX12_passes 11 = .ok (.iastore, 1) := by decide +kernel
theorem dX12_passes_12 : decode cX12_passes 12 = .ok (.aload_n 0, 1) := by decide +kernel
theorem dX12_passes_13 : decode cX12_passes 13 = .ok (.getfield 9, 3) := by decide +kernel
theorem dX12_passes_16 : decode cX12_passes 16 = .ok (.sipush 175, 3) := by decide +kernel
theorem dX12_passes_19 : decode cX12_passes 19 = .ok (.iload_n 1, 1) := by decide +kernel
theorem dX12_passes_20 : decode cX12_passes 20 = .ok (.iastore, 1) := by decide +kernel
theorem dX12_passes_21 : decode cX12_passes 21 = .ok (.iconst 0, 1) := by decide +kernel
theorem dX12_passes_22 : decode cX12_passes 22 = .ok (.istore_n 2, 1) := by decide +kernel
theorem dX12_passes_23 : decode cX12_passes 23 = .ok (.iload_n 2, 1) := by decide +kernel
theorem dX12_passes_24 : decode cX12_passes 24 = .ok (.aload_n 0, 1) := by decide +kernel
theorem dX12_passes_25 : decode cX12_passes 25 = .ok (.getfield 9, 3) := by decide +kernel
theorem dX12_passes_28 : decode cX12_passes 28 = .ok (.sipush 170, 3) := by decide +kernel
theorem dX12_passes_31 : decode cX12_passes 31 = .ok (.iaload, 1) := by decide +kernel
theorem dX12_passes_32 : decode cX12_passes 32 = .ok (.if_icmp .ge 35, 3) := by decide +kernel
theorem dX12_passes_35 : decode cX12_passes 35 = .ok (.aload_n 0, 1) := by decide +kernel
theorem dX12_passes_36 : decode cX12_passes 36 = .ok (.iload_n 2, 1) := by decide +kernel
theorem dX12_passes_37 : decode cX12_passes 37 = .ok (.iconst 0, 1) := by decide +kernel
theorem dX12_passes_38 : decode cX12_passes 38 = .ok (.invokevirtual 37, 3) := by decide +kernel
theorem dX12_passes_41 : decode cX12_passes 41 = .ok (.iconst 1, 1) := by decide +kernel
theorem dX12_passes_42 : decode cX12_passes 42 = .ok (.if_icmp .ne 19, 3) := by decide +kernel
theorem dX12_passes_45 : decode cX12_passes 45 = .ok (.aload_n 0, 1) := by decide +kernel
theorem dX12_passes_46 : decode cX12_passes 46 = .ok (.iload_n 2, 1) := by decide +kernel
theorem dX12_passes_47 : decode cX12_passes 47 = .ok (.bipush 11, 2) := by decide +kernel
theorem dX12_passes_49 : decode cX12_passes 49 = .ok (.invokevirtual 37, 3) := by decide +kernel
theorem dX12_passes_52 : decode cX12_passes 52 = .ok (.iload_n 1, 1) := by decide +kernel
theorem dX12_passes_53 : decode cX12_passes 53 = .ok (.if_icmp .ne 8, 3) := by decide +kernel
theorem dX12_passes_56 : decode cX12_passes 56 = .ok (.aload_n 0, 1) := by decide +kernel
theorem dX12_passes_57 : decode cX12_passes 57 = .ok (.iload_n 2, 1) := by decide +kernel
theorem dX12_passes_58 : decode cX12_passes 58 = .ok (.invokevirtual 121, 3) := by decide +kernel
theorem dX12_passes_61 : decode cX12_passes 61 = .ok (.iinc 2 1, 3) := by decide +kernel
theorem dX12_passes_64 : decode cX12_passes 64 = .ok (.goto (-41), 3) := by decide +kernel
theorem dX12_passes_67 : decode cX12_passes 67 = .ok (.iconst 0, 1) := by decide +kernel
theorem dX12_passes_68 : decode cX12_passes 68 = .ok (.istore_n 2, 1) := by decide +kernel
theorem dX12_passes_69 : decode cX12_passes 69 = .ok (.iload_n 2, 1) := by decide +kernel
theorem dX12_passes_70 : decode cX12_passes 70 = .ok (.aload_n 0, 1) := by decide +kernel
theorem dX12_passes_71 : decode cX12_passes 71 = .ok (.getfield 9, 3) := by decide +kernel
theorem dX12_passes_74 : decode cX12_passes 74 = .ok (.sipush 171, 3) := by decide +kernel
theorem dX12_passes_77 : decode cX12_passes 77 = .ok (.iaload, 1) := by decide +kernel
theorem dX12_passes_78 : decode cX12_passes 78 = .ok (.if_icmp .ge 98, 3) := by decide +kernel
theorem dX12_passes_81 : decode cX12_passes 81 = .ok (.iload_n 2, 1) := by decide +kernel
theorem dX12_passes_82 : decode cX12_passes 82 = .ok (.invokestatic 127, 3) := by decide +kernel
theorem dX12_passes_85 : decode cX12_passes 85 = .ok (.istore_n 3, 1) := by decide +kernel
theorem dX12_passes_86 : decode cX12_passes 86 = .ok (.aload_n 0, 1) := by decide +kernel
theorem dX12_passes_87 : decode cX12_passes 87 = .ok (.getfield 9, 3) := by decide +kernel
theorem dX12_passes_90 : decode cX12_passes 90 = .ok (.iload_n 3, 1) := by decide +kernel
theorem dX12_passes_91 : decode cX12_passes 91 = .ok (.iconst 3, 1) := by decide +kernel
theorem dX12_passes_92 : decode cX12_passes 92 = .ok (.iadd, 1) := by decide +kernel
theorem dX12_passes_93 : decode cX12_passes 93 = .ok (.iaload, 1) := by decide +kernel
theorem dX12_passes_94 : decode cX12_passes 94 = .ok (.iconst 2, 1) := by decide +kernel
theorem dX12_passes_95 : decode cX12_passes 95 = .ok (.if_icmp .eq 75, 3) := by decide +kernel
theorem dX12_passes_98 : decode cX12_passes 98 = .ok (.aload_n 0, 1) := by decide +kernel
theorem dX12_passes_99 : decode cX12_passes 99 = .ok (.getfield 9, 3) := by decide +kernel
theorem dX12_passes_102 : decode cX12_passes 102 = .ok (.iload_n 3, 1) := by decide +kernel
theorem dX12_passes_103 : decode cX12_passes 103 = .ok (.iconst 2, 1) := by decide +kernel
theorem dX12_passes_104 : decode cX12_passes 104 = .ok (.iadd, 1) := by decide +kernel
theorem dX12_passes_105 : decode cX12_passes 105 = .ok (.iaload, 1) := by decide +kernel
theorem dX12_passes_106 : decode cX12_passes 106 = .ok (.iconst 1, 1) := by decide +kernel
theorem dX12_passes_107 : decode cX12_passes 107 = .ok (.if_icmp .ne 63, 3) := by decide +kernel
theorem dX12_passes_110 : decode cX12_passes 110 = .ok (.aload_n 0, 1) := by decide +kernel
theorem dX12_passes_111 : decode cX12_passes 111 = .ok (.getfield 9, 3) := by decide +kernel
theorem dX12_passes_114 : decode cX12_passes 114 = .ok (.iload_n 3, 1) := by decide +kernel
theorem dX12_passes_115 : decode cX12_passes 115 = .ok (.iconst 4, 1) := by decide +kernel
theorem dX12_passes_116 : decode cX12_passes 116 = .ok (.iadd, 1) := by decide +kernel
theorem dX12_passes_117 : decode cX12_passes 117 = .ok (.iaload, 1) := by decide +kernel
theorem dX12_passes_118 : decode cX12_passes 118 = .ok (.iload_n 1, 1) := by decide +kernel
theorem dX12_passes_119 : decode cX12_passes 119 = .ok (.if_icmp .eq 6, 3) := by decide +kernel
theorem dX12_passes_122 : decode cX12_passes 122 = .ok (.goto 48, 3) := by decide +kernel
theorem dX12_passes_125 : decode cX12_passes 125 = .ok (.aload_n 0, 1) := by decide +kernel
theorem dX12_passes_126 : decode cX12_passes 126 = .ok (.getfield 9, 3) := by decide +kernel
theorem dX12_passes_129 : decode cX12_passes 129 = .ok (.sipush 181, 3) := by decide +kernel
theorem dX12_passes_132 : decode cX12_passes 132 = .ok (.dup2, 1) := by decide +kernel
theorem dX12_passes_133 : decode cX12_passes 133 = .ok (.iaload, 1) := by decide +kernel
theorem dX12_passes_134 : decode cX12_passes 134 = .ok (.iconst 1, 1) := by decide +kernel
theorem dX12_passes_135 : decode cX12_passes 135 = .ok (.iadd, 1) := by decide +kernel
theorem dX12_passes_136 : decode cX12_passes 136 = .ok (.iastore, 1) := by decide +kernel
theorem dX12_passes_137 : decode cX12_passes 137 = .ok (.aload_n 0, 1) := by decide +kernel
theorem dX12_passes_138 : decode cX12_passes 138 = .ok (.getfield 9, 3) := by decide +kernel
theorem dX12_passes_141 : decode cX12_passes 141 = .ok (.iload_n 3, 1) := by decide +kernel
theorem dX12_passes_142 : decode cX12_passes 142 = .ok (.iconst 3, 1) := by decide +kernel
theorem dX12_passes_143 : decode cX12_passes 143 = .ok (.iadd, 1) := by decide +kernel
theorem dX12_passes_144 : decode cX12_passes 144 = .ok (.iaload, 1) := by decide +kernel
theorem dX12_passes_145 : decode cX12_passes 145 = .ok (.ifCond .ne 25, 3) := by decide +kernel
theorem dX12_passes_148 : decode cX12_passes 148 = .ok (.aload_n 0, 1) := by decide +kernel
theorem dX12_passes_149 : decode cX12_passes 149 = .ok (.aload_n 0, 1) := by decide +kernel
theorem dX12_passes_150 : decode cX12_passes 150 = .ok (.getfield 9, 3) := by decide +kernel
theorem dX12_passes_153 : decode cX12_passes 153 = .ok (.iload_n 3, 1) := by decide +kernel
theorem dX12_passes_154 : decode cX12_passes 154 = .ok (.iconst 0, 1) := by decide +kernel
theorem dX12_passes_155 : decode cX12_passes 155 = .ok (.iadd, 1) := by decide +kernel
theorem dX12_passes_156 : decode cX12_passes 156 = .ok (.iaload, 1) := by decide +kernel
theorem dX12_passes_157 : decode cX12_passes 157 = .ok (.iconst 2, 1) := by decide +kernel
theorem dX12_passes_158 : decode cX12_passes 158 = .ok (.aload_n 0, 1) := by decide +kernel
theorem dX12_passes_159 : decode cX12_passes 159 = .ok (.getfield 9, 3) := by decide +kernel
theorem dX12_passes_162 : decode cX12_passes 162 = .ok (.iload_n 3, 1) := by decide +kernel
theorem dX12_passes_163 : decode cX12_passes 163 = .ok (.iconst 1, 1) := by decide +kernel
theorem dX12_passes_164 : decode cX12_passes 164 = .ok (.iadd, 1) := by decide +kernel
theorem dX12_passes_165 : decode cX12_passes 165 = .ok (.iaload, 1) := by decide +kernel
theorem dX12_passes_166 : decode cX12_passes 166 = .ok (.iconst (-1), 1) := by decide +kernel
theorem dX12_passes_167 : decode cX12_passes 167 = .ok (.invokevirtual 130, 3) := by decide +kernel
theorem dX12_passes_170 : decode cX12_passes 170 = .ok (.iinc 2 1, 3) := by decide +kernel
theorem dX12_passes_173 : decode cX12_passes 173 = .ok (.goto (-104), 3) := by decide +kernel
theorem dX12_passes_176 : decode cX12_passes 176 = .ok (.return_, 1) := by decide +kernel
theorem dX12_turns__0 : decode cX12_turns_ 0 = .ok (.aload_n 0, 1) := by decide +kernel
theorem dX12_turns__1 : decode cX12_turns_ 1 = .ok (.getfield 9, 3) := by decide +kernel
theorem dX12_turns__4 : decode cX12_turns_ 4 = .ok (.sipush 173, 3) := by decide +kernel
theorem dX12_turns__7 : decode cX12_turns_ 7 = .ok (.iaload, 1) := by decide +kernel
theorem dX12_turns__8 : decode cX12_turns_ 8 = .ok (.ifCond .le 74, 3) := by decide +kernel
theorem dX12_turns__11 : decode cX12_turns_ 11 = .ok (.aload_n 0, 1) := by decide +kernel
theorem dX12_turns__12 : decode cX12_turns_ 12 = .ok (.getfield 9, 3) := by decide +kernel
theorem dX12_turns__15 : decode cX12_turns_ 15 = .ok (.sipush 183, 3) := by decide +kernel
theorem dX12_turns__18 : decode cX12_turns_ 18 = .ok (.iaload, 1) := by decide +kernel
theorem dX12_turns__19 : decode cX12_turns_ 19 = .ok (.istore_n 1, 1) := by decide +kernel
theorem dX12_turns__20 : decode cX12_turns_ 20 = .ok (.aload_n 0, 1) := by decide +kernel
theorem dX12_turns__21 : decode cX12_turns_ 21 = .ok (.getfield 9, 3) := by decide +kernel
theorem dX12_turns__24 : decode cX12_turns_ 24 = .ok (.sipush 173, 3) := by decide +kernel
theorem dX12_turns__27 : decode cX12_turns_ 27 = .ok (.dup2, 1) := by decide +kernel
theorem dX12_turns__28 : decode cX12_turns_ 28 = .ok (.iaload, 1) := by decide +kernel
theorem dX12_turns__29 : decode cX12_turns_ 29 = .ok (.iconst 1, 1) := by decide +kernel
theorem dX12_turns__30 : decode cX12_turns_ 30 = .ok (.isub, 1) := by decide +kernel
theorem dX12_turns__31 : decode cX12_turns_ 31 = .ok (.iastore, 1) := by decide +kernel
theorem dX12_turns__32 : decode cX12_turns_ 32 = .ok (.iconst 0, 1) := by decide +kernel
theorem dX12_turns__33 : decode cX12_turns_ 33 = .ok (.istore_n 2, 1) := by decide +kernel
theorem dX12_turns__34 : decode cX12_turns_ 34 = .ok (.iload_n 2, 1) := by decide +kernel
theorem dX12_turns__35 : decode cX12_turns_ 35 = .ok (.aload_n 0, 1) := by decide +kernel
theorem dX12_turns__36 : decode cX12_turns_ 36 = .ok (.getfield 9, 3) := by decide +kernel
theorem dX12_turns__39 : decode cX12_turns_ 39 = .ok (.sipush 173, 3) := by decide +kernel
theorem dX12_turns__42 : decode cX12_turns_ 42 = .ok (.iaload, 1) := by decide +kernel
theorem dX12_turns__43 : decode cX12_turns_ 43 = .ok (.if_icmp .ge 31, 3) := by decide +kernel
theorem dX12_turns__46 : decode cX12_turns_ 46 = .ok (.aload_n 0, 1) := by decide +kernel
theorem dX12_turns__47 : decode cX12_turns_ 47 = .ok (.getfield 9, 3) := by decide +kernel
theorem dX12_turns__50 : decode cX12_turns_ 50 = .ok (.sipush 183, 3) := by decide +kernel
theorem dX12_turns__53 : decode cX12_turns_ 53 = .ok (.iload_n 2, 1) := by decide +kernel
theorem dX12_turns__54 : decode cX12_turns_ 54 = .ok (.iadd, 1) := by decide +kernel
theorem dX12_turns__55 : decode cX12_turns_ 55 = .ok (.aload_n 0, 1) := by decide +kernel
theorem dX12_turns__56 : decode cX12_turns_ 56 = .ok (.getfield 9, 3) := by decide +kernel
theorem dX12_turns__59 : decode cX12_turns_ 59 = .ok (.sipush 183, 3) := by decide +kernel
theorem dX12_turns__62 : decode cX12_turns_ 62 = .ok (.iload_n 2, 1) := by decide +kernel
theorem dX12_turns__63 : decode cX12_turns_ 63 = .ok (.iadd, 1) := by decide +kernel
theorem dX12_turns__64 : decode cX12_turns_ 64 = .ok (.iconst 1, 1) := by decide +kernel
theorem dX12_turns__65 : decode cX12_turns_ 65 = .ok (.iadd, 1) := by decide +kernel
theorem dX12_turns__66 : decode cX12_turns_ 66 = .ok (.iaload, 1) := by decide +kernel
theorem dX12_turns__67 : decode cX12_turns_ 67 = .ok (.iastore, 1) := by decide +kernel
theorem dX12_turns__68 : decode cX12_turns_ 68 = .ok (.iinc 2 1, 3) := by decide +kernel
theorem dX12_turns__71 : decode cX12_turns_ 71 = .ok (.goto (-37), 3) := by decide +kernel
theorem dX12_turns__74 : decode cX12_turns_ 74 = .ok (.aload_n 0, 1) := by decide +kernel
theorem dX12_turns__75 : decode cX12_turns_ 75 = .ok (.iload_n 1, 1) := by decide +kernel
theorem dX12_turns__76 : decode cX12_turns_ 76 = .ok (.invokevirtual 221, 3) := by decide +kernel
theorem dX12_turns__79 : decode cX12_turns_ 79 = .ok (.goto 23, 3) := by decide +kernel
theorem dX12_turns__82 : decode cX12_turns_ 82 = .ok (.aload_n 0, 1) := by decide +kernel
theorem dX12_turns__83 : decode cX12_turns_ 83 = .ok (.invokevirtual 224, 3) := by decide +kernel
theorem dX12_turns__86 : decode cX12_turns_ 86 = .ok (.ifCond .lt 14, 3) := by decide +kernel
theorem dX12_turns__89 : decode cX12_turns_ 89 = .ok (.aload_n 0, 1) := by decide +kernel
theorem dX12_turns__90 : decode cX12_turns_ 90 = .ok (.aload_n 0, 1) := by decide +kernel
theorem dX12_turns__91 : decode cX12_turns_ 91 = .ok (.invokevirtual 224, 3) := by decide +kernel
theorem dX12_turns__94 : decode cX12_turns_ 94 = .ok (.invokevirtual 227, 3) := by decide +kernel
theorem dX12_turns__97 : decode cX12_turns_ 97 = .ok (.goto 5, 3) := by decide +kernel
theorem dX12_turns__100 : decode cX12_turns_ 100 = .ok (.iconst 0, 1) := by decide +kernel
theorem dX12_turns__101 : decode cX12_turns_ 101 = .ok (.ireturn, 1) := by decide +kernel
theorem dX12_turns__102 : decode cX12_turns_ 102 = .ok (.aload_n 0, 1) := by decide +kernel
theorem dX12_turns__103 : decode cX12_turns_ 103 = .ok (.getfield 9, 3) := by decide +kernel
theorem dX12_turns__106 : decode cX12_turns_ 106 = .ok (.sipush 176, 3) := by decide +kernel
theorem dX12_turns__109 : decode cX12_turns_ 109 = .ok (.dup2, 1) := by decide +kernel
theorem dX12_turns__110 : decode cX12_turns_ 110 = .ok (.iaload, 1) := by decide +kernel
theorem dX12_turns__111 : decode cX12_turns_ 111 = .ok (.iconst 1, 1) := by decide +kernel
theorem dX12_turns__112 : decode cX12_turns_ 112 = .ok (.iadd, 1) := by decide +kernel
theorem dX12_turns__113 : decode cX12_turns_ 113 = .ok (.iastore, 1) := by decide +kernel
theorem dX12_turns__114 : decode cX12_turns_ 114 = .ok (.iconst 1, 1) := by decide +kernel
theorem dX12_turns__115 : decode cX12_turns_ 115 = .ok (.ireturn, 1) := by decide +kernel
theorem dX12_run_0 : decode cX12_run 0 = .ok (.aload_n 0, 1) := by decide +kernel
theorem dX12_run_1 : decode cX12_run 1 = .ok (.iconst 0, 1) := by decide +kernel
theorem dX12_run_2 : decode cX12_run 2 = .ok (.putfield 26, 3) := by decide +kernel
theorem dX12_run_5 : decode cX12_run 5 = .ok (.iload_n 1, 1) := by decide +kernel
theorem dX12_run_6 : decode cX12_run 6 = .ok (.iconst 1, 1) := by decide +kernel
theorem dX12_run_7 : decode cX12_run 7 = .ok (.bipush 100, 2) := by decide +kernel
theorem dX12_run_9 : decode cX12_run 9 = .ok (.invokestatic 33, 3) := by decide +kernel
theorem dX12_run_12 : decode cX12_run 12 = .ok (.ifCond .ne 9, 3) := by decide +kernel
theorem dX12_run_15 : decode cX12_run 15 = .ok (.aload_n 0, 1) := by decide +kernel
theorem dX12_run_16 : decode cX12_run 16 = .ok (.iconst 1, 1) := by decide +kernel
theorem dX12_run_17 : decode cX12_run 17 = .ok (.invokevirtual 45, 3) := by decide +kernel
theorem dX12_run_20 : decode cX12_run 20 = .ok (.ireturn, 1) := by decide +kernel
theorem dX12_run_21 : decode cX12_run 21 = .ok (.iconst 0, 1) := by decide +kernel
theorem dX12_run_22 : decode cX12_run 22 = .ok (.istore_n 2, 1) := by decide +kernel
theorem dX12_run_23 : decode cX12_run 23 = .ok (.iload_n 2, 1) := by decide +kernel
theorem dX12_run_24 : decode cX12_run 24 = .ok (.iload_n 1, 1) := by decide +kernel
theorem dX12_run_25 : decode cX12_run 25 = .ok (.if_icmp .ge 16, 3) := by decide +kernel
theorem dX12_run_28 : decode cX12_run 28 = .ok (.aload_n 0, 1) := by decide +kernel
theorem dX12_run_29 : decode cX12_run 29 = .ok (.invokevirtual 230, 3) := by decide +kernel
theorem dX12_run_32 : decode cX12_run 32 = .ok (.ifCond .eq 9, 3) := by decide +kernel
theorem dX12_run_35 : decode cX12_run 35 = .ok (.iinc 2 1, 3) := by decide +kernel
theorem dX12_run_38 : decode cX12_run 38 = .ok (.goto (-15), 3) := by decide +kernel
theorem dX12_run_41 : decode cX12_run 41 = .ok (.iload_n 2, 1) := by decide +kernel
theorem dX12_run_42 : decode cX12_run 42 = .ok (.ireturn, 1) := by decide +kernel
theorem dX12_next_0 : decode cX12_next 0 = .ok (.aload_n 0, 1) := by decide +kernel
theorem dX12_next_1 : decode cX12_next 1 = .ok (.iconst 0, 1) := by decide +kernel
theorem dX12_next_2 : decode cX12_next 2 = .ok (.putfield 26, 3) := by decide +kernel
theorem dX12_next_5 : decode cX12_next 5 = .ok (.aload_n 0, 1) := by decide +kernel
theorem dX12_next_6 : decode cX12_next 6 = .ok (.getfield 9, 3) := by decide +kernel
theorem dX12_next_9 : decode cX12_next 9 = .ok (.sipush 173, 3) := by decide +kernel
theorem dX12_next_12 : decode cX12_next 12 = .ok (.iaload, 1) := by decide +kernel
theorem dX12_next_13 : decode cX12_next 13 = .ok (.ifCond .le 12, 3) := by decide +kernel
theorem dX12_next_16 : decode cX12_next 16 = .ok (.aload_n 0, 1) := by decide +kernel
theorem dX12_next_17 : decode cX12_next 17 = .ok (.getfield 9, 3) := by decide +kernel
theorem dX12_next_20 : decode cX12_next 20 = .ok (.sipush 183, 3) := by decide +kernel
theorem dX12_next_23 : decode cX12_next 23 = .ok (.iaload, 1) := by decide +kernel
theorem dX12_next_24 : decode cX12_next 24 = .ok (.ireturn, 1) := by decide +kernel
theorem dX12_next_25 : decode cX12_next 25 = .ok (.aload_n 0, 1) := by decide +kernel
theorem dX12_next_26 : decode cX12_next 26 = .ok (.invokevirtual 224, 3) := by decide +kernel
theorem dX12_next_29 : decode cX12_next 29 = .ok (.ifCond .lt 8, 3) := by decide +kernel
theorem dX12_next_32 : decode cX12_next 32 = .ok (.bipush 100, 2) := by decide +kernel
theorem dX12_next_34 : decode cX12_next 34 = .ok (.goto 19, 3) := by decide +kernel
theorem dX12_next_37 : decode cX12_next 37 = .ok (.aload_n 0, 1) := by decide +kernel
theorem dX12_next_38 : decode cX12_next 38 = .ok (.invokevirtual 95, 3) := by decide +kernel
theorem dX12_next_41 : decode cX12_next 41 = .ok (.ifCond .ne 9, 3) := by decide +kernel
theorem dX12_next_44 : decode cX12_next 44 = .ok (.sipush 200, 3) := by decide +kernel
theorem dX12_next_47 : decode cX12_next 47 = .ok (.goto 6, 3) := by decide +kernel
theorem dX12_next_50 : decode cX12_next 50 = .ok (.sipush 300, 3) := by decide +kernel
theorem dX12_next_53 : decode cX12_next 53 = .ok (.ireturn, 1) := by decide +kernel
theorem dX12_task__0 : decode cX12_task_ 0 = .ok (.aload_n 0, 1) := by decide +kernel
theorem dX12_task__1 : decode cX12_task_ 1 = .ok (.iconst 0, 1) := by decide +kernel
theorem dX12_task__2 : decode cX12_task_ 2 = .ok (.putfield 26, 3) := by decide +kernel
theorem dX12_task__5 : decode cX12_task_ 5 = .ok (.aload_n 0, 1) := by decide +kernel
theorem dX12_task__6 : decode cX12_task_ 6 = .ok (.iload_n 1, 1) := by decide +kernel
theorem dX12_task__7 : decode cX12_task_ 7 = .ok (.invokevirtual 141, 3) := by decide +kernel
theorem dX12_task__10 : decode cX12_task_ 10 = .ok (.ifCond .ne 9, 3) := by decide +kernel
theorem dX12_task__13 : decode cX12_task_ 13 = .ok (.aload_n 0, 1) := by decide +kernel
theorem dX12_task__14 : decode cX12_task_ 14 = .ok (.iconst 1, 1) := by decide +kernel
theorem dX12_task__15 : decode cX12_task_ 15 = .ok (.invokevirtual 45, 3) := by decide +kernel
theorem dX12_task__18 : decode cX12_task_ 18 = .ok (.ireturn, 1) := by decide +kernel
theorem dX12_task__19 : decode cX12_task_ 19 = .ok (.iload_n 2, 1) := by decide +kernel
theorem dX12_task__20 : decode cX12_task_ 20 = .ok (.iconst 0, 1) := by decide +kernel
theorem dX12_task__21 : decode cX12_task_ 21 = .ok (.bipush 9, 2) := by decide +kernel
theorem dX12_task__23 : decode cX12_task_ 23 = .ok (.invokestatic 33, 3) := by decide +kernel
theorem dX12_task__26 : decode cX12_task_ 26 = .ok (.ifCond .ne 9, 3) := by decide +kernel
theorem dX12_task__29 : decode cX12_task_ 29 = .ok (.aload_n 0, 1) := by decide +kernel
theorem dX12_task__30 : decode cX12_task_ 30 = .ok (.iconst 2, 1) := by decide +kernel
theorem dX12_task__31 : decode cX12_task_ 31 = .ok (.invokevirtual 45, 3) := by decide +kernel
theorem dX12_task__34 : decode cX12_task_ 34 = .ok (.ireturn, 1) := by decide +kernel
theorem dX12_task__35 : decode cX12_task_ 35 = .ok (.iload_n 2, 1) := by decide +kernel
theorem dX12_task__36 : decode cX12_task_ 36 = .ok (.bipush 8, 2) := by decide +kernel
theorem dX12_task__38 : decode cX12_task_ 38 = .ok (.if_icmp .ne 11, 3) := by decide +kernel
theorem dX12_task__41 : decode cX12_task_ 41 = .ok (.aload_n 0, 1) := by decide +kernel
theorem dX12_task__42 : decode cX12_task_ 42 = .ok (.iload_n 1, 1) := by decide +kernel
theorem dX12_task__43 : decode cX12_task_ 43 = .ok (.bipush 9, 2) := by decide +kernel
theorem dX12_task__45 : decode cX12_task_ 45 = .ok (.invokevirtual 37, 3) := by decide +kernel
theorem dX12_task__48 : decode cX12_task_ 48 = .ok (.ireturn, 1) := by decide +kernel
theorem dX12_task__49 : decode cX12_task_ 49 = .ok (.iload_n 2, 1) := by decide +kernel
theorem dX12_task__50 : decode cX12_task_ 50 = .ok (.bipush 9, 2) := by decide +kernel
theorem dX12_task__52 : decode cX12_task_ 52 = .ok (.if_icmp .ne 25, 3) := by decide +kernel
theorem dX12_task__55 : decode cX12_task_ 55 = .ok (.aload_n 0, 1) := by decide +kernel
theorem dX12_task__56 : decode cX12_task_ 56 = .ok (.iload_n 1, 1) := by decide +kernel
theorem dX12_task__57 : decode cX12_task_ 57 = .ok (.iconst 0, 1) := by decide +kernel
theorem dX12_task__58 : decode cX12_task_ 58 = .ok (.invokevirtual 37, 3) := by decide +kernel
theorem dX12_task__61 : decode cX12_task_ 61 = .ok (.iconst 1, 1) := by decide +kernel
theorem dX12_task__62 : decode cX12_task_ 62 = .ok (.if_icmp .ne 13, 3) := by decide +kernel
theorem dX12_task__65 : decode cX12_task_ 65 = .ok (.aload_n 0, 1) := by decide +kernel
theorem dX12_task__66 : decode cX12_task_ 66 = .ok (.iload_n 1, 1) := by decide +kernel
theorem dX12_task__67 : decode cX12_task_ 67 = .ok (.bipush 11, 2) := by decide +kernel
theorem dX12_task__69 : decode cX12_task_ 69 = .ok (.invokevirtual 37, 3) := by decide +kernel
theorem dX12_task__72 : decode cX12_task_ 72 = .ok (.goto 4, 3) := by decide +kernel
theorem dX12_task__75 : decode cX12_task_ 75 = .ok (.iconst (-1), 1) := by decide +kernel
theorem dX12_task__76 : decode cX12_task_ 76 = .ok (.ireturn, 1) := by decide +kernel
theorem dX12_task__77 : decode cX12_task_ 77 = .ok (.aload_n 0, 1) := by decide +kernel
theorem dX12_task__78 : decode cX12_task_ 78 = .ok (.iload_n 1, 1) := by decide +kernel
theorem dX12_task__79 : decode cX12_task_ 79 = .ok (.iload_n 2, 1) := by decide +kernel
theorem dX12_task__80 : decode cX12_task_ 80 = .ok (.invokevirtual 37, 3) := by decide +kernel
theorem dX12_task__83 : decode cX12_task_ 83 = .ok (.ireturn, 1) := by decide +kernel
theorem dX12_scope__0 : decode cX12_scope_ 0 = .ok (.aload_n 0, 1) := by decide +kernel
theorem dX12_scope__1 : decode cX12_scope_ 1 = .ok (.iconst 0, 1) := by decide +kernel
theorem dX12_scope__2 : decode cX12_scope_ 2 = .ok (.putfield 26, 3) := by decide +kernel
theorem dX12_scope__5 : decode cX12_scope_ 5 = .ok (.iload_n 1, 1) := by decide +kernel
theorem dX12_scope__6 : decode cX12_scope_ 6 = .ok (.iconst 0, 1) := by decide +kernel
theorem dX12_scope__7 : decode cX12_scope_ 7 = .ok (.aload_n 0, 1) := by decide +kernel
theorem dX12_scope__8 : decode cX12_scope_ 8 = .ok (.getfield 9, 3) := by decide +kernel
theorem dX12_scope__11 : decode cX12_scope_ 11 = .ok (.sipush 171, 3) := by decide +kernel
theorem dX12_scope__14 : decode cX12_scope_ 14 = .ok (.iaload, 1) := by decide +kernel
theorem dX12_scope__15 : decode cX12_scope_ 15 = .ok (.iconst 1, 1) := by decide +kernel
theorem dX12_scope__16 : decode cX12_scope_ 16 = .ok (.isub, 1) := by decide +kernel
theorem dX12_scope__17 : decode cX12_scope_ 17 = .ok (.invokestatic 33, 3) := by decide +kernel
theorem dX12_scope__20 : decode cX12_scope_ 20 = .ok (.ifCond .ne 9, 3) := by decide +kernel
theorem dX12_scope__23 : decode cX12_scope_ 23 = .ok (.aload_n 0, 1) := by decide +kernel
theorem dX12_scope__24 : decode cX12_scope_ 24 = .ok (.iconst 1, 1) := by decide +kernel
theorem dX12_scope__25 : decode cX12_scope_ 25 = .ok (.invokevirtual 45, 3) := by decide +kernel
theorem dX12_scope__28 : decode cX12_scope_ 28 = .ok (.ireturn, 1) := by decide +kernel
theorem dX12_scope__29 : decode cX12_scope_ 29 = .ok (.iload_n 1, 1) := by decide +kernel
theorem dX12_scope__30 : decode cX12_scope_ 30 = .ok (.invokestatic 127, 3) := by decide +kernel
theorem dX12_scope__33 : decode cX12_scope_ 33 = .ok (.istore_n 3, 1) := by decide +kernel
theorem dX12_scope__34 : decode cX12_scope_ 34 = .ok (.iload_n 2, 1) := by decide +kernel
theorem dX12_scope__35 : decode cX12_scope_ 35 = .ok (.tableswitch 61 4 7 #[29, 36, 43, 52], 29) := by decide +kernel
theorem dX12_scope__64 : decode cX12_scope_ 64 = .ok (.aload_n 0, 1) := by decide +kernel
theorem dX12_scope__65 : decode cX12_scope_ 65 = .ok (.iload_n 1, 1) := by decide +kernel
theorem dX12_scope__66 : decode cX12_scope_ 66 = .ok (.iconst 1, 1) := by decide +kernel
theorem dX12_scope__67 : decode cX12_scope_ 67 = .ok (.invokevirtual 147, 3) := by decide +kernel
theorem dX12_scope__70 : decode cX12_scope_ 70 = .ok (.ireturn, 1) := by decide +kernel
theorem dX12_scope__71 : decode cX12_scope_ 71 = .ok (.aload_n 0, 1) := by decide +kernel
theorem dX12_scope__72 : decode cX12_scope_ 72 = .ok (.iload_n 1, 1) := by decide +kernel
theorem dX12_scope__73 : decode cX12_scope_ 73 = .ok (.iconst 0, 1) := by decide +kernel
theorem dX12_scope__74 : decode cX12_scope_ 74 = .ok (.invokevirtual 147, 3) := by decide +kernel
theorem dX12_scope__77 : decode cX12_scope_ 77 = .ok (.ireturn, 1) := by decide +kernel
theorem dX12_scope__78 : decode cX12_scope_ 78 = .ok (.aload_n 0, 1) := by decide +kernel
theorem dX12_scope__79 : decode cX12_scope_ 79 = .ok (.getfield 9, 3) := by decide +kernel
theorem dX12_scope__82 : decode cX12_scope_ 82 = .ok (.iload_n 3, 1) := by decide +kernel
theorem dX12_scope__83 : decode cX12_scope_ 83 = .ok (.iconst 4, 1) := by decide +kernel
theorem dX12_scope__84 : decode cX12_scope_ 84 = .ok (.iadd, 1) := by decide +kernel
theorem dX12_scope__85 : decode cX12_scope_ 85 = .ok (.iaload, 1) := by decide +kernel
theorem dX12_scope__86 : decode cX12_scope_ 86 = .ok (.ireturn, 1) := by decide +kernel
theorem dX12_scope__87 : decode cX12_scope_ 87 = .ok (.aload_n 0, 1) := by decide +kernel
theorem dX12_scope__88 : decode cX12_scope_ 88 = .ok (.getfield 9, 3) := by decide +kernel
theorem dX12_scope__91 : decode cX12_scope_ 91 = .ok (.iload_n 3, 1) := by decide +kernel
theorem dX12_scope__92 : decode cX12_scope_ 92 = .ok (.iconst 5, 1) := by decide +kernel
theorem dX12_scope__93 : decode cX12_scope_ 93 = .ok (.iadd, 1) := by decide +kernel
theorem dX12_scope__94 : decode cX12_scope_ 94 = .ok (.iaload, 1) := by decide +kernel
theorem dX12_scope__95 : decode cX12_scope_ 95 = .ok (.ireturn, 1) := by decide +kernel
theorem dX12_scope__96 : decode cX12_scope_ 96 = .ok (.iload_n 2, 1) := by decide +kernel
theorem dX12_scope__97 : decode cX12_scope_ 97 = .ok (.iconst 0, 1) := by decide +kernel
theorem dX12_scope__98 : decode cX12_scope_ 98 = .ok (.iconst 3, 1) := by decide +kernel
theorem dX12_scope__99 : decode cX12_scope_ 99 = .ok (.invokestatic 33, 3) := by decide +kernel
theorem dX12_scope__102 : decode cX12_scope_ 102 = .ok (.ifCond .eq 14, 3) := by decide +kernel
theorem dX12_scope__105 : decode cX12_scope_ 105 = .ok (.aload_n 0, 1) := by decide +kernel
theorem dX12_scope__106 : decode cX12_scope_ 106 = .ok (.getfield 9, 3) := by decide +kernel
theorem dX12_scope__109 : decode cX12_scope_ 109 = .ok (.iload_n 3, 1) := by decide +kernel
theorem dX12_scope__110 : decode cX12_scope_ 110 = .ok (.iload_n 2, 1) := by decide +kernel
theorem dX12_scope__111 : decode cX12_scope_ 111 = .ok (.iadd, 1) := by decide +kernel
theorem dX12_scope__112 : decode cX12_scope_ 112 = .ok (.iaload, 1) := by decide +kernel
theorem dX12_scope__113 : decode cX12_scope_ 113 = .ok (.goto 8, 3) := by decide +kernel
theorem dX12_scope__116 : decode cX12_scope_ 116 = .ok (.aload_n 0, 1) := by decide +kernel
theorem dX12_scope__117 : decode cX12_scope_ 117 = .ok (.iconst 2, 1) := by decide +kernel
theorem dX12_scope__118 : decode cX12_scope_ 118 = .ok (.invokevirtual 45, 3) := by decide +kernel
theorem dX12_scope__121 : decode cX12_scope_ 121 = .ok (.ireturn, 1) := by decide +kernel
theorem dX12_failure_0 : decode cX12_failure 0 = .ok (.aload_n 0, 1) := by decide +kernel
theorem dX12_failure_1 : decode cX12_failure 1 = .ok (.iconst 0, 1) := by decide +kernel
theorem dX12_failure_2 : decode cX12_failure 2 = .ok (.putfield 26, 3) := by decide +kernel
theorem dX12_failure_5 : decode cX12_failure 5 = .ok (.aload_n 0, 1) := by decide +kernel
theorem dX12_failure_6 : decode cX12_failure 6 = .ok (.iload_n 1, 1) := by decide +kernel
theorem dX12_failure_7 : decode cX12_failure 7 = .ok (.invokevirtual 141, 3) := by decide +kernel
theorem dX12_failure_10 : decode cX12_failure 10 = .ok (.ifCond .ne 9, 3) := by decide +kernel
theorem dX12_failure_13 : decode cX12_failure 13 = .ok (.aload_n 0, 1) := by decide +kernel
theorem dX12_failure_14 : decode cX12_failure 14 = .ok (.iconst 1, 1) := by decide +kernel
theorem dX12_failure_15 : decode cX12_failure 15 = .ok (.invokevirtual 45, 3) := by decide +kernel
theorem dX12_failure_18 : decode cX12_failure 18 = .ok (.ireturn, 1) := by decide +kernel
theorem dX12_failure_19 : decode cX12_failure 19 = .ok (.iload_n 3, 1) := by decide +kernel
theorem dX12_failure_20 : decode cX12_failure 20 = .ok (.iconst 0, 1) := by decide +kernel
theorem dX12_failure_21 : decode cX12_failure 21 = .ok (.iconst 1, 1) := by decide +kernel
theorem dX12_failure_22 : decode cX12_failure 22 = .ok (.invokestatic 33, 3) := by decide +kernel
theorem dX12_failure_25 : decode cX12_failure 25 = .ok (.ifCond .ne 9, 3) := by decide +kernel
theorem dX12_failure_28 : decode cX12_failure 28 = .ok (.aload_n 0, 1) := by decide +kernel
theorem dX12_failure_29 : decode cX12_failure 29 = .ok (.iconst 2, 1) := by decide +kernel
theorem dX12_failure_30 : decode cX12_failure 30 = .ok (.invokevirtual 45, 3) := by decide +kernel
theorem dX12_failure_33 : decode cX12_failure 33 = .ok (.ireturn, 1) := by decide +kernel
theorem dX12_failure_34 : decode cX12_failure 34 = .ok (.aload_n 0, 1) := by decide +kernel
theorem dX12_failure_35 : decode cX12_failure 35 = .ok (.iload_n 1, 1) := by decide +kernel
theorem dX12_failure_36 : decode cX12_failure 36 = .ok (.bipush 6, 2) := by decide +kernel
theorem dX12_failure_38 : decode cX12_failure 38 = .ok (.invokevirtual 37, 3) := by decide +kernel
theorem dX12_failure_41 : decode cX12_failure 41 = .ok (.iconst 3, 1) := by decide +kernel
theorem dX12_failure_42 : decode cX12_failure 42 = .ok (.if_icmp .ne 7, 3) := by decide +kernel
theorem dX12_failure_45 : decode cX12_failure 45 = .ok (.iload_n 2, 1) := by decide +kernel
theorem dX12_failure_46 : decode cX12_failure 46 = .ok (.ifCond .ge 9, 3) := by decide +kernel
theorem dX12_failure_49 : decode cX12_failure 49 = .ok (.aload_n 0, 1) := by decide +kernel
theorem dX12_failure_50 : decode cX12_failure 50 = .ok (.iconst 3, 1) := by decide +kernel
theorem dX12_failure_51 : decode cX12_failure 51 = .ok (.invokevirtual 45, 3) := by decide +kernel
theorem dX12_failure_54 : decode cX12_failure 54 = .ok (.ireturn, 1) := by decide +kernel
theorem dX12_failure_55 : decode cX12_failure 55 = .ok (.aload_n 0, 1) := by decide +kernel
theorem dX12_failure_56 : decode cX12_failure 56 = .ok (.iload_n 1, 1) := by decide +kernel
theorem dX12_failure_57 : decode cX12_failure 57 = .ok (.bipush 8, 2) := by decide +kernel
theorem dX12_failure_59 : decode cX12_failure 59 = .ok (.invokevirtual 37, 3) := by decide +kernel
theorem dX12_failure_62 : decode cX12_failure 62 = .ok (.istore 4, 2) := by decide +kernel
theorem dX12_failure_64 : decode cX12_failure 64 = .ok (.iconst 0, 1) := by decide +kernel
theorem dX12_failure_65 : decode cX12_failure 65 = .ok (.istore 5, 2) := by decide +kernel
theorem dX12_failure_67 : decode cX12_failure 67 = .ok (.iload 5, 2) := by decide +kernel
theorem dX12_failure_69 : decode cX12_failure 69 = .ok (.iload_n 2, 1) := by decide +kernel
theorem dX12_failure_70 : decode cX12_failure 70 = .ok (.if_icmp .ge 32, 3) := by decide +kernel
theorem dX12_failure_73 : decode cX12_failure 73 = .ok (.iload 4, 2) := by decide +kernel
theorem dX12_failure_75 : decode cX12_failure 75 = .ok (.iconst (-1), 1) := by decide +kernel
theorem dX12_failure_76 : decode cX12_failure 76 = .ok (.if_icmp .eq 26, 3) := by decide +kernel
theorem dX12_failure_79 : decode cX12_failure 79 = .ok (.aload_n 0, 1) := by decide +kernel
theorem dX12_failure_80 : decode cX12_failure 80 = .ok (.getfield 9, 3) := by decide +kernel
theorem dX12_failure_83 : decode cX12_failure 83 = .ok (.sipush 3231, 3) := by decide +kernel
theorem dX12_failure_86 : decode cX12_failure 86 = .ok (.iconst 3, 1) := by decide +kernel
theorem dX12_failure_87 : decode cX12_failure 87 = .ok (.iload 4, 2) := by decide +kernel
theorem dX12_failure_89 : decode cX12_failure 89 = .ok (.imul, 1) := by decide +kernel
theorem dX12_failure_90 : decode cX12_failure 90 = .ok (.iadd, 1) := by decide +kernel
theorem dX12_failure_91 : decode cX12_failure 91 = .ok (.iconst 2, 1) := by decide +kernel
theorem dX12_failure_92 : decode cX12_failure 92 = .ok (.iadd, 1) := by decide +kernel
theorem dX12_failure_93 : decode cX12_failure 93 = .ok (.iaload, 1) := by decide +kernel
theorem dX12_failure_94 : decode cX12_failure 94 = .ok (.istore 4, 2) := by decide +kernel
theorem dX12_failure_96 : decode cX12_failure 96 = .ok (.iinc 5 1, 3) := by decide +kernel
theorem dX12_failure_99 : decode cX12_failure 99 = .ok (.goto (-32), 3) := by decide +kernel
theorem dX12_failure_102 : decode cX12_failure 102 = .ok (.iload 4, 2) := by decide +kernel
theorem dX12_failure_104 : decode cX12_failure 104 = .ok (.iconst (-1), 1) := by decide +kernel
theorem dX12_failure_105 : decode cX12_failure 105 = .ok (.if_icmp .ne 11, 3) := by decide +kernel
theorem dX12_failure_108 : decode cX12_failure 108 = .ok (.aload_n 0, 1) := by decide +kernel
theorem dX12_failure_109 : decode cX12_failure 109 = .ok (.iconst 3, 1) := by decide +kernel
theorem dX12_failure_110 : decode cX12_failure 110 = .ok (.invokevirtual 45, 3) := by decide +kernel
theorem dX12_failure_113 : decode cX12_failure 113 = .ok (.goto 18, 3) := by decide +kernel
theorem dX12_failure_116 : decode cX12_failure 116 = .ok (.aload_n 0, 1) := by decide +kernel
theorem dX12_failure_117 : decode cX12_failure 117 = .ok (.getfield 9, 3) := by decide +kernel
theorem dX12_failure_120 : decode cX12_failure 120 = .ok (.sipush 3231, 3) := by decide +kernel
theorem dX12_failure_123 : decode cX12_failure 123 = .ok (.iconst 3, 1) := by decide +kernel
theorem dX12_failure_124 : decode cX12_failure 124 = .ok (.iload 4, 2) := by decide +kernel
theorem dX12_failure_126 : decode cX12_failure 126 = .ok (.imul, 1) := by decide +kernel
theorem dX12_failure_127 : decode cX12_failure 127 = .ok (.iadd, 1) := by decide +kernel
theorem dX12_failure_128 : decode cX12_failure 128 = .ok (.iload_n 3, 1) := by decide +kernel
theorem dX12_failure_129 : decode cX12_failure 129 = .ok (.iadd, 1) := by decide +kernel
theorem dX12_failure_130 : decode cX12_failure 130 = .ok (.iaload, 1) := by decide +kernel
theorem dX12_failure_131 : decode cX12_failure 131 = .ok (.ireturn, 1) := by decide +kernel
theorem dX12_ready_0 : decode cX12_ready 0 = .ok (.aload_n 0, 1) := by decide +kernel
theorem dX12_ready_1 : decode cX12_ready 1 = .ok (.iconst 0, 1) := by decide +kernel
theorem dX12_ready_2 : decode cX12_ready 2 = .ok (.putfield 26, 3) := by decide +kernel
theorem dX12_ready_5 : decode cX12_ready 5 = .ok (.iload_n 1, 1) := by decide +kernel
theorem dX12_ready_6 : decode cX12_ready 6 = .ok (.iconst 0, 1) := by decide +kernel
theorem dX12_ready_7 : decode cX12_ready 7 = .ok (.aload_n 0, 1) := by decide +kernel
theorem dX12_ready_8 : decode cX12_ready 8 = .ok (.getfield 9, 3) := by decide +kernel
theorem dX12_ready_11 : decode cX12_ready 11 = .ok (.sipush 173, 3) := by decide +kernel
theorem dX12_ready_14 : decode cX12_ready 14 = .ok (.iaload, 1) := by decide +kernel
theorem dX12_ready_15 : decode cX12_ready 15 = .ok (.iconst 1, 1) := by decide +kernel
theorem dX12_ready_16 : decode cX12_ready 16 = .ok (.isub, 1) := by decide +kernel
theorem dX12_ready_17 : decode cX12_ready 17 = .ok (.invokestatic 33, 3) := by decide +kernel
theorem dX12_ready_20 : decode cX12_ready 20 = .ok (.ifCond .eq 16, 3) := by decide +kernel
theorem dX12_ready_23 : decode cX12_ready 23 = .ok (.aload_n 0, 1) := by decide +kernel
theorem dX12_ready_24 : decode cX12_ready 24 = .ok (.getfield 9, 3) := by decide +kernel
theorem dX12_ready_27 : decode cX12_ready 27 = .ok (.sipush 183, 3) := by decide +kernel
theorem dX12_ready_30 : decode cX12_ready 30 = .ok (.iload_n 1, 1) := by decide +kernel
theorem dX12_ready_31 : decode cX12_ready 31 = .ok (.iadd, 1) := by decide +kernel
theorem dX12_ready_32 : decode cX12_ready 32 = .ok (.iaload, 1) := by decide +kernel
theorem dX12_ready_33 : decode cX12_ready 33 = .ok (.goto 8, 3) := by decide +kernel
theorem dX12_ready_36 : decode cX12_ready 36 = .ok (.aload_n 0, 1) := by decide +kernel
theorem dX12_ready_37 : decode cX12_ready 37 = .ok (.iconst 1, 1) := by decide +kernel
theorem dX12_ready_38 : decode cX12_ready 38 = .ok (.invokevirtual 45, 3) := by decide +kernel
theorem dX12_ready_41 : decode cX12_ready 41 = .ok (.ireturn, 1) := by decide +kernel
theorem dX12_ended_0 : decode cX12_ended 0 = .ok (.aload_n 0, 1) := by decide +kernel
theorem dX12_ended_1 : decode cX12_ended 1 = .ok (.iconst 0, 1) := by decide +kernel
theorem dX12_ended_2 : decode cX12_ended 2 = .ok (.putfield 26, 3) := by decide +kernel
theorem dX12_ended_5 : decode cX12_ended 5 = .ok (.iload_n 1, 1) := by decide +kernel
theorem dX12_ended_6 : decode cX12_ended 6 = .ok (.iconst 0, 1) := by decide +kernel
theorem dX12_ended_7 : decode cX12_ended 7 = .ok (.aload_n 0, 1) := by decide +kernel
theorem dX12_ended_8 : decode cX12_ended 8 = .ok (.getfield 9, 3) := by decide +kernel
theorem dX12_ended_11 : decode cX12_ended 11 = .ok (.sipush 174, 3) := by decide +kernel
theorem dX12_ended_14 : decode cX12_ended 14 = .ok (.iaload, 1) := by decide +kernel
theorem dX12_ended_15 : decode cX12_ended 15 = .ok (.iconst 1, 1) := by decide +kernel
theorem dX12_ended_16 : decode cX12_ended 16 = .ok (.isub, 1) := by decide +kernel
theorem dX12_ended_17 : decode cX12_ended 17 = .ok (.invokestatic 33, 3) := by decide +kernel
theorem dX12_ended_20 : decode cX12_ended 20 = .ok (.ifCond .eq 16, 3) := by decide +kernel
theorem dX12_ended_23 : decode cX12_ended 23 = .ok (.aload_n 0, 1) := by decide +kernel
theorem dX12_ended_24 : decode cX12_ended 24 = .ok (.getfield 9, 3) := by decide +kernel
theorem dX12_ended_27 : decode cX12_ended 27 = .ok (.sipush 207, 3) := by decide +kernel
theorem dX12_ended_30 : decode cX12_ended 30 = .ok (.iload_n 1, 1) := by decide +kernel
theorem dX12_ended_31 : decode cX12_ended 31 = .ok (.iadd, 1) := by decide +kernel
theorem dX12_ended_32 : decode cX12_ended 32 = .ok (.iaload, 1) := by decide +kernel
theorem dX12_ended_33 : decode cX12_ended 33 = .ok (.goto 8, 3) := by decide +kernel
theorem dX12_ended_36 : decode cX12_ended 36 = .ok (.aload_n 0, 1) := by decide +kernel
theorem dX12_ended_37 : decode cX12_ended 37 = .ok (.iconst 1, 1) := by decide +kernel
theorem dX12_ended_38 : decode cX12_ended 38 = .ok (.invokevirtual 45, 3) := by decide +kernel
theorem dX12_ended_41 : decode cX12_ended 41 = .ok (.ireturn, 1) := by decide +kernel
theorem dX12_isAbove_0 : decode cX12_isAbove 0 = .ok (.aload_n 0, 1) := by decide +kernel
theorem dX12_isAbove_1 : decode cX12_isAbove 1 = .ok (.aload_n 0, 1) := by decide +kernel
theorem dX12_isAbove_2 : decode cX12_isAbove 2 = .ok (.iload_n 1, 1) := by decide +kernel
theorem dX12_isAbove_3 : decode cX12_isAbove 3 = .ok (.invokevirtual 141, 3) := by decide +kernel
theorem dX12_isAbove_6 : decode cX12_isAbove 6 = .ok (.ifCond .eq 15, 3) := by decide +kernel
theorem dX12_isAbove_9 : decode cX12_isAbove 9 = .ok (.aload_n 0, 1) := by decide +kernel
theorem dX12_isAbove_10 : decode cX12_isAbove 10 = .ok (.iload_n 2, 1) := by decide +kernel
theorem dX12_isAbove_11 : decode cX12_isAbove 11 = .ok (.invokevirtual 141, 3) := by decide +kernel
theorem dX12_isAbove_14 : decode cX12_isAbove 14 = .ok (.ifCond .eq 7, 3) := by decide +kernel
theorem dX12_isAbove_17 : decode cX12_isAbove 17 = .ok (.iconst 0, 1) := by decide +kernel
theorem dX12_isAbove_18 : decode cX12_isAbove 18 = .ok (.goto 4, 3) := by decide +kernel
theorem dX12_isAbove_21 : decode cX12_isAbove 21 = .ok (.iconst 1, 1) := by decide +kernel
theorem dX12_isAbove_22 : decode cX12_isAbove 22 = .ok (.putfield 26, 3) := by decide +kernel
theorem dX12_isAbove_25 : decode cX12_isAbove 25 = .ok (.aload_n 0, 1) := by decide +kernel
theorem dX12_isAbove_26 : decode cX12_isAbove 26 = .ok (.getfield 26, 3) := by decide +kernel
theorem dX12_isAbove_29 : decode cX12_isAbove 29 = .ok (.ifCond .le 5, 3) := by decide +kernel
theorem dX12_isAbove_32 : decode cX12_isAbove 32 = .ok (.iconst 0, 1) := by decide +kernel
theorem dX12_isAbove_33 : decode cX12_isAbove 33 = .ok (.ireturn, 1) := by decide +kernel
theorem dX12_isAbove_34 : decode cX12_isAbove 34 = .ok (.aload_n 0, 1) := by decide +kernel
theorem dX12_isAbove_35 : decode cX12_isAbove 35 = .ok (.iload_n 2, 1) := by decide +kernel
theorem dX12_isAbove_36 : decode cX12_isAbove 36 = .ok (.iconst 4, 1) := by decide +kernel
theorem dX12_isAbove_37 : decode cX12_isAbove 37 = .ok (.invokevirtual 37, 3) := by decide +kernel
theorem dX12_isAbove_40 : decode cX12_isAbove 40 = .ok (.istore_n 3, 1) := by decide +kernel
theorem dX12_isAbove_41 : decode cX12_isAbove 41 = .ok (.iload_n 3, 1) := by decide +kernel
theorem dX12_isAbove_42 : decode cX12_isAbove 42 = .ok (.iconst (-1), 1) := by decide +kernel
theorem dX12_isAbove_43 : decode cX12_isAbove 43 = .ok (.if_icmp .eq 38, 3) := by decide +kernel
theorem dX12_isAbove_46 : decode cX12_isAbove 46 = .ok (.aload_n 0, 1) := by decide +kernel
theorem dX12_isAbove_47 : decode cX12_isAbove 47 = .ok (.getfield 9, 3) := by decide +kernel
theorem dX12_isAbove_50 : decode cX12_isAbove 50 = .ok (.iload_n 3, 1) := by decide +kernel
theorem dX12_isAbove_51 : decode cX12_isAbove 51 = .ok (.invokestatic 127, 3) := by decide +kernel
theorem dX12_isAbove_54 : decode cX12_isAbove 54 = .ok (.iconst 0, 1) := by decide +kernel
theorem dX12_isAbove_55 : decode cX12_isAbove 55 = .ok (.iadd, 1) := by decide +kernel
theorem dX12_isAbove_56 : decode cX12_isAbove 56 = .ok (.iaload, 1) := by decide +kernel
theorem dX12_isAbove_57 : decode cX12_isAbove 57 = .ok (.iload_n 1, 1) := by decide +kernel
theorem dX12_isAbove_58 : decode cX12_isAbove 58 = .ok (.if_icmp .eq 23, 3) := by decide +kernel
theorem dX12_isAbove_61 : decode cX12_isAbove 61 = .ok (.aload_n 0, 1) := by decide +kernel
theorem dX12_isAbove_62 : decode cX12_isAbove 62 = .ok (.aload_n 0, 1) := by decide +kernel
theorem dX12_isAbove_63 : decode cX12_isAbove 63 = .ok (.getfield 9, 3) := by decide +kernel
theorem dX12_isAbove_66 : decode cX12_isAbove 66 = .ok (.iload_n 3, 1) := by decide +kernel
theorem dX12_isAbove_67 : decode cX12_isAbove 67 = .ok (.invokestatic 127, 3) := by decide +kernel
theorem dX12_isAbove_70 : decode cX12_isAbove 70 = .ok (.iconst 0, 1) := by decide +kernel
theorem dX12_isAbove_71 : decode cX12_isAbove 71 = .ok (.iadd, 1) := by decide +kernel
theorem dX12_isAbove_72 : decode cX12_isAbove 72 = .ok (.iaload, 1) := by decide +kernel
theorem dX12_isAbove_73 : decode cX12_isAbove 73 = .ok (.iconst 4, 1) := by decide +kernel
theorem dX12_isAbove_74 : decode cX12_isAbove 74 = .ok (.invokevirtual 37, 3) := by decide +kernel
theorem dX12_isAbove_77 : decode cX12_isAbove 77 = .ok (.istore_n 3, 1) := by decide +kernel
theorem dX12_isAbove_78 : decode cX12_isAbove 78 = .ok (.goto (-37), 3) := by decide +kernel
theorem dX12_isAbove_81 : decode cX12_isAbove 81 = .ok (.iload_n 3, 1) := by decide +kernel
theorem dX12_isAbove_82 : decode cX12_isAbove 82 = .ok (.iconst (-1), 1) := by decide +kernel
theorem dX12_isAbove_83 : decode cX12_isAbove 83 = .ok (.if_icmp .eq 7, 3) := by decide +kernel
theorem dX12_isAbove_86 : decode cX12_isAbove 86 = .ok (.iconst 1, 1) := by decide +kernel
theorem dX12_isAbove_87 : decode cX12_isAbove 87 = .ok (.goto 4, 3) := by decide +kernel
theorem dX12_isAbove_90 : decode cX12_isAbove 90 = .ok (.iconst 0, 1) := by decide +kernel
theorem dX12_isAbove_91 : decode cX12_isAbove 91 = .ok (.ireturn, 1) := by decide +kernel
theorem dX12_scopeOf_0 : decode cX12_scopeOf 0 = .ok (.aload_n 0, 1) := by decide +kernel
theorem dX12_scopeOf_1 : decode cX12_scopeOf 1 = .ok (.iconst 0, 1) := by decide +kernel
theorem dX12_scopeOf_2 : decode cX12_scopeOf 2 = .ok (.putfield 26, 3) := by decide +kernel
theorem dX12_scopeOf_5 : decode cX12_scopeOf 5 = .ok (.aload_n 0, 1) := by decide +kernel
theorem dX12_scopeOf_6 : decode cX12_scopeOf 6 = .ok (.iload_n 1, 1) := by decide +kernel
theorem dX12_scopeOf_7 : decode cX12_scopeOf 7 = .ok (.invokevirtual 141, 3) := by decide +kernel
theorem dX12_scopeOf_10 : decode cX12_scopeOf 10 = .ok (.ifCond .eq 31, 3) := by decide +kernel
theorem dX12_scopeOf_13 : decode cX12_scopeOf 13 = .ok (.iload_n 2, 1) := by decide +kernel
theorem dX12_scopeOf_14 : decode cX12_scopeOf 14 = .ok (.iconst 0, 1) := by decide +kernel
theorem dX12_scopeOf_15 : decode cX12_scopeOf 15 = .ok (.aload_n 0, 1) := by decide +kernel
theorem dX12_scopeOf_16 : decode cX12_scopeOf 16 = .ok (.iload_n 1, 1) := by decide +kernel
theorem dX12_scopeOf_17 : decode cX12_scopeOf 17 = .ok (.iconst 3, 1) := by decide +kernel
theorem dX12_scopeOf_18 : decode cX12_scopeOf 18 = .ok (.invokevirtual 37, 3) := by decide +kernel
theorem dX12_scopeOf_21 : decode cX12_scopeOf 21 = .ok (.iconst 1, 1) := by decide +kernel
theorem dX12_scopeOf_22 : decode cX12_scopeOf 22 = .ok (.isub, 1) := by decide +kernel
theorem dX12_scopeOf_23 : decode cX12_scopeOf 23 = .ok (.invokestatic 33, 3) := by decide +kernel
theorem dX12_scopeOf_26 : decode cX12_scopeOf 26 = .ok (.ifCond .eq 15, 3) := by decide +kernel
theorem dX12_scopeOf_29 : decode cX12_scopeOf 29 = .ok (.aload_n 0, 1) := by decide +kernel
theorem dX12_scopeOf_30 : decode cX12_scopeOf 30 = .ok (.iload_n 1, 1) := by decide +kernel
theorem dX12_scopeOf_31 : decode cX12_scopeOf 31 = .ok (.bipush 15, 2) := by decide +kernel
theorem dX12_scopeOf_33 : decode cX12_scopeOf 33 = .ok (.iload_n 2, 1) := by decide +kernel
theorem dX12_scopeOf_34 : decode cX12_scopeOf 34 = .ok (.iadd, 1) := by decide +kernel
theorem dX12_scopeOf_35 : decode cX12_scopeOf 35 = .ok (.invokevirtual 37, 3) := by decide +kernel
theorem dX12_scopeOf_38 : decode cX12_scopeOf 38 = .ok (.goto 8, 3) := by decide +kernel
theorem dX12_scopeOf_41 : decode cX12_scopeOf 41 = .ok (.aload_n 0, 1) := by decide +kernel
theorem dX12_scopeOf_42 : decode cX12_scopeOf 42 = .ok (.iconst 1, 1) := by decide +kernel
theorem dX12_scopeOf_43 : decode cX12_scopeOf 43 = .ok (.invokevirtual 45, 3) := by decide +kernel
theorem dX12_scopeOf_46 : decode cX12_scopeOf 46 = .ok (.ireturn, 1) := by decide +kernel
theorem dX12_isChannel_0 : decode cX12_isChannel 0 = .ok (.iload_n 0, 1) := by decide +kernel
theorem dX12_isChannel_1 : decode cX12_isChannel 1 = .ok (.iconst 0, 1) := by decide +kernel
theorem dX12_isChannel_2 : decode cX12_isChannel 2 = .ok (.iconst 3, 1) := by decide +kernel
theorem dX12_isChannel_3 : decode cX12_isChannel 3 = .ok (.invokestatic 33, 3) := by decide +kernel
theorem dX12_isChannel_6 : decode cX12_isChannel 6 = .ok (.ireturn, 1) := by decide +kernel
theorem dX12_channel__0 : decode cX12_channel_ 0 = .ok (.aload_n 0, 1) := by decide +kernel
theorem dX12_channel__1 : decode cX12_channel_ 1 = .ok (.iconst 0, 1) := by decide +kernel
theorem dX12_channel__2 : decode cX12_channel_ 2 = .ok (.putfield 26, 3) := by decide +kernel
theorem dX12_channel__5 : decode cX12_channel_ 5 = .ok (.iload_n 1, 1) := by decide +kernel
theorem dX12_channel__6 : decode cX12_channel_ 6 = .ok (.invokestatic 232, 3) := by decide +kernel
theorem dX12_channel__9 : decode cX12_channel_ 9 = .ok (.ifCond .ne 9, 3) := by decide +kernel
theorem dX12_channel__12 : decode cX12_channel_ 12 = .ok (.aload_n 0, 1) := by decide +kernel
theorem dX12_channel__13 : decode cX12_channel_ 13 = .ok (.iconst 1, 1) := by decide +kernel
theorem dX12_channel__14 : decode cX12_channel_ 14 = .ok (.invokevirtual 45, 3) := by decide +kernel
theorem dX12_channel__17 : decode cX12_channel_ 17 = .ok (.ireturn, 1) := by decide +kernel
theorem dX12_channel__18 : decode cX12_channel_ 18 = .ok (.iload_n 2, 1) := by decide +kernel
theorem dX12_channel__19 : decode cX12_channel_ 19 = .ok (.tableswitch 65 0 3 #[29, 39, 51, 58], 29) := by decide +kernel
theorem dX12_channel__48 : decode cX12_channel_ 48 = .ok (.aload_n 0, 1) := by decide +kernel
theorem dX12_channel__49 : decode cX12_channel_ 49 = .ok (.getfield 9, 3) := by decide +kernel
theorem dX12_channel__52 : decode cX12_channel_ 52 = .ok (.iload_n 1, 1) := by decide +kernel
theorem dX12_channel__53 : decode cX12_channel_ 53 = .ok (.invokestatic 92, 3) := by decide +kernel
theorem dX12_channel__56 : decode cX12_channel_ 56 = .ok (.iaload, 1) := by decide +kernel
theorem dX12_channel__57 : decode cX12_channel_ 57 = .ok (.ireturn, 1) := by decide +kernel
theorem dX12_channel__58 : decode cX12_channel_ 58 = .ok (.aload_n 0, 1) := by decide +kernel
theorem dX12_channel__59 : decode cX12_channel_ 59 = .ok (.getfield 9, 3) := by decide +kernel
theorem dX12_channel__62 : decode cX12_channel_ 62 = .ok (.iload_n 1, 1) := by decide +kernel
theorem dX12_channel__63 : decode cX12_channel_ 63 = .ok (.invokestatic 92, 3) := by decide +kernel
theorem dX12_channel__66 : decode cX12_channel_ 66 = .ok (.iconst 1, 1) := by decide +kernel
theorem dX12_channel__67 : decode cX12_channel_ 67 = .ok (.iadd, 1) := by decide +kernel
theorem dX12_channel__68 : decode cX12_channel_ 68 = .ok (.iaload, 1) := by decide +kernel
theorem dX12_channel__69 : decode cX12_channel_ 69 = .ok (.ireturn, 1) := by decide +kernel
theorem dX12_channel__70 : decode cX12_channel_ 70 = .ok (.aload_n 0, 1) := by decide +kernel
theorem dX12_channel__71 : decode cX12_channel_ 71 = .ok (.iload_n 1, 1) := by decide +kernel
theorem dX12_channel__72 : decode cX12_channel_ 72 = .ok (.iconst 1, 1) := by decide +kernel
theorem dX12_channel__73 : decode cX12_channel_ 73 = .ok (.invokevirtual 235, 3) := by decide +kernel
theorem dX12_channel__76 : decode cX12_channel_ 76 = .ok (.ireturn, 1) := by decide +kernel
theorem dX12_channel__77 : decode cX12_channel_ 77 = .ok (.aload_n 0, 1) := by decide +kernel
theorem dX12_channel__78 : decode cX12_channel_ 78 = .ok (.iload_n 1, 1) := by decide +kernel
theorem dX12_channel__79 : decode cX12_channel_ 79 = .ok (.iconst 0, 1) := by decide +kernel
theorem dX12_channel__80 : decode cX12_channel_ 80 = .ok (.invokevirtual 235, 3) := by decide +kernel
theorem dX12_channel__83 : decode cX12_channel_ 83 = .ok (.ireturn, 1) := by decide +kernel
theorem dX12_channel__84 : decode cX12_channel_ 84 = .ok (.aload_n 0, 1) := by decide +kernel
theorem dX12_channel__85 : decode cX12_channel_ 85 = .ok (.iconst 2, 1) := by decide +kernel
theorem dX12_channel__86 : decode cX12_channel_ 86 = .ok (.invokevirtual 45, 3) := by decide +kernel
theorem dX12_channel__89 : decode cX12_channel_ 89 = .ok (.ireturn, 1) := by decide +kernel
theorem dX12_content_0 : decode cX12_content 0 = .ok (.aload_n 0, 1) := by decide +kernel
theorem dX12_content_1 : decode cX12_content 1 = .ok (.iconst 0, 1) := by decide +kernel
theorem dX12_content_2 : decode cX12_content 2 = .ok (.putfield 26, 3) := by decide +kernel
theorem dX12_content_5 : decode cX12_content 5 = .ok (.iload_n 1, 1) := by decide +kernel
theorem dX12_content_6 : decode cX12_content 6 = .ok (.invokestatic 232, 3) := by decide +kernel
theorem dX12_content_9 : decode cX12_content 9 = .ok (.ifCond .ne 9, 3) := by decide +kernel
theorem dX12_content_12 : decode cX12_content 12 = .ok (.aload_n 0, 1) := by decide +kernel
theorem dX12_content_13 : decode cX12_content 13 = .ok (.iconst 1, 1) := by decide +kernel
theorem dX12_content_14 : decode cX12_content 14 = .ok (.invokevirtual 45, 3) := by decide +kernel
theorem dX12_content_17 : decode cX12_content 17 = .ok (.ireturn, 1) := by decide +kernel
theorem dX12_content_18 : decode cX12_content 18 = .ok (.iload_n 2, 1) := by decide +kernel
theorem dX12_content_19 : decode cX12_content 19 = .ok (.iconst 0, 1) := by decide +kernel
theorem dX12_content_20 : decode cX12_content 20 = .ok (.aload_n 0, 1) := by decide +kernel
theorem dX12_content_21 : decode cX12_content 21 = .ok (.getfield 9, 3) := by decide +kernel
theorem dX12_content_24 : decode cX12_content 24 = .ok (.iload_n 1, 1) := by decide +kernel
theorem dX12_content_25 : decode cX12_content 25 = .ok (.invokestatic 92, 3) := by decide +kernel
theorem dX12_content_28 : decode cX12_content 28 = .ok (.iconst 1, 1) := by decide +kernel
theorem dX12_content_29 : decode cX12_content 29 = .ok (.iadd, 1) := by decide +kernel
theorem dX12_content_30 : decode cX12_content 30 = .ok (.iaload, 1) := by decide +kernel
theorem dX12_content_31 : decode cX12_content 31 = .ok (.iconst 1, 1) := by decide +kernel
theorem dX12_content_32 : decode cX12_content 32 = .ok (.isub, 1) := by decide +kernel
theorem dX12_content_33 : decode cX12_content 33 = .ok (.invokestatic 33, 3) := by decide +kernel
theorem dX12_content_36 : decode cX12_content 36 = .ok (.ifCond .eq 19, 3) := by decide +kernel
theorem dX12_content_39 : decode cX12_content 39 = .ok (.aload_n 0, 1) := by decide +kernel
theorem dX12_content_40 : decode cX12_content 40 = .ok (.getfield 9, 3) := by decide +kernel
theorem dX12_content_43 : decode cX12_content 43 = .ok (.iload_n 1, 1) := by decide +kernel
theorem dX12_content_44 : decode cX12_content 44 = .ok (.invokestatic 92, 3) := by decide +kernel
theorem dX12_content_47 : decode cX12_content 47 = .ok (.iconst 2, 1) := by decide +kernel
theorem dX12_content_48 : decode cX12_content 48 = .ok (.iadd, 1) := by decide +kernel
theorem dX12_content_49 : decode cX12_content 49 = .ok (.iload_n 2, 1) := by decide +kernel
theorem dX12_content_50 : decode cX12_content 50 = .ok (.iadd, 1) := by decide +kernel
theorem dX12_content_51 : decode cX12_content 51 = .ok (.iaload, 1) := by decide +kernel
theorem dX12_content_52 : decode cX12_content 52 = .ok (.goto 8, 3) := by decide +kernel
theorem dX12_content_55 : decode cX12_content 55 = .ok (.aload_n 0, 1) := by decide +kernel
theorem dX12_content_56 : decode cX12_content 56 = .ok (.iconst 2, 1) := by decide +kernel
theorem dX12_content_57 : decode cX12_content 57 = .ok (.invokevirtual 45, 3) := by decide +kernel
theorem dX12_content_60 : decode cX12_content 60 = .ok (.ireturn, 1) := by decide +kernel
theorem dX12_count_0 : decode cX12_count 0 = .ok (.aload_n 0, 1) := by decide +kernel
theorem dX12_count_1 : decode cX12_count 1 = .ok (.iconst 0, 1) := by decide +kernel
theorem dX12_count_2 : decode cX12_count 2 = .ok (.putfield 26, 3) := by decide +kernel
theorem dX12_count_5 : decode cX12_count 5 = .ok (.iconst 0, 1) := by decide +kernel
theorem dX12_count_6 : decode cX12_count 6 = .ok (.istore_n 2, 1) := by decide +kernel
theorem dX12_count_7 : decode cX12_count 7 = .ok (.iload_n 1, 1) := by decide +kernel
theorem dX12_count_8 : decode cX12_count 8 = .ok (.tableswitch 145 0 12 #[68, 77, 82, 91, 100, 145, 145, 145, 145, 145, 145, 145, 140], 68) := by decide +kernel
theorem dX12_count_76 : decode cX12_count 76 = .ok (.aload_n 0, 1) := by decide +kernel
theorem dX12_count_77 : decode cX12_count 77 = .ok (.getfield 9, 3) := by decide +kernel
theorem dX12_count_80 : decode cX12_count 80 = .ok (.sipush 170, 3) := by decide +kernel
theorem dX12_count_83 : decode cX12_count 83 = .ok (.iaload, 1) := by decide +kernel
theorem dX12_count_84 : decode cX12_count 84 = .ok (.ireturn, 1) := by decide +kernel
theorem dX12_count_85 : decode cX12_count 85 = .ok (.aload_n 0, 1) := by decide +kernel
theorem dX12_count_86 : decode cX12_count 86 = .ok (.invokevirtual 95, 3) := by decide +kernel
theorem dX12_count_89 : decode cX12_count 89 = .ok (.ireturn, 1) := by decide +kernel
theorem dX12_count_90 : decode cX12_count 90 = .ok (.aload_n 0, 1) := by decide +kernel
theorem dX12_count_91 : decode cX12_count 91 = .ok (.getfield 9, 3) := by decide +kernel
theorem dX12_count_94 : decode cX12_count 94 = .ok (.sipush 173, 3) := by decide +kernel
theorem dX12_count_97 : decode cX12_count 97 = .ok (.iaload, 1) := by decide +kernel
theorem dX12_count_98 : decode cX12_count 98 = .ok (.ireturn, 1) := by decide +kernel
theorem dX12_count_99 : decode cX12_count 99 = .ok (.aload_n 0, 1) := by decide +kernel
theorem dX12_count_100 : decode cX12_count 100 = .ok (.getfield 9, 3) := by decide +kernel
theorem dX12_count_103 : decode cX12_count 103 = .ok (.sipush 171, 3) := by decide +kernel
theorem dX12_count_106 : decode cX12_count 106 = .ok (.iaload, 1) := by decide +kernel
theorem dX12_count_107 : decode cX12_count 107 = .ok (.ireturn, 1) := by decide +kernel
theorem dX12_count_108 : decode cX12_count 108 = .ok (.iconst 0, 1) := by decide +kernel
theorem dX12_count_109 : decode cX12_count 109 = .ok (.istore_n 3, 1) := by decide +kernel
theorem dX12_count_110 : decode cX12_count 110 = .ok (.iload_n 3, 1) := by decide +kernel
theorem dX12_count_111 : decode cX12_count 111 = .ok (.aload_n 0, 1) := by decide +kernel
theorem dX12_count_112 : decode cX12_count 112 = .ok (.getfield 9, 3) := by decide +kernel
theorem dX12_count_115 : decode cX12_count 115 = .ok (.sipush 171, 3) := by decide +kernel
theorem dX12_count_118 : decode cX12_count 118 = .ok (.iaload, 1) := by decide +kernel
theorem dX12_count_119 : decode cX12_count 119 = .ok (.if_icmp .ge 27, 3) := by decide +kernel
theorem dX12_count_122 : decode cX12_count 122 = .ok (.aload_n 0, 1) := by decide +kernel
theorem dX12_count_123 : decode cX12_count 123 = .ok (.getfield 9, 3) := by decide +kernel
theorem dX12_count_126 : decode cX12_count 126 = .ok (.iload_n 3, 1) := by decide +kernel
theorem dX12_count_127 : decode cX12_count 127 = .ok (.invokestatic 127, 3) := by decide +kernel
theorem dX12_count_130 : decode cX12_count 130 = .ok (.iconst 3, 1) := by decide +kernel
theorem dX12_count_131 : decode cX12_count 131 = .ok (.iadd, 1) := by decide +kernel
theorem dX12_count_132 : decode cX12_count 132 = .ok (.iaload, 1) := by decide +kernel
theorem dX12_count_133 : decode cX12_count 133 = .ok (.iconst 2, 1) := by decide +kernel
theorem dX12_count_134 : decode cX12_count 134 = .ok (.if_icmp .ge 6, 3) := by decide +kernel
theorem dX12_count_137 : decode cX12_count 137 = .ok (.iinc 2 1, 3) := by decide +kernel
theorem dX12_count_140 : decode cX12_count 140 = .ok (.iinc 3 1, 3) := by decide +kernel
theorem dX12_count_143 : decode cX12_count 143 = .ok (.goto (-33), 3) := by decide +kernel
theorem dX12_count_146 : decode cX12_count 146 = .ok (.iload_n 2, 1) := by decide +kernel
theorem dX12_count_147 : decode cX12_count 147 = .ok (.ireturn, 1) := by decide +kernel
theorem dX12_count_148 : decode cX12_count 148 = .ok (.aload_n 0, 1) := by decide +kernel
theorem dX12_count_149 : decode cX12_count 149 = .ok (.getfield 48, 3) := by decide +kernel
theorem dX12_count_152 : decode cX12_count 152 = .ok (.ireturn, 1) := by decide +kernel
theorem dX12_count_153 : decode cX12_count 153 = .ok (.iload_n 1, 1) := by decide +kernel
theorem dX12_count_154 : decode cX12_count 154 = .ok (.iconst 5, 1) := by decide +kernel
theorem dX12_count_155 : decode cX12_count 155 = .ok (.bipush 11, 2) := by decide +kernel
theorem dX12_count_157 : decode cX12_count 157 = .ok (.invokestatic 33, 3) := by decide +kernel
theorem dX12_count_160 : decode cX12_count 160 = .ok (.ifCond .eq 18, 3) := by decide +kernel
theorem dX12_count_163 : decode cX12_count 163 = .ok (.aload_n 0, 1) := by decide +kernel
theorem dX12_count_164 : decode cX12_count 164 = .ok (.getfield 9, 3) := by decide +kernel
theorem dX12_count_167 : decode cX12_count 167 = .ok (.sipush 175, 3) := by decide +kernel
theorem dX12_count_170 : decode cX12_count 170 = .ok (.iload_n 1, 1) := by decide +kernel
theorem dX12_count_171 : decode cX12_count 171 = .ok (.iadd, 1) := by decide +kernel
theorem dX12_count_172 : decode cX12_count 172 = .ok (.iconst 5, 1) := by decide +kernel
theorem dX12_count_173 : decode cX12_count 173 = .ok (.isub, 1) := by decide +kernel
theorem dX12_count_174 : decode cX12_count 174 = .ok (.iaload, 1) := by decide +kernel
theorem dX12_count_175 : decode cX12_count 175 = .ok (.goto 8, 3) := by decide +kernel
theorem dX12_count_178 : decode cX12_count 178 = .ok (.aload_n 0, 1) := by decide +kernel
theorem dX12_count_179 : decode cX12_count 179 = .ok (.iconst 1, 1) := by decide +kernel
theorem dX12_count_180 : decode cX12_count 180 = .ok (.invokevirtual 45, 3) := by decide +kernel
theorem dX12_count_183 : decode cX12_count 183 = .ok (.ireturn, 1) := by decide +kernel
theorem dX12_save_0 : decode cX12_save 0 = .ok (.aload_n 0, 1) := by decide +kernel
theorem dX12_save_1 : decode cX12_save 1 = .ok (.iconst 0, 1) := by decide +kernel
theorem dX12_save_2 : decode cX12_save 2 = .ok (.putfield 26, 3) := by decide +kernel
theorem dX12_save_5 : decode cX12_save 5 = .ok (.aload_n 0, 1) := by decide +kernel
theorem dX12_save_6 : decode cX12_save 6 = .ok (.iconst 1, 1) := by decide +kernel
theorem dX12_save_7 : decode cX12_save 7 = .ok (.putfield 238, 3) := by decide +kernel
theorem dX12_save_10 : decode cX12_save 10 = .ok (.iconst 0, 1) := by decide +kernel
theorem dX12_save_11 : decode cX12_save 11 = .ok (.istore_n 1, 1) := by decide +kernel
theorem dX12_save_12 : decode cX12_save 12 = .ok (.iload_n 1, 1) := by decide +kernel
theorem dX12_save_13 : decode cX12_save 13 = .ok (.sipush 9231, 3) := by decide +kernel
theorem dX12_save_16 : decode cX12_save 16 = .ok (.if_icmp .ge 21, 3) := by decide +kernel
theorem dX12_save_19 : decode cX12_save 19 = .ok (.aload_n 0, 1) := by decide +kernel
theorem dX12_save_20 : decode cX12_save 20 = .ok (.getfield 13, 3) := by decide +kernel
theorem dX12_save_23 : decode cX12_save 23 = .ok (.iload_n 1, 1) := by decide +kernel
theorem dX12_save_24 : decode cX12_save 24 = .ok (.aload_n 0, 1) := by decide +kernel
theorem dX12_save_25 : decode cX12_save 25 = .ok (.getfield 9, 3) := by decide +kernel
theorem dX12_save_28 : decode cX12_save 28 = .ok (.iload_n 1, 1) := by decide +kernel
theorem dX12_save_29 : decode cX12_save 29 = .ok (.iaload, 1) := by decide +kernel
theorem dX12_save_30 : decode cX12_save 30 = .ok (.iastore, 1) := by decide +kernel
theorem dX12_save_31 : decode cX12_save 31 = .ok (.iinc 1 1, 3) := by decide +kernel
theorem dX12_save_34 : decode cX12_save 34 = .ok (.goto (-22), 3) := by decide +kernel
theorem dX12_save_37 : decode cX12_save 37 = .ok (.aload_n 0, 1) := by decide +kernel
theorem dX12_save_38 : decode cX12_save 38 = .ok (.getfield 9, 3) := by decide +kernel
theorem dX12_save_41 : decode cX12_save 41 = .ok (.sipush 170, 3) := by decide +kernel
theorem dX12_save_44 : decode cX12_save 44 = .ok (.iaload, 1) := by decide +kernel
theorem dX12_save_45 : decode cX12_save 45 = .ok (.ireturn, 1) := by decide +kernel
theorem dX12_restore_0 : decode cX12_restore 0 = .ok (.aload_n 0, 1) := by decide +kernel
theorem dX12_restore_1 : decode cX12_restore 1 = .ok (.iconst 0, 1) := by decide +kernel
theorem dX12_restore_2 : decode cX12_restore 2 = .ok (.putfield 26, 3) := by decide +kernel
theorem dX12_restore_5 : decode cX12_restore 5 = .ok (.aload_n 0, 1) := by decide +kernel
theorem dX12_restore_6 : decode cX12_restore 6 = .ok (.getfield 238, 3) := by decide +kernel
theorem dX12_restore_9 : decode cX12_restore 9 = .ok (.ifCond .ne 9, 3) := by decide +kernel
theorem dX12_restore_12 : decode cX12_restore 12 = .ok (.aload_n 0, 1) := by decide +kernel
theorem dX12_restore_13 : decode cX12_restore 13 = .ok (.iconst 1, 1) := by decide +kernel
theorem dX12_restore_14 : decode cX12_restore 14 = .ok (.invokevirtual 45, 3) := by decide +kernel
theorem dX12_restore_17 : decode cX12_restore 17 = .ok (.ireturn, 1) := by decide +kernel
theorem dX12_restore_18 : decode cX12_restore 18 = .ok (.iconst 0, 1) := by decide +kernel
theorem dX12_restore_19 : decode cX12_restore 19 = .ok (.istore_n 1, 1) := by decide +kernel
theorem dX12_restore_20 : decode cX12_restore 20 = .ok (.iload_n 1, 1) := by decide +kernel
theorem dX12_restore_21 : decode cX12_restore 21 = .ok (.sipush 9231, 3) := by decide +kernel
theorem dX12_restore_24 : decode cX12_restore 24 = .ok (.if_icmp .ge 21, 3) := by decide +kernel
theorem dX12_restore_27 : decode cX12_restore 27 = .ok (.aload_n 0, 1) := by decide +kernel
theorem dX12_restore_28 : decode cX12_restore 28 = .ok (.getfield 9, 3) := by decide +kernel
theorem dX12_restore_31 : decode cX12_restore 31 = .ok (.iload_n 1, 1) := by decide +kernel
theorem dX12_restore_32 : decode cX12_restore 32 = .ok (.aload_n 0, 1) := by decide +kernel
theorem dX12_restore_33 : decode cX12_restore 33 = .ok (.getfield 13, 3) := by decide +kernel
theorem dX12_restore_36 : decode cX12_restore 36 = .ok (.iload_n 1, 1) := by decide +kernel
theorem dX12_restore_37 : decode cX12_restore 37 = .ok (.iaload, 1) := by decide +kernel
theorem dX12_restore_38 : decode cX12_restore 38 = .ok (.iastore, 1) := by decide +kernel
theorem dX12_restore_39 : decode cX12_restore 39 = .ok (.iinc 1 1, 3) := by decide +kernel
theorem dX12_restore_42 : decode cX12_restore 42 = .ok (.goto (-22), 3) := by decide +kernel
theorem dX12_restore_45 : decode cX12_restore 45 = .ok (.aload_n 0, 1) := by decide +kernel
theorem dX12_restore_46 : decode cX12_restore 46 = .ok (.getfield 9, 3) := by decide +kernel
theorem dX12_restore_49 : decode cX12_restore 49 = .ok (.sipush 170, 3) := by decide +kernel
theorem dX12_restore_52 : decode cX12_restore 52 = .ok (.iaload, 1) := by decide +kernel
theorem dX12_restore_53 : decode cX12_restore 53 = .ok (.ireturn, 1) := by decide +kernel
theorem dJ11_isValidCodePoint_9a6ad_0 : decode cJ11_isValidCodePoint_9a6ad 0 = .ok (.iload_n 0, 1) := by decide +kernel
theorem dJ11_isValidCodePoint_9a6ad_1 : decode cJ11_isValidCodePoint_9a6ad 1 = .ok (.bipush 16, 2) := by decide +kernel
theorem dJ11_isValidCodePoint_9a6ad_3 : decode cJ11_isValidCodePoint_9a6ad 3 = .ok (.iushr, 1) := by decide +kernel
theorem dJ11_isValidCodePoint_9a6ad_4 : decode cJ11_isValidCodePoint_9a6ad 4 = .ok (.istore_n 1, 1) := by decide +kernel
theorem dJ11_isValidCodePoint_9a6ad_5 : decode cJ11_isValidCodePoint_9a6ad 5 = .ok (.iload_n 1, 1) := by decide +kernel
theorem dJ11_isValidCodePoint_9a6ad_6 : decode cJ11_isValidCodePoint_9a6ad 6 = .ok (.bipush 17, 2) := by decide +kernel
theorem dJ11_isValidCodePoint_9a6ad_8 : decode cJ11_isValidCodePoint_9a6ad 8 = .ok (.if_icmp .ge 7, 3) := by decide +kernel
theorem dJ11_isValidCodePoint_9a6ad_11 : decode cJ11_isValidCodePoint_9a6ad 11 = .ok (.iconst 1, 1) := by decide +kernel
theorem dJ11_isValidCodePoint_9a6ad_12 : decode cJ11_isValidCodePoint_9a6ad 12 = .ok (.goto 4, 3) := by decide +kernel
theorem dJ11_isValidCodePoint_9a6ad_15 : decode cJ11_isValidCodePoint_9a6ad 15 = .ok (.iconst 0, 1) := by decide +kernel
theorem dJ11_isValidCodePoint_9a6ad_16 : decode cJ11_isValidCodePoint_9a6ad 16 = .ok (.ireturn, 1) := by decide +kernel
theorem dJ11_highSurrogate_5068e_0 : decode cJ11_highSurrogate_5068e 0 = .ok (.iload_n 0, 1) := by decide +kernel
theorem dJ11_highSurrogate_5068e_1 : decode cJ11_highSurrogate_5068e 1 = .ok (.bipush 10, 2) := by decide +kernel
theorem dJ11_highSurrogate_5068e_3 : decode cJ11_highSurrogate_5068e 3 = .ok (.iushr, 1) := by decide +kernel
theorem dJ11_highSurrogate_5068e_4 : decode cJ11_highSurrogate_5068e 4 = .ok (.ldc 110, 2) := by decide +kernel
theorem dJ11_highSurrogate_5068e_6 : decode cJ11_highSurrogate_5068e 6 = .ok (.iadd, 1) := by decide +kernel
theorem dJ11_highSurrogate_5068e_7 : decode cJ11_highSurrogate_5068e 7 = .ok (.i2c, 1) := by decide +kernel
theorem dJ11_highSurrogate_5068e_8 : decode cJ11_highSurrogate_5068e 8 = .ok (.ireturn, 1) := by decide +kernel
theorem dJ11_lowSurrogate_5068e_0 : decode cJ11_lowSurrogate_5068e 0 = .ok (.iload_n 0, 1) := by decide +kernel
theorem dJ11_lowSurrogate_5068e_1 : decode cJ11_lowSurrogate_5068e 1 = .ok (.sipush 1023, 3) := by decide +kernel
theorem dJ11_lowSurrogate_5068e_4 : decode cJ11_lowSurrogate_5068e 4 = .ok (.iand, 1) := by decide +kernel
theorem dJ11_lowSurrogate_5068e_5 : decode cJ11_lowSurrogate_5068e 5 = .ok (.ldc 76, 2) := by decide +kernel
theorem dJ11_lowSurrogate_5068e_7 : decode cJ11_lowSurrogate_5068e 7 = .ok (.iadd, 1) := by decide +kernel
theorem dJ11_lowSurrogate_5068e_8 : decode cJ11_lowSurrogate_5068e 8 = .ok (.i2c, 1) := by decide +kernel
theorem dJ11_lowSurrogate_5068e_9 : decode cJ11_lowSurrogate_5068e 9 = .ok (.ireturn, 1) := by decide +kernel
theorem dJ9_max_7cf53_0 : decode cJ9_max_7cf53 0 = .ok (.iload_n 0, 1) := by decide +kernel
theorem dJ9_max_7cf53_1 : decode cJ9_max_7cf53 1 = .ok (.iload_n 1, 1) := by decide +kernel
theorem dJ9_max_7cf53_2 : decode cJ9_max_7cf53 2 = .ok (.if_icmp .lt 7, 3) := by decide +kernel
theorem dJ9_max_7cf53_5 : decode cJ9_max_7cf53 5 = .ok (.iload_n 0, 1) := by decide +kernel
theorem dJ9_max_7cf53_6 : decode cJ9_max_7cf53 6 = .ok (.goto 4, 3) := by decide +kernel
theorem dJ9_max_7cf53_9 : decode cJ9_max_7cf53 9 = .ok (.iload_n 1, 1) := by decide +kernel
theorem dJ9_max_7cf53_10 : decode cJ9_max_7cf53 10 = .ok (.ireturn, 1) := by decide +kernel
theorem dJ9_min_7cf53_0 : decode cJ9_min_7cf53 0 = .ok (.iload_n 0, 1) := by decide +kernel
theorem dJ9_min_7cf53_1 : decode cJ9_min_7cf53 1 = .ok (.iload_n 1, 1) := by decide +kernel
theorem dJ9_min_7cf53_2 : decode cJ9_min_7cf53 2 = .ok (.if_icmp .gt 7, 3) := by decide +kernel
theorem dJ9_min_7cf53_5 : decode cJ9_min_7cf53 5 = .ok (.iload_n 0, 1) := by decide +kernel
theorem dJ9_min_7cf53_6 : decode cJ9_min_7cf53 6 = .ok (.goto 4, 3) := by decide +kernel
theorem dJ9_min_7cf53_9 : decode cJ9_min_7cf53 9 = .ok (.iload_n 1, 1) := by decide +kernel
theorem dJ9_min_7cf53_10 : decode cJ9_min_7cf53 10 = .ok (.ireturn, 1) := by decide +kernel
theorem dJ0_length_8abf5_0 : decode cJ0_length_8abf5 0 = .ok (.aload_n 0, 1) := by decide +kernel
theorem dJ0_length_8abf5_1 : decode cJ0_length_8abf5 1 = .ok (.getfield 9, 3) := by decide +kernel
theorem dJ0_length_8abf5_4 : decode cJ0_length_8abf5 4 = .ok (.arraylength, 1) := by decide +kernel
theorem dJ0_length_8abf5_5 : decode cJ0_length_8abf5 5 = .ok (.aload_n 0, 1) := by decide +kernel
theorem dJ0_length_8abf5_6 : decode cJ0_length_8abf5 6 = .ok (.invokevirtual 335, 3) := by decide +kernel
theorem dJ0_length_8abf5_9 : decode cJ0_length_8abf5 9 = .ok (.ishr, 1) := by decide +kernel
theorem dJ0_length_8abf5_10 : decode cJ0_length_8abf5 10 = .ok (.ireturn, 1) := by decide +kernel
theorem dJ0_indexOf_0f7a4_0 : decode cJ0_indexOf_0f7a4 0 = .ok (.aload_n 0, 1) := by decide +kernel
theorem dJ0_indexOf_0f7a4_1 : decode cJ0_indexOf_0f7a4 1 = .ok (.iload_n 1, 1) := by decide +kernel
theorem dJ0_indexOf_0f7a4_2 : decode cJ0_indexOf_0f7a4 2 = .ok (.iconst 0, 1) := by decide +kernel
theorem dJ0_indexOf_0f7a4_3 : decode cJ0_indexOf_0f7a4 3 = .ok (.invokevirtual 633, 3) := by decide +kernel
theorem dJ0_indexOf_0f7a4_6 : decode cJ0_indexOf_0f7a4 6 = .ok (.ireturn, 1) := by decide +kernel
theorem dJ0_indexOf_7cf53_0 : decode cJ0_indexOf_7cf53 0 = .ok (.aload_n 0, 1) := by decide +kernel
theorem dJ0_indexOf_7cf53_1 : decode cJ0_indexOf_7cf53 1 = .ok (.invokevirtual 492, 3) := by decide +kernel
theorem dJ0_indexOf_7cf53_4 : decode cJ0_indexOf_7cf53 4 = .ok (.ifCond .eq 19, 3) := by decide +kernel
theorem dJ0_indexOf_7cf53_7 : decode cJ0_indexOf_7cf53 7 = .ok (.aload_n 0, 1) := by decide +kernel
theorem dJ0_indexOf_7cf53_8 : decode cJ0_indexOf_7cf53 8 = .ok (.getfield 9, 3) := by decide +kernel
theorem dJ0_indexOf_7cf53_11 : decode cJ0_indexOf_7cf53 11 = .ok (.iload_n 1, 1) := by decide +kernel
theorem dJ0_indexOf_7cf53_12 : decode cJ0_indexOf_7cf53 12 = .ok (.iload_n 2, 1) := by decide +kernel
theorem dJ0_indexOf_7cf53_13 : decode cJ0_indexOf_7cf53 13 = .ok (.aload_n 0, 1) := by decide +kernel
theorem dJ0_indexOf_7cf53_14 : decode cJ0_indexOf_7cf53 14 = .ok (.invokevirtual 505, 3) := by decide +kernel
theorem dJ0_indexOf_7cf53_17 : decode cJ0_indexOf_7cf53 17 = .ok (.invokestatic 637, 3) := by decide +kernel
theorem dJ0_indexOf_7cf53_20 : decode cJ0_indexOf_7cf53 20 = .ok (.goto 16, 3) := by decide +kernel
theorem dJ0_indexOf_7cf53_23 : decode cJ0_indexOf_7cf53 23 = .ok (.aload_n 0, 1) := by decide +kernel
theorem dJ0_indexOf_7cf53_24 : decode cJ0_indexOf_7cf53 24 = .ok (.getfield 9, 3) := by decide +kernel
theorem dJ0_indexOf_7cf53_27 : decode cJ0_indexOf_7cf53 27 = .ok (.iload_n 1, 1) := by decide +kernel
theorem dJ0_indexOf_7cf53_28 : decode cJ0_indexOf_7cf53 28 = .ok (.iload_n 2, 1) := by decide +kernel
theorem dJ0_indexOf_7cf53_29 : decode cJ0_indexOf_7cf53 29 = .ok (.aload_n 0, 1) := by decide +kernel
theorem dJ0_indexOf_7cf53_30 : decode cJ0_indexOf_7cf53 30 = .ok (.invokevirtual 505, 3) := by decide +kernel
theorem dJ0_indexOf_7cf53_33 : decode cJ0_indexOf_7cf53 33 = .ok (.invokestatic 640, 3) := by decide +kernel
theorem dJ0_indexOf_7cf53_36 : decode cJ0_indexOf_7cf53 36 = .ok (.ireturn, 1) := by decide +kernel
theorem dJ0_coder_7d493_0 : decode cJ0_coder_7d493 0 = .ok (.getstatic 38, 3) := by decide +kernel
theorem dJ0_coder_7d493_3 : decode cJ0_coder_7d493 3 = .ok (.ifCond .eq 10, 3) := by decide +kernel
theorem dJ0_coder_7d493_6 : decode cJ0_coder_7d493 6 = .ok (.aload_n 0, 1) := by decide +kernel
theorem dJ0_coder_7d493_7 : decode cJ0_coder_7d493 7 = .ok (.getfield 15, 3) := by decide +kernel
theorem dJ0_coder_7d493_10 : decode cJ0_coder_7d493 10 = .ok (.goto 4, 3) := by decide +kernel
theorem dJ0_coder_7d493_13 : decode cJ0_coder_7d493 13 = .ok (.iconst 1, 1) := by decide +kernel
theorem dJ0_coder_7d493_14 : decode cJ0_coder_7d493 14 = .ok (.ireturn, 1) := by decide +kernel
theorem dJ0_isLatin1_aae02_0 : decode cJ0_isLatin1_aae02 0 = .ok (.getstatic 38, 3) := by decide +kernel
theorem dJ0_isLatin1_aae02_3 : decode cJ0_isLatin1_aae02 3 = .ok (.ifCond .eq 14, 3) := by decide +kernel
theorem dJ0_isLatin1_aae02_6 : decode cJ0_isLatin1_aae02 6 = .ok (.aload_n 0, 1) := by decide +kernel
theorem dJ0_isLatin1_aae02_7 : decode cJ0_isLatin1_aae02 7 = .ok (.getfield 15, 3) := by decide +kernel
theorem dJ0_isLatin1_aae02_10 : decode cJ0_isLatin1_aae02 10 = .ok (.ifCond .ne 7, 3) := by decide +kernel
theorem dJ0_isLatin1_aae02_13 : decode cJ0_isLatin1_aae02 13 = .ok (.iconst 1, 1) := by decide +kernel
theorem dJ0_isLatin1_aae02_14 : decode cJ0_isLatin1_aae02 14 = .ok (.goto 4, 3) := by decide +kernel
theorem dJ0_isLatin1_aae02_17 : decode cJ0_isLatin1_aae02 17 = .ok (.iconst 0, 1) := by decide +kernel
theorem dJ0_isLatin1_aae02_18 : decode cJ0_isLatin1_aae02 18 = .ok (.ireturn, 1) := by decide +kernel
theorem dJ0_checkBoundsBeginEnd_23922_0 : decode cJ0_checkBoundsBeginEnd_23922 0 = .ok (.iload_n 0, 1) := by decide +kernel
theorem dJ0_checkBoundsBeginEnd_23922_1 : decode cJ0_checkBoundsBeginEnd_23922 1 = .ok (.iload_n 1, 1) := by decide +kernel
theorem dJ0_checkBoundsBeginEnd_23922_2 : decode cJ0_checkBoundsBeginEnd_23922 2 = .ok (.iload_n 2, 1) := by decide +kernel
theorem dJ0_checkBoundsBeginEnd_23922_3 : decode cJ0_checkBoundsBeginEnd_23922 3 = .ok (.getstatic 1053, 3) := by decide +kernel
theorem dJ0_checkBoundsBeginEnd_23922_6 : decode cJ0_checkBoundsBeginEnd_23922 6 = .ok (.invokestatic 1062, 3) := by decide +kernel
theorem dJ0_checkBoundsBeginEnd_23922_9 : decode cJ0_checkBoundsBeginEnd_23922 9 = .ok (.pop, 1) := by decide +kernel
theorem dJ0_checkBoundsBeginEnd_23922_10 : decode cJ0_checkBoundsBeginEnd_23922 10 = .ok (.return_, 1) := by decide +kernel
theorem dJ1_canEncode_9a6ad_0 : decode cJ1_canEncode_9a6ad 0 = .ok (.iload_n 0, 1) := by decide +kernel
theorem dJ1_canEncode_9a6ad_1 : decode cJ1_canEncode_9a6ad 1 = .ok (.ifCond .lt 14, 3) := by decide +kernel
theorem dJ1_canEncode_9a6ad_4 : decode cJ1_canEncode_9a6ad 4 = .ok (.iload_n 0, 1) := by decide +kernel
theorem dJ1_canEncode_9a6ad_5 : decode cJ1_canEncode_9a6ad 5 = .ok (.sipush 255, 3) := by decide +kernel
theorem dJ1_canEncode_9a6ad_8 : decode cJ1_canEncode_9a6ad 8 = .ok (.if_icmp .gt 7, 3) := by decide +kernel
theorem dJ1_canEncode_9a6ad_11 : decode cJ1_canEncode_9a6ad 11 = .ok (.iconst 1, 1) := by decide +kernel
theorem dJ1_canEncode_9a6ad_12 : decode cJ1_canEncode_9a6ad 12 = .ok (.goto 4, 3) := by decide +kernel
theorem dJ1_canEncode_9a6ad_15 : decode cJ1_canEncode_9a6ad 15 = .ok (.iconst 0, 1) := by decide +kernel
theorem dJ1_canEncode_9a6ad_16 : decode cJ1_canEncode_9a6ad 16 = .ok (.ireturn, 1) := by decide +kernel
theorem dJ1_indexOf_4cfef_0 : decode cJ1_indexOf_4cfef 0 = .ok (.iload_n 1, 1) := by decide +kernel
theorem dJ1_indexOf_4cfef_1 : decode cJ1_indexOf_4cfef 1 = .ok (.invokestatic 88, 3) := by decide +kernel
theorem dJ1_indexOf_4cfef_4 : decode cJ1_indexOf_4cfef 4 = .ok (.ifCond .ne 5, 3) := by decide +kernel
theorem dJ1_indexOf_4cfef_7 : decode cJ1_indexOf_4cfef 7 = .ok (.iconst (-1), 1) := by decide +kernel
theorem dJ1_indexOf_4cfef_8 : decode cJ1_indexOf_4cfef 8 = .ok (.ireturn, 1) := by decide +kernel
theorem dJ1_indexOf_4cfef_9 : decode cJ1_indexOf_4cfef 9 = .ok (.iload_n 2, 1) := by decide +kernel
theorem dJ1_indexOf_4cfef_10 : decode cJ1_indexOf_4cfef 10 = .ok (.iconst 0, 1) := by decide +kernel
theorem dJ1_indexOf_4cfef_11 : decode cJ1_indexOf_4cfef 11 = .ok (.invokestatic 92, 3) := by decide +kernel
theorem dJ1_indexOf_4cfef_14 : decode cJ1_indexOf_4cfef 14 = .ok (.istore_n 2, 1) := by decide +kernel
theorem dJ1_indexOf_4cfef_15 : decode cJ1_indexOf_4cfef 15 = .ok (.iload_n 3, 1) := by decide +kernel
theorem dJ1_indexOf_4cfef_16 : decode cJ1_indexOf_4cfef 16 = .ok (.aload_n 0, 1) := by decide +kernel
theorem dJ1_indexOf_4cfef_17 : decode cJ1_indexOf_4cfef 17 = .ok (.arraylength, 1) := by decide +kernel
theorem dJ1_indexOf_4cfef_18 : decode cJ1_indexOf_4cfef 18 = .ok (.invokestatic 38, 3) := by decide +kernel
theorem dJ1_indexOf_4cfef_21 : decode cJ1_indexOf_4cfef 21 = .ok (.istore_n 3, 1) := by decide +kernel
theorem dJ1_indexOf_4cfef_22 : decode cJ1_indexOf_4cfef 22 = .ok (.iload_n 2, 1) := by decide +kernel
theorem dJ1_indexOf_4cfef_23 : decode cJ1_indexOf_4cfef 23 = .ok (.iload_n 3, 1) := by decide +kernel
theorem dJ1_indexOf_4cfef_24 : decode cJ1_indexOf_4cfef 24 = .ok (.if_icmp .lt 5, 3) := by decide +kernel
theorem dJ1_indexOf_4cfef_27 : decode cJ1_indexOf_4cfef 27 = .ok (.iconst (-1), 1) := by decide +kernel
theorem dJ1_indexOf_4cfef_28 : decode cJ1_indexOf_4cfef 28 = .ok (.ireturn, 1) := by decide +kernel
theorem dJ1_indexOf_4cfef_29 : decode cJ1_indexOf_4cfef 29 = .ok (.aload_n 0, 1) := by decide +kernel
theorem dJ1_indexOf_4cfef_30 : decode cJ1_indexOf_4cfef 30 = .ok (.iload_n 1, 1) := by decide +kernel
theorem dJ1_indexOf_4cfef_31 : decode cJ1_indexOf_4cfef 31 = .ok (.iload_n 2, 1) := by decide +kernel
theorem dJ1_indexOf_4cfef_32 : decode cJ1_indexOf_4cfef 32 = .ok (.iload_n 3, 1) := by decide +kernel
theorem dJ1_indexOf_4cfef_33 : decode cJ1_indexOf_4cfef 33 = .ok (.invokestatic 95, 3) := by decide +kernel
theorem dJ1_indexOf_4cfef_36 : decode cJ1_indexOf_4cfef 36 = .ok (.ireturn, 1) := by decide +kernel
theorem dJ1_indexOfChar_4cfef_0 : decode cJ1_indexOfChar_4cfef 0 = .ok (.iload_n 1, 1) := by decide +kernel
theorem dJ1_indexOfChar_4cfef_1 : decode cJ1_indexOfChar_4cfef 1 = .ok (.i2b, 1) := by decide +kernel
theorem dJ1_indexOfChar_4cfef_2 : decode cJ1_indexOfChar_4cfef 2 = .ok (.istore 4, 2) := by decide +kernel
theorem dJ1_indexOfChar_4cfef_4 : decode cJ1_indexOfChar_4cfef 4 = .ok (.iload_n 2, 1) := by decide +kernel
theorem dJ1_indexOfChar_4cfef_5 : decode cJ1_indexOfChar_4cfef 5 = .ok (.istore 5, 2) := by decide +kernel
theorem dJ1_indexOfChar_4cfef_7 : decode cJ1_indexOfChar_4cfef 7 = .ok (.iload 5, 2) := by decide +kernel
theorem dJ1_indexOfChar_4cfef_9 : decode cJ1_indexOfChar_4cfef 9 = .ok (.iload_n 3, 1) := by decide +kernel
theorem dJ1_indexOfChar_4cfef_10 : decode cJ1_indexOfChar_4cfef 10 = .ok (.if_icmp .ge 21, 3) := by decide +kernel
theorem dJ1_indexOfChar_4cfef_13 : decode cJ1_indexOfChar_4cfef 13 = .ok (.aload_n 0, 1) := by decide +kernel
theorem dJ1_indexOfChar_4cfef_14 : decode cJ1_indexOfChar_4cfef 14 = .ok (.iload 5, 2) := by decide +kernel
theorem dJ1_indexOfChar_4cfef_16 : decode cJ1_indexOfChar_4cfef 16 = .ok (.baload, 1) := by decide +kernel
theorem dJ1_indexOfChar_4cfef_17 : decode cJ1_indexOfChar_4cfef 17 = .ok (.iload 4, 2) := by decide +kernel
theorem dJ1_indexOfChar_4cfef_19 : decode cJ1_indexOfChar_4cfef 19 = .ok (.if_icmp .ne 6, 3) := by decide +kernel
theorem dJ1_indexOfChar_4cfef_22 : decode cJ1_indexOfChar_4cfef 22 = .ok (.iload 5, 2) := by decide +kernel
theorem dJ1_indexOfChar_4cfef_24 : decode cJ1_indexOfChar_4cfef 24 = .ok (.ireturn, 1) := by decide +kernel
theorem dJ1_indexOfChar_4cfef_25 : decode cJ1_indexOfChar_4cfef 25 = .ok (.iinc 5 1, 3) := by decide +kernel
theorem dJ1_indexOfChar_4cfef_28 : decode cJ1_indexOfChar_4cfef 28 = .ok (.goto (-21), 3) := by decide +kernel
theorem dJ1_indexOfChar_4cfef_31 : decode cJ1_indexOfChar_4cfef 31 = .ok (.iconst (-1), 1) := by decide +kernel
theorem dJ1_indexOfChar_4cfef_32 : decode cJ1_indexOfChar_4cfef 32 = .ok (.ireturn, 1) := by decide +kernel
theorem dJ2_getChar_3b067_0 : decode cJ2_getChar_3b067 0 = .ok (.getstatic 44, 3) := by decide +kernel
theorem dJ2_getChar_3b067_3 : decode cJ2_getChar_3b067 3 = .ok (.ifCond .ne 25, 3) := by decide +kernel
theorem dJ2_getChar_3b067_6 : decode cJ2_getChar_3b067 6 = .ok (.iload_n 1, 1) := by decide +kernel
theorem dJ2_getChar_3b067_7 : decode cJ2_getChar_3b067 7 = .ok (.ifCond .lt 11, 3) := by decide +kernel
theorem dJ2_getChar_3b067_10 : decode cJ2_getChar_3b067 10 = .ok (.iload_n 1, 1) := by decide +kernel
theorem dJ2_getChar_3b067_11 : decode cJ2_getChar_3b067 11 = .ok (.aload_n 0, 1) := by decide +kernel
theorem dJ2_getChar_3b067_12 : decode cJ2_getChar_3b067 12 = .ok (.invokestatic 48, 3) := by decide +kernel
theorem dJ2_getChar_3b067_15 : decode cJ2_getChar_3b067 15 = .ok (.if_icmp .lt 13, 3) := by decide +kernel
theorem dJ2_getChar_3b067_18 : decode cJ2_getChar_3b067 18 = .ok (.new 52, 3) := by decide +kernel
theorem dJ2_getChar_3b067_21 : decode cJ2_getChar_3b067 21 = .ok (.dup, 1) := by decide +kernel
theorem dJ2_getChar_3b067_22 : decode cJ2_getChar_3b067 22 = .ok (.ldc 54, 2) := by decide +kernel
theorem dJ2_getChar_3b067_24 : decode cJ2_getChar_3b067 24 = .ok (.invokespecial 56, 3) := by decide +kernel
theorem dJ2_getChar_3b067_27 : decode cJ2_getChar_3b067 27 = .ok (.athrow, 1) := by decide +kernel
theorem dJ2_getChar_3b067_28 : decode cJ2_getChar_3b067 28 = .ok (.iload_n 1, 1) := by decide +kernel
theorem dJ2_getChar_3b067_29 : decode cJ2_getChar_3b067 29 = .ok (.iconst 1, 1) := by decide +kernel
theorem dJ2_getChar_3b067_30 : decode cJ2_getChar_3b067 30 = .ok (.ishl, 1) := by decide +kernel
theorem dJ2_getChar_3b067_31 : decode cJ2_getChar_3b067 31 = .ok (.istore_n 1, 1) := by decide +kernel
theorem dJ2_getChar_3b067_32 : decode cJ2_getChar_3b067 32 = .ok (.aload_n 0, 1) := by decide +kernel
theorem dJ2_getChar_3b067_33 : decode cJ2_getChar_3b067 33 = .ok (.iload_n 1, 1) := by decide +kernel
theorem dJ2_getChar_3b067_34 : decode cJ2_getChar_3b067 34 = .ok (.iinc 1 1, 3) := by decide +kernel
theorem dJ2_getChar_3b067_37 : decode cJ2_getChar_3b067 37 = .ok (.baload, 1) := by decide +kernel
theorem dJ2_getChar_3b067_38 : decode cJ2_getChar_3b067 38 = .ok (.sipush 255, 3) := by decide +kernel
theorem dJ2_getChar_3b067_41 : decode cJ2_getChar_3b067 41 = .ok (.iand, 1) := by decide +kernel
theorem dJ2_getChar_3b067_42 : decode cJ2_getChar_3b067 42 = .ok (.getstatic 59, 3) := by decide +kernel
theorem dJ2_getChar_3b067_45 : decode cJ2_getChar_3b067 45 = .ok (.ishl, 1) := by decide +kernel
theorem dJ2_getChar_3b067_46 : decode cJ2_getChar_3b067 46 = .ok (.aload_n 0, 1) := by decide +kernel
theorem dJ2_getChar_3b067_47 : decode cJ2_getChar_3b067 47 = .ok (.iload_n 1, 1) := by decide +kernel
theorem dJ2_getChar_3b067_48 : decode cJ2_getChar_3b067 48 = .ok (.baload, 1) := by decide +kernel
theorem dJ2_getChar_3b067_49 : decode cJ2_getChar_3b067 49 = .ok (.sipush 255, 3) := by decide +kernel
theorem dJ2_getChar_3b067_52 : decode cJ2_getChar_3b067 52 = .ok (.iand, 1) := by decide +kernel
theorem dJ2_getChar_3b067_53 : decode cJ2_getChar_3b067 53 = .ok (.getstatic 63, 3) := by decide +kernel
theorem dJ2_getChar_3b067_56 : decode cJ2_getChar_3b067 56 = .ok (.ishl, 1) := by decide +kernel
theorem dJ2_getChar_3b067_57 : decode cJ2_getChar_3b067 57 = .ok (.ior, 1) := by decide +kernel
theorem dJ2_getChar_3b067_58 : decode cJ2_getChar_3b067 58 = .ok (.i2c, 1) := by decide +kernel
theorem dJ2_getChar_3b067_59 : decode cJ2_getChar_3b067 59 = .ok (.ireturn, 1) := by decide +kernel
theorem dJ2_length_9d52b_0 : decode cJ2_length_9d52b 0 = .ok (.aload_n 0, 1) := by decide +kernel
theorem dJ2_length_9d52b_1 : decode cJ2_length_9d52b 1 = .ok (.arraylength, 1) := by decide +kernel
theorem dJ2_length_9d52b_2 : decode cJ2_length_9d52b 2 = .ok (.iconst 1, 1) := by decide +kernel
theorem dJ2_length_9d52b_3 : decode cJ2_length_9d52b 3 = .ok (.ishr, 1) := by decide +kernel
theorem dJ2_length_9d52b_4 : decode cJ2_length_9d52b 4 = .ok (.ireturn, 1) := by decide +kernel
theorem dJ2_indexOf_4cfef_0 : decode cJ2_indexOf_4cfef 0 = .ok (.iload_n 2, 1) := by decide +kernel
theorem dJ2_indexOf_4cfef_1 : decode cJ2_indexOf_4cfef 1 = .ok (.iconst 0, 1) := by decide +kernel
theorem dJ2_indexOf_4cfef_2 : decode cJ2_indexOf_4cfef 2 = .ok (.invokestatic 224, 3) := by decide +kernel
theorem dJ2_indexOf_4cfef_5 : decode cJ2_indexOf_4cfef 5 = .ok (.istore_n 2, 1) := by decide +kernel
theorem dJ2_indexOf_4cfef_6 : decode cJ2_indexOf_4cfef 6 = .ok (.iload_n 3, 1) := by decide +kernel
theorem dJ2_indexOf_4cfef_7 : decode cJ2_indexOf_4cfef 7 = .ok (.aload_n 0, 1) := by decide +kernel
theorem dJ2_indexOf_4cfef_8 : decode cJ2_indexOf_4cfef 8 = .ok (.arraylength, 1) := by decide +kernel
theorem dJ2_indexOf_4cfef_9 : decode cJ2_indexOf_4cfef 9 = .ok (.iconst 1, 1) := by decide +kernel
theorem dJ2_indexOf_4cfef_10 : decode cJ2_indexOf_4cfef 10 = .ok (.ishr, 1) := by decide +kernel
theorem dJ2_indexOf_4cfef_11 : decode cJ2_indexOf_4cfef 11 = .ok (.invokestatic 183, 3) := by decide +kernel
theorem dJ2_indexOf_4cfef_14 : decode cJ2_indexOf_4cfef 14 = .ok (.istore_n 3, 1) := by decide +kernel
theorem dJ2_indexOf_4cfef_15 : decode cJ2_indexOf_4cfef 15 = .ok (.iload_n 2, 1) := by decide +kernel
theorem dJ2_indexOf_4cfef_16 : decode cJ2_indexOf_4cfef 16 = .ok (.iload_n 3, 1) := by decide +kernel
theorem dJ2_indexOf_4cfef_17 : decode cJ2_indexOf_4cfef 17 = .ok (.if_icmp .lt 5, 3) := by decide +kernel
theorem dJ2_indexOf_4cfef_20 : decode cJ2_indexOf_4cfef 20 = .ok (.iconst (-1), 1) := by decide +kernel
theorem dJ2_indexOf_4cfef_21 : decode cJ2_indexOf_4cfef 21 = .ok (.ireturn, 1) := by decide +kernel
theorem dJ2_indexOf_4cfef_22 : decode cJ2_indexOf_4cfef 22 = .ok (.iload_n 1, 1) := by decide +kernel
theorem dJ2_indexOf_4cfef_23 : decode cJ2_indexOf_4cfef 23 = .ok (.ldc 227, 2) := by decide +kernel
theorem dJ2_indexOf_4cfef_25 : decode cJ2_indexOf_4cfef 25 = .ok (.if_icmp .ge 11, 3) := by decide +kernel
theorem dJ2_indexOf_4cfef_28 : decode cJ2_indexOf_4cfef 28 = .ok (.aload_n 0, 1) := by decide +kernel
theorem dJ2_indexOf_4cfef_29 : decode cJ2_indexOf_4cfef 29 = .ok (.iload_n 1, 1) := by decide +kernel
theorem dJ2_indexOf_4cfef_30 : decode cJ2_indexOf_4cfef 30 = .ok (.iload_n 2, 1) := by decide +kernel
theorem dJ2_indexOf_4cfef_31 : decode cJ2_indexOf_4cfef 31 = .ok (.iload_n 3, 1) := by decide +kernel
theorem dJ2_indexOf_4cfef_32 : decode cJ2_indexOf_4cfef 32 = .ok (.invokestatic 228, 3) := by decide +kernel
theorem dJ2_indexOf_4cfef_35 : decode cJ2_indexOf_4cfef 35 = .ok (.ireturn, 1) := by decide +kernel
theorem dJ2_indexOf_4cfef_36 : decode cJ2_indexOf_4cfef 36 = .ok (.aload_n 0, 1) := by decide +kernel
theorem dJ2_indexOf_4cfef_37 : decode cJ2_indexOf_4cfef 37 = .ok (.iload_n 1, 1) := by decide +kernel
theorem dJ2_indexOf_4cfef_38 : decode cJ2_indexOf_4cfef 38 = .ok (.iload_n 2, 1) := by decide +kernel
theorem dJ2_indexOf_4cfef_39 : decode cJ2_indexOf_4cfef 39 = .ok (.iload_n 3, 1) := by decide +kernel
theorem dJ2_indexOf_4cfef_40 : decode cJ2_indexOf_4cfef 40 = .ok (.invokestatic 232, 3) := by decide +kernel
theorem dJ2_indexOf_4cfef_43 : decode cJ2_indexOf_4cfef 43 = .ok (.ireturn, 1) := by decide +kernel
theorem dJ2_indexOfChar_4cfef_0 : decode cJ2_indexOfChar_4cfef 0 = .ok (.iload_n 2, 1) := by decide +kernel
theorem dJ2_indexOfChar_4cfef_1 : decode cJ2_indexOfChar_4cfef 1 = .ok (.iload_n 3, 1) := by decide +kernel
theorem dJ2_indexOfChar_4cfef_2 : decode cJ2_indexOfChar_4cfef 2 = .ok (.aload_n 0, 1) := by decide +kernel
theorem dJ2_indexOfChar_4cfef_3 : decode cJ2_indexOfChar_4cfef 3 = .ok (.invokestatic 96, 3) := by decide +kernel
theorem dJ2_indexOfChar_4cfef_6 : decode cJ2_indexOfChar_4cfef 6 = .ok (.aload_n 0, 1) := by decide +kernel
theorem dJ2_indexOfChar_4cfef_7 : decode cJ2_indexOfChar_4cfef 7 = .ok (.iload_n 1, 1) := by decide +kernel
theorem dJ2_indexOfChar_4cfef_8 : decode cJ2_indexOfChar_4cfef 8 = .ok (.iload_n 2, 1) := by decide +kernel
theorem dJ2_indexOfChar_4cfef_9 : decode cJ2_indexOfChar_4cfef 9 = .ok (.iload_n 3, 1) := by decide +kernel
theorem dJ2_indexOfChar_4cfef_10 : decode cJ2_indexOfChar_4cfef 10 = .ok (.invokestatic 244, 3) := by decide +kernel
theorem dJ2_indexOfChar_4cfef_13 : decode cJ2_indexOfChar_4cfef 13 = .ok (.ireturn, 1) := by decide +kernel
theorem dJ2_indexOfCharUnsafe_4cfef_0 : decode cJ2_indexOfCharUnsafe_4cfef 0 = .ok (.iload_n 2, 1) := by decide +kernel
theorem dJ2_indexOfCharUnsafe_4cfef_1 : decode cJ2_indexOfCharUnsafe_4cfef 1 = .ok (.istore 4, 2) := by decide +kernel
theorem dJ2_indexOfCharUnsafe_4cfef_3 : decode cJ2_indexOfCharUnsafe_4cfef 3 = .ok (.iload 4, 2) := by decide +kernel
theorem dJ2_indexOfCharUnsafe_4cfef_5 : decode cJ2_indexOfCharUnsafe_4cfef 5 = .ok (.iload_n 3, 1) := by decide +kernel
theorem dJ2_indexOfCharUnsafe_4cfef_6 : decode cJ2_indexOfCharUnsafe_4cfef 6 = .ok (.if_icmp .ge 22, 3) := by decide +kernel
theorem dJ2_indexOfCharUnsafe_4cfef_9 : decode cJ2_indexOfCharUnsafe_4cfef 9 = .ok (.aload_n 0, 1) := by decide +kernel
theorem dJ2_indexOfCharUnsafe_4cfef_10 : decode cJ2_indexOfCharUnsafe_4cfef 10 = .ok (.iload 4, 2) := by decide +kernel
theorem dJ2_indexOfCharUnsafe_4cfef_12 : decode cJ2_indexOfCharUnsafe_4cfef 12 = .ok (.invokestatic 71, 3) := by decide +kernel
theorem dJ2_indexOfCharUnsafe_4cfef_15 : decode cJ2_indexOfCharUnsafe_4cfef 15 = .ok (.iload_n 1, 1) := by decide +kernel
theorem dJ2_indexOfCharUnsafe_4cfef_16 : decode cJ2_indexOfCharUnsafe_4cfef 16 = .ok (.if_icmp .ne 6, 3) := by decide +kernel
theorem dJ2_indexOfCharUnsafe_4cfef_19 : decode cJ2_indexOfCharUnsafe_4cfef 19 = .ok (.iload 4, 2) := by decide +kernel
theorem dJ2_indexOfCharUnsafe_4cfef_21 : decode cJ2_indexOfCharUnsafe_4cfef 21 = .ok (.ireturn, 1) := by decide +kernel
theorem dJ2_indexOfCharUnsafe_4cfef_22 : decode cJ2_indexOfCharUnsafe_4cfef 22 = .ok (.iinc 4 1, 3) := by decide +kernel
theorem dJ2_indexOfCharUnsafe_4cfef_25 : decode cJ2_indexOfCharUnsafe_4cfef 25 = .ok (.goto (-22), 3) := by decide +kernel
theorem dJ2_indexOfCharUnsafe_4cfef_28 : decode cJ2_indexOfCharUnsafe_4cfef 28 = .ok (.iconst (-1), 1) := by decide +kernel
theorem dJ2_indexOfCharUnsafe_4cfef_29 : decode cJ2_indexOfCharUnsafe_4cfef 29 = .ok (.ireturn, 1) := by decide +kernel
theorem dJ2_indexOfSupplementary_4cfef_0 : decode cJ2_indexOfSupplementary_4cfef 0 = .ok (.iload_n 1, 1) := by decide +kernel
theorem dJ2_indexOfSupplementary_4cfef_1 : decode cJ2_indexOfSupplementary_4cfef 1 = .ok (.invokestatic 164, 3) := by decide +kernel
theorem dJ2_indexOfSupplementary_4cfef_4 : decode cJ2_indexOfSupplementary_4cfef 4 = .ok (.ifCond .eq 65, 3) := by decide +kernel
theorem dJ2_indexOfSupplementary_4cfef_7 : decode cJ2_indexOfSupplementary_4cfef 7 = .ok (.iload_n 1, 1) := by decide +kernel
theorem dJ2_indexOfSupplementary_4cfef_8 : decode cJ2_indexOfSupplementary_4cfef 8 = .ok (.invokestatic 157, 3) := by decide +kernel
theorem dJ2_indexOfSupplementary_4cfef_11 : decode cJ2_indexOfSupplementary_4cfef 11 = .ok (.istore 4, 2) := by decide +kernel
theorem dJ2_indexOfSupplementary_4cfef_13 : decode cJ2_indexOfSupplementary_4cfef 13 = .ok (.iload_n 1, 1) := by decide +kernel
theorem dJ2_indexOfSupplementary_4cfef_14 : decode cJ2_indexOfSupplementary_4cfef 14 = .ok (.invokestatic 161, 3) := by decide +kernel
theorem dJ2_indexOfSupplementary_4cfef_17 : decode cJ2_indexOfSupplementary_4cfef 17 = .ok (.istore 5, 2) := by decide +kernel
theorem dJ2_indexOfSupplementary_4cfef_19 : decode cJ2_indexOfSupplementary_4cfef 19 = .ok (.iload_n 2, 1) := by decide +kernel
theorem dJ2_indexOfSupplementary_4cfef_20 : decode cJ2_indexOfSupplementary_4cfef 20 = .ok (.iload_n 3, 1) := by decide +kernel
theorem dJ2_indexOfSupplementary_4cfef_21 : decode cJ2_indexOfSupplementary_4cfef 21 = .ok (.aload_n 0, 1) := by decide +kernel
theorem dJ2_indexOfSupplementary_4cfef_22 : decode cJ2_indexOfSupplementary_4cfef 22 = .ok (.invokestatic 96, 3) := by decide +kernel
theorem dJ2_indexOfSupplementary_4cfef_25 : decode cJ2_indexOfSupplementary_4cfef 25 = .ok (.iload_n 2, 1) := by decide +kernel
theorem dJ2_indexOfSupplementary_4cfef_26 : decode cJ2_indexOfSupplementary_4cfef 26 = .ok (.istore 6, 2) := by decide +kernel
theorem dJ2_indexOfSupplementary_4cfef_28 : decode cJ2_indexOfSupplementary_4cfef 28 = .ok (.iload 6, 2) := by decide +kernel
theorem dJ2_indexOfSupplementary_4cfef_30 : decode cJ2_indexOfSupplementary_4cfef 30 = .ok (.iload_n 3, 1) := by decide +kernel
theorem dJ2_indexOfSupplementary_4cfef_31 : decode cJ2_indexOfSupplementary_4cfef 31 = .ok (.iconst 1, 1) := by decide +kernel
theorem dJ2_indexOfSupplementary_4cfef_32 : decode cJ2_indexOfSupplementary_4cfef 32 = .ok (.isub, 1) := by decide +kernel
theorem dJ2_indexOfSupplementary_4cfef_33 : decode cJ2_indexOfSupplementary_4cfef 33 = .ok (.if_icmp .ge 36, 3) := by decide +kernel
theorem dJ2_indexOfSupplementary_4cfef_36 : decode cJ2_indexOfSupplementary_4cfef 36 = .ok (.aload_n 0, 1) := by decide +kernel
theorem dJ2_indexOfSupplementary_4cfef_37 : decode cJ2_indexOfSupplementary_4cfef 37 = .ok (.iload 6, 2) := by decide +kernel
theorem dJ2_indexOfSupplementary_4cfef_39 : decode cJ2_indexOfSupplementary_4cfef 39 = .ok (.invokestatic 71, 3) := by decide +kernel
theorem dJ2_indexOfSupplementary_4cfef_42 : decode cJ2_indexOfSupplementary_4cfef 42 = .ok (.iload 4, 2) := by decide +kernel
theorem dJ2_indexOfSupplementary_4cfef_44 : decode cJ2_indexOfSupplementary_4cfef 44 = .ok (.if_icmp .ne 19, 3) := by decide +kernel
theorem dJ2_indexOfSupplementary_4cfef_47 : decode cJ2_indexOfSupplementary_4cfef 47 = .ok (.aload_n 0, 1) := by decide +kernel
theorem dJ2_indexOfSupplementary_4cfef_48 : decode cJ2_indexOfSupplementary_4cfef 48 = .ok (.iload 6, 2) := by decide +kernel
theorem dJ2_indexOfSupplementary_4cfef_50 : decode cJ2_indexOfSupplementary_4cfef 50 = .ok (.iconst 1, 1) := by decide +kernel
theorem dJ2_indexOfSupplementary_4cfef_51 : decode cJ2_indexOfSupplementary_4cfef 51 = .ok (.iadd, 1) := by decide +kernel
theorem dJ2_indexOfSupplementary_4cfef_52 : decode cJ2_indexOfSupplementary_4cfef 52 = .ok (.invokestatic 71, 3) := by decide +kernel
theorem dJ2_indexOfSupplementary_4cfef_55 : decode cJ2_indexOfSupplementary_4cfef 55 = .ok (.iload 5, 2) := by decide +kernel
theorem dJ2_indexOfSupplementary_4cfef_57 : decode cJ2_indexOfSupplementary_4cfef 57 = .ok (.if_icmp .ne 6, 3) := by decide +kernel
theorem dJ2_indexOfSupplementary_4cfef_60 : decode cJ2_indexOfSupplementary_4cfef 60 = .ok (.iload 6, 2) := by decide +kernel
theorem dJ2_indexOfSupplementary_4cfef_62 : decode cJ2_indexOfSupplementary_4cfef 62 = .ok (.ireturn, 1) := by decide +kernel
theorem dJ2_indexOfSupplementary_4cfef_63 : decode cJ2_indexOfSupplementary_4cfef 63 = .ok (.iinc 6 1, 3) := by decide +kernel
theorem dJ2_indexOfSupplementary_4cfef_66 : decode cJ2_indexOfSupplementary_4cfef 66 = .ok (.goto (-38), 3) := by decide +kernel
theorem dJ2_indexOfSupplementary_4cfef_69 : decode cJ2_indexOfSupplementary_4cfef 69 = .ok (.iconst (-1), 1) := by decide +kernel
theorem dJ2_indexOfSupplementary_4cfef_70 : decode cJ2_indexOfSupplementary_4cfef 70 = .ok (.ireturn, 1) := by decide +kernel
theorem dJ2_checkBoundsBeginEnd_d044e_0 : decode cJ2_checkBoundsBeginEnd_d044e 0 = .ok (.iload_n 0, 1) := by decide +kernel
theorem dJ2_checkBoundsBeginEnd_d044e_1 : decode cJ2_checkBoundsBeginEnd_d044e 1 = .ok (.iload_n 1, 1) := by decide +kernel
theorem dJ2_checkBoundsBeginEnd_d044e_2 : decode cJ2_checkBoundsBeginEnd_d044e 2 = .ok (.aload_n 2, 1) := by decide +kernel
theorem dJ2_checkBoundsBeginEnd_d044e_3 : decode cJ2_checkBoundsBeginEnd_d044e 3 = .ok (.invokestatic 48, 3) := by decide +kernel
theorem dJ2_checkBoundsBeginEnd_d044e_6 : decode cJ2_checkBoundsBeginEnd_d044e 6 = .ok (.invokestatic 241, 3) := by decide +kernel
theorem dJ2_checkBoundsBeginEnd_d044e_9 : decode cJ2_checkBoundsBeginEnd_d044e 9 = .ok (.return_, 1) := by decide +kernel
theorem dJ3_checkFromToIndex_8c36e_0 : decode cJ3_checkFromToIndex_8c36e 0 = .ok (.iload_n 0, 1) := by decide +kernel
theorem dJ3_checkFromToIndex_8c36e_1 : decode cJ3_checkFromToIndex_8c36e 1 = .ok (.ifCond .lt 13, 3) := by decide +kernel
theorem dJ3_checkFromToIndex_8c36e_4 : decode cJ3_checkFromToIndex_8c36e 4 = .ok (.iload_n 0, 1) := by decide +kernel
theorem dJ3_checkFromToIndex_8c36e_5 : decode cJ3_checkFromToIndex_8c36e 5 = .ok (.iload_n 1, 1) := by decide +kernel
theorem dJ3_checkFromToIndex_8c36e_6 : decode cJ3_checkFromToIndex_8c36e 6 = .ok (.if_icmp .gt 8, 3) := by decide +kernel
theorem dJ3_checkFromToIndex_8c36e_9 : decode cJ3_checkFromToIndex_8c36e 9 = .ok (.iload_n 1, 1) := by decide +kernel
theorem dJ3_checkFromToIndex_8c36e_10 : decode cJ3_checkFromToIndex_8c36e 10 = .ok (.iload_n 2, 1) := by decide +kernel
theorem dJ3_checkFromToIndex_8c36e_11 : decode cJ3_checkFromToIndex_8c36e 11 = .ok (.if_icmp .le 11, 3) := by decide +kernel
theorem dJ3_checkFromToIndex_8c36e_14 : decode cJ3_checkFromToIndex_8c36e 14 = .ok (.aload_n 3, 1) := by decide +kernel
theorem dJ3_checkFromToIndex_8c36e_15 : decode cJ3_checkFromToIndex_8c36e 15 = .ok (.iload_n 0, 1) := by decide +kernel
theorem dJ3_checkFromToIndex_8c36e_16 : decode cJ3_checkFromToIndex_8c36e 16 = .ok (.iload_n 1, 1) := by decide +kernel
theorem dJ3_checkFromToIndex_8c36e_17 : decode cJ3_checkFromToIndex_8c36e 17 = .ok (.iload_n 2, 1) := by decide +kernel
theorem dJ3_checkFromToIndex_8c36e_18 : decode cJ3_checkFromToIndex_8c36e 18 = .ok (.invokestatic 99, 3) := by decide +kernel
theorem dJ3_checkFromToIndex_8c36e_21 : decode cJ3_checkFromToIndex_8c36e 21 = .ok (.athrow, 1) := by decide +kernel
theorem dJ3_checkFromToIndex_8c36e_22 : decode cJ3_checkFromToIndex_8c36e 22 = .ok (.iload_n 0, 1) := by decide +kernel
theorem dJ3_checkFromToIndex_8c36e_23 : decode cJ3_checkFromToIndex_8c36e 23 = .ok (.ireturn, 1) := by decide +kernel
theorem dL_append_0 : decode cL_append 0 = .ok (.aload_n 2, 1) := by decide +kernel
theorem dL_append_1 : decode cL_append 1 = .ok (.iconst 0, 1) := by decide +kernel
theorem dL_append_2 : decode cL_append 2 = .ok (.aload_n 0, 1) := by decide +kernel
theorem dL_append_3 : decode cL_append 3 = .ok (.iload_n 1, 1) := by decide +kernel
theorem dL_append_4 : decode cL_append 4 = .ok (.invokevirtual 7, 3) := by decide +kernel
theorem dL_append_7 : decode cL_append 7 = .ok (.i2l, 1) := by decide +kernel
theorem dL_append_8 : decode cL_append 8 = .ok (.lastore, 1) := by decide +kernel
theorem dL_append_9 : decode cL_append 9 = .ok (.goto 9, 3) := by decide +kernel
theorem dL_append_12 : decode cL_append 12 = .ok (.astore_n 3, 1) := by decide +kernel
theorem dL_append_13 : decode cL_append 13 = .ok (.iconst 1, 1) := by decide +kernel
theorem dL_append_14 : decode cL_append 14 = .ok (.ireturn, 1) := by decide +kernel
theorem dL_append_15 : decode cL_append 15 = .ok (.astore_n 3, 1) := by decide +kernel
theorem dL_append_16 : decode cL_append 16 = .ok (.iconst 2, 1) := by decide +kernel
theorem dL_append_17 : decode cL_append 17 = .ok (.ireturn, 1) := by decide +kernel
theorem dL_append_18 : decode cL_append 18 = .ok (.iconst 0, 1) := by decide +kernel
theorem dL_append_19 : decode cL_append 19 = .ok (.ireturn, 1) := by decide +kernel
theorem dL_execute_0 : decode cL_execute 0 = .ok (.aload_n 1, 1) := by decide +kernel
theorem dL_execute_1 : decode cL_execute 1 = .ok (.iconst 0, 1) := by decide +kernel
theorem dL_execute_2 : decode cL_execute 2 = .ok (.aload_n 0, 1) := by decide +kernel
theorem dL_execute_3 : decode cL_execute 3 = .ok (.invokevirtual 17, 3) := by decide +kernel
theorem dL_execute_6 : decode cL_execute 6 = .ok (.i2l, 1) := by decide +kernel
theorem dL_execute_7 : decode cL_execute 7 = .ok (.lastore, 1) := by decide +kernel
theorem dL_execute_8 : decode cL_execute 8 = .ok (.goto 9, 3) := by decide +kernel
theorem dL_execute_11 : decode cL_execute 11 = .ok (.astore_n 2, 1) := by decide +kernel
theorem dL_execute_12 : decode cL_execute 12 = .ok (.iconst 1, 1) := by decide +kernel
theorem dL_execute_13 : decode cL_execute 13 = .ok (.ireturn, 1) := by decide +kernel
theorem dL_execute_14 : decode cL_execute 14 = .ok (.astore_n 2, 1) := by decide +kernel
theorem dL_execute_15 : decode cL_execute 15 = .ok (.iconst 2, 1) := by decide +kernel
theorem dL_execute_16 : decode cL_execute 16 = .ok (.ireturn, 1) := by decide +kernel
theorem dL_execute_17 : decode cL_execute 17 = .ok (.iconst 0, 1) := by decide +kernel
theorem dL_execute_18 : decode cL_execute 18 = .ok (.ireturn, 1) := by decide +kernel
theorem dL_program_0 : decode cL_program 0 = .ok (.aload_n 3, 1) := by decide +kernel
theorem dL_program_1 : decode cL_program 1 = .ok (.iconst 0, 1) := by decide +kernel
theorem dL_program_2 : decode cL_program 2 = .ok (.aload_n 0, 1) := by decide +kernel
theorem dL_program_3 : decode cL_program 3 = .ok (.iload_n 1, 1) := by decide +kernel
theorem dL_program_4 : decode cL_program 4 = .ok (.iload_n 2, 1) := by decide +kernel
theorem dL_program_5 : decode cL_program 5 = .ok (.invokevirtual 21, 3) := by decide +kernel
theorem dL_program_8 : decode cL_program 8 = .ok (.i2l, 1) := by decide +kernel
theorem dL_program_9 : decode cL_program 9 = .ok (.lastore, 1) := by decide +kernel
theorem dL_program_10 : decode cL_program 10 = .ok (.goto 7, 3) := by decide +kernel
theorem dL_program_13 : decode cL_program 13 = .ok (.astore 4, 2) := by decide +kernel
theorem dL_program_15 : decode cL_program 15 = .ok (.iconst 1, 1) := by decide +kernel
theorem dL_program_16 : decode cL_program 16 = .ok (.ireturn, 1) := by decide +kernel
theorem dL_program_17 : decode cL_program 17 = .ok (.iconst 0, 1) := by decide +kernel
theorem dL_program_18 : decode cL_program 18 = .ok (.ireturn, 1) := by decide +kernel
theorem dL_start_0 : decode cL_start 0 = .ok (.aload_n 2, 1) := by decide +kernel
theorem dL_start_1 : decode cL_start 1 = .ok (.iconst 0, 1) := by decide +kernel
theorem dL_start_2 : decode cL_start 2 = .ok (.aload_n 0, 1) := by decide +kernel
theorem dL_start_3 : decode cL_start 3 = .ok (.iload_n 1, 1) := by decide +kernel
theorem dL_start_4 : decode cL_start 4 = .ok (.invokevirtual 27, 3) := by decide +kernel
theorem dL_start_7 : decode cL_start 7 = .ok (.i2l, 1) := by decide +kernel
theorem dL_start_8 : decode cL_start 8 = .ok (.lastore, 1) := by decide +kernel
theorem dL_start_9 : decode cL_start 9 = .ok (.goto 9, 3) := by decide +kernel
theorem dL_start_12 : decode cL_start 12 = .ok (.astore_n 3, 1) := by decide +kernel
theorem dL_start_13 : decode cL_start 13 = .ok (.iconst 1, 1) := by decide +kernel
theorem dL_start_14 : decode cL_start 14 = .ok (.ireturn, 1) := by decide +kernel
theorem dL_start_15 : decode cL_start 15 = .ok (.astore_n 3, 1) := by decide +kernel
theorem dL_start_16 : decode cL_start 16 = .ok (.iconst 2, 1) := by decide +kernel
theorem dL_start_17 : decode cL_start 17 = .ok (.ireturn, 1) := by decide +kernel
theorem dL_start_18 : decode cL_start 18 = .ok (.iconst 0, 1) := by decide +kernel
theorem dL_start_19 : decode cL_start 19 = .ok (.ireturn, 1) := by decide +kernel
theorem dL_cancel_0 : decode cL_cancel 0 = .ok (.aload_n 2, 1) := by decide +kernel
theorem dL_cancel_1 : decode cL_cancel 1 = .ok (.iconst 0, 1) := by decide +kernel
theorem dL_cancel_2 : decode cL_cancel 2 = .ok (.aload_n 0, 1) := by decide +kernel
theorem dL_cancel_3 : decode cL_cancel 3 = .ok (.iload_n 1, 1) := by decide +kernel
theorem dL_cancel_4 : decode cL_cancel 4 = .ok (.invokevirtual 30, 3) := by decide +kernel
theorem dL_cancel_7 : decode cL_cancel 7 = .ok (.i2l, 1) := by decide +kernel
theorem dL_cancel_8 : decode cL_cancel 8 = .ok (.lastore, 1) := by decide +kernel
theorem dL_cancel_9 : decode cL_cancel 9 = .ok (.goto 6, 3) := by decide +kernel
theorem dL_cancel_12 : decode cL_cancel 12 = .ok (.astore_n 3, 1) := by decide +kernel
theorem dL_cancel_13 : decode cL_cancel 13 = .ok (.iconst 1, 1) := by decide +kernel
theorem dL_cancel_14 : decode cL_cancel 14 = .ok (.ireturn, 1) := by decide +kernel
theorem dL_cancel_15 : decode cL_cancel 15 = .ok (.iconst 0, 1) := by decide +kernel
theorem dL_cancel_16 : decode cL_cancel 16 = .ok (.ireturn, 1) := by decide +kernel
theorem dL_run_0 : decode cL_run 0 = .ok (.aload_n 2, 1) := by decide +kernel
theorem dL_run_1 : decode cL_run 1 = .ok (.iconst 0, 1) := by decide +kernel
theorem dL_run_2 : decode cL_run 2 = .ok (.aload_n 0, 1) := by decide +kernel
theorem dL_run_3 : decode cL_run 3 = .ok (.iload_n 1, 1) := by decide +kernel
theorem dL_run_4 : decode cL_run 4 = .ok (.invokevirtual 33, 3) := by decide +kernel
theorem dL_run_7 : decode cL_run 7 = .ok (.i2l, 1) := by decide +kernel
theorem dL_run_8 : decode cL_run 8 = .ok (.lastore, 1) := by decide +kernel
theorem dL_run_9 : decode cL_run 9 = .ok (.goto 6, 3) := by decide +kernel
theorem dL_run_12 : decode cL_run 12 = .ok (.astore_n 3, 1) := by decide +kernel
theorem dL_run_13 : decode cL_run 13 = .ok (.iconst 1, 1) := by decide +kernel
theorem dL_run_14 : decode cL_run 14 = .ok (.ireturn, 1) := by decide +kernel
theorem dL_run_15 : decode cL_run 15 = .ok (.iconst 0, 1) := by decide +kernel
theorem dL_run_16 : decode cL_run 16 = .ok (.ireturn, 1) := by decide +kernel
theorem dL_task_0 : decode cL_task 0 = .ok (.aload_n 3, 1) := by decide +kernel
theorem dL_task_1 : decode cL_task 1 = .ok (.iconst 0, 1) := by decide +kernel
theorem dL_task_2 : decode cL_task 2 = .ok (.aload_n 0, 1) := by decide +kernel
theorem dL_task_3 : decode cL_task 3 = .ok (.iload_n 1, 1) := by decide +kernel
theorem dL_task_4 : decode cL_task 4 = .ok (.iload_n 2, 1) := by decide +kernel
theorem dL_task_5 : decode cL_task 5 = .ok (.invokevirtual 36, 3) := by decide +kernel
theorem dL_task_8 : decode cL_task 8 = .ok (.i2l, 1) := by decide +kernel
theorem dL_task_9 : decode cL_task 9 = .ok (.lastore, 1) := by decide +kernel
theorem dL_task_10 : decode cL_task 10 = .ok (.goto 11, 3) := by decide +kernel
theorem dL_task_13 : decode cL_task 13 = .ok (.astore 4, 2) := by decide +kernel
theorem dL_task_15 : decode cL_task 15 = .ok (.iconst 1, 1) := by decide +kernel
theorem dL_task_16 : decode cL_task 16 = .ok (.ireturn, 1) := by decide +kernel
theorem dL_task_17 : decode cL_task 17 = .ok (.astore 4, 2) := by decide +kernel
theorem dL_task_19 : decode cL_task 19 = .ok (.iconst 2, 1) := by decide +kernel
theorem dL_task_20 : decode cL_task 20 = .ok (.ireturn, 1) := by decide +kernel
theorem dL_task_21 : decode cL_task 21 = .ok (.iconst 0, 1) := by decide +kernel
theorem dL_task_22 : decode cL_task 22 = .ok (.ireturn, 1) := by decide +kernel
theorem dL_scope_0 : decode cL_scope 0 = .ok (.aload_n 3, 1) := by decide +kernel
theorem dL_scope_1 : decode cL_scope 1 = .ok (.iconst 0, 1) := by decide +kernel
theorem dL_scope_2 : decode cL_scope 2 = .ok (.aload_n 0, 1) := by decide +kernel
theorem dL_scope_3 : decode cL_scope 3 = .ok (.iload_n 1, 1) := by decide +kernel
theorem dL_scope_4 : decode cL_scope 4 = .ok (.iload_n 2, 1) := by decide +kernel
theorem dL_scope_5 : decode cL_scope 5 = .ok (.invokevirtual 39, 3) := by decide +kernel
theorem dL_scope_8 : decode cL_scope 8 = .ok (.i2l, 1) := by decide +kernel
theorem dL_scope_9 : decode cL_scope 9 = .ok (.lastore, 1) := by decide +kernel
theorem dL_scope_10 : decode cL_scope 10 = .ok (.goto 11, 3) := by decide +kernel
theorem dL_scope_13 : decode cL_scope 13 = .ok (.astore 4, 2) := by decide +kernel
theorem dL_scope_15 : decode cL_scope 15 = .ok (.iconst 1, 1) := by decide +kernel
theorem dL_scope_16 : decode cL_scope 16 = .ok (.ireturn, 1) := by decide +kernel
theorem dL_scope_17 : decode cL_scope 17 = .ok (.astore 4, 2) := by decide +kernel
theorem dL_scope_19 : decode cL_scope 19 = .ok (.iconst 2, 1) := by decide +kernel
theorem dL_scope_20 : decode cL_scope 20 = .ok (.ireturn, 1) := by decide +kernel
theorem dL_scope_21 : decode cL_scope 21 = .ok (.iconst 0, 1) := by decide +kernel
theorem dL_scope_22 : decode cL_scope 22 = .ok (.ireturn, 1) := by decide +kernel
theorem dL_failure_0 : decode cL_failure 0 = .ok (.aload 4, 2) := by decide +kernel
theorem dL_failure_2 : decode cL_failure 2 = .ok (.iconst 0, 1) := by decide +kernel
theorem dL_failure_3 : decode cL_failure 3 = .ok (.aload_n 0, 1) := by decide +kernel
theorem dL_failure_4 : decode cL_failure 4 = .ok (.iload_n 1, 1) := by decide +kernel
theorem dL_failure_5 : decode cL_failure 5 = .ok (.iload_n 2, 1) := by decide +kernel
theorem dL_failure_6 : decode cL_failure 6 = .ok (.iload_n 3, 1) := by decide +kernel
theorem dL_failure_7 : decode cL_failure 7 = .ok (.invokevirtual 42, 3) := by decide +kernel
theorem dL_failure_10 : decode cL_failure 10 = .ok (.i2l, 1) := by decide +kernel
theorem dL_failure_11 : decode cL_failure 11 = .ok (.lastore, 1) := by decide +kernel
theorem dL_failure_12 : decode cL_failure 12 = .ok (.goto 15, 3) := by decide +kernel
theorem dL_failure_15 : decode cL_failure 15 = .ok (.astore 5, 2) := by decide +kernel
theorem dL_failure_17 : decode cL_failure 17 = .ok (.iconst 1, 1) := by decide +kernel
theorem dL_failure_18 : decode cL_failure 18 = .ok (.ireturn, 1) := by decide +kernel
theorem dL_failure_19 : decode cL_failure 19 = .ok (.astore 5, 2) := by decide +kernel
theorem dL_failure_21 : decode cL_failure 21 = .ok (.iconst 2, 1) := by decide +kernel
theorem dL_failure_22 : decode cL_failure 22 = .ok (.ireturn, 1) := by decide +kernel
theorem dL_failure_23 : decode cL_failure 23 = .ok (.astore 5, 2) := by decide +kernel
theorem dL_failure_25 : decode cL_failure 25 = .ok (.iconst 3, 1) := by decide +kernel
theorem dL_failure_26 : decode cL_failure 26 = .ok (.ireturn, 1) := by decide +kernel
theorem dL_failure_27 : decode cL_failure 27 = .ok (.iconst 0, 1) := by decide +kernel
theorem dL_failure_28 : decode cL_failure 28 = .ok (.ireturn, 1) := by decide +kernel
theorem dL_ready_0 : decode cL_ready 0 = .ok (.aload_n 2, 1) := by decide +kernel
theorem dL_ready_1 : decode cL_ready 1 = .ok (.iconst 0, 1) := by decide +kernel
theorem dL_ready_2 : decode cL_ready 2 = .ok (.aload_n 0, 1) := by decide +kernel
theorem dL_ready_3 : decode cL_ready 3 = .ok (.iload_n 1, 1) := by decide +kernel
theorem dL_ready_4 : decode cL_ready 4 = .ok (.invokevirtual 48, 3) := by decide +kernel
theorem dL_ready_7 : decode cL_ready 7 = .ok (.i2l, 1) := by decide +kernel
theorem dL_ready_8 : decode cL_ready 8 = .ok (.lastore, 1) := by decide +kernel
theorem dL_ready_9 : decode cL_ready 9 = .ok (.goto 6, 3) := by decide +kernel
theorem dL_ready_12 : decode cL_ready 12 = .ok (.astore_n 3, 1) := by decide +kernel
theorem dL_ready_13 : decode cL_ready 13 = .ok (.iconst 1, 1) := by decide +kernel
theorem dL_ready_14 : decode cL_ready 14 = .ok (.ireturn, 1) := by decide +kernel
theorem dL_ready_15 : decode cL_ready 15 = .ok (.iconst 0, 1) := by decide +kernel
theorem dL_ready_16 : decode cL_ready 16 = .ok (.ireturn, 1) := by decide +kernel
theorem dL_ended_0 : decode cL_ended 0 = .ok (.aload_n 2, 1) := by decide +kernel
theorem dL_ended_1 : decode cL_ended 1 = .ok (.iconst 0, 1) := by decide +kernel
theorem dL_ended_2 : decode cL_ended 2 = .ok (.aload_n 0, 1) := by decide +kernel
theorem dL_ended_3 : decode cL_ended 3 = .ok (.iload_n 1, 1) := by decide +kernel
theorem dL_ended_4 : decode cL_ended 4 = .ok (.invokevirtual 51, 3) := by decide +kernel
theorem dL_ended_7 : decode cL_ended 7 = .ok (.i2l, 1) := by decide +kernel
theorem dL_ended_8 : decode cL_ended 8 = .ok (.lastore, 1) := by decide +kernel
theorem dL_ended_9 : decode cL_ended 9 = .ok (.goto 6, 3) := by decide +kernel
theorem dL_ended_12 : decode cL_ended 12 = .ok (.astore_n 3, 1) := by decide +kernel
theorem dL_ended_13 : decode cL_ended 13 = .ok (.iconst 1, 1) := by decide +kernel
theorem dL_ended_14 : decode cL_ended 14 = .ok (.ireturn, 1) := by decide +kernel
theorem dL_ended_15 : decode cL_ended 15 = .ok (.iconst 0, 1) := by decide +kernel
theorem dL_ended_16 : decode cL_ended 16 = .ok (.ireturn, 1) := by decide +kernel
theorem dL_isAbove_0 : decode cL_isAbove 0 = .ok (.aload_n 3, 1) := by decide +kernel
theorem dL_isAbove_1 : decode cL_isAbove 1 = .ok (.iconst 0, 1) := by decide +kernel
theorem dL_isAbove_2 : decode cL_isAbove 2 = .ok (.aload_n 0, 1) := by decide +kernel
theorem dL_isAbove_3 : decode cL_isAbove 3 = .ok (.iload_n 1, 1) := by decide +kernel
theorem dL_isAbove_4 : decode cL_isAbove 4 = .ok (.iload_n 2, 1) := by decide +kernel
theorem dL_isAbove_5 : decode cL_isAbove 5 = .ok (.invokevirtual 54, 3) := by decide +kernel
theorem dL_isAbove_8 : decode cL_isAbove 8 = .ok (.ifCond .eq 7, 3) := by decide +kernel
theorem dL_isAbove_11 : decode cL_isAbove 11 = .ok (.lconst 1, 1) := by decide +kernel
theorem dL_isAbove_12 : decode cL_isAbove 12 = .ok (.goto 4, 3) := by decide +kernel
theorem dL_isAbove_15 : decode cL_isAbove 15 = .ok (.lconst 0, 1) := by decide +kernel
theorem dL_isAbove_16 : decode cL_isAbove 16 = .ok (.lastore, 1) := by decide +kernel
theorem dL_isAbove_17 : decode cL_isAbove 17 = .ok (.goto 7, 3) := by decide +kernel
theorem dL_isAbove_20 : decode cL_isAbove 20 = .ok (.astore 4, 2) := by decide +kernel
theorem dL_isAbove_22 : decode cL_isAbove 22 = .ok (.iconst 1, 1) := by decide +kernel
theorem dL_isAbove_23 : decode cL_isAbove 23 = .ok (.ireturn, 1) := by decide +kernel
theorem dL_isAbove_24 : decode cL_isAbove 24 = .ok (.iconst 0, 1) := by decide +kernel
theorem dL_isAbove_25 : decode cL_isAbove 25 = .ok (.ireturn, 1) := by decide +kernel
theorem dL_scopeOf_0 : decode cL_scopeOf 0 = .ok (.aload_n 3, 1) := by decide +kernel
theorem dL_scopeOf_1 : decode cL_scopeOf 1 = .ok (.iconst 0, 1) := by decide +kernel
theorem dL_scopeOf_2 : decode cL_scopeOf 2 = .ok (.aload_n 0, 1) := by decide +kernel
theorem dL_scopeOf_3 : decode cL_scopeOf 3 = .ok (.iload_n 1, 1) := by decide +kernel
theorem dL_scopeOf_4 : decode cL_scopeOf 4 = .ok (.iload_n 2, 1) := by decide +kernel
theorem dL_scopeOf_5 : decode cL_scopeOf 5 = .ok (.invokevirtual 58, 3) := by decide +kernel
theorem dL_scopeOf_8 : decode cL_scopeOf 8 = .ok (.i2l, 1) := by decide +kernel
theorem dL_scopeOf_9 : decode cL_scopeOf 9 = .ok (.lastore, 1) := by decide +kernel
theorem dL_scopeOf_10 : decode cL_scopeOf 10 = .ok (.goto 7, 3) := by decide +kernel
theorem dL_scopeOf_13 : decode cL_scopeOf 13 = .ok (.astore 4, 2) := by decide +kernel
theorem dL_scopeOf_15 : decode cL_scopeOf 15 = .ok (.iconst 1, 1) := by decide +kernel
theorem dL_scopeOf_16 : decode cL_scopeOf 16 = .ok (.ireturn, 1) := by decide +kernel
theorem dL_scopeOf_17 : decode cL_scopeOf 17 = .ok (.iconst 0, 1) := by decide +kernel
theorem dL_scopeOf_18 : decode cL_scopeOf 18 = .ok (.ireturn, 1) := by decide +kernel
theorem dL_channel_0 : decode cL_channel 0 = .ok (.aload_n 3, 1) := by decide +kernel
theorem dL_channel_1 : decode cL_channel 1 = .ok (.iconst 0, 1) := by decide +kernel
theorem dL_channel_2 : decode cL_channel 2 = .ok (.aload_n 0, 1) := by decide +kernel
theorem dL_channel_3 : decode cL_channel 3 = .ok (.iload_n 1, 1) := by decide +kernel
theorem dL_channel_4 : decode cL_channel 4 = .ok (.iload_n 2, 1) := by decide +kernel
theorem dL_channel_5 : decode cL_channel 5 = .ok (.invokevirtual 61, 3) := by decide +kernel
theorem dL_channel_8 : decode cL_channel 8 = .ok (.i2l, 1) := by decide +kernel
theorem dL_channel_9 : decode cL_channel 9 = .ok (.lastore, 1) := by decide +kernel
theorem dL_channel_10 : decode cL_channel 10 = .ok (.goto 11, 3) := by decide +kernel
theorem dL_channel_13 : decode cL_channel 13 = .ok (.astore 4, 2) := by decide +kernel
theorem dL_channel_15 : decode cL_channel 15 = .ok (.iconst 1, 1) := by decide +kernel
theorem dL_channel_16 : decode cL_channel 16 = .ok (.ireturn, 1) := by decide +kernel
theorem dL_channel_17 : decode cL_channel 17 = .ok (.astore 4, 2) := by decide +kernel
theorem dL_channel_19 : decode cL_channel 19 = .ok (.iconst 2, 1) := by decide +kernel
theorem dL_channel_20 : decode cL_channel 20 = .ok (.ireturn, 1) := by decide +kernel
theorem dL_channel_21 : decode cL_channel 21 = .ok (.iconst 0, 1) := by decide +kernel
theorem dL_channel_22 : decode cL_channel 22 = .ok (.ireturn, 1) := by decide +kernel
theorem dL_content_0 : decode cL_content 0 = .ok (.aload_n 3, 1) := by decide +kernel
theorem dL_content_1 : decode cL_content 1 = .ok (.iconst 0, 1) := by decide +kernel
theorem dL_content_2 : decode cL_content 2 = .ok (.aload_n 0, 1) := by decide +kernel
theorem dL_content_3 : decode cL_content 3 = .ok (.iload_n 1, 1) := by decide +kernel
theorem dL_content_4 : decode cL_content 4 = .ok (.iload_n 2, 1) := by decide +kernel
theorem dL_content_5 : decode cL_content 5 = .ok (.invokevirtual 64, 3) := by decide +kernel
theorem dL_content_8 : decode cL_content 8 = .ok (.i2l, 1) := by decide +kernel
theorem dL_content_9 : decode cL_content 9 = .ok (.lastore, 1) := by decide +kernel
theorem dL_content_10 : decode cL_content 10 = .ok (.goto 11, 3) := by decide +kernel
theorem dL_content_13 : decode cL_content 13 = .ok (.astore 4, 2) := by decide +kernel
theorem dL_content_15 : decode cL_content 15 = .ok (.iconst 1, 1) := by decide +kernel
theorem dL_content_16 : decode cL_content 16 = .ok (.ireturn, 1) := by decide +kernel
theorem dL_content_17 : decode cL_content 17 = .ok (.astore 4, 2) := by decide +kernel
theorem dL_content_19 : decode cL_content 19 = .ok (.iconst 2, 1) := by decide +kernel
theorem dL_content_20 : decode cL_content 20 = .ok (.ireturn, 1) := by decide +kernel
theorem dL_content_21 : decode cL_content 21 = .ok (.iconst 0, 1) := by decide +kernel
theorem dL_content_22 : decode cL_content 22 = .ok (.ireturn, 1) := by decide +kernel
theorem dL_count_0 : decode cL_count 0 = .ok (.aload_n 2, 1) := by decide +kernel
theorem dL_count_1 : decode cL_count 1 = .ok (.iconst 0, 1) := by decide +kernel
theorem dL_count_2 : decode cL_count 2 = .ok (.aload_n 0, 1) := by decide +kernel
theorem dL_count_3 : decode cL_count 3 = .ok (.iload_n 1, 1) := by decide +kernel
theorem dL_count_4 : decode cL_count 4 = .ok (.invokevirtual 67, 3) := by decide +kernel
theorem dL_count_7 : decode cL_count 7 = .ok (.i2l, 1) := by decide +kernel
theorem dL_count_8 : decode cL_count 8 = .ok (.lastore, 1) := by decide +kernel
theorem dL_count_9 : decode cL_count 9 = .ok (.goto 6, 3) := by decide +kernel
theorem dL_count_12 : decode cL_count 12 = .ok (.astore_n 3, 1) := by decide +kernel
theorem dL_count_13 : decode cL_count 13 = .ok (.iconst 1, 1) := by decide +kernel
theorem dL_count_14 : decode cL_count 14 = .ok (.ireturn, 1) := by decide +kernel
theorem dL_count_15 : decode cL_count 15 = .ok (.iconst 0, 1) := by decide +kernel
theorem dL_count_16 : decode cL_count 16 = .ok (.ireturn, 1) := by decide +kernel
theorem dL_restore_0 : decode cL_restore 0 = .ok (.aload_n 1, 1) := by decide +kernel
theorem dL_restore_1 : decode cL_restore 1 = .ok (.iconst 0, 1) := by decide +kernel
theorem dL_restore_2 : decode cL_restore 2 = .ok (.aload_n 0, 1) := by decide +kernel
theorem dL_restore_3 : decode cL_restore 3 = .ok (.invokevirtual 70, 3) := by decide +kernel
theorem dL_restore_6 : decode cL_restore 6 = .ok (.i2l, 1) := by decide +kernel
theorem dL_restore_7 : decode cL_restore 7 = .ok (.lastore, 1) := by decide +kernel
theorem dL_restore_8 : decode cL_restore 8 = .ok (.goto 6, 3) := by decide +kernel
theorem dL_restore_11 : decode cL_restore 11 = .ok (.astore_n 2, 1) := by decide +kernel
theorem dL_restore_12 : decode cL_restore 12 = .ok (.iconst 1, 1) := by decide +kernel
theorem dL_restore_13 : decode cL_restore 13 = .ok (.ireturn, 1) := by decide +kernel
theorem dL_restore_14 : decode cL_restore 14 = .ok (.iconst 0, 1) := by decide +kernel
theorem dL_restore_15 : decode cL_restore 15 = .ok (.ireturn, 1) := by decide +kernel
theorem dL_law_0 : decode cL_law 0 = .ok (.new 8, 3) := by decide +kernel
theorem dL_law_3 : decode cL_law 3 = .ok (.dup, 1) := by decide +kernel
theorem dL_law_4 : decode cL_law 4 = .ok (.invokespecial 73, 3) := by decide +kernel
theorem dL_law_7 : decode cL_law 7 = .ok (.astore_n 1, 1) := by decide +kernel
theorem dL_law_8 : decode cL_law 8 = .ok (.new 74, 3) := by decide +kernel
theorem dL_law_11 : decode cL_law 11 = .ok (.dup, 1) := by decide +kernel
theorem dL_law_12 : decode cL_law 12 = .ok (.invokespecial 76, 3) := by decide +kernel
theorem dL_law_15 : decode cL_law 15 = .ok (.astore_n 2, 1) := by decide +kernel
theorem dL_law_16 : decode cL_law 16 = .ok (.iconst 1, 1) := by decide +kernel
theorem dL_law_17 : decode cL_law 17 = .ok (.newarray .long, 2) := by decide +kernel
theorem dL_law_19 : decode cL_law 19 = .ok (.astore_n 3, 1) := by decide +kernel
theorem dL_law_20 : decode cL_law 20 = .ok (.iconst 0, 1) := by decide +kernel
theorem dL_law_21 : decode cL_law 21 = .ok (.istore 4, 2) := by decide +kernel
theorem dL_law_23 : decode cL_law 23 = .ok (.iload 4, 2) := by decide +kernel
theorem dL_law_25 : decode cL_law 25 = .ok (.aload_n 0, 1) := by decide +kernel
theorem dL_law_26 : decode cL_law 26 = .ok (.arraylength, 1) := by decide +kernel
theorem dL_law_27 : decode cL_law 27 = .ok (.iconst 4, 1) := by decide +kernel
theorem dL_law_28 : decode cL_law 28 = .ok (.isub, 1) := by decide +kernel
theorem dL_law_29 : decode cL_law 29 = .ok (.if_icmp .gt 1208, 3) := by decide +kernel
theorem dL_law_32 : decode cL_law 32 = .ok (.aload_n 0, 1) := by decide +kernel
theorem dL_law_33 : decode cL_law 33 = .ok (.iload 4, 2) := by decide +kernel
theorem dL_law_35 : decode cL_law 35 = .ok (.iaload, 1) := by decide +kernel
theorem dL_law_36 : decode cL_law 36 = .ok (.bipush 31, 2) := by decide +kernel
theorem dL_law_38 : decode cL_law 38 = .ok (.iand, 1) := by decide +kernel
theorem dL_law_39 : decode cL_law 39 = .ok (.tableswitch 1192 0 20 #[97, 153, 197, 210, 278, 291, 347, 403, 459, 472, 540, 608, 688, 744, 800, 875, 943, 1011, 1079, 1135, 1148], 97) := by decide +kernel
theorem dL_law_136 : decode cL_law 136 = .ok (.aload_n 1, 1) := by decide +kernel
theorem dL_law_137 : decode cL_law 137 = .ok (.aload_n 0, 1) := by decide +kernel
theorem dL_law_138 : decode cL_law 138 = .ok (.iload 4, 2) := by decide +kernel
theorem dL_law_140 : decode cL_law 140 = .ok (.iconst 1, 1) := by decide +kernel
theorem dL_law_141 : decode cL_law 141 = .ok (.iadd, 1) := by decide +kernel
theorem dL_law_142 : decode cL_law 142 = .ok (.iaload, 1) := by decide +kernel
theorem dL_law_143 : decode cL_law 143 = .ok (.aload_n 3, 1) := by decide +kernel
theorem dL_law_144 : decode cL_law 144 = .ok (.invokestatic 77, 3) := by decide +kernel
theorem dL_law_147 : decode cL_law 147 = .ok (.istore 5, 2) := by decide +kernel
theorem dL_law_149 : decode cL_law 149 = .ok (.aload_n 2, 1) := by decide +kernel
theorem dL_law_150 : decode cL_law 150 = .ok (.aload_n 0, 1) := by decide +kernel
theorem dL_law_151 : decode cL_law 151 = .ok (.iload 4, 2) := by decide +kernel
theorem dL_law_153 : decode cL_law 153 = .ok (.iconst 1, 1) := by decide +kernel
theorem dL_law_154 : decode cL_law 154 = .ok (.iadd, 1) := by decide +kernel
theorem dL_law_155 : decode cL_law 155 = .ok (.iaload, 1) := by decide +kernel
theorem dL_law_156 : decode cL_law 156 = .ok (.invokevirtual 82, 3) := by decide +kernel
theorem dL_law_159 : decode cL_law 159 = .ok (.istore 6, 2) := by decide +kernel
theorem dL_law_161 : decode cL_law 161 = .ok (.aload_n 2, 1) := by decide +kernel
theorem dL_law_162 : decode cL_law 162 = .ok (.invokevirtual 83, 3) := by decide +kernel
theorem dL_law_165 : decode cL_law 165 = .ok (.iload 5, 2) := by decide +kernel
theorem dL_law_167 : decode cL_law 167 = .ok (.if_icmp .eq 5, 3) := by decide +kernel
theorem dL_law_170 : decode cL_law 170 = .ok (.iconst 0, 1) := by decide +kernel
theorem dL_law_171 : decode cL_law 171 = .ok (.ireturn, 1) := by decide +kernel
theorem dL_law_172 : decode cL_law 172 = .ok (.iload 5, 2) := by decide +kernel
theorem dL_law_174 : decode cL_law 174 = .ok (.ifCond .ne 15, 3) := by decide +kernel
theorem dL_law_177 : decode cL_law 177 = .ok (.aload_n 3, 1) := by decide +kernel
theorem dL_law_178 : decode cL_law 178 = .ok (.iconst 0, 1) := by decide +kernel
theorem dL_law_179 : decode cL_law 179 = .ok (.laload, 1) := by decide +kernel
theorem dL_law_180 : decode cL_law 180 = .ok (.iload 6, 2) := by decide +kernel
theorem dL_law_182 : decode cL_law 182 = .ok (.i2l, 1) := by decide +kernel
theorem dL_law_183 : decode cL_law 183 = .ok (.lcmp, 1) := by decide +kernel
theorem dL_law_184 : decode cL_law 184 = .ok (.ifCond .eq 5, 3) := by decide +kernel
theorem dL_law_187 : decode cL_law 187 = .ok (.iconst 0, 1) := by decide +kernel
theorem dL_law_188 : decode cL_law 188 = .ok (.ireturn, 1) := by decide +kernel
theorem dL_law_189 : decode cL_law 189 = .ok (.goto 1042, 3) := by decide +kernel
theorem dL_law_192 : decode cL_law 192 = .ok (.aload_n 1, 1) := by decide +kernel
theorem dL_law_193 : decode cL_law 193 = .ok (.aload_n 3, 1) := by decide +kernel
theorem dL_law_194 : decode cL_law 194 = .ok (.invokestatic 86, 3) := by decide +kernel
theorem dL_law_197 : decode cL_law 197 = .ok (.istore 5, 2) := by decide +kernel
theorem dL_law_199 : decode cL_law 199 = .ok (.aload_n 2, 1) := by decide +kernel
theorem dL_law_200 : decode cL_law 200 = .ok (.invokevirtual 89, 3) := by decide +kernel
theorem dL_law_203 : decode cL_law 203 = .ok (.istore 6, 2) := by decide +kernel
theorem dL_law_205 : decode cL_law 205 = .ok (.aload_n 2, 1) := by decide +kernel
theorem dL_law_206 : decode cL_law 206 = .ok (.invokevirtual 83, 3) := by decide +kernel
theorem dL_law_209 : decode cL_law 209 = .ok (.iload 5, 2) := by decide +kernel
theorem dL_law_211 : decode cL_law 211 = .ok (.if_icmp .eq 5, 3) := by decide +kernel
theorem dL_law_214 : decode cL_law 214 = .ok (.iconst 0, 1) := by decide +kernel
theorem dL_law_215 : decode cL_law 215 = .ok (.ireturn, 1) := by decide +kernel
theorem dL_law_216 : decode cL_law 216 = .ok (.iload 5, 2) := by decide +kernel
theorem dL_law_218 : decode cL_law 218 = .ok (.ifCond .ne 15, 3) := by decide +kernel
theorem dL_law_221 : decode cL_law 221 = .ok (.aload_n 3, 1) := by decide +kernel
theorem dL_law_222 : decode cL_law 222 = .ok (.iconst 0, 1) := by decide +kernel
theorem dL_law_223 : decode cL_law 223 = .ok (.laload, 1) := by decide +kernel
theorem dL_law_224 : decode cL_law 224 = .ok (.iload 6, 2) := by decide +kernel
theorem dL_law_226 : decode cL_law 226 = .ok (.i2l, 1) := by decide +kernel
theorem dL_law_227 : decode cL_law 227 = .ok (.lcmp, 1) := by decide +kernel
theorem dL_law_228 : decode cL_law 228 = .ok (.ifCond .eq 5, 3) := by decide +kernel
theorem dL_law_231 : decode cL_law 231 = .ok (.iconst 0, 1) := by decide +kernel
theorem dL_law_232 : decode cL_law 232 = .ok (.ireturn, 1) := by decide +kernel
theorem dL_law_233 : decode cL_law 233 = .ok (.goto 998, 3) := by decide +kernel
theorem dL_law_236 : decode cL_law 236 = .ok (.aload_n 1, 1) := by decide +kernel
theorem dL_law_237 : decode cL_law 237 = .ok (.invokevirtual 90, 3) := by decide +kernel
theorem dL_law_240 : decode cL_law 240 = .ok (.aload_n 2, 1) := by decide +kernel
theorem dL_law_241 : decode cL_law 241 = .ok (.invokevirtual 93, 3) := by decide +kernel
theorem dL_law_244 : decode cL_law 244 = .ok (.if_icmp .eq 987, 3) := by decide +kernel
theorem dL_law_247 : decode cL_law 247 = .ok (.iconst 0, 1) := by decide +kernel
theorem dL_law_248 : decode cL_law 248 = .ok (.ireturn, 1) := by decide +kernel
theorem dL_law_249 : decode cL_law 249 = .ok (.aload_n 1, 1) := by decide +kernel
theorem dL_law_250 : decode cL_law 250 = .ok (.aload_n 0, 1) := by decide +kernel
theorem dL_law_251 : decode cL_law 251 = .ok (.iload 4, 2) := by decide +kernel
theorem dL_law_253 : decode cL_law 253 = .ok (.iconst 1, 1) := by decide +kernel
theorem dL_law_254 : decode cL_law 254 = .ok (.iadd, 1) := by decide +kernel
theorem dL_law_255 : decode cL_law 255 = .ok (.iaload, 1) := by decide +kernel
theorem dL_law_256 : decode cL_law 256 = .ok (.aload_n 0, 1) := by decide +kernel
theorem dL_law_257 : decode cL_law 257 = .ok (.iload 4, 2) := by decide +kernel
theorem dL_law_259 : decode cL_law 259 = .ok (.iconst 2, 1) := by decide +kernel
theorem dL_law_260 : decode cL_law 260 = .ok (.iadd, 1) := by decide +kernel
theorem dL_law_261 : decode cL_law 261 = .ok (.iaload, 1) := by decide +kernel
theorem dL_law_262 : decode cL_law 262 = .ok (.aload_n 3, 1) := by decide +kernel
theorem dL_law_263 : decode cL_law 263 = .ok (.invokestatic 94, 3) := by decide +kernel
theorem dL_law_266 : decode cL_law 266 = .ok (.istore 5, 2) := by decide +kernel
theorem dL_law_268 : decode cL_law 268 = .ok (.aload_n 2, 1) := by decide +kernel
theorem dL_law_269 : decode cL_law 269 = .ok (.aload_n 0, 1) := by decide +kernel
theorem dL_law_270 : decode cL_law 270 = .ok (.iload 4, 2) := by decide +kernel
theorem dL_law_272 : decode cL_law 272 = .ok (.iconst 1, 1) := by decide +kernel
theorem dL_law_273 : decode cL_law 273 = .ok (.iadd, 1) := by decide +kernel
theorem dL_law_274 : decode cL_law 274 = .ok (.iaload, 1) := by decide +kernel
theorem dL_law_275 : decode cL_law 275 = .ok (.aload_n 0, 1) := by decide +kernel
theorem dL_law_276 : decode cL_law 276 = .ok (.iload 4, 2) := by decide +kernel
theorem dL_law_278 : decode cL_law 278 = .ok (.iconst 2, 1) := by decide +kernel
theorem dL_law_279 : decode cL_law 279 = .ok (.iadd, 1) := by decide +kernel
theorem dL_law_280 : decode cL_law 280 = .ok (.iaload, 1) := by decide +kernel
theorem dL_law_281 : decode cL_law 281 = .ok (.invokevirtual 97, 3) := by decide +kernel
theorem dL_law_284 : decode cL_law 284 = .ok (.istore 6, 2) := by decide +kernel
theorem dL_law_286 : decode cL_law 286 = .ok (.aload_n 2, 1) := by decide +kernel
theorem dL_law_287 : decode cL_law 287 = .ok (.invokevirtual 83, 3) := by decide +kernel
theorem dL_law_290 : decode cL_law 290 = .ok (.iload 5, 2) := by decide +kernel
theorem dL_law_292 : decode cL_law 292 = .ok (.if_icmp .eq 5, 3) := by decide +kernel
theorem dL_law_295 : decode cL_law 295 = .ok (.iconst 0, 1) := by decide +kernel
theorem dL_law_296 : decode cL_law 296 = .ok (.ireturn, 1) := by decide +kernel
theorem dL_law_297 : decode cL_law 297 = .ok (.iload 5, 2) := by decide +kernel
theorem dL_law_299 : decode cL_law 299 = .ok (.ifCond .ne 15, 3) := by decide +kernel
theorem dL_law_302 : decode cL_law 302 = .ok (.aload_n 3, 1) := by decide +kernel
theorem dL_law_303 : decode cL_law 303 = .ok (.iconst 0, 1) := by decide +kernel
theorem dL_law_304 : decode cL_law 304 = .ok (.laload, 1) := by decide +kernel
theorem dL_law_305 : decode cL_law 305 = .ok (.iload 6, 2) := by decide +kernel
theorem dL_law_307 : decode cL_law 307 = .ok (.i2l, 1) := by decide +kernel
theorem dL_law_308 : decode cL_law 308 = .ok (.lcmp, 1) := by decide +kernel
theorem dL_law_309 : decode cL_law 309 = .ok (.ifCond .eq 5, 3) := by decide +kernel
theorem dL_law_312 : decode cL_law 312 = .ok (.iconst 0, 1) := by decide +kernel
theorem dL_law_313 : decode cL_law 313 = .ok (.ireturn, 1) := by decide +kernel
theorem dL_law_314 : decode cL_law 314 = .ok (.goto 917, 3) := by decide +kernel
theorem dL_law_317 : decode cL_law 317 = .ok (.aload_n 1, 1) := by decide +kernel
theorem dL_law_318 : decode cL_law 318 = .ok (.invokevirtual 98, 3) := by decide +kernel
theorem dL_law_321 : decode cL_law 321 = .ok (.aload_n 2, 1) := by decide +kernel
theorem dL_law_322 : decode cL_law 322 = .ok (.invokevirtual 101, 3) := by decide +kernel
theorem dL_law_325 : decode cL_law 325 = .ok (.if_icmp .eq 906, 3) := by decide +kernel
theorem dL_law_328 : decode cL_law 328 = .ok (.iconst 0, 1) := by decide +kernel
theorem dL_law_329 : decode cL_law 329 = .ok (.ireturn, 1) := by decide +kernel
theorem dL_law_330 : decode cL_law 330 = .ok (.aload_n 1, 1) := by decide +kernel
theorem dL_law_331 : decode cL_law 331 = .ok (.aload_n 0, 1) := by decide +kernel
theorem dL_law_332 : decode cL_law 332 = .ok (.iload 4, 2) := by decide +kernel
theorem dL_law_334 : decode cL_law 334 = .ok (.iconst 1, 1) := by decide +kernel
theorem dL_law_335 : decode cL_law 335 = .ok (.iadd, 1) := by decide +kernel
theorem dL_law_336 : decode cL_law 336 = .ok (.iaload, 1) := by decide +kernel
theorem dL_law_337 : decode cL_law 337 = .ok (.aload_n 3, 1) := by decide +kernel
theorem dL_law_338 : decode cL_law 338 = .ok (.invokestatic 102, 3) := by decide +kernel
theorem dL_law_341 : decode cL_law 341 = .ok (.istore 5, 2) := by decide +kernel
theorem dL_law_343 : decode cL_law 343 = .ok (.aload_n 2, 1) := by decide +kernel
theorem dL_law_344 : decode cL_law 344 = .ok (.aload_n 0, 1) := by decide +kernel
theorem dL_law_345 : decode cL_law 345 = .ok (.iload 4, 2) := by decide +kernel
theorem dL_law_347 : decode cL_law 347 = .ok (.iconst 1, 1) := by decide +kernel
theorem dL_law_348 : decode cL_law 348 = .ok (.iadd, 1) := by decide +kernel
theorem dL_law_349 : decode cL_law 349 = .ok (.iaload, 1) := by decide +kernel
theorem dL_law_350 : decode cL_law 350 = .ok (.invokevirtual 104, 3) := by decide +kernel
theorem dL_law_353 : decode cL_law 353 = .ok (.istore 6, 2) := by decide +kernel
theorem dL_law_355 : decode cL_law 355 = .ok (.aload_n 2, 1) := by decide +kernel
theorem dL_law_356 : decode cL_law 356 = .ok (.invokevirtual 83, 3) := by decide +kernel
theorem dL_law_359 : decode cL_law 359 = .ok (.iload 5, 2) := by decide +kernel
theorem dL_law_361 : decode cL_law 361 = .ok (.if_icmp .eq 5, 3) := by decide +kernel
theorem dL_law_364 : decode cL_law 364 = .ok (.iconst 0, 1) := by decide +kernel
theorem dL_law_365 : decode cL_law 365 = .ok (.ireturn, 1) := by decide +kernel
theorem dL_law_366 : decode cL_law 366 = .ok (.iload 5, 2) := by decide +kernel
theorem dL_law_368 : decode cL_law 368 = .ok (.ifCond .ne 15, 3) := by decide +kernel
theorem dL_law_371 : decode cL_law 371 = .ok (.aload_n 3, 1) := by decide +kernel
theorem dL_law_372 : decode cL_law 372 = .ok (.iconst 0, 1) := by decide +kernel
theorem dL_law_373 : decode cL_law 373 = .ok (.laload, 1) := by decide +kernel
theorem dL_law_374 : decode cL_law 374 = .ok (.iload 6, 2) := by decide +kernel
theorem dL_law_376 : decode cL_law 376 = .ok (.i2l, 1) := by decide +kernel
theorem dL_law_377 : decode cL_law 377 = .ok (.lcmp, 1) := by decide +kernel
theorem dL_law_378 : decode cL_law 378 = .ok (.ifCond .eq 5, 3) := by decide +kernel
theorem dL_law_381 : decode cL_law 381 = .ok (.iconst 0, 1) := by decide +kernel
theorem dL_law_382 : decode cL_law 382 = .ok (.ireturn, 1) := by decide +kernel
theorem dL_law_383 : decode cL_law 383 = .ok (.goto 848, 3) := by decide +kernel
theorem dL_law_386 : decode cL_law 386 = .ok (.aload_n 1, 1) := by decide +kernel
theorem dL_law_387 : decode cL_law 387 = .ok (.aload_n 0, 1) := by decide +kernel
theorem dL_law_388 : decode cL_law 388 = .ok (.iload 4, 2) := by decide +kernel
theorem dL_law_390 : decode cL_law 390 = .ok (.iconst 1, 1) := by decide +kernel
theorem dL_law_391 : decode cL_law 391 = .ok (.iadd, 1) := by decide +kernel
theorem dL_law_392 : decode cL_law 392 = .ok (.iaload, 1) := by decide +kernel
theorem dL_law_393 : decode cL_law 393 = .ok (.aload_n 3, 1) := by decide +kernel
theorem dL_law_394 : decode cL_law 394 = .ok (.invokestatic 105, 3) := by decide +kernel
theorem dL_law_397 : decode cL_law 397 = .ok (.istore 5, 2) := by decide +kernel
theorem dL_law_399 : decode cL_law 399 = .ok (.aload_n 2, 1) := by decide +kernel
theorem dL_law_400 : decode cL_law 400 = .ok (.aload_n 0, 1) := by decide +kernel
theorem dL_law_401 : decode cL_law 401 = .ok (.iload 4, 2) := by decide +kernel
theorem dL_law_403 : decode cL_law 403 = .ok (.iconst 1, 1) := by decide +kernel
theorem dL_law_404 : decode cL_law 404 = .ok (.iadd, 1) := by decide +kernel
theorem dL_law_405 : decode cL_law 405 = .ok (.iaload, 1) := by decide +kernel
theorem dL_law_406 : decode cL_law 406 = .ok (.invokevirtual 107, 3) := by decide +kernel
theorem dL_law_409 : decode cL_law 409 = .ok (.istore 6, 2) := by decide +kernel
theorem dL_law_411 : decode cL_law 411 = .ok (.aload_n 2, 1) := by decide +kernel
theorem dL_law_412 : decode cL_law 412 = .ok (.invokevirtual 83, 3) := by decide +kernel
theorem dL_law_415 : decode cL_law 415 = .ok (.iload 5, 2) := by decide +kernel
theorem dL_law_417 : decode cL_law 417 = .ok (.if_icmp .eq 5, 3) := by decide +kernel
theorem dL_law_420 : decode cL_law 420 = .ok (.iconst 0, 1) := by decide +kernel
theorem dL_law_421 : decode cL_law 421 = .ok (.ireturn, 1) := by decide +kernel
theorem dL_law_422 : decode cL_law 422 = .ok (.iload 5, 2) := by decide +kernel
theorem dL_law_424 : decode cL_law 424 = .ok (.ifCond .ne 15, 3) := by decide +kernel
theorem dL_law_427 : decode cL_law 427 = .ok (.aload_n 3, 1) := by decide +kernel
theorem dL_law_428 : decode cL_law 428 = .ok (.iconst 0, 1) := by decide +kernel
theorem dL_law_429 : decode cL_law 429 = .ok (.laload, 1) := by decide +kernel
theorem dL_law_430 : decode cL_law 430 = .ok (.iload 6, 2) := by decide +kernel
theorem dL_law_432 : decode cL_law 432 = .ok (.i2l, 1) := by decide +kernel
theorem dL_law_433 : decode cL_law 433 = .ok (.lcmp, 1) := by decide +kernel
theorem dL_law_434 : decode cL_law 434 = .ok (.ifCond .eq 5, 3) := by decide +kernel
theorem dL_law_437 : decode cL_law 437 = .ok (.iconst 0, 1) := by decide +kernel
theorem dL_law_438 : decode cL_law 438 = .ok (.ireturn, 1) := by decide +kernel
theorem dL_law_439 : decode cL_law 439 = .ok (.goto 792, 3) := by decide +kernel
theorem dL_law_442 : decode cL_law 442 = .ok (.aload_n 1, 1) := by decide +kernel
theorem dL_law_443 : decode cL_law 443 = .ok (.aload_n 0, 1) := by decide +kernel
theorem dL_law_444 : decode cL_law 444 = .ok (.iload 4, 2) := by decide +kernel
theorem dL_law_446 : decode cL_law 446 = .ok (.iconst 1, 1) := by decide +kernel
theorem dL_law_447 : decode cL_law 447 = .ok (.iadd, 1) := by decide +kernel
theorem dL_law_448 : decode cL_law 448 = .ok (.iaload, 1) := by decide +kernel
theorem dL_law_449 : decode cL_law 449 = .ok (.aload_n 3, 1) := by decide +kernel
theorem dL_law_450 : decode cL_law 450 = .ok (.invokestatic 108, 3) := by decide +kernel
theorem dL_law_453 : decode cL_law 453 = .ok (.istore 5, 2) := by decide +kernel
theorem dL_law_455 : decode cL_law 455 = .ok (.aload_n 2, 1) := by decide +kernel
theorem dL_law_456 : decode cL_law 456 = .ok (.aload_n 0, 1) := by decide +kernel
theorem dL_law_457 : decode cL_law 457 = .ok (.iload 4, 2) := by decide +kernel
theorem dL_law_459 : decode cL_law 459 = .ok (.iconst 1, 1) := by decide +kernel
theorem dL_law_460 : decode cL_law 460 = .ok (.iadd, 1) := by decide +kernel
theorem dL_law_461 : decode cL_law 461 = .ok (.iaload, 1) := by decide +kernel
theorem dL_law_462 : decode cL_law 462 = .ok (.invokevirtual 110, 3) := by decide +kernel
theorem dL_law_465 : decode cL_law 465 = .ok (.istore 6, 2) := by decide +kernel
theorem dL_law_467 : decode cL_law 467 = .ok (.aload_n 2, 1) := by decide +kernel
theorem dL_law_468 : decode cL_law 468 = .ok (.invokevirtual 83, 3) := by decide +kernel
theorem dL_law_471 : decode cL_law 471 = .ok (.iload 5, 2) := by decide +kernel
theorem dL_law_473 : decode cL_law 473 = .ok (.if_icmp .eq 5, 3) := by decide +kernel
theorem dL_law_476 : decode cL_law 476 = .ok (.iconst 0, 1) := by decide +kernel
theorem dL_law_477 : decode cL_law 477 = .ok (.ireturn, 1) := by decide +kernel
theorem dL_law_478 : decode cL_law 478 = .ok (.iload 5, 2) := by decide +kernel
theorem dL_law_480 : decode cL_law 480 = .ok (.ifCond .ne 15, 3) := by decide +kernel
theorem dL_law_483 : decode cL_law 483 = .ok (.aload_n 3, 1) := by decide +kernel
theorem dL_law_484 : decode cL_law 484 = .ok (.iconst 0, 1) := by decide +kernel
theorem dL_law_485 : decode cL_law 485 = .ok (.laload, 1) := by decide +kernel
theorem dL_law_486 : decode cL_law 486 = .ok (.iload 6, 2) := by decide +kernel
theorem dL_law_488 : decode cL_law 488 = .ok (.i2l, 1) := by decide +kernel
theorem dL_law_489 : decode cL_law 489 = .ok (.lcmp, 1) := by decide +kernel
theorem dL_law_490 : decode cL_law 490 = .ok (.ifCond .eq 5, 3) := by decide +kernel
theorem dL_law_493 : decode cL_law 493 = .ok (.iconst 0, 1) := by decide +kernel
theorem dL_law_494 : decode cL_law 494 = .ok (.ireturn, 1) := by decide +kernel
theorem dL_law_495 : decode cL_law 495 = .ok (.goto 736, 3) := by decide +kernel
theorem dL_law_498 : decode cL_law 498 = .ok (.aload_n 1, 1) := by decide +kernel
theorem dL_law_499 : decode cL_law 499 = .ok (.invokevirtual 111, 3) := by decide +kernel
theorem dL_law_502 : decode cL_law 502 = .ok (.aload_n 2, 1) := by decide +kernel
theorem dL_law_503 : decode cL_law 503 = .ok (.invokevirtual 114, 3) := by decide +kernel
theorem dL_law_506 : decode cL_law 506 = .ok (.if_icmp .eq 725, 3) := by decide +kernel
theorem dL_law_509 : decode cL_law 509 = .ok (.iconst 0, 1) := by decide +kernel
theorem dL_law_510 : decode cL_law 510 = .ok (.ireturn, 1) := by decide +kernel
theorem dL_law_511 : decode cL_law 511 = .ok (.aload_n 1, 1) := by decide +kernel
theorem dL_law_512 : decode cL_law 512 = .ok (.aload_n 0, 1) := by decide +kernel
theorem dL_law_513 : decode cL_law 513 = .ok (.iload 4, 2) := by decide +kernel
theorem dL_law_515 : decode cL_law 515 = .ok (.iconst 1, 1) := by decide +kernel
theorem dL_law_516 : decode cL_law 516 = .ok (.iadd, 1) := by decide +kernel
theorem dL_law_517 : decode cL_law 517 = .ok (.iaload, 1) := by decide +kernel
theorem dL_law_518 : decode cL_law 518 = .ok (.aload_n 0, 1) := by decide +kernel
theorem dL_law_519 : decode cL_law 519 = .ok (.iload 4, 2) := by decide +kernel
theorem dL_law_521 : decode cL_law 521 = .ok (.iconst 2, 1) := by decide +kernel
theorem dL_law_522 : decode cL_law 522 = .ok (.iadd, 1) := by decide +kernel
theorem dL_law_523 : decode cL_law 523 = .ok (.iaload, 1) := by decide +kernel
theorem dL_law_524 : decode cL_law 524 = .ok (.aload_n 3, 1) := by decide +kernel
theorem dL_law_525 : decode cL_law 525 = .ok (.invokestatic 115, 3) := by decide +kernel
theorem dL_law_528 : decode cL_law 528 = .ok (.istore 5, 2) := by decide +kernel
theorem dL_law_530 : decode cL_law 530 = .ok (.aload_n 2, 1) := by decide +kernel
theorem dL_law_531 : decode cL_law 531 = .ok (.aload_n 0, 1) := by decide +kernel
theorem dL_law_532 : decode cL_law 532 = .ok (.iload 4, 2) := by decide +kernel
theorem dL_law_534 : decode cL_law 534 = .ok (.iconst 1, 1) := by decide +kernel
theorem dL_law_535 : decode cL_law 535 = .ok (.iadd, 1) := by decide +kernel
theorem dL_law_536 : decode cL_law 536 = .ok (.iaload, 1) := by decide +kernel
theorem dL_law_537 : decode cL_law 537 = .ok (.aload_n 0, 1) := by decide +kernel
theorem dL_law_538 : decode cL_law 538 = .ok (.iload 4, 2) := by decide +kernel
theorem dL_law_540 : decode cL_law 540 = .ok (.iconst 2, 1) := by decide +kernel
theorem dL_law_541 : decode cL_law 541 = .ok (.iadd, 1) := by decide +kernel
theorem dL_law_542 : decode cL_law 542 = .ok (.iaload, 1) := by decide +kernel
theorem dL_law_543 : decode cL_law 543 = .ok (.invokevirtual 117, 3) := by decide +kernel
theorem dL_law_546 : decode cL_law 546 = .ok (.istore 6, 2) := by decide +kernel
theorem dL_law_548 : decode cL_law 548 = .ok (.aload_n 2, 1) := by decide +kernel
theorem dL_law_549 : decode cL_law 549 = .ok (.invokevirtual 83, 3) := by decide +kernel
theorem dL_law_552 : decode cL_law 552 = .ok (.iload 5, 2) := by decide +kernel
theorem dL_law_554 : decode cL_law 554 = .ok (.if_icmp .eq 5, 3) := by decide +kernel
theorem dL_law_557 : decode cL_law 557 = .ok (.iconst 0, 1) := by decide +kernel
theorem dL_law_558 : decode cL_law 558 = .ok (.ireturn, 1) := by decide +kernel
theorem dL_law_559 : decode cL_law 559 = .ok (.iload 5, 2) := by decide +kernel
theorem dL_law_561 : decode cL_law 561 = .ok (.ifCond .ne 15, 3) := by decide +kernel
theorem dL_law_564 : decode cL_law 564 = .ok (.aload_n 3, 1) := by decide +kernel
theorem dL_law_565 : decode cL_law 565 = .ok (.iconst 0, 1) := by decide +kernel
theorem dL_law_566 : decode cL_law 566 = .ok (.laload, 1) := by decide +kernel
theorem dL_law_567 : decode cL_law 567 = .ok (.iload 6, 2) := by decide +kernel
theorem dL_law_569 : decode cL_law 569 = .ok (.i2l, 1) := by decide +kernel
theorem dL_law_570 : decode cL_law 570 = .ok (.lcmp, 1) := by decide +kernel
theorem dL_law_571 : decode cL_law 571 = .ok (.ifCond .eq 5, 3) := by decide +kernel
theorem dL_law_574 : decode cL_law 574 = .ok (.iconst 0, 1) := by decide +kernel
theorem dL_law_575 : decode cL_law 575 = .ok (.ireturn, 1) := by decide +kernel
theorem dL_law_576 : decode cL_law 576 = .ok (.goto 655, 3) := by decide +kernel
theorem dL_law_579 : decode cL_law 579 = .ok (.aload_n 1, 1) := by decide +kernel
theorem dL_law_580 : decode cL_law 580 = .ok (.aload_n 0, 1) := by decide +kernel
theorem dL_law_581 : decode cL_law 581 = .ok (.iload 4, 2) := by decide +kernel
theorem dL_law_583 : decode cL_law 583 = .ok (.iconst 1, 1) := by decide +kernel
theorem dL_law_584 : decode cL_law 584 = .ok (.iadd, 1) := by decide +kernel
theorem dL_law_585 : decode cL_law 585 = .ok (.iaload, 1) := by decide +kernel
theorem dL_law_586 : decode cL_law 586 = .ok (.aload_n 0, 1) := by decide +kernel
theorem dL_law_587 : decode cL_law 587 = .ok (.iload 4, 2) := by decide +kernel
theorem dL_law_589 : decode cL_law 589 = .ok (.iconst 2, 1) := by decide +kernel
theorem dL_law_590 : decode cL_law 590 = .ok (.iadd, 1) := by decide +kernel
theorem dL_law_591 : decode cL_law 591 = .ok (.iaload, 1) := by decide +kernel
theorem dL_law_592 : decode cL_law 592 = .ok (.aload_n 3, 1) := by decide +kernel
theorem dL_law_593 : decode cL_law 593 = .ok (.invokestatic 118, 3) := by decide +kernel
theorem dL_law_596 : decode cL_law 596 = .ok (.istore 5, 2) := by decide +kernel
theorem dL_law_598 : decode cL_law 598 = .ok (.aload_n 2, 1) := by decide +kernel
theorem dL_law_599 : decode cL_law 599 = .ok (.aload_n 0, 1) := by decide +kernel
theorem dL_law_600 : decode cL_law 600 = .ok (.iload 4, 2) := by decide +kernel
theorem dL_law_602 : decode cL_law 602 = .ok (.iconst 1, 1) := by decide +kernel
theorem dL_law_603 : decode cL_law 603 = .ok (.iadd, 1) := by decide +kernel
theorem dL_law_604 : decode cL_law 604 = .ok (.iaload, 1) := by decide +kernel
theorem dL_law_605 : decode cL_law 605 = .ok (.aload_n 0, 1) := by decide +kernel
theorem dL_law_606 : decode cL_law 606 = .ok (.iload 4, 2) := by decide +kernel
theorem dL_law_608 : decode cL_law 608 = .ok (.iconst 2, 1) := by decide +kernel
theorem dL_law_609 : decode cL_law 609 = .ok (.iadd, 1) := by decide +kernel
theorem dL_law_610 : decode cL_law 610 = .ok (.iaload, 1) := by decide +kernel
theorem dL_law_611 : decode cL_law 611 = .ok (.invokevirtual 120, 3) := by decide +kernel
theorem dL_law_614 : decode cL_law 614 = .ok (.istore 6, 2) := by decide +kernel
theorem dL_law_616 : decode cL_law 616 = .ok (.aload_n 2, 1) := by decide +kernel
theorem dL_law_617 : decode cL_law 617 = .ok (.invokevirtual 83, 3) := by decide +kernel
theorem dL_law_620 : decode cL_law 620 = .ok (.iload 5, 2) := by decide +kernel
theorem dL_law_622 : decode cL_law 622 = .ok (.if_icmp .eq 5, 3) := by decide +kernel
theorem dL_law_625 : decode cL_law 625 = .ok (.iconst 0, 1) := by decide +kernel
theorem dL_law_626 : decode cL_law 626 = .ok (.ireturn, 1) := by decide +kernel
theorem dL_law_627 : decode cL_law 627 = .ok (.iload 5, 2) := by decide +kernel
theorem dL_law_629 : decode cL_law 629 = .ok (.ifCond .ne 15, 3) := by decide +kernel
theorem dL_law_632 : decode cL_law 632 = .ok (.aload_n 3, 1) := by decide +kernel
theorem dL_law_633 : decode cL_law 633 = .ok (.iconst 0, 1) := by decide +kernel
theorem dL_law_634 : decode cL_law 634 = .ok (.laload, 1) := by decide +kernel
theorem dL_law_635 : decode cL_law 635 = .ok (.iload 6, 2) := by decide +kernel
theorem dL_law_637 : decode cL_law 637 = .ok (.i2l, 1) := by decide +kernel
theorem dL_law_638 : decode cL_law 638 = .ok (.lcmp, 1) := by decide +kernel
theorem dL_law_639 : decode cL_law 639 = .ok (.ifCond .eq 5, 3) := by decide +kernel
theorem dL_law_642 : decode cL_law 642 = .ok (.iconst 0, 1) := by decide +kernel
theorem dL_law_643 : decode cL_law 643 = .ok (.ireturn, 1) := by decide +kernel
theorem dL_law_644 : decode cL_law 644 = .ok (.goto 587, 3) := by decide +kernel
theorem dL_law_647 : decode cL_law 647 = .ok (.aload_n 1, 1) := by decide +kernel
theorem dL_law_648 : decode cL_law 648 = .ok (.aload_n 0, 1) := by decide +kernel
theorem dL_law_649 : decode cL_law 649 = .ok (.iload 4, 2) := by decide +kernel
theorem dL_law_651 : decode cL_law 651 = .ok (.iconst 1, 1) := by decide +kernel
theorem dL_law_652 : decode cL_law 652 = .ok (.iadd, 1) := by decide +kernel
theorem dL_law_653 : decode cL_law 653 = .ok (.iaload, 1) := by decide +kernel
theorem dL_law_654 : decode cL_law 654 = .ok (.aload_n 0, 1) := by decide +kernel
theorem dL_law_655 : decode cL_law 655 = .ok (.iload 4, 2) := by decide +kernel
theorem dL_law_657 : decode cL_law 657 = .ok (.iconst 2, 1) := by decide +kernel
theorem dL_law_658 : decode cL_law 658 = .ok (.iadd, 1) := by decide +kernel
theorem dL_law_659 : decode cL_law 659 = .ok (.iaload, 1) := by decide +kernel
theorem dL_law_660 : decode cL_law 660 = .ok (.aload_n 0, 1) := by decide +kernel
theorem dL_law_661 : decode cL_law 661 = .ok (.iload 4, 2) := by decide +kernel
theorem dL_law_663 : decode cL_law 663 = .ok (.iconst 3, 1) := by decide +kernel
theorem dL_law_664 : decode cL_law 664 = .ok (.iadd, 1) := by decide +kernel
theorem dL_law_665 : decode cL_law 665 = .ok (.iaload, 1) := by decide +kernel
theorem dL_law_666 : decode cL_law 666 = .ok (.aload_n 3, 1) := by decide +kernel
theorem dL_law_667 : decode cL_law 667 = .ok (.invokestatic 121, 3) := by decide +kernel
theorem dL_law_670 : decode cL_law 670 = .ok (.istore 5, 2) := by decide +kernel
theorem dL_law_672 : decode cL_law 672 = .ok (.aload_n 2, 1) := by decide +kernel
theorem dL_law_673 : decode cL_law 673 = .ok (.aload_n 0, 1) := by decide +kernel
theorem dL_law_674 : decode cL_law 674 = .ok (.iload 4, 2) := by decide +kernel
theorem dL_law_676 : decode cL_law 676 = .ok (.iconst 1, 1) := by decide +kernel
theorem dL_law_677 : decode cL_law 677 = .ok (.iadd, 1) := by decide +kernel
theorem dL_law_678 : decode cL_law 678 = .ok (.iaload, 1) := by decide +kernel
theorem dL_law_679 : decode cL_law 679 = .ok (.aload_n 0, 1) := by decide +kernel
theorem dL_law_680 : decode cL_law 680 = .ok (.iload 4, 2) := by decide +kernel
theorem dL_law_682 : decode cL_law 682 = .ok (.iconst 2, 1) := by decide +kernel
theorem dL_law_683 : decode cL_law 683 = .ok (.iadd, 1) := by decide +kernel
theorem dL_law_684 : decode cL_law 684 = .ok (.iaload, 1) := by decide +kernel
theorem dL_law_685 : decode cL_law 685 = .ok (.aload_n 0, 1) := by decide +kernel
theorem dL_law_686 : decode cL_law 686 = .ok (.iload 4, 2) := by decide +kernel
theorem dL_law_688 : decode cL_law 688 = .ok (.iconst 3, 1) := by decide +kernel
theorem dL_law_689 : decode cL_law 689 = .ok (.iadd, 1) := by decide +kernel
theorem dL_law_690 : decode cL_law 690 = .ok (.iaload, 1) := by decide +kernel
theorem dL_law_691 : decode cL_law 691 = .ok (.invokevirtual 124, 3) := by decide +kernel
theorem dL_law_694 : decode cL_law 694 = .ok (.istore 6, 2) := by decide +kernel
theorem dL_law_696 : decode cL_law 696 = .ok (.aload_n 2, 1) := by decide +kernel
theorem dL_law_697 : decode cL_law 697 = .ok (.invokevirtual 83, 3) := by decide +kernel
theorem dL_law_700 : decode cL_law 700 = .ok (.iload 5, 2) := by decide +kernel
theorem dL_law_702 : decode cL_law 702 = .ok (.if_icmp .eq 5, 3) := by decide +kernel
theorem dL_law_705 : decode cL_law 705 = .ok (.iconst 0, 1) := by decide +kernel
theorem dL_law_706 : decode cL_law 706 = .ok (.ireturn, 1) := by decide +kernel
theorem dL_law_707 : decode cL_law 707 = .ok (.iload 5, 2) := by decide +kernel
theorem dL_law_709 : decode cL_law 709 = .ok (.ifCond .ne 15, 3) := by decide +kernel
theorem dL_law_712 : decode cL_law 712 = .ok (.aload_n 3, 1) := by decide +kernel
theorem dL_law_713 : decode cL_law 713 = .ok (.iconst 0, 1) := by decide +kernel
theorem dL_law_714 : decode cL_law 714 = .ok (.laload, 1) := by decide +kernel
theorem dL_law_715 : decode cL_law 715 = .ok (.iload 6, 2) := by decide +kernel
theorem dL_law_717 : decode cL_law 717 = .ok (.i2l, 1) := by decide +kernel
theorem dL_law_718 : decode cL_law 718 = .ok (.lcmp, 1) := by decide +kernel
theorem dL_law_719 : decode cL_law 719 = .ok (.ifCond .eq 5, 3) := by decide +kernel
theorem dL_law_722 : decode cL_law 722 = .ok (.iconst 0, 1) := by decide +kernel
theorem dL_law_723 : decode cL_law 723 = .ok (.ireturn, 1) := by decide +kernel
theorem dL_law_724 : decode cL_law 724 = .ok (.goto 507, 3) := by decide +kernel
theorem dL_law_727 : decode cL_law 727 = .ok (.aload_n 1, 1) := by decide +kernel
theorem dL_law_728 : decode cL_law 728 = .ok (.aload_n 0, 1) := by decide +kernel
theorem dL_law_729 : decode cL_law 729 = .ok (.iload 4, 2) := by decide +kernel
theorem dL_law_731 : decode cL_law 731 = .ok (.iconst 1, 1) := by decide +kernel
theorem dL_law_732 : decode cL_law 732 = .ok (.iadd, 1) := by decide +kernel
theorem dL_law_733 : decode cL_law 733 = .ok (.iaload, 1) := by decide +kernel
theorem dL_law_734 : decode cL_law 734 = .ok (.aload_n 3, 1) := by decide +kernel
theorem dL_law_735 : decode cL_law 735 = .ok (.invokestatic 125, 3) := by decide +kernel
theorem dL_law_738 : decode cL_law 738 = .ok (.istore 5, 2) := by decide +kernel
theorem dL_law_740 : decode cL_law 740 = .ok (.aload_n 2, 1) := by decide +kernel
theorem dL_law_741 : decode cL_law 741 = .ok (.aload_n 0, 1) := by decide +kernel
theorem dL_law_742 : decode cL_law 742 = .ok (.iload 4, 2) := by decide +kernel
theorem dL_law_744 : decode cL_law 744 = .ok (.iconst 1, 1) := by decide +kernel
theorem dL_law_745 : decode cL_law 745 = .ok (.iadd, 1) := by decide +kernel
theorem dL_law_746 : decode cL_law 746 = .ok (.iaload, 1) := by decide +kernel
theorem dL_law_747 : decode cL_law 747 = .ok (.invokevirtual 127, 3) := by decide +kernel
theorem dL_law_750 : decode cL_law 750 = .ok (.istore 6, 2) := by decide +kernel
theorem dL_law_752 : decode cL_law 752 = .ok (.aload_n 2, 1) := by decide +kernel
theorem dL_law_753 : decode cL_law 753 = .ok (.invokevirtual 83, 3) := by decide +kernel
theorem dL_law_756 : decode cL_law 756 = .ok (.iload 5, 2) := by decide +kernel
theorem dL_law_758 : decode cL_law 758 = .ok (.if_icmp .eq 5, 3) := by decide +kernel
theorem dL_law_761 : decode cL_law 761 = .ok (.iconst 0, 1) := by decide +kernel
theorem dL_law_762 : decode cL_law 762 = .ok (.ireturn, 1) := by decide +kernel
theorem dL_law_763 : decode cL_law 763 = .ok (.iload 5, 2) := by decide +kernel
theorem dL_law_765 : decode cL_law 765 = .ok (.ifCond .ne 15, 3) := by decide +kernel
theorem dL_law_768 : decode cL_law 768 = .ok (.aload_n 3, 1) := by decide +kernel
theorem dL_law_769 : decode cL_law 769 = .ok (.iconst 0, 1) := by decide +kernel
theorem dL_law_770 : decode cL_law 770 = .ok (.laload, 1) := by decide +kernel
theorem dL_law_771 : decode cL_law 771 = .ok (.iload 6, 2) := by decide +kernel
theorem dL_law_773 : decode cL_law 773 = .ok (.i2l, 1) := by decide +kernel
theorem dL_law_774 : decode cL_law 774 = .ok (.lcmp, 1) := by decide +kernel
theorem dL_law_775 : decode cL_law 775 = .ok (.ifCond .eq 5, 3) := by decide +kernel
theorem dL_law_778 : decode cL_law 778 = .ok (.iconst 0, 1) := by decide +kernel
theorem dL_law_779 : decode cL_law 779 = .ok (.ireturn, 1) := by decide +kernel
theorem dL_law_780 : decode cL_law 780 = .ok (.goto 451, 3) := by decide +kernel
theorem dL_law_783 : decode cL_law 783 = .ok (.aload_n 1, 1) := by decide +kernel
theorem dL_law_784 : decode cL_law 784 = .ok (.aload_n 0, 1) := by decide +kernel
theorem dL_law_785 : decode cL_law 785 = .ok (.iload 4, 2) := by decide +kernel
theorem dL_law_787 : decode cL_law 787 = .ok (.iconst 1, 1) := by decide +kernel
theorem dL_law_788 : decode cL_law 788 = .ok (.iadd, 1) := by decide +kernel
theorem dL_law_789 : decode cL_law 789 = .ok (.iaload, 1) := by decide +kernel
theorem dL_law_790 : decode cL_law 790 = .ok (.aload_n 3, 1) := by decide +kernel
theorem dL_law_791 : decode cL_law 791 = .ok (.invokestatic 128, 3) := by decide +kernel
theorem dL_law_794 : decode cL_law 794 = .ok (.istore 5, 2) := by decide +kernel
theorem dL_law_796 : decode cL_law 796 = .ok (.aload_n 2, 1) := by decide +kernel
theorem dL_law_797 : decode cL_law 797 = .ok (.aload_n 0, 1) := by decide +kernel
theorem dL_law_798 : decode cL_law 798 = .ok (.iload 4, 2) := by decide +kernel
theorem dL_law_800 : decode cL_law 800 = .ok (.iconst 1, 1) := by decide +kernel
theorem dL_law_801 : decode cL_law 801 = .ok (.iadd, 1) := by decide +kernel
theorem dL_law_802 : decode cL_law 802 = .ok (.iaload, 1) := by decide +kernel
theorem dL_law_803 : decode cL_law 803 = .ok (.invokevirtual 130, 3) := by decide +kernel
theorem dL_law_806 : decode cL_law 806 = .ok (.istore 6, 2) := by decide +kernel
theorem dL_law_808 : decode cL_law 808 = .ok (.aload_n 2, 1) := by decide +kernel
theorem dL_law_809 : decode cL_law 809 = .ok (.invokevirtual 83, 3) := by decide +kernel
theorem dL_law_812 : decode cL_law 812 = .ok (.iload 5, 2) := by decide +kernel
theorem dL_law_814 : decode cL_law 814 = .ok (.if_icmp .eq 5, 3) := by decide +kernel
theorem dL_law_817 : decode cL_law 817 = .ok (.iconst 0, 1) := by decide +kernel
theorem dL_law_818 : decode cL_law 818 = .ok (.ireturn, 1) := by decide +kernel
theorem dL_law_819 : decode cL_law 819 = .ok (.iload 5, 2) := by decide +kernel
theorem dL_law_821 : decode cL_law 821 = .ok (.ifCond .ne 15, 3) := by decide +kernel
theorem dL_law_824 : decode cL_law 824 = .ok (.aload_n 3, 1) := by decide +kernel
theorem dL_law_825 : decode cL_law 825 = .ok (.iconst 0, 1) := by decide +kernel
theorem dL_law_826 : decode cL_law 826 = .ok (.laload, 1) := by decide +kernel
theorem dL_law_827 : decode cL_law 827 = .ok (.iload 6, 2) := by decide +kernel
theorem dL_law_829 : decode cL_law 829 = .ok (.i2l, 1) := by decide +kernel
theorem dL_law_830 : decode cL_law 830 = .ok (.lcmp, 1) := by decide +kernel
theorem dL_law_831 : decode cL_law 831 = .ok (.ifCond .eq 5, 3) := by decide +kernel
theorem dL_law_834 : decode cL_law 834 = .ok (.iconst 0, 1) := by decide +kernel
theorem dL_law_835 : decode cL_law 835 = .ok (.ireturn, 1) := by decide +kernel
theorem dL_law_836 : decode cL_law 836 = .ok (.goto 395, 3) := by decide +kernel
theorem dL_law_839 : decode cL_law 839 = .ok (.aload_n 1, 1) := by decide +kernel
theorem dL_law_840 : decode cL_law 840 = .ok (.aload_n 0, 1) := by decide +kernel
theorem dL_law_841 : decode cL_law 841 = .ok (.iload 4, 2) := by decide +kernel
theorem dL_law_843 : decode cL_law 843 = .ok (.iconst 1, 1) := by decide +kernel
theorem dL_law_844 : decode cL_law 844 = .ok (.iadd, 1) := by decide +kernel
theorem dL_law_845 : decode cL_law 845 = .ok (.iaload, 1) := by decide +kernel
theorem dL_law_846 : decode cL_law 846 = .ok (.aload_n 0, 1) := by decide +kernel
theorem dL_law_847 : decode cL_law 847 = .ok (.iload 4, 2) := by decide +kernel
theorem dL_law_849 : decode cL_law 849 = .ok (.iconst 2, 1) := by decide +kernel
theorem dL_law_850 : decode cL_law 850 = .ok (.iadd, 1) := by decide +kernel
theorem dL_law_851 : decode cL_law 851 = .ok (.iaload, 1) := by decide +kernel
theorem dL_law_852 : decode cL_law 852 = .ok (.aload_n 3, 1) := by decide +kernel
theorem dL_law_853 : decode cL_law 853 = .ok (.invokestatic 131, 3) := by decide +kernel
theorem dL_law_856 : decode cL_law 856 = .ok (.istore 5, 2) := by decide +kernel
theorem dL_law_858 : decode cL_law 858 = .ok (.aload_n 2, 1) := by decide +kernel
theorem dL_law_859 : decode cL_law 859 = .ok (.aload_n 0, 1) := by decide +kernel
theorem dL_law_860 : decode cL_law 860 = .ok (.iload 4, 2) := by decide +kernel
theorem dL_law_862 : decode cL_law 862 = .ok (.iconst 1, 1) := by decide +kernel
theorem dL_law_863 : decode cL_law 863 = .ok (.iadd, 1) := by decide +kernel
theorem dL_law_864 : decode cL_law 864 = .ok (.iaload, 1) := by decide +kernel
theorem dL_law_865 : decode cL_law 865 = .ok (.aload_n 0, 1) := by decide +kernel
theorem dL_law_866 : decode cL_law 866 = .ok (.iload 4, 2) := by decide +kernel
theorem dL_law_868 : decode cL_law 868 = .ok (.iconst 2, 1) := by decide +kernel
theorem dL_law_869 : decode cL_law 869 = .ok (.iadd, 1) := by decide +kernel
theorem dL_law_870 : decode cL_law 870 = .ok (.iaload, 1) := by decide +kernel
theorem dL_law_871 : decode cL_law 871 = .ok (.invokevirtual 133, 3) := by decide +kernel
theorem dL_law_874 : decode cL_law 874 = .ok (.istore 6, 2) := by decide +kernel
theorem dL_law_876 : decode cL_law 876 = .ok (.aload_n 2, 1) := by decide +kernel
theorem dL_law_877 : decode cL_law 877 = .ok (.invokevirtual 83, 3) := by decide +kernel
theorem dL_law_880 : decode cL_law 880 = .ok (.iload 5, 2) := by decide +kernel
theorem dL_law_882 : decode cL_law 882 = .ok (.if_icmp .eq 5, 3) := by decide +kernel
theorem dL_law_885 : decode cL_law 885 = .ok (.iconst 0, 1) := by decide +kernel
theorem dL_law_886 : decode cL_law 886 = .ok (.ireturn, 1) := by decide +kernel
theorem dL_law_887 : decode cL_law 887 = .ok (.iload 5, 2) := by decide +kernel
theorem dL_law_889 : decode cL_law 889 = .ok (.ifCond .ne 22, 3) := by decide +kernel
theorem dL_law_892 : decode cL_law 892 = .ok (.aload_n 3, 1) := by decide +kernel
theorem dL_law_893 : decode cL_law 893 = .ok (.iconst 0, 1) := by decide +kernel
theorem dL_law_894 : decode cL_law 894 = .ok (.laload, 1) := by decide +kernel
theorem dL_law_895 : decode cL_law 895 = .ok (.iload 6, 2) := by decide +kernel
theorem dL_law_897 : decode cL_law 897 = .ok (.ifCond .eq 7, 3) := by decide +kernel
theorem dL_law_900 : decode cL_law 900 = .ok (.lconst 1, 1) := by decide +kernel
theorem dL_law_901 : decode cL_law 901 = .ok (.goto 4, 3) := by decide +kernel
theorem dL_law_904 : decode cL_law 904 = .ok (.lconst 0, 1) := by decide +kernel
theorem dL_law_905 : decode cL_law 905 = .ok (.lcmp, 1) := by decide +kernel
theorem dL_law_906 : decode cL_law 906 = .ok (.ifCond .eq 5, 3) := by decide +kernel
theorem dL_law_909 : decode cL_law 909 = .ok (.iconst 0, 1) := by decide +kernel
theorem dL_law_910 : decode cL_law 910 = .ok (.ireturn, 1) := by decide +kernel
theorem dL_law_911 : decode cL_law 911 = .ok (.goto 320, 3) := by decide +kernel
theorem dL_law_914 : decode cL_law 914 = .ok (.aload_n 1, 1) := by decide +kernel
theorem dL_law_915 : decode cL_law 915 = .ok (.aload_n 0, 1) := by decide +kernel
theorem dL_law_916 : decode cL_law 916 = .ok (.iload 4, 2) := by decide +kernel
theorem dL_law_918 : decode cL_law 918 = .ok (.iconst 1, 1) := by decide +kernel
theorem dL_law_919 : decode cL_law 919 = .ok (.iadd, 1) := by decide +kernel
theorem dL_law_920 : decode cL_law 920 = .ok (.iaload, 1) := by decide +kernel
theorem dL_law_921 : decode cL_law 921 = .ok (.aload_n 0, 1) := by decide +kernel
theorem dL_law_922 : decode cL_law 922 = .ok (.iload 4, 2) := by decide +kernel
theorem dL_law_924 : decode cL_law 924 = .ok (.iconst 2, 1) := by decide +kernel
theorem dL_law_925 : decode cL_law 925 = .ok (.iadd, 1) := by decide +kernel
theorem dL_law_926 : decode cL_law 926 = .ok (.iaload, 1) := by decide +kernel
theorem dL_law_927 : decode cL_law 927 = .ok (.aload_n 3, 1) := by decide +kernel
theorem dL_law_928 : decode cL_law 928 = .ok (.invokestatic 134, 3) := by decide +kernel
theorem dL_law_931 : decode cL_law 931 = .ok (.istore 5, 2) := by decide +kernel
theorem dL_law_933 : decode cL_law 933 = .ok (.aload_n 2, 1) := by decide +kernel
theorem dL_law_934 : decode cL_law 934 = .ok (.aload_n 0, 1) := by decide +kernel
theorem dL_law_935 : decode cL_law 935 = .ok (.iload 4, 2) := by decide +kernel
theorem dL_law_937 : decode cL_law 937 = .ok (.iconst 1, 1) := by decide +kernel
theorem dL_law_938 : decode cL_law 938 = .ok (.iadd, 1) := by decide +kernel
theorem dL_law_939 : decode cL_law 939 = .ok (.iaload, 1) := by decide +kernel
theorem dL_law_940 : decode cL_law 940 = .ok (.aload_n 0, 1) := by decide +kernel
theorem dL_law_941 : decode cL_law 941 = .ok (.iload 4, 2) := by decide +kernel
theorem dL_law_943 : decode cL_law 943 = .ok (.iconst 2, 1) := by decide +kernel
theorem dL_law_944 : decode cL_law 944 = .ok (.iadd, 1) := by decide +kernel
theorem dL_law_945 : decode cL_law 945 = .ok (.iaload, 1) := by decide +kernel
theorem dL_law_946 : decode cL_law 946 = .ok (.invokevirtual 136, 3) := by decide +kernel
theorem dL_law_949 : decode cL_law 949 = .ok (.istore 6, 2) := by decide +kernel
theorem dL_law_951 : decode cL_law 951 = .ok (.aload_n 2, 1) := by decide +kernel
theorem dL_law_952 : decode cL_law 952 = .ok (.invokevirtual 83, 3) := by decide +kernel
theorem dL_law_955 : decode cL_law 955 = .ok (.iload 5, 2) := by decide +kernel
theorem dL_law_957 : decode cL_law 957 = .ok (.if_icmp .eq 5, 3) := by decide +kernel
theorem dL_law_960 : decode cL_law 960 = .ok (.iconst 0, 1) := by decide +kernel
theorem dL_law_961 : decode cL_law 961 = .ok (.ireturn, 1) := by decide +kernel
theorem dL_law_962 : decode cL_law 962 = .ok (.iload 5, 2) := by decide +kernel
theorem dL_law_964 : decode cL_law 964 = .ok (.ifCond .ne 15, 3) := by decide +kernel
theorem dL_law_967 : decode cL_law 967 = .ok (.aload_n 3, 1) := by decide +kernel
theorem dL_law_968 : decode cL_law 968 = .ok (.iconst 0, 1) := by decide +kernel
theorem dL_law_969 : decode cL_law 969 = .ok (.laload, 1) := by decide +kernel
theorem dL_law_970 : decode cL_law 970 = .ok (.iload 6, 2) := by decide +kernel
theorem dL_law_972 : decode cL_law 972 = .ok (.i2l, 1) := by decide +kernel
theorem dL_law_973 : decode cL_law 973 = .ok (.lcmp, 1) := by decide +kernel
theorem dL_law_974 : decode cL_law 974 = .ok (.ifCond .eq 5, 3) := by decide +kernel
theorem dL_law_977 : decode cL_law 977 = .ok (.iconst 0, 1) := by decide +kernel
theorem dL_law_978 : decode cL_law 978 = .ok (.ireturn, 1) := by decide +kernel
theorem dL_law_979 : decode cL_law 979 = .ok (.goto 252, 3) := by decide +kernel
theorem dL_law_982 : decode cL_law 982 = .ok (.aload_n 1, 1) := by decide +kernel
theorem dL_law_983 : decode cL_law 983 = .ok (.aload_n 0, 1) := by decide +kernel
theorem dL_law_984 : decode cL_law 984 = .ok (.iload 4, 2) := by decide +kernel
theorem dL_law_986 : decode cL_law 986 = .ok (.iconst 1, 1) := by decide +kernel
theorem dL_law_987 : decode cL_law 987 = .ok (.iadd, 1) := by decide +kernel
theorem dL_law_988 : decode cL_law 988 = .ok (.iaload, 1) := by decide +kernel
theorem dL_law_989 : decode cL_law 989 = .ok (.aload_n 0, 1) := by decide +kernel
theorem dL_law_990 : decode cL_law 990 = .ok (.iload 4, 2) := by decide +kernel
theorem dL_law_992 : decode cL_law 992 = .ok (.iconst 2, 1) := by decide +kernel
theorem dL_law_993 : decode cL_law 993 = .ok (.iadd, 1) := by decide +kernel
theorem dL_law_994 : decode cL_law 994 = .ok (.iaload, 1) := by decide +kernel
theorem dL_law_995 : decode cL_law 995 = .ok (.aload_n 3, 1) := by decide +kernel
theorem dL_law_996 : decode cL_law 996 = .ok (.invokestatic 137, 3) := by decide +kernel
theorem dL_law_999 : decode cL_law 999 = .ok (.istore 5, 2) := by decide +kernel
theorem dL_law_1001 : decode cL_law 1001 = .ok (.aload_n 2, 1) := by decide +kernel
theorem dL_law_1002 : decode cL_law 1002 = .ok (.aload_n 0, 1) := by decide +kernel
theorem dL_law_1003 : decode cL_law 1003 = .ok (.iload 4, 2) := by decide +kernel
theorem dL_law_1005 : decode cL_law 1005 = .ok (.iconst 1, 1) := by decide +kernel
theorem dL_law_1006 : decode cL_law 1006 = .ok (.iadd, 1) := by decide +kernel
theorem dL_law_1007 : decode cL_law 1007 = .ok (.iaload, 1) := by decide +kernel
theorem dL_law_1008 : decode cL_law 1008 = .ok (.aload_n 0, 1) := by decide +kernel
theorem dL_law_1009 : decode cL_law 1009 = .ok (.iload 4, 2) := by decide +kernel
theorem dL_law_1011 : decode cL_law 1011 = .ok (.iconst 2, 1) := by decide +kernel
theorem dL_law_1012 : decode cL_law 1012 = .ok (.iadd, 1) := by decide +kernel
theorem dL_law_1013 : decode cL_law 1013 = .ok (.iaload, 1) := by decide +kernel
theorem dL_law_1014 : decode cL_law 1014 = .ok (.invokevirtual 139, 3) := by decide +kernel
theorem dL_law_1017 : decode cL_law 1017 = .ok (.istore 6, 2) := by decide +kernel
theorem dL_law_1019 : decode cL_law 1019 = .ok (.aload_n 2, 1) := by decide +kernel
theorem dL_law_1020 : decode cL_law 1020 = .ok (.invokevirtual 83, 3) := by decide +kernel
theorem dL_law_1023 : decode cL_law 1023 = .ok (.iload 5, 2) := by decide +kernel
theorem dL_law_1025 : decode cL_law 1025 = .ok (.if_icmp .eq 5, 3) := by decide +kernel
theorem dL_law_1028 : decode cL_law 1028 = .ok (.iconst 0, 1) := by decide +kernel
theorem dL_law_1029 : decode cL_law 1029 = .ok (.ireturn, 1) := by decide +kernel
theorem dL_law_1030 : decode cL_law 1030 = .ok (.iload 5, 2) := by decide +kernel
theorem dL_law_1032 : decode cL_law 1032 = .ok (.ifCond .ne 15, 3) := by decide +kernel
theorem dL_law_1035 : decode cL_law 1035 = .ok (.aload_n 3, 1) := by decide +kernel
theorem dL_law_1036 : decode cL_law 1036 = .ok (.iconst 0, 1) := by decide +kernel
theorem dL_law_1037 : decode cL_law 1037 = .ok (.laload, 1) := by decide +kernel
theorem dL_law_1038 : decode cL_law 1038 = .ok (.iload 6, 2) := by decide +kernel
theorem dL_law_1040 : decode cL_law 1040 = .ok (.i2l, 1) := by decide +kernel
theorem dL_law_1041 : decode cL_law 1041 = .ok (.lcmp, 1) := by decide +kernel
theorem dL_law_1042 : decode cL_law 1042 = .ok (.ifCond .eq 5, 3) := by decide +kernel
theorem dL_law_1045 : decode cL_law 1045 = .ok (.iconst 0, 1) := by decide +kernel
theorem dL_law_1046 : decode cL_law 1046 = .ok (.ireturn, 1) := by decide +kernel
theorem dL_law_1047 : decode cL_law 1047 = .ok (.goto 184, 3) := by decide +kernel
theorem dL_law_1050 : decode cL_law 1050 = .ok (.aload_n 1, 1) := by decide +kernel
theorem dL_law_1051 : decode cL_law 1051 = .ok (.aload_n 0, 1) := by decide +kernel
theorem dL_law_1052 : decode cL_law 1052 = .ok (.iload 4, 2) := by decide +kernel
theorem dL_law_1054 : decode cL_law 1054 = .ok (.iconst 1, 1) := by decide +kernel
theorem dL_law_1055 : decode cL_law 1055 = .ok (.iadd, 1) := by decide +kernel
theorem dL_law_1056 : decode cL_law 1056 = .ok (.iaload, 1) := by decide +kernel
theorem dL_law_1057 : decode cL_law 1057 = .ok (.aload_n 0, 1) := by decide +kernel
theorem dL_law_1058 : decode cL_law 1058 = .ok (.iload 4, 2) := by decide +kernel
theorem dL_law_1060 : decode cL_law 1060 = .ok (.iconst 2, 1) := by decide +kernel
theorem dL_law_1061 : decode cL_law 1061 = .ok (.iadd, 1) := by decide +kernel
theorem dL_law_1062 : decode cL_law 1062 = .ok (.iaload, 1) := by decide +kernel
theorem dL_law_1063 : decode cL_law 1063 = .ok (.aload_n 3, 1) := by decide +kernel
theorem dL_law_1064 : decode cL_law 1064 = .ok (.invokestatic 140, 3) := by decide +kernel
theorem dL_law_1067 : decode cL_law 1067 = .ok (.istore 5, 2) := by decide +kernel
theorem dL_law_1069 : decode cL_law 1069 = .ok (.aload_n 2, 1) := by decide +kernel
theorem dL_law_1070 : decode cL_law 1070 = .ok (.aload_n 0, 1) := by decide +kernel
theorem dL_law_1071 : decode cL_law 1071 = .ok (.iload 4, 2) := by decide +kernel
theorem dL_law_1073 : decode cL_law 1073 = .ok (.iconst 1, 1) := by decide +kernel
theorem dL_law_1074 : decode cL_law 1074 = .ok (.iadd, 1) := by decide +kernel
theorem dL_law_1075 : decode cL_law 1075 = .ok (.iaload, 1) := by decide +kernel
theorem dL_law_1076 : decode cL_law 1076 = .ok (.aload_n 0, 1) := by decide +kernel
theorem dL_law_1077 : decode cL_law 1077 = .ok (.iload 4, 2) := by decide +kernel
theorem dL_law_1079 : decode cL_law 1079 = .ok (.iconst 2, 1) := by decide +kernel
theorem dL_law_1080 : decode cL_law 1080 = .ok (.iadd, 1) := by decide +kernel
theorem dL_law_1081 : decode cL_law 1081 = .ok (.iaload, 1) := by decide +kernel
theorem dL_law_1082 : decode cL_law 1082 = .ok (.invokevirtual 142, 3) := by decide +kernel
theorem dL_law_1085 : decode cL_law 1085 = .ok (.istore 6, 2) := by decide +kernel
theorem dL_law_1087 : decode cL_law 1087 = .ok (.aload_n 2, 1) := by decide +kernel
theorem dL_law_1088 : decode cL_law 1088 = .ok (.invokevirtual 83, 3) := by decide +kernel
theorem dL_law_1091 : decode cL_law 1091 = .ok (.iload 5, 2) := by decide +kernel
theorem dL_law_1093 : decode cL_law 1093 = .ok (.if_icmp .eq 5, 3) := by decide +kernel
theorem dL_law_1096 : decode cL_law 1096 = .ok (.iconst 0, 1) := by decide +kernel
theorem dL_law_1097 : decode cL_law 1097 = .ok (.ireturn, 1) := by decide +kernel
theorem dL_law_1098 : decode cL_law 1098 = .ok (.iload 5, 2) := by decide +kernel
theorem dL_law_1100 : decode cL_law 1100 = .ok (.ifCond .ne 15, 3) := by decide +kernel
theorem dL_law_1103 : decode cL_law 1103 = .ok (.aload_n 3, 1) := by decide +kernel
theorem dL_law_1104 : decode cL_law 1104 = .ok (.iconst 0, 1) := by decide +kernel
theorem dL_law_1105 : decode cL_law 1105 = .ok (.laload, 1) := by decide +kernel
theorem dL_law_1106 : decode cL_law 1106 = .ok (.iload 6, 2) := by decide +kernel
theorem dL_law_1108 : decode cL_law 1108 = .ok (.i2l, 1) := by decide +kernel
theorem dL_law_1109 : decode cL_law 1109 = .ok (.lcmp, 1) := by decide +kernel
theorem dL_law_1110 : decode cL_law 1110 = .ok (.ifCond .eq 5, 3) := by decide +kernel
theorem dL_law_1113 : decode cL_law 1113 = .ok (.iconst 0, 1) := by decide +kernel
theorem dL_law_1114 : decode cL_law 1114 = .ok (.ireturn, 1) := by decide +kernel
theorem dL_law_1115 : decode cL_law 1115 = .ok (.goto 116, 3) := by decide +kernel
theorem dL_law_1118 : decode cL_law 1118 = .ok (.aload_n 1, 1) := by decide +kernel
theorem dL_law_1119 : decode cL_law 1119 = .ok (.aload_n 0, 1) := by decide +kernel
theorem dL_law_1120 : decode cL_law 1120 = .ok (.iload 4, 2) := by decide +kernel
theorem dL_law_1122 : decode cL_law 1122 = .ok (.iconst 1, 1) := by decide +kernel
theorem dL_law_1123 : decode cL_law 1123 = .ok (.iadd, 1) := by decide +kernel
theorem dL_law_1124 : decode cL_law 1124 = .ok (.iaload, 1) := by decide +kernel
theorem dL_law_1125 : decode cL_law 1125 = .ok (.aload_n 3, 1) := by decide +kernel
theorem dL_law_1126 : decode cL_law 1126 = .ok (.invokestatic 143, 3) := by decide +kernel
theorem dL_law_1129 : decode cL_law 1129 = .ok (.istore 5, 2) := by decide +kernel
theorem dL_law_1131 : decode cL_law 1131 = .ok (.aload_n 2, 1) := by decide +kernel
theorem dL_law_1132 : decode cL_law 1132 = .ok (.aload_n 0, 1) := by decide +kernel
theorem dL_law_1133 : decode cL_law 1133 = .ok (.iload 4, 2) := by decide +kernel
theorem dL_law_1135 : decode cL_law 1135 = .ok (.iconst 1, 1) := by decide +kernel
theorem dL_law_1136 : decode cL_law 1136 = .ok (.iadd, 1) := by decide +kernel
theorem dL_law_1137 : decode cL_law 1137 = .ok (.iaload, 1) := by decide +kernel
theorem dL_law_1138 : decode cL_law 1138 = .ok (.invokevirtual 145, 3) := by decide +kernel
theorem dL_law_1141 : decode cL_law 1141 = .ok (.istore 6, 2) := by decide +kernel
theorem dL_law_1143 : decode cL_law 1143 = .ok (.aload_n 2, 1) := by decide +kernel
theorem dL_law_1144 : decode cL_law 1144 = .ok (.invokevirtual 83, 3) := by decide +kernel
theorem dL_law_1147 : decode cL_law 1147 = .ok (.iload 5, 2) := by decide +kernel
theorem dL_law_1149 : decode cL_law 1149 = .ok (.if_icmp .eq 5, 3) := by decide +kernel
theorem dL_law_1152 : decode cL_law 1152 = .ok (.iconst 0, 1) := by decide +kernel
theorem dL_law_1153 : decode cL_law 1153 = .ok (.ireturn, 1) := by decide +kernel
theorem dL_law_1154 : decode cL_law 1154 = .ok (.iload 5, 2) := by decide +kernel
theorem dL_law_1156 : decode cL_law 1156 = .ok (.ifCond .ne 15, 3) := by decide +kernel
theorem dL_law_1159 : decode cL_law 1159 = .ok (.aload_n 3, 1) := by decide +kernel
theorem dL_law_1160 : decode cL_law 1160 = .ok (.iconst 0, 1) := by decide +kernel
theorem dL_law_1161 : decode cL_law 1161 = .ok (.laload, 1) := by decide +kernel
theorem dL_law_1162 : decode cL_law 1162 = .ok (.iload 6, 2) := by decide +kernel
theorem dL_law_1164 : decode cL_law 1164 = .ok (.i2l, 1) := by decide +kernel
theorem dL_law_1165 : decode cL_law 1165 = .ok (.lcmp, 1) := by decide +kernel
theorem dL_law_1166 : decode cL_law 1166 = .ok (.ifCond .eq 5, 3) := by decide +kernel
theorem dL_law_1169 : decode cL_law 1169 = .ok (.iconst 0, 1) := by decide +kernel
theorem dL_law_1170 : decode cL_law 1170 = .ok (.ireturn, 1) := by decide +kernel
theorem dL_law_1171 : decode cL_law 1171 = .ok (.goto 60, 3) := by decide +kernel
theorem dL_law_1174 : decode cL_law 1174 = .ok (.aload_n 1, 1) := by decide +kernel
theorem dL_law_1175 : decode cL_law 1175 = .ok (.invokevirtual 146, 3) := by decide +kernel
theorem dL_law_1178 : decode cL_law 1178 = .ok (.aload_n 2, 1) := by decide +kernel
theorem dL_law_1179 : decode cL_law 1179 = .ok (.invokevirtual 149, 3) := by decide +kernel
theorem dL_law_1182 : decode cL_law 1182 = .ok (.if_icmp .eq 49, 3) := by decide +kernel
theorem dL_law_1185 : decode cL_law 1185 = .ok (.iconst 0, 1) := by decide +kernel
theorem dL_law_1186 : decode cL_law 1186 = .ok (.ireturn, 1) := by decide +kernel
theorem dL_law_1187 : decode cL_law 1187 = .ok (.aload_n 1, 1) := by decide +kernel
theorem dL_law_1188 : decode cL_law 1188 = .ok (.aload_n 3, 1) := by decide +kernel
theorem dL_law_1189 : decode cL_law 1189 = .ok (.invokestatic 150, 3) := by decide +kernel
theorem dL_law_1192 : decode cL_law 1192 = .ok (.istore 5, 2) := by decide +kernel
theorem dL_law_1194 : decode cL_law 1194 = .ok (.aload_n 2, 1) := by decide +kernel
theorem dL_law_1195 : decode cL_law 1195 = .ok (.invokevirtual 152, 3) := by decide +kernel
theorem dL_law_1198 : decode cL_law 1198 = .ok (.istore 6, 2) := by decide +kernel
theorem dL_law_1200 : decode cL_law 1200 = .ok (.aload_n 2, 1) := by decide +kernel
theorem dL_law_1201 : decode cL_law 1201 = .ok (.invokevirtual 83, 3) := by decide +kernel
theorem dL_law_1204 : decode cL_law 1204 = .ok (.iload 5, 2) := by decide +kernel
theorem dL_law_1206 : decode cL_law 1206 = .ok (.if_icmp .eq 5, 3) := by decide +kernel
theorem dL_law_1209 : decode cL_law 1209 = .ok (.iconst 0, 1) := by decide +kernel
theorem dL_law_1210 : decode cL_law 1210 = .ok (.ireturn, 1) := by decide +kernel
theorem dL_law_1211 : decode cL_law 1211 = .ok (.iload 5, 2) := by decide +kernel
theorem dL_law_1213 : decode cL_law 1213 = .ok (.ifCond .ne 15, 3) := by decide +kernel
theorem dL_law_1216 : decode cL_law 1216 = .ok (.aload_n 3, 1) := by decide +kernel
theorem dL_law_1217 : decode cL_law 1217 = .ok (.iconst 0, 1) := by decide +kernel
theorem dL_law_1218 : decode cL_law 1218 = .ok (.laload, 1) := by decide +kernel
theorem dL_law_1219 : decode cL_law 1219 = .ok (.iload 6, 2) := by decide +kernel
theorem dL_law_1221 : decode cL_law 1221 = .ok (.i2l, 1) := by decide +kernel
theorem dL_law_1222 : decode cL_law 1222 = .ok (.lcmp, 1) := by decide +kernel
theorem dL_law_1223 : decode cL_law 1223 = .ok (.ifCond .eq 5, 3) := by decide +kernel
theorem dL_law_1226 : decode cL_law 1226 = .ok (.iconst 0, 1) := by decide +kernel
theorem dL_law_1227 : decode cL_law 1227 = .ok (.ireturn, 1) := by decide +kernel
theorem dL_law_1228 : decode cL_law 1228 = .ok (.goto 3, 3) := by decide +kernel
theorem dL_law_1231 : decode cL_law 1231 = .ok (.iinc 4 4, 3) := by decide +kernel
theorem dL_law_1234 : decode cL_law 1234 = .ok (.goto (-1211), 3) := by decide +kernel
theorem dL_law_1237 : decode cL_law 1237 = .ok (.iconst 1, 1) := by decide +kernel
theorem dL_law_1238 : decode cL_law 1238 = .ok (.ireturn, 1) := by decide +kernel
