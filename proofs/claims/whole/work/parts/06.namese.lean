theorem dX12_cleanup_43 : decode cX12_cleanup 43 = .ok (.aload_n 0, 1) := by decide +kernel
theorem dX12_cleanup_44 : decode cX12_cleanup 44 = .ok (.getfield 9, 3) := by decide +kernel
theorem dX12_cleanup_47 : decode cX12_cleanup 47 = .ok (.iload_n 3, 1) := by decide +kernel
theorem dX12_cleanup_48 : decode cX12_cleanup 48 = .ok (.iconst 1, 1) := by decide +kernel
theorem dX12_cleanup_49 : decode cX12_cleanup 49 = .ok (.iadd, 1) := by decide +kernel
theorem dX12_cleanup_50 : decode cX12_cleanup 50 = .ok (.iload 4, 2) := by decide +kernel
theorem dX12_cleanup_52 : decode cX12_cleanup 52 = .ok (.iadd, 1) := by decide +kernel
theorem dX12_cleanup_53 : decode cX12_cleanup 53 = .ok (.iaload, 1) := by decide +kernel
theorem dX12_cleanup_54 : decode cX12_cleanup 54 = .ok (.istore 5, 2) := by decide +kernel
theorem dX12_cleanup_56 : decode cX12_cleanup 56 = .ok (.iload 5, 2) := by decide +kernel
theorem dX12_cleanup_58 : decode cX12_cleanup 58 = .ok (.bipush 100, 2) := by decide +kernel
theorem dX12_cleanup_60 : decode cX12_cleanup 60 = .ok (.idiv, 1) := by decide +kernel
theorem dX12_cleanup_61 : decode cX12_cleanup 61 = .ok (.bipush 33, 2) := by decide +kernel
theorem dX12_cleanup_63 : decode cX12_cleanup 63 = .ok (.if_icmp .eq 20, 3) := by decide +kernel
theorem dX12_cleanup_66 : decode cX12_cleanup 66 = .ok (.aload_n 0, 1) := by decide +kernel
theorem dX12_cleanup_67 : decode cX12_cleanup 67 = .ok (.iload_n 1, 1) := by decide +kernel
theorem dX12_cleanup_68 : decode cX12_cleanup 68 = .ok (.bipush 10, 2) := by decide +kernel
theorem dX12_cleanup_70 : decode cX12_cleanup 70 = .ok (.aload_n 0, 1) := by decide +kernel
theorem dX12_cleanup_71 : decode cX12_cleanup 71 = .ok (.iload_n 1, 1) := by decide +kernel
theorem dX12_cleanup_72 : decode cX12_cleanup 72 = .ok (.iload 5, 2) := by decide +kernel
theorem dX12_cleanup_74 : decode cX12_cleanup 74 = .ok (.iload 4, 2) := by decide +kernel
theorem dX12_cleanup_76 : decode cX12_cleanup 76 = .ok (.invokevirtual 169, 3) := by decide +kernel
theorem dX12_cleanup_79 : decode cX12_cleanup 79 = .ok (.invokevirtual 109, 3) := by decide +kernel
theorem dX12_cleanup_82 : decode cX12_cleanup 82 = .ok (.return_, 1) := by decide +kernel
theorem dX12_cleanup_83 : decode cX12_cleanup 83 = .ok (.aload_n 0, 1) := by decide +kernel
theorem dX12_cleanup_84 : decode cX12_cleanup 84 = .ok (.iload_n 1, 1) := by decide +kernel
theorem dX12_cleanup_85 : decode cX12_cleanup 85 = .ok (.bipush 9, 2) := by decide +kernel
theorem dX12_cleanup_87 : decode cX12_cleanup 87 = .ok (.iconst 0, 1) := by decide +kernel
theorem dX12_cleanup_88 : decode cX12_cleanup 88 = .ok (.invokevirtual 109, 3) := by decide +kernel
theorem dX12_cleanup_91 : decode cX12_cleanup 91 = .ok (.aload_n 0, 1) := by decide +kernel
theorem dX12_cleanup_92 : decode cX12_cleanup 92 = .ok (.iload_n 1, 1) := by decide +kernel
theorem dX12_cleanup_93 : decode cX12_cleanup 93 = .ok (.bipush 6, 2) := by decide +kernel
theorem dX12_cleanup_95 : decode cX12_cleanup 95 = .ok (.invokevirtual 37, 3) := by decide +kernel
theorem dX12_cleanup_98 : decode cX12_cleanup 98 = .ok (.ifCond .ne 30, 3) := by decide +kernel
theorem dX12_cleanup_101 : decode cX12_cleanup 101 = .ok (.aload_n 0, 1) := by decide +kernel
theorem dX12_cleanup_102 : decode cX12_cleanup 102 = .ok (.iload_n 1, 1) := by decide +kernel
theorem dX12_cleanup_103 : decode cX12_cleanup 103 = .ok (.aload_n 0, 1) := by decide +kernel
theorem dX12_cleanup_104 : decode cX12_cleanup 104 = .ok (.iload 5, 2) := by decide +kernel
theorem dX12_cleanup_106 : decode cX12_cleanup 106 = .ok (.bipush 100, 2) := by decide +kernel
theorem dX12_cleanup_108 : decode cX12_cleanup 108 = .ok (.irem, 1) := by decide +kernel
theorem dX12_cleanup_109 : decode cX12_cleanup 109 = .ok (.iload_n 1, 1) := by decide +kernel
theorem dX12_cleanup_110 : decode cX12_cleanup 110 = .ok (.iconst (-1), 1) := by decide +kernel
theorem dX12_cleanup_111 : decode cX12_cleanup 111 = .ok (.invokevirtual 134, 3) := by decide +kernel
theorem dX12_cleanup_114 : decode cX12_cleanup 114 = .ok (.aload_n 0, 1) := by decide +kernel
theorem dX12_cleanup_115 : decode cX12_cleanup 115 = .ok (.iload_n 1, 1) := by decide +kernel
theorem dX12_cleanup_116 : decode cX12_cleanup 116 = .ok (.iconst 3, 1) := by decide +kernel
theorem dX12_cleanup_117 : decode cX12_cleanup 117 = .ok (.invokevirtual 37, 3) := by decide +kernel
theorem dX12_cleanup_120 : decode cX12_cleanup 120 = .ok (.iconst 2, 1) := by decide +kernel
theorem dX12_cleanup_121 : decode cX12_cleanup 121 = .ok (.isub, 1) := by decide +kernel
theorem dX12_cleanup_122 : decode cX12_cleanup 122 = .ok (.invokevirtual 138, 3) := by decide +kernel
theorem dX12_cleanup_125 : decode cX12_cleanup 125 = .ok (.goto 53, 3) := by decide +kernel
theorem dX12_cleanup_128 : decode cX12_cleanup 128 = .ok (.aload_n 0, 1) := by decide +kernel
theorem dX12_cleanup_129 : decode cX12_cleanup 129 = .ok (.iload_n 1, 1) := by decide +kernel
theorem dX12_cleanup_130 : decode cX12_cleanup 130 = .ok (.bipush 6, 2) := by decide +kernel
theorem dX12_cleanup_132 : decode cX12_cleanup 132 = .ok (.invokevirtual 37, 3) := by decide +kernel
theorem dX12_cleanup_135 : decode cX12_cleanup 135 = .ok (.iconst 3, 1) := by decide +kernel
theorem dX12_cleanup_136 : decode cX12_cleanup 136 = .ok (.if_icmp .ne 30, 3) := by decide +kernel
theorem dX12_cleanup_139 : decode cX12_cleanup 139 = .ok (.aload_n 0, 1) := by decide +kernel
theorem dX12_cleanup_140 : decode cX12_cleanup 140 = .ok (.iload_n 1, 1) := by decide +kernel
theorem dX12_cleanup_141 : decode cX12_cleanup 141 = .ok (.bipush 8, 2) := by decide +kernel
theorem dX12_cleanup_143 : decode cX12_cleanup 143 = .ok (.aload_n 0, 1) := by decide +kernel
theorem dX12_cleanup_144 : decode cX12_cleanup 144 = .ok (.iload 5, 2) := by decide +kernel
theorem dX12_cleanup_146 : decode cX12_cleanup 146 = .ok (.bipush 100, 2) := by decide +kernel
theorem dX12_cleanup_148 : decode cX12_cleanup 148 = .ok (.irem, 1) := by decide +kernel
theorem dX12_cleanup_149 : decode cX12_cleanup 149 = .ok (.iload_n 1, 1) := by decide +kernel
theorem dX12_cleanup_150 : decode cX12_cleanup 150 = .ok (.aload_n 0, 1) := by decide +kernel
theorem dX12_cleanup_151 : decode cX12_cleanup 151 = .ok (.iload_n 1, 1) := by decide +kernel
theorem dX12_cleanup_152 : decode cX12_cleanup 152 = .ok (.bipush 8, 2) := by decide +kernel
theorem dX12_cleanup_154 : decode cX12_cleanup 154 = .ok (.invokevirtual 37, 3) := by decide +kernel
theorem dX12_cleanup_157 : decode cX12_cleanup 157 = .ok (.invokevirtual 134, 3) := by decide +kernel
theorem dX12_cleanup_160 : decode cX12_cleanup 160 = .ok (.invokevirtual 109, 3) := by decide +kernel
theorem dX12_cleanup_163 : decode cX12_cleanup 163 = .ok (.goto 15, 3) := by decide +kernel
theorem dX12_cleanup_166 : decode cX12_cleanup 166 = .ok (.aload_n 0, 1) := by decide +kernel
theorem dX12_cleanup_167 : decode cX12_cleanup 167 = .ok (.getfield 9, 3) := by decide +kernel
theorem dX12_cleanup_170 : decode cX12_cleanup 170 = .ok (.sipush 179, 3) := by decide +kernel
theorem dX12_cleanup_173 : decode cX12_cleanup 173 = .ok (.dup2, 1) := by decide +kernel
theorem dX12_cleanup_174 : decode cX12_cleanup 174 = .ok (.iaload, 1) := by decide +kernel
theorem dX12_cleanup_175 : decode cX12_cleanup 175 = .ok (.iconst 1, 1) := by decide +kernel
theorem dX12_cleanup_176 : decode cX12_cleanup 176 = .ok (.iadd, 1) := by decide +kernel
theorem dX12_cleanup_177 : decode cX12_cleanup 177 = .ok (.iastore, 1) := by decide +kernel
theorem dX12_cleanup_178 : decode cX12_cleanup 178 = .ok (.return_, 1) := by decide +kernel
set_option maxRecDepth 20000 in
theorem ggX12_opens_X12_fails_ : GoodIn wsX12_opens wsX12_fails_ := goodIn_r _ [6, 7, 8, 9, 5, 10, 1, 11, 12, 13, 14, 15, 16, 17, 18, 19, 20, 21, 22, 23, 24, 25, 26, 27, 28, 29, 30, 31, 32, 33, 34, 35, 36, 37, 38, 39, 40, 41, 42, 43, 44, 137, 138, 139, 140, 141, 142, 143, 144, 145, 146, 147] (by decide +kernel) (by decide +kernel)
set_option maxRecDepth 20000 in
theorem gX12_opens_X12_fails_ : GoodIn wsX12_opens (wsV RX12 172 RX12 yX12_fails_ wsX12_fails_) := goodIn_app (goodIn_of _ (by decide +kernel)) ggX12_opens_X12_fails_
set_option maxRecDepth 20000 in
theorem ggX12_opens_X12_scope : GoodIn wsX12_opens wsX12_scope := goodIn_r _ [24] (by decide +kernel) (by decide +kernel)
set_option maxRecDepth 20000 in
theorem gX12_opens_X12_scope : GoodIn wsX12_opens (va_wsS RX12 127 yX12_scope wsX12_scope) := goodIn_app (goodIn_of _ (by decide +kernel)) ggX12_opens_X12_scope
set_option maxRecDepth 20000 in
theorem ggX12_opens_X12_of : GoodIn wsX12_opens wsX12_of := goodIn_r _ [14, 1, 15, 16, 5, 17, 137, 138, 139, 140, 141, 142, 143, 144, 145, 146, 147] (by decide +kernel) (by decide +kernel)
set_option maxRecDepth 20000 in
theorem gX12_opens_X12_of : GoodIn wsX12_opens (wsV RX12 37 RX12 yX12_of wsX12_of) := goodIn_app (goodIn_of _ (by decide +kernel)) ggX12_opens_X12_of
set_option maxRecDepth 20000 in
theorem ggX12_opens_X12_task : GoodIn wsX12_opens wsX12_task := goodIn_r _ [17] (by decide +kernel) (by decide +kernel)
set_option maxRecDepth 20000 in
theorem gX12_opens_X12_task : GoodIn wsX12_opens (va_wsS RX12 29 yX12_task wsX12_task) := goodIn_app (goodIn_of _ (by decide +kernel)) ggX12_opens_X12_task
set_option maxRecDepth 20000 in
theorem ggX12_opens_X12_isAny : GoodIn wsX12_opens wsX12_isAny := goodIn_r _ [47, 48, 49, 50, 51, 52, 53, 54, 55, 56, 57, 58, 59, 60, 61, 62, 63, 64, 65, 66, 67, 68, 69, 70, 71, 72, 73, 74, 75, 76, 77, 78, 79, 80, 81, 82, 83, 84, 85, 86, 87, 88, 89, 90, 91, 92, 93, 94, 95, 96, 97, 98, 99, 100, 101, 102, 103, 104, 105, 106, 107, 108, 109, 110, 111, 112, 113, 114, 115, 116, 117, 118, 119, 120, 121, 122, 123, 124, 125, 126, 127, 128, 129, 130, 131, 132, 133, 134, 135, 136] (by decide +kernel) (by decide +kernel)
set_option maxRecDepth 20000 in
theorem gX12_opens_X12_isAny : GoodIn wsX12_opens (va_wsS RX12 65 yX12_isAny wsX12_isAny) := goodIn_app (goodIn_of _ (by decide +kernel)) ggX12_opens_X12_isAny
set_option maxRecDepth 20000 in
theorem ggX12_opens_X12_sets : GoodIn wsX12_opens wsX12_sets := goodIn_r _ [36, 1, 15, 16, 5, 17, 137, 138, 139, 140, 141, 142, 143, 144, 145, 146, 147] (by decide +kernel) (by decide +kernel)
set_option maxRecDepth 20000 in
theorem gX12_opens_X12_sets : GoodIn wsX12_opens (wsV RX12 109 RX12 yX12_sets wsX12_sets) := goodIn_app (goodIn_of _ (by decide +kernel)) ggX12_opens_X12_sets
theorem dX12_opens_0 : decode cX12_opens 0 = .ok (.aload_n 0, 1) := by decide +kernel
theorem dX12_opens_1 : decode cX12_opens 1 = .ok (.getfield 9, 3) := by decide +kernel
theorem dX12_opens_4 : decode cX12_opens 4 = .ok (.sipush 171, 3) := by decide +kernel
theorem dX12_opens_7 : decode cX12_opens 7 = .ok (.iaload, 1) := by decide +kernel
theorem dX12_opens_8 : decode cX12_opens 8 = .ok (.bipush 60, 2) := by decide +kernel
theorem dX12_opens_10 : decode cX12_opens 10 = .ok (.if_icmp .ne 11, 3) := by decide +kernel
theorem dX12_opens_13 : decode cX12_opens 13 = .ok (.aload_n 0, 1) := by decide +kernel
theorem dX12_opens_14 : decode cX12_opens 14 = .ok (.iload_n 1, 1) := by decide +kernel
theorem dX12_opens_15 : decode cX12_opens 15 = .ok (.bipush 12, 2) := by decide +kernel
theorem dX12_opens_17 : decode cX12_opens 17 = .ok (.invokevirtual 172, 3) := by decide +kernel
theorem dX12_opens_20 : decode cX12_opens 20 = .ok (.return_, 1) := by decide +kernel
theorem dX12_opens_21 : decode cX12_opens 21 = .ok (.aload_n 0, 1) := by decide +kernel
theorem dX12_opens_22 : decode cX12_opens 22 = .ok (.getfield 9, 3) := by decide +kernel
theorem dX12_opens_25 : decode cX12_opens 25 = .ok (.sipush 171, 3) := by decide +kernel
theorem dX12_opens_28 : decode cX12_opens 28 = .ok (.dup2, 1) := by decide +kernel
theorem dX12_opens_29 : decode cX12_opens 29 = .ok (.iaload, 1) := by decide +kernel
theorem dX12_opens_30 : decode cX12_opens 30 = .ok (.dup_x2, 1) := by decide +kernel
theorem dX12_opens_31 : decode cX12_opens 31 = .ok (.iconst 1, 1) := by decide +kernel
theorem dX12_opens_32 : decode cX12_opens 32 = .ok (.iadd, 1) := by decide +kernel
theorem dX12_opens_33 : decode cX12_opens 33 = .ok (.iastore, 1) := by decide +kernel
theorem dX12_opens_34 : decode cX12_opens 34 = .ok (.istore 4, 2) := by decide +kernel
theorem dX12_opens_36 : decode cX12_opens 36 = .ok (.aload_n 0, 1) := by decide +kernel
theorem dX12_opens_37 : decode cX12_opens 37 = .ok (.getfield 9, 3) := by decide +kernel
theorem dX12_opens_40 : decode cX12_opens 40 = .ok (.iload 4, 2) := by decide +kernel
theorem dX12_opens_42 : decode cX12_opens 42 = .ok (.invokestatic 127, 3) := by decide +kernel
theorem dX12_opens_45 : decode cX12_opens 45 = .ok (.iconst 0, 1) := by decide +kernel
theorem dX12_opens_46 : decode cX12_opens 46 = .ok (.iadd, 1) := by decide +kernel
theorem dX12_opens_47 : decode cX12_opens 47 = .ok (.iload_n 1, 1) := by decide +kernel
theorem dX12_opens_48 : decode cX12_opens 48 = .ok (.iastore, 1) := by decide +kernel
theorem dX12_opens_49 : decode cX12_opens 49 = .ok (.aload_n 0, 1) := by decide +kernel
theorem dX12_opens_50 : decode cX12_opens 50 = .ok (.getfield 9, 3) := by decide +kernel
theorem dX12_opens_53 : decode cX12_opens 53 = .ok (.iload 4, 2) := by decide +kernel
theorem dX12_opens_55 : decode cX12_opens 55 = .ok (.invokestatic 127, 3) := by decide +kernel
theorem dX12_opens_58 : decode cX12_opens 58 = .ok (.iconst 1, 1) := by decide +kernel
theorem dX12_opens_59 : decode cX12_opens 59 = .ok (.iadd, 1) := by decide +kernel
theorem dX12_opens_60 : decode cX12_opens 60 = .ok (.aload_n 0, 1) := by decide +kernel
theorem dX12_opens_61 : decode cX12_opens 61 = .ok (.iload_n 1, 1) := by decide +kernel
theorem dX12_opens_62 : decode cX12_opens 62 = .ok (.iconst 3, 1) := by decide +kernel
theorem dX12_opens_63 : decode cX12_opens 63 = .ok (.invokevirtual 37, 3) := by decide +kernel
theorem dX12_opens_66 : decode cX12_opens 66 = .ok (.iastore, 1) := by decide +kernel
theorem dX12_opens_67 : decode cX12_opens 67 = .ok (.aload_n 0, 1) := by decide +kernel
theorem dX12_opens_68 : decode cX12_opens 68 = .ok (.getfield 9, 3) := by decide +kernel
theorem dX12_opens_71 : decode cX12_opens 71 = .ok (.iload 4, 2) := by decide +kernel
theorem dX12_opens_73 : decode cX12_opens 73 = .ok (.invokestatic 127, 3) := by decide +kernel
theorem dX12_opens_76 : decode cX12_opens 76 = .ok (.iconst 2, 1) := by decide +kernel
theorem dX12_opens_77 : decode cX12_opens 77 = .ok (.iadd, 1) := by decide +kernel
theorem dX12_opens_78 : decode cX12_opens 78 = .ok (.iload_n 2, 1) := by decide +kernel
theorem dX12_opens_79 : decode cX12_opens 79 = .ok (.iastore, 1) := by decide +kernel
theorem dX12_opens_80 : decode cX12_opens 80 = .ok (.aload_n 0, 1) := by decide +kernel
theorem dX12_opens_81 : decode cX12_opens 81 = .ok (.getfield 9, 3) := by decide +kernel
theorem dX12_opens_84 : decode cX12_opens 84 = .ok (.iload 4, 2) := by decide +kernel
theorem dX12_opens_86 : decode cX12_opens 86 = .ok (.invokestatic 127, 3) := by decide +kernel
theorem dX12_opens_89 : decode cX12_opens 89 = .ok (.iconst 3, 1) := by decide +kernel
theorem dX12_opens_90 : decode cX12_opens 90 = .ok (.iadd, 1) := by decide +kernel
theorem dX12_opens_91 : decode cX12_opens 91 = .ok (.iconst 0, 1) := by decide +kernel
theorem dX12_opens_92 : decode cX12_opens 92 = .ok (.iastore, 1) := by decide +kernel
theorem dX12_opens_93 : decode cX12_opens 93 = .ok (.aload_n 0, 1) := by decide +kernel
theorem dX12_opens_94 : decode cX12_opens 94 = .ok (.getfield 9, 3) := by decide +kernel
theorem dX12_opens_97 : decode cX12_opens 97 = .ok (.iload 4, 2) := by decide +kernel
theorem dX12_opens_99 : decode cX12_opens 99 = .ok (.invokestatic 127, 3) := by decide +kernel
theorem dX12_opens_102 : decode cX12_opens 102 = .ok (.iconst 4, 1) := by decide +kernel
theorem dX12_opens_103 : decode cX12_opens 103 = .ok (.iadd, 1) := by decide +kernel
theorem dX12_opens_104 : decode cX12_opens 104 = .ok (.iload_n 3, 1) := by decide +kernel
theorem dX12_opens_105 : decode cX12_opens 105 = .ok (.iastore, 1) := by decide +kernel
theorem dX12_opens_106 : decode cX12_opens 106 = .ok (.aload_n 0, 1) := by decide +kernel
theorem dX12_opens_107 : decode cX12_opens 107 = .ok (.getfield 9, 3) := by decide +kernel
theorem dX12_opens_110 : decode cX12_opens 110 = .ok (.iload 4, 2) := by decide +kernel
theorem dX12_opens_112 : decode cX12_opens 112 = .ok (.invokestatic 127, 3) := by decide +kernel
theorem dX12_opens_115 : decode cX12_opens 115 = .ok (.iconst 5, 1) := by decide +kernel
theorem dX12_opens_116 : decode cX12_opens 116 = .ok (.iadd, 1) := by decide +kernel
theorem dX12_opens_117 : decode cX12_opens 117 = .ok (.iconst 0, 1) := by decide +kernel
theorem dX12_opens_118 : decode cX12_opens 118 = .ok (.iastore, 1) := by decide +kernel
theorem dX12_opens_119 : decode cX12_opens 119 = .ok (.aload_n 0, 1) := by decide +kernel
theorem dX12_opens_120 : decode cX12_opens 120 = .ok (.iload_n 1, 1) := by decide +kernel
theorem dX12_opens_121 : decode cX12_opens 121 = .ok (.iconst 2, 1) := by decide +kernel
theorem dX12_opens_122 : decode cX12_opens 122 = .ok (.invokevirtual 37, 3) := by decide +kernel
theorem dX12_opens_125 : decode cX12_opens 125 = .ok (.istore 5, 2) := by decide +kernel
theorem dX12_opens_127 : decode cX12_opens 127 = .ok (.iconst 1, 1) := by decide +kernel
theorem dX12_opens_128 : decode cX12_opens 128 = .ok (.istore 6, 2) := by decide +kernel
theorem dX12_opens_130 : decode cX12_opens 130 = .ok (.iload 6, 2) := by decide +kernel
theorem dX12_opens_132 : decode cX12_opens 132 = .ok (.ifCond .le 54, 3) := by decide +kernel
theorem dX12_opens_135 : decode cX12_opens 135 = .ok (.aload_n 0, 1) := by decide +kernel
theorem dX12_opens_136 : decode cX12_opens 136 = .ok (.getfield 9, 3) := by decide +kernel
theorem dX12_opens_139 : decode cX12_opens 139 = .ok (.iload_n 1, 1) := by decide +kernel
theorem dX12_opens_140 : decode cX12_opens 140 = .ok (.invokestatic 29, 3) := by decide +kernel
theorem dX12_opens_143 : decode cX12_opens 143 = .ok (.bipush 20, 2) := by decide +kernel
theorem dX12_opens_145 : decode cX12_opens 145 = .ok (.iadd, 1) := by decide +kernel
theorem dX12_opens_146 : decode cX12_opens 146 = .ok (.iconst 1, 1) := by decide +kernel
theorem dX12_opens_147 : decode cX12_opens 147 = .ok (.iadd, 1) := by decide +kernel
theorem dX12_opens_148 : decode cX12_opens 148 = .ok (.iload 5, 2) := by decide +kernel
theorem dX12_opens_150 : decode cX12_opens 150 = .ok (.iadd, 1) := by decide +kernel
theorem dX12_opens_151 : decode cX12_opens 151 = .ok (.iaload, 1) := by decide +kernel
theorem dX12_opens_152 : decode cX12_opens 152 = .ok (.bipush 100, 2) := by decide +kernel
theorem dX12_opens_154 : decode cX12_opens 154 = .ok (.idiv, 1) := by decide +kernel
theorem dX12_opens_155 : decode cX12_opens 155 = .ok (.istore 7, 2) := by decide +kernel
theorem dX12_opens_157 : decode cX12_opens 157 = .ok (.iload 7, 2) := by decide +kernel
theorem dX12_opens_159 : decode cX12_opens 159 = .ok (.ldc 71, 2) := by decide +kernel
theorem dX12_opens_161 : decode cX12_opens 161 = .ok (.invokestatic 65, 3) := by decide +kernel
theorem dX12_opens_164 : decode cX12_opens 164 = .ok (.ifCond .eq 6, 3) := by decide +kernel
theorem dX12_opens_167 : decode cX12_opens 167 = .ok (.iinc 6 1, 3) := by decide +kernel
theorem dX12_opens_170 : decode cX12_opens 170 = .ok (.iload 7, 2) := by decide +kernel
theorem dX12_opens_172 : decode cX12_opens 172 = .ok (.bipush 41, 2) := by decide +kernel
theorem dX12_opens_174 : decode cX12_opens 174 = .ok (.if_icmp .ne 6, 3) := by decide +kernel
theorem dX12_opens_177 : decode cX12_opens 177 = .ok (.iinc 6 (-1), 3) := by decide +kernel
theorem dX12_opens_180 : decode cX12_opens 180 = .ok (.iinc 5 1, 3) := by decide +kernel
theorem dX12_opens_183 : decode cX12_opens 183 = .ok (.goto (-53), 3) := by decide +kernel
theorem dX12_opens_186 : decode cX12_opens 186 = .ok (.aload_n 0, 1) := by decide +kernel
theorem dX12_opens_187 : decode cX12_opens 187 = .ok (.getfield 9, 3) := by decide +kernel
theorem dX12_opens_190 : decode cX12_opens 190 = .ok (.iload 4, 2) := by decide +kernel
theorem dX12_opens_192 : decode cX12_opens 192 = .ok (.invokestatic 127, 3) := by decide +kernel
theorem dX12_opens_195 : decode cX12_opens 195 = .ok (.bipush 6, 2) := by decide +kernel
theorem dX12_opens_197 : decode cX12_opens 197 = .ok (.iadd, 1) := by decide +kernel
theorem dX12_opens_198 : decode cX12_opens 198 = .ok (.iload 5, 2) := by decide +kernel
theorem dX12_opens_200 : decode cX12_opens 200 = .ok (.iastore, 1) := by decide +kernel
theorem dX12_opens_201 : decode cX12_opens 201 = .ok (.aload_n 0, 1) := by decide +kernel
theorem dX12_opens_202 : decode cX12_opens 202 = .ok (.iload_n 1, 1) := by decide +kernel
theorem dX12_opens_203 : decode cX12_opens 203 = .ok (.bipush 15, 2) := by decide +kernel
theorem dX12_opens_205 : decode cX12_opens 205 = .ok (.aload_n 0, 1) := by decide +kernel
theorem dX12_opens_206 : decode cX12_opens 206 = .ok (.iload_n 1, 1) := by decide +kernel
theorem dX12_opens_207 : decode cX12_opens 207 = .ok (.iconst 3, 1) := by decide +kernel
theorem dX12_opens_208 : decode cX12_opens 208 = .ok (.invokevirtual 37, 3) := by decide +kernel
theorem dX12_opens_211 : decode cX12_opens 211 = .ok (.iadd, 1) := by decide +kernel
theorem dX12_opens_212 : decode cX12_opens 212 = .ok (.iload 4, 2) := by decide +kernel
theorem dX12_opens_214 : decode cX12_opens 214 = .ok (.invokevirtual 109, 3) := by decide +kernel
theorem dX12_opens_217 : decode cX12_opens 217 = .ok (.aload_n 0, 1) := by decide +kernel
theorem dX12_opens_218 : decode cX12_opens 218 = .ok (.iload_n 1, 1) := by decide +kernel
theorem dX12_opens_219 : decode cX12_opens 219 = .ok (.iconst 3, 1) := by decide +kernel
theorem dX12_opens_220 : decode cX12_opens 220 = .ok (.aload_n 0, 1) := by decide +kernel
theorem dX12_opens_221 : decode cX12_opens 221 = .ok (.iload_n 1, 1) := by decide +kernel
theorem dX12_opens_222 : decode cX12_opens 222 = .ok (.iconst 3, 1) := by decide +kernel
theorem dX12_opens_223 : decode cX12_opens 223 = .ok (.invokevirtual 37, 3) := by decide +kernel
theorem dX12_opens_226 : decode cX12_opens 226 = .ok (.iconst 1, 1) := by decide +kernel
theorem dX12_opens_227 : decode cX12_opens 227 = .ok (.iadd, 1) := by decide +kernel
theorem dX12_opens_228 : decode cX12_opens 228 = .ok (.invokevirtual 109, 3) := by decide +kernel
theorem dX12_opens_231 : decode cX12_opens 231 = .ok (.return_, 1) := by decide +kernel
set_option maxRecDepth 20000 in
theorem ggX12_closes_X12_inner : GoodIn wsX12_closes wsX12_inner := goodIn_r _ [5, 6, 7, 8, 4, 9, 10, 11, 12, 13, 41, 42, 43, 44, 45, 46, 47, 48, 49, 50, 51] (by decide +kernel) (by decide +kernel)
set_option maxRecDepth 20000 in
theorem gX12_closes_X12_inner : GoodIn wsX12_closes (wsV RX12 144 RX12 yX12_inner wsX12_inner) := goodIn_app (goodIn_of _ (by decide +kernel)) ggX12_closes_X12_inner
set_option maxRecDepth 20000 in
theorem ggX12_closes_X12_children : GoodIn wsX12_closes wsX12_children := goodIn_r _ [17, 10, 6, 7, 8, 4, 9, 11, 12, 13, 18, 19, 20, 21, 41, 42, 43, 44, 45, 46, 47, 48, 49, 50, 51] (by decide +kernel) (by decide +kernel)
set_option maxRecDepth 20000 in
theorem gX12_closes_X12_children : GoodIn wsX12_closes (wsV RX12 147 RX12 yX12_children wsX12_children) := goodIn_app (goodIn_of _ (by decide +kernel)) ggX12_closes_X12_children
set_option maxRecDepth 20000 in
theorem ggX12_closes_X12_sets : GoodIn wsX12_closes wsX12_sets := goodIn_r _ [25, 10, 11, 12, 4, 13, 41, 42, 43, 44, 45, 46, 47, 48, 49, 50, 51] (by decide +kernel) (by decide +kernel)
set_option maxRecDepth 20000 in
theorem gX12_closes_X12_sets : GoodIn wsX12_closes (wsV RX12 109 RX12 yX12_sets wsX12_sets) := goodIn_app (goodIn_of _ (by decide +kernel)) ggX12_closes_X12_sets
set_option maxRecDepth 20000 in
theorem ggX12_closes_X12_of : GoodIn wsX12_closes wsX12_of := goodIn_r _ [9, 10, 11, 12, 4, 13, 41, 42, 43, 44, 45, 46, 47, 48, 49, 50, 51] (by decide +kernel) (by decide +kernel)
set_option maxRecDepth 20000 in
theorem gX12_closes_X12_of : GoodIn wsX12_closes (wsV RX12 37 RX12 yX12_of wsX12_of) := goodIn_app (goodIn_of _ (by decide +kernel)) ggX12_closes_X12_of
set_option maxRecDepth 20000 in
theorem ggX12_closes_X12_hasFresh : GoodIn wsX12_closes wsX12_hasFresh := goodIn_r _ [29, 10, 30, 31, 4, 32, 41, 42, 43, 44, 45, 46, 47, 48, 49, 50, 51] (by decide +kernel) (by decide +kernel)
set_option maxRecDepth 20000 in
theorem gX12_closes_X12_hasFresh : GoodIn wsX12_closes (wsV RX12 154 RX12 yX12_hasFresh wsX12_hasFresh) := goodIn_app (goodIn_of _ (by decide +kernel)) ggX12_closes_X12_hasFresh
set_option maxRecDepth 20000 in
theorem ggX12_closes_X12_cleans : GoodIn wsX12_closes wsX12_cleans := goodIn_r _ [36, 10, 30, 31, 4, 32, 22, 23, 24, 25, 11, 12, 13, 41, 42, 43, 44, 45, 46, 47, 48, 49, 50, 51] (by decide +kernel) (by decide +kernel)
set_option maxRecDepth 20000 in
theorem gX12_closes_X12_cleans : GoodIn wsX12_closes (wsV RX12 157 RX12 yX12_cleans wsX12_cleans) := goodIn_app (goodIn_of _ (by decide +kernel)) ggX12_closes_X12_cleans
set_option maxRecDepth 20000 in
theorem ggX12_closes_X12_endsScope : GoodIn wsX12_closes wsX12_endsScope := goodIn_r _ [40, 10, 30, 31, 4, 32, 6, 7, 8, 9, 11, 12, 13, 22, 23, 24, 25, 41, 42, 43, 44, 45, 46, 47, 48, 49, 50, 51] (by decide +kernel) (by decide +kernel)
set_option maxRecDepth 20000 in
theorem gX12_closes_X12_endsScope : GoodIn wsX12_closes (wsV RX12 160 RX12 yX12_endsScope wsX12_endsScope) := goodIn_app (goodIn_of _ (by decide +kernel)) ggX12_closes_X12_endsScope
theorem dX12_closes_0 : decode cX12_closes 0 = .ok (.aload_n 0, 1) := by decide +kernel
theorem dX12_closes_1 : decode cX12_closes 1 = .ok (.iload_n 1, 1) := by decide +kernel
theorem dX12_closes_2 : decode cX12_closes 2 = .ok (.invokevirtual 144, 3) := by decide +kernel
theorem dX12_closes_5 : decode cX12_closes 5 = .ok (.istore_n 2, 1) := by decide +kernel
theorem dX12_closes_6 : decode cX12_closes 6 = .ok (.aload_n 0, 1) := by decide +kernel
theorem dX12_closes_7 : decode cX12_closes 7 = .ok (.iload_n 2, 1) := by decide +kernel
theorem dX12_closes_8 : decode cX12_closes 8 = .ok (.iconst 1, 1) := by decide +kernel
theorem dX12_closes_9 : decode cX12_closes 9 = .ok (.invokevirtual 147, 3) := by decide +kernel
theorem dX12_closes_12 : decode cX12_closes 12 = .ok (.ifCond .le 27, 3) := by decide +kernel
theorem dX12_closes_15 : decode cX12_closes 15 = .ok (.aload_n 0, 1) := by decide +kernel
theorem dX12_closes_16 : decode cX12_closes 16 = .ok (.iload_n 1, 1) := by decide +kernel
theorem dX12_closes_17 : decode cX12_closes 17 = .ok (.iconst 0, 1) := by decide +kernel
theorem dX12_closes_18 : decode cX12_closes 18 = .ok (.iconst 5, 1) := by decide +kernel
theorem dX12_closes_19 : decode cX12_closes 19 = .ok (.invokevirtual 109, 3) := by decide +kernel
theorem dX12_closes_22 : decode cX12_closes 22 = .ok (.aload_n 0, 1) := by decide +kernel
theorem dX12_closes_23 : decode cX12_closes 23 = .ok (.iload_n 1, 1) := by decide +kernel
theorem dX12_closes_24 : decode cX12_closes 24 = .ok (.iconst 2, 1) := by decide +kernel
theorem dX12_closes_25 : decode cX12_closes 25 = .ok (.aload_n 0, 1) := by decide +kernel
theorem dX12_closes_26 : decode cX12_closes 26 = .ok (.iload_n 1, 1) := by decide +kernel
theorem dX12_closes_27 : decode cX12_closes 27 = .ok (.iconst 2, 1) := by decide +kernel
theorem dX12_closes_28 : decode cX12_closes 28 = .ok (.invokevirtual 37, 3) := by decide +kernel
theorem dX12_closes_31 : decode cX12_closes 31 = .ok (.iconst 1, 1) := by decide +kernel
theorem dX12_closes_32 : decode cX12_closes 32 = .ok (.isub, 1) := by decide +kernel
theorem dX12_closes_33 : decode cX12_closes 33 = .ok (.invokevirtual 109, 3) := by decide +kernel
theorem dX12_closes_36 : decode cX12_closes 36 = .ok (.goto 40, 3) := by decide +kernel
theorem dX12_closes_39 : decode cX12_closes 39 = .ok (.aload_n 0, 1) := by decide +kernel
theorem dX12_closes_40 : decode cX12_closes 40 = .ok (.iload_n 2, 1) := by decide +kernel
theorem dX12_closes_41 : decode cX12_closes 41 = .ok (.invokevirtual 154, 3) := by decide +kernel
theorem dX12_closes_44 : decode cX12_closes 44 = .ok (.ifCond .eq 26, 3) := by decide +kernel
theorem dX12_closes_47 : decode cX12_closes 47 = .ok (.aload_n 0, 1) := by decide +kernel
theorem dX12_closes_48 : decode cX12_closes 48 = .ok (.iload_n 1, 1) := by decide +kernel
theorem dX12_closes_49 : decode cX12_closes 49 = .ok (.iload_n 2, 1) := by decide +kernel
theorem dX12_closes_50 : decode cX12_closes 50 = .ok (.invokevirtual 157, 3) := by decide +kernel
theorem dX12_closes_53 : decode cX12_closes 53 = .ok (.aload_n 0, 1) := by decide +kernel
theorem dX12_closes_54 : decode cX12_closes 54 = .ok (.iload_n 1, 1) := by decide +kernel
theorem dX12_closes_55 : decode cX12_closes 55 = .ok (.iconst 2, 1) := by decide +kernel
theorem dX12_closes_56 : decode cX12_closes 56 = .ok (.aload_n 0, 1) := by decide +kernel
theorem dX12_closes_57 : decode cX12_closes 57 = .ok (.iload_n 1, 1) := by decide +kernel
theorem dX12_closes_58 : decode cX12_closes 58 = .ok (.iconst 2, 1) := by decide +kernel
theorem dX12_closes_59 : decode cX12_closes 59 = .ok (.invokevirtual 37, 3) := by decide +kernel
theorem dX12_closes_62 : decode cX12_closes 62 = .ok (.iconst 1, 1) := by decide +kernel
theorem dX12_closes_63 : decode cX12_closes 63 = .ok (.isub, 1) := by decide +kernel
theorem dX12_closes_64 : decode cX12_closes 64 = .ok (.invokevirtual 109, 3) := by decide +kernel
theorem dX12_closes_67 : decode cX12_closes 67 = .ok (.goto 9, 3) := by decide +kernel
theorem dX12_closes_70 : decode cX12_closes 70 = .ok (.aload_n 0, 1) := by decide +kernel
theorem dX12_closes_71 : decode cX12_closes 71 = .ok (.iload_n 1, 1) := by decide +kernel
theorem dX12_closes_72 : decode cX12_closes 72 = .ok (.iload_n 2, 1) := by decide +kernel
theorem dX12_closes_73 : decode cX12_closes 73 = .ok (.invokevirtual 160, 3) := by decide +kernel
theorem dX12_closes_76 : decode cX12_closes 76 = .ok (.return_, 1) := by decide +kernel
set_option maxRecDepth 20000 in
theorem ggX12_waits_X12_sets : GoodIn wsX12_waits wsX12_sets := goodIn_r _ [6, 1, 7, 8, 5, 9, 10, 11, 12, 13, 14, 15, 16, 17, 18, 19, 20] (by decide +kernel) (by decide +kernel)
set_option maxRecDepth 20000 in
theorem gX12_waits_X12_sets : GoodIn wsX12_waits (wsV RX12 109 RX12 yX12_sets wsX12_sets) := goodIn_app (goodIn_of _ (by decide +kernel)) ggX12_waits_X12_sets
theorem dX12_waits_0 : decode cX12_waits 0 = .ok (.aload_n 0, 1) := by decide +kernel
theorem dX12_waits_1 : decode cX12_waits 1 = .ok (.iload_n 1, 1) := by decide +kernel
theorem dX12_waits_2 : decode cX12_waits 2 = .ok (.iconst 0, 1) := by decide +kernel
theorem dX12_waits_3 : decode cX12_waits 3 = .ok (.iload_n 2, 1) := by decide +kernel
theorem dX12_waits_4 : decode cX12_waits 4 = .ok (.invokevirtual 109, 3) := by decide +kernel
theorem dX12_waits_7 : decode cX12_waits 7 = .ok (.aload_n 0, 1) := by decide +kernel
theorem dX12_waits_8 : decode cX12_waits 8 = .ok (.iload_n 1, 1) := by decide +kernel
theorem dX12_waits_9 : decode cX12_waits 9 = .ok (.bipush 12, 2) := by decide +kernel
theorem dX12_waits_11 : decode cX12_waits 11 = .ok (.iload_n 3, 1) := by decide +kernel
theorem dX12_waits_12 : decode cX12_waits 12 = .ok (.invokevirtual 109, 3) := by decide +kernel
theorem dX12_waits_15 : decode cX12_waits 15 = .ok (.aload_n 0, 1) := by decide +kernel
theorem dX12_waits_16 : decode cX12_waits 16 = .ok (.iload_n 1, 1) := by decide +kernel
theorem dX12_waits_17 : decode cX12_waits 17 = .ok (.bipush 13, 2) := by decide +kernel
theorem dX12_waits_19 : decode cX12_waits 19 = .ok (.iload 4, 2) := by decide +kernel
theorem dX12_waits_21 : decode cX12_waits 21 = .ok (.invokevirtual 109, 3) := by decide +kernel
theorem dX12_waits_24 : decode cX12_waits 24 = .ok (.aload_n 0, 1) := by decide +kernel
theorem dX12_waits_25 : decode cX12_waits 25 = .ok (.iload_n 1, 1) := by decide +kernel
theorem dX12_waits_26 : decode cX12_waits 26 = .ok (.bipush 14, 2) := by decide +kernel
theorem dX12_waits_28 : decode cX12_waits 28 = .ok (.aload_n 0, 1) := by decide +kernel
theorem dX12_waits_29 : decode cX12_waits 29 = .ok (.getfield 9, 3) := by decide +kernel
theorem dX12_waits_32 : decode cX12_waits 32 = .ok (.sipush 182, 3) := by decide +kernel
theorem dX12_waits_35 : decode cX12_waits 35 = .ok (.dup2, 1) := by decide +kernel
theorem dX12_waits_36 : decode cX12_waits 36 = .ok (.iaload, 1) := by decide +kernel
theorem dX12_waits_37 : decode cX12_waits 37 = .ok (.dup_x2, 1) := by decide +kernel
theorem dX12_waits_38 : decode cX12_waits 38 = .ok (.iconst 1, 1) := by decide +kernel
theorem dX12_waits_39 : decode cX12_waits 39 = .ok (.iadd, 1) := by decide +kernel
theorem dX12_waits_40 : decode cX12_waits 40 = .ok (.iastore, 1) := by decide +kernel
theorem dX12_waits_41 : decode cX12_waits 41 = .ok (.invokevirtual 109, 3) := by decide +kernel
theorem dX12_waits_44 : decode cX12_waits 44 = .ok (.return_, 1) := by decide +kernel
set_option maxRecDepth 20000 in
theorem ggX12_waitsFor_X12_of : GoodIn wsX12_waitsFor wsX12_of := goodIn_r _ [5, 6, 7, 8, 4, 9, 10, 11, 12, 13, 14, 15, 16, 17, 18, 19, 20] (by decide +kernel) (by decide +kernel)
set_option maxRecDepth 20000 in
theorem gX12_waitsFor_X12_of : GoodIn wsX12_waitsFor (wsV RX12 37 RX12 yX12_of wsX12_of) := goodIn_app (goodIn_of _ (by decide +kernel)) ggX12_waitsFor_X12_of
theorem dX12_waitsFor_0 : decode cX12_waitsFor 0 = .ok (.aload_n 0, 1) := by decide +kernel
theorem dX12_waitsFor_1 : decode cX12_waitsFor 1 = .ok (.iload_n 1, 1) := by decide +kernel
theorem dX12_waitsFor_2 : decode cX12_waitsFor 2 = .ok (.iconst 0, 1) := by decide +kernel
theorem dX12_waitsFor_3 : decode cX12_waitsFor 3 = .ok (.invokevirtual 37, 3) := by decide +kernel
theorem dX12_waitsFor_6 : decode cX12_waitsFor 6 = .ok (.istore 4, 2) := by decide +kernel
theorem dX12_waitsFor_8 : decode cX12_waitsFor 8 = .ok (.iload_n 3, 1) := by decide +kernel
theorem dX12_waitsFor_9 : decode cX12_waitsFor 9 = .ok (.ifCond .eq 26, 3) := by decide +kernel
theorem dX12_waitsFor_12 : decode cX12_waitsFor 12 = .ok (.iload 4, 2) := by decide +kernel
theorem dX12_waitsFor_14 : decode cX12_waitsFor 14 = .ok (.iconst 2, 1) := by decide +kernel
theorem dX12_waitsFor_15 : decode cX12_waitsFor 15 = .ok (.if_icmp .ne 18, 3) := by decide +kernel
theorem dX12_waitsFor_18 : decode cX12_waitsFor 18 = .ok (.aload_n 0, 1) := by decide +kernel
theorem dX12_waitsFor_19 : decode cX12_waitsFor 19 = .ok (.iload_n 1, 1) := by decide +kernel
theorem dX12_waitsFor_20 : decode cX12_waitsFor 20 = .ok (.bipush 12, 2) := by decide +kernel
theorem dX12_waitsFor_22 : decode cX12_waitsFor 22 = .ok (.invokevirtual 37, 3) := by decide +kernel
theorem dX12_waitsFor_25 : decode cX12_waitsFor 25 = .ok (.iload_n 2, 1) := by decide +kernel
theorem dX12_waitsFor_26 : decode cX12_waitsFor 26 = .ok (.if_icmp .ne 7, 3) := by decide +kernel
theorem dX12_waitsFor_29 : decode cX12_waitsFor 29 = .ok (.iconst 1, 1) := by decide +kernel
theorem dX12_waitsFor_30 : decode cX12_waitsFor 30 = .ok (.goto 4, 3) := by decide +kernel
theorem dX12_waitsFor_33 : decode cX12_waitsFor 33 = .ok (.iconst 0, 1) := by decide +kernel
theorem dX12_waitsFor_34 : decode cX12_waitsFor 34 = .ok (.ireturn, 1) := by decide +kernel
theorem dX12_waitsFor_35 : decode cX12_waitsFor 35 = .ok (.iload 4, 2) := by decide +kernel
theorem dX12_waitsFor_37 : decode cX12_waitsFor 37 = .ok (.iconst 3, 1) := by decide +kernel
theorem dX12_waitsFor_38 : decode cX12_waitsFor 38 = .ok (.if_icmp .eq 9, 3) := by decide +kernel
theorem dX12_waitsFor_41 : decode cX12_waitsFor 41 = .ok (.iload 4, 2) := by decide +kernel
theorem dX12_waitsFor_43 : decode cX12_waitsFor 43 = .ok (.iconst 4, 1) := by decide +kernel
theorem dX12_waitsFor_44 : decode cX12_waitsFor 44 = .ok (.if_icmp .ne 29, 3) := by decide +kernel
theorem dX12_waitsFor_47 : decode cX12_waitsFor 47 = .ok (.aload_n 0, 1) := by decide +kernel
theorem dX12_waitsFor_48 : decode cX12_waitsFor 48 = .ok (.iload_n 1, 1) := by decide +kernel
theorem dX12_waitsFor_49 : decode cX12_waitsFor 49 = .ok (.bipush 12, 2) := by decide +kernel
theorem dX12_waitsFor_51 : decode cX12_waitsFor 51 = .ok (.invokevirtual 37, 3) := by decide +kernel
theorem dX12_waitsFor_54 : decode cX12_waitsFor 54 = .ok (.iload_n 2, 1) := by decide +kernel
theorem dX12_waitsFor_55 : decode cX12_waitsFor 55 = .ok (.if_icmp .eq 14, 3) := by decide +kernel
theorem dX12_waitsFor_58 : decode cX12_waitsFor 58 = .ok (.aload_n 0, 1) := by decide +kernel
theorem dX12_waitsFor_59 : decode cX12_waitsFor 59 = .ok (.iload_n 1, 1) := by decide +kernel
theorem dX12_waitsFor_60 : decode cX12_waitsFor 60 = .ok (.bipush 13, 2) := by decide +kernel
theorem dX12_waitsFor_62 : decode cX12_waitsFor 62 = .ok (.invokevirtual 37, 3) := by decide +kernel
theorem dX12_waitsFor_65 : decode cX12_waitsFor 65 = .ok (.iload_n 2, 1) := by decide +kernel
theorem dX12_waitsFor_66 : decode cX12_waitsFor 66 = .ok (.if_icmp .ne 7, 3) := by decide +kernel
theorem dX12_waitsFor_69 : decode cX12_waitsFor 69 = .ok (.iconst 1, 1) := by decide +kernel
theorem dX12_waitsFor_70 : decode cX12_waitsFor 70 = .ok (.goto 4, 3) := by decide +kernel
theorem dX12_waitsFor_73 : decode cX12_waitsFor 73 = .ok (.iconst 0, 1) := by decide +kernel
theorem dX12_waitsFor_74 : decode cX12_waitsFor 74 = .ok (.ireturn, 1) := by decide +kernel
set_option maxRecDepth 20000 in
theorem ggX12_longest_X12_waitsFor : GoodIn wsX12_longest wsX12_waitsFor := goodIn_r _ [6, 7, 8, 9, 5, 10, 1, 11, 12, 13, 14, 15, 16, 17, 18, 19, 20, 21, 22, 23, 24] (by decide +kernel) (by decide +kernel)
set_option maxRecDepth 20000 in
theorem gX12_longest_X12_waitsFor : GoodIn wsX12_longest (wsV RX12 174 RX12 yX12_waitsFor wsX12_waitsFor) := goodIn_app (goodIn_of _ (by decide +kernel)) ggX12_longest_X12_waitsFor
set_option maxRecDepth 20000 in
theorem ggX12_longest_X12_of : GoodIn wsX12_longest wsX12_of := goodIn_r _ [10, 1, 11, 12, 5, 13, 14, 15, 16, 17, 18, 19, 20, 21, 22, 23, 24] (by decide +kernel) (by decide +kernel)
set_option maxRecDepth 20000 in
theorem gX12_longest_X12_of : GoodIn wsX12_longest (wsV RX12 37 RX12 yX12_of wsX12_of) := goodIn_app (goodIn_of _ (by decide +kernel)) ggX12_longest_X12_of
theorem dX12_longest_0 : decode cX12_longest 0 = .ok (.iconst (-1), 1) := by decide +kernel
theorem dX12_longest_1 : decode cX12_longest 1 = .ok (.istore_n 3, 1) := by decide +kernel
theorem dX12_longest_2 : decode cX12_longest 2 = .ok (.iconst 0, 1) := by decide +kernel
theorem dX12_longest_3 : decode cX12_longest 3 = .ok (.istore 4, 2) := by decide +kernel
theorem dX12_longest_5 : decode cX12_longest 5 = .ok (.iload 4, 2) := by decide +kernel
theorem dX12_longest_7 : decode cX12_longest 7 = .ok (.aload_n 0, 1) := by decide +kernel
theorem dX12_longest_8 : decode cX12_longest 8 = .ok (.getfield 9, 3) := by decide +kernel
theorem dX12_longest_11 : decode cX12_longest 11 = .ok (.sipush 170, 3) := by decide +kernel
theorem dX12_longest_14 : decode cX12_longest 14 = .ok (.iaload, 1) := by decide +kernel
theorem dX12_longest_15 : decode cX12_longest 15 = .ok (.if_icmp .ge 45, 3) := by decide +kernel
theorem dX12_longest_18 : decode cX12_longest 18 = .ok (.aload_n 0, 1) := by decide +kernel
theorem dX12_longest_19 : decode cX12_longest 19 = .ok (.iload 4, 2) := by decide +kernel
theorem dX12_longest_21 : decode cX12_longest 21 = .ok (.iload_n 1, 1) := by decide +kernel
theorem dX12_longest_22 : decode cX12_longest 22 = .ok (.iload_n 2, 1) := by decide +kernel
theorem dX12_longest_23 : decode cX12_longest 23 = .ok (.invokevirtual 174, 3) := by decide +kernel
theorem dX12_longest_26 : decode cX12_longest 26 = .ok (.ifCond .eq 28, 3) := by decide +kernel
theorem dX12_longest_29 : decode cX12_longest 29 = .ok (.iload_n 3, 1) := by decide +kernel
theorem dX12_longest_30 : decode cX12_longest 30 = .ok (.ifCond .lt 21, 3) := by decide +kernel
theorem dX12_longest_33 : decode cX12_longest 33 = .ok (.aload_n 0, 1) := by decide +kernel
theorem dX12_longest_34 : decode cX12_longest 34 = .ok (.iload 4, 2) := by decide +kernel
theorem dX12_longest_36 : decode cX12_longest 36 = .ok (.bipush 14, 2) := by decide +kernel
theorem dX12_longest_38 : decode cX12_longest 38 = .ok (.invokevirtual 37, 3) := by decide +kernel
theorem dX12_longest_41 : decode cX12_longest 41 = .ok (.aload_n 0, 1) := by decide +kernel
theorem dX12_longest_42 : decode cX12_longest 42 = .ok (.iload_n 3, 1) := by decide +kernel
theorem dX12_longest_43 : decode cX12_longest 43 = .ok (.bipush 14, 2) := by decide +kernel
theorem dX12_longest_45 : decode cX12_longest 45 = .ok (.invokevirtual 37, 3) := by decide +kernel
theorem dX12_longest_48 : decode cX12_longest 48 = .ok (.if_icmp .ge 6, 3) := by decide +kernel
theorem dX12_longest_51 : decode cX12_longest 51 = .ok (.iload 4, 2) := by decide +kernel
theorem dX12_longest_53 : decode cX12_longest 53 = .ok (.istore_n 3, 1) := by decide +kernel
theorem dX12_longest_54 : decode cX12_longest 54 = .ok (.iinc 4 1, 3) := by decide +kernel
theorem dX12_longest_57 : decode cX12_longest 57 = .ok (.goto (-52), 3) := by decide +kernel
theorem dX12_longest_60 : decode cX12_longest 60 = .ok (.iload_n 3, 1) := by decide +kernel
theorem dX12_longest_61 : decode cX12_longest 61 = .ok (.ireturn, 1) := by decide +kernel
set_option maxRecDepth 20000 in
theorem ggX12_waiting_X12_waitsFor : GoodIn wsX12_waiting wsX12_waitsFor := goodIn_r _ [6, 7, 8, 9, 5, 10, 1, 11, 12, 13, 14, 15, 16, 17, 18, 19, 20, 21, 22, 23, 24] (by decide +kernel) (by decide +kernel)
set_option maxRecDepth 20000 in
theorem gX12_waiting_X12_waitsFor : GoodIn wsX12_waiting (wsV RX12 174 RX12 yX12_waitsFor wsX12_waitsFor) := goodIn_app (goodIn_of _ (by decide +kernel)) ggX12_waiting_X12_waitsFor
theorem dX12_waiting_0 : decode cX12_waiting 0 = .ok (.iconst 0, 1) := by decide +kernel
theorem dX12_waiting_1 : decode cX12_waiting 1 = .ok (.istore_n 3, 1) := by decide +kernel
theorem dX12_waiting_2 : decode cX12_waiting 2 = .ok (.iconst 0, 1) := by decide +kernel
theorem dX12_waiting_3 : decode cX12_waiting 3 = .ok (.istore 4, 2) := by decide +kernel
theorem dX12_waiting_5 : decode cX12_waiting 5 = .ok (.iload 4, 2) := by decide +kernel
theorem dX12_waiting_7 : decode cX12_waiting 7 = .ok (.aload_n 0, 1) := by decide +kernel
theorem dX12_waiting_8 : decode cX12_waiting 8 = .ok (.getfield 9, 3) := by decide +kernel
theorem dX12_waiting_11 : decode cX12_waiting 11 = .ok (.sipush 170, 3) := by decide +kernel
theorem dX12_waiting_14 : decode cX12_waiting 14 = .ok (.iaload, 1) := by decide +kernel
theorem dX12_waiting_15 : decode cX12_waiting 15 = .ok (.if_icmp .ge 23, 3) := by decide +kernel
theorem dX12_waiting_18 : decode cX12_waiting 18 = .ok (.aload_n 0, 1) := by decide +kernel
theorem dX12_waiting_19 : decode cX12_waiting 19 = .ok (.iload 4, 2) := by decide +kernel
theorem dX12_waiting_21 : decode cX12_waiting 21 = .ok (.iload_n 1, 1) := by decide +kernel
theorem dX12_waiting_22 : decode cX12_waiting 22 = .ok (.iload_n 2, 1) := by decide +kernel
theorem dX12_waiting_23 : decode cX12_waiting 23 = .ok (.invokevirtual 174, 3) := by decide +kernel
theorem dX12_waiting_26 : decode cX12_waiting 26 = .ok (.ifCond .eq 6, 3) := by decide +kernel
theorem dX12_waiting_29 : decode cX12_waiting 29 = .ok (.iinc 3 1, 3) := by decide +kernel
theorem dX12_waiting_32 : decode cX12_waiting 32 = .ok (.iinc 4 1, 3) := by decide +kernel
theorem dX12_waiting_35 : decode cX12_waiting 35 = .ok (.goto (-30), 3) := by decide +kernel
theorem dX12_waiting_38 : decode cX12_waiting 38 = .ok (.iload_n 3, 1) := by decide +kernel
theorem dX12_waiting_39 : decode cX12_waiting 39 = .ok (.ireturn, 1) := by decide +kernel
set_option maxRecDepth 20000 in
theorem ggX12_gets_X12_sets : GoodIn wsX12_gets wsX12_sets := goodIn_r _ [6, 1, 7, 8, 5, 9, 14, 15, 16, 17, 18, 19, 20, 21, 22, 23, 24] (by decide +kernel) (by decide +kernel)
set_option maxRecDepth 20000 in
theorem gX12_gets_X12_sets : GoodIn wsX12_gets (wsV RX12 109 RX12 yX12_sets wsX12_sets) := goodIn_app (goodIn_of _ (by decide +kernel)) ggX12_gets_X12_sets
set_option maxRecDepth 20000 in
theorem ggX12_gets_X12_of : GoodIn wsX12_gets wsX12_of := goodIn_r _ [13, 1, 7, 8, 5, 9, 14, 15, 16, 17, 18, 19, 20, 21, 22, 23, 24] (by decide +kernel) (by decide +kernel)
set_option maxRecDepth 20000 in
theorem gX12_gets_X12_of : GoodIn wsX12_gets (wsV RX12 37 RX12 yX12_of wsX12_of) := goodIn_app (goodIn_of _ (by decide +kernel)) ggX12_gets_X12_of
theorem dX12_gets_0 : decode cX12_gets 0 = .ok (.aload_n 0, 1) := by decide +kernel
theorem dX12_gets_1 : decode cX12_gets 1 = .ok (.iload_n 1, 1) := by decide +kernel
theorem dX12_gets_2 : decode cX12_gets 2 = .ok (.iconst 1, 1) := by decide +kernel
theorem dX12_gets_3 : decode cX12_gets 3 = .ok (.iload_n 2, 1) := by decide +kernel
theorem dX12_gets_4 : decode cX12_gets 4 = .ok (.invokevirtual 109, 3) := by decide +kernel
theorem dX12_gets_7 : decode cX12_gets 7 = .ok (.iload_n 3, 1) := by decide +kernel
theorem dX12_gets_8 : decode cX12_gets 8 = .ok (.ifCond .eq 17, 3) := by decide +kernel
theorem dX12_gets_11 : decode cX12_gets 11 = .ok (.aload_n 0, 1) := by decide +kernel
theorem dX12_gets_12 : decode cX12_gets 12 = .ok (.iload_n 1, 1) := by decide +kernel
theorem dX12_gets_13 : decode cX12_gets 13 = .ok (.iconst 5, 1) := by decide +kernel
theorem dX12_gets_14 : decode cX12_gets 14 = .ok (.aload_n 0, 1) := by decide +kernel
theorem dX12_gets_15 : decode cX12_gets 15 = .ok (.iload_n 1, 1) := by decide +kernel
theorem dX12_gets_16 : decode cX12_gets 16 = .ok (.iconst 5, 1) := by decide +kernel
theorem dX12_gets_17 : decode cX12_gets 17 = .ok (.invokevirtual 37, 3) := by decide +kernel
theorem dX12_gets_20 : decode cX12_gets 20 = .ok (.iconst 1, 1) := by decide +kernel
theorem dX12_gets_21 : decode cX12_gets 21 = .ok (.iadd, 1) := by decide +kernel
theorem dX12_gets_22 : decode cX12_gets 22 = .ok (.invokevirtual 109, 3) := by decide +kernel
theorem dX12_gets_25 : decode cX12_gets 25 = .ok (.aload_n 0, 1) := by decide +kernel
theorem dX12_gets_26 : decode cX12_gets 26 = .ok (.getfield 9, 3) := by decide +kernel
theorem dX12_gets_29 : decode cX12_gets 29 = .ok (.sipush 180, 3) := by decide +kernel
theorem dX12_gets_32 : decode cX12_gets 32 = .ok (.dup2, 1) := by decide +kernel
theorem dX12_gets_33 : decode cX12_gets 33 = .ok (.iaload, 1) := by decide +kernel
theorem dX12_gets_34 : decode cX12_gets 34 = .ok (.iconst 1, 1) := by decide +kernel
theorem dX12_gets_35 : decode cX12_gets 35 = .ok (.iadd, 1) := by decide +kernel
theorem dX12_gets_36 : decode cX12_gets 36 = .ok (.iastore, 1) := by decide +kernel
theorem dX12_gets_37 : decode cX12_gets 37 = .ok (.return_, 1) := by decide +kernel
set_option maxRecDepth 20000 in
theorem ggX12_sends_X12_of : GoodIn wsX12_sends wsX12_of := goodIn_r _ [6, 1, 7, 8, 5, 9, 41, 42, 43, 44, 45, 46, 47, 48, 49, 50, 51] (by decide +kernel) (by decide +kernel)
set_option maxRecDepth 20000 in
theorem gX12_sends_X12_of : GoodIn wsX12_sends (wsV RX12 37 RX12 yX12_of wsX12_of) := goodIn_app (goodIn_of _ (by decide +kernel)) ggX12_sends_X12_of
set_option maxRecDepth 20000 in
theorem ggX12_sends_X12_longest : GoodIn wsX12_sends wsX12_longest := goodIn_r _ [13, 1, 14, 15, 16, 5, 17, 2, 3, 4, 6, 7, 8, 9, 41, 42, 43, 44, 45, 46, 47, 48, 49, 50, 51] (by decide +kernel) (by decide +kernel)
set_option maxRecDepth 20000 in
theorem gX12_sends_X12_longest : GoodIn wsX12_sends (wsV RX12 178 RX12 yX12_longest wsX12_longest) := goodIn_app (goodIn_of _ (by decide +kernel)) ggX12_sends_X12_longest
set_option maxRecDepth 20000 in
theorem ggX12_sends_X12_gets : GoodIn wsX12_sends wsX12_gets := goodIn_r _ [21, 1, 22, 23, 24, 5, 25, 7, 8, 9, 2, 3, 4, 6, 41, 42, 43, 44, 45, 46, 47, 48, 49, 50, 51] (by decide +kernel) (by decide +kernel)
set_option maxRecDepth 20000 in
theorem gX12_sends_X12_gets : GoodIn wsX12_sends (wsV RX12 181 RX12 yX12_gets wsX12_gets) := goodIn_app (goodIn_of _ (by decide +kernel)) ggX12_sends_X12_gets
set_option maxRecDepth 20000 in
theorem ggX12_sends_X12_readies : GoodIn wsX12_sends wsX12_readies := goodIn_r _ [29, 22, 23, 24, 5, 25, 1, 7, 8, 9, 30, 31, 32, 33, 41, 42, 43, 44, 45, 46, 47, 48, 49, 50, 51] (by decide +kernel) (by decide +kernel)
set_option maxRecDepth 20000 in
theorem gX12_sends_X12_readies : GoodIn wsX12_sends (wsV RX12 121 RX12 yX12_readies wsX12_readies) := goodIn_app (goodIn_of _ (by decide +kernel)) ggX12_sends_X12_readies
set_option maxRecDepth 20000 in
theorem ggX12_sends_X12_channel : GoodIn wsX12_sends wsX12_channel := goodIn_r _ [36] (by decide +kernel) (by decide +kernel)
set_option maxRecDepth 20000 in
theorem gX12_sends_X12_channel : GoodIn wsX12_sends (va_wsS RX12 92 yX12_channel wsX12_channel) := goodIn_app (goodIn_of _ (by decide +kernel)) ggX12_sends_X12_channel
set_option maxRecDepth 20000 in
theorem ggX12_sends_X12_waits : GoodIn wsX12_sends wsX12_waits := goodIn_r _ [40, 1, 22, 23, 24, 5, 25, 7, 8, 9, 41, 42, 43, 44, 45, 46, 47, 48, 49, 50, 51] (by decide +kernel) (by decide +kernel)
set_option maxRecDepth 20000 in
theorem gX12_sends_X12_waits : GoodIn wsX12_sends (wsV RX12 185 RX12 yX12_waits wsX12_waits) := goodIn_app (goodIn_of _ (by decide +kernel)) ggX12_sends_X12_waits
theorem dX12_sends_0 : decode cX12_sends 0 = .ok (.aload_n 0, 1) := by decide +kernel
theorem dX12_sends_1 : decode cX12_sends 1 = .ok (.iload_n 1, 1) := by decide +kernel
theorem dX12_sends_2 : decode cX12_sends 2 = .ok (.iconst 1, 1) := by decide +kernel
theorem dX12_sends_3 : decode cX12_sends 3 = .ok (.invokevirtual 37, 3) := by decide +kernel
theorem dX12_sends_6 : decode cX12_sends 6 = .ok (.istore_n 3, 1) := by decide +kernel
theorem dX12_sends_7 : decode cX12_sends 7 = .ok (.aload_n 0, 1) := by decide +kernel
theorem dX12_sends_8 : decode cX12_sends 8 = .ok (.iload_n 2, 1) := by decide +kernel
theorem dX12_sends_9 : decode cX12_sends 9 = .ok (.iconst 0, 1) := by decide +kernel
theorem dX12_sends_10 : decode cX12_sends 10 = .ok (.invokevirtual 178, 3) := by decide +kernel
theorem dX12_sends_13 : decode cX12_sends 13 = .ok (.istore 4, 2) := by decide +kernel
theorem dX12_sends_15 : decode cX12_sends 15 = .ok (.iload 4, 2) := by decide +kernel
theorem dX12_sends_17 : decode cX12_sends 17 = .ok (.ifCond .lt 35, 3) := by decide +kernel
theorem dX12_sends_20 : decode cX12_sends 20 = .ok (.aload_n 0, 1) := by decide +kernel
theorem dX12_sends_21 : decode cX12_sends 21 = .ok (.iload 4, 2) := by decide +kernel
theorem dX12_sends_23 : decode cX12_sends 23 = .ok (.iload_n 3, 1) := by decide +kernel
theorem dX12_sends_24 : decode cX12_sends 24 = .ok (.aload_n 0, 1) := by decide +kernel
theorem dX12_sends_25 : decode cX12_sends 25 = .ok (.iload 4, 2) := by decide +kernel
theorem dX12_sends_27 : decode cX12_sends 27 = .ok (.iconst 0, 1) := by decide +kernel
theorem dX12_sends_28 : decode cX12_sends 28 = .ok (.invokevirtual 37, 3) := by decide +kernel
theorem dX12_sends_31 : decode cX12_sends 31 = .ok (.iconst 4, 1) := by decide +kernel
theorem dX12_sends_32 : decode cX12_sends 32 = .ok (.if_icmp .ne 7, 3) := by decide +kernel
theorem dX12_sends_35 : decode cX12_sends 35 = .ok (.iconst 1, 1) := by decide +kernel
theorem dX12_sends_36 : decode cX12_sends 36 = .ok (.goto 4, 3) := by decide +kernel
theorem dX12_sends_39 : decode cX12_sends 39 = .ok (.iconst 0, 1) := by decide +kernel
theorem dX12_sends_40 : decode cX12_sends 40 = .ok (.invokevirtual 181, 3) := by decide +kernel
theorem dX12_sends_43 : decode cX12_sends 43 = .ok (.aload_n 0, 1) := by decide +kernel
theorem dX12_sends_44 : decode cX12_sends 44 = .ok (.iload 4, 2) := by decide +kernel
theorem dX12_sends_46 : decode cX12_sends 46 = .ok (.invokevirtual 121, 3) := by decide +kernel
theorem dX12_sends_49 : decode cX12_sends 49 = .ok (.goto 66, 3) := by decide +kernel
theorem dX12_sends_52 : decode cX12_sends 52 = .ok (.aload_n 0, 1) := by decide +kernel
theorem dX12_sends_53 : decode cX12_sends 53 = .ok (.getfield 9, 3) := by decide +kernel
theorem dX12_sends_56 : decode cX12_sends 56 = .ok (.iload_n 2, 1) := by decide +kernel
theorem dX12_sends_57 : decode cX12_sends 57 = .ok (.invokestatic 92, 3) := by decide +kernel
theorem dX12_sends_60 : decode cX12_sends 60 = .ok (.iconst 1, 1) := by decide +kernel
theorem dX12_sends_61 : decode cX12_sends 61 = .ok (.iadd, 1) := by decide +kernel
theorem dX12_sends_62 : decode cX12_sends 62 = .ok (.iaload, 1) := by decide +kernel
theorem dX12_sends_63 : decode cX12_sends 63 = .ok (.aload_n 0, 1) := by decide +kernel
theorem dX12_sends_64 : decode cX12_sends 64 = .ok (.getfield 9, 3) := by decide +kernel
theorem dX12_sends_67 : decode cX12_sends 67 = .ok (.iload_n 2, 1) := by decide +kernel
theorem dX12_sends_68 : decode cX12_sends 68 = .ok (.invokestatic 92, 3) := by decide +kernel
theorem dX12_sends_71 : decode cX12_sends 71 = .ok (.iaload, 1) := by decide +kernel
theorem dX12_sends_72 : decode cX12_sends 72 = .ok (.if_icmp .ge 35, 3) := by decide +kernel
theorem dX12_sends_75 : decode cX12_sends 75 = .ok (.aload_n 0, 1) := by decide +kernel
theorem dX12_sends_76 : decode cX12_sends 76 = .ok (.getfield 9, 3) := by decide +kernel
theorem dX12_sends_79 : decode cX12_sends 79 = .ok (.iload_n 2, 1) := by decide +kernel
theorem dX12_sends_80 : decode cX12_sends 80 = .ok (.invokestatic 92, 3) := by decide +kernel
theorem dX12_sends_83 : decode cX12_sends 83 = .ok (.iconst 2, 1) := by decide +kernel
theorem dX12_sends_84 : decode cX12_sends 84 = .ok (.iadd, 1) := by decide +kernel
theorem dX12_sends_85 : decode cX12_sends 85 = .ok (.aload_n 0, 1) := by decide +kernel
theorem dX12_sends_86 : decode cX12_sends 86 = .ok (.getfield 9, 3) := by decide +kernel
theorem dX12_sends_89 : decode cX12_sends 89 = .ok (.iload_n 2, 1) := by decide +kernel
theorem dX12_sends_90 : decode cX12_sends 90 = .ok (.invokestatic 92, 3) := by decide +kernel
theorem dX12_sends_93 : decode cX12_sends 93 = .ok (.iconst 1, 1) := by decide +kernel
theorem dX12_sends_94 : decode cX12_sends 94 = .ok (.iadd, 1) := by decide +kernel
theorem dX12_sends_95 : decode cX12_sends 95 = .ok (.dup2, 1) := by decide +kernel
theorem dX12_sends_96 : decode cX12_sends 96 = .ok (.iaload, 1) := by decide +kernel
theorem dX12_sends_97 : decode cX12_sends 97 = .ok (.dup_x2, 1) := by decide +kernel
theorem dX12_sends_98 : decode cX12_sends 98 = .ok (.iconst 1, 1) := by decide +kernel
theorem dX12_sends_99 : decode cX12_sends 99 = .ok (.iadd, 1) := by decide +kernel
theorem dX12_sends_100 : decode cX12_sends 100 = .ok (.iastore, 1) := by decide +kernel
theorem dX12_sends_101 : decode cX12_sends 101 = .ok (.iadd, 1) := by decide +kernel
theorem dX12_sends_102 : decode cX12_sends 102 = .ok (.iload_n 3, 1) := by decide +kernel
theorem dX12_sends_103 : decode cX12_sends 103 = .ok (.iastore, 1) := by decide +kernel
theorem dX12_sends_104 : decode cX12_sends 104 = .ok (.goto 11, 3) := by decide +kernel
theorem dX12_sends_107 : decode cX12_sends 107 = .ok (.aload_n 0, 1) := by decide +kernel
theorem dX12_sends_108 : decode cX12_sends 108 = .ok (.iload_n 1, 1) := by decide +kernel
theorem dX12_sends_109 : decode cX12_sends 109 = .ok (.iconst 2, 1) := by decide +kernel
theorem dX12_sends_110 : decode cX12_sends 110 = .ok (.iload_n 2, 1) := by decide +kernel
theorem dX12_sends_111 : decode cX12_sends 111 = .ok (.iconst (-1), 1) := by decide +kernel
theorem dX12_sends_112 : decode cX12_sends 112 = .ok (.invokevirtual 185, 3) := by decide +kernel
theorem dX12_sends_115 : decode cX12_sends 115 = .ok (.return_, 1) := by decide +kernel
set_option maxRecDepth 20000 in
theorem ggX12_canReceive_X12_channel : GoodIn wsX12_canReceive wsX12_channel := goodIn_r _ [5] (by decide +kernel) (by decide +kernel)
set_option maxRecDepth 20000 in
theorem gX12_canReceive_X12_channel : GoodIn wsX12_canReceive (va_wsS RX12 92 yX12_channel wsX12_channel) := goodIn_app (goodIn_of _ (by decide +kernel)) ggX12_canReceive_X12_channel
set_option maxRecDepth 20000 in
theorem ggX12_canReceive_X12_longest : GoodIn wsX12_canReceive wsX12_longest := goodIn_r _ [9, 1, 10, 11, 12, 4, 13, 14, 15, 16, 17, 18, 19, 20, 21, 22, 23, 24, 25, 26, 27, 28, 29, 30, 31] (by decide +kernel) (by decide +kernel)
set_option maxRecDepth 20000 in
theorem gX12_canReceive_X12_longest : GoodIn wsX12_canReceive (wsV RX12 178 RX12 yX12_longest wsX12_longest) := goodIn_app (goodIn_of _ (by decide +kernel)) ggX12_canReceive_X12_longest
theorem dX12_canReceive_0 : decode cX12_canReceive 0 = .ok (.aload_n 0, 1) := by decide +kernel
theorem dX12_canReceive_1 : decode cX12_canReceive 1 = .ok (.getfield 9, 3) := by decide +kernel
theorem dX12_canReceive_4 : decode cX12_canReceive 4 = .ok (.iload_n 1, 1) := by decide +kernel
theorem dX12_canReceive_5 : decode cX12_canReceive 5 = .ok (.invokestatic 92, 3) := by decide +kernel
theorem dX12_canReceive_8 : decode cX12_canReceive 8 = .ok (.iconst 1, 1) := by decide +kernel
theorem dX12_canReceive_9 : decode cX12_canReceive 9 = .ok (.iadd, 1) := by decide +kernel
theorem dX12_canReceive_10 : decode cX12_canReceive 10 = .ok (.iaload, 1) := by decide +kernel
theorem dX12_canReceive_11 : decode cX12_canReceive 11 = .ok (.ifCond .gt 12, 3) := by decide +kernel
theorem dX12_canReceive_14 : decode cX12_canReceive 14 = .ok (.aload_n 0, 1) := by decide +kernel
theorem dX12_canReceive_15 : decode cX12_canReceive 15 = .ok (.iload_n 1, 1) := by decide +kernel
theorem dX12_canReceive_16 : decode cX12_canReceive 16 = .ok (.iconst 1, 1) := by decide +kernel
theorem dX12_canReceive_17 : decode cX12_canReceive 17 = .ok (.invokevirtual 178, 3) := by decide +kernel
theorem dX12_canReceive_20 : decode cX12_canReceive 20 = .ok (.ifCond .lt 7, 3) := by decide +kernel
theorem dX12_canReceive_23 : decode cX12_canReceive 23 = .ok (.iconst 1, 1) := by decide +kernel
theorem dX12_canReceive_24 : decode cX12_canReceive 24 = .ok (.goto 4, 3) := by decide +kernel
theorem dX12_canReceive_27 : decode cX12_canReceive 27 = .ok (.iconst 0, 1) := by decide +kernel
theorem dX12_canReceive_28 : decode cX12_canReceive 28 = .ok (.ireturn, 1) := by decide +kernel
set_option maxRecDepth 20000 in
theorem ggX12_receives_X12_longest : GoodIn wsX12_receives wsX12_longest := goodIn_r _ [6, 1, 7, 8, 9, 5, 10, 11, 12, 13, 14, 15, 16, 17, 37, 38, 39, 40, 41, 42, 43, 44, 45, 46, 47] (by decide +kernel) (by decide +kernel)
set_option maxRecDepth 20000 in
theorem gX12_receives_X12_longest : GoodIn wsX12_receives (wsV RX12 178 RX12 yX12_longest wsX12_longest) := goodIn_app (goodIn_of _ (by decide +kernel)) ggX12_receives_X12_longest
set_option maxRecDepth 20000 in
theorem ggX12_receives_X12_channel : GoodIn wsX12_receives wsX12_channel := goodIn_r _ [20] (by decide +kernel) (by decide +kernel)
set_option maxRecDepth 20000 in
theorem gX12_receives_X12_channel : GoodIn wsX12_receives (va_wsS RX12 92 yX12_channel wsX12_channel) := goodIn_app (goodIn_of _ (by decide +kernel)) ggX12_receives_X12_channel
set_option maxRecDepth 20000 in
theorem ggX12_receives_X12_gets : GoodIn wsX12_receives wsX12_gets := goodIn_r _ [24, 1, 25, 26, 27, 5, 28, 15, 16, 17, 11, 12, 13, 14, 37, 38, 39, 40, 41, 42, 43, 44, 45, 46, 47] (by decide +kernel) (by decide +kernel)
set_option maxRecDepth 20000 in
theorem gX12_receives_X12_gets : GoodIn wsX12_receives (wsV RX12 181 RX12 yX12_gets wsX12_gets) := goodIn_app (goodIn_of _ (by decide +kernel)) ggX12_receives_X12_gets
set_option maxRecDepth 20000 in
theorem ggX12_receives_X12_of : GoodIn wsX12_receives wsX12_of := goodIn_r _ [14, 1, 15, 16, 5, 17, 37, 38, 39, 40, 41, 42, 43, 44, 45, 46, 47] (by decide +kernel) (by decide +kernel)
set_option maxRecDepth 20000 in
theorem gX12_receives_X12_of : GoodIn wsX12_receives (wsV RX12 37 RX12 yX12_of wsX12_of) := goodIn_app (goodIn_of _ (by decide +kernel)) ggX12_receives_X12_of
set_option maxRecDepth 20000 in
theorem ggX12_receives_X12_readies : GoodIn wsX12_receives wsX12_readies := goodIn_r _ [32, 25, 26, 27, 5, 28, 1, 15, 16, 17, 33, 34, 35, 36, 37, 38, 39, 40, 41, 42, 43, 44, 45, 46, 47] (by decide +kernel) (by decide +kernel)
set_option maxRecDepth 20000 in
theorem gX12_receives_X12_readies : GoodIn wsX12_receives (wsV RX12 121 RX12 yX12_readies wsX12_readies) := goodIn_app (goodIn_of _ (by decide +kernel)) ggX12_receives_X12_readies
theorem dX12_receives_0 : decode cX12_receives 0 = .ok (.aload_n 0, 1) := by decide +kernel
theorem dX12_receives_1 : decode cX12_receives 1 = .ok (.iload_n 2, 1) := by decide +kernel
theorem dX12_receives_2 : decode cX12_receives 2 = .ok (.iconst 1, 1) := by decide +kernel
theorem dX12_receives_3 : decode cX12_receives 3 = .ok (.invokevirtual 178, 3) := by decide +kernel
theorem dX12_receives_6 : decode cX12_receives 6 = .ok (.istore 4, 2) := by decide +kernel
theorem dX12_receives_8 : decode cX12_receives 8 = .ok (.iload_n 2, 1) := by decide +kernel
theorem dX12_receives_9 : decode cX12_receives 9 = .ok (.invokestatic 92, 3) := by decide +kernel
theorem dX12_receives_12 : decode cX12_receives 12 = .ok (.istore 5, 2) := by decide +kernel
theorem dX12_receives_14 : decode cX12_receives 14 = .ok (.aload_n 0, 1) := by decide +kernel
theorem dX12_receives_15 : decode cX12_receives 15 = .ok (.getfield 9, 3) := by decide +kernel
theorem dX12_receives_18 : decode cX12_receives 18 = .ok (.iload 5, 2) := by decide +kernel
theorem dX12_receives_20 : decode cX12_receives 20 = .ok (.iconst 1, 1) := by decide +kernel
theorem dX12_receives_21 : decode cX12_receives 21 = .ok (.iadd, 1) := by decide +kernel
theorem dX12_receives_22 : decode cX12_receives 22 = .ok (.iaload, 1) := by decide +kernel
theorem dX12_receives_23 : decode cX12_receives 23 = .ok (.ifCond .le 117, 3) := by decide +kernel
theorem dX12_receives_26 : decode cX12_receives 26 = .ok (.aload_n 0, 1) := by decide +kernel
theorem dX12_receives_27 : decode cX12_receives 27 = .ok (.iload_n 1, 1) := by decide +kernel
theorem dX12_receives_28 : decode cX12_receives 28 = .ok (.aload_n 0, 1) := by decide +kernel
theorem dX12_receives_29 : decode cX12_receives 29 = .ok (.getfield 9, 3) := by decide +kernel
theorem dX12_receives_32 : decode cX12_receives 32 = .ok (.iload 5, 2) := by decide +kernel
theorem dX12_receives_34 : decode cX12_receives 34 = .ok (.iconst 2, 1) := by decide +kernel
theorem dX12_receives_35 : decode cX12_receives 35 = .ok (.iadd, 1) := by decide +kernel
theorem dX12_receives_36 : decode cX12_receives 36 = .ok (.iaload, 1) := by decide +kernel
theorem dX12_receives_37 : decode cX12_receives 37 = .ok (.iload_n 3, 1) := by decide +kernel
theorem dX12_receives_38 : decode cX12_receives 38 = .ok (.invokevirtual 181, 3) := by decide +kernel
theorem dX12_receives_41 : decode cX12_receives 41 = .ok (.aload_n 0, 1) := by decide +kernel
theorem dX12_receives_42 : decode cX12_receives 42 = .ok (.getfield 9, 3) := by decide +kernel
theorem dX12_receives_45 : decode cX12_receives 45 = .ok (.iload 5, 2) := by decide +kernel
theorem dX12_receives_47 : decode cX12_receives 47 = .ok (.iconst 1, 1) := by decide +kernel
theorem dX12_receives_48 : decode cX12_receives 48 = .ok (.iadd, 1) := by decide +kernel
theorem dX12_receives_49 : decode cX12_receives 49 = .ok (.dup2, 1) := by decide +kernel
theorem dX12_receives_50 : decode cX12_receives 50 = .ok (.iaload, 1) := by decide +kernel
theorem dX12_receives_51 : decode cX12_receives 51 = .ok (.iconst 1, 1) := by decide +kernel
theorem dX12_receives_52 : decode cX12_receives 52 = .ok (.isub, 1) := by decide +kernel
theorem dX12_receives_53 : decode cX12_receives 53 = .ok (.iastore, 1) := by decide +kernel
theorem dX12_receives_54 : decode cX12_receives 54 = .ok (.iconst 0, 1) := by decide +kernel
theorem dX12_receives_55 : decode cX12_receives 55 = .ok (.istore 6, 2) := by decide +kernel
theorem dX12_receives_57 : decode cX12_receives 57 = .ok (.iload 6, 2) := by decide +kernel
theorem dX12_receives_59 : decode cX12_receives 59 = .ok (.aload_n 0, 1) := by decide +kernel
theorem dX12_receives_60 : decode cX12_receives 60 = .ok (.getfield 9, 3) := by decide +kernel
theorem dX12_receives_63 : decode cX12_receives 63 = .ok (.iload 5, 2) := by decide +kernel
theorem dX12_receives_65 : decode cX12_receives 65 = .ok (.iconst 1, 1) := by decide +kernel
theorem dX12_receives_66 : decode cX12_receives 66 = .ok (.iadd, 1) := by decide +kernel
theorem dX12_receives_67 : decode cX12_receives 67 = .ok (.iaload, 1) := by decide +kernel
theorem dX12_receives_68 : decode cX12_receives 68 = .ok (.if_icmp .ge 33, 3) := by decide +kernel
theorem dX12_receives_71 : decode cX12_receives 71 = .ok (.aload_n 0, 1) := by decide +kernel
theorem dX12_receives_72 : decode cX12_receives 72 = .ok (.getfield 9, 3) := by decide +kernel
theorem dX12_receives_75 : decode cX12_receives 75 = .ok (.iload 5, 2) := by decide +kernel
theorem dX12_receives_77 : decode cX12_receives 77 = .ok (.iconst 2, 1) := by decide +kernel
theorem dX12_receives_78 : decode cX12_receives 78 = .ok (.iadd, 1) := by decide +kernel
theorem dX12_receives_79 : decode cX12_receives 79 = .ok (.iload 6, 2) := by decide +kernel
theorem dX12_receives_81 : decode cX12_receives 81 = .ok (.iadd, 1) := by decide +kernel
theorem dX12_receives_82 : decode cX12_receives 82 = .ok (.aload_n 0, 1) := by decide +kernel
theorem dX12_receives_83 : decode cX12_receives 83 = .ok (.getfield 9, 3) := by decide +kernel
theorem dX12_receives_86 : decode cX12_receives 86 = .ok (.iload 5, 2) := by decide +kernel
theorem dX12_receives_88 : decode cX12_receives 88 = .ok (.iconst 3, 1) := by decide +kernel
theorem dX12_receives_89 : decode cX12_receives 89 = .ok (.iadd, 1) := by decide +kernel
theorem dX12_receives_90 : decode cX12_receives 90 = .ok (.iload 6, 2) := by decide +kernel
theorem dX12_receives_92 : decode cX12_receives 92 = .ok (.iadd, 1) := by decide +kernel
theorem dX12_receives_93 : decode cX12_receives 93 = .ok (.iaload, 1) := by decide +kernel
theorem dX12_receives_94 : decode cX12_receives 94 = .ok (.iastore, 1) := by decide +kernel
theorem dX12_receives_95 : decode cX12_receives 95 = .ok (.iinc 6 1, 3) := by decide +kernel
theorem dX12_receives_98 : decode cX12_receives 98 = .ok (.goto (-41), 3) := by decide +kernel
theorem dX12_receives_101 : decode cX12_receives 101 = .ok (.iload 4, 2) := by decide +kernel
theorem dX12_receives_103 : decode cX12_receives 103 = .ok (.ifCond .lt 50, 3) := by decide +kernel
theorem dX12_receives_106 : decode cX12_receives 106 = .ok (.aload_n 0, 1) := by decide +kernel
theorem dX12_receives_107 : decode cX12_receives 107 = .ok (.getfield 9, 3) := by decide +kernel
theorem dX12_receives_110 : decode cX12_receives 110 = .ok (.iload 5, 2) := by decide +kernel
theorem dX12_receives_112 : decode cX12_receives 112 = .ok (.iconst 2, 1) := by decide +kernel
theorem dX12_receives_113 : decode cX12_receives 113 = .ok (.iadd, 1) := by decide +kernel
theorem dX12_receives_114 : decode cX12_receives 114 = .ok (.aload_n 0, 1) := by decide +kernel
theorem dX12_receives_115 : decode cX12_receives 115 = .ok (.getfield 9, 3) := by decide +kernel
theorem dX12_receives_118 : decode cX12_receives 118 = .ok (.iload 5, 2) := by decide +kernel
theorem dX12_receives_120 : decode cX12_receives 120 = .ok (.iconst 1, 1) := by decide +kernel
theorem dX12_receives_121 : decode cX12_receives 121 = .ok (.iadd, 1) := by decide +kernel
theorem dX12_receives_122 : decode cX12_receives 122 = .ok (.dup2, 1) := by decide +kernel
theorem dX12_receives_123 : decode cX12_receives 123 = .ok (.iaload, 1) := by decide +kernel
theorem dX12_receives_124 : decode cX12_receives 124 = .ok (.dup_x2, 1) := by decide +kernel
theorem dX12_receives_125 : decode cX12_receives 125 = .ok (.iconst 1, 1) := by decide +kernel
theorem dX12_receives_126 : decode cX12_receives 126 = .ok (.iadd, 1) := by decide +kernel
theorem dX12_receives_127 : decode cX12_receives 127 = .ok (.iastore, 1) := by decide +kernel
theorem dX12_receives_128 : decode cX12_receives 128 = .ok (.iadd, 1) := by decide +kernel
theorem dX12_receives_129 : decode cX12_receives 129 = .ok (.aload_n 0, 1) := by decide +kernel
theorem dX12_receives_130 : decode cX12_receives 130 = .ok (.iload 4, 2) := by decide +kernel
theorem dX12_receives_132 : decode cX12_receives 132 = .ok (.iconst 1, 1) := by decide +kernel
theorem dX12_receives_133 : decode cX12_receives 133 = .ok (.invokevirtual 37, 3) := by decide +kernel
theorem dX12_receives_136 : decode cX12_receives 136 = .ok (.iastore, 1) := by decide +kernel
theorem dX12_receives_137 : decode cX12_receives 137 = .ok (.goto 16, 3) := by decide +kernel
theorem dX12_receives_140 : decode cX12_receives 140 = .ok (.aload_n 0, 1) := by decide +kernel
theorem dX12_receives_141 : decode cX12_receives 141 = .ok (.iload_n 1, 1) := by decide +kernel
theorem dX12_receives_142 : decode cX12_receives 142 = .ok (.aload_n 0, 1) := by decide +kernel
theorem dX12_receives_143 : decode cX12_receives 143 = .ok (.iload 4, 2) := by decide +kernel
theorem dX12_receives_145 : decode cX12_receives 145 = .ok (.iconst 1, 1) := by decide +kernel
theorem dX12_receives_146 : decode cX12_receives 146 = .ok (.invokevirtual 37, 3) := by decide +kernel
theorem dX12_receives_149 : decode cX12_receives 149 = .ok (.iload_n 3, 1) := by decide +kernel
theorem dX12_receives_150 : decode cX12_receives 150 = .ok (.invokevirtual 181, 3) := by decide +kernel
theorem dX12_receives_153 : decode cX12_receives 153 = .ok (.iload 4, 2) := by decide +kernel
theorem dX12_receives_155 : decode cX12_receives 155 = .ok (.ifCond .lt 9, 3) := by decide +kernel
theorem dX12_receives_158 : decode cX12_receives 158 = .ok (.aload_n 0, 1) := by decide +kernel
theorem dX12_receives_159 : decode cX12_receives 159 = .ok (.iload 4, 2) := by decide +kernel
theorem dX12_receives_161 : decode cX12_receives 161 = .ok (.invokevirtual 121, 3) := by decide +kernel
theorem dX12_receives_164 : decode cX12_receives 164 = .ok (.return_, 1) := by decide +kernel
set_option maxRecDepth 20000 in
theorem ggX12_chooses_X12_of : GoodIn wsX12_chooses wsX12_of := goodIn_r _ [5, 6, 7, 8, 4, 9, 49, 50, 51, 52, 53, 54, 55, 56, 57, 58, 59] (by decide +kernel) (by decide +kernel)
set_option maxRecDepth 20000 in
theorem gX12_chooses_X12_of : GoodIn wsX12_chooses (wsV RX12 37 RX12 yX12_of wsX12_of) := goodIn_app (goodIn_of _ (by decide +kernel)) ggX12_chooses_X12_of
set_option maxRecDepth 20000 in
theorem ggX12_chooses_X12_canReceive : GoodIn wsX12_chooses wsX12_canReceive := goodIn_r _ [13, 6, 14, 15, 4, 16, 17, 18, 19, 20, 21, 22, 23, 24, 1, 2, 3, 5, 7, 8, 9, 49, 50, 51, 52, 53, 54, 55, 56, 57, 58, 59] (by decide +kernel) (by decide +kernel)
set_option maxRecDepth 20000 in
theorem gX12_chooses_X12_canReceive : GoodIn wsX12_chooses (wsV RX12 188 RX12 yX12_canReceive wsX12_canReceive) := goodIn_app (goodIn_of _ (by decide +kernel)) ggX12_chooses_X12_canReceive
set_option maxRecDepth 20000 in
theorem ggX12_chooses_X12_receives : GoodIn wsX12_chooses wsX12_receives := goodIn_r _ [28, 6, 17, 18, 19, 4, 20, 21, 22, 23, 24, 1, 2, 3, 5, 7, 8, 9, 14, 15, 16, 29, 30, 31, 32, 33, 34, 35, 36, 37, 38, 39, 40, 41, 42, 43, 44, 49, 50, 51, 52, 53, 54, 55, 56, 57, 58, 59] (by decide +kernel) (by decide +kernel)
set_option maxRecDepth 20000 in
theorem gX12_chooses_X12_receives : GoodIn wsX12_chooses (wsV RX12 191 RX12 yX12_receives wsX12_receives) := goodIn_app (goodIn_of _ (by decide +kernel)) ggX12_chooses_X12_receives
set_option maxRecDepth 20000 in
theorem ggX12_chooses_X12_waits : GoodIn wsX12_chooses wsX12_waits := goodIn_r _ [48, 6, 33, 34, 35, 4, 36, 7, 8, 9, 49, 50, 51, 52, 53, 54, 55, 56, 57, 58, 59] (by decide +kernel) (by decide +kernel)
set_option maxRecDepth 20000 in
theorem gX12_chooses_X12_waits : GoodIn wsX12_chooses (wsV RX12 185 RX12 yX12_waits wsX12_waits) := goodIn_app (goodIn_of _ (by decide +kernel)) ggX12_chooses_X12_waits
theorem dX12_chooses_0 : decode cX12_chooses 0 = .ok (.aload_n 0, 1) := by decide +kernel
theorem dX12_chooses_1 : decode cX12_chooses 1 = .ok (.iload_n 1, 1) := by decide +kernel
theorem dX12_chooses_2 : decode cX12_chooses 2 = .ok (.iconst 5, 1) := by decide +kernel
theorem dX12_chooses_3 : decode cX12_chooses 3 = .ok (.invokevirtual 37, 3) := by decide +kernel
theorem dX12_chooses_6 : decode cX12_chooses 6 = .ok (.iconst 2, 1) := by decide +kernel
theorem dX12_chooses_7 : decode cX12_chooses 7 = .ok (.irem, 1) := by decide +kernel
theorem dX12_chooses_8 : decode cX12_chooses 8 = .ok (.ifCond .ne 7, 3) := by decide +kernel
theorem dX12_chooses_11 : decode cX12_chooses 11 = .ok (.iconst 1, 1) := by decide +kernel
theorem dX12_chooses_12 : decode cX12_chooses 12 = .ok (.goto 4, 3) := by decide +kernel
theorem dX12_chooses_15 : decode cX12_chooses 15 = .ok (.iconst 0, 1) := by decide +kernel
theorem dX12_chooses_16 : decode cX12_chooses 16 = .ok (.istore 4, 2) := by decide +kernel
theorem dX12_chooses_18 : decode cX12_chooses 18 = .ok (.iload 4, 2) := by decide +kernel
theorem dX12_chooses_20 : decode cX12_chooses 20 = .ok (.ifCond .eq 7, 3) := by decide +kernel
theorem dX12_chooses_23 : decode cX12_chooses 23 = .ok (.iload_n 2, 1) := by decide +kernel
theorem dX12_chooses_24 : decode cX12_chooses 24 = .ok (.goto 4, 3) := by decide +kernel
theorem dX12_chooses_27 : decode cX12_chooses 27 = .ok (.iload_n 3, 1) := by decide +kernel
theorem dX12_chooses_28 : decode cX12_chooses 28 = .ok (.istore 5, 2) := by decide +kernel
theorem dX12_chooses_30 : decode cX12_chooses 30 = .ok (.iload 4, 2) := by decide +kernel
theorem dX12_chooses_32 : decode cX12_chooses 32 = .ok (.ifCond .eq 7, 3) := by decide +kernel
theorem dX12_chooses_35 : decode cX12_chooses 35 = .ok (.iload_n 3, 1) := by decide +kernel
theorem dX12_chooses_36 : decode cX12_chooses 36 = .ok (.goto 4, 3) := by decide +kernel
theorem dX12_chooses_39 : decode cX12_chooses 39 = .ok (.iload_n 2, 1) := by decide +kernel
theorem dX12_chooses_40 : decode cX12_chooses 40 = .ok (.istore 6, 2) := by decide +kernel
theorem dX12_chooses_42 : decode cX12_chooses 42 = .ok (.aload_n 0, 1) := by decide +kernel
theorem dX12_chooses_43 : decode cX12_chooses 43 = .ok (.iload 5, 2) := by decide +kernel
theorem dX12_chooses_45 : decode cX12_chooses 45 = .ok (.invokevirtual 188, 3) := by decide +kernel
theorem dX12_chooses_48 : decode cX12_chooses 48 = .ok (.ifCond .eq 14, 3) := by decide +kernel
theorem dX12_chooses_51 : decode cX12_chooses 51 = .ok (.aload_n 0, 1) := by decide +kernel
theorem dX12_chooses_52 : decode cX12_chooses 52 = .ok (.iload_n 1, 1) := by decide +kernel
theorem dX12_chooses_53 : decode cX12_chooses 53 = .ok (.iload 5, 2) := by decide +kernel
theorem dX12_chooses_55 : decode cX12_chooses 55 = .ok (.iconst 1, 1) := by decide +kernel
theorem dX12_chooses_56 : decode cX12_chooses 56 = .ok (.invokevirtual 191, 3) := by decide +kernel
theorem dX12_chooses_59 : decode cX12_chooses 59 = .ok (.goto 31, 3) := by decide +kernel
theorem dX12_chooses_62 : decode cX12_chooses 62 = .ok (.aload_n 0, 1) := by decide +kernel
theorem dX12_chooses_63 : decode cX12_chooses 63 = .ok (.iload 6, 2) := by decide +kernel
theorem dX12_chooses_65 : decode cX12_chooses 65 = .ok (.invokevirtual 188, 3) := by decide +kernel
theorem dX12_chooses_68 : decode cX12_chooses 68 = .ok (.ifCond .eq 14, 3) := by decide +kernel
theorem dX12_chooses_71 : decode cX12_chooses 71 = .ok (.aload_n 0, 1) := by decide +kernel
theorem dX12_chooses_72 : decode cX12_chooses 72 = .ok (.iload_n 1, 1) := by decide +kernel
theorem dX12_chooses_73 : decode cX12_chooses 73 = .ok (.iload 6, 2) := by decide +kernel
theorem dX12_chooses_75 : decode cX12_chooses 75 = .ok (.iconst 1, 1) := by decide +kernel
theorem dX12_chooses_76 : decode cX12_chooses 76 = .ok (.invokevirtual 191, 3) := by decide +kernel
theorem dX12_chooses_79 : decode cX12_chooses 79 = .ok (.goto 11, 3) := by decide +kernel
theorem dX12_chooses_82 : decode cX12_chooses 82 = .ok (.aload_n 0, 1) := by decide +kernel
theorem dX12_chooses_83 : decode cX12_chooses 83 = .ok (.iload_n 1, 1) := by decide +kernel
theorem dX12_chooses_84 : decode cX12_chooses 84 = .ok (.iconst 4, 1) := by decide +kernel
theorem dX12_chooses_85 : decode cX12_chooses 85 = .ok (.iload_n 2, 1) := by decide +kernel
theorem dX12_chooses_86 : decode cX12_chooses 86 = .ok (.iload_n 3, 1) := by decide +kernel
theorem dX12_chooses_87 : decode cX12_chooses 87 = .ok (.invokevirtual 185, 3) := by decide +kernel
theorem dX12_chooses_90 : decode cX12_chooses 90 = .ok (.return_, 1) := by decide +kernel
set_option maxRecDepth 20000 in
theorem ggX12_executes_X12_of : GoodIn wsX12_executes wsX12_of := goodIn_r _ [6, 1, 7, 8, 5, 9, 220, 221, 222, 223, 224, 225, 226, 227, 228, 229, 230] (by decide +kernel) (by decide +kernel)
set_option maxRecDepth 20000 in
theorem gX12_executes_X12_of : GoodIn wsX12_executes (wsV RX12 37 RX12 yX12_of wsX12_of) := goodIn_app (goodIn_of _ (by decide +kernel)) ggX12_executes_X12_of
set_option maxRecDepth 20000 in
theorem ggX12_executes_X12_task : GoodIn wsX12_executes wsX12_task := goodIn_r _ [9] (by decide +kernel) (by decide +kernel)
set_option maxRecDepth 20000 in
theorem gX12_executes_X12_task : GoodIn wsX12_executes (va_wsS RX12 29 yX12_task wsX12_task) := goodIn_app (goodIn_of _ (by decide +kernel)) ggX12_executes_X12_task
set_option maxRecDepth 20000 in
theorem ggX12_executes_X12_sets : GoodIn wsX12_executes wsX12_sets := goodIn_r _ [13, 1, 7, 8, 5, 9, 220, 221, 222, 223, 224, 225, 226, 227, 228, 229, 230] (by decide +kernel) (by decide +kernel)
set_option maxRecDepth 20000 in
theorem gX12_executes_X12_sets : GoodIn wsX12_executes (wsV RX12 109 RX12 yX12_sets wsX12_sets) := goodIn_app (goodIn_of _ (by decide +kernel)) ggX12_executes_X12_sets
set_option maxRecDepth 20000 in
theorem ggX12_executes_X12_opens : GoodIn wsX12_executes wsX12_opens := goodIn_r _ [17, 1, 18, 19, 20, 5, 21, 22, 23, 24, 25, 2, 3, 4, 6, 7, 8, 9, 26, 27, 28, 29, 30, 31, 32, 33, 34, 35, 36, 37, 38, 39, 40, 10, 11, 12, 13, 41, 42, 43, 44, 45, 46, 47, 48, 49, 50, 51, 52, 53, 54, 55, 56, 57, 58, 59, 60, 61, 62, 63, 64, 65, 66, 67, 68, 69, 70, 71, 72, 73, 74, 75, 76, 77, 78, 79, 80, 81, 82, 83, 84, 85, 86, 87, 88, 89, 90, 91, 92, 93, 94, 95, 96, 97, 98, 99, 100, 101, 102, 103, 104, 105, 106, 107, 108, 109, 110, 111, 112, 113, 114, 115, 116, 117, 118, 119, 120, 121, 122, 123, 124, 125, 126, 127, 128, 129, 130, 131, 132, 133, 134, 135, 136, 137, 138, 139, 140, 220, 221, 222, 223, 224, 225, 226, 227, 228, 229, 230] (by decide +kernel) (by decide +kernel)
set_option maxRecDepth 20000 in
theorem gX12_executes_X12_opens : GoodIn wsX12_executes (wsV RX12 194 RX12 yX12_opens wsX12_opens) := goodIn_app (goodIn_of _ (by decide +kernel)) ggX12_executes_X12_opens
set_option maxRecDepth 20000 in
theorem ggX12_executes_X12_closes : GoodIn wsX12_executes wsX12_closes := goodIn_r _ [144, 145, 146, 147, 5, 148, 2, 3, 4, 6, 1, 7, 8, 9, 149, 150, 151, 152, 37, 38, 39, 40, 10, 11, 12, 13, 153, 154, 155, 156, 30, 31, 32, 157, 158, 159, 160, 161, 162, 163, 164, 220, 221, 222, 223, 224, 225, 226, 227, 228, 229, 230] (by decide +kernel) (by decide +kernel)
set_option maxRecDepth 20000 in
theorem gX12_executes_X12_closes : GoodIn wsX12_executes (wsV RX12 197 RX12 yX12_closes wsX12_closes) := goodIn_app (goodIn_of _ (by decide +kernel)) ggX12_executes_X12_closes
set_option maxRecDepth 20000 in
theorem ggX12_executes_X12_inner : GoodIn wsX12_executes wsX12_inner := goodIn_r _ [148, 2, 3, 4, 5, 6, 1, 7, 8, 9, 220, 221, 222, 223, 224, 225, 226, 227, 228, 229, 230] (by decide +kernel) (by decide +kernel)
set_option maxRecDepth 20000 in
theorem gX12_executes_X12_inner : GoodIn wsX12_executes (wsV RX12 144 RX12 yX12_inner wsX12_inner) := goodIn_app (goodIn_of _ (by decide +kernel)) ggX12_executes_X12_inner
set_option maxRecDepth 20000 in
theorem ggX12_executes_X12_scope : GoodIn wsX12_executes wsX12_scope := goodIn_r _ [32] (by decide +kernel) (by decide +kernel)
set_option maxRecDepth 20000 in
theorem gX12_executes_X12_scope : GoodIn wsX12_executes (va_wsS RX12 127 yX12_scope wsX12_scope) := goodIn_app (goodIn_of _ (by decide +kernel)) ggX12_executes_X12_scope
set_option maxRecDepth 20000 in
theorem ggX12_executes_X12_copies : GoodIn wsX12_executes wsX12_copies := goodIn_r _ [168, 1, 220, 221, 222, 223, 224, 225, 226, 227, 228, 229, 230] (by decide +kernel) (by decide +kernel)
set_option maxRecDepth 20000 in
theorem gX12_executes_X12_copies : GoodIn wsX12_executes (wsV RX12 117 RX12 yX12_copies wsX12_copies) := goodIn_app (goodIn_of _ (by decide +kernel)) ggX12_executes_X12_copies
set_option maxRecDepth 20000 in
theorem ggX12_executes_X12_fails_ : GoodIn wsX12_executes wsX12_fails_ := goodIn_r _ [21, 22, 23, 24, 5, 25, 1, 2, 3, 4, 6, 7, 8, 9, 26, 27, 28, 29, 30, 31, 32, 33, 34, 35, 36, 37, 38, 39, 40, 10, 11, 12, 13, 41, 42, 43, 44, 45, 46, 47, 48, 220, 221, 222, 223, 224, 225, 226, 227, 228, 229, 230] (by decide +kernel) (by decide +kernel)
set_option maxRecDepth 20000 in
theorem gX12_executes_X12_fails_ : GoodIn wsX12_executes (wsV RX12 172 RX12 yX12_fails_ wsX12_fails_) := goodIn_app (goodIn_of _ (by decide +kernel)) ggX12_executes_X12_fails_
set_option maxRecDepth 20000 in
theorem ggX12_executes_X12_starts : GoodIn wsX12_executes wsX12_starts := goodIn_r _ [172, 1, 10, 11, 12, 5, 13, 7, 8, 9, 165, 166, 167, 168, 41, 42, 43, 44, 45, 46, 47, 48, 220, 221, 222, 223, 224, 225, 226, 227, 228, 229, 230] (by decide +kernel) (by decide +kernel)
set_option maxRecDepth 20000 in
theorem gX12_executes_X12_starts : GoodIn wsX12_executes (wsV RX12 124 RX12 yX12_starts wsX12_starts) := goodIn_app (goodIn_of _ (by decide +kernel)) ggX12_executes_X12_starts
set_option maxRecDepth 20000 in
theorem ggX12_executes_X12_cancels : GoodIn wsX12_executes wsX12_cancels := goodIn_r _ [176, 1, 2, 3, 4, 5, 6, 7, 8, 9, 37, 38, 39, 40, 33, 34, 35, 36, 10, 11, 12, 13, 41, 42, 43, 44, 45, 46, 47, 48, 220, 221, 222, 223, 224, 225, 226, 227, 228, 229, 230] (by decide +kernel) (by decide +kernel)
set_option maxRecDepth 20000 in
theorem gX12_executes_X12_cancels : GoodIn wsX12_executes (wsV RX12 151 RX12 yX12_cancels wsX12_cancels) := goodIn_app (goodIn_of _ (by decide +kernel)) ggX12_executes_X12_cancels
set_option maxRecDepth 20000 in
theorem ggX12_executes_X12_sends : GoodIn wsX12_executes wsX12_sends := goodIn_r _ [180, 1, 2, 3, 4, 5, 6, 7, 8, 9, 181, 182, 183, 184, 185, 186, 187, 188, 189, 190, 191, 192, 10, 11, 12, 13, 41, 42, 43, 44, 45, 46, 47, 48, 193, 194, 195, 196, 197, 198, 199, 220, 221, 222, 223, 224, 225, 226, 227, 228, 229, 230] (by decide +kernel) (by decide +kernel)
set_option maxRecDepth 20000 in
theorem gX12_executes_X12_sends : GoodIn wsX12_executes (wsV RX12 200 RX12 yX12_sends wsX12_sends) := goodIn_app (goodIn_of _ (by decide +kernel)) ggX12_executes_X12_sends
set_option maxRecDepth 20000 in
theorem ggX12_executes_X12_canReceive : GoodIn wsX12_executes wsX12_canReceive := goodIn_r _ [203, 1, 193, 194, 5, 195, 181, 182, 183, 184, 185, 186, 187, 188, 2, 3, 4, 6, 7, 8, 9, 220, 221, 222, 223, 224, 225, 226, 227, 228, 229, 230] (by decide +kernel) (by decide +kernel)
set_option maxRecDepth 20000 in
theorem gX12_executes_X12_canReceive : GoodIn wsX12_executes (wsV RX12 188 RX12 yX12_canReceive wsX12_canReceive) := goodIn_app (goodIn_of _ (by decide +kernel)) ggX12_executes_X12_canReceive
set_option maxRecDepth 20000 in
theorem ggX12_executes_X12_receives : GoodIn wsX12_executes wsX12_receives := goodIn_r _ [207, 1, 181, 182, 183, 5, 184, 185, 186, 187, 188, 2, 3, 4, 6, 7, 8, 9, 193, 194, 195, 189, 190, 191, 192, 10, 11, 12, 13, 41, 42, 43, 44, 45, 46, 47, 48, 220, 221, 222, 223, 224, 225, 226, 227, 228, 229, 230] (by decide +kernel) (by decide +kernel)
set_option maxRecDepth 20000 in
theorem gX12_executes_X12_receives : GoodIn wsX12_executes (wsV RX12 191 RX12 yX12_receives wsX12_receives) := goodIn_app (goodIn_of _ (by decide +kernel)) ggX12_executes_X12_receives
set_option maxRecDepth 20000 in
theorem ggX12_executes_X12_waits : GoodIn wsX12_executes wsX12_waits := goodIn_r _ [199, 1, 10, 11, 12, 5, 13, 7, 8, 9, 220, 221, 222, 223, 224, 225, 226, 227, 228, 229, 230] (by decide +kernel) (by decide +kernel)
set_option maxRecDepth 20000 in
theorem gX12_executes_X12_waits : GoodIn wsX12_executes (wsV RX12 185 RX12 yX12_waits wsX12_waits) := goodIn_app (goodIn_of _ (by decide +kernel)) ggX12_executes_X12_waits
set_option maxRecDepth 20000 in
theorem ggX12_executes_X12_chooses : GoodIn wsX12_executes wsX12_chooses := goodIn_r _ [211, 2, 3, 4, 5, 6, 1, 7, 8, 9, 200, 201, 202, 203, 193, 194, 195, 181, 182, 183, 184, 185, 186, 187, 188, 204, 205, 206, 207, 189, 190, 191, 192, 10, 11, 12, 13, 41, 42, 43, 44, 45, 46, 47, 48, 196, 197, 198, 199, 220, 221, 222, 223, 224, 225, 226, 227, 228, 229, 230] (by decide +kernel) (by decide +kernel)
set_option maxRecDepth 20000 in
theorem gX12_executes_X12_chooses : GoodIn wsX12_executes (wsV RX12 203 RX12 yX12_chooses wsX12_chooses) := goodIn_app (goodIn_of _ (by decide +kernel)) ggX12_executes_X12_chooses
set_option maxRecDepth 20000 in
theorem ggX12_executes_X12_simple : GoodIn wsX12_executes wsX12_simple := goodIn_r _ [215, 2, 3, 4, 5, 6, 1, 7, 8, 9, 10, 11, 12, 13, 216, 217, 218, 219, 220, 221, 222, 223, 224, 225, 226, 227, 228, 229, 230] (by decide +kernel) (by decide +kernel)
set_option maxRecDepth 20000 in
theorem gX12_executes_X12_simple : GoodIn wsX12_executes (wsV RX12 169 RX12 yX12_simple wsX12_simple) := goodIn_app (goodIn_of _ (by decide +kernel)) ggX12_executes_X12_simple
theorem dX12_executes_0 : decode cX12_executes 0 = .ok (.aload_n 0, 1) := by decide +kernel
theorem dX12_executes_1 : decode cX12_executes 1 = .ok (.iload_n 1, 1) := by decide +kernel
theorem dX12_executes_2 : decode cX12_executes 2 = .ok (.iconst 2, 1) := by decide +kernel
theorem dX12_executes_3 : decode cX12_executes 3 = .ok (.invokevirtual 37, 3) := by decide +kernel
theorem dX12_executes_6 : decode cX12_executes 6 = .ok (.istore_n 2, 1) := by decide +kernel
theorem dX12_executes_7 : decode cX12_executes 7 = .ok (.aload_n 0, 1) := by decide +kernel
theorem dX12_executes_8 : decode cX12_executes 8 = .ok (.getfield 9, 3) := by decide +kernel
theorem dX12_executes_11 : decode cX12_executes 11 = .ok (.iload_n 1, 1) := by decide +kernel
theorem dX12_executes_12 : decode cX12_executes 12 = .ok (.invokestatic 29, 3) := by decide +kernel
theorem dX12_executes_15 : decode cX12_executes 15 = .ok (.bipush 20, 2) := by decide +kernel
theorem dX12_executes_17 : decode cX12_executes 17 = .ok (.iadd, 1) := by decide +kernel
theorem dX12_executes_18 : decode cX12_executes 18 = .ok (.iconst 1, 1) := by decide +kernel
theorem dX12_executes_19 : decode cX12_executes 19 = .ok (.iadd, 1) := by decide +kernel
theorem dX12_executes_20 : decode cX12_executes 20 = .ok (.iload_n 2, 1) := by decide +kernel
theorem dX12_executes_21 : decode cX12_executes 21 = .ok (.iadd, 1) := by decide +kernel
theorem dX12_executes_22 : decode cX12_executes 22 = .ok (.iaload, 1) := by decide +kernel
theorem dX12_executes_23 : decode cX12_executes 23 = .ok (.istore_n 3, 1) := by decide +kernel
theorem dX12_executes_24 : decode cX12_executes 24 = .ok (.iload_n 3, 1) := by decide +kernel
theorem dX12_executes_25 : decode cX12_executes 25 = .ok (.bipush 100, 2) := by decide +kernel
theorem dX12_executes_27 : decode cX12_executes 27 = .ok (.irem, 1) := by decide +kernel
theorem dX12_executes_28 : decode cX12_executes 28 = .ok (.istore 4, 2) := by decide +kernel
theorem dX12_executes_30 : decode cX12_executes 30 = .ok (.aload_n 0, 1) := by decide +kernel
theorem dX12_executes_31 : decode cX12_executes 31 = .ok (.iload_n 1, 1) := by decide +kernel
theorem dX12_executes_32 : decode cX12_executes 32 = .ok (.iconst 2, 1) := by decide +kernel
theorem dX12_executes_33 : decode cX12_executes 33 = .ok (.iload_n 2, 1) := by decide +kernel
theorem dX12_executes_34 : decode cX12_executes 34 = .ok (.iconst 1, 1) := by decide +kernel
theorem dX12_executes_35 : decode cX12_executes 35 = .ok (.iadd, 1) := by decide +kernel
theorem dX12_executes_36 : decode cX12_executes 36 = .ok (.invokevirtual 109, 3) := by decide +kernel
theorem dX12_executes_39 : decode cX12_executes 39 = .ok (.iload_n 3, 1) := by decide +kernel
theorem dX12_executes_40 : decode cX12_executes 40 = .ok (.bipush 100, 2) := by decide +kernel
theorem dX12_executes_42 : decode cX12_executes 42 = .ok (.idiv, 1) := by decide +kernel
theorem dX12_executes_43 : decode cX12_executes 43 = .ok (.lookupswitch 306 #[(33, 296), (40, 97), (41, 137), (60, 246), (62, 236), (63, 278), (91, 107), (94, 145), (112, 186), (120, 224), (123, 127)], 97) := by decide +kernel
theorem dX12_executes_140 : decode cX12_executes 140 = .ok (.aload_n 0, 1) := by decide +kernel
theorem dX12_executes_141 : decode cX12_executes 141 = .ok (.iload_n 1, 1) := by decide +kernel
theorem dX12_executes_142 : decode cX12_executes 142 = .ok (.iconst 0, 1) := by decide +kernel
theorem dX12_executes_143 : decode cX12_executes 143 = .ok (.iconst (-1), 1) := by decide +kernel
theorem dX12_executes_144 : decode cX12_executes 144 = .ok (.invokevirtual 194, 3) := by decide +kernel
theorem dX12_executes_147 : decode cX12_executes 147 = .ok (.goto 215, 3) := by decide +kernel
theorem dX12_executes_150 : decode cX12_executes 150 = .ok (.aload_n 0, 1) := by decide +kernel
theorem dX12_executes_151 : decode cX12_executes 151 = .ok (.iload_n 1, 1) := by decide +kernel
theorem dX12_executes_152 : decode cX12_executes 152 = .ok (.iconst 1, 1) := by decide +kernel
theorem dX12_executes_153 : decode cX12_executes 153 = .ok (.aload_n 0, 1) := by decide +kernel
theorem dX12_executes_154 : decode cX12_executes 154 = .ok (.getfield 9, 3) := by decide +kernel
theorem dX12_executes_157 : decode cX12_executes 157 = .ok (.sipush 175, 3) := by decide +kernel
theorem dX12_executes_160 : decode cX12_executes 160 = .ok (.iaload, 1) := by decide +kernel
theorem dX12_executes_161 : decode cX12_executes 161 = .ok (.iload 4, 2) := by decide +kernel
theorem dX12_executes_163 : decode cX12_executes 163 = .ok (.iadd, 1) := by decide +kernel
theorem dX12_executes_164 : decode cX12_executes 164 = .ok (.invokevirtual 194, 3) := by decide +kernel
theorem dX12_executes_167 : decode cX12_executes 167 = .ok (.goto 195, 3) := by decide +kernel
theorem dX12_executes_170 : decode cX12_executes 170 = .ok (.aload_n 0, 1) := by decide +kernel
theorem dX12_executes_171 : decode cX12_executes 171 = .ok (.iload_n 1, 1) := by decide +kernel
theorem dX12_executes_172 : decode cX12_executes 172 = .ok (.iconst 2, 1) := by decide +kernel
theorem dX12_executes_173 : decode cX12_executes 173 = .ok (.iconst (-1), 1) := by decide +kernel
theorem dX12_executes_174 : decode cX12_executes 174 = .ok (.invokevirtual 194, 3) := by decide +kernel
theorem dX12_executes_177 : decode cX12_executes 177 = .ok (.goto 185, 3) := by decide +kernel
theorem dX12_executes_180 : decode cX12_executes 180 = .ok (.aload_n 0, 1) := by decide +kernel
theorem dX12_executes_181 : decode cX12_executes 181 = .ok (.iload_n 1, 1) := by decide +kernel
theorem dX12_executes_182 : decode cX12_executes 182 = .ok (.invokevirtual 197, 3) := by decide +kernel
theorem dX12_executes_185 : decode cX12_executes 185 = .ok (.goto 177, 3) := by decide +kernel
theorem dX12_executes_188 : decode cX12_executes 188 = .ok (.aload_n 0, 1) := by decide +kernel
theorem dX12_executes_189 : decode cX12_executes 189 = .ok (.getfield 9, 3) := by decide +kernel
theorem dX12_executes_192 : decode cX12_executes 192 = .ok (.aload_n 0, 1) := by decide +kernel
theorem dX12_executes_193 : decode cX12_executes 193 = .ok (.iload_n 1, 1) := by decide +kernel
theorem dX12_executes_194 : decode cX12_executes 194 = .ok (.invokevirtual 144, 3) := by decide +kernel
theorem dX12_executes_197 : decode cX12_executes 197 = .ok (.invokestatic 127, 3) := by decide +kernel
theorem dX12_executes_200 : decode cX12_executes 200 = .ok (.iconst 5, 1) := by decide +kernel
theorem dX12_executes_201 : decode cX12_executes 201 = .ok (.iadd, 1) := by decide +kernel
theorem dX12_executes_202 : decode cX12_executes 202 = .ok (.iconst 1, 1) := by decide +kernel
theorem dX12_executes_203 : decode cX12_executes 203 = .ok (.iastore, 1) := by decide +kernel
theorem dX12_executes_204 : decode cX12_executes 204 = .ok (.aload_n 0, 1) := by decide +kernel
theorem dX12_executes_205 : decode cX12_executes 205 = .ok (.iconst 0, 1) := by decide +kernel
theorem dX12_executes_206 : decode cX12_executes 206 = .ok (.bipush 25, 2) := by decide +kernel
theorem dX12_executes_208 : decode cX12_executes 208 = .ok (.iload 4, 2) := by decide +kernel
theorem dX12_executes_210 : decode cX12_executes 210 = .ok (.imul, 1) := by decide +kernel
theorem dX12_executes_211 : decode cX12_executes 211 = .ok (.iadd, 1) := by decide +kernel
theorem dX12_executes_212 : decode cX12_executes 212 = .ok (.aload_n 0, 1) := by decide +kernel
theorem dX12_executes_213 : decode cX12_executes 213 = .ok (.iload_n 1, 1) := by decide +kernel
theorem dX12_executes_214 : decode cX12_executes 214 = .ok (.invokevirtual 144, 3) := by decide +kernel
theorem dX12_executes_217 : decode cX12_executes 217 = .ok (.invokestatic 127, 3) := by decide +kernel
theorem dX12_executes_220 : decode cX12_executes 220 = .ok (.bipush 7, 2) := by decide +kernel
theorem dX12_executes_222 : decode cX12_executes 222 = .ok (.iadd, 1) := by decide +kernel
theorem dX12_executes_223 : decode cX12_executes 223 = .ok (.invokevirtual 117, 3) := by decide +kernel
theorem dX12_executes_226 : decode cX12_executes 226 = .ok (.goto 136, 3) := by decide +kernel
theorem dX12_executes_229 : decode cX12_executes 229 = .ok (.aload_n 0, 1) := by decide +kernel
theorem dX12_executes_230 : decode cX12_executes 230 = .ok (.getfield 9, 3) := by decide +kernel
theorem dX12_executes_233 : decode cX12_executes 233 = .ok (.sipush 170, 3) := by decide +kernel
theorem dX12_executes_236 : decode cX12_executes 236 = .ok (.iaload, 1) := by decide +kernel
theorem dX12_executes_237 : decode cX12_executes 237 = .ok (.bipush 24, 2) := by decide +kernel
theorem dX12_executes_239 : decode cX12_executes 239 = .ok (.if_icmp .ne 13, 3) := by decide +kernel
theorem dX12_executes_242 : decode cX12_executes 242 = .ok (.aload_n 0, 1) := by decide +kernel
theorem dX12_executes_243 : decode cX12_executes 243 = .ok (.iload_n 1, 1) := by decide +kernel
theorem dX12_executes_244 : decode cX12_executes 244 = .ok (.bipush 11, 2) := by decide +kernel
theorem dX12_executes_246 : decode cX12_executes 246 = .ok (.invokevirtual 172, 3) := by decide +kernel
theorem dX12_executes_249 : decode cX12_executes 249 = .ok (.goto 113, 3) := by decide +kernel
theorem dX12_executes_252 : decode cX12_executes 252 = .ok (.aload_n 0, 1) := by decide +kernel
theorem dX12_executes_253 : decode cX12_executes 253 = .ok (.iload 4, 2) := by decide +kernel
theorem dX12_executes_255 : decode cX12_executes 255 = .ok (.aload_n 0, 1) := by decide +kernel
theorem dX12_executes_256 : decode cX12_executes 256 = .ok (.iload_n 1, 1) := by decide +kernel
theorem dX12_executes_257 : decode cX12_executes 257 = .ok (.invokevirtual 144, 3) := by decide +kernel
theorem dX12_executes_260 : decode cX12_executes 260 = .ok (.invokevirtual 124, 3) := by decide +kernel
theorem dX12_executes_263 : decode cX12_executes 263 = .ok (.pop, 1) := by decide +kernel
theorem dX12_executes_264 : decode cX12_executes 264 = .ok (.goto 98, 3) := by decide +kernel
theorem dX12_executes_267 : decode cX12_executes 267 = .ok (.aload_n 0, 1) := by decide +kernel
theorem dX12_executes_268 : decode cX12_executes 268 = .ok (.aload_n 0, 1) := by decide +kernel
theorem dX12_executes_269 : decode cX12_executes 269 = .ok (.iload_n 1, 1) := by decide +kernel
theorem dX12_executes_270 : decode cX12_executes 270 = .ok (.invokevirtual 144, 3) := by decide +kernel
theorem dX12_executes_273 : decode cX12_executes 273 = .ok (.invokevirtual 151, 3) := by decide +kernel
theorem dX12_executes_276 : decode cX12_executes 276 = .ok (.goto 86, 3) := by decide +kernel
theorem dX12_executes_279 : decode cX12_executes 279 = .ok (.aload_n 0, 1) := by decide +kernel
theorem dX12_executes_280 : decode cX12_executes 280 = .ok (.iload_n 1, 1) := by decide +kernel
theorem dX12_executes_281 : decode cX12_executes 281 = .ok (.iload 4, 2) := by decide +kernel
theorem dX12_executes_283 : decode cX12_executes 283 = .ok (.invokevirtual 200, 3) := by decide +kernel
theorem dX12_executes_286 : decode cX12_executes 286 = .ok (.goto 76, 3) := by decide +kernel
theorem dX12_executes_289 : decode cX12_executes 289 = .ok (.aload_n 0, 1) := by decide +kernel
theorem dX12_executes_290 : decode cX12_executes 290 = .ok (.iload 4, 2) := by decide +kernel
theorem dX12_executes_292 : decode cX12_executes 292 = .ok (.invokevirtual 188, 3) := by decide +kernel
theorem dX12_executes_295 : decode cX12_executes 295 = .ok (.ifCond .eq 14, 3) := by decide +kernel
theorem dX12_executes_298 : decode cX12_executes 298 = .ok (.aload_n 0, 1) := by decide +kernel
theorem dX12_executes_299 : decode cX12_executes 299 = .ok (.iload_n 1, 1) := by decide +kernel
theorem dX12_executes_300 : decode cX12_executes 300 = .ok (.iload 4, 2) := by decide +kernel
theorem dX12_executes_302 : decode cX12_executes 302 = .ok (.iconst 0, 1) := by decide +kernel
theorem dX12_executes_303 : decode cX12_executes 303 = .ok (.invokevirtual 191, 3) := by decide +kernel
theorem dX12_executes_306 : decode cX12_executes 306 = .ok (.goto 56, 3) := by decide +kernel
theorem dX12_executes_309 : decode cX12_executes 309 = .ok (.aload_n 0, 1) := by decide +kernel
theorem dX12_executes_310 : decode cX12_executes 310 = .ok (.iload_n 1, 1) := by decide +kernel
theorem dX12_executes_311 : decode cX12_executes 311 = .ok (.iconst 3, 1) := by decide +kernel
theorem dX12_executes_312 : decode cX12_executes 312 = .ok (.iload 4, 2) := by decide +kernel
theorem dX12_executes_314 : decode cX12_executes 314 = .ok (.iconst (-1), 1) := by decide +kernel
theorem dX12_executes_315 : decode cX12_executes 315 = .ok (.invokevirtual 185, 3) := by decide +kernel
theorem dX12_executes_318 : decode cX12_executes 318 = .ok (.goto 44, 3) := by decide +kernel
theorem dX12_executes_321 : decode cX12_executes 321 = .ok (.aload_n 0, 1) := by decide +kernel
theorem dX12_executes_322 : decode cX12_executes 322 = .ok (.iload_n 1, 1) := by decide +kernel
theorem dX12_executes_323 : decode cX12_executes 323 = .ok (.iload 4, 2) := by decide +kernel
theorem dX12_executes_325 : decode cX12_executes 325 = .ok (.bipush 10, 2) := by decide +kernel
theorem dX12_executes_327 : decode cX12_executes 327 = .ok (.idiv, 1) := by decide +kernel
theorem dX12_executes_328 : decode cX12_executes 328 = .ok (.iload 4, 2) := by decide +kernel
theorem dX12_executes_330 : decode cX12_executes 330 = .ok (.bipush 10, 2) := by decide +kernel
theorem dX12_executes_332 : decode cX12_executes 332 = .ok (.irem, 1) := by decide +kernel
theorem dX12_executes_333 : decode cX12_executes 333 = .ok (.invokevirtual 203, 3) := by decide +kernel
theorem dX12_executes_336 : decode cX12_executes 336 = .ok (.goto 26, 3) := by decide +kernel
theorem dX12_executes_339 : decode cX12_executes 339 = .ok (.aload_n 0, 1) := by decide +kernel
theorem dX12_executes_340 : decode cX12_executes 340 = .ok (.iload_n 1, 1) := by decide +kernel
theorem dX12_executes_341 : decode cX12_executes 341 = .ok (.iload 4, 2) := by decide +kernel
theorem dX12_executes_343 : decode cX12_executes 343 = .ok (.invokevirtual 172, 3) := by decide +kernel
theorem dX12_executes_346 : decode cX12_executes 346 = .ok (.goto 16, 3) := by decide +kernel
theorem dX12_executes_349 : decode cX12_executes 349 = .ok (.aload_n 0, 1) := by decide +kernel
theorem dX12_executes_350 : decode cX12_executes 350 = .ok (.iload_n 1, 1) := by decide +kernel
theorem dX12_executes_351 : decode cX12_executes 351 = .ok (.iconst 2, 1) := by decide +kernel
theorem dX12_executes_352 : decode cX12_executes 352 = .ok (.aload_n 0, 1) := by decide +kernel
theorem dX12_executes_353 : decode cX12_executes 353 = .ok (.iload_n 1, 1) := by decide +kernel
theorem dX12_executes_354 : decode cX12_executes 354 = .ok (.iload_n 3, 1) := by decide +kernel
theorem dX12_executes_355 : decode cX12_executes 355 = .ok (.iload_n 2, 1) := by decide +kernel
theorem dX12_executes_356 : decode cX12_executes 356 = .ok (.invokevirtual 169, 3) := by decide +kernel
theorem dX12_executes_359 : decode cX12_executes 359 = .ok (.invokevirtual 109, 3) := by decide +kernel
theorem dX12_executes_362 : decode cX12_executes 362 = .ok (.return_, 1) := by decide +kernel
set_option maxRecDepth 20000 in
theorem ggX12_turns_X12_of : GoodIn wsX12_turns wsX12_of := goodIn_r _ [5, 6, 7, 8, 4, 9, 240, 241, 242, 243, 244, 245, 246, 247, 248, 249, 250] (by decide +kernel) (by decide +kernel)
set_option maxRecDepth 20000 in
theorem gX12_turns_X12_of : GoodIn wsX12_turns (wsV RX12 37 RX12 yX12_of wsX12_of) := goodIn_app (goodIn_of _ (by decide +kernel)) ggX12_turns_X12_of
set_option maxRecDepth 20000 in
theorem ggX12_turns_X12_cleanup : GoodIn wsX12_turns wsX12_cleanup := goodIn_r _ [13, 6, 14, 15, 16, 4, 17, 1, 2, 3, 5, 7, 8, 9, 18, 19, 20, 21, 22, 23, 24, 25, 26, 27, 28, 29, 30, 31, 32, 33, 34, 35, 36, 37, 38, 39, 40, 41, 42, 43, 44, 45, 46, 47, 48, 49, 50, 51, 52, 53, 54, 55, 56, 240, 241, 242, 243, 244, 245, 246, 247, 248, 249, 250] (by decide +kernel) (by decide +kernel)
set_option maxRecDepth 20000 in
theorem gX12_turns_X12_cleanup : GoodIn wsX12_turns (wsV RX12 206 RX12 yX12_cleanup wsX12_cleanup) := goodIn_app (goodIn_of _ (by decide +kernel)) ggX12_turns_X12_cleanup
set_option maxRecDepth 20000 in
theorem ggX12_turns_X12_unwinds : GoodIn wsX12_turns wsX12_unwinds := goodIn_r _ [60, 6, 14, 15, 16, 4, 17, 1, 2, 3, 5, 7, 8, 9, 18, 19, 20, 61, 62, 63, 64, 45, 46, 47, 48, 41, 42, 43, 44, 21, 22, 23, 24, 49, 50, 51, 52, 53, 54, 55, 56, 65, 66, 67, 68, 69, 70, 71, 72, 73, 74, 75, 76, 77, 78, 79, 80, 81, 82, 83, 84, 240, 241, 242, 243, 244, 245, 246, 247, 248, 249, 250] (by decide +kernel) (by decide +kernel)
set_option maxRecDepth 20000 in
theorem gX12_turns_X12_unwinds : GoodIn wsX12_turns (wsV RX12 209 RX12 yX12_unwinds wsX12_unwinds) := goodIn_app (goodIn_of _ (by decide +kernel)) ggX12_turns_X12_unwinds
set_option maxRecDepth 20000 in
theorem ggX12_turns_X12_ends : GoodIn wsX12_turns wsX12_ends := goodIn_r _ [88, 6, 21, 22, 23, 4, 24, 7, 8, 9, 1, 2, 3, 5, 18, 19, 20, 33, 34, 35, 36, 37, 38, 39, 40, 41, 42, 43, 44, 45, 46, 47, 48, 49, 50, 51, 52, 53, 54, 55, 56, 14, 15, 16, 17, 65, 66, 67, 68, 240, 241, 242, 243, 244, 245, 246, 247, 248, 249, 250] (by decide +kernel) (by decide +kernel)
set_option maxRecDepth 20000 in
theorem gX12_turns_X12_ends : GoodIn wsX12_turns (wsV RX12 212 RX12 yX12_ends wsX12_ends) := goodIn_app (goodIn_of _ (by decide +kernel)) ggX12_turns_X12_ends
set_option maxRecDepth 20000 in
theorem ggX12_turns_X12_executes : GoodIn wsX12_turns wsX12_executes := goodIn_r _ [92, 6, 1, 2, 3, 4, 5, 7, 8, 9, 21, 22, 23, 24, 93, 94, 95, 96, 97, 98, 99, 100, 33, 34, 35, 36, 37, 38, 39, 40, 18, 19, 20, 41, 42, 43, 44, 45, 46, 47, 48, 49, 50, 51, 52, 53, 54, 55, 56, 101, 102, 103, 104, 105, 106, 107, 108, 109, 110, 111, 112, 113, 114, 115, 116, 117, 118, 119, 120, 121, 122, 123, 124, 125, 126, 127, 128, 129, 130, 131, 132, 133, 134, 135, 136, 137, 138, 139, 140, 141, 142, 143, 144, 145, 146, 147, 148, 149, 150, 151, 152, 153, 154, 155, 156, 157, 158, 159, 160, 161, 162, 163, 164, 165, 166, 167, 168, 169, 170, 171, 172, 173, 174, 175, 176, 177, 178, 179, 180, 181, 182, 183, 184, 185, 186, 187, 188, 189, 190, 191, 192, 193, 194, 195, 196, 14, 15, 16, 17, 65, 66, 67, 68, 69, 70, 71, 72, 73, 74, 75, 76, 77, 78, 79, 80, 197, 198, 199, 200, 201, 202, 203, 204, 61, 62, 63, 64, 205, 206, 207, 208, 209, 210, 211, 212, 213, 214, 215, 216, 217, 218, 219, 220, 221, 222, 223, 224, 225, 226, 227, 228, 229, 230, 231, 232, 233, 234, 235, 236, 237, 238, 239, 25, 26, 27, 28, 29, 30, 31, 32, 240, 241, 242, 243, 244, 245, 246, 247, 248, 249, 250] (by decide +kernel) (by decide +kernel)
set_option maxRecDepth 20000 in
theorem gX12_turns_X12_executes : GoodIn wsX12_turns (wsV RX12 215 RX12 yX12_executes wsX12_executes) := goodIn_app (goodIn_of _ (by decide +kernel)) ggX12_turns_X12_executes
set_option maxRecDepth 20000 in
theorem ggX12_turns_X12_queues : GoodIn wsX12_turns wsX12_queues := goodIn_r _ [56, 6, 240, 241, 242, 243, 244, 245, 246, 247, 248, 249, 250] (by decide +kernel) (by decide +kernel)
set_option maxRecDepth 20000 in
theorem gX12_turns_X12_queues : GoodIn wsX12_turns (wsV RX12 113 RX12 yX12_queues wsX12_queues) := goodIn_app (goodIn_of _ (by decide +kernel)) ggX12_turns_X12_queues
theorem dX12_turns_0 : decode cX12_turns 0 = .ok (.aload_n 0, 1) := by decide +kernel
theorem dX12_turns_1 : decode cX12_turns 1 = .ok (.iload_n 1, 1) := by decide +kernel
theorem dX12_turns_2 : decode cX12_turns 2 = .ok (.bipush 9, 2) := by decide +kernel
theorem dX12_turns_4 : decode cX12_turns 4 = .ok (.invokevirtual 37, 3) := by decide +kernel
theorem dX12_turns_7 : decode cX12_turns 7 = .ok (.iconst 1, 1) := by decide +kernel
theorem dX12_turns_8 : decode cX12_turns 8 = .ok (.if_icmp .ne 11, 3) := by decide +kernel
theorem dX12_turns_11 : decode cX12_turns 11 = .ok (.aload_n 0, 1) := by decide +kernel
theorem dX12_turns_12 : decode cX12_turns 12 = .ok (.iload_n 1, 1) := by decide +kernel
theorem dX12_turns_13 : decode cX12_turns 13 = .ok (.invokevirtual 206, 3) := by decide +kernel
theorem dX12_turns_16 : decode cX12_turns 16 = .ok (.goto 97, 3) := by decide +kernel
theorem dX12_turns_19 : decode cX12_turns 19 = .ok (.aload_n 0, 1) := by decide +kernel
theorem dX12_turns_20 : decode cX12_turns 20 = .ok (.iload_n 1, 1) := by decide +kernel
theorem dX12_turns_21 : decode cX12_turns 21 = .ok (.bipush 6, 2) := by decide +kernel
theorem dX12_turns_23 : decode cX12_turns 23 = .ok (.invokevirtual 37, 3) := by decide +kernel
theorem dX12_turns_26 : decode cX12_turns 26 = .ok (.ifCond .le 20, 3) := by decide +kernel
theorem dX12_turns_29 : decode cX12_turns 29 = .ok (.aload_n 0, 1) := by decide +kernel
theorem dX12_turns_30 : decode cX12_turns 30 = .ok (.iload_n 1, 1) := by decide +kernel
theorem dX12_turns_31 : decode cX12_turns 31 = .ok (.iconst 3, 1) := by decide +kernel
theorem dX12_turns_32 : decode cX12_turns 32 = .ok (.invokevirtual 37, 3) := by decide +kernel
theorem dX12_turns_35 : decode cX12_turns 35 = .ok (.ifCond .le 11, 3) := by decide +kernel
theorem dX12_turns_38 : decode cX12_turns 38 = .ok (.aload_n 0, 1) := by decide +kernel
theorem dX12_turns_39 : decode cX12_turns 39 = .ok (.iload_n 1, 1) := by decide +kernel
theorem dX12_turns_40 : decode cX12_turns 40 = .ok (.invokevirtual 209, 3) := by decide +kernel
theorem dX12_turns_43 : decode cX12_turns 43 = .ok (.goto 70, 3) := by decide +kernel
theorem dX12_turns_46 : decode cX12_turns 46 = .ok (.aload_n 0, 1) := by decide +kernel
theorem dX12_turns_47 : decode cX12_turns 47 = .ok (.iload_n 1, 1) := by decide +kernel
theorem dX12_turns_48 : decode cX12_turns 48 = .ok (.bipush 6, 2) := by decide +kernel
theorem dX12_turns_50 : decode cX12_turns 50 = .ok (.invokevirtual 37, 3) := by decide +kernel
theorem dX12_turns_53 : decode cX12_turns 53 = .ok (.ifCond .le 29, 3) := by decide +kernel
theorem dX12_turns_56 : decode cX12_turns 56 = .ok (.aload_n 0, 1) := by decide +kernel
theorem dX12_turns_57 : decode cX12_turns 57 = .ok (.iload_n 1, 1) := by decide +kernel
theorem dX12_turns_58 : decode cX12_turns 58 = .ok (.aload_n 0, 1) := by decide +kernel
theorem dX12_turns_59 : decode cX12_turns 59 = .ok (.iload_n 1, 1) := by decide +kernel
theorem dX12_turns_60 : decode cX12_turns 60 = .ok (.bipush 6, 2) := by decide +kernel
theorem dX12_turns_62 : decode cX12_turns 62 = .ok (.invokevirtual 37, 3) := by decide +kernel
theorem dX12_turns_65 : decode cX12_turns 65 = .ok (.iconst 1, 1) := by decide +kernel
theorem dX12_turns_66 : decode cX12_turns 66 = .ok (.if_icmp .ne 8, 3) := by decide +kernel
theorem dX12_turns_69 : decode cX12_turns 69 = .ok (.bipush 8, 2) := by decide +kernel
theorem dX12_turns_71 : decode cX12_turns 71 = .ok (.goto 5, 3) := by decide +kernel
theorem dX12_turns_74 : decode cX12_turns 74 = .ok (.bipush 7, 2) := by decide +kernel
theorem dX12_turns_76 : decode cX12_turns 76 = .ok (.invokevirtual 212, 3) := by decide +kernel
theorem dX12_turns_79 : decode cX12_turns 79 = .ok (.goto 34, 3) := by decide +kernel
theorem dX12_turns_82 : decode cX12_turns 82 = .ok (.aload_n 0, 1) := by decide +kernel
theorem dX12_turns_83 : decode cX12_turns 83 = .ok (.iload_n 1, 1) := by decide +kernel
theorem dX12_turns_84 : decode cX12_turns 84 = .ok (.iconst 2, 1) := by decide +kernel
theorem dX12_turns_85 : decode cX12_turns 85 = .ok (.invokevirtual 37, 3) := by decide +kernel
theorem dX12_turns_88 : decode cX12_turns 88 = .ok (.aload_n 0, 1) := by decide +kernel
theorem dX12_turns_89 : decode cX12_turns 89 = .ok (.iload_n 1, 1) := by decide +kernel
theorem dX12_turns_90 : decode cX12_turns 90 = .ok (.bipush 20, 2) := by decide +kernel
theorem dX12_turns_92 : decode cX12_turns 92 = .ok (.invokevirtual 37, 3) := by decide +kernel
theorem dX12_turns_95 : decode cX12_turns 95 = .ok (.if_icmp .lt 13, 3) := by decide +kernel
theorem dX12_turns_98 : decode cX12_turns 98 = .ok (.aload_n 0, 1) := by decide +kernel
theorem dX12_turns_99 : decode cX12_turns 99 = .ok (.iload_n 1, 1) := by decide +kernel
theorem dX12_turns_100 : decode cX12_turns 100 = .ok (.bipush 6, 2) := by decide +kernel
theorem dX12_turns_102 : decode cX12_turns 102 = .ok (.invokevirtual 212, 3) := by decide +kernel
theorem dX12_turns_105 : decode cX12_turns 105 = .ok (.goto 8, 3) := by decide +kernel
theorem dX12_turns_108 : decode cX12_turns 108 = .ok (.aload_n 0, 1) := by decide +kernel
theorem dX12_turns_109 : decode cX12_turns 109 = .ok (.iload_n 1, 1) := by decide +kernel
theorem dX12_turns_110 : decode cX12_turns 110 = .ok (.invokevirtual 215, 3) := by decide +kernel
theorem dX12_turns_113 : decode cX12_turns 113 = .ok (.aload_n 0, 1) := by decide +kernel
theorem dX12_turns_114 : decode cX12_turns 114 = .ok (.iload_n 1, 1) := by decide +kernel
theorem dX12_turns_115 : decode cX12_turns 115 = .ok (.iconst 0, 1) := by decide +kernel
theorem dX12_turns_116 : decode cX12_turns 116 = .ok (.invokevirtual 37, 3) := by decide +kernel
theorem dX12_turns_119 : decode cX12_turns 119 = .ok (.ifCond .ne 8, 3) := by decide +kernel
theorem dX12_turns_122 : decode cX12_turns 122 = .ok (.aload_n 0, 1) := by decide +kernel
theorem dX12_turns_123 : decode cX12_turns 123 = .ok (.iload_n 1, 1) := by decide +kernel
theorem dX12_turns_124 : decode cX12_turns 124 = .ok (.invokevirtual 113, 3) := by decide +kernel
theorem dX12_turns_127 : decode cX12_turns 127 = .ok (.return_, 1) := by decide +kernel
set_option maxRecDepth 20000 in
theorem ggX12_isDue_X12_scope : GoodIn wsX12_isDue wsX12_scope := goodIn_r _ [5] (by decide +kernel) (by decide +kernel)
set_option maxRecDepth 20000 in
theorem gX12_isDue_X12_scope : GoodIn wsX12_isDue (va_wsS RX12 127 yX12_scope wsX12_scope) := goodIn_app (goodIn_of _ (by decide +kernel)) ggX12_isDue_X12_scope
theorem dX12_isDue_0 : decode cX12_isDue 0 = .ok (.aload_n 0, 1) := by decide +kernel
theorem dX12_isDue_1 : decode cX12_isDue 1 = .ok (.getfield 9, 3) := by decide +kernel
theorem dX12_isDue_4 : decode cX12_isDue 4 = .ok (.iload_n 1, 1) := by decide +kernel
theorem dX12_isDue_5 : decode cX12_isDue 5 = .ok (.invokestatic 127, 3) := by decide +kernel
theorem dX12_isDue_8 : decode cX12_isDue 8 = .ok (.iconst 3, 1) := by decide +kernel
theorem dX12_isDue_9 : decode cX12_isDue 9 = .ok (.iadd, 1) := by decide +kernel
theorem dX12_isDue_10 : decode cX12_isDue 10 = .ok (.iaload, 1) := by decide +kernel
theorem dX12_isDue_11 : decode cX12_isDue 11 = .ok (.iconst 2, 1) := by decide +kernel
theorem dX12_isDue_12 : decode cX12_isDue 12 = .ok (.if_icmp .ge 44, 3) := by decide +kernel
theorem dX12_isDue_15 : decode cX12_isDue 15 = .ok (.aload_n 0, 1) := by decide +kernel
theorem dX12_isDue_16 : decode cX12_isDue 16 = .ok (.getfield 9, 3) := by decide +kernel
theorem dX12_isDue_19 : decode cX12_isDue 19 = .ok (.iload_n 1, 1) := by decide +kernel
theorem dX12_isDue_20 : decode cX12_isDue 20 = .ok (.invokestatic 127, 3) := by decide +kernel
theorem dX12_isDue_23 : decode cX12_isDue 23 = .ok (.iconst 2, 1) := by decide +kernel
theorem dX12_isDue_24 : decode cX12_isDue 24 = .ok (.iadd, 1) := by decide +kernel
theorem dX12_isDue_25 : decode cX12_isDue 25 = .ok (.iaload, 1) := by decide +kernel
theorem dX12_isDue_26 : decode cX12_isDue 26 = .ok (.iconst 1, 1) := by decide +kernel
theorem dX12_isDue_27 : decode cX12_isDue 27 = .ok (.if_icmp .ne 29, 3) := by decide +kernel
theorem dX12_isDue_30 : decode cX12_isDue 30 = .ok (.aload_n 0, 1) := by decide +kernel
theorem dX12_isDue_31 : decode cX12_isDue 31 = .ok (.getfield 9, 3) := by decide +kernel
theorem dX12_isDue_34 : decode cX12_isDue 34 = .ok (.iload_n 1, 1) := by decide +kernel
theorem dX12_isDue_35 : decode cX12_isDue 35 = .ok (.invokestatic 127, 3) := by decide +kernel
theorem dX12_isDue_38 : decode cX12_isDue 38 = .ok (.iconst 4, 1) := by decide +kernel
theorem dX12_isDue_39 : decode cX12_isDue 39 = .ok (.iadd, 1) := by decide +kernel
theorem dX12_isDue_40 : decode cX12_isDue 40 = .ok (.iaload, 1) := by decide +kernel
theorem dX12_isDue_41 : decode cX12_isDue 41 = .ok (.aload_n 0, 1) := by decide +kernel
theorem dX12_isDue_42 : decode cX12_isDue 42 = .ok (.getfield 9, 3) := by decide +kernel
theorem dX12_isDue_45 : decode cX12_isDue 45 = .ok (.sipush 175, 3) := by decide +kernel
theorem dX12_isDue_48 : decode cX12_isDue 48 = .ok (.iaload, 1) := by decide +kernel
theorem dX12_isDue_49 : decode cX12_isDue 49 = .ok (.if_icmp .le 7, 3) := by decide +kernel
theorem dX12_isDue_52 : decode cX12_isDue 52 = .ok (.iconst 1, 1) := by decide +kernel
theorem dX12_isDue_53 : decode cX12_isDue 53 = .ok (.goto 4, 3) := by decide +kernel
theorem dX12_isDue_56 : decode cX12_isDue 56 = .ok (.iconst 0, 1) := by decide +kernel
theorem dX12_isDue_57 : decode cX12_isDue 57 = .ok (.ireturn, 1) := by decide +kernel
set_option maxRecDepth 20000 in
theorem ggX12_nextTime_X12_of : GoodIn wsX12_nextTime wsX12_of := goodIn_r _ [6, 1, 7, 8, 5, 9, 17, 18, 19, 20, 21, 22, 23, 24, 25, 26, 27] (by decide +kernel) (by decide +kernel)
set_option maxRecDepth 20000 in
theorem gX12_nextTime_X12_of : GoodIn wsX12_nextTime (wsV RX12 37 RX12 yX12_of wsX12_of) := goodIn_app (goodIn_of _ (by decide +kernel)) ggX12_nextTime_X12_of
set_option maxRecDepth 20000 in
theorem ggX12_nextTime_X12_isDue : GoodIn wsX12_nextTime wsX12_isDue := goodIn_r _ [13, 1, 14, 15, 5, 16, 17, 18, 19, 20, 21, 22, 23, 24, 25, 26, 27] (by decide +kernel) (by decide +kernel)
set_option maxRecDepth 20000 in
theorem gX12_nextTime_X12_isDue : GoodIn wsX12_nextTime (wsV RX12 218 RX12 yX12_isDue wsX12_isDue) := goodIn_app (goodIn_of _ (by decide +kernel)) ggX12_nextTime_X12_isDue
set_option maxRecDepth 20000 in
theorem ggX12_nextTime_X12_scope : GoodIn wsX12_nextTime wsX12_scope := goodIn_r _ [16] (by decide +kernel) (by decide +kernel)
set_option maxRecDepth 20000 in
theorem gX12_nextTime_X12_scope : GoodIn wsX12_nextTime (va_wsS RX12 127 yX12_scope wsX12_scope) := goodIn_app (goodIn_of _ (by decide +kernel)) ggX12_nextTime_X12_scope
theorem dX12_nextTime_0 : decode cX12_nextTime 0 = .ok (.iconst (-1), 1) := by decide +kernel
theorem dX12_nextTime_1 : decode cX12_nextTime 1 = .ok (.istore_n 1, 1) := by decide +kernel
theorem dX12_nextTime_2 : decode cX12_nextTime 2 = .ok (.iconst 0, 1) := by decide +kernel
theorem dX12_nextTime_3 : decode cX12_nextTime 3 = .ok (.istore_n 2, 1) := by decide +kernel
theorem dX12_nextTime_4 : decode cX12_nextTime 4 = .ok (.iload_n 2, 1) := by decide +kernel
theorem dX12_nextTime_5 : decode cX12_nextTime 5 = .ok (.aload_n 0, 1) := by decide +kernel
theorem dX12_nextTime_6 : decode cX12_nextTime 6 = .ok (.getfield 9, 3) := by decide +kernel
theorem dX12_nextTime_9 : decode cX12_nextTime 9 = .ok (.sipush 170, 3) := by decide +kernel
theorem dX12_nextTime_12 : decode cX12_nextTime 12 = .ok (.iaload, 1) := by decide +kernel
theorem dX12_nextTime_13 : decode cX12_nextTime 13 = .ok (.if_icmp .ge 42, 3) := by decide +kernel
theorem dX12_nextTime_16 : decode cX12_nextTime 16 = .ok (.aload_n 0, 1) := by decide +kernel
theorem dX12_nextTime_17 : decode cX12_nextTime 17 = .ok (.iload_n 2, 1) := by decide +kernel
theorem dX12_nextTime_18 : decode cX12_nextTime 18 = .ok (.iconst 0, 1) := by decide +kernel
theorem dX12_nextTime_19 : decode cX12_nextTime 19 = .ok (.invokevirtual 37, 3) := by decide +kernel
theorem dX12_nextTime_22 : decode cX12_nextTime 22 = .ok (.iconst 1, 1) := by decide +kernel
theorem dX12_nextTime_23 : decode cX12_nextTime 23 = .ok (.if_icmp .ne 26, 3) := by decide +kernel
theorem dX12_nextTime_26 : decode cX12_nextTime 26 = .ok (.iload_n 1, 1) := by decide +kernel
theorem dX12_nextTime_27 : decode cX12_nextTime 27 = .ok (.ifCond .lt 14, 3) := by decide +kernel
theorem dX12_nextTime_30 : decode cX12_nextTime 30 = .ok (.aload_n 0, 1) := by decide +kernel
theorem dX12_nextTime_31 : decode cX12_nextTime 31 = .ok (.iload_n 2, 1) := by decide +kernel
theorem dX12_nextTime_32 : decode cX12_nextTime 32 = .ok (.bipush 11, 2) := by decide +kernel
theorem dX12_nextTime_34 : decode cX12_nextTime 34 = .ok (.invokevirtual 37, 3) := by decide +kernel
theorem dX12_nextTime_37 : decode cX12_nextTime 37 = .ok (.iload_n 1, 1) := by decide +kernel
theorem dX12_nextTime_38 : decode cX12_nextTime 38 = .ok (.if_icmp .ge 11, 3) := by decide +kernel
theorem dX12_nextTime_41 : decode cX12_nextTime 41 = .ok (.aload_n 0, 1) := by decide +kernel
theorem dX12_nextTime_42 : decode cX12_nextTime 42 = .ok (.iload_n 2, 1) := by decide +kernel
theorem dX12_nextTime_43 : decode cX12_nextTime 43 = .ok (.bipush 11, 2) := by decide +kernel
theorem dX12_nextTime_45 : decode cX12_nextTime 45 = .ok (.invokevirtual 37, 3) := by decide +kernel
theorem dX12_nextTime_48 : decode cX12_nextTime 48 = .ok (.istore_n 1, 1) := by decide +kernel
theorem dX12_nextTime_49 : decode cX12_nextTime 49 = .ok (.iinc 2 1, 3) := by decide +kernel
theorem dX12_nextTime_52 : decode cX12_nextTime 52 = .ok (.goto (-48), 3) := by decide +kernel
theorem dX12_nextTime_55 : decode cX12_nextTime 55 = .ok (.iconst 0, 1) := by decide +kernel
theorem dX12_nextTime_56 : decode cX12_nextTime 56 = .ok (.istore_n 2, 1) := by decide +kernel
theorem dX12_nextTime_57 : decode cX12_nextTime 57 = .ok (.iload_n 2, 1) := by decide +kernel
theorem dX12_nextTime_58 : decode cX12_nextTime 58 = .ok (.aload_n 0, 1) := by decide +kernel
theorem dX12_nextTime_59 : decode cX12_nextTime 59 = .ok (.getfield 9, 3) := by decide +kernel
theorem dX12_nextTime_62 : decode cX12_nextTime 62 = .ok (.sipush 171, 3) := by decide +kernel
theorem dX12_nextTime_65 : decode cX12_nextTime 65 = .ok (.iaload, 1) := by decide +kernel
theorem dX12_nextTime_66 : decode cX12_nextTime 66 = .ok (.if_icmp .ge 48, 3) := by decide +kernel
theorem dX12_nextTime_69 : decode cX12_nextTime 69 = .ok (.aload_n 0, 1) := by decide +kernel
theorem dX12_nextTime_70 : decode cX12_nextTime 70 = .ok (.iload_n 2, 1) := by decide +kernel
theorem dX12_nextTime_71 : decode cX12_nextTime 71 = .ok (.invokevirtual 218, 3) := by decide +kernel
theorem dX12_nextTime_74 : decode cX12_nextTime 74 = .ok (.ifCond .eq 34, 3) := by decide +kernel
theorem dX12_nextTime_77 : decode cX12_nextTime 77 = .ok (.iload_n 1, 1) := by decide +kernel
theorem dX12_nextTime_78 : decode cX12_nextTime 78 = .ok (.ifCond .lt 18, 3) := by decide +kernel
theorem dX12_nextTime_81 : decode cX12_nextTime 81 = .ok (.aload_n 0, 1) := by decide +kernel
theorem dX12_nextTime_82 : decode cX12_nextTime 82 = .ok (.getfield 9, 3) := by decide +kernel
theorem dX12_nextTime_85 : decode cX12_nextTime 85 = .ok (.iload_n 2, 1) := by decide +kernel
theorem dX12_nextTime_86 : decode cX12_nextTime 86 = .ok (.invokestatic 127, 3) := by decide +kernel
theorem dX12_nextTime_89 : decode cX12_nextTime 89 = .ok (.iconst 4, 1) := by decide +kernel
theorem dX12_nextTime_90 : decode cX12_nextTime 90 = .ok (.iadd, 1) := by decide +kernel
theorem dX12_nextTime_91 : decode cX12_nextTime 91 = .ok (.iaload, 1) := by decide +kernel
theorem dX12_nextTime_92 : decode cX12_nextTime 92 = .ok (.iload_n 1, 1) := by decide +kernel
theorem dX12_nextTime_93 : decode cX12_nextTime 93 = .ok (.if_icmp .ge 15, 3) := by decide +kernel
theorem dX12_nextTime_96 : decode cX12_nextTime 96 = .ok (.aload_n 0, 1) := by decide +kernel
theorem dX12_nextTime_97 : decode cX12_nextTime 97 = .ok (.getfield 9, 3) := by decide +kernel
theorem dX12_nextTime_100 : decode cX12_nextTime 100 = .ok (.iload_n 2, 1) := by decide +kernel
theorem dX12_nextTime_101 : decode cX12_nextTime 101 = .ok (.invokestatic 127, 3) := by decide +kernel
theorem dX12_nextTime_104 : decode cX12_nextTime 104 = .ok (.iconst 4, 1) := by decide +kernel
theorem dX12_nextTime_105 : decode cX12_nextTime 105 = .ok (.iadd, 1) := by decide +kernel
theorem dX12_nextTime_106 : decode cX12_nextTime 106 = .ok (.iaload, 1) := by decide +kernel
theorem dX12_nextTime_107 : decode cX12_nextTime 107 = .ok (.istore_n 1, 1) := by decide +kernel
theorem dX12_nextTime_108 : decode cX12_nextTime 108 = .ok (.iinc 2 1, 3) := by decide +kernel
theorem dX12_nextTime_111 : decode cX12_nextTime 111 = .ok (.goto (-54), 3) := by decide +kernel
theorem dX12_nextTime_114 : decode cX12_nextTime 114 = .ok (.iload_n 1, 1) := by decide +kernel
theorem dX12_nextTime_115 : decode cX12_nextTime 115 = .ok (.ireturn, 1) := by decide +kernel
set_option maxRecDepth 20000 in
theorem ggX12_passes_X12_of : GoodIn wsX12_passes wsX12_of := goodIn_r _ [6, 1, 7, 8, 5, 9, 33, 34, 35, 36, 37, 38, 39, 40, 41, 42, 43] (by decide +kernel) (by decide +kernel)
set_option maxRecDepth 20000 in
theorem gX12_passes_X12_of : GoodIn wsX12_passes (wsV RX12 37 RX12 yX12_of wsX12_of) := goodIn_app (goodIn_of _ (by decide +kernel)) ggX12_passes_X12_of
set_option maxRecDepth 20000 in
theorem ggX12_passes_X12_readies : GoodIn wsX12_passes wsX12_readies := goodIn_r _ [13, 14, 15, 16, 5, 17, 1, 7, 8, 9, 18, 19, 20, 21, 33, 34, 35, 36, 37, 38, 39, 40, 41, 42, 43] (by decide +kernel) (by decide +kernel)
set_option maxRecDepth 20000 in
theorem gX12_passes_X12_readies : GoodIn wsX12_passes (wsV RX12 121 RX12 yX12_readies wsX12_readies) := goodIn_app (goodIn_of _ (by decide +kernel)) ggX12_passes_X12_readies
set_option maxRecDepth 20000 in
theorem ggX12_passes_X12_scope : GoodIn wsX12_passes wsX12_scope := goodIn_r _ [24] (by decide +kernel) (by decide +kernel)
set_option maxRecDepth 20000 in
theorem gX12_passes_X12_scope : GoodIn wsX12_passes (va_wsS RX12 127 yX12_scope wsX12_scope) := goodIn_app (goodIn_of _ (by decide +kernel)) ggX12_passes_X12_scope
set_option maxRecDepth 20000 in
theorem ggX12_passes_X12_interrupts : GoodIn wsX12_passes wsX12_interrupts := goodIn_r _ [28, 1, 29, 30, 31, 5, 32, 2, 3, 4, 6, 7, 8, 9, 14, 15, 16, 17, 10, 11, 12, 13, 18, 19, 20, 21, 33, 34, 35, 36, 37, 38, 39, 40, 41, 42, 43] (by decide +kernel) (by decide +kernel)
set_option maxRecDepth 20000 in
theorem gX12_passes_X12_interrupts : GoodIn wsX12_passes (wsV RX12 130 RX12 yX12_interrupts wsX12_interrupts) := goodIn_app (goodIn_of _ (by decide +kernel)) ggX12_passes_X12_interrupts
theorem dX12_passes_0 : decode cX12_passes 0 = .ok (.aload_n 0, 1) := by decide +kernel
theorem dX12_passes_1 : decode cX12_passes 1 = .ok (.getfield 9, 3) := by decide +kernel
theorem dX12_passes_4 : decode cX12_passes 4 = .ok (.sipush 177, 3) := by decide +kernel
theorem dX12_passes_7 : decode cX12_passes 7 = .ok (.dup2, 1) := by decide +kernel
theorem dX12_passes_8 : decode cX12_passes 8 = .ok (.iaload, 1) := by decide +kernel
theorem dX12_passes_9 : decode cX12_passes 9 = .ok (.iconst 1, 1) := by decide +kernel
theorem dX12_passes_10 : decode cX12_passes 10 = .ok (.iadd, 1) := by decide +kernel
theorem dX12_passes_11 : decode cX12_passes 11 = .ok (.iastore, 1) := by decide +kernel
theorem dX12_passes_12 : decode cX12_passes 12 = .ok (.aload_n 0, 1) := by decide +kernel
theorem dX12_passes_13 : decode cX12_passes 13 = .ok (.getfield 9, 3) := by decide +kernel
theorem dX12_passes_16 : decode cX12_passes 16 = .ok (.sipush 175, 3) := by decide +kernel
theorem dX12_passes_19 : decode cX12_passes 19 = .ok (.iload_n 1, 1) := by decide +kernel
theorem dX12_passes_20 : decode cX12_passes 20 = .ok (.iastore, 1) := by decide +kernel
theorem dX12_passes_21 : decode cX12_passes 21 = .ok (.iconst 0, 1) := by decide +kernel
theorem dX12_passes_22 : decode cX12_passes 22 = .ok (.istore_n 2, 1) := by decide +kernel
theorem dX12_passes_23 : decode cX12_passes 23 = .ok (.iload_n 2, 1) := by decide +kernel
theorem dX12_passes_24 : decode cX12_passes 24 = .ok (.aload_n 0, 1) := by decide +kernel
theorem dX12_passes_25 : decode cX12_passes 25 = .ok (.getfield 9, 3) := by decide +kernel
theorem dX12_passes_28 : decode cX12_passes 28 = .ok (.sipush 170, 3) := by decide +kernel
theorem dX12_passes_31 : decode cX12_passes 31 = .ok (.iaload, 1) := by decide +kernel
theorem dX12_passes_32 : decode cX12_passes 32 = .ok (.if_icmp .ge 35, 3) := by decide +kernel
theorem dX12_passes_35 : decode cX12_passes 35 = .ok (.aload_n 0, 1) := by decide +kernel
theorem dX12_passes_36 : decode cX12_passes 36 = .ok (.iload_n 2, 1) := by decide +kernel
theorem dX12_passes_37 : decode cX12_passes 37 = .ok (.iconst 0, 1) := by decide +kernel
theorem dX12_passes_38 : decode cX12_passes 38 = .ok (.invokevirtual 37, 3) := by decide +kernel
theorem dX12_passes_41 : decode cX12_passes 41 = .ok (.iconst 1, 1) := by decide +kernel
theorem dX12_passes_42 : decode cX12_passes 42 = .ok (.if_icmp .ne 19, 3) := by decide +kernel
theorem dX12_passes_45 : decode cX12_passes 45 = .ok (.aload_n 0, 1) := by decide +kernel
theorem dX12_passes_46 : decode cX12_passes 46 = .ok (.iload_n 2, 1) := by decide +kernel
theorem dX12_passes_47 : decode cX12_passes 47 = .ok (.bipush 11, 2) := by decide +kernel
theorem dX12_passes_49 : decode cX12_passes 49 = .ok (.invokevirtual 37, 3) := by decide +kernel
theorem dX12_passes_52 : decode cX12_passes 52 = .ok (.iload_n 1, 1) := by decide +kernel
theorem dX12_passes_53 : decode cX12_passes 53 = .ok (.if_icmp .ne 8, 3) := by decide +kernel
theorem dX12_passes_56 : decode cX12_passes 56 = .ok (.aload_n 0, 1) := by decide +kernel
theorem dX12_passes_57 : decode cX12_passes 57 = .ok (.iload_n 2, 1) := by decide +kernel
theorem dX12_passes_58 : decode cX12_passes 58 = .ok (.invokevirtual 121, 3) := by decide +kernel
theorem dX12_passes_61 : decode cX12_passes 61 = .ok (.iinc 2 1, 3) := by decide +kernel
theorem dX12_passes_64 : decode cX12_passes 64 = .ok (.goto (-41), 3) := by decide +kernel
theorem dX12_passes_67 : decode cX12_passes 67 = .ok (.iconst 0, 1) := by decide +kernel
theorem dX12_passes_68 : decode cX12_passes 68 = .ok (.istore_n 2, 1) := by decide +kernel
theorem dX12_passes_69 : decode cX12_passes 69 = .ok (.iload_n 2, 1) := by decide +kernel
theorem dX12_passes_70 : decode cX12_passes 70 = .ok (.aload_n 0, 1) := by decide +kernel
theorem dX12_passes_71 : decode cX12_passes 71 = .ok (.getfield 9, 3) := by decide +kernel
theorem dX12_passes_74 : decode cX12_passes 74 = .ok (.sipush 171, 3) := by decide +kernel
theorem dX12_passes_77 : decode cX12_passes 77 = .ok (.iaload, 1) := by decide +kernel
theorem dX12_passes_78 : decode cX12_passes 78 = .ok (.if_icmp .ge 98, 3) := by decide +kernel
theorem dX12_passes_81 : decode cX12_passes 81 = .ok (.iload_n 2, 1) := by decide +kernel
theorem dX12_passes_82 : decode cX12_passes 82 = .ok (.invokestatic 127, 3) := by decide +kernel
theorem dX12_passes_85 : decode cX12_passes 85 = .ok (.istore_n 3, 1) := by decide +kernel
theorem dX12_passes_86 : decode cX12_passes 86 = .ok (.aload_n 0, 1) := by decide +kernel
theorem dX12_passes_87 : decode cX12_passes 87 = .ok (.getfield 9, 3) := by decide +kernel
theorem dX12_passes_90 : decode cX12_passes 90 = .ok (.iload_n 3, 1) := by decide +kernel
theorem dX12_passes_91 : decode cX12_passes 91 = .ok (.iconst 3, 1) := by decide +kernel
theorem dX12_passes_92 : decode cX12_passes 92 = .ok (.iadd, 1) := by decide +kernel
theorem dX12_passes_93 : decode cX12_passes 93 = .ok (.iaload, 1) := by decide +kernel
theorem dX12_passes_94 : decode cX12_passes 94 = .ok (.iconst 2, 1) := by decide +kernel
theorem dX12_passes_95 : decode cX12_passes 95 = .ok (.if_icmp .eq 75, 3) := by decide +kernel
theorem dX12_passes_98 : decode cX12_passes 98 = .ok (.aload_n 0, 1) := by decide +kernel
theorem dX12_passes_99 : decode cX12_passes 99 = .ok (.getfield 9, 3) := by decide +kernel
theorem dX12_passes_102 : decode cX12_passes 102 = .ok (.iload_n 3, 1) := by decide +kernel
theorem dX12_passes_103 : decode cX12_passes 103 = .ok (.iconst 2, 1) := by decide +kernel
theorem dX12_passes_104 : decode cX12_passes 104 = .ok (.iadd, 1) := by decide +kernel
theorem dX12_passes_105 : decode cX12_passes 105 = .ok (.iaload, 1) := by decide +kernel
theorem dX12_passes_106 : decode cX12_passes 106 = .ok (.iconst 1, 1) := by decide +kernel
theorem dX12_passes_107 : decode cX12_passes 107 = .ok (.if_icmp .ne 63, 3) := by decide +kernel
theorem dX12_passes_110 : decode cX12_passes 110 = .ok (.aload_n 0, 1) := by decide +kernel
theorem dX12_passes_111 : decode cX12_passes 111 = .ok (.getfield 9, 3) := by decide +kernel
theorem dX12_passes_114 : decode cX12_passes 114 = .ok (.iload_n 3, 1) := by decide +kernel
theorem dX12_passes_115 : decode cX12_passes 115 = .ok (.iconst 4, 1) := by decide +kernel
theorem dX12_passes_116 : decode cX12_passes 116 = .ok (.iadd, 1) := by decide +kernel
theorem dX12_passes_117 : decode cX12_passes 117 = .ok (.iaload, 1) := by decide +kernel
theorem dX12_passes_118 : decode cX12_passes 118 = .ok (.iload_n 1, 1) := by decide +kernel
theorem dX12_passes_119 : decode cX12_passes 119 = .ok (.if_icmp .eq 6, 3) := by decide +kernel
theorem dX12_passes_122 : decode cX12_passes 122 = .ok (.goto 48, 3) := by decide +kernel
theorem dX12_passes_125 : decode cX12_passes 125 = .ok (.aload_n 0, 1) := by decide +kernel
theorem dX12_passes_126 : decode cX12_passes 126 = .ok (.getfield 9, 3) := by decide +kernel
theorem dX12_passes_129 : decode cX12_passes 129 = .ok (.sipush 181, 3) := by decide +kernel
theorem dX12_passes_132 : decode cX12_passes 132 = .ok (.dup2, 1) := by decide +kernel
theorem dX12_passes_133 : decode cX12_passes 133 = .ok (.iaload, 1) := by decide +kernel
theorem dX12_passes_134 : decode cX12_passes 134 = .ok (.iconst 1, 1) := by decide +kernel
theorem dX12_passes_135 : decode cX12_passes 135 = .ok (.iadd, 1) := by decide +kernel
theorem dX12_passes_136 : decode cX12_passes 136 = .ok (.iastore, 1) := by decide +kernel
theorem dX12_passes_137 : decode cX12_passes 137 = .ok (.aload_n 0, 1) := by decide +kernel
theorem dX12_passes_138 : decode cX12_passes 138 = .ok (.getfield 9, 3) := by decide +kernel
theorem dX12_passes_141 : decode cX12_passes 141 = .ok (.iload_n 3, 1) := by decide +kernel
theorem dX12_passes_142 : decode cX12_passes 142 = .ok (.iconst 3, 1) := by decide +kernel
theorem dX12_passes_143 : decode cX12_passes 143 = .ok (.iadd, 1) := by decide +kernel
theorem dX12_passes_144 : decode cX12_passes 144 = .ok (.iaload, 1) := by decide +kernel
theorem dX12_passes_145 : decode cX12_passes 145 = .ok (.ifCond .ne 25, 3) := by decide +kernel
theorem dX12_passes_148 : decode cX12_passes 148 = .ok (.aload_n 0, 1) := by decide +kernel
theorem dX12_passes_149 : decode cX12_passes 149 = .ok (.aload_n 0, 1) := by decide +kernel
theorem dX12_passes_150 : decode cX12_passes 150 = .ok (.getfield 9, 3) := by decide +kernel
theorem dX12_passes_153 : decode cX12_passes 153 = .ok (.iload_n 3, 1) := by decide +kernel
theorem dX12_passes_154 : decode cX12_passes 154 = .ok (.iconst 0, 1) := by decide +kernel
theorem dX12_passes_155 : decode cX12_passes 155 = .ok (.iadd, 1) := by decide +kernel
theorem dX12_passes_156 : decode cX12_passes 156 = .ok (.iaload, 1) := by decide +kernel
theorem dX12_passes_157 : decode cX12_passes 157 = .ok (.iconst 2, 1) := by decide +kernel
theorem dX12_passes_158 : decode cX12_passes 158 = .ok (.aload_n 0, 1) := by decide +kernel
theorem dX12_passes_159 : decode cX12_passes 159 = .ok (.getfield 9, 3) := by decide +kernel
theorem dX12_passes_162 : decode cX12_passes 162 = .ok (.iload_n 3, 1) := by decide +kernel
theorem dX12_passes_163 : decode cX12_passes 163 = .ok (.iconst 1, 1) := by decide +kernel
theorem dX12_passes_164 : decode cX12_passes 164 = .ok (.iadd, 1) := by decide +kernel
theorem dX12_passes_165 : decode cX12_passes 165 = .ok (.iaload, 1) := by decide +kernel
theorem dX12_passes_166 : decode cX12_passes 166 = .ok (.iconst (-1), 1) := by decide +kernel
theorem dX12_passes_167 : decode cX12_passes 167 = .ok (.invokevirtual 130, 3) := by decide +kernel
theorem dX12_passes_170 : decode cX12_passes 170 = .ok (.iinc 2 1, 3) := by decide +kernel
theorem dX12_passes_173 : decode cX12_passes 173 = .ok (.goto (-104), 3) := by decide +kernel
theorem dX12_passes_176 : decode cX12_passes 176 = .ok (.return_, 1) := by decide +kernel
set_option maxRecDepth 20000 in
theorem ggX12_turns__X12_turns : GoodIn wsX12_turns_ wsX12_turns := goodIn_r _ [6, 7, 8, 9, 5, 10, 1, 11, 12, 13, 14, 15, 16, 17, 18, 19, 20, 21, 22, 23, 24, 25, 26, 27, 28, 29, 30, 31, 32, 33, 34, 35, 36, 37, 38, 39, 40, 41, 42, 43, 44, 45, 46, 47, 48, 49, 50, 51, 52, 53, 54, 55, 56, 57, 58, 59, 60, 61, 62, 63, 64, 65, 66, 67, 68, 69, 70, 71, 72, 73, 74, 75, 76, 77, 78, 79, 80, 81, 82, 83, 84, 85, 86, 87, 88, 89, 90, 91, 92, 93, 94, 95, 96, 97, 98, 99, 100, 101, 102, 103, 104, 105, 106, 107, 108, 109, 110, 111, 112, 113, 114, 115, 116, 117, 118, 119, 120, 121, 122, 123, 124, 125, 126, 127, 128, 129, 130, 131, 132, 133, 134, 135, 136, 137, 138, 139, 140, 141, 142, 143, 144, 145, 146, 147, 148, 149, 150, 151, 152, 153, 154, 155, 156, 157, 158, 159, 160, 161, 162, 163, 164, 165, 166, 167, 168, 169, 170, 171, 172, 173, 174, 175, 176, 177, 178, 179, 180, 181, 182, 183, 184, 185, 186, 187, 188, 189, 190, 191, 192, 193, 194, 195, 196, 197, 198, 199, 200, 201, 202, 203, 204, 205, 206, 207, 208, 209, 210, 211, 212, 213, 214, 215, 216, 217, 218, 219, 220, 221, 222, 223, 224, 225, 226, 227, 228, 229, 230, 231, 232, 233, 234, 235, 236, 237, 238, 239, 240, 241, 242, 243, 256, 257, 258, 259, 260, 261, 262, 263, 264, 265, 266] (by decide +kernel) (by decide +kernel)
set_option maxRecDepth 20000 in
theorem gX12_turns__X12_turns : GoodIn wsX12_turns_ (wsV RX12 221 RX12 yX12_turns wsX12_turns) := goodIn_app (goodIn_of _ (by decide +kernel)) ggX12_turns__X12_turns
set_option maxRecDepth 20000 in
theorem ggX12_turns__X12_nextTime : GoodIn wsX12_turns_ wsX12_nextTime := goodIn_r _ [247, 1, 7, 8, 9, 5, 10, 11, 12, 13, 248, 249, 250, 251, 22, 23, 24, 256, 257, 258, 259, 260, 261, 262, 263, 264, 265, 266] (by decide +kernel) (by decide +kernel)
set_option maxRecDepth 20000 in
theorem gX12_turns__X12_nextTime : GoodIn wsX12_turns_ (wsV RX12 224 RX12 yX12_nextTime wsX12_nextTime) := goodIn_app (goodIn_of _ (by decide +kernel)) ggX12_turns__X12_nextTime
set_option maxRecDepth 20000 in
theorem ggX12_turns__X12_passes : GoodIn wsX12_turns_ wsX12_passes := goodIn_r _ [255, 1, 7, 8, 9, 5, 10, 11, 12, 13, 53, 54, 55, 56, 25, 26, 27, 28, 57, 58, 59, 60, 22, 23, 24, 45, 46, 47, 48, 49, 50, 51, 52, 256, 257, 258, 259, 260, 261, 262, 263, 264, 265, 266] (by decide +kernel) (by decide +kernel)
set_option maxRecDepth 20000 in
theorem gX12_turns__X12_passes : GoodIn wsX12_turns_ (wsV RX12 227 RX12 yX12_passes wsX12_passes) := goodIn_app (goodIn_of _ (by decide +kernel)) ggX12_turns__X12_passes
theorem dX12_turns__0 : decode cX12_turns_ 0 = .ok (.aload_n 0, 1) := by decide +kernel
theorem dX12_turns__1 : decode cX12_turns_ 1 = .ok (.getfield 9, 3) := by decide +kernel
theorem dX12_turns__4 : decode cX12_turns_ 4 = .ok (.sipush 173, 3) := by decide +kernel
theorem dX12_turns__7 : decode cX12_turns_ 7 = .ok (.iaload, 1) := by decide +kernel
theorem dX12_turns__8 : decode cX12_turns_ 8 = .ok (.ifCond .le 74, 3) := by decide +kernel
theorem dX12_turns__11 : decode cX12_turns_ 11 = .ok (.aload_n 0, 1) := by decide +kernel
theorem dX12_turns__12 : decode cX12_turns_ 12 = .ok (.getfield 9, 3) := by decide +kernel
theorem dX12_turns__15 : decode cX12_turns_ 15 = .ok (.sipush 183, 3) := by decide +kernel
theorem dX12_turns__18 : decode cX12_turns_ 18 = .ok (.iaload, 1) := by decide +kernel
theorem dX12_turns__19 : decode cX12_turns_ 19 = .ok (.istore_n 1, 1) := by decide +kernel
theorem dX12_turns__20 : decode cX12_turns_ 20 = .ok (.aload_n 0, 1) := by decide +kernel
theorem dX12_turns__21 : decode cX12_turns_ 21 = .ok (.getfield 9, 3) := by decide +kernel
theorem dX12_turns__24 : decode cX12_turns_ 24 = .ok (.sipush 173, 3) := by decide +kernel
theorem dX12_turns__27 : decode cX12_turns_ 27 = .ok (.dup2, 1) := by decide +kernel
theorem dX12_turns__28 : decode cX12_turns_ 28 = .ok (.iaload, 1) := by decide +kernel
theorem dX12_turns__29 : decode cX12_turns_ 29 = .ok (.iconst 1, 1) := by decide +kernel
theorem dX12_turns__30 : decode cX12_turns_ 30 = .ok (.isub, 1) := by decide +kernel
theorem dX12_turns__31 : decode cX12_turns_ 31 = .ok (.iastore, 1) := by decide +kernel
theorem dX12_turns__32 : decode cX12_turns_ 32 = .ok (.iconst 0, 1) := by decide +kernel
theorem dX12_turns__33 : decode cX12_turns_ 33 = .ok (.istore_n 2, 1) := by decide +kernel
theorem dX12_turns__34 : decode cX12_turns_ 34 = .ok (.iload_n 2, 1) := by decide +kernel
theorem dX12_turns__35 : decode cX12_turns_ 35 = .ok (.aload_n 0, 1) := by decide +kernel
theorem dX12_turns__36 : decode cX12_turns_ 36 = .ok (.getfield 9, 3) := by decide +kernel
theorem dX12_turns__39 : decode cX12_turns_ 39 = .ok (.sipush 173, 3) := by decide +kernel
theorem dX12_turns__42 : decode cX12_turns_ 42 = .ok (.iaload, 1) := by decide +kernel
theorem dX12_turns__43 : decode cX12_turns_ 43 = .ok (.if_icmp .ge 31, 3) := by decide +kernel
theorem dX12_turns__46 : decode cX12_turns_ 46 = .ok (.aload_n 0, 1) := by decide +kernel
theorem dX12_turns__47 : decode cX12_turns_ 47 = .ok (.getfield 9, 3) := by decide +kernel
theorem dX12_turns__50 : decode cX12_turns_ 50 = .ok (.sipush 183, 3) := by decide +kernel
theorem dX12_turns__53 : decode cX12_turns_ 53 = .ok (.iload_n 2, 1) := by decide +kernel
theorem dX12_turns__54 : decode cX12_turns_ 54 = .ok (.iadd, 1) := by decide +kernel
theorem dX12_turns__55 : decode cX12_turns_ 55 = .ok (.aload_n 0, 1) := by decide +kernel
theorem dX12_turns__56 : decode cX12_turns_ 56 = .ok (.getfield 9, 3) := by decide +kernel
theorem dX12_turns__59 : decode cX12_turns_ 59 = .ok (.sipush 183, 3) := by decide +kernel
theorem dX12_turns__62 : decode cX12_turns_ 62 = .ok (.iload_n 2, 1) := by decide +kernel
theorem dX12_turns__63 : decode cX12_turns_ 63 = .ok (.iadd, 1) := by decide +kernel
theorem dX12_turns__64 : decode cX12_turns_ 64 = .ok (.iconst 1, 1) := by decide +kernel
theorem dX12_turns__65 : decode cX12_turns_ 65 = .ok (.iadd, 1) := by decide +kernel
theorem dX12_turns__66 : decode cX12_turns_ 66 = .ok (.iaload, 1) := by decide +kernel
theorem dX12_turns__67 : decode cX12_turns_ 67 = .ok (.iastore, 1) := by decide +kernel
theorem dX12_turns__68 : decode cX12_turns_ 68 = .ok (.iinc 2 1, 3) := by decide +kernel
theorem dX12_turns__71 : decode cX12_turns_ 71 = .ok (.goto (-37), 3) := by decide +kernel
theorem dX12_turns__74 : decode cX12_turns_ 74 = .ok (.aload_n 0, 1) := by decide +kernel
theorem dX12_turns__75 : decode cX12_turns_ 75 = .ok (.iload_n 1, 1) := by decide +kernel
theorem dX12_turns__76 : decode cX12_turns_ 76 = .ok (.invokevirtual 221, 3) := by decide +kernel
theorem dX12_turns__79 : decode cX12_turns_ 79 = .ok (.goto 23, 3) := by decide +kernel
theorem dX12_turns__82 : decode cX12_turns_ 82 = .ok (.aload_n 0, 1) := by decide +kernel
theorem dX12_turns__83 : decode cX12_turns_ 83 = .ok (.invokevirtual 224, 3) := by decide +kernel
theorem dX12_turns__86 : decode cX12_turns_ 86 = .ok (.ifCond .lt 14, 3) := by decide +kernel
theorem dX12_turns__89 : decode cX12_turns_ 89 = .ok (.aload_n 0, 1) := by decide +kernel
theorem dX12_turns__90 : decode cX12_turns_ 90 = .ok (.aload_n 0, 1) := by decide +kernel
theorem dX12_turns__91 : decode cX12_turns_ 91 = .ok (.invokevirtual 224, 3) := by decide +kernel
theorem dX12_turns__94 : decode cX12_turns_ 94 = .ok (.invokevirtual 227, 3) := by decide +kernel
theorem dX12_turns__97 : decode cX12_turns_ 97 = .ok (.goto 5, 3) := by decide +kernel
theorem dX12_turns__100 : decode cX12_turns_ 100 = .ok (.iconst 0, 1) := by decide +kernel
theorem dX12_turns__101 : decode cX12_turns_ 101 = .ok (.ireturn, 1) := by decide +kernel
theorem dX12_turns__102 : decode cX12_turns_ 102 = .ok (.aload_n 0, 1) := by decide +kernel
theorem dX12_turns__103 : decode cX12_turns_ 103 = .ok (.getfield 9, 3) := by decide +kernel
theorem dX12_turns__106 : decode cX12_turns_ 106 = .ok (.sipush 176, 3) := by decide +kernel
theorem dX12_turns__109 : decode cX12_turns_ 109 = .ok (.dup2, 1) := by decide +kernel
theorem dX12_turns__110 : decode cX12_turns_ 110 = .ok (.iaload, 1) := by decide +kernel
theorem dX12_turns__111 : decode cX12_turns_ 111 = .ok (.iconst 1, 1) := by decide +kernel
theorem dX12_turns__112 : decode cX12_turns_ 112 = .ok (.iadd, 1) := by decide +kernel
theorem dX12_turns__113 : decode cX12_turns_ 113 = .ok (.iastore, 1) := by decide +kernel
theorem dX12_turns__114 : decode cX12_turns_ 114 = .ok (.iconst 1, 1) := by decide +kernel
theorem dX12_turns__115 : decode cX12_turns_ 115 = .ok (.ireturn, 1) := by decide +kernel
set_option maxRecDepth 20000 in
theorem ggX12_run_X12_in : GoodIn wsX12_run wsX12_in := goodIn_r _ [5] (by decide +kernel) (by decide +kernel)
set_option maxRecDepth 20000 in
theorem gX12_run_X12_in : GoodIn wsX12_run (va_wsS RX12 33 yX12_in wsX12_in) := goodIn_app (goodIn_of _ (by decide +kernel)) ggX12_run_X12_in
set_option maxRecDepth 20000 in
theorem ggX12_run_X12_raises : GoodIn wsX12_run wsX12_raises := goodIn_r _ [9, 1, 268, 269, 270, 271, 272, 273, 274, 275, 276, 277, 278] (by decide +kernel) (by decide +kernel)
set_option maxRecDepth 20000 in
theorem gX12_run_X12_raises : GoodIn wsX12_run (wsV RX12 45 RX12 yX12_raises wsX12_raises) := goodIn_app (goodIn_of _ (by decide +kernel)) ggX12_run_X12_raises
set_option maxRecDepth 20000 in
theorem ggX12_run_X12_turns_ : GoodIn wsX12_run wsX12_turns_ := goodIn_r _ [13, 14, 15, 16, 17, 4, 18, 19, 20, 21, 22, 23, 24, 25, 26, 27, 28, 29, 30, 31, 32, 33, 34, 35, 36, 37, 38, 39, 40, 41, 42, 43, 44, 45, 46, 47, 48, 49, 50, 51, 52, 53, 54, 55, 56, 57, 58, 59, 60, 61, 62, 63, 64, 65, 66, 67, 68, 69, 70, 71, 72, 73, 74, 75, 76, 77, 78, 79, 80, 81, 82, 83, 84, 85, 86, 87, 88, 89, 90, 91, 92, 93, 94, 95, 96, 97, 98, 99, 100, 101, 102, 103, 104, 105, 106, 107, 108, 109, 110, 111, 112, 113, 114, 115, 116, 117, 118, 119, 120, 121, 122, 123, 124, 125, 126, 127, 128, 129, 130, 131, 132, 133, 134, 135, 136, 137, 138, 139, 140, 141, 142, 143, 144, 145, 146, 147, 148, 149, 150, 151, 152, 153, 154, 155, 156, 157, 158, 159, 160, 161, 162, 163, 164, 165, 166, 167, 168, 169, 170, 171, 172, 173, 174, 175, 176, 177, 178, 179, 180, 181, 182, 183, 184, 185, 186, 187, 188, 189, 190, 191, 192, 193, 194, 195, 196, 197, 198, 199, 200, 201, 202, 203, 204, 205, 206, 207, 208, 209, 210, 211, 212, 213, 214, 215, 216, 217, 218, 219, 220, 221, 222, 223, 224, 225, 226, 227, 228, 229, 230, 231, 232, 233, 234, 235, 236, 237, 238, 239, 240, 241, 242, 243, 244, 245, 246, 247, 248, 249, 250, 251, 252, 253, 254, 255, 256, 257, 258, 259, 260, 261, 262, 263, 264, 265, 266, 267, 268, 269, 270, 271, 272, 273, 274, 275, 276, 277, 278] (by decide +kernel) (by decide +kernel)
set_option maxRecDepth 20000 in
theorem gX12_run_X12_turns_ : GoodIn wsX12_run (wsV RX12 230 RX12 yX12_turns_ wsX12_turns_) := goodIn_app (goodIn_of _ (by decide +kernel)) ggX12_run_X12_turns_
theorem dX12_run_0 : decode cX12_run 0 = .ok (.aload_n 0, 1) := by decide +kernel
theorem dX12_run_1 : decode cX12_run 1 = .ok (.iconst 0, 1) := by decide +kernel
theorem dX12_run_2 : decode cX12_run 2 = .ok (.putfield 26, 3) := by decide +kernel
theorem dX12_run_5 : decode cX12_run 5 = .ok (.iload_n 1, 1) := by decide +kernel
theorem dX12_run_6 : decode cX12_run 6 = .ok (.iconst 1, 1) := by decide +kernel
theorem dX12_run_7 : decode cX12_run 7 = .ok (.bipush 100, 2) := by decide +kernel
theorem dX12_run_9 : decode cX12_run 9 = .ok (.invokestatic 33, 3) := by decide +kernel
theorem dX12_run_12 : decode cX12_run 12 = .ok (.ifCond .ne 9, 3) := by decide +kernel
theorem dX12_run_15 : decode cX12_run 15 = .ok (.aload_n 0, 1) := by decide +kernel
theorem dX12_run_16 : decode cX12_run 16 = .ok (.iconst 1, 1) := by decide +kernel
theorem dX12_run_17 : decode cX12_run 17 = .ok (.invokevirtual 45, 3) := by decide +kernel
theorem dX12_run_20 : decode cX12_run 20 = .ok (.ireturn, 1) := by decide +kernel
theorem dX12_run_21 : decode cX12_run 21 = .ok (.iconst 0, 1) := by decide +kernel
theorem dX12_run_22 : decode cX12_run 22 = .ok (.istore_n 2, 1) := by decide +kernel
theorem dX12_run_23 : decode cX12_run 23 = .ok (.iload_n 2, 1) := by decide +kernel
theorem dX12_run_24 : decode cX12_run 24 = .ok (.iload_n 1, 1) := by decide +kernel
theorem dX12_run_25 : decode cX12_run 25 = .ok (.if_icmp .ge 16, 3) := by decide +kernel
theorem dX12_run_28 : decode cX12_run 28 = .ok (.aload_n 0, 1) := by decide +kernel
theorem dX12_run_29 : decode cX12_run 29 = .ok (.invokevirtual 230, 3) := by decide +kernel
theorem dX12_run_32 : decode cX12_run 32 = .ok (.ifCond .eq 9, 3) := by decide +kernel
theorem dX12_run_35 : decode cX12_run 35 = .ok (.iinc 2 1, 3) := by decide +kernel
theorem dX12_run_38 : decode cX12_run 38 = .ok (.goto (-15), 3) := by decide +kernel
theorem dX12_run_41 : decode cX12_run 41 = .ok (.iload_n 2, 1) := by decide +kernel
theorem dX12_run_42 : decode cX12_run 42 = .ok (.ireturn, 1) := by decide +kernel
set_option maxRecDepth 20000 in
theorem ggX12_next_X12_nextTime : GoodIn wsX12_next wsX12_nextTime := goodIn_r _ [7, 2, 8, 9, 10, 6, 11, 12, 13, 14, 15, 16, 17, 18, 19, 20, 21, 30, 31, 32, 33, 34, 35, 36, 37, 38, 39, 40] (by decide +kernel) (by decide +kernel)
set_option maxRecDepth 20000 in
theorem gX12_next_X12_nextTime : GoodIn wsX12_next (wsV RX12 224 RX12 yX12_nextTime wsX12_nextTime) := goodIn_app (goodIn_of _ (by decide +kernel)) ggX12_next_X12_nextTime
set_option maxRecDepth 20000 in
theorem ggX12_next_X12_live : GoodIn wsX12_next wsX12_live := goodIn_r _ [25, 2, 26, 27, 28, 6, 29, 8, 9, 10, 11, 12, 13, 14, 30, 31, 32, 33, 34, 35, 36, 37, 38, 39, 40] (by decide +kernel) (by decide +kernel)
set_option maxRecDepth 20000 in
theorem gX12_next_X12_live : GoodIn wsX12_next (wsV RX12 95 RX12 yX12_live wsX12_live) := goodIn_app (goodIn_of _ (by decide +kernel)) ggX12_next_X12_live
theorem dX12_next_0 : decode cX12_next 0 = .ok (.aload_n 0, 1) := by decide +kernel
theorem dX12_next_1 : decode cX12_next 1 = .ok (.iconst 0, 1) := by decide +kernel
theorem dX12_next_2 : decode cX12_next 2 = .ok (.putfield 26, 3) := by decide +kernel
theorem dX12_next_5 : decode cX12_next 5 = .ok (.aload_n 0, 1) := by decide +kernel
theorem dX12_next_6 : decode cX12_next 6 = .ok (.getfield 9, 3) := by decide +kernel
theorem dX12_next_9 : decode cX12_next 9 = .ok (.sipush 173, 3) := by decide +kernel
theorem dX12_next_12 : decode cX12_next 12 = .ok (.iaload, 1) := by decide +kernel
theorem dX12_next_13 : decode cX12_next 13 = .ok (.ifCond .le 12, 3) := by decide +kernel
theorem dX12_next_16 : decode cX12_next 16 = .ok (.aload_n 0, 1) := by decide +kernel
theorem dX12_next_17 : decode cX12_next 17 = .ok (.getfield 9, 3) := by decide +kernel
theorem dX12_next_20 : decode cX12_next 20 = .ok (.sipush 183, 3) := by decide +kernel
theorem dX12_next_23 : decode cX12_next 23 = .ok (.iaload, 1) := by decide +kernel
theorem dX12_next_24 : decode cX12_next 24 = .ok (.ireturn, 1) := by decide +kernel
theorem dX12_next_25 : decode cX12_next 25 = .ok (.aload_n 0, 1) := by decide +kernel
theorem dX12_next_26 : decode cX12_next 26 = .ok (.invokevirtual 224, 3) := by decide +kernel
theorem dX12_next_29 : decode cX12_next 29 = .ok (.ifCond .lt 8, 3) := by decide +kernel
theorem dX12_next_32 : decode cX12_next 32 = .ok (.bipush 100, 2) := by decide +kernel
theorem dX12_next_34 : decode cX12_next 34 = .ok (.goto 19, 3) := by decide +kernel
theorem dX12_next_37 : decode cX12_next 37 = .ok (.aload_n 0, 1) := by decide +kernel
theorem dX12_next_38 : decode cX12_next 38 = .ok (.invokevirtual 95, 3) := by decide +kernel
theorem dX12_next_41 : decode cX12_next 41 = .ok (.ifCond .ne 9, 3) := by decide +kernel
theorem dX12_next_44 : decode cX12_next 44 = .ok (.sipush 200, 3) := by decide +kernel
theorem dX12_next_47 : decode cX12_next 47 = .ok (.goto 6, 3) := by decide +kernel
theorem dX12_next_50 : decode cX12_next 50 = .ok (.sipush 300, 3) := by decide +kernel
theorem dX12_next_53 : decode cX12_next 53 = .ok (.ireturn, 1) := by decide +kernel
set_option maxRecDepth 20000 in
theorem ggX12_task__X12_isTask : GoodIn wsX12_task_ wsX12_isTask := goodIn_r _ [6, 7, 8, 9, 5, 10, 22, 23, 24, 25, 26, 27, 28, 29, 30, 31, 32] (by decide +kernel) (by decide +kernel)
set_option maxRecDepth 20000 in
theorem gX12_task__X12_isTask : GoodIn wsX12_task_ (wsV RX12 141 RX12 yX12_isTask wsX12_isTask) := goodIn_app (goodIn_of _ (by decide +kernel)) ggX12_task__X12_isTask
set_option maxRecDepth 20000 in
theorem ggX12_task__X12_raises : GoodIn wsX12_task_ wsX12_raises := goodIn_r _ [14, 1, 22, 23, 24, 25, 26, 27, 28, 29, 30, 31, 32] (by decide +kernel) (by decide +kernel)
set_option maxRecDepth 20000 in
theorem gX12_task__X12_raises : GoodIn wsX12_task_ (wsV RX12 45 RX12 yX12_raises wsX12_raises) := goodIn_app (goodIn_of _ (by decide +kernel)) ggX12_task__X12_raises
set_option maxRecDepth 20000 in
theorem ggX12_task__X12_in : GoodIn wsX12_task_ wsX12_in := goodIn_r _ [10] (by decide +kernel) (by decide +kernel)
set_option maxRecDepth 20000 in
theorem gX12_task__X12_in : GoodIn wsX12_task_ (va_wsS RX12 33 yX12_in wsX12_in) := goodIn_app (goodIn_of _ (by decide +kernel)) ggX12_task__X12_in
set_option maxRecDepth 20000 in
theorem ggX12_task__X12_of : GoodIn wsX12_task_ wsX12_of := goodIn_r _ [18, 7, 19, 20, 5, 21, 22, 23, 24, 25, 26, 27, 28, 29, 30, 31, 32] (by decide +kernel) (by decide +kernel)
set_option maxRecDepth 20000 in
theorem gX12_task__X12_of : GoodIn wsX12_task_ (wsV RX12 37 RX12 yX12_of wsX12_of) := goodIn_app (goodIn_of _ (by decide +kernel)) ggX12_task__X12_of
theorem dX12_task__0 : decode cX12_task_ 0 = .ok (.aload_n 0, 1) := by decide +kernel
theorem dX12_task__1 : decode cX12_task_ 1 = .ok (.iconst 0, 1) := by decide +kernel
theorem dX12_task__2 : decode cX12_task_ 2 = .ok (.putfield 26, 3) := by decide +kernel
theorem dX12_task__5 : decode cX12_task_ 5 = .ok (.aload_n 0, 1) := by decide +kernel
theorem dX12_task__6 : decode cX12_task_ 6 = .ok (.iload_n 1, 1) := by decide +kernel
theorem dX12_task__7 : decode cX12_task_ 7 = .ok (.invokevirtual 141, 3) := by decide +kernel
theorem dX12_task__10 : decode cX12_task_ 10 = .ok (.ifCond .ne 9, 3) := by decide +kernel
theorem dX12_task__13 : decode cX12_task_ 13 = .ok (.aload_n 0, 1) := by decide +kernel
theorem dX12_task__14 : decode cX12_task_ 14 = .ok (.iconst 1, 1) := by decide +kernel
theorem dX12_task__15 : decode cX12_task_ 15 = .ok (.invokevirtual 45, 3) := by decide +kernel
theorem dX12_task__18 : decode cX12_task_ 18 = .ok (.ireturn, 1) := by decide +kernel
theorem dX12_task__19 : decode cX12_task_ 19 = .ok (.iload_n 2, 1) := by decide +kernel
theorem dX12_task__20 : decode cX12_task_ 20 = .ok (.iconst 0, 1) := by decide +kernel
theorem dX12_task__21 : decode cX12_task_ 21 = .ok (.bipush 9, 2) := by decide +kernel
theorem dX12_task__23 : decode cX12_task_ 23 = .ok (.invokestatic 33, 3) := by decide +kernel
theorem dX12_task__26 : decode cX12_task_ 26 = .ok (.ifCond .ne 9, 3) := by decide +kernel
theorem dX12_task__29 : decode cX12_task_ 29 = .ok (.aload_n 0, 1) := by decide +kernel
theorem dX12_task__30 : decode cX12_task_ 30 = .ok (.iconst 2, 1) := by decide +kernel
theorem dX12_task__31 : decode cX12_task_ 31 = .ok (.invokevirtual 45, 3) := by decide +kernel
theorem dX12_task__34 : decode cX12_task_ 34 = .ok (.ireturn, 1) := by decide +kernel
theorem dX12_task__35 : decode cX12_task_ 35 = .ok (.iload_n 2, 1) := by decide +kernel
theorem dX12_task__36 : decode cX12_task_ 36 = .ok (.bipush 8, 2) := by decide +kernel
theorem dX12_task__38 : decode cX12_task_ 38 = .ok (.if_icmp .ne 11, 3) := by decide +kernel
theorem dX12_task__41 : decode cX12_task_ 41 = .ok (.aload_n 0, 1) := by decide +kernel
theorem dX12_task__42 : decode cX12_task_ 42 = .ok (.iload_n 1, 1) := by decide +kernel
theorem dX12_task__43 : decode cX12_task_ 43 = .ok (.bipush 9, 2) := by decide +kernel
theorem dX12_task__45 : decode cX12_task_ 45 = .ok (.invokevirtual 37, 3) := by decide +kernel
theorem dX12_task__48 : decode cX12_task_ 48 = .ok (.ireturn, 1) := by decide +kernel
theorem dX12_task__49 : decode cX12_task_ 49 = .ok (.iload_n 2, 1) := by decide +kernel
theorem dX12_task__50 : decode cX12_task_ 50 = .ok (.bipush 9, 2) := by decide +kernel
theorem dX12_task__52 : decode cX12_task_ 52 = .ok (.if_icmp .ne 25, 3) := by decide +kernel
theorem dX12_task__55 : decode cX12_task_ 55 = .ok (.aload_n 0, 1) := by decide +kernel
theorem dX12_task__56 : decode cX12_task_ 56 = .ok (.iload_n 1, 1) := by decide +kernel
theorem dX12_task__57 : decode cX12_task_ 57 = .ok (.iconst 0, 1) := by decide +kernel
theorem dX12_task__58 : decode cX12_task_ 58 = .ok (.invokevirtual 37, 3) := by decide +kernel
theorem dX12_task__61 : decode cX12_task_ 61 = .ok (.iconst 1, 1) := by decide +kernel
theorem dX12_task__62 : decode cX12_task_ 62 = .ok (.if_icmp .ne 13, 3) := by decide +kernel
theorem dX12_task__65 : decode cX12_task_ 65 = .ok (.aload_n 0, 1) := by decide +kernel
theorem dX12_task__66 : decode cX12_task_ 66 = .ok (.iload_n 1, 1) := by decide +kernel
theorem dX12_task__67 : decode cX12_task_ 67 = .ok (.bipush 11, 2) := by decide +kernel
theorem dX12_task__69 : decode cX12_task_ 69 = .ok (.invokevirtual 37, 3) := by decide +kernel
theorem dX12_task__72 : decode cX12_task_ 72 = .ok (.goto 4, 3) := by decide +kernel
theorem dX12_task__75 : decode cX12_task_ 75 = .ok (.iconst (-1), 1) := by decide +kernel
theorem dX12_task__76 : decode cX12_task_ 76 = .ok (.ireturn, 1) := by decide +kernel
theorem dX12_task__77 : decode cX12_task_ 77 = .ok (.aload_n 0, 1) := by decide +kernel
theorem dX12_task__78 : decode cX12_task_ 78 = .ok (.iload_n 1, 1) := by decide +kernel
theorem dX12_task__79 : decode cX12_task_ 79 = .ok (.iload_n 2, 1) := by decide +kernel
theorem dX12_task__80 : decode cX12_task_ 80 = .ok (.invokevirtual 37, 3) := by decide +kernel
theorem dX12_task__83 : decode cX12_task_ 83 = .ok (.ireturn, 1) := by decide +kernel
set_option maxRecDepth 20000 in
theorem ggX12_scope__X12_in : GoodIn wsX12_scope_ wsX12_in := goodIn_r _ [6] (by decide +kernel) (by decide +kernel)
set_option maxRecDepth 20000 in
theorem gX12_scope__X12_in : GoodIn wsX12_scope_ (va_wsS RX12 33 yX12_in wsX12_in) := goodIn_app (goodIn_of _ (by decide +kernel)) ggX12_scope__X12_in
set_option maxRecDepth 20000 in
theorem ggX12_scope__X12_raises : GoodIn wsX12_scope_ wsX12_raises := goodIn_r _ [10, 1, 29, 30, 31, 32, 33, 34, 35, 36, 37, 38, 39] (by decide +kernel) (by decide +kernel)
set_option maxRecDepth 20000 in
theorem gX12_scope__X12_raises : GoodIn wsX12_scope_ (wsV RX12 45 RX12 yX12_raises wsX12_raises) := goodIn_app (goodIn_of _ (by decide +kernel)) ggX12_scope__X12_raises
set_option maxRecDepth 20000 in
theorem ggX12_scope__X12_scope : GoodIn wsX12_scope_ wsX12_scope := goodIn_r _ [13] (by decide +kernel) (by decide +kernel)
set_option maxRecDepth 20000 in
theorem gX12_scope__X12_scope : GoodIn wsX12_scope_ (va_wsS RX12 127 yX12_scope wsX12_scope) := goodIn_app (goodIn_of _ (by decide +kernel)) ggX12_scope__X12_scope
set_option maxRecDepth 20000 in
theorem ggX12_scope__X12_children : GoodIn wsX12_scope_ wsX12_children := goodIn_r _ [17, 2, 18, 19, 20, 5, 21, 22, 23, 24, 25, 26, 27, 28, 29, 30, 31, 32, 33, 34, 35, 36, 37, 38, 39] (by decide +kernel) (by decide +kernel)
set_option maxRecDepth 20000 in
theorem gX12_scope__X12_children : GoodIn wsX12_scope_ (wsV RX12 147 RX12 yX12_children wsX12_children) := goodIn_app (goodIn_of _ (by decide +kernel)) ggX12_scope__X12_children
theorem dX12_scope__0 : decode cX12_scope_ 0 = .ok (.aload_n 0, 1) := by decide +kernel
theorem dX12_scope__1 : decode cX12_scope_ 1 = .ok (.iconst 0, 1) := by decide +kernel
theorem dX12_scope__2 : decode cX12_scope_ 2 = .ok (.putfield 26, 3) := by decide +kernel
theorem dX12_scope__5 : decode cX12_scope_ 5 = .ok (.iload_n 1, 1) := by decide +kernel
theorem dX12_scope__6 : decode cX12_scope_ 6 = .ok (.iconst 0, 1) := by decide +kernel
theorem dX12_scope__7 : decode cX12_scope_ 7 = .ok (.aload_n 0, 1) := by decide +kernel
theorem dX12_scope__8 : decode cX12_scope_ 8 = .ok (.getfield 9, 3) := by decide +kernel
theorem dX12_scope__11 : decode cX12_scope_ 11 = .ok (.sipush 171, 3) := by decide +kernel
theorem dX12_scope__14 : decode cX12_scope_ 14 = .ok (.iaload, 1) := by decide +kernel
theorem dX12_scope__15 : decode cX12_scope_ 15 = .ok (.iconst 1, 1) := by decide +kernel
theorem dX12_scope__16 : decode cX12_scope_ 16 = .ok (.isub, 1) := by decide +kernel
theorem dX12_scope__17 : decode cX12_scope_ 17 = .ok (.invokestatic 33, 3) := by decide +kernel
theorem dX12_scope__20 : decode cX12_scope_ 20 = .ok (.ifCond .ne 9, 3) := by decide +kernel
theorem dX12_scope__23 : decode cX12_scope_ 23 = .ok (.aload_n 0, 1) := by decide +kernel
theorem dX12_scope__24 : decode cX12_scope_ 24 = .ok (.iconst 1, 1) := by decide +kernel
theorem dX12_scope__25 : decode cX12_scope_ 25 = .ok (.invokevirtual 45, 3) := by decide +kernel
theorem dX12_scope__28 : decode cX12_scope_ 28 = .ok (.ireturn, 1) := by decide +kernel
theorem dX12_scope__29 : decode cX12_scope_ 29 = .ok (.iload_n 1, 1) := by decide +kernel
theorem dX12_scope__30 : decode cX12_scope_ 30 = .ok (.invokestatic 127, 3) := by decide +kernel
theorem dX12_scope__33 : decode cX12_scope_ 33 = .ok (.istore_n 3, 1) := by decide +kernel
theorem dX12_scope__34 : decode cX12_scope_ 34 = .ok (.iload_n 2, 1) := by decide +kernel
theorem dX12_scope__35 : decode cX12_scope_ 35 = .ok (.tableswitch 61 4 7 #[29, 36, 43, 52], 29) := by decide +kernel
theorem dX12_scope__64 : decode cX12_scope_ 64 = .ok (.aload_n 0, 1) := by decide +kernel
theorem dX12_scope__65 : decode cX12_scope_ 65 = .ok (.iload_n 1, 1) := by decide +kernel
theorem dX12_scope__66 : decode cX12_scope_ 66 = .ok (.iconst 1, 1) := by decide +kernel
theorem dX12_scope__67 : decode cX12_scope_ 67 = .ok (.invokevirtual 147, 3) := by decide +kernel
theorem dX12_scope__70 : decode cX12_scope_ 70 = .ok (.ireturn, 1) := by decide +kernel
theorem dX12_scope__71 : decode cX12_scope_ 71 = .ok (.aload_n 0, 1) := by decide +kernel
theorem dX12_scope__72 : decode cX12_scope_ 72 = .ok (.iload_n 1, 1) := by decide +kernel
theorem dX12_scope__73 : decode cX12_scope_ 73 = .ok (.iconst 0, 1) := by decide +kernel
theorem dX12_scope__74 : decode cX12_scope_ 74 = .ok (.invokevirtual 147, 3) := by decide +kernel
theorem dX12_scope__77 : decode cX12_scope_ 77 = .ok (.ireturn, 1) := by decide +kernel
theorem dX12_scope__78 : decode cX12_scope_ 78 = .ok (.aload_n 0, 1) := by decide +kernel
theorem dX12_scope__79 : decode cX12_scope_ 79 = .ok (.getfield 9, 3) := by decide +kernel
theorem dX12_scope__82 : decode cX12_scope_ 82 = .ok (.iload_n 3, 1) := by decide +kernel
theorem dX12_scope__83 : decode cX12_scope_ 83 = .ok (.iconst 4, 1) := by decide +kernel
theorem dX12_scope__84 : decode cX12_scope_ 84 = .ok (.iadd, 1) := by decide +kernel
theorem dX12_scope__85 : decode cX12_scope_ 85 = .ok (.iaload, 1) := by decide +kernel
theorem dX12_scope__86 : decode cX12_scope_ 86 = .ok (.ireturn, 1) := by decide +kernel
theorem dX12_scope__87 : decode cX12_scope_ 87 = .ok (.aload_n 0, 1) := by decide +kernel
theorem dX12_scope__88 : decode cX12_scope_ 88 = .ok (.getfield 9, 3) := by decide +kernel
theorem dX12_scope__91 : decode cX12_scope_ 91 = .ok (.iload_n 3, 1) := by decide +kernel
theorem dX12_scope__92 : decode cX12_scope_ 92 = .ok (.iconst 5, 1) := by decide +kernel
theorem dX12_scope__93 : decode cX12_scope_ 93 = .ok (.iadd, 1) := by decide +kernel
theorem dX12_scope__94 : decode cX12_scope_ 94 = .ok (.iaload, 1) := by decide +kernel
theorem dX12_scope__95 : decode cX12_scope_ 95 = .ok (.ireturn, 1) := by decide +kernel
theorem dX12_scope__96 : decode cX12_scope_ 96 = .ok (.iload_n 2, 1) := by decide +kernel
theorem dX12_scope__97 : decode cX12_scope_ 97 = .ok (.iconst 0, 1) := by decide +kernel
theorem dX12_scope__98 : decode cX12_scope_ 98 = .ok (.iconst 3, 1) := by decide +kernel
theorem dX12_scope__99 : decode cX12_scope_ 99 = .ok (.invokestatic 33, 3) := by decide +kernel
theorem dX12_scope__102 : decode cX12_scope_ 102 = .ok (.ifCond .eq 14, 3) := by decide +kernel
theorem dX12_scope__105 : decode cX12_scope_ 105 = .ok (.aload_n 0, 1) := by decide +kernel
theorem dX12_scope__106 : decode cX12_scope_ 106 = .ok (.getfield 9, 3) := by decide +kernel
theorem dX12_scope__109 : decode cX12_scope_ 109 = .ok (.iload_n 3, 1) := by decide +kernel
theorem dX12_scope__110 : decode cX12_scope_ 110 = .ok (.iload_n 2, 1) := by decide +kernel
theorem dX12_scope__111 : decode cX12_scope_ 111 = .ok (.iadd, 1) := by decide +kernel
theorem dX12_scope__112 : decode cX12_scope_ 112 = .ok (.iaload, 1) := by decide +kernel
theorem dX12_scope__113 : decode cX12_scope_ 113 = .ok (.goto 8, 3) := by decide +kernel
theorem dX12_scope__116 : decode cX12_scope_ 116 = .ok (.aload_n 0, 1) := by decide +kernel
theorem dX12_scope__117 : decode cX12_scope_ 117 = .ok (.iconst 2, 1) := by decide +kernel
theorem dX12_scope__118 : decode cX12_scope_ 118 = .ok (.invokevirtual 45, 3) := by decide +kernel
theorem dX12_scope__121 : decode cX12_scope_ 121 = .ok (.ireturn, 1) := by decide +kernel
set_option maxRecDepth 20000 in
theorem ggX12_failure_X12_isTask : GoodIn wsX12_failure wsX12_isTask := goodIn_r _ [7, 2, 8, 9, 6, 10, 22, 23, 24, 25, 26, 27, 28, 29, 30, 31, 32] (by decide +kernel) (by decide +kernel)
set_option maxRecDepth 20000 in
theorem gX12_failure_X12_isTask : GoodIn wsX12_failure (wsV RX12 141 RX12 yX12_isTask wsX12_isTask) := goodIn_app (goodIn_of _ (by decide +kernel)) ggX12_failure_X12_isTask
set_option maxRecDepth 20000 in
theorem ggX12_failure_X12_raises : GoodIn wsX12_failure wsX12_raises := goodIn_r _ [14, 1, 22, 23, 24, 25, 26, 27, 28, 29, 30, 31, 32] (by decide +kernel) (by decide +kernel)
set_option maxRecDepth 20000 in
theorem gX12_failure_X12_raises : GoodIn wsX12_failure (wsV RX12 45 RX12 yX12_raises wsX12_raises) := goodIn_app (goodIn_of _ (by decide +kernel)) ggX12_failure_X12_raises
set_option maxRecDepth 20000 in
theorem ggX12_failure_X12_in : GoodIn wsX12_failure wsX12_in := goodIn_r _ [10] (by decide +kernel) (by decide +kernel)
set_option maxRecDepth 20000 in
theorem gX12_failure_X12_in : GoodIn wsX12_failure (va_wsS RX12 33 yX12_in wsX12_in) := goodIn_app (goodIn_of _ (by decide +kernel)) ggX12_failure_X12_in
set_option maxRecDepth 20000 in
theorem ggX12_failure_X12_of : GoodIn wsX12_failure wsX12_of := goodIn_r _ [18, 2, 19, 20, 6, 21, 22, 23, 24, 25, 26, 27, 28, 29, 30, 31, 32] (by decide +kernel) (by decide +kernel)
set_option maxRecDepth 20000 in
theorem gX12_failure_X12_of : GoodIn wsX12_failure (wsV RX12 37 RX12 yX12_of wsX12_of) := goodIn_app (goodIn_of _ (by decide +kernel)) ggX12_failure_X12_of
theorem dX12_failure_0 : decode cX12_failure 0 = .ok (.aload_n 0, 1) := by decide +kernel
theorem dX12_failure_1 : decode cX12_failure 1 = .ok (.iconst 0, 1) := by decide +kernel
theorem dX12_failure_2 : decode cX12_failure 2 = .ok (.putfield 26, 3) := by decide +kernel
theorem dX12_failure_5 : decode cX12_failure 5 = .ok (.aload_n 0, 1) := by decide +kernel
theorem dX12_failure_6 : decode cX12_failure 6 = .ok (.iload_n 1, 1) := by decide +kernel
theorem dX12_failure_7 : decode cX12_failure 7 = .ok (.invokevirtual 141, 3) := by decide +kernel
theorem dX12_failure_10 : decode cX12_failure 10 = .ok (.ifCond .ne 9, 3) := by decide +kernel
theorem dX12_failure_13 : decode cX12_failure 13 = .ok (.aload_n 0, 1) := by decide +kernel
theorem dX12_failure_14 : decode cX12_failure 14 = .ok (.iconst 1, 1) := by decide +kernel
theorem dX12_failure_15 : decode cX12_failure 15 = .ok (.invokevirtual 45, 3) := by decide +kernel
theorem dX12_failure_18 : decode cX12_failure 18 = .ok (.ireturn, 1) := by decide +kernel
theorem dX12_failure_19 : decode cX12_failure 19 = .ok (.iload_n 3, 1) := by decide +kernel
theorem dX12_failure_20 : decode cX12_failure 20 = .ok (.iconst 0, 1) := by decide +kernel
theorem dX12_failure_21 : decode cX12_failure 21 = .ok (.iconst 1, 1) := by decide +kernel
theorem dX12_failure_22 : decode cX12_failure 22 = .ok (.invokestatic 33, 3) := by decide +kernel
theorem dX12_failure_25 : decode cX12_failure 25 = .ok (.ifCond .ne 9, 3) := by decide +kernel
theorem dX12_failure_28 : decode cX12_failure 28 = .ok (.aload_n 0, 1) := by decide +kernel
theorem dX12_failure_29 : decode cX12_failure 29 = .ok (.iconst 2, 1) := by decide +kernel
theorem dX12_failure_30 : decode cX12_failure 30 = .ok (.invokevirtual 45, 3) := by decide +kernel
theorem dX12_failure_33 : decode cX12_failure 33 = .ok (.ireturn, 1) := by decide +kernel
theorem dX12_failure_34 : decode cX12_failure 34 = .ok (.aload_n 0, 1) := by decide +kernel
theorem dX12_failure_35 : decode cX12_failure 35 = .ok (.iload_n 1, 1) := by decide +kernel
theorem dX12_failure_36 : decode cX12_failure 36 = .ok (.bipush 6, 2) := by decide +kernel
theorem dX12_failure_38 : decode cX12_failure 38 = .ok (.invokevirtual 37, 3) := by decide +kernel
theorem dX12_failure_41 : decode cX12_failure 41 = .ok (.iconst 3, 1) := by decide +kernel
theorem dX12_failure_42 : decode cX12_failure 42 = .ok (.if_icmp .ne 7, 3) := by decide +kernel
theorem dX12_failure_45 : decode cX12_failure 45 = .ok (.iload_n 2, 1) := by decide +kernel
theorem dX12_failure_46 : decode cX12_failure 46 = .ok (.ifCond .ge 9, 3) := by decide +kernel
theorem dX12_failure_49 : decode cX12_failure 49 = .ok (.aload_n 0, 1) := by decide +kernel
theorem dX12_failure_50 : decode cX12_failure 50 = .ok (.iconst 3, 1) := by decide +kernel
theorem dX12_failure_51 : decode cX12_failure 51 = .ok (.invokevirtual 45, 3) := by decide +kernel
theorem dX12_failure_54 : decode cX12_failure 54 = .ok (.ireturn, 1) := by decide +kernel
theorem dX12_failure_55 : decode cX12_failure 55 = .ok (.aload_n 0, 1) := by decide +kernel
theorem dX12_failure_56 : decode cX12_failure 56 = .ok (.iload_n 1, 1) := by decide +kernel
theorem dX12_failure_57 : decode cX12_failure 57 = .ok (.bipush 8, 2) := by decide +kernel
theorem dX12_failure_59 : decode cX12_failure 59 = .ok (.invokevirtual 37, 3) := by decide +kernel
theorem dX12_failure_62 : decode cX12_failure 62 = .ok (.istore 4, 2) := by decide +kernel
theorem dX12_failure_64 : decode cX12_failure 64 = .ok (.iconst 0, 1) := by decide +kernel
theorem dX12_failure_65 : decode cX12_failure 65 = .ok (.istore 5, 2) := by decide +kernel
theorem dX12_failure_67 : decode cX12_failure 67 = .ok (.iload 5, 2) := by decide +kernel
theorem dX12_failure_69 : decode cX12_failure 69 = .ok (.iload_n 2, 1) := by decide +kernel
theorem dX12_failure_70 : decode cX12_failure 70 = .ok (.if_icmp .ge 32, 3) := by decide +kernel
theorem dX12_failure_73 : decode cX12_failure 73 = .ok (.iload 4, 2) := by decide +kernel
theorem dX12_failure_75 : decode cX12_failure 75 = .ok (.iconst (-1), 1) := by decide +kernel
theorem dX12_failure_76 : decode cX12_failure 76 = .ok (.if_icmp .eq 26, 3) := by decide +kernel
theorem dX12_failure_79 : decode cX12_failure 79 = .ok (.aload_n 0, 1) := by decide +kernel
theorem dX12_failure_80 : decode cX12_failure 80 = .ok (.getfield 9, 3) := by decide +kernel
theorem dX12_failure_83 : decode cX12_failure 83 = .ok (.sipush 3231, 3) := by decide +kernel
theorem dX12_failure_86 : decode cX12_failure 86 = .ok (.iconst 3, 1) := by decide +kernel
theorem dX12_failure_87 : decode cX12_failure 87 = .ok (.iload 4, 2) := by decide +kernel
theorem dX12_failure_89 : decode cX12_failure 89 = .ok (.imul, 1) := by decide +kernel
theorem dX12_failure_90 : decode cX12_failure 90 = .ok (.iadd, 1) := by decide +kernel
theorem dX12_failure_91 : decode cX12_failure 91 = .ok (.iconst 2, 1) := by decide +kernel
theorem dX12_failure_92 : decode cX12_failure 92 = .ok (.iadd, 1) := by decide +kernel
theorem dX12_failure_93 : decode cX12_failure 93 = .ok (.iaload, 1) := by decide +kernel
theorem dX12_failure_94 : decode cX12_failure 94 = .ok (.istore 4, 2) := by decide +kernel
theorem dX12_failure_96 : decode cX12_failure 96 = .ok (.iinc 5 1, 3) := by decide +kernel
theorem dX12_failure_99 : decode cX12_failure 99 = .ok (.goto (-32), 3) := by decide +kernel
theorem dX12_failure_102 : decode cX12_failure 102 = .ok (.iload 4, 2) := by decide +kernel
theorem dX12_failure_104 : decode cX12_failure 104 = .ok (.iconst (-1), 1) := by decide +kernel
theorem dX12_failure_105 : decode cX12_failure 105 = .ok (.if_icmp .ne 11, 3) := by decide +kernel
theorem dX12_failure_108 : decode cX12_failure 108 = .ok (.aload_n 0, 1) := by decide +kernel
theorem dX12_failure_109 : decode cX12_failure 109 = .ok (.iconst 3, 1) := by decide +kernel
theorem dX12_failure_110 : decode cX12_failure 110 = .ok (.invokevirtual 45, 3) := by decide +kernel
theorem dX12_failure_113 : decode cX12_failure 113 = .ok (.goto 18, 3) := by decide +kernel
theorem dX12_failure_116 : decode cX12_failure 116 = .ok (.aload_n 0, 1) := by decide +kernel
theorem dX12_failure_117 : decode cX12_failure 117 = .ok (.getfield 9, 3) := by decide +kernel
theorem dX12_failure_120 : decode cX12_failure 120 = .ok (.sipush 3231, 3) := by decide +kernel
theorem dX12_failure_123 : decode cX12_failure 123 = .ok (.iconst 3, 1) := by decide +kernel
theorem dX12_failure_124 : decode cX12_failure 124 = .ok (.iload 4, 2) := by decide +kernel
theorem dX12_failure_126 : decode cX12_failure 126 = .ok (.imul, 1) := by decide +kernel
theorem dX12_failure_127 : decode cX12_failure 127 = .ok (.iadd, 1) := by decide +kernel
theorem dX12_failure_128 : decode cX12_failure 128 = .ok (.iload_n 3, 1) := by decide +kernel
theorem dX12_failure_129 : decode cX12_failure 129 = .ok (.iadd, 1) := by decide +kernel
theorem dX12_failure_130 : decode cX12_failure 130 = .ok (.iaload, 1) := by decide +kernel
theorem dX12_failure_131 : decode cX12_failure 131 = .ok (.ireturn, 1) := by decide +kernel
set_option maxRecDepth 20000 in
theorem ggX12_ready_X12_in : GoodIn wsX12_ready wsX12_in := goodIn_r _ [6] (by decide +kernel) (by decide +kernel)
set_option maxRecDepth 20000 in
theorem gX12_ready_X12_in : GoodIn wsX12_ready (va_wsS RX12 33 yX12_in wsX12_in) := goodIn_app (goodIn_of _ (by decide +kernel)) ggX12_ready_X12_in
set_option maxRecDepth 20000 in
theorem ggX12_ready_X12_raises : GoodIn wsX12_ready wsX12_raises := goodIn_r _ [10, 1, 11, 12, 13, 14, 15, 16, 17, 18, 19, 20, 21] (by decide +kernel) (by decide +kernel)
set_option maxRecDepth 20000 in
theorem gX12_ready_X12_raises : GoodIn wsX12_ready (wsV RX12 45 RX12 yX12_raises wsX12_raises) := goodIn_app (goodIn_of _ (by decide +kernel)) ggX12_ready_X12_raises
theorem dX12_ready_0 : decode cX12_ready 0 = .ok (.aload_n 0, 1) := by decide +kernel
theorem dX12_ready_1 : decode cX12_ready 1 = .ok (.iconst 0, 1) := by decide +kernel
theorem dX12_ready_2 : decode cX12_ready 2 = .ok (.putfield 26, 3) := by decide +kernel
theorem dX12_ready_5 : decode cX12_ready 5 = .ok (.iload_n 1, 1) := by decide +kernel
theorem dX12_ready_6 : decode cX12_ready 6 = .ok (.iconst 0, 1) := by decide +kernel
theorem dX12_ready_7 : decode cX12_ready 7 = .ok (.aload_n 0, 1) := by decide +kernel
theorem dX12_ready_8 : decode cX12_ready 8 = .ok (.getfield 9, 3) := by decide +kernel
theorem dX12_ready_11 : decode cX12_ready 11 = .ok (.sipush 173, 3) := by decide +kernel
theorem dX12_ready_14 : decode cX12_ready 14 = .ok (.iaload, 1) := by decide +kernel
theorem dX12_ready_15 : decode cX12_ready 15 = .ok (.iconst 1, 1) := by decide +kernel
theorem dX12_ready_16 : decode cX12_ready 16 = .ok (.isub, 1) := by decide +kernel
theorem dX12_ready_17 : decode cX12_ready 17 = .ok (.invokestatic 33, 3) := by decide +kernel
theorem dX12_ready_20 : decode cX12_ready 20 = .ok (.ifCond .eq 16, 3) := by decide +kernel
theorem dX12_ready_23 : decode cX12_ready 23 = .ok (.aload_n 0, 1) := by decide +kernel
theorem dX12_ready_24 : decode cX12_ready 24 = .ok (.getfield 9, 3) := by decide +kernel
theorem dX12_ready_27 : decode cX12_ready 27 = .ok (.sipush 183, 3) := by decide +kernel
theorem dX12_ready_30 : decode cX12_ready 30 = .ok (.iload_n 1, 1) := by decide +kernel
theorem dX12_ready_31 : decode cX12_ready 31 = .ok (.iadd, 1) := by decide +kernel
theorem dX12_ready_32 : decode cX12_ready 32 = .ok (.iaload, 1) := by decide +kernel
theorem dX12_ready_33 : decode cX12_ready 33 = .ok (.goto 8, 3) := by decide +kernel
theorem dX12_ready_36 : decode cX12_ready 36 = .ok (.aload_n 0, 1) := by decide +kernel
theorem dX12_ready_37 : decode cX12_ready 37 = .ok (.iconst 1, 1) := by decide +kernel
theorem dX12_ready_38 : decode cX12_ready 38 = .ok (.invokevirtual 45, 3) := by decide +kernel
theorem dX12_ready_41 : decode cX12_ready 41 = .ok (.ireturn, 1) := by decide +kernel
set_option maxRecDepth 20000 in
theorem ggX12_ended_X12_in : GoodIn wsX12_ended wsX12_in := goodIn_r _ [6] (by decide +kernel) (by decide +kernel)
set_option maxRecDepth 20000 in
theorem gX12_ended_X12_in : GoodIn wsX12_ended (va_wsS RX12 33 yX12_in wsX12_in) := goodIn_app (goodIn_of _ (by decide +kernel)) ggX12_ended_X12_in
set_option maxRecDepth 20000 in
theorem ggX12_ended_X12_raises : GoodIn wsX12_ended wsX12_raises := goodIn_r _ [10, 1, 11, 12, 13, 14, 15, 16, 17, 18, 19, 20, 21] (by decide +kernel) (by decide +kernel)
set_option maxRecDepth 20000 in
theorem gX12_ended_X12_raises : GoodIn wsX12_ended (wsV RX12 45 RX12 yX12_raises wsX12_raises) := goodIn_app (goodIn_of _ (by decide +kernel)) ggX12_ended_X12_raises
theorem dX12_ended_0 : decode cX12_ended 0 = .ok (.aload_n 0, 1) := by decide +kernel
theorem dX12_ended_1 : decode cX12_ended 1 = .ok (.iconst 0, 1) := by decide +kernel
theorem dX12_ended_2 : decode cX12_ended 2 = .ok (.putfield 26, 3) := by decide +kernel
theorem dX12_ended_5 : decode cX12_ended 5 = .ok (.iload_n 1, 1) := by decide +kernel
theorem dX12_ended_6 : decode cX12_ended 6 = .ok (.iconst 0, 1) := by decide +kernel
theorem dX12_ended_7 : decode cX12_ended 7 = .ok (.aload_n 0, 1) := by decide +kernel
theorem dX12_ended_8 : decode cX12_ended 8 = .ok (.getfield 9, 3) := by decide +kernel
theorem dX12_ended_11 : decode cX12_ended 11 = .ok (.sipush 174, 3) := by decide +kernel
theorem dX12_ended_14 : decode cX12_ended 14 = .ok (.iaload, 1) := by decide +kernel
theorem dX12_ended_15 : decode cX12_ended 15 = .ok (.iconst 1, 1) := by decide +kernel
theorem dX12_ended_16 : decode cX12_ended 16 = .ok (.isub, 1) := by decide +kernel
theorem dX12_ended_17 : decode cX12_ended 17 = .ok (.invokestatic 33, 3) := by decide +kernel
theorem dX12_ended_20 : decode cX12_ended 20 = .ok (.ifCond .eq 16, 3) := by decide +kernel
theorem dX12_ended_23 : decode cX12_ended 23 = .ok (.aload_n 0, 1) := by decide +kernel
theorem dX12_ended_24 : decode cX12_ended 24 = .ok (.getfield 9, 3) := by decide +kernel
theorem dX12_ended_27 : decode cX12_ended 27 = .ok (.sipush 207, 3) := by decide +kernel
theorem dX12_ended_30 : decode cX12_ended 30 = .ok (.iload_n 1, 1) := by decide +kernel
theorem dX12_ended_31 : decode cX12_ended 31 = .ok (.iadd, 1) := by decide +kernel
theorem dX12_ended_32 : decode cX12_ended 32 = .ok (.iaload, 1) := by decide +kernel
theorem dX12_ended_33 : decode cX12_ended 33 = .ok (.goto 8, 3) := by decide +kernel
theorem dX12_ended_36 : decode cX12_ended 36 = .ok (.aload_n 0, 1) := by decide +kernel
theorem dX12_ended_37 : decode cX12_ended 37 = .ok (.iconst 1, 1) := by decide +kernel
theorem dX12_ended_38 : decode cX12_ended 38 = .ok (.invokevirtual 45, 3) := by decide +kernel
theorem dX12_ended_41 : decode cX12_ended 41 = .ok (.ireturn, 1) := by decide +kernel
set_option maxRecDepth 20000 in
theorem ggX12_isAbove_X12_isTask : GoodIn wsX12_isAbove wsX12_isTask := goodIn_r _ [7, 2, 8, 9, 6, 10, 21, 22, 23, 24, 25, 26, 27, 28, 29, 30, 31] (by decide +kernel) (by decide +kernel)
set_option maxRecDepth 20000 in
theorem gX12_isAbove_X12_isTask : GoodIn wsX12_isAbove (wsV RX12 141 RX12 yX12_isTask wsX12_isTask) := goodIn_app (goodIn_of _ (by decide +kernel)) ggX12_isAbove_X12_isTask
set_option maxRecDepth 20000 in
theorem ggX12_isAbove_X12_of : GoodIn wsX12_isAbove wsX12_of := goodIn_r _ [14, 2, 15, 16, 6, 17, 21, 22, 23, 24, 25, 26, 27, 28, 29, 30, 31] (by decide +kernel) (by decide +kernel)
set_option maxRecDepth 20000 in
theorem gX12_isAbove_X12_of : GoodIn wsX12_isAbove (wsV RX12 37 RX12 yX12_of wsX12_of) := goodIn_app (goodIn_of _ (by decide +kernel)) ggX12_isAbove_X12_of
set_option maxRecDepth 20000 in
theorem ggX12_isAbove_X12_scope : GoodIn wsX12_isAbove wsX12_scope := goodIn_r _ [20] (by decide +kernel) (by decide +kernel)
set_option maxRecDepth 20000 in
theorem gX12_isAbove_X12_scope : GoodIn wsX12_isAbove (va_wsS RX12 127 yX12_scope wsX12_scope) := goodIn_app (goodIn_of _ (by decide +kernel)) ggX12_isAbove_X12_scope
theorem dX12_isAbove_0 : decode cX12_isAbove 0 = .ok (.aload_n 0, 1) := by decide +kernel
theorem dX12_isAbove_1 : decode cX12_isAbove 1 = .ok (.aload_n 0, 1) := by decide +kernel
theorem dX12_isAbove_2 : decode cX12_isAbove 2 = .ok (.iload_n 1, 1) := by decide +kernel
theorem dX12_isAbove_3 : decode cX12_isAbove 3 = .ok (.invokevirtual 141, 3) := by decide +kernel
theorem dX12_isAbove_6 : decode cX12_isAbove 6 = .ok (.ifCond .eq 15, 3) := by decide +kernel
theorem dX12_isAbove_9 : decode cX12_isAbove 9 = .ok (.aload_n 0, 1) := by decide +kernel
theorem dX12_isAbove_10 : decode cX12_isAbove 10 = .ok (.iload_n 2, 1) := by decide +kernel
theorem dX12_isAbove_11 : decode cX12_isAbove 11 = .ok (.invokevirtual 141, 3) := by decide +kernel
theorem dX12_isAbove_14 : decode cX12_isAbove 14 = .ok (.ifCond .eq 7, 3) := by decide +kernel
theorem dX12_isAbove_17 : decode cX12_isAbove 17 = .ok (.iconst 0, 1) := by decide +kernel
theorem dX12_isAbove_18 : decode cX12_isAbove 18 = .ok (.goto 4, 3) := by decide +kernel
theorem dX12_isAbove_21 : decode cX12_isAbove 21 = .ok (.iconst 1, 1) := by decide +kernel
theorem dX12_isAbove_22 : decode cX12_isAbove 22 = .ok (.putfield 26, 3) := by decide +kernel
theorem dX12_isAbove_25 : decode cX12_isAbove 25 = .ok (.aload_n 0, 1) := by decide +kernel
theorem dX12_isAbove_26 : decode cX12_isAbove 26 = .ok (.getfield 26, 3) := by decide +kernel
theorem dX12_isAbove_29 : decode cX12_isAbove 29 = .ok (.ifCond .le 5, 3) := by decide +kernel
theorem dX12_isAbove_32 : decode cX12_isAbove 32 = .ok (.iconst 0, 1) := by decide +kernel
theorem dX12_isAbove_33 : decode cX12_isAbove 33 = .ok (.ireturn, 1) := by decide +kernel
theorem dX12_isAbove_34 : decode cX12_isAbove 34 = .ok (.aload_n 0, 1) := by decide +kernel
theorem dX12_isAbove_35 : decode cX12_isAbove 35 = .ok (.iload_n 2, 1) := by decide +kernel
theorem dX12_isAbove_36 : decode cX12_isAbove 36 = .ok (.iconst 4, 1) := by decide +kernel
theorem dX12_isAbove_37 : decode cX12_isAbove 37 = .ok (.invokevirtual 37, 3) := by decide +kernel
theorem dX12_isAbove_40 : decode cX12_isAbove 40 = .ok (.istore_n 3, 1) := by decide +kernel
theorem dX12_isAbove_41 : decode cX12_isAbove 41 = .ok (.iload_n 3, 1) := by decide +kernel
theorem dX12_isAbove_42 : decode cX12_isAbove 42 = .ok (.iconst (-1), 1) := by decide +kernel
theorem dX12_isAbove_43 : decode cX12_isAbove 43 = .ok (.if_icmp .eq 38, 3) := by decide +kernel
theorem dX12_isAbove_46 : decode cX12_isAbove 46 = .ok (.aload_n 0, 1) := by decide +kernel
theorem dX12_isAbove_47 : decode cX12_isAbove 47 = .ok (.getfield 9, 3) := by decide +kernel
theorem dX12_isAbove_50 : decode cX12_isAbove 50 = .ok (.iload_n 3, 1) := by decide +kernel
theorem dX12_isAbove_51 : decode cX12_isAbove 51 = .ok (.invokestatic 127, 3) := by decide +kernel
theorem dX12_isAbove_54 : decode cX12_isAbove 54 = .ok (.iconst 0, 1) := by decide +kernel
theorem dX12_isAbove_55 : decode cX12_isAbove 55 = .ok (.iadd, 1) := by decide +kernel
theorem dX12_isAbove_56 : decode cX12_isAbove 56 = .ok (.iaload, 1) := by decide +kernel
theorem dX12_isAbove_57 : decode cX12_isAbove 57 = .ok (.iload_n 1, 1) := by decide +kernel
theorem dX12_isAbove_58 : decode cX12_isAbove 58 = .ok (.if_icmp .eq 23, 3) := by decide +kernel
theorem dX12_isAbove_61 : decode cX12_isAbove 61 = .ok (.aload_n 0, 1) := by decide +kernel
theorem dX12_isAbove_62 : decode cX12_isAbove 62 = .ok (.aload_n 0, 1) := by decide +kernel
theorem dX12_isAbove_63 : decode cX12_isAbove 63 = .ok (.getfield 9, 3) := by decide +kernel
theorem dX12_isAbove_66 : decode cX12_isAbove 66 = .ok (.iload_n 3, 1) := by decide +kernel
theorem dX12_isAbove_67 : decode cX12_isAbove 67 = .ok (.invokestatic 127, 3) := by decide +kernel
theorem dX12_isAbove_70 : decode cX12_isAbove 70 = .ok (.iconst 0, 1) := by decide +kernel
theorem dX12_isAbove_71 : decode cX12_isAbove 71 = .ok (.iadd, 1) := by decide +kernel
theorem dX12_isAbove_72 : decode cX12_isAbove 72 = .ok (.iaload, 1) := by decide +kernel
theorem dX12_isAbove_73 : decode cX12_isAbove 73 = .ok (.iconst 4, 1) := by decide +kernel
theorem dX12_isAbove_74 : decode cX12_isAbove 74 = .ok (.invokevirtual 37, 3) := by decide +kernel
theorem dX12_isAbove_77 : decode cX12_isAbove 77 = .ok (.istore_n 3, 1) := by decide +kernel
theorem dX12_isAbove_78 : decode cX12_isAbove 78 = .ok (.goto (-37), 3) := by decide +kernel
theorem dX12_isAbove_81 : decode cX12_isAbove 81 = .ok (.iload_n 3, 1) := by decide +kernel
theorem dX12_isAbove_82 : decode cX12_isAbove 82 = .ok (.iconst (-1), 1) := by decide +kernel
theorem dX12_isAbove_83 : decode cX12_isAbove 83 = .ok (.if_icmp .eq 7, 3) := by decide +kernel
theorem dX12_isAbove_86 : decode cX12_isAbove 86 = .ok (.iconst 1, 1) := by decide +kernel
theorem dX12_isAbove_87 : decode cX12_isAbove 87 = .ok (.goto 4, 3) := by decide +kernel
theorem dX12_isAbove_90 : decode cX12_isAbove 90 = .ok (.iconst 0, 1) := by decide +kernel
theorem dX12_isAbove_91 : decode cX12_isAbove 91 = .ok (.ireturn, 1) := by decide +kernel
set_option maxRecDepth 20000 in
theorem ggX12_scopeOf_X12_isTask : GoodIn wsX12_scopeOf wsX12_isTask := goodIn_r _ [6, 7, 8, 9, 5, 10, 22, 23, 24, 25, 26, 27, 28, 29, 30, 31, 32] (by decide +kernel) (by decide +kernel)
set_option maxRecDepth 20000 in
theorem gX12_scopeOf_X12_isTask : GoodIn wsX12_scopeOf (wsV RX12 141 RX12 yX12_isTask wsX12_isTask) := goodIn_app (goodIn_of _ (by decide +kernel)) ggX12_scopeOf_X12_isTask
set_option maxRecDepth 20000 in
theorem ggX12_scopeOf_X12_of : GoodIn wsX12_scopeOf wsX12_of := goodIn_r _ [14, 7, 15, 16, 5, 17, 22, 23, 24, 25, 26, 27, 28, 29, 30, 31, 32] (by decide +kernel) (by decide +kernel)
set_option maxRecDepth 20000 in
theorem gX12_scopeOf_X12_of : GoodIn wsX12_scopeOf (wsV RX12 37 RX12 yX12_of wsX12_of) := goodIn_app (goodIn_of _ (by decide +kernel)) ggX12_scopeOf_X12_of
set_option maxRecDepth 20000 in
theorem ggX12_scopeOf_X12_in : GoodIn wsX12_scopeOf wsX12_in := goodIn_r _ [10] (by decide +kernel) (by decide +kernel)
set_option maxRecDepth 20000 in
theorem gX12_scopeOf_X12_in : GoodIn wsX12_scopeOf (va_wsS RX12 33 yX12_in wsX12_in) := goodIn_app (goodIn_of _ (by decide +kernel)) ggX12_scopeOf_X12_in
set_option maxRecDepth 20000 in
theorem ggX12_scopeOf_X12_raises : GoodIn wsX12_scopeOf wsX12_raises := goodIn_r _ [21, 1, 22, 23, 24, 25, 26, 27, 28, 29, 30, 31, 32] (by decide +kernel) (by decide +kernel)
set_option maxRecDepth 20000 in
theorem gX12_scopeOf_X12_raises : GoodIn wsX12_scopeOf (wsV RX12 45 RX12 yX12_raises wsX12_raises) := goodIn_app (goodIn_of _ (by decide +kernel)) ggX12_scopeOf_X12_raises
theorem dX12_scopeOf_0 : decode cX12_scopeOf 0 = .ok (.aload_n 0, 1) := by decide +kernel
theorem dX12_scopeOf_1 : decode cX12_scopeOf 1 = .ok (.iconst 0, 1) := by decide +kernel
theorem dX12_scopeOf_2 : decode cX12_scopeOf 2 = .ok (.putfield 26, 3) := by decide +kernel
theorem dX12_scopeOf_5 : decode cX12_scopeOf 5 = .ok (.aload_n 0, 1) := by decide +kernel
theorem dX12_scopeOf_6 : decode cX12_scopeOf 6 = .ok (.iload_n 1, 1) := by decide +kernel
theorem dX12_scopeOf_7 : decode cX12_scopeOf 7 = .ok (.invokevirtual 141, 3) := by decide +kernel
theorem dX12_scopeOf_10 : decode cX12_scopeOf 10 = .ok (.ifCond .eq 31, 3) := by decide +kernel
theorem dX12_scopeOf_13 : decode cX12_scopeOf 13 = .ok (.iload_n 2, 1) := by decide +kernel
theorem dX12_scopeOf_14 : decode cX12_scopeOf 14 = .ok (.iconst 0, 1) := by decide +kernel
theorem dX12_scopeOf_15 : decode cX12_scopeOf 15 = .ok (.aload_n 0, 1) := by decide +kernel
theorem dX12_scopeOf_16 : decode cX12_scopeOf 16 = .ok (.iload_n 1, 1) := by decide +kernel
theorem dX12_scopeOf_17 : decode cX12_scopeOf 17 = .ok (.iconst 3, 1) := by decide +kernel
theorem dX12_scopeOf_18 : decode cX12_scopeOf 18 = .ok (.invokevirtual 37, 3) := by decide +kernel
theorem dX12_scopeOf_21 : decode cX12_scopeOf 21 = .ok (.iconst 1, 1) := by decide +kernel
theorem dX12_scopeOf_22 : decode cX12_scopeOf 22 = .ok (.isub, 1) := by decide +kernel
theorem dX12_scopeOf_23 : decode cX12_scopeOf 23 = .ok (.invokestatic 33, 3) := by decide +kernel
theorem dX12_scopeOf_26 : decode cX12_scopeOf 26 = .ok (.ifCond .eq 15, 3) := by decide +kernel
theorem dX12_scopeOf_29 : decode cX12_scopeOf 29 = .ok (.aload_n 0, 1) := by decide +kernel
theorem dX12_scopeOf_30 : decode cX12_scopeOf 30 = .ok (.iload_n 1, 1) := by decide +kernel
theorem dX12_scopeOf_31 : decode cX12_scopeOf 31 = .ok (.bipush 15, 2) := by decide +kernel
theorem dX12_scopeOf_33 : decode cX12_scopeOf 33 = .ok (.iload_n 2, 1) := by decide +kernel
theorem dX12_scopeOf_34 : decode cX12_scopeOf 34 = .ok (.iadd, 1) := by decide +kernel
theorem dX12_scopeOf_35 : decode cX12_scopeOf 35 = .ok (.invokevirtual 37, 3) := by decide +kernel
theorem dX12_scopeOf_38 : decode cX12_scopeOf 38 = .ok (.goto 8, 3) := by decide +kernel
theorem dX12_scopeOf_41 : decode cX12_scopeOf 41 = .ok (.aload_n 0, 1) := by decide +kernel
theorem dX12_scopeOf_42 : decode cX12_scopeOf 42 = .ok (.iconst 1, 1) := by decide +kernel
theorem dX12_scopeOf_43 : decode cX12_scopeOf 43 = .ok (.invokevirtual 45, 3) := by decide +kernel
theorem dX12_scopeOf_46 : decode cX12_scopeOf 46 = .ok (.ireturn, 1) := by decide +kernel
set_option maxRecDepth 20000 in
theorem ggX12_isChannel_X12_in : GoodIn wsX12_isChannel wsX12_in := goodIn_r _ [4] (by decide +kernel) (by decide +kernel)
set_option maxRecDepth 20000 in
theorem gX12_isChannel_X12_in : GoodIn wsX12_isChannel (va_wsS RX12 33 yX12_in wsX12_in) := goodIn_app (goodIn_of _ (by decide +kernel)) ggX12_isChannel_X12_in
theorem dX12_isChannel_0 : decode cX12_isChannel 0 = .ok (.iload_n 0, 1) := by decide +kernel
theorem dX12_isChannel_1 : decode cX12_isChannel 1 = .ok (.iconst 0, 1) := by decide +kernel
theorem dX12_isChannel_2 : decode cX12_isChannel 2 = .ok (.iconst 3, 1) := by decide +kernel
theorem dX12_isChannel_3 : decode cX12_isChannel 3 = .ok (.invokestatic 33, 3) := by decide +kernel
theorem dX12_isChannel_6 : decode cX12_isChannel 6 = .ok (.ireturn, 1) := by decide +kernel
set_option maxRecDepth 20000 in
theorem ggX12_channel__X12_isChannel : GoodIn wsX12_channel_ wsX12_isChannel := goodIn_r _ [6, 7, 8, 5, 9] (by decide +kernel) (by decide +kernel)
set_option maxRecDepth 20000 in
theorem gX12_channel__X12_isChannel : GoodIn wsX12_channel_ (va_wsS RX12 232 yX12_isChannel wsX12_isChannel) := goodIn_app (goodIn_of _ (by decide +kernel)) ggX12_channel__X12_isChannel
set_option maxRecDepth 20000 in
theorem ggX12_channel__X12_raises : GoodIn wsX12_channel_ wsX12_raises := goodIn_r _ [13, 1, 32, 33, 34, 35, 36, 37, 38, 39, 40, 41, 42] (by decide +kernel) (by decide +kernel)
set_option maxRecDepth 20000 in
theorem gX12_channel__X12_raises : GoodIn wsX12_channel_ (wsV RX12 45 RX12 yX12_raises wsX12_raises) := goodIn_app (goodIn_of _ (by decide +kernel)) ggX12_channel__X12_raises
set_option maxRecDepth 20000 in
theorem ggX12_channel__X12_channel : GoodIn wsX12_channel_ wsX12_channel := goodIn_r _ [16] (by decide +kernel) (by decide +kernel)
set_option maxRecDepth 20000 in
theorem gX12_channel__X12_channel : GoodIn wsX12_channel_ (va_wsS RX12 92 yX12_channel wsX12_channel) := goodIn_app (goodIn_of _ (by decide +kernel)) ggX12_channel__X12_channel
set_option maxRecDepth 20000 in
theorem ggX12_channel__X12_waiting : GoodIn wsX12_channel_ wsX12_waiting := goodIn_r _ [20, 2, 21, 22, 23, 5, 24, 25, 26, 27, 28, 29, 30, 31, 32, 33, 34, 35, 36, 37, 38, 39, 40, 41, 42] (by decide +kernel) (by decide +kernel)
set_option maxRecDepth 20000 in
theorem gX12_channel__X12_waiting : GoodIn wsX12_channel_ (wsV RX12 235 RX12 yX12_waiting wsX12_waiting) := goodIn_app (goodIn_of _ (by decide +kernel)) ggX12_channel__X12_waiting
theorem dX12_channel__0 : decode cX12_channel_ 0 = .ok (.aload_n 0, 1) := by decide +kernel
theorem dX12_channel__1 : decode cX12_channel_ 1 = .ok (.iconst 0, 1) := by decide +kernel
theorem dX12_channel__2 : decode cX12_channel_ 2 = .ok (.putfield 26, 3) := by decide +kernel
theorem dX12_channel__5 : decode cX12_channel_ 5 = .ok (.iload_n 1, 1) := by decide +kernel
theorem dX12_channel__6 : decode cX12_channel_ 6 = .ok (.invokestatic 232, 3) := by decide +kernel
theorem dX12_channel__9 : decode cX12_channel_ 9 = .ok (.ifCond .ne 9, 3) := by decide +kernel
theorem dX12_channel__12 : decode cX12_channel_ 12 = .ok (.aload_n 0, 1) := by decide +kernel
theorem dX12_channel__13 : decode cX12_channel_ 13 = .ok (.iconst 1, 1) := by decide +kernel
theorem dX12_channel__14 : decode cX12_channel_ 14 = .ok (.invokevirtual 45, 3) := by decide +kernel
theorem dX12_channel__17 : decode cX12_channel_ 17 = .ok (.ireturn, 1) := by decide +kernel
theorem dX12_channel__18 : decode cX12_channel_ 18 = .ok (.iload_n 2, 1) := by decide +kernel
theorem dX12_channel__19 : decode cX12_channel_ 19 = .ok (.tableswitch 65 0 3 #[29, 39, 51, 58], 29) := by decide +kernel
theorem dX12_channel__48 : decode cX12_channel_ 48 = .ok (.aload_n 0, 1) := by decide +kernel
theorem dX12_channel__49 : decode cX12_channel_ 49 = .ok (.getfield 9, 3) := by decide +kernel
theorem dX12_channel__52 : decode cX12_channel_ 52 = .ok (.iload_n 1, 1) := by decide +kernel
theorem dX12_channel__53 : decode cX12_channel_ 53 = .ok (.invokestatic 92, 3) := by decide +kernel
theorem dX12_channel__56 : decode cX12_channel_ 56 = .ok (.iaload, 1) := by decide +kernel
theorem dX12_channel__57 : decode cX12_channel_ 57 = .ok (.ireturn, 1) := by decide +kernel
theorem dX12_channel__58 : decode cX12_channel_ 58 = .ok (.aload_n 0, 1) := by decide +kernel
theorem dX12_channel__59 : decode cX12_channel_ 59 = .ok (.getfield 9, 3) := by decide +kernel
theorem dX12_channel__62 : decode cX12_channel_ 62 = .ok (.iload_n 1, 1) := by decide +kernel
theorem dX12_channel__63 : decode cX12_channel_ 63 = .ok (.invokestatic 92, 3) := by decide +kernel
theorem dX12_channel__66 : decode cX12_channel_ 66 = .ok (.iconst 1, 1) := by decide +kernel
theorem dX12_channel__67 : decode cX12_channel_ 67 = .ok (.iadd, 1) := by decide +kernel
theorem dX12_channel__68 : decode cX12_channel_ 68 = .ok (.iaload, 1) := by decide +kernel
theorem dX12_channel__69 : decode cX12_channel_ 69 = .ok (.ireturn, 1) := by decide +kernel
theorem dX12_channel__70 : decode cX12_channel_ 70 = .ok (.aload_n 0, 1) := by decide +kernel
theorem dX12_channel__71 : decode cX12_channel_ 71 = .ok (.iload_n 1, 1) := by decide +kernel
theorem dX12_channel__72 : decode cX12_channel_ 72 = .ok (.iconst 1, 1) := by decide +kernel
theorem dX12_channel__73 : decode cX12_channel_ 73 = .ok (.invokevirtual 235, 3) := by decide +kernel
theorem dX12_channel__76 : decode cX12_channel_ 76 = .ok (.ireturn, 1) := by decide +kernel
theorem dX12_channel__77 : decode cX12_channel_ 77 = .ok (.aload_n 0, 1) := by decide +kernel
theorem dX12_channel__78 : decode cX12_channel_ 78 = .ok (.iload_n 1, 1) := by decide +kernel
theorem dX12_channel__79 : decode cX12_channel_ 79 = .ok (.iconst 0, 1) := by decide +kernel
theorem dX12_channel__80 : decode cX12_channel_ 80 = .ok (.invokevirtual 235, 3) := by decide +kernel
theorem dX12_channel__83 : decode cX12_channel_ 83 = .ok (.ireturn, 1) := by decide +kernel
theorem dX12_channel__84 : decode cX12_channel_ 84 = .ok (.aload_n 0, 1) := by decide +kernel
theorem dX12_channel__85 : decode cX12_channel_ 85 = .ok (.iconst 2, 1) := by decide +kernel
theorem dX12_channel__86 : decode cX12_channel_ 86 = .ok (.invokevirtual 45, 3) := by decide +kernel
theorem dX12_channel__89 : decode cX12_channel_ 89 = .ok (.ireturn, 1) := by decide +kernel
set_option maxRecDepth 20000 in
theorem ggX12_content_X12_isChannel : GoodIn wsX12_content wsX12_isChannel := goodIn_r _ [6, 7, 8, 5, 9] (by decide +kernel) (by decide +kernel)
set_option maxRecDepth 20000 in
theorem gX12_content_X12_isChannel : GoodIn wsX12_content (va_wsS RX12 232 yX12_isChannel wsX12_isChannel) := goodIn_app (goodIn_of _ (by decide +kernel)) ggX12_content_X12_isChannel
set_option maxRecDepth 20000 in
theorem ggX12_content_X12_raises : GoodIn wsX12_content wsX12_raises := goodIn_r _ [13, 1, 17, 18, 19, 20, 21, 22, 23, 24, 25, 26, 27] (by decide +kernel) (by decide +kernel)
set_option maxRecDepth 20000 in
theorem gX12_content_X12_raises : GoodIn wsX12_content (wsV RX12 45 RX12 yX12_raises wsX12_raises) := goodIn_app (goodIn_of _ (by decide +kernel)) ggX12_content_X12_raises
set_option maxRecDepth 20000 in
theorem ggX12_content_X12_channel : GoodIn wsX12_content wsX12_channel := goodIn_r _ [16] (by decide +kernel) (by decide +kernel)
set_option maxRecDepth 20000 in
theorem gX12_content_X12_channel : GoodIn wsX12_content (va_wsS RX12 92 yX12_channel wsX12_channel) := goodIn_app (goodIn_of _ (by decide +kernel)) ggX12_content_X12_channel
set_option maxRecDepth 20000 in
theorem ggX12_content_X12_in : GoodIn wsX12_content wsX12_in := goodIn_r _ [9] (by decide +kernel) (by decide +kernel)
set_option maxRecDepth 20000 in
theorem gX12_content_X12_in : GoodIn wsX12_content (va_wsS RX12 33 yX12_in wsX12_in) := goodIn_app (goodIn_of _ (by decide +kernel)) ggX12_content_X12_in
theorem dX12_content_0 : decode cX12_content 0 = .ok (.aload_n 0, 1) := by decide +kernel
theorem dX12_content_1 : decode cX12_content 1 = .ok (.iconst 0, 1) := by decide +kernel
theorem dX12_content_2 : decode cX12_content 2 = .ok (.putfield 26, 3) := by decide +kernel
theorem dX12_content_5 : decode cX12_content 5 = .ok (.iload_n 1, 1) := by decide +kernel
