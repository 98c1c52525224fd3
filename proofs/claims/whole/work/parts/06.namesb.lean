theorem dX5_readRoom_50 : decode cX5_readRoom 50 = .ok (.aload_n 0, 1) := by decide +kernel
theorem dX5_readRoom_51 : decode cX5_readRoom 51 = .ok (.getfield 30, 3) := by decide +kernel
theorem dX5_readRoom_54 : decode cX5_readRoom 54 = .ok (.aload_n 0, 1) := by decide +kernel
theorem dX5_readRoom_55 : decode cX5_readRoom 55 = .ok (.iload_n 1, 1) := by decide +kernel
theorem dX5_readRoom_56 : decode cX5_readRoom 56 = .ok (.invokevirtual 73, 3) := by decide +kernel
theorem dX5_readRoom_59 : decode cX5_readRoom 59 = .ok (.invokevirtual 76, 3) := by decide +kernel
theorem dX5_readRoom_62 : decode cX5_readRoom 62 = .ok (.aload_n 0, 1) := by decide +kernel
theorem dX5_readRoom_63 : decode cX5_readRoom 63 = .ok (.getfield 34, 3) := by decide +kernel
theorem dX5_readRoom_66 : decode cX5_readRoom 66 = .ok (.aload_n 0, 1) := by decide +kernel
theorem dX5_readRoom_67 : decode cX5_readRoom 67 = .ok (.iload_n 1, 1) := by decide +kernel
theorem dX5_readRoom_68 : decode cX5_readRoom 68 = .ok (.iconst 1, 1) := by decide +kernel
theorem dX5_readRoom_69 : decode cX5_readRoom 69 = .ok (.iadd, 1) := by decide +kernel
theorem dX5_readRoom_70 : decode cX5_readRoom 70 = .ok (.invokevirtual 73, 3) := by decide +kernel
theorem dX5_readRoom_73 : decode cX5_readRoom 73 = .ok (.invokevirtual 76, 3) := by decide +kernel
theorem dX5_readRoom_76 : decode cX5_readRoom 76 = .ok (.iconst 1, 1) := by decide +kernel
theorem dX5_readRoom_77 : decode cX5_readRoom 77 = .ok (.ireturn, 1) := by decide +kernel
set_option maxRecDepth 20000 in
theorem ggX5_readProgram_X5_digit : GoodIn wsX5_readProgram wsX5_digit := goodIn_r _ [8, 9, 10, 11, 12, 13, 14, 15, 16, 61, 62, 63, 64, 65, 66, 67, 68, 69] (by decide +kernel) (by decide +kernel)
set_option maxRecDepth 20000 in
theorem gX5_readProgram_X5_digit : GoodIn wsX5_readProgram (wsV RX5 73 RX5 yX5_digit wsX5_digit) := goodIn_app (goodIn_of _ (by decide +kernel)) ggX5_readProgram_X5_digit
set_option maxRecDepth 20000 in
theorem ggX5_readProgram_X5_pass : GoodIn wsX5_readProgram wsX5_pass := goodIn_r _ [20, 9, 1, 10, 11, 12, 13, 14, 15, 16, 61, 62, 63, 64, 65, 66, 67, 68, 69] (by decide +kernel) (by decide +kernel)
set_option maxRecDepth 20000 in
theorem gX5_readProgram_X5_pass : GoodIn wsX5_readProgram (wsV RX5 69 RX5 yX5_pass wsX5_pass) := goodIn_app (goodIn_of _ (by decide +kernel)) ggX5_readProgram_X5_pass
set_option maxRecDepth 20000 in
theorem ggX5_readProgram_X0_empty : GoodIn wsX5_readProgram wsX0_empty := goodIn_r _ [25, 26, 27, 28, 29, 30, 31, 32, 70, 71, 72] (by decide +kernel) (by decide +kernel)
set_option maxRecDepth 20000 in
theorem gX5_readProgram_X0_empty : GoodIn wsX5_readProgram (wsV RX5 79 RX0 yX0_empty wsX0_empty) := goodIn_app (goodIn_of _ (by decide +kernel)) ggX5_readProgram_X0_empty
set_option maxRecDepth 20000 in
theorem ggX5_readProgram_X6_put : GoodIn wsX5_readProgram wsX6_put := goodIn_r _ [31, 32, 72] (by decide +kernel) (by decide +kernel)
set_option maxRecDepth 20000 in
theorem gX5_readProgram_X6_put : GoodIn wsX5_readProgram (wsV RX5 82 RX6 yX6_put wsX6_put) := goodIn_app (goodIn_of _ (by decide +kernel)) ggX5_readProgram_X6_put
set_option maxRecDepth 20000 in
theorem ggX5_readProgram_X5_readInstructions : GoodIn wsX5_readProgram wsX5_readInstructions := goodIn_r _ [37, 1, 9, 2, 10, 11, 12, 13, 14, 15, 16, 17, 18, 19, 7, 20, 38, 39, 40, 41, 42, 43, 44, 45, 46, 47, 48, 4, 5, 6, 8, 49, 50, 51, 24, 52, 26, 53, 54, 55, 56, 30, 57, 32, 27, 28, 29, 31, 58, 59, 60, 61, 62, 63, 64, 65, 66, 67, 68, 69, 70, 71, 72] (by decide +kernel) (by decide +kernel)
set_option maxRecDepth 20000 in
theorem gX5_readProgram_X5_readInstructions : GoodIn wsX5_readProgram (wsV RX5 86 RX5 yX5_readInstructions wsX5_readInstructions) := goodIn_app (goodIn_of _ (by decide +kernel)) ggX5_readProgram_X5_readInstructions
theorem dX5_readProgram_0 : decode cX5_readProgram 0 = .ok (.aload_n 0, 1) := by decide +kernel
theorem dX5_readProgram_1 : decode cX5_readProgram 1 = .ok (.aload_n 0, 1) := by decide +kernel
theorem dX5_readProgram_2 : decode cX5_readProgram 2 = .ok (.getfield 48, 3) := by decide +kernel
theorem dX5_readProgram_5 : decode cX5_readProgram 5 = .ok (.invokevirtual 73, 3) := by decide +kernel
theorem dX5_readProgram_8 : decode cX5_readProgram 8 = .ok (.istore_n 1, 1) := by decide +kernel
theorem dX5_readProgram_9 : decode cX5_readProgram 9 = .ok (.aload_n 0, 1) := by decide +kernel
theorem dX5_readProgram_10 : decode cX5_readProgram 10 = .ok (.bipush 48, 2) := by decide +kernel
theorem dX5_readProgram_12 : decode cX5_readProgram 12 = .ok (.bipush 53, 2) := by decide +kernel
theorem dX5_readProgram_14 : decode cX5_readProgram 14 = .ok (.invokevirtual 69, 3) := by decide +kernel
theorem dX5_readProgram_17 : decode cX5_readProgram 17 = .ok (.ifCond .eq 14, 3) := by decide +kernel
theorem dX5_readProgram_20 : decode cX5_readProgram 20 = .ok (.aload_n 0, 1) := by decide +kernel
theorem dX5_readProgram_21 : decode cX5_readProgram 21 = .ok (.bipush 58, 2) := by decide +kernel
theorem dX5_readProgram_23 : decode cX5_readProgram 23 = .ok (.bipush 58, 2) := by decide +kernel
theorem dX5_readProgram_25 : decode cX5_readProgram 25 = .ok (.invokevirtual 69, 3) := by decide +kernel
theorem dX5_readProgram_28 : decode cX5_readProgram 28 = .ok (.ifCond .ne 5, 3) := by decide +kernel
theorem dX5_readProgram_31 : decode cX5_readProgram 31 = .ok (.iconst 0, 1) := by decide +kernel
theorem dX5_readProgram_32 : decode cX5_readProgram 32 = .ok (.ireturn, 1) := by decide +kernel
theorem dX5_readProgram_33 : decode cX5_readProgram 33 = .ok (.aload_n 0, 1) := by decide +kernel
theorem dX5_readProgram_34 : decode cX5_readProgram 34 = .ok (.getfield 14, 3) := by decide +kernel
theorem dX5_readProgram_37 : decode cX5_readProgram 37 = .ok (.iload_n 1, 1) := by decide +kernel
theorem dX5_readProgram_38 : decode cX5_readProgram 38 = .ok (.invokevirtual 79, 3) := by decide +kernel
theorem dX5_readProgram_41 : decode cX5_readProgram 41 = .ok (.aload_n 0, 1) := by decide +kernel
theorem dX5_readProgram_42 : decode cX5_readProgram 42 = .ok (.getfield 23, 3) := by decide +kernel
theorem dX5_readProgram_45 : decode cX5_readProgram 45 = .ok (.iload_n 1, 1) := by decide +kernel
theorem dX5_readProgram_46 : decode cX5_readProgram 46 = .ok (.iconst 1, 1) := by decide +kernel
theorem dX5_readProgram_47 : decode cX5_readProgram 47 = .ok (.invokevirtual 82, 3) := by decide +kernel
theorem dX5_readProgram_50 : decode cX5_readProgram 50 = .ok (.aload_n 0, 1) := by decide +kernel
theorem dX5_readProgram_51 : decode cX5_readProgram 51 = .ok (.iload_n 1, 1) := by decide +kernel
theorem dX5_readProgram_52 : decode cX5_readProgram 52 = .ok (.invokevirtual 86, 3) := by decide +kernel
theorem dX5_readProgram_55 : decode cX5_readProgram 55 = .ok (.ireturn, 1) := by decide +kernel
set_option maxRecDepth 20000 in
theorem ggX5_readInstructions_X4_at : GoodIn wsX5_readInstructions wsX4_at := goodIn_r _ [8, 9, 10, 58, 59] (by decide +kernel) (by decide +kernel)
set_option maxRecDepth 20000 in
theorem gX5_readInstructions_X4_at : GoodIn wsX5_readInstructions (wsV RX5 59 RX4 yX4_at wsX4_at) := goodIn_app (goodIn_of _ (by decide +kernel)) ggX5_readInstructions_X4_at
set_option maxRecDepth 20000 in
theorem ggX5_readInstructions_X5_pass : GoodIn wsX5_readInstructions wsX5_pass := goodIn_r _ [15, 2, 1, 4, 5, 6, 7, 8, 9, 10, 51, 52, 53, 54, 55, 56, 57, 58, 59] (by decide +kernel) (by decide +kernel)
set_option maxRecDepth 20000 in
theorem gX5_readInstructions_X5_pass : GoodIn wsX5_readInstructions (wsV RX5 69 RX5 yX5_pass wsX5_pass) := goodIn_app (goodIn_of _ (by decide +kernel)) ggX5_readInstructions_X5_pass
set_option maxRecDepth 20000 in
theorem ggX5_readInstructions_X5_mayStand : GoodIn wsX5_readInstructions wsX5_mayStand := goodIn_r _ [18] (by decide +kernel) (by decide +kernel)
set_option maxRecDepth 20000 in
theorem gX5_readInstructions_X5_mayStand : GoodIn wsX5_readInstructions (va_wsS RX5 90 yX5_mayStand wsX5_mayStand) := goodIn_app (goodIn_of _ (by decide +kernel)) ggX5_readInstructions_X5_mayStand
set_option maxRecDepth 20000 in
theorem ggX5_readInstructions_X5_passOperand : GoodIn wsX5_readInstructions wsX5_passOperand := goodIn_r _ [22, 11, 12, 13, 14, 15, 2, 1, 4, 5, 6, 7, 8, 9, 10, 51, 52, 53, 54, 55, 56, 57, 58, 59] (by decide +kernel) (by decide +kernel)
set_option maxRecDepth 20000 in
theorem gX5_readInstructions_X5_passOperand : GoodIn wsX5_readInstructions (wsV RX5 94 RX5 yX5_passOperand wsX5_passOperand) := goodIn_app (goodIn_of _ (by decide +kernel)) ggX5_readInstructions_X5_passOperand
set_option maxRecDepth 20000 in
theorem ggX5_readInstructions_X5_operandFrom : GoodIn wsX5_readInstructions wsX5_operandFrom := goodIn_r _ [26, 1, 27, 28, 29, 14, 30, 2, 4, 5, 6, 7, 8, 9, 10, 51, 52, 53, 54, 55, 56, 57, 58, 59] (by decide +kernel) (by decide +kernel)
set_option maxRecDepth 20000 in
theorem gX5_readInstructions_X5_operandFrom : GoodIn wsX5_readInstructions (wsV RX5 97 RX5 yX5_operandFrom wsX5_operandFrom) := goodIn_app (goodIn_of _ (by decide +kernel)) ggX5_readInstructions_X5_operandFrom
set_option maxRecDepth 20000 in
theorem ggX5_readInstructions_X0_add : GoodIn wsX5_readInstructions wsX0_add := goodIn_r _ [35, 36, 37, 38, 39, 40, 41, 42, 43, 44, 45, 46, 47, 60, 61, 62] (by decide +kernel) (by decide +kernel)
set_option maxRecDepth 20000 in
theorem gX5_readInstructions_X0_add : GoodIn wsX5_readInstructions (wsV RX5 100 RX0 yX0_add wsX0_add) := goodIn_app (goodIn_of _ (by decide +kernel)) ggX5_readInstructions_X0_add
set_option maxRecDepth 20000 in
theorem ggX5_readInstructions_X0_opens : GoodIn wsX5_readInstructions wsX0_opens := goodIn_r _ [50] (by decide +kernel) (by decide +kernel)
set_option maxRecDepth 20000 in
theorem gX5_readInstructions_X0_opens : GoodIn wsX5_readInstructions (va_wsS RX5 102 yX0_opens wsX0_opens) := goodIn_app (goodIn_of _ (by decide +kernel)) ggX5_readInstructions_X0_opens
theorem dX5_readInstructions_0 : decode cX5_readInstructions 0 = .ok (.iconst 0, 1) := by decide +kernel
theorem dX5_readInstructions_1 : decode cX5_readInstructions 1 = .ok (.istore_n 2, 1) := by decide +kernel
theorem dX5_readInstructions_2 : decode cX5_readInstructions 2 = .ok (.iconst 0, 1) := by decide +kernel
theorem dX5_readInstructions_3 : decode cX5_readInstructions 3 = .ok (.istore_n 3, 1) := by decide +kernel
theorem dX5_readInstructions_4 : decode cX5_readInstructions 4 = .ok (.iconst 0, 1) := by decide +kernel
theorem dX5_readInstructions_5 : decode cX5_readInstructions 5 = .ok (.istore 4, 2) := by decide +kernel
theorem dX5_readInstructions_7 : decode cX5_readInstructions 7 = .ok (.iload 4, 2) := by decide +kernel
theorem dX5_readInstructions_9 : decode cX5_readInstructions 9 = .ok (.bipush 24, 2) := by decide +kernel
theorem dX5_readInstructions_11 : decode cX5_readInstructions 11 = .ok (.if_icmp .gt 152, 3) := by decide +kernel
theorem dX5_readInstructions_14 : decode cX5_readInstructions 14 = .ok (.aload_n 0, 1) := by decide +kernel
theorem dX5_readInstructions_15 : decode cX5_readInstructions 15 = .ok (.getfield 48, 3) := by decide +kernel
theorem dX5_readInstructions_18 : decode cX5_readInstructions 18 = .ok (.istore 5, 2) := by decide +kernel
theorem dX5_readInstructions_20 : decode cX5_readInstructions 20 = .ok (.aload_n 0, 1) := by decide +kernel
theorem dX5_readInstructions_21 : decode cX5_readInstructions 21 = .ok (.getfield 37, 3) := by decide +kernel
theorem dX5_readInstructions_24 : decode cX5_readInstructions 24 = .ok (.iload 5, 2) := by decide +kernel
theorem dX5_readInstructions_26 : decode cX5_readInstructions 26 = .ok (.invokevirtual 59, 3) := by decide +kernel
theorem dX5_readInstructions_29 : decode cX5_readInstructions 29 = .ok (.istore 6, 2) := by decide +kernel
theorem dX5_readInstructions_31 : decode cX5_readInstructions 31 = .ok (.iload 6, 2) := by decide +kernel
theorem dX5_readInstructions_33 : decode cX5_readInstructions 33 = .ok (.bipush 59, 2) := by decide +kernel
theorem dX5_readInstructions_35 : decode cX5_readInstructions 35 = .ok (.if_icmp .ne 20, 3) := by decide +kernel
theorem dX5_readInstructions_38 : decode cX5_readInstructions 38 = .ok (.iload_n 2, 1) := by decide +kernel
theorem dX5_readInstructions_39 : decode cX5_readInstructions 39 = .ok (.ifCond .ne 16, 3) := by decide +kernel
theorem dX5_readInstructions_42 : decode cX5_readInstructions 42 = .ok (.iload_n 3, 1) := by decide +kernel
theorem dX5_readInstructions_43 : decode cX5_readInstructions 43 = .ok (.ifCond .ne 12, 3) := by decide +kernel
theorem dX5_readInstructions_46 : decode cX5_readInstructions 46 = .ok (.aload_n 0, 1) := by decide +kernel
theorem dX5_readInstructions_47 : decode cX5_readInstructions 47 = .ok (.bipush 59, 2) := by decide +kernel
theorem dX5_readInstructions_49 : decode cX5_readInstructions 49 = .ok (.bipush 59, 2) := by decide +kernel
theorem dX5_readInstructions_51 : decode cX5_readInstructions 51 = .ok (.invokevirtual 69, 3) := by decide +kernel
theorem dX5_readInstructions_54 : decode cX5_readInstructions 54 = .ok (.ireturn, 1) := by decide +kernel
theorem dX5_readInstructions_55 : decode cX5_readInstructions 55 = .ok (.iload 4, 2) := by decide +kernel
theorem dX5_readInstructions_57 : decode cX5_readInstructions 57 = .ok (.bipush 24, 2) := by decide +kernel
theorem dX5_readInstructions_59 : decode cX5_readInstructions 59 = .ok (.if_icmp .eq 13, 3) := by decide +kernel
theorem dX5_readInstructions_62 : decode cX5_readInstructions 62 = .ok (.iload 6, 2) := by decide +kernel
theorem dX5_readInstructions_64 : decode cX5_readInstructions 64 = .ok (.iload_n 2, 1) := by decide +kernel
theorem dX5_readInstructions_65 : decode cX5_readInstructions 65 = .ok (.iload_n 3, 1) := by decide +kernel
theorem dX5_readInstructions_66 : decode cX5_readInstructions 66 = .ok (.invokestatic 90, 3) := by decide +kernel
theorem dX5_readInstructions_69 : decode cX5_readInstructions 69 = .ok (.ifCond .ne 5, 3) := by decide +kernel
theorem dX5_readInstructions_72 : decode cX5_readInstructions 72 = .ok (.iconst 0, 1) := by decide +kernel
theorem dX5_readInstructions_73 : decode cX5_readInstructions 73 = .ok (.ireturn, 1) := by decide +kernel
theorem dX5_readInstructions_74 : decode cX5_readInstructions 74 = .ok (.aload_n 0, 1) := by decide +kernel
theorem dX5_readInstructions_75 : decode cX5_readInstructions 75 = .ok (.dup, 1) := by decide +kernel
theorem dX5_readInstructions_76 : decode cX5_readInstructions 76 = .ok (.getfield 48, 3) := by decide +kernel
theorem dX5_readInstructions_79 : decode cX5_readInstructions 79 = .ok (.iconst 1, 1) := by decide +kernel
theorem dX5_readInstructions_80 : decode cX5_readInstructions 80 = .ok (.iadd, 1) := by decide +kernel
theorem dX5_readInstructions_81 : decode cX5_readInstructions 81 = .ok (.putfield 48, 3) := by decide +kernel
theorem dX5_readInstructions_84 : decode cX5_readInstructions 84 = .ok (.aload_n 0, 1) := by decide +kernel
theorem dX5_readInstructions_85 : decode cX5_readInstructions 85 = .ok (.iload 6, 2) := by decide +kernel
theorem dX5_readInstructions_87 : decode cX5_readInstructions 87 = .ok (.invokevirtual 94, 3) := by decide +kernel
theorem dX5_readInstructions_90 : decode cX5_readInstructions 90 = .ok (.ifCond .ne 5, 3) := by decide +kernel
theorem dX5_readInstructions_93 : decode cX5_readInstructions 93 = .ok (.iconst 0, 1) := by decide +kernel
theorem dX5_readInstructions_94 : decode cX5_readInstructions 94 = .ok (.ireturn, 1) := by decide +kernel
theorem dX5_readInstructions_95 : decode cX5_readInstructions 95 = .ok (.aload_n 0, 1) := by decide +kernel
theorem dX5_readInstructions_96 : decode cX5_readInstructions 96 = .ok (.getfield 14, 3) := by decide +kernel
theorem dX5_readInstructions_99 : decode cX5_readInstructions 99 = .ok (.iload_n 1, 1) := by decide +kernel
theorem dX5_readInstructions_100 : decode cX5_readInstructions 100 = .ok (.bipush 100, 2) := by decide +kernel
theorem dX5_readInstructions_102 : decode cX5_readInstructions 102 = .ok (.iload 6, 2) := by decide +kernel
theorem dX5_readInstructions_104 : decode cX5_readInstructions 104 = .ok (.imul, 1) := by decide +kernel
theorem dX5_readInstructions_105 : decode cX5_readInstructions 105 = .ok (.aload_n 0, 1) := by decide +kernel
theorem dX5_readInstructions_106 : decode cX5_readInstructions 106 = .ok (.iload 5, 2) := by decide +kernel
theorem dX5_readInstructions_108 : decode cX5_readInstructions 108 = .ok (.iconst 1, 1) := by decide +kernel
theorem dX5_readInstructions_109 : decode cX5_readInstructions 109 = .ok (.iadd, 1) := by decide +kernel
theorem dX5_readInstructions_110 : decode cX5_readInstructions 110 = .ok (.invokevirtual 97, 3) := by decide +kernel
theorem dX5_readInstructions_113 : decode cX5_readInstructions 113 = .ok (.iadd, 1) := by decide +kernel
theorem dX5_readInstructions_114 : decode cX5_readInstructions 114 = .ok (.invokevirtual 100, 3) := by decide +kernel
theorem dX5_readInstructions_117 : decode cX5_readInstructions 117 = .ok (.iload_n 2, 1) := by decide +kernel
theorem dX5_readInstructions_118 : decode cX5_readInstructions 118 = .ok (.iload 6, 2) := by decide +kernel
theorem dX5_readInstructions_120 : decode cX5_readInstructions 120 = .ok (.invokestatic 102, 3) := by decide +kernel
theorem dX5_readInstructions_123 : decode cX5_readInstructions 123 = .ok (.ifCond .eq 7, 3) := by decide +kernel
theorem dX5_readInstructions_126 : decode cX5_readInstructions 126 = .ok (.iconst 1, 1) := by decide +kernel
theorem dX5_readInstructions_127 : decode cX5_readInstructions 127 = .ok (.goto 15, 3) := by decide +kernel
theorem dX5_readInstructions_130 : decode cX5_readInstructions 130 = .ok (.iload 6, 2) := by decide +kernel
theorem dX5_readInstructions_132 : decode cX5_readInstructions 132 = .ok (.bipush 41, 2) := by decide +kernel
theorem dX5_readInstructions_134 : decode cX5_readInstructions 134 = .ok (.if_icmp .ne 7, 3) := by decide +kernel
theorem dX5_readInstructions_137 : decode cX5_readInstructions 137 = .ok (.iconst (-1), 1) := by decide +kernel
theorem dX5_readInstructions_138 : decode cX5_readInstructions 138 = .ok (.goto 4, 3) := by decide +kernel
theorem dX5_readInstructions_141 : decode cX5_readInstructions 141 = .ok (.iconst 0, 1) := by decide +kernel
theorem dX5_readInstructions_142 : decode cX5_readInstructions 142 = .ok (.iadd, 1) := by decide +kernel
theorem dX5_readInstructions_143 : decode cX5_readInstructions 143 = .ok (.istore_n 2, 1) := by decide +kernel
theorem dX5_readInstructions_144 : decode cX5_readInstructions 144 = .ok (.iload 6, 2) := by decide +kernel
theorem dX5_readInstructions_146 : decode cX5_readInstructions 146 = .ok (.bipush 122, 2) := by decide +kernel
theorem dX5_readInstructions_148 : decode cX5_readInstructions 148 = .ok (.if_icmp .ne 7, 3) := by decide +kernel
theorem dX5_readInstructions_151 : decode cX5_readInstructions 151 = .ok (.iconst 1, 1) := by decide +kernel
theorem dX5_readInstructions_152 : decode cX5_readInstructions 152 = .ok (.goto 4, 3) := by decide +kernel
theorem dX5_readInstructions_155 : decode cX5_readInstructions 155 = .ok (.iconst 0, 1) := by decide +kernel
theorem dX5_readInstructions_156 : decode cX5_readInstructions 156 = .ok (.istore_n 3, 1) := by decide +kernel
theorem dX5_readInstructions_157 : decode cX5_readInstructions 157 = .ok (.iinc 4 1, 3) := by decide +kernel
theorem dX5_readInstructions_160 : decode cX5_readInstructions 160 = .ok (.goto (-153), 3) := by decide +kernel
theorem dX5_readInstructions_163 : decode cX5_readInstructions 163 = .ok (.iconst 0, 1) := by decide +kernel
theorem dX5_readInstructions_164 : decode cX5_readInstructions 164 = .ok (.ireturn, 1) := by decide +kernel
theorem dX5_mayStand_0 : decode cX5_mayStand 0 = .ok (.iload_n 0, 1) := by decide +kernel
theorem dX5_mayStand_1 : decode cX5_mayStand 1 = .ok (.lookupswitch 180 #[(33, 178), (40, 139), (41, 154), (43, 178), (45, 178), (60, 178), (62, 178), (63, 178), (91, 139), (94, 154), (112, 168), (119, 178), (120, 168), (121, 178), (122, 178), (123, 139)], 139) := by decide +kernel
theorem dX5_mayStand_140 : decode cX5_mayStand 140 = .ok (.iload_n 1, 1) := by decide +kernel
theorem dX5_mayStand_141 : decode cX5_mayStand 141 = .ok (.iconst 5, 1) := by decide +kernel
theorem dX5_mayStand_142 : decode cX5_mayStand 142 = .ok (.if_icmp .ge 11, 3) := by decide +kernel
theorem dX5_mayStand_145 : decode cX5_mayStand 145 = .ok (.iload_n 2, 1) := by decide +kernel
theorem dX5_mayStand_146 : decode cX5_mayStand 146 = .ok (.ifCond .ne 7, 3) := by decide +kernel
theorem dX5_mayStand_149 : decode cX5_mayStand 149 = .ok (.iconst 1, 1) := by decide +kernel
theorem dX5_mayStand_150 : decode cX5_mayStand 150 = .ok (.goto 4, 3) := by decide +kernel
theorem dX5_mayStand_153 : decode cX5_mayStand 153 = .ok (.iconst 0, 1) := by decide +kernel
theorem dX5_mayStand_154 : decode cX5_mayStand 154 = .ok (.ireturn, 1) := by decide +kernel
theorem dX5_mayStand_155 : decode cX5_mayStand 155 = .ok (.iload_n 1, 1) := by decide +kernel
theorem dX5_mayStand_156 : decode cX5_mayStand 156 = .ok (.ifCond .le 11, 3) := by decide +kernel
theorem dX5_mayStand_159 : decode cX5_mayStand 159 = .ok (.iload_n 2, 1) := by decide +kernel
theorem dX5_mayStand_160 : decode cX5_mayStand 160 = .ok (.ifCond .ne 7, 3) := by decide +kernel
theorem dX5_mayStand_163 : decode cX5_mayStand 163 = .ok (.iconst 1, 1) := by decide +kernel
theorem dX5_mayStand_164 : decode cX5_mayStand 164 = .ok (.goto 4, 3) := by decide +kernel
theorem dX5_mayStand_167 : decode cX5_mayStand 167 = .ok (.iconst 0, 1) := by decide +kernel
theorem dX5_mayStand_168 : decode cX5_mayStand 168 = .ok (.ireturn, 1) := by decide +kernel
theorem dX5_mayStand_169 : decode cX5_mayStand 169 = .ok (.iload_n 1, 1) := by decide +kernel
theorem dX5_mayStand_170 : decode cX5_mayStand 170 = .ok (.ifCond .le 7, 3) := by decide +kernel
theorem dX5_mayStand_173 : decode cX5_mayStand 173 = .ok (.iconst 1, 1) := by decide +kernel
theorem dX5_mayStand_174 : decode cX5_mayStand 174 = .ok (.goto 4, 3) := by decide +kernel
theorem dX5_mayStand_177 : decode cX5_mayStand 177 = .ok (.iconst 0, 1) := by decide +kernel
theorem dX5_mayStand_178 : decode cX5_mayStand 178 = .ok (.ireturn, 1) := by decide +kernel
theorem dX5_mayStand_179 : decode cX5_mayStand 179 = .ok (.iconst 1, 1) := by decide +kernel
theorem dX5_mayStand_180 : decode cX5_mayStand 180 = .ok (.ireturn, 1) := by decide +kernel
theorem dX5_mayStand_181 : decode cX5_mayStand 181 = .ok (.iconst 0, 1) := by decide +kernel
theorem dX5_mayStand_182 : decode cX5_mayStand 182 = .ok (.ireturn, 1) := by decide +kernel
set_option maxRecDepth 20000 in
theorem ggX5_passOperand_X5_pass : GoodIn wsX5_passOperand wsX5_pass := goodIn_r _ [5, 6, 7, 8, 9, 10, 11, 12, 13, 14, 15, 16, 17, 18, 19, 20, 21, 22, 23] (by decide +kernel) (by decide +kernel)
set_option maxRecDepth 20000 in
theorem gX5_passOperand_X5_pass : GoodIn wsX5_passOperand (wsV RX5 69 RX5 yX5_pass wsX5_pass) := goodIn_app (goodIn_of _ (by decide +kernel)) ggX5_passOperand_X5_pass
theorem dX5_passOperand_0 : decode cX5_passOperand 0 = .ok (.iload_n 1, 1) := by decide +kernel
theorem dX5_passOperand_1 : decode cX5_passOperand 1 = .ok (.lookupswitch 146 #[(33, 91), (43, 91), (45, 91), (60, 109), (62, 109), (63, 118), (91, 91), (94, 100), (112, 100), (119, 91)], 91) := by decide +kernel
theorem dX5_passOperand_92 : decode cX5_passOperand 92 = .ok (.aload_n 0, 1) := by decide +kernel
theorem dX5_passOperand_93 : decode cX5_passOperand 93 = .ok (.bipush 49, 2) := by decide +kernel
theorem dX5_passOperand_95 : decode cX5_passOperand 95 = .ok (.bipush 57, 2) := by decide +kernel
theorem dX5_passOperand_97 : decode cX5_passOperand 97 = .ok (.invokevirtual 69, 3) := by decide +kernel
theorem dX5_passOperand_100 : decode cX5_passOperand 100 = .ok (.ireturn, 1) := by decide +kernel
theorem dX5_passOperand_101 : decode cX5_passOperand 101 = .ok (.aload_n 0, 1) := by decide +kernel
theorem dX5_passOperand_102 : decode cX5_passOperand 102 = .ok (.bipush 48, 2) := by decide +kernel
theorem dX5_passOperand_104 : decode cX5_passOperand 104 = .ok (.bipush 53, 2) := by decide +kernel
theorem dX5_passOperand_106 : decode cX5_passOperand 106 = .ok (.invokevirtual 69, 3) := by decide +kernel
theorem dX5_passOperand_109 : decode cX5_passOperand 109 = .ok (.ireturn, 1) := by decide +kernel
theorem dX5_passOperand_110 : decode cX5_passOperand 110 = .ok (.aload_n 0, 1) := by decide +kernel
theorem dX5_passOperand_111 : decode cX5_passOperand 111 = .ok (.bipush 48, 2) := by decide +kernel
theorem dX5_passOperand_113 : decode cX5_passOperand 113 = .ok (.bipush 51, 2) := by decide +kernel
theorem dX5_passOperand_115 : decode cX5_passOperand 115 = .ok (.invokevirtual 69, 3) := by decide +kernel
theorem dX5_passOperand_118 : decode cX5_passOperand 118 = .ok (.ireturn, 1) := by decide +kernel
theorem dX5_passOperand_119 : decode cX5_passOperand 119 = .ok (.aload_n 0, 1) := by decide +kernel
theorem dX5_passOperand_120 : decode cX5_passOperand 120 = .ok (.bipush 48, 2) := by decide +kernel
theorem dX5_passOperand_122 : decode cX5_passOperand 122 = .ok (.bipush 51, 2) := by decide +kernel
theorem dX5_passOperand_124 : decode cX5_passOperand 124 = .ok (.invokevirtual 69, 3) := by decide +kernel
theorem dX5_passOperand_127 : decode cX5_passOperand 127 = .ok (.ifCond .eq 18, 3) := by decide +kernel
theorem dX5_passOperand_130 : decode cX5_passOperand 130 = .ok (.aload_n 0, 1) := by decide +kernel
theorem dX5_passOperand_131 : decode cX5_passOperand 131 = .ok (.bipush 48, 2) := by decide +kernel
theorem dX5_passOperand_133 : decode cX5_passOperand 133 = .ok (.bipush 51, 2) := by decide +kernel
theorem dX5_passOperand_135 : decode cX5_passOperand 135 = .ok (.invokevirtual 69, 3) := by decide +kernel
theorem dX5_passOperand_138 : decode cX5_passOperand 138 = .ok (.ifCond .eq 7, 3) := by decide +kernel
theorem dX5_passOperand_141 : decode cX5_passOperand 141 = .ok (.iconst 1, 1) := by decide +kernel
theorem dX5_passOperand_142 : decode cX5_passOperand 142 = .ok (.goto 4, 3) := by decide +kernel
theorem dX5_passOperand_145 : decode cX5_passOperand 145 = .ok (.iconst 0, 1) := by decide +kernel
theorem dX5_passOperand_146 : decode cX5_passOperand 146 = .ok (.ireturn, 1) := by decide +kernel
theorem dX5_passOperand_147 : decode cX5_passOperand 147 = .ok (.iconst 1, 1) := by decide +kernel
theorem dX5_passOperand_148 : decode cX5_passOperand 148 = .ok (.ireturn, 1) := by decide +kernel
set_option maxRecDepth 20000 in
theorem ggX5_pass_X4_at : GoodIn wsX5_pass wsX4_at := goodIn_r _ [7, 8, 9, 17, 18] (by decide +kernel) (by decide +kernel)
set_option maxRecDepth 20000 in
theorem gX5_pass_X4_at : GoodIn wsX5_pass (wsV RX5 59 RX4 yX4_at wsX4_at) := goodIn_app (goodIn_of _ (by decide +kernel)) ggX5_pass_X4_at
theorem dX5_pass_0 : decode cX5_pass 0 = .ok (.aload_n 0, 1) := by decide +kernel
theorem dX5_pass_1 : decode cX5_pass 1 = .ok (.getfield 37, 3) := by decide +kernel
theorem dX5_pass_4 : decode cX5_pass 4 = .ok (.aload_n 0, 1) := by decide +kernel
theorem dX5_pass_5 : decode cX5_pass 5 = .ok (.getfield 48, 3) := by decide +kernel
theorem dX5_pass_8 : decode cX5_pass 8 = .ok (.invokevirtual 59, 3) := by decide +kernel
theorem dX5_pass_11 : decode cX5_pass 11 = .ok (.istore_n 3, 1) := by decide +kernel
theorem dX5_pass_12 : decode cX5_pass 12 = .ok (.iload_n 3, 1) := by decide +kernel
theorem dX5_pass_13 : decode cX5_pass 13 = .ok (.iload_n 1, 1) := by decide +kernel
theorem dX5_pass_14 : decode cX5_pass 14 = .ok (.if_icmp .lt 8, 3) := by decide +kernel
theorem dX5_pass_17 : decode cX5_pass 17 = .ok (.iload_n 3, 1) := by decide +kernel
theorem dX5_pass_18 : decode cX5_pass 18 = .ok (.iload_n 2, 1) := by decide +kernel
theorem dX5_pass_19 : decode cX5_pass 19 = .ok (.if_icmp .le 5, 3) := by decide +kernel
theorem dX5_pass_22 : decode cX5_pass 22 = .ok (.iconst 0, 1) := by decide +kernel
theorem dX5_pass_23 : decode cX5_pass 23 = .ok (.ireturn, 1) := by decide +kernel
theorem dX5_pass_24 : decode cX5_pass 24 = .ok (.aload_n 0, 1) := by decide +kernel
theorem dX5_pass_25 : decode cX5_pass 25 = .ok (.dup, 1) := by decide +kernel
theorem dX5_pass_26 : decode cX5_pass 26 = .ok (.getfield 48, 3) := by decide +kernel
theorem dX5_pass_29 : decode cX5_pass 29 = .ok (.iconst 1, 1) := by decide +kernel
theorem dX5_pass_30 : decode cX5_pass 30 = .ok (.iadd, 1) := by decide +kernel
theorem dX5_pass_31 : decode cX5_pass 31 = .ok (.putfield 48, 3) := by decide +kernel
theorem dX5_pass_34 : decode cX5_pass 34 = .ok (.iconst 1, 1) := by decide +kernel
theorem dX5_pass_35 : decode cX5_pass 35 = .ok (.ireturn, 1) := by decide +kernel
set_option maxRecDepth 20000 in
theorem ggX5_operandFrom_X5_digit : GoodIn wsX5_operandFrom wsX5_digit := goodIn_r _ [6, 7, 8, 9, 10, 11, 12, 13, 14, 15, 16, 17, 18, 19, 20, 21, 22, 23] (by decide +kernel) (by decide +kernel)
set_option maxRecDepth 20000 in
theorem gX5_operandFrom_X5_digit : GoodIn wsX5_operandFrom (wsV RX5 73 RX5 yX5_digit wsX5_digit) := goodIn_app (goodIn_of _ (by decide +kernel)) ggX5_operandFrom_X5_digit
theorem dX5_operandFrom_0 : decode cX5_operandFrom 0 = .ok (.iconst 0, 1) := by decide +kernel
theorem dX5_operandFrom_1 : decode cX5_operandFrom 1 = .ok (.istore_n 2, 1) := by decide +kernel
theorem dX5_operandFrom_2 : decode cX5_operandFrom 2 = .ok (.iload_n 1, 1) := by decide +kernel
theorem dX5_operandFrom_3 : decode cX5_operandFrom 3 = .ok (.istore_n 3, 1) := by decide +kernel
theorem dX5_operandFrom_4 : decode cX5_operandFrom 4 = .ok (.iload_n 3, 1) := by decide +kernel
theorem dX5_operandFrom_5 : decode cX5_operandFrom 5 = .ok (.aload_n 0, 1) := by decide +kernel
theorem dX5_operandFrom_6 : decode cX5_operandFrom 6 = .ok (.getfield 48, 3) := by decide +kernel
theorem dX5_operandFrom_9 : decode cX5_operandFrom 9 = .ok (.if_icmp .ge 20, 3) := by decide +kernel
theorem dX5_operandFrom_12 : decode cX5_operandFrom 12 = .ok (.bipush 10, 2) := by decide +kernel
theorem dX5_operandFrom_14 : decode cX5_operandFrom 14 = .ok (.iload_n 2, 1) := by decide +kernel
theorem dX5_operandFrom_15 : decode cX5_operandFrom 15 = .ok (.imul, 1) := by decide +kernel
theorem dX5_operandFrom_16 : decode cX5_operandFrom 16 = .ok (.aload_n 0, 1) := by decide +kernel
theorem dX5_operandFrom_17 : decode cX5_operandFrom 17 = .ok (.iload_n 3, 1) := by decide +kernel
theorem dX5_operandFrom_18 : decode cX5_operandFrom 18 = .ok (.invokevirtual 73, 3) := by decide +kernel
theorem dX5_operandFrom_21 : decode cX5_operandFrom 21 = .ok (.iadd, 1) := by decide +kernel
theorem dX5_operandFrom_22 : decode cX5_operandFrom 22 = .ok (.istore_n 2, 1) := by decide +kernel
theorem dX5_operandFrom_23 : decode cX5_operandFrom 23 = .ok (.iinc 3 1, 3) := by decide +kernel
theorem dX5_operandFrom_26 : decode cX5_operandFrom 26 = .ok (.goto (-22), 3) := by decide +kernel
theorem dX5_operandFrom_29 : decode cX5_operandFrom 29 = .ok (.iload_n 2, 1) := by decide +kernel
theorem dX5_operandFrom_30 : decode cX5_operandFrom 30 = .ok (.ireturn, 1) := by decide +kernel
set_option maxRecDepth 20000 in
theorem ggX5_digit_X4_at : GoodIn wsX5_digit wsX4_at := goodIn_r _ [6, 7, 8, 16, 17] (by decide +kernel) (by decide +kernel)
set_option maxRecDepth 20000 in
theorem gX5_digit_X4_at : GoodIn wsX5_digit (wsV RX5 59 RX4 yX4_at wsX4_at) := goodIn_app (goodIn_of _ (by decide +kernel)) ggX5_digit_X4_at
theorem dX5_digit_0 : decode cX5_digit 0 = .ok (.aload_n 0, 1) := by decide +kernel
theorem dX5_digit_1 : decode cX5_digit 1 = .ok (.getfield 37, 3) := by decide +kernel
theorem dX5_digit_4 : decode cX5_digit 4 = .ok (.iload_n 1, 1) := by decide +kernel
theorem dX5_digit_5 : decode cX5_digit 5 = .ok (.invokevirtual 59, 3) := by decide +kernel
theorem dX5_digit_8 : decode cX5_digit 8 = .ok (.bipush 48, 2) := by decide +kernel
theorem dX5_digit_10 : decode cX5_digit 10 = .ok (.isub, 1) := by decide +kernel
theorem dX5_digit_11 : decode cX5_digit 11 = .ok (.ireturn, 1) := by decide +kernel
set_option maxRecDepth 20000 in
theorem ggX5_roomsSuit_X4_size : GoodIn wsX5_roomsSuit wsX4_size := goodIn_r _ [9, 10, 49, 50] (by decide +kernel) (by decide +kernel)
set_option maxRecDepth 20000 in
theorem gX5_roomsSuit_X4_size : GoodIn wsX5_roomsSuit (wsV RX5 51 RX4 yX4_size wsX4_size) := goodIn_app (goodIn_of _ (by decide +kernel)) ggX5_roomsSuit_X4_size
set_option maxRecDepth 20000 in
theorem ggX5_roomsSuit_X10_liveTasks : GoodIn wsX5_roomsSuit wsX10_liveTasks := goodIn_r _ [15, 16, 17, 18, 19, 6, 7, 8, 9, 10, 38, 39, 40, 41, 42, 43, 44, 45, 51, 52, 53, 54, 55, 56, 57, 58, 59, 60, 61, 62, 63, 64, 65, 66, 67, 49, 50] (by decide +kernel) (by decide +kernel)
set_option maxRecDepth 20000 in
theorem gX5_roomsSuit_X10_liveTasks : GoodIn wsX5_roomsSuit (wsV RX5 105 RX10 yX10_liveTasks wsX10_liveTasks) := goodIn_app (goodIn_of _ (by decide +kernel)) ggX5_roomsSuit_X10_liveTasks
set_option maxRecDepth 20000 in
theorem ggX5_roomsSuit_X4_at : GoodIn wsX5_roomsSuit wsX4_at := goodIn_r _ [23, 10, 24, 49, 50] (by decide +kernel) (by decide +kernel)
set_option maxRecDepth 20000 in
theorem gX5_roomsSuit_X4_at : GoodIn wsX5_roomsSuit (wsV RX5 59 RX4 yX4_at wsX4_at) := goodIn_app (goodIn_of _ (by decide +kernel)) ggX5_roomsSuit_X4_at
set_option maxRecDepth 20000 in
theorem ggX5_roomsSuit_X6_at : GoodIn wsX5_roomsSuit wsX6_at := goodIn_r _ [29, 30, 68] (by decide +kernel) (by decide +kernel)
set_option maxRecDepth 20000 in
theorem gX5_roomsSuit_X6_at : GoodIn wsX5_roomsSuit (wsV RX5 119 RX6 yX6_at wsX6_at) := goodIn_app (goodIn_of _ (by decide +kernel)) ggX5_roomsSuit_X6_at
theorem dX5_roomsSuit_0 : decode cX5_roomsSuit 0 = .ok (.aload_n 0, 1) := by decide +kernel
theorem dX5_roomsSuit_1 : decode cX5_roomsSuit 1 = .ok (.getfield 30, 3) := by decide +kernel
theorem dX5_roomsSuit_4 : decode cX5_roomsSuit 4 = .ok (.invokevirtual 51, 3) := by decide +kernel
theorem dX5_roomsSuit_7 : decode cX5_roomsSuit 7 = .ok (.ifCond .le 12, 3) := by decide +kernel
theorem dX5_roomsSuit_10 : decode cX5_roomsSuit 10 = .ok (.aload_n 1, 1) := by decide +kernel
theorem dX5_roomsSuit_11 : decode cX5_roomsSuit 11 = .ok (.invokevirtual 105, 3) := by decide +kernel
theorem dX5_roomsSuit_14 : decode cX5_roomsSuit 14 = .ok (.ifCond .le 5, 3) := by decide +kernel
theorem dX5_roomsSuit_17 : decode cX5_roomsSuit 17 = .ok (.iconst 0, 1) := by decide +kernel
theorem dX5_roomsSuit_18 : decode cX5_roomsSuit 18 = .ok (.ireturn, 1) := by decide +kernel
theorem dX5_roomsSuit_19 : decode cX5_roomsSuit 19 = .ok (.iconst 0, 1) := by decide +kernel
theorem dX5_roomsSuit_20 : decode cX5_roomsSuit 20 = .ok (.istore_n 2, 1) := by decide +kernel
theorem dX5_roomsSuit_21 : decode cX5_roomsSuit 21 = .ok (.iload_n 2, 1) := by decide +kernel
theorem dX5_roomsSuit_22 : decode cX5_roomsSuit 22 = .ok (.aload_n 0, 1) := by decide +kernel
theorem dX5_roomsSuit_23 : decode cX5_roomsSuit 23 = .ok (.getfield 30, 3) := by decide +kernel
theorem dX5_roomsSuit_26 : decode cX5_roomsSuit 26 = .ok (.invokevirtual 51, 3) := by decide +kernel
theorem dX5_roomsSuit_29 : decode cX5_roomsSuit 29 = .ok (.if_icmp .ge 40, 3) := by decide +kernel
theorem dX5_roomsSuit_32 : decode cX5_roomsSuit 32 = .ok (.aload_n 0, 1) := by decide +kernel
theorem dX5_roomsSuit_33 : decode cX5_roomsSuit 33 = .ok (.getfield 34, 3) := by decide +kernel
theorem dX5_roomsSuit_36 : decode cX5_roomsSuit 36 = .ok (.iload_n 2, 1) := by decide +kernel
theorem dX5_roomsSuit_37 : decode cX5_roomsSuit 37 = .ok (.invokevirtual 59, 3) := by decide +kernel
theorem dX5_roomsSuit_40 : decode cX5_roomsSuit 40 = .ok (.aload_n 1, 1) := by decide +kernel
theorem dX5_roomsSuit_41 : decode cX5_roomsSuit 41 = .ok (.getfield 110, 3) := by decide +kernel
theorem dX5_roomsSuit_44 : decode cX5_roomsSuit 44 = .ok (.getfield 114, 3) := by decide +kernel
theorem dX5_roomsSuit_47 : decode cX5_roomsSuit 47 = .ok (.aload_n 0, 1) := by decide +kernel
theorem dX5_roomsSuit_48 : decode cX5_roomsSuit 48 = .ok (.getfield 30, 3) := by decide +kernel
theorem dX5_roomsSuit_51 : decode cX5_roomsSuit 51 = .ok (.iload_n 2, 1) := by decide +kernel
theorem dX5_roomsSuit_52 : decode cX5_roomsSuit 52 = .ok (.invokevirtual 59, 3) := by decide +kernel
theorem dX5_roomsSuit_55 : decode cX5_roomsSuit 55 = .ok (.invokevirtual 119, 3) := by decide +kernel
theorem dX5_roomsSuit_58 : decode cX5_roomsSuit 58 = .ok (.if_icmp .ge 5, 3) := by decide +kernel
theorem dX5_roomsSuit_61 : decode cX5_roomsSuit 61 = .ok (.iconst 0, 1) := by decide +kernel
theorem dX5_roomsSuit_62 : decode cX5_roomsSuit 62 = .ok (.ireturn, 1) := by decide +kernel
theorem dX5_roomsSuit_63 : decode cX5_roomsSuit 63 = .ok (.iinc 2 1, 3) := by decide +kernel
theorem dX5_roomsSuit_66 : decode cX5_roomsSuit 66 = .ok (.goto (-45), 3) := by decide +kernel
theorem dX5_roomsSuit_69 : decode cX5_roomsSuit 69 = .ok (.iconst 1, 1) := by decide +kernel
theorem dX5_roomsSuit_70 : decode cX5_roomsSuit 70 = .ok (.ireturn, 1) := by decide +kernel
set_option maxRecDepth 20000 in
theorem ggX5_writeTo_X6_at : GoodIn wsX5_writeTo wsX6_at := goodIn_r _ [12, 13, 72] (by decide +kernel) (by decide +kernel)
set_option maxRecDepth 20000 in
theorem gX5_writeTo_X6_at : GoodIn wsX5_writeTo (wsV RX5 119 RX6 yX6_at wsX6_at) := goodIn_app (goodIn_of _ (by decide +kernel)) ggX5_writeTo_X6_at
set_option maxRecDepth 20000 in
theorem ggX5_writeTo_X0_copyList : GoodIn wsX5_writeTo wsX0_copyList := goodIn_r _ [18, 19, 20, 21, 17, 22, 23, 24, 25, 26, 11, 27, 13, 28, 29, 30, 31, 32, 9, 10, 12, 33, 34, 35, 36, 37, 38, 39, 40, 41, 73, 74, 72] (by decide +kernel) (by decide +kernel)
set_option maxRecDepth 20000 in
theorem gX5_writeTo_X0_copyList : GoodIn wsX5_writeTo (wsV RX5 123 RX0 yX0_copyList wsX0_copyList) := goodIn_app (goodIn_of _ (by decide +kernel)) ggX5_writeTo_X0_copyList
set_option maxRecDepth 20000 in
theorem ggX5_writeTo_X4_size : GoodIn wsX5_writeTo wsX4_size := goodIn_r _ [46, 47, 75, 76] (by decide +kernel) (by decide +kernel)
set_option maxRecDepth 20000 in
theorem gX5_writeTo_X4_size : GoodIn wsX5_writeTo (wsV RX5 51 RX4 yX4_size wsX4_size) := goodIn_app (goodIn_of _ (by decide +kernel)) ggX5_writeTo_X4_size
set_option maxRecDepth 20000 in
theorem ggX5_writeTo_X4_at : GoodIn wsX5_writeTo wsX4_at := goodIn_r _ [51, 47, 52, 75, 76] (by decide +kernel) (by decide +kernel)
set_option maxRecDepth 20000 in
theorem gX5_writeTo_X4_at : GoodIn wsX5_writeTo (wsV RX5 59 RX4 yX4_at wsX4_at) := goodIn_app (goodIn_of _ (by decide +kernel)) ggX5_writeTo_X4_at
set_option maxRecDepth 20000 in
theorem ggX5_writeTo_X6_put : GoodIn wsX5_writeTo wsX6_put := goodIn_r _ [27, 13, 72] (by decide +kernel) (by decide +kernel)
set_option maxRecDepth 20000 in
theorem gX5_writeTo_X6_put : GoodIn wsX5_writeTo (wsV RX5 82 RX6 yX6_put wsX6_put) := goodIn_app (goodIn_of _ (by decide +kernel)) ggX5_writeTo_X6_put
theorem dX5_writeTo_0 : decode cX5_writeTo 0 = .ok (.iconst 0, 1) := by decide +kernel
theorem dX5_writeTo_1 : decode cX5_writeTo 1 = .ok (.istore_n 2, 1) := by decide +kernel
theorem dX5_writeTo_2 : decode cX5_writeTo 2 = .ok (.iload_n 2, 1) := by decide +kernel
theorem dX5_writeTo_3 : decode cX5_writeTo 3 = .ok (.bipush 6, 2) := by decide +kernel
theorem dX5_writeTo_5 : decode cX5_writeTo 5 = .ok (.if_icmp .ge 34, 3) := by decide +kernel
theorem dX5_writeTo_8 : decode cX5_writeTo 8 = .ok (.aload_n 0, 1) := by decide +kernel
theorem dX5_writeTo_9 : decode cX5_writeTo 9 = .ok (.getfield 23, 3) := by decide +kernel
theorem dX5_writeTo_12 : decode cX5_writeTo 12 = .ok (.iload_n 2, 1) := by decide +kernel
theorem dX5_writeTo_13 : decode cX5_writeTo 13 = .ok (.invokevirtual 119, 3) := by decide +kernel
theorem dX5_writeTo_16 : decode cX5_writeTo 16 = .ok (.iconst 1, 1) := by decide +kernel
theorem dX5_writeTo_17 : decode cX5_writeTo 17 = .ok (.if_icmp .ne 16, 3) := by decide +kernel
theorem dX5_writeTo_20 : decode cX5_writeTo 20 = .ok (.aload_n 1, 1) := by decide +kernel
theorem dX5_writeTo_21 : decode cX5_writeTo 21 = .ok (.getfield 120, 3) := by decide +kernel
theorem dX5_writeTo_24 : decode cX5_writeTo 24 = .ok (.iload_n 2, 1) := by decide +kernel
theorem dX5_writeTo_25 : decode cX5_writeTo 25 = .ok (.aload_n 0, 1) := by decide +kernel
theorem dX5_writeTo_26 : decode cX5_writeTo 26 = .ok (.getfield 14, 3) := by decide +kernel
theorem dX5_writeTo_29 : decode cX5_writeTo 29 = .ok (.iload_n 2, 1) := by decide +kernel
theorem dX5_writeTo_30 : decode cX5_writeTo 30 = .ok (.invokevirtual 123, 3) := by decide +kernel
theorem dX5_writeTo_33 : decode cX5_writeTo 33 = .ok (.iinc 2 1, 3) := by decide +kernel
theorem dX5_writeTo_36 : decode cX5_writeTo 36 = .ok (.goto (-34), 3) := by decide +kernel
theorem dX5_writeTo_39 : decode cX5_writeTo 39 = .ok (.iconst 0, 1) := by decide +kernel
theorem dX5_writeTo_40 : decode cX5_writeTo 40 = .ok (.istore_n 2, 1) := by decide +kernel
theorem dX5_writeTo_41 : decode cX5_writeTo 41 = .ok (.iload_n 2, 1) := by decide +kernel
theorem dX5_writeTo_42 : decode cX5_writeTo 42 = .ok (.aload_n 0, 1) := by decide +kernel
theorem dX5_writeTo_43 : decode cX5_writeTo 43 = .ok (.getfield 30, 3) := by decide +kernel
theorem dX5_writeTo_46 : decode cX5_writeTo 46 = .ok (.invokevirtual 51, 3) := by decide +kernel
theorem dX5_writeTo_49 : decode cX5_writeTo 49 = .ok (.if_icmp .ge 35, 3) := by decide +kernel
theorem dX5_writeTo_52 : decode cX5_writeTo 52 = .ok (.aload_n 1, 1) := by decide +kernel
theorem dX5_writeTo_53 : decode cX5_writeTo 53 = .ok (.getfield 110, 3) := by decide +kernel
theorem dX5_writeTo_56 : decode cX5_writeTo 56 = .ok (.getfield 127, 3) := by decide +kernel
theorem dX5_writeTo_59 : decode cX5_writeTo 59 = .ok (.aload_n 0, 1) := by decide +kernel
theorem dX5_writeTo_60 : decode cX5_writeTo 60 = .ok (.getfield 30, 3) := by decide +kernel
theorem dX5_writeTo_63 : decode cX5_writeTo 63 = .ok (.iload_n 2, 1) := by decide +kernel
theorem dX5_writeTo_64 : decode cX5_writeTo 64 = .ok (.invokevirtual 59, 3) := by decide +kernel
theorem dX5_writeTo_67 : decode cX5_writeTo 67 = .ok (.aload_n 0, 1) := by decide +kernel
theorem dX5_writeTo_68 : decode cX5_writeTo 68 = .ok (.getfield 34, 3) := by decide +kernel
theorem dX5_writeTo_71 : decode cX5_writeTo 71 = .ok (.iload_n 2, 1) := by decide +kernel
theorem dX5_writeTo_72 : decode cX5_writeTo 72 = .ok (.invokevirtual 59, 3) := by decide +kernel
theorem dX5_writeTo_75 : decode cX5_writeTo 75 = .ok (.invokevirtual 82, 3) := by decide +kernel
theorem dX5_writeTo_78 : decode cX5_writeTo 78 = .ok (.iinc 2 1, 3) := by decide +kernel
theorem dX5_writeTo_81 : decode cX5_writeTo 81 = .ok (.goto (-40), 3) := by decide +kernel
theorem dX5_writeTo_84 : decode cX5_writeTo 84 = .ok (.return_, 1) := by decide +kernel
theorem dX6_init_0 : decode cX6_init 0 = .ok (.aload_n 0, 1) := by decide +kernel
theorem dX6_init_1 : decode cX6_init 1 = .ok (.invokespecial 1, 3) := by decide +kernel
theorem dX6_init_4 : decode cX6_init 4 = .ok (.aload_n 0, 1) := by decide +kernel
theorem dX6_init_5 : decode cX6_init 5 = .ok (.iload_n 1, 1) := by decide +kernel
theorem dX6_init_6 : decode cX6_init 6 = .ok (.iconst 0, 1) := by decide +kernel
theorem dX6_init_7 : decode cX6_init 7 = .ok (.invokestatic 7, 3) := by decide +kernel
theorem dX6_init_10 : decode cX6_init 10 = .ok (.newarray .int, 2) := by decide +kernel
theorem dX6_init_12 : decode cX6_init 12 = .ok (.putfield 13, 3) := by decide +kernel
theorem dX6_init_15 : decode cX6_init 15 = .ok (.return_, 1) := by decide +kernel
theorem dX6_at_0 : decode cX6_at 0 = .ok (.iload_n 1, 1) := by decide +kernel
theorem dX6_at_1 : decode cX6_at 1 = .ok (.ifCond .lt 21, 3) := by decide +kernel
theorem dX6_at_4 : decode cX6_at 4 = .ok (.iload_n 1, 1) := by decide +kernel
theorem dX6_at_5 : decode cX6_at 5 = .ok (.aload_n 0, 1) := by decide +kernel
theorem dX6_at_6 : decode cX6_at 6 = .ok (.getfield 13, 3) := by decide +kernel
theorem dX6_at_9 : decode cX6_at 9 = .ok (.arraylength, 1) := by decide +kernel
theorem dX6_at_10 : decode cX6_at 10 = .ok (.if_icmp .ge 12, 3) := by decide +kernel
theorem dX6_at_13 : decode cX6_at 13 = .ok (.aload_n 0, 1) := by decide +kernel
theorem dX6_at_14 : decode cX6_at 14 = .ok (.getfield 13, 3) := by decide +kernel
theorem dX6_at_17 : decode cX6_at 17 = .ok (.iload_n 1, 1) := by decide +kernel
theorem dX6_at_18 : decode cX6_at 18 = .ok (.iaload, 1) := by decide +kernel
theorem dX6_at_19 : decode cX6_at 19 = .ok (.goto 4, 3) := by decide +kernel
theorem dX6_at_22 : decode cX6_at 22 = .ok (.iconst 0, 1) := by decide +kernel
theorem dX6_at_23 : decode cX6_at 23 = .ok (.ireturn, 1) := by decide +kernel
theorem dX6_put_0 : decode cX6_put 0 = .ok (.iload_n 1, 1) := by decide +kernel
theorem dX6_put_1 : decode cX6_put 1 = .ok (.ifCond .lt 19, 3) := by decide +kernel
theorem dX6_put_4 : decode cX6_put 4 = .ok (.iload_n 1, 1) := by decide +kernel
theorem dX6_put_5 : decode cX6_put 5 = .ok (.aload_n 0, 1) := by decide +kernel
theorem dX6_put_6 : decode cX6_put 6 = .ok (.getfield 13, 3) := by decide +kernel
theorem dX6_put_9 : decode cX6_put 9 = .ok (.arraylength, 1) := by decide +kernel
theorem dX6_put_10 : decode cX6_put 10 = .ok (.if_icmp .ge 10, 3) := by decide +kernel
theorem dX6_put_13 : decode cX6_put 13 = .ok (.aload_n 0, 1) := by decide +kernel
theorem dX6_put_14 : decode cX6_put 14 = .ok (.getfield 13, 3) := by decide +kernel
theorem dX6_put_17 : decode cX6_put 17 = .ok (.iload_n 1, 1) := by decide +kernel
theorem dX6_put_18 : decode cX6_put 18 = .ok (.iload_n 2, 1) := by decide +kernel
theorem dX6_put_19 : decode cX6_put 19 = .ok (.iastore, 1) := by decide +kernel
theorem dX6_put_20 : decode cX6_put 20 = .ok (.return_, 1) := by decide +kernel
theorem dX6_change_0 : decode cX6_change 0 = .ok (.iload_n 1, 1) := by decide +kernel
theorem dX6_change_1 : decode cX6_change 1 = .ok (.ifCond .lt 22, 3) := by decide +kernel
theorem dX6_change_4 : decode cX6_change 4 = .ok (.iload_n 1, 1) := by decide +kernel
theorem dX6_change_5 : decode cX6_change 5 = .ok (.aload_n 0, 1) := by decide +kernel
theorem dX6_change_6 : decode cX6_change 6 = .ok (.getfield 13, 3) := by decide +kernel
theorem dX6_change_9 : decode cX6_change 9 = .ok (.arraylength, 1) := by decide +kernel
theorem dX6_change_10 : decode cX6_change 10 = .ok (.if_icmp .ge 13, 3) := by decide +kernel
theorem dX6_change_13 : decode cX6_change 13 = .ok (.aload_n 0, 1) := by decide +kernel
theorem dX6_change_14 : decode cX6_change 14 = .ok (.getfield 13, 3) := by decide +kernel
theorem dX6_change_17 : decode cX6_change 17 = .ok (.iload_n 1, 1) := by decide +kernel
theorem dX6_change_18 : decode cX6_change 18 = .ok (.dup2, 1) := by decide +kernel
theorem dX6_change_19 : decode cX6_change 19 = .ok (.iaload, 1) := by decide +kernel
theorem dX6_change_20 : decode cX6_change 20 = .ok (.iload_n 2, 1) := by decide +kernel
theorem dX6_change_21 : decode cX6_change 21 = .ok (.iadd, 1) := by decide +kernel
theorem dX6_change_22 : decode cX6_change 22 = .ok (.iastore, 1) := by decide +kernel
theorem dX6_change_23 : decode cX6_change 23 = .ok (.return_, 1) := by decide +kernel
theorem dX6_clear_0 : decode cX6_clear 0 = .ok (.iconst 0, 1) := by decide +kernel
theorem dX6_clear_1 : decode cX6_clear 1 = .ok (.istore_n 1, 1) := by decide +kernel
theorem dX6_clear_2 : decode cX6_clear 2 = .ok (.iload_n 1, 1) := by decide +kernel
theorem dX6_clear_3 : decode cX6_clear 3 = .ok (.aload_n 0, 1) := by decide +kernel
theorem dX6_clear_4 : decode cX6_clear 4 = .ok (.getfield 13, 3) := by decide +kernel
theorem dX6_clear_7 : decode cX6_clear 7 = .ok (.arraylength, 1) := by decide +kernel
theorem dX6_clear_8 : decode cX6_clear 8 = .ok (.if_icmp .ge 16, 3) := by decide +kernel
theorem dX6_clear_11 : decode cX6_clear 11 = .ok (.aload_n 0, 1) := by decide +kernel
theorem dX6_clear_12 : decode cX6_clear 12 = .ok (.getfield 13, 3) := by decide +kernel
theorem dX6_clear_15 : decode cX6_clear 15 = .ok (.iload_n 1, 1) := by decide +kernel
theorem dX6_clear_16 : decode cX6_clear 16 = .ok (.iconst 0, 1) := by decide +kernel
theorem dX6_clear_17 : decode cX6_clear 17 = .ok (.iastore, 1) := by decide +kernel
theorem dX6_clear_18 : decode cX6_clear 18 = .ok (.iinc 1 1, 3) := by decide +kernel
theorem dX6_clear_21 : decode cX6_clear 21 = .ok (.goto (-19), 3) := by decide +kernel
theorem dX6_clear_24 : decode cX6_clear 24 = .ok (.return_, 1) := by decide +kernel
theorem dX6_copy_0 : decode cX6_copy 0 = .ok (.aload_n 1, 1) := by decide +kernel
theorem dX6_copy_1 : decode cX6_copy 1 = .ok (.getfield 13, 3) := by decide +kernel
theorem dX6_copy_4 : decode cX6_copy 4 = .ok (.iconst 0, 1) := by decide +kernel
theorem dX6_copy_5 : decode cX6_copy 5 = .ok (.aload_n 0, 1) := by decide +kernel
theorem dX6_copy_6 : decode cX6_copy 6 = .ok (.getfield 13, 3) := by decide +kernel
theorem dX6_copy_9 : decode cX6_copy 9 = .ok (.iconst 0, 1) := by decide +kernel
theorem dX6_copy_10 : decode cX6_copy 10 = .ok (.aload_n 0, 1) := by decide +kernel
theorem dX6_copy_11 : decode cX6_copy 11 = .ok (.getfield 13, 3) := by decide +kernel
theorem dX6_copy_14 : decode cX6_copy 14 = .ok (.arraylength, 1) := by decide +kernel
theorem dX6_copy_15 : decode cX6_copy 15 = .ok (.aload_n 1, 1) := by decide +kernel
theorem dX6_copy_16 : decode cX6_copy 16 = .ok (.getfield 13, 3) := by decide +kernel
theorem dX6_copy_19 : decode cX6_copy 19 = .ok (.arraylength, 1) := by decide +kernel
theorem dX6_copy_20 : decode cX6_copy 20 = .ok (.invokestatic 19, 3) := by decide +kernel
theorem dX6_copy_23 : decode cX6_copy 23 = .ok (.invokestatic 22, 3) := by decide +kernel
theorem dX6_copy_26 : decode cX6_copy 26 = .ok (.return_, 1) := by decide +kernel
set_option maxRecDepth 20000 in
theorem ggX7_init_X2_init : GoodIn wsX7_init wsX2_init := goodIn_r _ [15, 16, 2, 3, 17, 18, 19, 20, 21, 34, 35, 36, 26, 27, 28, 29, 30, 31, 32, 33] (by decide +kernel) (by decide +kernel)
set_option maxRecDepth 20000 in
theorem gX7_init_X2_init : GoodIn wsX7_init (wsX2_init) := ggX7_init_X2_init
theorem dX7_init_0 : decode cX7_init 0 = .ok (.aload_n 0, 1) := by decide +kernel
theorem dX7_init_1 : decode cX7_init 1 = .ok (.invokespecial 3, 3) := by decide +kernel
theorem dX7_init_4 : decode cX7_init 4 = .ok (.aload_n 0, 1) := by decide +kernel
theorem dX7_init_5 : decode cX7_init 5 = .ok (.aload_n 1, 1) := by decide +kernel
theorem dX7_init_6 : decode cX7_init 6 = .ok (.putfield 9, 3) := by decide +kernel
theorem dX7_init_9 : decode cX7_init 9 = .ok (.aload_n 0, 1) := by decide +kernel
theorem dX7_init_10 : decode cX7_init 10 = .ok (.aload_n 1, 1) := by decide +kernel
theorem dX7_init_11 : decode cX7_init 11 = .ok (.getfield 15, 3) := by decide +kernel
theorem dX7_init_14 : decode cX7_init 14 = .ok (.putfield 21, 3) := by decide +kernel
theorem dX7_init_17 : decode cX7_init 17 = .ok (.aload_n 0, 1) := by decide +kernel
theorem dX7_init_18 : decode cX7_init 18 = .ok (.aload_n 1, 1) := by decide +kernel
theorem dX7_init_19 : decode cX7_init 19 = .ok (.getfield 22, 3) := by decide +kernel
theorem dX7_init_22 : decode cX7_init 22 = .ok (.putfield 26, 3) := by decide +kernel
theorem dX7_init_25 : decode cX7_init 25 = .ok (.aload_n 0, 1) := by decide +kernel
theorem dX7_init_26 : decode cX7_init 26 = .ok (.new 27, 3) := by decide +kernel
theorem dX7_init_29 : decode cX7_init 29 = .ok (.dup, 1) := by decide +kernel
theorem dX7_init_30 : decode cX7_init 30 = .ok (.aload_n 1, 1) := by decide +kernel
theorem dX7_init_31 : decode cX7_init 31 = .ok (.invokespecial 29, 3) := by decide +kernel
theorem dX7_init_34 : decode cX7_init 34 = .ok (.putfield 32, 3) := by decide +kernel
theorem dX7_init_37 : decode cX7_init 37 = .ok (.return_, 1) := by decide +kernel
set_option maxRecDepth 20000 in
theorem ggX7_upcoming_X4_size : GoodIn wsX7_upcoming wsX4_size := goodIn_r _ [7, 8, 68, 69] (by decide +kernel) (by decide +kernel)
set_option maxRecDepth 20000 in
theorem gX7_upcoming_X4_size : GoodIn wsX7_upcoming (wsV RX7 40 RX4 yX4_size wsX4_size) := goodIn_app (goodIn_of _ (by decide +kernel)) ggX7_upcoming_X4_size
set_option maxRecDepth 20000 in
theorem ggX7_upcoming_X4_at : GoodIn wsX7_upcoming wsX4_at := goodIn_r _ [12, 8, 13, 68, 69] (by decide +kernel) (by decide +kernel)
set_option maxRecDepth 20000 in
theorem gX7_upcoming_X4_at : GoodIn wsX7_upcoming (wsV RX7 46 RX4 yX4_at wsX4_at) := goodIn_app (goodIn_of _ (by decide +kernel)) ggX7_upcoming_X4_at
set_option maxRecDepth 20000 in
theorem ggX7_upcoming_X7_nextTime : GoodIn wsX7_upcoming wsX7_nextTime := goodIn_r _ [18, 19, 20, 21, 22, 23, 24, 25, 1, 26, 27, 28, 29, 30, 31, 32, 33, 34, 17, 35, 36, 37, 38, 39, 40, 41, 42, 43, 44, 45, 46, 56, 57, 58, 59, 70, 71, 72, 73, 74, 75, 76, 77, 78, 79, 80, 81, 82, 83, 84, 85, 86, 87, 88, 89, 90, 91, 92, 93, 94, 95, 96, 97, 60, 61, 62, 63, 64, 65, 66, 67, 98] (by decide +kernel) (by decide +kernel)
set_option maxRecDepth 20000 in
theorem gX7_upcoming_X7_nextTime : GoodIn wsX7_upcoming (wsV RX7 50 RX7 yX7_nextTime wsX7_nextTime) := goodIn_app (goodIn_of _ (by decide +kernel)) ggX7_upcoming_X7_nextTime
set_option maxRecDepth 20000 in
theorem ggX7_upcoming_X10_liveTasks : GoodIn wsX7_upcoming wsX10_liveTasks := goodIn_r _ [51, 52, 53, 54, 55, 4, 5, 6, 7, 8, 60, 61, 62, 63, 64, 65, 66, 67, 70, 71, 72, 73, 74, 75, 76, 77, 78, 79, 80, 81, 82, 83, 84, 85, 86, 68, 69] (by decide +kernel) (by decide +kernel)
set_option maxRecDepth 20000 in
theorem gX7_upcoming_X10_liveTasks : GoodIn wsX7_upcoming (wsV RX7 53 RX10 yX10_liveTasks wsX10_liveTasks) := goodIn_app (goodIn_of _ (by decide +kernel)) ggX7_upcoming_X10_liveTasks
theorem dX7_upcoming_0 : decode cX7_upcoming 0 = .ok (.aload_n 0, 1) := by decide +kernel
theorem dX7_upcoming_1 : decode cX7_upcoming 1 = .ok (.getfield 9, 3) := by decide +kernel
theorem dX7_upcoming_4 : decode cX7_upcoming 4 = .ok (.getfield 36, 3) := by decide +kernel
theorem dX7_upcoming_7 : decode cX7_upcoming 7 = .ok (.invokevirtual 40, 3) := by decide +kernel
theorem dX7_upcoming_10 : decode cX7_upcoming 10 = .ok (.ifCond .le 15, 3) := by decide +kernel
theorem dX7_upcoming_13 : decode cX7_upcoming 13 = .ok (.aload_n 0, 1) := by decide +kernel
theorem dX7_upcoming_14 : decode cX7_upcoming 14 = .ok (.getfield 9, 3) := by decide +kernel
theorem dX7_upcoming_17 : decode cX7_upcoming 17 = .ok (.getfield 36, 3) := by decide +kernel
theorem dX7_upcoming_20 : decode cX7_upcoming 20 = .ok (.iconst 0, 1) := by decide +kernel
theorem dX7_upcoming_21 : decode cX7_upcoming 21 = .ok (.invokevirtual 46, 3) := by decide +kernel
theorem dX7_upcoming_24 : decode cX7_upcoming 24 = .ok (.ireturn, 1) := by decide +kernel
theorem dX7_upcoming_25 : decode cX7_upcoming 25 = .ok (.aload_n 0, 1) := by decide +kernel
theorem dX7_upcoming_26 : decode cX7_upcoming 26 = .ok (.invokevirtual 50, 3) := by decide +kernel
theorem dX7_upcoming_29 : decode cX7_upcoming 29 = .ok (.iconst (-1), 1) := by decide +kernel
theorem dX7_upcoming_30 : decode cX7_upcoming 30 = .ok (.if_icmp .eq 6, 3) := by decide +kernel
theorem dX7_upcoming_33 : decode cX7_upcoming 33 = .ok (.bipush 100, 2) := by decide +kernel
theorem dX7_upcoming_35 : decode cX7_upcoming 35 = .ok (.ireturn, 1) := by decide +kernel
theorem dX7_upcoming_36 : decode cX7_upcoming 36 = .ok (.aload_n 0, 1) := by decide +kernel
theorem dX7_upcoming_37 : decode cX7_upcoming 37 = .ok (.getfield 9, 3) := by decide +kernel
theorem dX7_upcoming_40 : decode cX7_upcoming 40 = .ok (.invokevirtual 53, 3) := by decide +kernel
theorem dX7_upcoming_43 : decode cX7_upcoming 43 = .ok (.ifCond .ne 9, 3) := by decide +kernel
theorem dX7_upcoming_46 : decode cX7_upcoming 46 = .ok (.sipush 200, 3) := by decide +kernel
theorem dX7_upcoming_49 : decode cX7_upcoming 49 = .ok (.goto 6, 3) := by decide +kernel
theorem dX7_upcoming_52 : decode cX7_upcoming 52 = .ok (.sipush 300, 3) := by decide +kernel
theorem dX7_upcoming_55 : decode cX7_upcoming 55 = .ok (.ireturn, 1) := by decide +kernel
set_option maxRecDepth 20000 in
theorem ggX7_makeTurn_X4_size : GoodIn wsX7_makeTurn wsX4_size := goodIn_r _ [14, 15, 456, 457] (by decide +kernel) (by decide +kernel)
set_option maxRecDepth 20000 in
theorem gX7_makeTurn_X4_size : GoodIn wsX7_makeTurn (wsV RX7 40 RX4 yX4_size wsX4_size) := goodIn_app (goodIn_of _ (by decide +kernel)) ggX7_makeTurn_X4_size
set_option maxRecDepth 20000 in
theorem ggX7_makeTurn_X7_passTime : GoodIn wsX7_makeTurn wsX7_passTime := goodIn_r _ [20, 1, 3, 21, 22, 23, 19, 24, 4, 25, 9, 26, 27, 28, 29, 30, 31, 32, 33, 34, 35, 36, 37, 38, 39, 40, 41, 42, 43, 44, 45, 46, 47, 48, 49, 50, 51, 52, 53, 54, 55, 56, 57, 58, 59, 60, 61, 62, 63, 64, 65, 66, 67, 68, 69, 70, 71, 72, 73, 74, 13, 75, 15, 76, 77, 78, 79, 80, 81, 82, 83, 84, 85, 86, 87, 88, 89, 90, 91, 92, 93, 94, 95, 96, 97, 98, 99, 100, 101, 102, 103, 104, 105, 106, 107, 108, 109, 110, 111, 112, 113, 114, 115, 116, 117, 118, 119, 120, 121, 427, 428, 429, 430, 431, 432, 433, 434, 435, 436, 437, 438, 439, 440, 441, 442, 443, 444, 445, 446, 447, 448, 449, 450, 451, 452, 453, 454, 455, 458, 459, 460, 461, 462, 463, 464, 465, 466, 467, 468, 469, 456, 457] (by decide +kernel) (by decide +kernel)
set_option maxRecDepth 20000 in
theorem gX7_makeTurn_X7_passTime : GoodIn wsX7_makeTurn (wsV RX7 56 RX7 yX7_passTime wsX7_passTime) := goodIn_app (goodIn_of _ (by decide +kernel)) ggX7_makeTurn_X7_passTime
set_option maxRecDepth 20000 in
theorem ggX7_makeTurn_X6_change : GoodIn wsX7_makeTurn wsX6_change := goodIn_r _ [53, 35, 469] (by decide +kernel) (by decide +kernel)
set_option maxRecDepth 20000 in
theorem gX7_makeTurn_X6_change : GoodIn wsX7_makeTurn (wsV RX7 64 RX6 yX6_change wsX6_change) := goodIn_app (goodIn_of _ (by decide +kernel)) ggX7_makeTurn_X6_change
set_option maxRecDepth 20000 in
theorem ggX7_makeTurn_X4_takeFirst : GoodIn wsX7_makeTurn wsX4_takeFirst := goodIn_r _ [125, 15, 76, 126, 127, 41, 128, 129, 130, 131, 13, 132, 456, 457] (by decide +kernel) (by decide +kernel)
set_option maxRecDepth 20000 in
theorem gX7_makeTurn_X4_takeFirst : GoodIn wsX7_makeTurn (wsV RX7 70 RX4 yX4_takeFirst wsX4_takeFirst) := goodIn_app (goodIn_of _ (by decide +kernel)) ggX7_makeTurn_X4_takeFirst
set_option maxRecDepth 20000 in
theorem ggX7_makeTurn_X9_executesCleanup : GoodIn wsX7_makeTurn wsX9_executesCleanup := goodIn_r _ [119, 120, 96, 31, 32, 33, 34, 35, 439, 440, 441, 442, 443, 444, 445, 446, 447, 448, 449, 450, 451, 452, 453, 454, 455, 469] (by decide +kernel) (by decide +kernel)
set_option maxRecDepth 20000 in
theorem gX7_makeTurn_X9_executesCleanup : GoodIn wsX7_makeTurn (wsV RX7 73 RX9 yX9_executesCleanup wsX9_executesCleanup) := goodIn_app (goodIn_of _ (by decide +kernel)) ggX7_makeTurn_X9_executesCleanup
set_option maxRecDepth 20000 in
theorem ggX7_makeTurn_X7_continueCleanup : GoodIn wsX7_makeTurn wsX7_continueCleanup := goodIn_r _ [137, 4, 138, 27, 139, 140, 141, 142, 93, 143, 144, 96, 31, 32, 33, 34, 35, 145, 146, 147, 148, 149, 30, 150, 151, 152, 153, 154, 155, 156, 54, 55, 56, 57, 157, 158, 159, 160, 161, 162, 163, 164, 165, 166, 167, 19, 168, 169, 170, 171, 172, 173, 174, 175, 176, 6, 1, 177, 178, 3, 179, 180, 181, 182, 183, 184, 185, 65, 186, 187, 188, 189, 190, 191, 192, 193, 194, 195, 196, 11, 12, 13, 14, 15, 197, 73, 74, 75, 76, 198, 199, 200, 201, 202, 203, 67, 204, 97, 205, 85, 86, 87, 68, 88, 89, 90, 91, 92, 94, 95, 98, 99, 100, 101, 102, 103, 104, 105, 106, 107, 108, 109, 110, 111, 112, 113, 114, 115, 51, 52, 53, 116, 117, 118, 119, 120, 121, 63, 64, 66, 69, 70, 71, 72, 206, 50, 207, 208, 209, 210, 211, 212, 213, 214, 215, 427, 428, 429, 430, 439, 440, 441, 442, 443, 444, 445, 446, 447, 448, 449, 450, 451, 452, 453, 454, 455, 458, 459, 460, 461, 462, 463, 464, 465, 466, 467, 468, 469, 470, 471, 431, 432, 433, 434, 435, 436, 437, 438, 472, 473, 474, 456, 457] (by decide +kernel) (by decide +kernel)
set_option maxRecDepth 20000 in
theorem gX7_makeTurn_X7_continueCleanup : GoodIn wsX7_makeTurn (wsV RX7 79 RX7 yX7_continueCleanup wsX7_continueCleanup) := goodIn_app (goodIn_of _ (by decide +kernel)) ggX7_makeTurn_X7_continueCleanup
set_option maxRecDepth 20000 in
theorem ggX7_makeTurn_X9_hasReason : GoodIn wsX7_makeTurn wsX9_hasReason := goodIn_r _ [101, 102, 96, 31, 32, 33, 34, 35, 439, 440, 441, 442, 443, 444, 445, 446, 447, 448, 449, 450, 451, 452, 453, 454, 455, 469] (by decide +kernel) (by decide +kernel)
set_option maxRecDepth 20000 in
theorem gX7_makeTurn_X9_hasReason : GoodIn wsX7_makeTurn (wsV RX7 83 RX9 yX9_hasReason wsX9_hasReason) := goodIn_app (goodIn_of _ (by decide +kernel)) ggX7_makeTurn_X9_hasReason
set_option maxRecDepth 20000 in
theorem ggX7_makeTurn_X6_at : GoodIn wsX7_makeTurn wsX6_at := goodIn_r _ [34, 35, 469] (by decide +kernel) (by decide +kernel)
set_option maxRecDepth 20000 in
theorem gX7_makeTurn_X6_at : GoodIn wsX7_makeTurn (wsV RX7 89 RX6 yX6_at wsX6_at) := goodIn_app (goodIn_of _ (by decide +kernel)) ggX7_makeTurn_X6_at
set_option maxRecDepth 20000 in
theorem ggX7_makeTurn_X7_leaveInnermost : GoodIn wsX7_makeTurn wsX7_leaveInnermost := goodIn_r _ [220, 4, 27, 81, 1, 83, 221, 140, 141, 142, 93, 143, 144, 96, 31, 32, 33, 34, 35, 145, 146, 147, 148, 149, 30, 54, 55, 56, 57, 222, 223, 224, 65, 225, 67, 226, 227, 97, 205, 85, 86, 87, 68, 88, 89, 90, 91, 92, 94, 95, 98, 99, 100, 101, 102, 103, 104, 105, 106, 107, 108, 109, 110, 111, 112, 113, 114, 115, 51, 52, 53, 116, 117, 118, 119, 120, 121, 63, 64, 66, 69, 70, 71, 72, 73, 74, 13, 75, 15, 76, 228, 229, 230, 19, 231, 232, 9, 233, 138, 3, 5, 50, 234, 235, 236, 237, 6, 178, 169, 177, 7, 238, 239, 240, 241, 191, 242, 195, 193, 243, 130, 131, 132, 244, 427, 428, 429, 430, 458, 459, 460, 461, 462, 463, 464, 465, 466, 467, 468, 439, 440, 441, 442, 443, 444, 445, 446, 447, 448, 449, 450, 451, 452, 453, 454, 455, 469, 431, 432, 433, 434, 435, 436, 437, 438, 456, 457, 472, 473, 474] (by decide +kernel) (by decide +kernel)
set_option maxRecDepth 20000 in
theorem gX7_makeTurn_X7_leaveInnermost : GoodIn wsX7_makeTurn (wsV RX7 90 RX7 yX7_leaveInnermost wsX7_leaveInnermost) := goodIn_app (goodIn_of _ (by decide +kernel)) ggX7_makeTurn_X7_leaveInnermost
set_option maxRecDepth 20000 in
theorem ggX7_makeTurn_X7_endTask : GoodIn wsX7_makeTurn wsX7_endTask := goodIn_r _ [248, 4, 9, 1, 249, 250, 27, 232, 82, 178, 54, 55, 56, 33, 57, 35, 251, 73, 74, 13, 75, 15, 76, 30, 31, 32, 34, 50, 51, 52, 53, 252, 253, 254, 19, 255, 81, 83, 3, 183, 184, 185, 65, 186, 187, 188, 189, 190, 191, 192, 193, 194, 195, 196, 11, 12, 14, 197, 198, 199, 200, 201, 202, 203, 67, 204, 146, 147, 93, 148, 144, 149, 96, 97, 205, 85, 86, 87, 68, 88, 89, 90, 91, 92, 94, 95, 98, 99, 100, 101, 102, 103, 104, 105, 106, 107, 108, 109, 110, 111, 112, 113, 114, 115, 116, 117, 118, 119, 120, 121, 63, 64, 66, 69, 70, 71, 72, 140, 141, 142, 143, 145, 62, 427, 428, 429, 430, 439, 440, 441, 442, 443, 444, 445, 446, 447, 448, 449, 450, 451, 452, 453, 454, 455, 431, 432, 433, 434, 435, 436, 437, 438, 458, 459, 460, 461, 462, 463, 464, 465, 466, 467, 468, 469, 456, 457, 472, 473, 474] (by decide +kernel) (by decide +kernel)
set_option maxRecDepth 20000 in
theorem gX7_makeTurn_X7_endTask : GoodIn wsX7_makeTurn (wsV RX7 96 RX7 yX7_endTask wsX7_endTask) := goodIn_app (goodIn_of _ (by decide +kernel)) ggX7_makeTurn_X7_endTask
set_option maxRecDepth 20000 in
theorem ggX7_makeTurn_X0_length : GoodIn wsX7_makeTurn wsX0_length := goodIn_r _ [154, 155, 156, 31, 32, 33, 34, 35, 470, 471, 469] (by decide +kernel) (by decide +kernel)
set_option maxRecDepth 20000 in
theorem gX7_makeTurn_X0_length : GoodIn wsX7_makeTurn (wsV RX7 106 RX0 yX0_length wsX0_length) := goodIn_app (goodIn_of _ (by decide +kernel)) ggX7_makeTurn_X0_length
set_option maxRecDepth 20000 in
theorem ggX7_makeTurn_X7_executeNext : GoodIn wsX7_makeTurn wsX7_executeNext := goodIn_r _ [259, 4, 7, 8, 1, 260, 30, 31, 32, 33, 34, 35, 157, 158, 159, 153, 160, 155, 161, 156, 162, 163, 164, 170, 171, 172, 165, 166, 167, 19, 168, 169, 54, 55, 56, 57, 261, 262, 263, 264, 140, 141, 142, 93, 143, 144, 96, 145, 146, 147, 148, 149, 228, 229, 230, 231, 27, 232, 9, 233, 138, 3, 81, 5, 50, 51, 52, 53, 265, 266, 267, 268, 28, 179, 180, 181, 182, 183, 184, 185, 65, 186, 187, 188, 189, 190, 191, 192, 193, 194, 195, 196, 11, 12, 13, 14, 15, 197, 73, 74, 75, 76, 198, 199, 200, 201, 202, 203, 67, 204, 97, 205, 85, 86, 87, 68, 88, 89, 90, 91, 92, 94, 95, 98, 99, 100, 101, 102, 103, 104, 105, 106, 107, 108, 109, 110, 111, 112, 113, 114, 115, 116, 117, 118, 119, 120, 121, 63, 64, 66, 69, 70, 71, 72, 269, 270, 271, 272, 273, 151, 152, 154, 274, 275, 276, 277, 278, 279, 280, 281, 46, 282, 283, 284, 285, 286, 48, 287, 288, 289, 290, 291, 292, 293, 294, 295, 296, 297, 298, 299, 300, 301, 139, 302, 303, 304, 305, 306, 307, 308, 309, 310, 311, 312, 313, 314, 315, 316, 317, 318, 319, 320, 321, 322, 323, 226, 324, 325, 326, 327, 328, 329, 330, 331, 332, 333, 334, 215, 335, 336, 337, 338, 339, 340, 341, 222, 223, 224, 225, 227, 342, 343, 344, 345, 346, 347, 348, 349, 350, 351, 352, 353, 354, 355, 356, 357, 358, 359, 360, 361, 362, 363, 364, 365, 366, 367, 368, 369, 370, 371, 372, 373, 374, 375, 376, 377, 378, 379, 380, 381, 382, 383, 384, 385, 386, 387, 388, 389, 390, 391, 392, 393, 394, 395, 396, 397, 398, 399, 400, 401, 402, 403, 404, 405, 406, 407, 408, 409, 410, 411, 412, 413, 414, 415, 416, 417, 418, 419, 420, 421, 422, 423, 424, 425, 426, 207, 208, 209, 210, 211, 212, 213, 214, 427, 428, 429, 430, 439, 440, 441, 442, 443, 444, 445, 446, 447, 448, 449, 450, 451, 452, 453, 454, 455, 469, 470, 471, 458, 459, 460, 461, 462, 463, 464, 465, 466, 467, 468, 431, 432, 433, 434, 435, 436, 437, 438, 472, 473, 474, 456, 457, 475, 476, 477, 478, 479, 480] (by decide +kernel) (by decide +kernel)
set_option maxRecDepth 20000 in
theorem gX7_makeTurn_X7_executeNext : GoodIn wsX7_makeTurn (wsV RX7 111 RX7 yX7_executeNext wsX7_executeNext) := goodIn_app (goodIn_of _ (by decide +kernel)) ggX7_makeTurn_X7_executeNext
set_option maxRecDepth 20000 in
theorem ggX7_makeTurn_X4_add : GoodIn wsX7_makeTurn wsX4_add := goodIn_r _ [75, 15, 76, 456, 457] (by decide +kernel) (by decide +kernel)
set_option maxRecDepth 20000 in
theorem gX7_makeTurn_X4_add : GoodIn wsX7_makeTurn (wsV RX7 117 RX4 yX4_add wsX4_add) := goodIn_app (goodIn_of _ (by decide +kernel)) ggX7_makeTurn_X4_add
theorem dX7_makeTurn_0 : decode cX7_makeTurn 0 = .ok (.aload_n 0, 1) := by decide +kernel
theorem dX7_makeTurn_1 : decode cX7_makeTurn 1 = .ok (.getfield 9, 3) := by decide +kernel
theorem dX7_makeTurn_4 : decode cX7_makeTurn 4 = .ok (.getfield 36, 3) := by decide +kernel
theorem dX7_makeTurn_7 : decode cX7_makeTurn 7 = .ok (.invokevirtual 40, 3) := by decide +kernel
theorem dX7_makeTurn_10 : decode cX7_makeTurn 10 = .ok (.ifCond .ne 8, 3) := by decide +kernel
theorem dX7_makeTurn_13 : decode cX7_makeTurn 13 = .ok (.aload_n 0, 1) := by decide +kernel
theorem dX7_makeTurn_14 : decode cX7_makeTurn 14 = .ok (.invokevirtual 56, 3) := by decide +kernel
theorem dX7_makeTurn_17 : decode cX7_makeTurn 17 = .ok (.ireturn, 1) := by decide +kernel
theorem dX7_makeTurn_18 : decode cX7_makeTurn 18 = .ok (.aload_n 0, 1) := by decide +kernel
theorem dX7_makeTurn_19 : decode cX7_makeTurn 19 = .ok (.getfield 9, 3) := by decide +kernel
theorem dX7_makeTurn_22 : decode cX7_makeTurn 22 = .ok (.getfield 60, 3) := by decide +kernel
theorem dX7_makeTurn_25 : decode cX7_makeTurn 25 = .ok (.bipush 6, 2) := by decide +kernel
theorem dX7_makeTurn_27 : decode cX7_makeTurn 27 = .ok (.iconst 1, 1) := by decide +kernel
theorem dX7_makeTurn_28 : decode cX7_makeTurn 28 = .ok (.invokevirtual 64, 3) := by decide +kernel
theorem dX7_makeTurn_31 : decode cX7_makeTurn 31 = .ok (.aload_n 0, 1) := by decide +kernel
theorem dX7_makeTurn_32 : decode cX7_makeTurn 32 = .ok (.getfield 9, 3) := by decide +kernel
theorem dX7_makeTurn_35 : decode cX7_makeTurn 35 = .ok (.getfield 36, 3) := by decide +kernel
theorem dX7_makeTurn_38 : decode cX7_makeTurn 38 = .ok (.invokevirtual 70, 3) := by decide +kernel
theorem dX7_makeTurn_41 : decode cX7_makeTurn 41 = .ok (.istore_n 1, 1) := by decide +kernel
theorem dX7_makeTurn_42 : decode cX7_makeTurn 42 = .ok (.aload_n 0, 1) := by decide +kernel
theorem dX7_makeTurn_43 : decode cX7_makeTurn 43 = .ok (.getfield 21, 3) := by decide +kernel
theorem dX7_makeTurn_46 : decode cX7_makeTurn 46 = .ok (.iload_n 1, 1) := by decide +kernel
theorem dX7_makeTurn_47 : decode cX7_makeTurn 47 = .ok (.invokevirtual 73, 3) := by decide +kernel
theorem dX7_makeTurn_50 : decode cX7_makeTurn 50 = .ok (.ifCond .eq 11, 3) := by decide +kernel
theorem dX7_makeTurn_53 : decode cX7_makeTurn 53 = .ok (.aload_n 0, 1) := by decide +kernel
theorem dX7_makeTurn_54 : decode cX7_makeTurn 54 = .ok (.iload_n 1, 1) := by decide +kernel
theorem dX7_makeTurn_55 : decode cX7_makeTurn 55 = .ok (.invokevirtual 79, 3) := by decide +kernel
theorem dX7_makeTurn_58 : decode cX7_makeTurn 58 = .ok (.goto 117, 3) := by decide +kernel
theorem dX7_makeTurn_61 : decode cX7_makeTurn 61 = .ok (.aload_n 0, 1) := by decide +kernel
theorem dX7_makeTurn_62 : decode cX7_makeTurn 62 = .ok (.getfield 21, 3) := by decide +kernel
theorem dX7_makeTurn_65 : decode cX7_makeTurn 65 = .ok (.iload_n 1, 1) := by decide +kernel
theorem dX7_makeTurn_66 : decode cX7_makeTurn 66 = .ok (.invokevirtual 83, 3) := by decide +kernel
theorem dX7_makeTurn_69 : decode cX7_makeTurn 69 = .ok (.ifCond .eq 25, 3) := by decide +kernel
theorem dX7_makeTurn_72 : decode cX7_makeTurn 72 = .ok (.aload_n 0, 1) := by decide +kernel
theorem dX7_makeTurn_73 : decode cX7_makeTurn 73 = .ok (.getfield 21, 3) := by decide +kernel
theorem dX7_makeTurn_76 : decode cX7_makeTurn 76 = .ok (.getfield 86, 3) := by decide +kernel
theorem dX7_makeTurn_79 : decode cX7_makeTurn 79 = .ok (.iload_n 1, 1) := by decide +kernel
theorem dX7_makeTurn_80 : decode cX7_makeTurn 80 = .ok (.invokevirtual 89, 3) := by decide +kernel
theorem dX7_makeTurn_83 : decode cX7_makeTurn 83 = .ok (.ifCond .le 11, 3) := by decide +kernel
theorem dX7_makeTurn_86 : decode cX7_makeTurn 86 = .ok (.aload_n 0, 1) := by decide +kernel
theorem dX7_makeTurn_87 : decode cX7_makeTurn 87 = .ok (.iload_n 1, 1) := by decide +kernel
theorem dX7_makeTurn_88 : decode cX7_makeTurn 88 = .ok (.invokevirtual 90, 3) := by decide +kernel
theorem dX7_makeTurn_91 : decode cX7_makeTurn 91 = .ok (.goto 84, 3) := by decide +kernel
theorem dX7_makeTurn_94 : decode cX7_makeTurn 94 = .ok (.aload_n 0, 1) := by decide +kernel
theorem dX7_makeTurn_95 : decode cX7_makeTurn 95 = .ok (.getfield 21, 3) := by decide +kernel
theorem dX7_makeTurn_98 : decode cX7_makeTurn 98 = .ok (.iload_n 1, 1) := by decide +kernel
theorem dX7_makeTurn_99 : decode cX7_makeTurn 99 = .ok (.invokevirtual 83, 3) := by decide +kernel
theorem dX7_makeTurn_102 : decode cX7_makeTurn 102 = .ok (.ifCond .eq 33, 3) := by decide +kernel
theorem dX7_makeTurn_105 : decode cX7_makeTurn 105 = .ok (.aload_n 0, 1) := by decide +kernel
theorem dX7_makeTurn_106 : decode cX7_makeTurn 106 = .ok (.iload_n 1, 1) := by decide +kernel
theorem dX7_makeTurn_107 : decode cX7_makeTurn 107 = .ok (.aload_n 0, 1) := by decide +kernel
theorem dX7_makeTurn_108 : decode cX7_makeTurn 108 = .ok (.getfield 21, 3) := by decide +kernel
theorem dX7_makeTurn_111 : decode cX7_makeTurn 111 = .ok (.getfield 93, 3) := by decide +kernel
theorem dX7_makeTurn_114 : decode cX7_makeTurn 114 = .ok (.iload_n 1, 1) := by decide +kernel
theorem dX7_makeTurn_115 : decode cX7_makeTurn 115 = .ok (.invokevirtual 89, 3) := by decide +kernel
theorem dX7_makeTurn_118 : decode cX7_makeTurn 118 = .ok (.iconst 3, 1) := by decide +kernel
theorem dX7_makeTurn_119 : decode cX7_makeTurn 119 = .ok (.if_icmp .ne 8, 3) := by decide +kernel
theorem dX7_makeTurn_122 : decode cX7_makeTurn 122 = .ok (.bipush 7, 2) := by decide +kernel
theorem dX7_makeTurn_124 : decode cX7_makeTurn 124 = .ok (.goto 5, 3) := by decide +kernel
theorem dX7_makeTurn_127 : decode cX7_makeTurn 127 = .ok (.bipush 8, 2) := by decide +kernel
theorem dX7_makeTurn_129 : decode cX7_makeTurn 129 = .ok (.invokevirtual 96, 3) := by decide +kernel
theorem dX7_makeTurn_132 : decode cX7_makeTurn 132 = .ok (.goto 43, 3) := by decide +kernel
theorem dX7_makeTurn_135 : decode cX7_makeTurn 135 = .ok (.aload_n 0, 1) := by decide +kernel
theorem dX7_makeTurn_136 : decode cX7_makeTurn 136 = .ok (.getfield 21, 3) := by decide +kernel
theorem dX7_makeTurn_139 : decode cX7_makeTurn 139 = .ok (.getfield 99, 3) := by decide +kernel
theorem dX7_makeTurn_142 : decode cX7_makeTurn 142 = .ok (.iload_n 1, 1) := by decide +kernel
theorem dX7_makeTurn_143 : decode cX7_makeTurn 143 = .ok (.invokevirtual 89, 3) := by decide +kernel
theorem dX7_makeTurn_146 : decode cX7_makeTurn 146 = .ok (.aload_n 0, 1) := by decide +kernel
theorem dX7_makeTurn_147 : decode cX7_makeTurn 147 = .ok (.getfield 21, 3) := by decide +kernel
theorem dX7_makeTurn_150 : decode cX7_makeTurn 150 = .ok (.getfield 102, 3) := by decide +kernel
theorem dX7_makeTurn_153 : decode cX7_makeTurn 153 = .ok (.iload_n 1, 1) := by decide +kernel
theorem dX7_makeTurn_154 : decode cX7_makeTurn 154 = .ok (.invokevirtual 106, 3) := by decide +kernel
theorem dX7_makeTurn_157 : decode cX7_makeTurn 157 = .ok (.if_icmp .lt 13, 3) := by decide +kernel
theorem dX7_makeTurn_160 : decode cX7_makeTurn 160 = .ok (.aload_n 0, 1) := by decide +kernel
theorem dX7_makeTurn_161 : decode cX7_makeTurn 161 = .ok (.iload_n 1, 1) := by decide +kernel
theorem dX7_makeTurn_162 : decode cX7_makeTurn 162 = .ok (.bipush 6, 2) := by decide +kernel
theorem dX7_makeTurn_164 : decode cX7_makeTurn 164 = .ok (.invokevirtual 96, 3) := by decide +kernel
theorem dX7_makeTurn_167 : decode cX7_makeTurn 167 = .ok (.goto 8, 3) := by decide +kernel
theorem dX7_makeTurn_170 : decode cX7_makeTurn 170 = .ok (.aload_n 0, 1) := by decide +kernel
theorem dX7_makeTurn_171 : decode cX7_makeTurn 171 = .ok (.iload_n 1, 1) := by decide +kernel
theorem dX7_makeTurn_172 : decode cX7_makeTurn 172 = .ok (.invokevirtual 111, 3) := by decide +kernel
theorem dX7_makeTurn_175 : decode cX7_makeTurn 175 = .ok (.aload_n 0, 1) := by decide +kernel
theorem dX7_makeTurn_176 : decode cX7_makeTurn 176 = .ok (.getfield 21, 3) := by decide +kernel
theorem dX7_makeTurn_179 : decode cX7_makeTurn 179 = .ok (.getfield 114, 3) := by decide +kernel
theorem dX7_makeTurn_182 : decode cX7_makeTurn 182 = .ok (.iload_n 1, 1) := by decide +kernel
theorem dX7_makeTurn_183 : decode cX7_makeTurn 183 = .ok (.invokevirtual 89, 3) := by decide +kernel
theorem dX7_makeTurn_186 : decode cX7_makeTurn 186 = .ok (.ifCond .ne 14, 3) := by decide +kernel
theorem dX7_makeTurn_189 : decode cX7_makeTurn 189 = .ok (.aload_n 0, 1) := by decide +kernel
theorem dX7_makeTurn_190 : decode cX7_makeTurn 190 = .ok (.getfield 9, 3) := by decide +kernel
theorem dX7_makeTurn_193 : decode cX7_makeTurn 193 = .ok (.getfield 36, 3) := by decide +kernel
theorem dX7_makeTurn_196 : decode cX7_makeTurn 196 = .ok (.iload_n 1, 1) := by decide +kernel
theorem dX7_makeTurn_197 : decode cX7_makeTurn 197 = .ok (.invokevirtual 117, 3) := by decide +kernel
theorem dX7_makeTurn_200 : decode cX7_makeTurn 200 = .ok (.iconst 1, 1) := by decide +kernel
theorem dX7_makeTurn_201 : decode cX7_makeTurn 201 = .ok (.ireturn, 1) := by decide +kernel
set_option maxRecDepth 20000 in
theorem ggX7_continueCleanup_X9_innermost : GoodIn wsX7_continueCleanup wsX9_innermost := goodIn_r _ [9, 10, 11, 12, 13, 14, 15, 16, 17, 18, 19, 8, 20, 21, 159, 160, 161, 162, 163, 164, 165, 166, 167, 168, 169, 170, 171, 172, 173, 174, 175, 187] (by decide +kernel) (by decide +kernel)
set_option maxRecDepth 20000 in
theorem gX7_continueCleanup_X9_innermost : GoodIn wsX7_continueCleanup (wsV RX7 120 RX9 yX9_innermost wsX9_innermost) := goodIn_app (goodIn_of _ (by decide +kernel)) ggX7_continueCleanup_X9_innermost
set_option maxRecDepth 20000 in
theorem ggX7_continueCleanup_X6_at : GoodIn wsX7_continueCleanup wsX6_at := goodIn_r _ [15, 16, 187] (by decide +kernel) (by decide +kernel)
set_option maxRecDepth 20000 in
theorem gX7_continueCleanup_X6_at : GoodIn wsX7_continueCleanup (wsV RX7 89 RX6 yX6_at wsX6_at) := goodIn_app (goodIn_of _ (by decide +kernel)) ggX7_continueCleanup_X6_at
set_option maxRecDepth 20000 in
theorem ggX7_continueCleanup_X0_length : GoodIn wsX7_continueCleanup wsX0_length := goodIn_r _ [27, 28, 29, 12, 13, 14, 15, 16, 188, 189, 187] (by decide +kernel) (by decide +kernel)
set_option maxRecDepth 20000 in
theorem gX7_continueCleanup_X0_length : GoodIn wsX7_continueCleanup (wsV RX7 106 RX0 yX0_length wsX0_length) := goodIn_app (goodIn_of _ (by decide +kernel)) ggX7_continueCleanup_X0_length
set_option maxRecDepth 20000 in
theorem ggX7_continueCleanup_X6_put : GoodIn wsX7_continueCleanup wsX6_put := goodIn_r _ [33, 16, 187] (by decide +kernel) (by decide +kernel)
set_option maxRecDepth 20000 in
theorem gX7_continueCleanup_X6_put : GoodIn wsX7_continueCleanup (wsV RX7 131 RX6 yX6_put wsX6_put) := goodIn_app (goodIn_of _ (by decide +kernel)) ggX7_continueCleanup_X6_put
set_option maxRecDepth 20000 in
theorem ggX7_continueCleanup_X0_at : GoodIn wsX7_continueCleanup wsX0_at := goodIn_r _ [37, 28, 38, 29, 12, 13, 14, 15, 16, 188, 189, 187] (by decide +kernel) (by decide +kernel)
set_option maxRecDepth 20000 in
theorem gX7_continueCleanup_X0_at : GoodIn wsX7_continueCleanup (wsV RX7 134 RX0 yX0_at wsX0_at) := goodIn_app (goodIn_of _ (by decide +kernel)) ggX7_continueCleanup_X0_at
set_option maxRecDepth 20000 in
theorem ggX7_continueCleanup_X0_sign : GoodIn wsX7_continueCleanup wsX0_sign := goodIn_r _ [41] (by decide +kernel) (by decide +kernel)
set_option maxRecDepth 20000 in
theorem gX7_continueCleanup_X0_sign : GoodIn wsX7_continueCleanup (va_wsS RX7 137 yX0_sign wsX0_sign) := goodIn_app (goodIn_of _ (by decide +kernel)) ggX7_continueCleanup_X0_sign
set_option maxRecDepth 20000 in
theorem ggX7_continueCleanup_X7_stepOver : GoodIn wsX7_continueCleanup wsX7_stepOver := goodIn_r _ [46, 1, 47, 22, 12, 13, 14, 15, 16, 155, 156, 157, 158, 159, 160, 161, 162, 163, 164, 165, 166, 167, 168, 169, 170, 171, 172, 173, 174, 175, 187] (by decide +kernel) (by decide +kernel)
set_option maxRecDepth 20000 in
theorem gX7_continueCleanup_X7_stepOver : GoodIn wsX7_continueCleanup (wsV RX7 140 RX7 yX7_stepOver wsX7_stepOver) := goodIn_app (goodIn_of _ (by decide +kernel)) ggX7_continueCleanup_X7_stepOver
set_option maxRecDepth 20000 in
theorem ggX7_continueCleanup_X0_operand : GoodIn wsX7_continueCleanup wsX0_operand := goodIn_r _ [50] (by decide +kernel) (by decide +kernel)
set_option maxRecDepth 20000 in
theorem gX7_continueCleanup_X0_operand : GoodIn wsX7_continueCleanup (va_wsS RX7 143 yX0_operand wsX0_operand) := goodIn_app (goodIn_of _ (by decide +kernel)) ggX7_continueCleanup_X0_operand
set_option maxRecDepth 20000 in
theorem ggX7_continueCleanup_X7_failInCleanup : GoodIn wsX7_continueCleanup wsX7_failInCleanup := goodIn_r _ [54, 1, 2, 55, 56, 57, 58, 59, 30, 31, 32, 14, 33, 16, 22, 12, 13, 15, 60, 61, 62, 8, 63, 10, 11, 64, 65, 66, 67, 68, 69, 70, 71, 72, 73, 74, 75, 76, 77, 78, 79, 80, 81, 82, 83, 84, 85, 86, 87, 88, 89, 90, 91, 92, 93, 94, 95, 96, 18, 19, 20, 21, 97, 98, 99, 100, 101, 102, 103, 104, 105, 106, 107, 108, 109, 110, 111, 112, 113, 114, 115, 116, 117, 118, 119, 120, 121, 122, 123, 124, 125, 126, 127, 128, 129, 130, 131, 132, 133, 134, 135, 136, 137, 138, 139, 140, 141, 142, 143, 144, 145, 155, 156, 157, 158, 159, 160, 161, 162, 163, 164, 165, 166, 167, 168, 169, 170, 171, 172, 173, 174, 175, 190, 191, 192, 193, 194, 195, 196, 197, 187, 198, 199, 200, 201, 202, 176, 177, 178, 179, 180, 181, 182, 183, 184, 185, 186] (by decide +kernel) (by decide +kernel)
set_option maxRecDepth 20000 in
theorem gX7_continueCleanup_X7_failInCleanup : GoodIn wsX7_continueCleanup (wsV RX7 146 RX7 yX7_failInCleanup wsX7_failInCleanup) := goodIn_app (goodIn_of _ (by decide +kernel)) ggX7_continueCleanup_X7_failInCleanup
set_option maxRecDepth 20000 in
theorem ggX7_continueCleanup_X7_executeSimple : GoodIn wsX7_continueCleanup wsX7_executeSimple := goodIn_r _ [149, 1, 47, 56, 59, 145, 128, 129, 14, 130, 16, 22, 12, 13, 15, 150, 151, 152, 8, 153, 109, 154, 121, 31, 32, 33, 155, 156, 157, 158, 159, 160, 161, 162, 163, 164, 165, 166, 167, 168, 169, 170, 171, 172, 173, 174, 175, 190, 191, 192, 193, 194, 195, 196, 197, 187] (by decide +kernel) (by decide +kernel)
set_option maxRecDepth 20000 in
theorem gX7_continueCleanup_X7_executeSimple : GoodIn wsX7_continueCleanup (wsV RX7 149 RX7 yX7_executeSimple wsX7_executeSimple) := goodIn_app (goodIn_of _ (by decide +kernel)) ggX7_continueCleanup_X7_executeSimple
theorem dX7_continueCleanup_0 : decode cX7_continueCleanup 0 = .ok (.aload_n 0, 1) := by decide +kernel
theorem dX7_continueCleanup_1 : decode cX7_continueCleanup 1 = .ok (.getfield 21, 3) := by decide +kernel
theorem dX7_continueCleanup_4 : decode cX7_continueCleanup 4 = .ok (.iload_n 1, 1) := by decide +kernel
theorem dX7_continueCleanup_5 : decode cX7_continueCleanup 5 = .ok (.invokevirtual 120, 3) := by decide +kernel
theorem dX7_continueCleanup_8 : decode cX7_continueCleanup 8 = .ok (.istore_n 2, 1) := by decide +kernel
theorem dX7_continueCleanup_9 : decode cX7_continueCleanup 9 = .ok (.aload_n 0, 1) := by decide +kernel
theorem dX7_continueCleanup_10 : decode cX7_continueCleanup 10 = .ok (.getfield 21, 3) := by decide +kernel
theorem dX7_continueCleanup_13 : decode cX7_continueCleanup 13 = .ok (.getfield 123, 3) := by decide +kernel
theorem dX7_continueCleanup_16 : decode cX7_continueCleanup 16 = .ok (.iload_n 1, 1) := by decide +kernel
theorem dX7_continueCleanup_17 : decode cX7_continueCleanup 17 = .ok (.invokevirtual 89, 3) := by decide +kernel
theorem dX7_continueCleanup_20 : decode cX7_continueCleanup 20 = .ok (.istore_n 3, 1) := by decide +kernel
theorem dX7_continueCleanup_21 : decode cX7_continueCleanup 21 = .ok (.iload_n 3, 1) := by decide +kernel
theorem dX7_continueCleanup_22 : decode cX7_continueCleanup 22 = .ok (.aload_n 0, 1) := by decide +kernel
theorem dX7_continueCleanup_23 : decode cX7_continueCleanup 23 = .ok (.getfield 26, 3) := by decide +kernel
theorem dX7_continueCleanup_26 : decode cX7_continueCleanup 26 = .ok (.getfield 126, 3) := by decide +kernel
theorem dX7_continueCleanup_29 : decode cX7_continueCleanup 29 = .ok (.iload_n 2, 1) := by decide +kernel
theorem dX7_continueCleanup_30 : decode cX7_continueCleanup 30 = .ok (.invokevirtual 106, 3) := by decide +kernel
theorem dX7_continueCleanup_33 : decode cX7_continueCleanup 33 = .ok (.if_icmp .lt 16, 3) := by decide +kernel
theorem dX7_continueCleanup_36 : decode cX7_continueCleanup 36 = .ok (.aload_n 0, 1) := by decide +kernel
theorem dX7_continueCleanup_37 : decode cX7_continueCleanup 37 = .ok (.getfield 21, 3) := by decide +kernel
theorem dX7_continueCleanup_40 : decode cX7_continueCleanup 40 = .ok (.getfield 123, 3) := by decide +kernel
theorem dX7_continueCleanup_43 : decode cX7_continueCleanup 43 = .ok (.iload_n 1, 1) := by decide +kernel
theorem dX7_continueCleanup_44 : decode cX7_continueCleanup 44 = .ok (.iconst (-1), 1) := by decide +kernel
theorem dX7_continueCleanup_45 : decode cX7_continueCleanup 45 = .ok (.invokevirtual 131, 3) := by decide +kernel
theorem dX7_continueCleanup_48 : decode cX7_continueCleanup 48 = .ok (.return_, 1) := by decide +kernel
theorem dX7_continueCleanup_49 : decode cX7_continueCleanup 49 = .ok (.aload_n 0, 1) := by decide +kernel
theorem dX7_continueCleanup_50 : decode cX7_continueCleanup 50 = .ok (.getfield 26, 3) := by decide +kernel
theorem dX7_continueCleanup_53 : decode cX7_continueCleanup 53 = .ok (.getfield 126, 3) := by decide +kernel
theorem dX7_continueCleanup_56 : decode cX7_continueCleanup 56 = .ok (.iload_n 2, 1) := by decide +kernel
theorem dX7_continueCleanup_57 : decode cX7_continueCleanup 57 = .ok (.iload_n 3, 1) := by decide +kernel
theorem dX7_continueCleanup_58 : decode cX7_continueCleanup 58 = .ok (.invokevirtual 134, 3) := by decide +kernel
theorem dX7_continueCleanup_61 : decode cX7_continueCleanup 61 = .ok (.istore 4, 2) := by decide +kernel
theorem dX7_continueCleanup_63 : decode cX7_continueCleanup 63 = .ok (.iload 4, 2) := by decide +kernel
theorem dX7_continueCleanup_65 : decode cX7_continueCleanup 65 = .ok (.invokestatic 137, 3) := by decide +kernel
theorem dX7_continueCleanup_68 : decode cX7_continueCleanup 68 = .ok (.istore 5, 2) := by decide +kernel
theorem dX7_continueCleanup_70 : decode cX7_continueCleanup 70 = .ok (.aload_n 0, 1) := by decide +kernel
theorem dX7_continueCleanup_71 : decode cX7_continueCleanup 71 = .ok (.getfield 21, 3) := by decide +kernel
theorem dX7_continueCleanup_74 : decode cX7_continueCleanup 74 = .ok (.getfield 123, 3) := by decide +kernel
theorem dX7_continueCleanup_77 : decode cX7_continueCleanup 77 = .ok (.iload_n 1, 1) := by decide +kernel
theorem dX7_continueCleanup_78 : decode cX7_continueCleanup 78 = .ok (.iload_n 3, 1) := by decide +kernel
theorem dX7_continueCleanup_79 : decode cX7_continueCleanup 79 = .ok (.aload_n 0, 1) := by decide +kernel
theorem dX7_continueCleanup_80 : decode cX7_continueCleanup 80 = .ok (.iload_n 1, 1) := by decide +kernel
theorem dX7_continueCleanup_81 : decode cX7_continueCleanup 81 = .ok (.iload 5, 2) := by decide +kernel
theorem dX7_continueCleanup_83 : decode cX7_continueCleanup 83 = .ok (.invokevirtual 140, 3) := by decide +kernel
theorem dX7_continueCleanup_86 : decode cX7_continueCleanup 86 = .ok (.iadd, 1) := by decide +kernel
theorem dX7_continueCleanup_87 : decode cX7_continueCleanup 87 = .ok (.invokevirtual 131, 3) := by decide +kernel
theorem dX7_continueCleanup_90 : decode cX7_continueCleanup 90 = .ok (.iload 5, 2) := by decide +kernel
theorem dX7_continueCleanup_92 : decode cX7_continueCleanup 92 = .ok (.bipush 33, 2) := by decide +kernel
theorem dX7_continueCleanup_94 : decode cX7_continueCleanup 94 = .ok (.if_icmp .ne 16, 3) := by decide +kernel
theorem dX7_continueCleanup_97 : decode cX7_continueCleanup 97 = .ok (.aload_n 0, 1) := by decide +kernel
theorem dX7_continueCleanup_98 : decode cX7_continueCleanup 98 = .ok (.iload_n 1, 1) := by decide +kernel
theorem dX7_continueCleanup_99 : decode cX7_continueCleanup 99 = .ok (.iload 4, 2) := by decide +kernel
theorem dX7_continueCleanup_101 : decode cX7_continueCleanup 101 = .ok (.invokestatic 143, 3) := by decide +kernel
theorem dX7_continueCleanup_104 : decode cX7_continueCleanup 104 = .ok (.invokevirtual 146, 3) := by decide +kernel
theorem dX7_continueCleanup_107 : decode cX7_continueCleanup 107 = .ok (.goto 15, 3) := by decide +kernel
theorem dX7_continueCleanup_110 : decode cX7_continueCleanup 110 = .ok (.aload_n 0, 1) := by decide +kernel
theorem dX7_continueCleanup_111 : decode cX7_continueCleanup 111 = .ok (.iload_n 1, 1) := by decide +kernel
theorem dX7_continueCleanup_112 : decode cX7_continueCleanup 112 = .ok (.iload 5, 2) := by decide +kernel
theorem dX7_continueCleanup_114 : decode cX7_continueCleanup 114 = .ok (.iload 4, 2) := by decide +kernel
theorem dX7_continueCleanup_116 : decode cX7_continueCleanup 116 = .ok (.invokestatic 143, 3) := by decide +kernel
theorem dX7_continueCleanup_119 : decode cX7_continueCleanup 119 = .ok (.invokevirtual 149, 3) := by decide +kernel
theorem dX7_continueCleanup_122 : decode cX7_continueCleanup 122 = .ok (.return_, 1) := by decide +kernel
set_option maxRecDepth 20000 in
theorem ggX7_stepOver_X6_at : GoodIn wsX7_stepOver wsX6_at := goodIn_r _ [7, 8, 30] (by decide +kernel) (by decide +kernel)
set_option maxRecDepth 20000 in
theorem gX7_stepOver_X6_at : GoodIn wsX7_stepOver (wsV RX7 89 RX6 yX6_at wsX6_at) := goodIn_app (goodIn_of _ (by decide +kernel)) ggX7_stepOver_X6_at
theorem dX7_stepOver_0 : decode cX7_stepOver 0 = .ok (.iload_n 2, 1) := by decide +kernel
theorem dX7_stepOver_1 : decode cX7_stepOver 1 = .ok (.bipush 122, 2) := by decide +kernel
theorem dX7_stepOver_3 : decode cX7_stepOver 3 = .ok (.if_icmp .ne 21, 3) := by decide +kernel
theorem dX7_stepOver_6 : decode cX7_stepOver 6 = .ok (.aload_n 0, 1) := by decide +kernel
theorem dX7_stepOver_7 : decode cX7_stepOver 7 = .ok (.getfield 21, 3) := by decide +kernel
theorem dX7_stepOver_10 : decode cX7_stepOver 10 = .ok (.getfield 153, 3) := by decide +kernel
theorem dX7_stepOver_13 : decode cX7_stepOver 13 = .ok (.iload_n 1, 1) := by decide +kernel
theorem dX7_stepOver_14 : decode cX7_stepOver 14 = .ok (.invokevirtual 89, 3) := by decide +kernel
theorem dX7_stepOver_17 : decode cX7_stepOver 17 = .ok (.ifCond .ne 7, 3) := by decide +kernel
theorem dX7_stepOver_20 : decode cX7_stepOver 20 = .ok (.iconst 2, 1) := by decide +kernel
theorem dX7_stepOver_21 : decode cX7_stepOver 21 = .ok (.goto 4, 3) := by decide +kernel
theorem dX7_stepOver_24 : decode cX7_stepOver 24 = .ok (.iconst 1, 1) := by decide +kernel
theorem dX7_stepOver_25 : decode cX7_stepOver 25 = .ok (.ireturn, 1) := by decide +kernel
set_option maxRecDepth 20000 in
theorem ggX7_failInCleanup_X6_put : GoodIn wsX7_failInCleanup wsX6_put := goodIn_r _ [12, 13, 140] (by decide +kernel) (by decide +kernel)
set_option maxRecDepth 20000 in
theorem gX7_failInCleanup_X6_put : GoodIn wsX7_failInCleanup (wsV RX7 131 RX6 yX6_put wsX6_put) := goodIn_app (goodIn_of _ (by decide +kernel)) ggX7_failInCleanup_X6_put
set_option maxRecDepth 20000 in
theorem ggX7_failInCleanup_X6_at : GoodIn wsX7_failInCleanup wsX6_at := goodIn_r _ [17, 13, 140] (by decide +kernel) (by decide +kernel)
set_option maxRecDepth 20000 in
theorem gX7_failInCleanup_X6_at : GoodIn wsX7_failInCleanup (wsV RX7 89 RX6 yX6_at wsX6_at) := goodIn_app (goodIn_of _ (by decide +kernel)) ggX7_failInCleanup_X6_at
set_option maxRecDepth 20000 in
theorem ggX7_failInCleanup_X9_innermostLevel : GoodIn wsX7_failInCleanup wsX9_innermostLevel := goodIn_r _ [22, 23, 24, 15, 16, 11, 17, 13, 115, 116, 117, 118, 119, 120, 121, 122, 123, 124, 125, 126, 127, 128, 129, 130, 131, 140] (by decide +kernel) (by decide +kernel)
set_option maxRecDepth 20000 in
theorem gX7_failInCleanup_X9_innermostLevel : GoodIn wsX7_failInCleanup (wsV RX7 156 RX9 yX9_innermostLevel wsX9_innermostLevel) := goodIn_app (goodIn_of _ (by decide +kernel)) ggX7_failInCleanup_X9_innermostLevel
set_option maxRecDepth 20000 in
theorem ggX7_failInCleanup_X10_fail : GoodIn wsX7_failInCleanup wsX10_fail := goodIn_r _ [29, 30, 31, 32, 33, 34, 35, 36, 37, 38, 39, 40, 41, 42, 43, 44, 45, 46, 47, 48, 49, 50, 51, 52, 28, 53, 54, 55, 56, 57, 58, 59, 21, 60, 23, 61, 24, 15, 16, 11, 17, 13, 62, 63, 64, 65, 66, 67, 68, 69, 70, 71, 72, 73, 74, 75, 76, 77, 78, 79, 80, 81, 82, 83, 84, 85, 86, 9, 10, 12, 87, 88, 89, 90, 91, 92, 93, 94, 95, 96, 97, 98, 99, 100, 101, 102, 103, 104, 105, 106, 107, 108, 132, 133, 134, 135, 136, 137, 138, 139, 141, 142, 143, 144, 145, 146, 147, 148, 149, 150, 151, 152, 153, 154, 155, 156, 115, 116, 117, 118, 119, 120, 121, 122, 123, 124, 125, 126, 127, 128, 129, 130, 131, 140] (by decide +kernel) (by decide +kernel)
set_option maxRecDepth 20000 in
theorem gX7_failInCleanup_X10_fail : GoodIn wsX7_failInCleanup (wsV RX7 159 RX10 yX10_fail wsX10_fail) := goodIn_app (goodIn_of _ (by decide +kernel)) ggX7_failInCleanup_X10_fail
set_option maxRecDepth 20000 in
theorem ggX7_failInCleanup_X3_add : GoodIn wsX7_failInCleanup wsX3_add := goodIn_r _ [35, 36, 37, 38, 39, 40, 41, 42, 43, 44, 45, 46, 47, 48, 49, 141, 142, 143, 144, 145] (by decide +kernel) (by decide +kernel)
set_option maxRecDepth 20000 in
theorem gX7_failInCleanup_X3_add : GoodIn wsX7_failInCleanup (wsV RX7 170 RX3 yX3_add wsX3_add) := goodIn_app (goodIn_of _ (by decide +kernel)) ggX7_failInCleanup_X3_add
set_option maxRecDepth 20000 in
theorem ggX7_failInCleanup_X6_change : GoodIn wsX7_failInCleanup wsX6_change := goodIn_r _ [95, 13, 140] (by decide +kernel) (by decide +kernel)
set_option maxRecDepth 20000 in
theorem gX7_failInCleanup_X6_change : GoodIn wsX7_failInCleanup (wsV RX7 64 RX6 yX6_change wsX6_change) := goodIn_app (goodIn_of _ (by decide +kernel)) ggX7_failInCleanup_X6_change
theorem dX7_failInCleanup_0 : decode cX7_failInCleanup 0 = .ok (.aload_n 0, 1) := by decide +kernel
theorem dX7_failInCleanup_1 : decode cX7_failInCleanup 1 = .ok (.getfield 21, 3) := by decide +kernel
theorem dX7_failInCleanup_4 : decode cX7_failInCleanup 4 = .ok (.getfield 123, 3) := by decide +kernel
theorem dX7_failInCleanup_7 : decode cX7_failInCleanup 7 = .ok (.iload_n 1, 1) := by decide +kernel
theorem dX7_failInCleanup_8 : decode cX7_failInCleanup 8 = .ok (.iconst (-1), 1) := by decide +kernel
theorem dX7_failInCleanup_9 : decode cX7_failInCleanup 9 = .ok (.invokevirtual 131, 3) := by decide +kernel
theorem dX7_failInCleanup_12 : decode cX7_failInCleanup 12 = .ok (.aload_n 0, 1) := by decide +kernel
theorem dX7_failInCleanup_13 : decode cX7_failInCleanup 13 = .ok (.getfield 21, 3) := by decide +kernel
theorem dX7_failInCleanup_16 : decode cX7_failInCleanup 16 = .ok (.getfield 93, 3) := by decide +kernel
theorem dX7_failInCleanup_19 : decode cX7_failInCleanup 19 = .ok (.iload_n 1, 1) := by decide +kernel
theorem dX7_failInCleanup_20 : decode cX7_failInCleanup 20 = .ok (.invokevirtual 89, 3) := by decide +kernel
theorem dX7_failInCleanup_23 : decode cX7_failInCleanup 23 = .ok (.istore_n 3, 1) := by decide +kernel
theorem dX7_failInCleanup_24 : decode cX7_failInCleanup 24 = .ok (.iload_n 3, 1) := by decide +kernel
theorem dX7_failInCleanup_25 : decode cX7_failInCleanup 25 = .ok (.ifCond .ne 26, 3) := by decide +kernel
theorem dX7_failInCleanup_28 : decode cX7_failInCleanup 28 = .ok (.aload_n 0, 1) := by decide +kernel
theorem dX7_failInCleanup_29 : decode cX7_failInCleanup 29 = .ok (.getfield 9, 3) := by decide +kernel
theorem dX7_failInCleanup_32 : decode cX7_failInCleanup 32 = .ok (.iload_n 1, 1) := by decide +kernel
theorem dX7_failInCleanup_33 : decode cX7_failInCleanup 33 = .ok (.iload_n 2, 1) := by decide +kernel
theorem dX7_failInCleanup_34 : decode cX7_failInCleanup 34 = .ok (.iconst (-1), 1) := by decide +kernel
theorem dX7_failInCleanup_35 : decode cX7_failInCleanup 35 = .ok (.aload_n 0, 1) := by decide +kernel
theorem dX7_failInCleanup_36 : decode cX7_failInCleanup 36 = .ok (.getfield 21, 3) := by decide +kernel
theorem dX7_failInCleanup_39 : decode cX7_failInCleanup 39 = .ok (.iload_n 1, 1) := by decide +kernel
theorem dX7_failInCleanup_40 : decode cX7_failInCleanup 40 = .ok (.invokevirtual 156, 3) := by decide +kernel
theorem dX7_failInCleanup_43 : decode cX7_failInCleanup 43 = .ok (.iconst 1, 1) := by decide +kernel
theorem dX7_failInCleanup_44 : decode cX7_failInCleanup 44 = .ok (.isub, 1) := by decide +kernel
theorem dX7_failInCleanup_45 : decode cX7_failInCleanup 45 = .ok (.invokevirtual 159, 3) := by decide +kernel
theorem dX7_failInCleanup_48 : decode cX7_failInCleanup 48 = .ok (.goto 62, 3) := by decide +kernel
theorem dX7_failInCleanup_51 : decode cX7_failInCleanup 51 = .ok (.iload_n 3, 1) := by decide +kernel
theorem dX7_failInCleanup_52 : decode cX7_failInCleanup 52 = .ok (.iconst 3, 1) := by decide +kernel
theorem dX7_failInCleanup_53 : decode cX7_failInCleanup 53 = .ok (.if_icmp .ne 44, 3) := by decide +kernel
theorem dX7_failInCleanup_56 : decode cX7_failInCleanup 56 = .ok (.aload_n 0, 1) := by decide +kernel
theorem dX7_failInCleanup_57 : decode cX7_failInCleanup 57 = .ok (.getfield 9, 3) := by decide +kernel
theorem dX7_failInCleanup_60 : decode cX7_failInCleanup 60 = .ok (.getfield 163, 3) := by decide +kernel
theorem dX7_failInCleanup_63 : decode cX7_failInCleanup 63 = .ok (.iload_n 2, 1) := by decide +kernel
theorem dX7_failInCleanup_64 : decode cX7_failInCleanup 64 = .ok (.iload_n 1, 1) := by decide +kernel
theorem dX7_failInCleanup_65 : decode cX7_failInCleanup 65 = .ok (.aload_n 0, 1) := by decide +kernel
theorem dX7_failInCleanup_66 : decode cX7_failInCleanup 66 = .ok (.getfield 21, 3) := by decide +kernel
theorem dX7_failInCleanup_69 : decode cX7_failInCleanup 69 = .ok (.getfield 167, 3) := by decide +kernel
theorem dX7_failInCleanup_72 : decode cX7_failInCleanup 72 = .ok (.iload_n 1, 1) := by decide +kernel
theorem dX7_failInCleanup_73 : decode cX7_failInCleanup 73 = .ok (.invokevirtual 89, 3) := by decide +kernel
theorem dX7_failInCleanup_76 : decode cX7_failInCleanup 76 = .ok (.invokevirtual 170, 3) := by decide +kernel
theorem dX7_failInCleanup_79 : decode cX7_failInCleanup 79 = .ok (.istore 4, 2) := by decide +kernel
theorem dX7_failInCleanup_81 : decode cX7_failInCleanup 81 = .ok (.aload_n 0, 1) := by decide +kernel
theorem dX7_failInCleanup_82 : decode cX7_failInCleanup 82 = .ok (.getfield 21, 3) := by decide +kernel
theorem dX7_failInCleanup_85 : decode cX7_failInCleanup 85 = .ok (.getfield 167, 3) := by decide +kernel
theorem dX7_failInCleanup_88 : decode cX7_failInCleanup 88 = .ok (.iload_n 1, 1) := by decide +kernel
theorem dX7_failInCleanup_89 : decode cX7_failInCleanup 89 = .ok (.iload 4, 2) := by decide +kernel
theorem dX7_failInCleanup_91 : decode cX7_failInCleanup 91 = .ok (.invokevirtual 131, 3) := by decide +kernel
theorem dX7_failInCleanup_94 : decode cX7_failInCleanup 94 = .ok (.goto 16, 3) := by decide +kernel
theorem dX7_failInCleanup_97 : decode cX7_failInCleanup 97 = .ok (.aload_n 0, 1) := by decide +kernel
theorem dX7_failInCleanup_98 : decode cX7_failInCleanup 98 = .ok (.getfield 9, 3) := by decide +kernel
theorem dX7_failInCleanup_101 : decode cX7_failInCleanup 101 = .ok (.getfield 60, 3) := by decide +kernel
theorem dX7_failInCleanup_104 : decode cX7_failInCleanup 104 = .ok (.bipush 9, 2) := by decide +kernel
theorem dX7_failInCleanup_106 : decode cX7_failInCleanup 106 = .ok (.iconst 1, 1) := by decide +kernel
theorem dX7_failInCleanup_107 : decode cX7_failInCleanup 107 = .ok (.invokevirtual 64, 3) := by decide +kernel
theorem dX7_failInCleanup_110 : decode cX7_failInCleanup 110 = .ok (.return_, 1) := by decide +kernel
set_option maxRecDepth 20000 in
theorem ggX7_leaveInnermost_X9_innermost : GoodIn wsX7_leaveInnermost wsX9_innermost := goodIn_r _ [11, 12, 13, 14, 15, 16, 17, 18, 19, 20, 21, 10, 22, 23, 139, 140, 141, 142, 143, 144, 145, 146, 147, 148, 149, 150, 151, 152, 153, 154, 155, 156] (by decide +kernel) (by decide +kernel)
set_option maxRecDepth 20000 in
theorem gX7_leaveInnermost_X9_innermost : GoodIn wsX7_leaveInnermost (wsV RX7 120 RX9 yX9_innermost wsX9_innermost) := goodIn_app (goodIn_of _ (by decide +kernel)) ggX7_leaveInnermost_X9_innermost
set_option maxRecDepth 20000 in
theorem ggX7_leaveInnermost_X6_at : GoodIn wsX7_leaveInnermost wsX6_at := goodIn_r _ [17, 18, 156] (by decide +kernel) (by decide +kernel)
set_option maxRecDepth 20000 in
theorem gX7_leaveInnermost_X6_at : GoodIn wsX7_leaveInnermost (wsV RX7 89 RX6 yX6_at wsX6_at) := goodIn_app (goodIn_of _ (by decide +kernel)) ggX7_leaveInnermost_X6_at
set_option maxRecDepth 20000 in
theorem ggX7_leaveInnermost_X6_put : GoodIn wsX7_leaveInnermost wsX6_put := goodIn_r _ [28, 18, 156] (by decide +kernel) (by decide +kernel)
set_option maxRecDepth 20000 in
theorem gX7_leaveInnermost_X6_put : GoodIn wsX7_leaveInnermost (wsV RX7 131 RX6 yX6_put wsX6_put) := goodIn_app (goodIn_of _ (by decide +kernel)) ggX7_leaveInnermost_X6_put
set_option maxRecDepth 20000 in
theorem ggX7_leaveInnermost_X10_cancelChildren : GoodIn wsX7_leaveInnermost wsX10_cancelChildren := goodIn_r _ [33, 34, 35, 36, 37, 14, 15, 16, 17, 18, 38, 39, 40, 32, 41, 42, 43, 44, 45, 46, 47, 10, 48, 49, 13, 50, 51, 52, 53, 54, 55, 56, 57, 58, 59, 60, 61, 26, 27, 28, 62, 63, 64, 65, 66, 67, 68, 69, 70, 71, 72, 73, 74, 75, 76, 77, 78, 79, 80, 81, 82, 83, 84, 85, 86, 87, 88, 89, 157, 158, 159, 160, 161, 162, 163, 164, 139, 140, 141, 142, 143, 144, 145, 146, 147, 148, 149, 150, 151, 152, 153, 154, 155, 156, 165, 166] (by decide +kernel) (by decide +kernel)
set_option maxRecDepth 20000 in
theorem gX7_leaveInnermost_X10_cancelChildren : GoodIn wsX7_leaveInnermost (wsV RX7 178 RX10 yX10_cancelChildren wsX10_cancelChildren) := goodIn_app (goodIn_of _ (by decide +kernel)) ggX7_leaveInnermost_X10_cancelChildren
set_option maxRecDepth 20000 in
theorem ggX7_leaveInnermost_X7_endScope : GoodIn wsX7_leaveInnermost wsX7_endScope := goodIn_r _ [94, 2, 95, 1, 96, 97, 98, 4, 99, 3, 100, 24, 14, 15, 16, 17, 18, 25, 26, 27, 28, 101, 68, 69, 70, 124, 125, 126, 127, 128, 129, 130, 131, 132, 133, 134, 135, 136, 137, 138, 139, 140, 141, 142, 143, 144, 145, 146, 147, 148, 149, 150, 151, 152, 153, 154, 155, 157, 158, 159, 160, 161, 162, 163, 164, 156] (by decide +kernel) (by decide +kernel)
set_option maxRecDepth 20000 in
theorem gX7_leaveInnermost_X7_endScope : GoodIn wsX7_leaveInnermost (wsV RX7 181 RX7 yX7_endScope wsX7_endScope) := goodIn_app (goodIn_of _ (by decide +kernel)) ggX7_leaveInnermost_X7_endScope
set_option maxRecDepth 20000 in
theorem ggX7_leaveInnermost_X7_goOnBehind : GoodIn wsX7_leaveInnermost wsX7_goOnBehind := goodIn_r _ [105, 1, 106, 107, 108, 4, 109, 110, 2, 111, 24, 14, 15, 16, 17, 18, 112, 113, 114, 115, 116, 117, 118, 119, 120, 121, 86, 122, 88, 89, 25, 26, 27, 28, 123, 56, 57, 10, 58, 54, 59, 60, 61, 124, 125, 126, 127, 139, 140, 141, 142, 143, 144, 145, 146, 147, 148, 149, 150, 151, 152, 153, 154, 155, 157, 158, 159, 160, 161, 162, 163, 164, 128, 129, 130, 131, 132, 133, 134, 135, 136, 137, 138, 156, 167, 168, 169, 165, 166] (by decide +kernel) (by decide +kernel)
set_option maxRecDepth 20000 in
theorem gX7_leaveInnermost_X7_goOnBehind : GoodIn wsX7_leaveInnermost (wsV RX7 191 RX7 yX7_goOnBehind wsX7_goOnBehind) := goodIn_app (goodIn_of _ (by decide +kernel)) ggX7_leaveInnermost_X7_goOnBehind
theorem dX7_leaveInnermost_0 : decode cX7_leaveInnermost 0 = .ok (.aload_n 0, 1) := by decide +kernel
theorem dX7_leaveInnermost_1 : decode cX7_leaveInnermost 1 = .ok (.getfield 21, 3) := by decide +kernel
theorem dX7_leaveInnermost_4 : decode cX7_leaveInnermost 4 = .ok (.iload_n 1, 1) := by decide +kernel
theorem dX7_leaveInnermost_5 : decode cX7_leaveInnermost 5 = .ok (.invokevirtual 120, 3) := by decide +kernel
theorem dX7_leaveInnermost_8 : decode cX7_leaveInnermost 8 = .ok (.istore_n 2, 1) := by decide +kernel
theorem dX7_leaveInnermost_9 : decode cX7_leaveInnermost 9 = .ok (.aload_n 0, 1) := by decide +kernel
theorem dX7_leaveInnermost_10 : decode cX7_leaveInnermost 10 = .ok (.getfield 26, 3) := by decide +kernel
theorem dX7_leaveInnermost_13 : decode cX7_leaveInnermost 13 = .ok (.getfield 175, 3) := by decide +kernel
theorem dX7_leaveInnermost_16 : decode cX7_leaveInnermost 16 = .ok (.iload_n 2, 1) := by decide +kernel
theorem dX7_leaveInnermost_17 : decode cX7_leaveInnermost 17 = .ok (.invokevirtual 89, 3) := by decide +kernel
theorem dX7_leaveInnermost_20 : decode cX7_leaveInnermost 20 = .ok (.ifCond .ne 23, 3) := by decide +kernel
theorem dX7_leaveInnermost_23 : decode cX7_leaveInnermost 23 = .ok (.aload_n 0, 1) := by decide +kernel
theorem dX7_leaveInnermost_24 : decode cX7_leaveInnermost 24 = .ok (.getfield 26, 3) := by decide +kernel
theorem dX7_leaveInnermost_27 : decode cX7_leaveInnermost 27 = .ok (.getfield 175, 3) := by decide +kernel
theorem dX7_leaveInnermost_30 : decode cX7_leaveInnermost 30 = .ok (.iload_n 2, 1) := by decide +kernel
theorem dX7_leaveInnermost_31 : decode cX7_leaveInnermost 31 = .ok (.iconst 1, 1) := by decide +kernel
theorem dX7_leaveInnermost_32 : decode cX7_leaveInnermost 32 = .ok (.invokevirtual 131, 3) := by decide +kernel
theorem dX7_leaveInnermost_35 : decode cX7_leaveInnermost 35 = .ok (.aload_n 0, 1) := by decide +kernel
theorem dX7_leaveInnermost_36 : decode cX7_leaveInnermost 36 = .ok (.getfield 9, 3) := by decide +kernel
theorem dX7_leaveInnermost_39 : decode cX7_leaveInnermost 39 = .ok (.iload_n 2, 1) := by decide +kernel
theorem dX7_leaveInnermost_40 : decode cX7_leaveInnermost 40 = .ok (.invokevirtual 178, 3) := by decide +kernel
theorem dX7_leaveInnermost_43 : decode cX7_leaveInnermost 43 = .ok (.aload_n 0, 1) := by decide +kernel
theorem dX7_leaveInnermost_44 : decode cX7_leaveInnermost 44 = .ok (.iload_n 1, 1) := by decide +kernel
theorem dX7_leaveInnermost_45 : decode cX7_leaveInnermost 45 = .ok (.iload_n 2, 1) := by decide +kernel
theorem dX7_leaveInnermost_46 : decode cX7_leaveInnermost 46 = .ok (.invokevirtual 181, 3) := by decide +kernel
theorem dX7_leaveInnermost_49 : decode cX7_leaveInnermost 49 = .ok (.ifCond .eq 34, 3) := by decide +kernel
theorem dX7_leaveInnermost_52 : decode cX7_leaveInnermost 52 = .ok (.aload_n 0, 1) := by decide +kernel
theorem dX7_leaveInnermost_53 : decode cX7_leaveInnermost 53 = .ok (.getfield 26, 3) := by decide +kernel
theorem dX7_leaveInnermost_56 : decode cX7_leaveInnermost 56 = .ok (.getfield 185, 3) := by decide +kernel
theorem dX7_leaveInnermost_59 : decode cX7_leaveInnermost 59 = .ok (.iload_n 2, 1) := by decide +kernel
theorem dX7_leaveInnermost_60 : decode cX7_leaveInnermost 60 = .ok (.invokevirtual 89, 3) := by decide +kernel
theorem dX7_leaveInnermost_63 : decode cX7_leaveInnermost 63 = .ok (.aload_n 0, 1) := by decide +kernel
theorem dX7_leaveInnermost_64 : decode cX7_leaveInnermost 64 = .ok (.getfield 21, 3) := by decide +kernel
theorem dX7_leaveInnermost_67 : decode cX7_leaveInnermost 67 = .ok (.getfield 188, 3) := by decide +kernel
theorem dX7_leaveInnermost_70 : decode cX7_leaveInnermost 70 = .ok (.iload_n 1, 1) := by decide +kernel
theorem dX7_leaveInnermost_71 : decode cX7_leaveInnermost 71 = .ok (.invokevirtual 89, 3) := by decide +kernel
theorem dX7_leaveInnermost_74 : decode cX7_leaveInnermost 74 = .ok (.if_icmp .ne 9, 3) := by decide +kernel
theorem dX7_leaveInnermost_77 : decode cX7_leaveInnermost 77 = .ok (.aload_n 0, 1) := by decide +kernel
theorem dX7_leaveInnermost_78 : decode cX7_leaveInnermost 78 = .ok (.iload_n 1, 1) := by decide +kernel
theorem dX7_leaveInnermost_79 : decode cX7_leaveInnermost 79 = .ok (.iload_n 2, 1) := by decide +kernel
theorem dX7_leaveInnermost_80 : decode cX7_leaveInnermost 80 = .ok (.invokevirtual 191, 3) := by decide +kernel
theorem dX7_leaveInnermost_83 : decode cX7_leaveInnermost 83 = .ok (.return_, 1) := by decide +kernel
set_option maxRecDepth 20000 in
theorem ggX7_goOnBehind_X6_at : GoodIn wsX7_goOnBehind wsX6_at := goodIn_r _ [14, 15, 83] (by decide +kernel) (by decide +kernel)
set_option maxRecDepth 20000 in
theorem gX7_goOnBehind_X6_at : GoodIn wsX7_goOnBehind (wsV RX7 89 RX6 yX6_at wsX6_at) := goodIn_app (goodIn_of _ (by decide +kernel)) ggX7_goOnBehind_X6_at
set_option maxRecDepth 20000 in
theorem ggX7_goOnBehind_X3_codeOfFirstCause : GoodIn wsX7_goOnBehind wsX3_codeOfFirstCause := goodIn_r _ [20, 21, 22, 23, 24, 25, 26, 27, 28, 29, 84, 85, 86, 87, 88] (by decide +kernel) (by decide +kernel)
set_option maxRecDepth 20000 in
theorem gX7_goOnBehind_X3_codeOfFirstCause : GoodIn wsX7_goOnBehind (wsV RX7 194 RX3 yX3_codeOfFirstCause wsX3_codeOfFirstCause) := goodIn_app (goodIn_of _ (by decide +kernel)) ggX7_goOnBehind_X3_codeOfFirstCause
set_option maxRecDepth 20000 in
theorem ggX7_goOnBehind_X6_put : GoodIn wsX7_goOnBehind wsX6_put := goodIn_r _ [33, 15, 83] (by decide +kernel) (by decide +kernel)
set_option maxRecDepth 20000 in
theorem gX7_goOnBehind_X6_put : GoodIn wsX7_goOnBehind (wsV RX7 131 RX6 yX6_put wsX6_put) := goodIn_app (goodIn_of _ (by decide +kernel)) ggX7_goOnBehind_X6_put
set_option maxRecDepth 20000 in
theorem ggX7_goOnBehind_X9_giveReason : GoodIn wsX7_goOnBehind wsX9_giveReason := goodIn_r _ [38, 39, 40, 41, 42, 31, 32, 13, 33, 15, 47, 48, 49, 50, 51, 52, 53, 54, 55, 56, 57, 58, 59, 60, 61, 62, 63, 83] (by decide +kernel) (by decide +kernel)
set_option maxRecDepth 20000 in
theorem gX7_goOnBehind_X9_giveReason : GoodIn wsX7_goOnBehind (wsV RX7 200 RX9 yX9_giveReason wsX9_giveReason) := goodIn_app (goodIn_of _ (by decide +kernel)) ggX7_goOnBehind_X9_giveReason
theorem dX7_goOnBehind_0 : decode cX7_goOnBehind 0 = .ok (.aload_n 0, 1) := by decide +kernel
theorem dX7_goOnBehind_1 : decode cX7_goOnBehind 1 = .ok (.getfield 21, 3) := by decide +kernel
theorem dX7_goOnBehind_4 : decode cX7_goOnBehind 4 = .ok (.getfield 93, 3) := by decide +kernel
theorem dX7_goOnBehind_7 : decode cX7_goOnBehind 7 = .ok (.iload_n 1, 1) := by decide +kernel
theorem dX7_goOnBehind_8 : decode cX7_goOnBehind 8 = .ok (.invokevirtual 89, 3) := by decide +kernel
theorem dX7_goOnBehind_11 : decode cX7_goOnBehind 11 = .ok (.iconst 3, 1) := by decide +kernel
theorem dX7_goOnBehind_12 : decode cX7_goOnBehind 12 = .ok (.if_icmp .ne 7, 3) := by decide +kernel
theorem dX7_goOnBehind_15 : decode cX7_goOnBehind 15 = .ok (.iconst 1, 1) := by decide +kernel
theorem dX7_goOnBehind_16 : decode cX7_goOnBehind 16 = .ok (.goto 4, 3) := by decide +kernel
theorem dX7_goOnBehind_19 : decode cX7_goOnBehind 19 = .ok (.iconst 0, 1) := by decide +kernel
theorem dX7_goOnBehind_20 : decode cX7_goOnBehind 20 = .ok (.istore_n 3, 1) := by decide +kernel
theorem dX7_goOnBehind_21 : decode cX7_goOnBehind 21 = .ok (.aload_n 0, 1) := by decide +kernel
theorem dX7_goOnBehind_22 : decode cX7_goOnBehind 22 = .ok (.getfield 21, 3) := by decide +kernel
theorem dX7_goOnBehind_25 : decode cX7_goOnBehind 25 = .ok (.getfield 167, 3) := by decide +kernel
theorem dX7_goOnBehind_28 : decode cX7_goOnBehind 28 = .ok (.iload_n 1, 1) := by decide +kernel
theorem dX7_goOnBehind_29 : decode cX7_goOnBehind 29 = .ok (.invokevirtual 89, 3) := by decide +kernel
theorem dX7_goOnBehind_32 : decode cX7_goOnBehind 32 = .ok (.istore 4, 2) := by decide +kernel
theorem dX7_goOnBehind_34 : decode cX7_goOnBehind 34 = .ok (.aload_n 0, 1) := by decide +kernel
theorem dX7_goOnBehind_35 : decode cX7_goOnBehind 35 = .ok (.getfield 21, 3) := by decide +kernel
theorem dX7_goOnBehind_38 : decode cX7_goOnBehind 38 = .ok (.getfield 153, 3) := by decide +kernel
theorem dX7_goOnBehind_41 : decode cX7_goOnBehind 41 = .ok (.iload_n 1, 1) := by decide +kernel
theorem dX7_goOnBehind_42 : decode cX7_goOnBehind 42 = .ok (.iload_n 3, 1) := by decide +kernel
theorem dX7_goOnBehind_43 : decode cX7_goOnBehind 43 = .ok (.ifCond .eq 18, 3) := by decide +kernel
theorem dX7_goOnBehind_46 : decode cX7_goOnBehind 46 = .ok (.aload_n 0, 1) := by decide +kernel
theorem dX7_goOnBehind_47 : decode cX7_goOnBehind 47 = .ok (.getfield 9, 3) := by decide +kernel
theorem dX7_goOnBehind_50 : decode cX7_goOnBehind 50 = .ok (.getfield 163, 3) := by decide +kernel
theorem dX7_goOnBehind_53 : decode cX7_goOnBehind 53 = .ok (.iload 4, 2) := by decide +kernel
theorem dX7_goOnBehind_55 : decode cX7_goOnBehind 55 = .ok (.invokevirtual 194, 3) := by decide +kernel
theorem dX7_goOnBehind_58 : decode cX7_goOnBehind 58 = .ok (.goto 4, 3) := by decide +kernel
theorem dX7_goOnBehind_61 : decode cX7_goOnBehind 61 = .ok (.iconst (-1), 1) := by decide +kernel
theorem dX7_goOnBehind_62 : decode cX7_goOnBehind 62 = .ok (.invokevirtual 131, 3) := by decide +kernel
theorem dX7_goOnBehind_65 : decode cX7_goOnBehind 65 = .ok (.aload_n 0, 1) := by decide +kernel
theorem dX7_goOnBehind_66 : decode cX7_goOnBehind 66 = .ok (.getfield 21, 3) := by decide +kernel
theorem dX7_goOnBehind_69 : decode cX7_goOnBehind 69 = .ok (.getfield 99, 3) := by decide +kernel
theorem dX7_goOnBehind_72 : decode cX7_goOnBehind 72 = .ok (.iload_n 1, 1) := by decide +kernel
theorem dX7_goOnBehind_73 : decode cX7_goOnBehind 73 = .ok (.aload_n 0, 1) := by decide +kernel
theorem dX7_goOnBehind_74 : decode cX7_goOnBehind 74 = .ok (.getfield 26, 3) := by decide +kernel
theorem dX7_goOnBehind_77 : decode cX7_goOnBehind 77 = .ok (.getfield 197, 3) := by decide +kernel
theorem dX7_goOnBehind_80 : decode cX7_goOnBehind 80 = .ok (.iload_n 2, 1) := by decide +kernel
theorem dX7_goOnBehind_81 : decode cX7_goOnBehind 81 = .ok (.invokevirtual 89, 3) := by decide +kernel
theorem dX7_goOnBehind_84 : decode cX7_goOnBehind 84 = .ok (.invokevirtual 131, 3) := by decide +kernel
theorem dX7_goOnBehind_87 : decode cX7_goOnBehind 87 = .ok (.aload_n 0, 1) := by decide +kernel
theorem dX7_goOnBehind_88 : decode cX7_goOnBehind 88 = .ok (.getfield 21, 3) := by decide +kernel
theorem dX7_goOnBehind_91 : decode cX7_goOnBehind 91 = .ok (.iload_n 1, 1) := by decide +kernel
theorem dX7_goOnBehind_92 : decode cX7_goOnBehind 92 = .ok (.iconst 0, 1) := by decide +kernel
theorem dX7_goOnBehind_93 : decode cX7_goOnBehind 93 = .ok (.bipush (-2), 2) := by decide +kernel
theorem dX7_goOnBehind_95 : decode cX7_goOnBehind 95 = .ok (.iconst (-1), 1) := by decide +kernel
theorem dX7_goOnBehind_96 : decode cX7_goOnBehind 96 = .ok (.invokevirtual 200, 3) := by decide +kernel
theorem dX7_goOnBehind_99 : decode cX7_goOnBehind 99 = .ok (.return_, 1) := by decide +kernel
set_option maxRecDepth 20000 in
theorem ggX7_endScope_X6_at : GoodIn wsX7_endScope wsX6_at := goodIn_r _ [15, 16, 65] (by decide +kernel) (by decide +kernel)
set_option maxRecDepth 20000 in
theorem gX7_endScope_X6_at : GoodIn wsX7_endScope (wsV RX7 89 RX6 yX6_at wsX6_at) := goodIn_app (goodIn_of _ (by decide +kernel)) ggX7_endScope_X6_at
set_option maxRecDepth 20000 in
theorem ggX7_endScope_X6_put : GoodIn wsX7_endScope wsX6_put := goodIn_r _ [20, 16, 65] (by decide +kernel) (by decide +kernel)
set_option maxRecDepth 20000 in
theorem gX7_endScope_X6_put : GoodIn wsX7_endScope (wsV RX7 131 RX6 yX6_put wsX6_put) := goodIn_app (goodIn_of _ (by decide +kernel)) ggX7_endScope_X6_put
set_option maxRecDepth 20000 in
theorem ggX7_endScope_X6_change : GoodIn wsX7_endScope wsX6_change := goodIn_r _ [24, 16, 65] (by decide +kernel) (by decide +kernel)
set_option maxRecDepth 20000 in
theorem gX7_endScope_X6_change : GoodIn wsX7_endScope (wsV RX7 64 RX6 yX6_change wsX6_change) := goodIn_app (goodIn_of _ (by decide +kernel)) ggX7_endScope_X6_change
theorem dX7_endScope_0 : decode cX7_endScope 0 = .ok (.aload_n 0, 1) := by decide +kernel
theorem dX7_endScope_1 : decode cX7_endScope 1 = .ok (.getfield 26, 3) := by decide +kernel
theorem dX7_endScope_4 : decode cX7_endScope 4 = .ok (.getfield 203, 3) := by decide +kernel
theorem dX7_endScope_7 : decode cX7_endScope 7 = .ok (.iload_n 2, 1) := by decide +kernel
theorem dX7_endScope_8 : decode cX7_endScope 8 = .ok (.invokevirtual 89, 3) := by decide +kernel
theorem dX7_endScope_11 : decode cX7_endScope 11 = .ok (.ifCond .le 17, 3) := by decide +kernel
theorem dX7_endScope_14 : decode cX7_endScope 14 = .ok (.aload_n 0, 1) := by decide +kernel
theorem dX7_endScope_15 : decode cX7_endScope 15 = .ok (.getfield 21, 3) := by decide +kernel
theorem dX7_endScope_18 : decode cX7_endScope 18 = .ok (.getfield 114, 3) := by decide +kernel
theorem dX7_endScope_21 : decode cX7_endScope 21 = .ok (.iload_n 1, 1) := by decide +kernel
theorem dX7_endScope_22 : decode cX7_endScope 22 = .ok (.iconst 5, 1) := by decide +kernel
theorem dX7_endScope_23 : decode cX7_endScope 23 = .ok (.invokevirtual 131, 3) := by decide +kernel
theorem dX7_endScope_26 : decode cX7_endScope 26 = .ok (.iconst 0, 1) := by decide +kernel
theorem dX7_endScope_27 : decode cX7_endScope 27 = .ok (.ireturn, 1) := by decide +kernel
theorem dX7_endScope_28 : decode cX7_endScope 28 = .ok (.aload_n 0, 1) := by decide +kernel
theorem dX7_endScope_29 : decode cX7_endScope 29 = .ok (.getfield 26, 3) := by decide +kernel
theorem dX7_endScope_32 : decode cX7_endScope 32 = .ok (.getfield 206, 3) := by decide +kernel
theorem dX7_endScope_35 : decode cX7_endScope 35 = .ok (.iload_n 2, 1) := by decide +kernel
theorem dX7_endScope_36 : decode cX7_endScope 36 = .ok (.invokevirtual 89, 3) := by decide +kernel
theorem dX7_endScope_39 : decode cX7_endScope 39 = .ok (.iconst 1, 1) := by decide +kernel
theorem dX7_endScope_40 : decode cX7_endScope 40 = .ok (.if_icmp .ne 42, 3) := by decide +kernel
theorem dX7_endScope_43 : decode cX7_endScope 43 = .ok (.aload_n 0, 1) := by decide +kernel
theorem dX7_endScope_44 : decode cX7_endScope 44 = .ok (.getfield 26, 3) := by decide +kernel
theorem dX7_endScope_47 : decode cX7_endScope 47 = .ok (.getfield 206, 3) := by decide +kernel
theorem dX7_endScope_50 : decode cX7_endScope 50 = .ok (.iload_n 2, 1) := by decide +kernel
theorem dX7_endScope_51 : decode cX7_endScope 51 = .ok (.iconst 2, 1) := by decide +kernel
theorem dX7_endScope_52 : decode cX7_endScope 52 = .ok (.invokevirtual 131, 3) := by decide +kernel
theorem dX7_endScope_55 : decode cX7_endScope 55 = .ok (.aload_n 0, 1) := by decide +kernel
theorem dX7_endScope_56 : decode cX7_endScope 56 = .ok (.getfield 21, 3) := by decide +kernel
theorem dX7_endScope_59 : decode cX7_endScope 59 = .ok (.getfield 123, 3) := by decide +kernel
theorem dX7_endScope_62 : decode cX7_endScope 62 = .ok (.iload_n 1, 1) := by decide +kernel
theorem dX7_endScope_63 : decode cX7_endScope 63 = .ok (.iconst 0, 1) := by decide +kernel
theorem dX7_endScope_64 : decode cX7_endScope 64 = .ok (.invokevirtual 131, 3) := by decide +kernel
theorem dX7_endScope_67 : decode cX7_endScope 67 = .ok (.aload_n 0, 1) := by decide +kernel
theorem dX7_endScope_68 : decode cX7_endScope 68 = .ok (.getfield 9, 3) := by decide +kernel
theorem dX7_endScope_71 : decode cX7_endScope 71 = .ok (.getfield 60, 3) := by decide +kernel
theorem dX7_endScope_74 : decode cX7_endScope 74 = .ok (.bipush 8, 2) := by decide +kernel
theorem dX7_endScope_76 : decode cX7_endScope 76 = .ok (.iconst 1, 1) := by decide +kernel
theorem dX7_endScope_77 : decode cX7_endScope 77 = .ok (.invokevirtual 64, 3) := by decide +kernel
theorem dX7_endScope_80 : decode cX7_endScope 80 = .ok (.iconst 0, 1) := by decide +kernel
theorem dX7_endScope_81 : decode cX7_endScope 81 = .ok (.ireturn, 1) := by decide +kernel
theorem dX7_endScope_82 : decode cX7_endScope 82 = .ok (.aload_n 0, 1) := by decide +kernel
theorem dX7_endScope_83 : decode cX7_endScope 83 = .ok (.getfield 26, 3) := by decide +kernel
theorem dX7_endScope_86 : decode cX7_endScope 86 = .ok (.getfield 175, 3) := by decide +kernel
theorem dX7_endScope_89 : decode cX7_endScope 89 = .ok (.iload_n 2, 1) := by decide +kernel
theorem dX7_endScope_90 : decode cX7_endScope 90 = .ok (.iconst 2, 1) := by decide +kernel
theorem dX7_endScope_91 : decode cX7_endScope 91 = .ok (.invokevirtual 131, 3) := by decide +kernel
theorem dX7_endScope_94 : decode cX7_endScope 94 = .ok (.aload_n 0, 1) := by decide +kernel
theorem dX7_endScope_95 : decode cX7_endScope 95 = .ok (.getfield 21, 3) := by decide +kernel
theorem dX7_endScope_98 : decode cX7_endScope 98 = .ok (.getfield 86, 3) := by decide +kernel
theorem dX7_endScope_101 : decode cX7_endScope 101 = .ok (.iload_n 1, 1) := by decide +kernel
theorem dX7_endScope_102 : decode cX7_endScope 102 = .ok (.iconst (-1), 1) := by decide +kernel
theorem dX7_endScope_103 : decode cX7_endScope 103 = .ok (.invokevirtual 64, 3) := by decide +kernel
theorem dX7_endScope_106 : decode cX7_endScope 106 = .ok (.iconst 1, 1) := by decide +kernel
theorem dX7_endScope_107 : decode cX7_endScope 107 = .ok (.ireturn, 1) := by decide +kernel
set_option maxRecDepth 20000 in
theorem ggX7_endTask_X6_put : GoodIn wsX7_endTask wsX6_put := goodIn_r _ [14, 15, 163] (by decide +kernel) (by decide +kernel)
set_option maxRecDepth 20000 in
theorem gX7_endTask_X6_put : GoodIn wsX7_endTask (wsV RX7 131 RX6 yX6_put wsX6_put) := goodIn_app (goodIn_of _ (by decide +kernel)) ggX7_endTask_X6_put
set_option maxRecDepth 20000 in
theorem ggX7_endTask_X4_add : GoodIn wsX7_endTask wsX4_add := goodIn_r _ [20, 21, 22, 164, 165] (by decide +kernel) (by decide +kernel)
set_option maxRecDepth 20000 in
theorem gX7_endTask_X4_add : GoodIn wsX7_endTask (wsV RX7 117 RX4 yX4_add wsX4_add) := goodIn_app (goodIn_of _ (by decide +kernel)) ggX7_endTask_X4_add
set_option maxRecDepth 20000 in
theorem ggX7_endTask_X6_at : GoodIn wsX7_endTask wsX6_at := goodIn_r _ [26, 15, 163] (by decide +kernel) (by decide +kernel)
set_option maxRecDepth 20000 in
theorem gX7_endTask_X6_at : GoodIn wsX7_endTask (wsV RX7 89 RX6 yX6_at wsX6_at) := goodIn_app (goodIn_of _ (by decide +kernel)) ggX7_endTask_X6_at
set_option maxRecDepth 20000 in
theorem ggX7_endTask_X6_change : GoodIn wsX7_endTask wsX6_change := goodIn_r _ [30, 15, 163] (by decide +kernel) (by decide +kernel)
set_option maxRecDepth 20000 in
theorem gX7_endTask_X6_change : GoodIn wsX7_endTask (wsV RX7 64 RX6 yX6_change wsX6_change) := goodIn_app (goodIn_of _ (by decide +kernel)) ggX7_endTask_X6_change
set_option maxRecDepth 20000 in
theorem ggX7_endTask_X7_failOwner : GoodIn wsX7_endTask wsX7_failOwner := goodIn_r _ [35, 6, 36, 3, 37, 38, 23, 24, 25, 13, 26, 15, 39, 40, 41, 42, 43, 44, 45, 46, 47, 48, 49, 50, 51, 52, 53, 54, 55, 19, 56, 21, 57, 17, 18, 20, 22, 58, 59, 60, 61, 62, 63, 64, 65, 66, 67, 68, 69, 70, 71, 72, 73, 74, 75, 76, 77, 78, 79, 80, 81, 82, 83, 84, 85, 86, 87, 88, 89, 90, 91, 92, 93, 94, 95, 96, 97, 11, 12, 14, 98, 99, 100, 101, 102, 103, 28, 29, 30, 104, 105, 106, 107, 108, 109, 110, 111, 112, 113, 114, 115, 116, 27, 123, 124, 125, 126, 152, 153, 154, 155, 156, 157, 158, 159, 160, 161, 162, 144, 145, 146, 147, 148, 149, 150, 151, 163, 166, 167, 168, 164, 165, 127, 128, 129, 130, 131, 132, 133, 134, 135, 136, 137, 138, 139, 140, 141, 142, 143] (by decide +kernel) (by decide +kernel)
set_option maxRecDepth 20000 in
theorem gX7_endTask_X7_failOwner : GoodIn wsX7_endTask (wsV RX7 218 RX7 yX7_failOwner wsX7_failOwner) := goodIn_app (goodIn_of _ (by decide +kernel)) ggX7_endTask_X7_failOwner
set_option maxRecDepth 20000 in
theorem ggX7_endTask_X9_innermost : GoodIn wsX7_endTask wsX9_innermost := goodIn_r _ [120, 70, 72, 24, 25, 13, 26, 15, 121, 66, 67, 68, 69, 71, 127, 128, 129, 130, 131, 132, 133, 134, 135, 136, 137, 138, 139, 140, 141, 142, 143, 163] (by decide +kernel) (by decide +kernel)
set_option maxRecDepth 20000 in
theorem gX7_endTask_X9_innermost : GoodIn wsX7_endTask (wsV RX7 120 RX9 yX9_innermost wsX9_innermost) := goodIn_app (goodIn_of _ (by decide +kernel)) ggX7_endTask_X9_innermost
set_option maxRecDepth 20000 in
theorem ggX7_endTask_X10_makeReady : GoodIn wsX7_endTask wsX10_makeReady := goodIn_r _ [112, 64, 78, 113, 114, 115, 11, 12, 13, 14, 15, 116, 17, 18, 19, 20, 21, 22, 144, 145, 146, 147, 148, 149, 150, 151, 127, 128, 129, 130, 131, 132, 133, 134, 135, 136, 137, 138, 139, 140, 141, 142, 143, 163, 164, 165] (by decide +kernel) (by decide +kernel)
set_option maxRecDepth 20000 in
theorem gX7_endTask_X10_makeReady : GoodIn wsX7_endTask (wsV RX7 221 RX10 yX10_makeReady wsX10_makeReady) := goodIn_app (goodIn_of _ (by decide +kernel)) ggX7_endTask_X10_makeReady
theorem dX7_endTask_0 : decode cX7_endTask 0 = .ok (.aload_n 0, 1) := by decide +kernel
theorem dX7_endTask_1 : decode cX7_endTask 1 = .ok (.getfield 21, 3) := by decide +kernel
theorem dX7_endTask_4 : decode cX7_endTask 4 = .ok (.getfield 114, 3) := by decide +kernel
theorem dX7_endTask_7 : decode cX7_endTask 7 = .ok (.iload_n 1, 1) := by decide +kernel
theorem dX7_endTask_8 : decode cX7_endTask 8 = .ok (.iload_n 2, 1) := by decide +kernel
theorem dX7_endTask_9 : decode cX7_endTask 9 = .ok (.invokevirtual 131, 3) := by decide +kernel
theorem dX7_endTask_12 : decode cX7_endTask 12 = .ok (.aload_n 0, 1) := by decide +kernel
theorem dX7_endTask_13 : decode cX7_endTask 13 = .ok (.getfield 9, 3) := by decide +kernel
theorem dX7_endTask_16 : decode cX7_endTask 16 = .ok (.getfield 209, 3) := by decide +kernel
theorem dX7_endTask_19 : decode cX7_endTask 19 = .ok (.iload_n 1, 1) := by decide +kernel
theorem dX7_endTask_20 : decode cX7_endTask 20 = .ok (.invokevirtual 117, 3) := by decide +kernel
theorem dX7_endTask_23 : decode cX7_endTask 23 = .ok (.aload_n 0, 1) := by decide +kernel
theorem dX7_endTask_24 : decode cX7_endTask 24 = .ok (.getfield 21, 3) := by decide +kernel
theorem dX7_endTask_27 : decode cX7_endTask 27 = .ok (.getfield 212, 3) := by decide +kernel
theorem dX7_endTask_30 : decode cX7_endTask 30 = .ok (.iload_n 1, 1) := by decide +kernel
theorem dX7_endTask_31 : decode cX7_endTask 31 = .ok (.invokevirtual 89, 3) := by decide +kernel
theorem dX7_endTask_34 : decode cX7_endTask 34 = .ok (.istore_n 3, 1) := by decide +kernel
theorem dX7_endTask_35 : decode cX7_endTask 35 = .ok (.iload_n 3, 1) := by decide +kernel
theorem dX7_endTask_36 : decode cX7_endTask 36 = .ok (.iconst (-1), 1) := by decide +kernel
theorem dX7_endTask_37 : decode cX7_endTask 37 = .ok (.if_icmp .ne 4, 3) := by decide +kernel
theorem dX7_endTask_40 : decode cX7_endTask 40 = .ok (.return_, 1) := by decide +kernel
theorem dX7_endTask_41 : decode cX7_endTask 41 = .ok (.aload_n 0, 1) := by decide +kernel
theorem dX7_endTask_42 : decode cX7_endTask 42 = .ok (.getfield 26, 3) := by decide +kernel
theorem dX7_endTask_45 : decode cX7_endTask 45 = .ok (.getfield 203, 3) := by decide +kernel
theorem dX7_endTask_48 : decode cX7_endTask 48 = .ok (.iload_n 3, 1) := by decide +kernel
theorem dX7_endTask_49 : decode cX7_endTask 49 = .ok (.iconst (-1), 1) := by decide +kernel
theorem dX7_endTask_50 : decode cX7_endTask 50 = .ok (.invokevirtual 64, 3) := by decide +kernel
theorem dX7_endTask_53 : decode cX7_endTask 53 = .ok (.aload_n 0, 1) := by decide +kernel
theorem dX7_endTask_54 : decode cX7_endTask 54 = .ok (.getfield 26, 3) := by decide +kernel
theorem dX7_endTask_57 : decode cX7_endTask 57 = .ok (.getfield 215, 3) := by decide +kernel
theorem dX7_endTask_60 : decode cX7_endTask 60 = .ok (.iload_n 3, 1) := by decide +kernel
theorem dX7_endTask_61 : decode cX7_endTask 61 = .ok (.invokevirtual 89, 3) := by decide +kernel
theorem dX7_endTask_64 : decode cX7_endTask 64 = .ok (.istore 4, 2) := by decide +kernel
theorem dX7_endTask_66 : decode cX7_endTask 66 = .ok (.iload_n 2, 1) := by decide +kernel
theorem dX7_endTask_67 : decode cX7_endTask 67 = .ok (.bipush 7, 2) := by decide +kernel
theorem dX7_endTask_69 : decode cX7_endTask 69 = .ok (.if_icmp .ne 21, 3) := by decide +kernel
theorem dX7_endTask_72 : decode cX7_endTask 72 = .ok (.aload_n 0, 1) := by decide +kernel
theorem dX7_endTask_73 : decode cX7_endTask 73 = .ok (.iload 4, 2) := by decide +kernel
theorem dX7_endTask_75 : decode cX7_endTask 75 = .ok (.iload_n 3, 1) := by decide +kernel
theorem dX7_endTask_76 : decode cX7_endTask 76 = .ok (.aload_n 0, 1) := by decide +kernel
theorem dX7_endTask_77 : decode cX7_endTask 77 = .ok (.getfield 21, 3) := by decide +kernel
theorem dX7_endTask_80 : decode cX7_endTask 80 = .ok (.getfield 167, 3) := by decide +kernel
theorem dX7_endTask_83 : decode cX7_endTask 83 = .ok (.iload_n 1, 1) := by decide +kernel
theorem dX7_endTask_84 : decode cX7_endTask 84 = .ok (.invokevirtual 89, 3) := by decide +kernel
theorem dX7_endTask_87 : decode cX7_endTask 87 = .ok (.invokevirtual 218, 3) := by decide +kernel
theorem dX7_endTask_90 : decode cX7_endTask 90 = .ok (.aload_n 0, 1) := by decide +kernel
theorem dX7_endTask_91 : decode cX7_endTask 91 = .ok (.getfield 21, 3) := by decide +kernel
theorem dX7_endTask_94 : decode cX7_endTask 94 = .ok (.getfield 114, 3) := by decide +kernel
theorem dX7_endTask_97 : decode cX7_endTask 97 = .ok (.iload 4, 2) := by decide +kernel
theorem dX7_endTask_99 : decode cX7_endTask 99 = .ok (.invokevirtual 89, 3) := by decide +kernel
theorem dX7_endTask_102 : decode cX7_endTask 102 = .ok (.iconst 5, 1) := by decide +kernel
theorem dX7_endTask_103 : decode cX7_endTask 103 = .ok (.if_icmp .ne 20, 3) := by decide +kernel
theorem dX7_endTask_106 : decode cX7_endTask 106 = .ok (.aload_n 0, 1) := by decide +kernel
theorem dX7_endTask_107 : decode cX7_endTask 107 = .ok (.getfield 21, 3) := by decide +kernel
theorem dX7_endTask_110 : decode cX7_endTask 110 = .ok (.iload 4, 2) := by decide +kernel
theorem dX7_endTask_112 : decode cX7_endTask 112 = .ok (.invokevirtual 120, 3) := by decide +kernel
theorem dX7_endTask_115 : decode cX7_endTask 115 = .ok (.iload_n 3, 1) := by decide +kernel
theorem dX7_endTask_116 : decode cX7_endTask 116 = .ok (.if_icmp .ne 7, 3) := by decide +kernel
theorem dX7_endTask_119 : decode cX7_endTask 119 = .ok (.iconst 1, 1) := by decide +kernel
theorem dX7_endTask_120 : decode cX7_endTask 120 = .ok (.goto 4, 3) := by decide +kernel
theorem dX7_endTask_123 : decode cX7_endTask 123 = .ok (.iconst 0, 1) := by decide +kernel
theorem dX7_endTask_124 : decode cX7_endTask 124 = .ok (.istore 5, 2) := by decide +kernel
theorem dX7_endTask_126 : decode cX7_endTask 126 = .ok (.iload 5, 2) := by decide +kernel
theorem dX7_endTask_128 : decode cX7_endTask 128 = .ok (.ifCond .eq 26, 3) := by decide +kernel
theorem dX7_endTask_131 : decode cX7_endTask 131 = .ok (.aload_n 0, 1) := by decide +kernel
theorem dX7_endTask_132 : decode cX7_endTask 132 = .ok (.getfield 26, 3) := by decide +kernel
theorem dX7_endTask_135 : decode cX7_endTask 135 = .ok (.getfield 203, 3) := by decide +kernel
theorem dX7_endTask_138 : decode cX7_endTask 138 = .ok (.iload_n 3, 1) := by decide +kernel
theorem dX7_endTask_139 : decode cX7_endTask 139 = .ok (.invokevirtual 89, 3) := by decide +kernel
theorem dX7_endTask_142 : decode cX7_endTask 142 = .ok (.ifCond .ne 12, 3) := by decide +kernel
theorem dX7_endTask_145 : decode cX7_endTask 145 = .ok (.aload_n 0, 1) := by decide +kernel
theorem dX7_endTask_146 : decode cX7_endTask 146 = .ok (.getfield 9, 3) := by decide +kernel
theorem dX7_endTask_149 : decode cX7_endTask 149 = .ok (.iload 4, 2) := by decide +kernel
theorem dX7_endTask_151 : decode cX7_endTask 151 = .ok (.invokevirtual 221, 3) := by decide +kernel
theorem dX7_endTask_154 : decode cX7_endTask 154 = .ok (.return_, 1) := by decide +kernel
set_option maxRecDepth 20000 in
theorem ggX7_failOwner_X6_at : GoodIn wsX7_failOwner wsX6_at := goodIn_r _ [10, 11, 126] (by decide +kernel) (by decide +kernel)
set_option maxRecDepth 20000 in
theorem gX7_failOwner_X6_at : GoodIn wsX7_failOwner (wsV RX7 89 RX6 yX6_at wsX6_at) := goodIn_app (goodIn_of _ (by decide +kernel)) ggX7_failOwner_X6_at
set_option maxRecDepth 20000 in
theorem ggX7_failOwner_X10_fail : GoodIn wsX7_failOwner wsX10_fail := goodIn_r _ [16, 17, 18, 19, 20, 21, 22, 23, 24, 25, 26, 27, 28, 29, 30, 31, 32, 33, 34, 35, 36, 37, 38, 39, 15, 40, 41, 42, 43, 44, 45, 46, 47, 48, 49, 50, 51, 7, 8, 9, 10, 11, 52, 53, 54, 55, 56, 57, 58, 59, 60, 61, 62, 63, 64, 65, 66, 67, 68, 69, 70, 71, 72, 73, 74, 75, 76, 77, 78, 79, 80, 81, 82, 83, 84, 85, 86, 87, 88, 89, 90, 91, 92, 93, 94, 95, 96, 97, 98, 99, 100, 101, 118, 119, 120, 121, 122, 123, 124, 125, 127, 128, 129, 130, 131, 107, 108, 109, 110, 111, 112, 113, 114, 115, 116, 117, 132, 133, 134, 135, 136, 137, 138, 139, 140, 141, 142, 143, 144, 145, 146, 147, 148, 126] (by decide +kernel) (by decide +kernel)
set_option maxRecDepth 20000 in
theorem gX7_failOwner_X10_fail : GoodIn wsX7_failOwner (wsV RX7 159 RX10 yX10_fail wsX10_fail) := goodIn_app (goodIn_of _ (by decide +kernel)) ggX7_failOwner_X10_fail
set_option maxRecDepth 20000 in
theorem ggX7_failOwner_X6_change : GoodIn wsX7_failOwner wsX6_change := goodIn_r _ [88, 11, 126] (by decide +kernel) (by decide +kernel)
set_option maxRecDepth 20000 in
theorem gX7_failOwner_X6_change : GoodIn wsX7_failOwner (wsV RX7 64 RX6 yX6_change wsX6_change) := goodIn_app (goodIn_of _ (by decide +kernel)) ggX7_failOwner_X6_change
theorem dX7_failOwner_0 : decode cX7_failOwner 0 = .ok (.aload_n 0, 1) := by decide +kernel
theorem dX7_failOwner_1 : decode cX7_failOwner 1 = .ok (.getfield 26, 3) := by decide +kernel
theorem dX7_failOwner_4 : decode cX7_failOwner 4 = .ok (.getfield 175, 3) := by decide +kernel
theorem dX7_failOwner_7 : decode cX7_failOwner 7 = .ok (.iload_n 2, 1) := by decide +kernel
theorem dX7_failOwner_8 : decode cX7_failOwner 8 = .ok (.invokevirtual 89, 3) := by decide +kernel
theorem dX7_failOwner_11 : decode cX7_failOwner 11 = .ok (.ifCond .ne 28, 3) := by decide +kernel
theorem dX7_failOwner_14 : decode cX7_failOwner 14 = .ok (.aload_n 0, 1) := by decide +kernel
theorem dX7_failOwner_15 : decode cX7_failOwner 15 = .ok (.getfield 9, 3) := by decide +kernel
theorem dX7_failOwner_18 : decode cX7_failOwner 18 = .ok (.iload_n 1, 1) := by decide +kernel
theorem dX7_failOwner_19 : decode cX7_failOwner 19 = .ok (.bipush 10, 2) := by decide +kernel
theorem dX7_failOwner_21 : decode cX7_failOwner 21 = .ok (.iload_n 3, 1) := by decide +kernel
theorem dX7_failOwner_22 : decode cX7_failOwner 22 = .ok (.aload_n 0, 1) := by decide +kernel
theorem dX7_failOwner_23 : decode cX7_failOwner 23 = .ok (.getfield 26, 3) := by decide +kernel
theorem dX7_failOwner_26 : decode cX7_failOwner 26 = .ok (.getfield 185, 3) := by decide +kernel
theorem dX7_failOwner_29 : decode cX7_failOwner 29 = .ok (.iload_n 2, 1) := by decide +kernel
theorem dX7_failOwner_30 : decode cX7_failOwner 30 = .ok (.invokevirtual 89, 3) := by decide +kernel
theorem dX7_failOwner_33 : decode cX7_failOwner 33 = .ok (.invokevirtual 159, 3) := by decide +kernel
theorem dX7_failOwner_36 : decode cX7_failOwner 36 = .ok (.goto 16, 3) := by decide +kernel
theorem dX7_failOwner_39 : decode cX7_failOwner 39 = .ok (.aload_n 0, 1) := by decide +kernel
theorem dX7_failOwner_40 : decode cX7_failOwner 40 = .ok (.getfield 9, 3) := by decide +kernel
theorem dX7_failOwner_43 : decode cX7_failOwner 43 = .ok (.getfield 60, 3) := by decide +kernel
theorem dX7_failOwner_46 : decode cX7_failOwner 46 = .ok (.bipush 9, 2) := by decide +kernel
theorem dX7_failOwner_48 : decode cX7_failOwner 48 = .ok (.iconst 1, 1) := by decide +kernel
theorem dX7_failOwner_49 : decode cX7_failOwner 49 = .ok (.invokevirtual 64, 3) := by decide +kernel
theorem dX7_failOwner_52 : decode cX7_failOwner 52 = .ok (.return_, 1) := by decide +kernel
set_option maxRecDepth 20000 in
theorem ggX7_executeNext_X6_at : GoodIn wsX7_executeNext wsX6_at := goodIn_r _ [10, 11, 354] (by decide +kernel) (by decide +kernel)
set_option maxRecDepth 20000 in
theorem gX7_executeNext_X6_at : GoodIn wsX7_executeNext (wsV RX7 89 RX6 yX6_at wsX6_at) := goodIn_app (goodIn_of _ (by decide +kernel)) ggX7_executeNext_X6_at
set_option maxRecDepth 20000 in
theorem ggX7_executeNext_X0_at : GoodIn wsX7_executeNext wsX0_at := goodIn_r _ [16, 17, 18, 19, 7, 8, 9, 10, 11, 355, 356, 354] (by decide +kernel) (by decide +kernel)
set_option maxRecDepth 20000 in
theorem gX7_executeNext_X0_at : GoodIn wsX7_executeNext (wsV RX7 134 RX0 yX0_at wsX0_at) := goodIn_app (goodIn_of _ (by decide +kernel)) ggX7_executeNext_X0_at
set_option maxRecDepth 20000 in
theorem ggX7_executeNext_X0_sign : GoodIn wsX7_executeNext wsX0_sign := goodIn_r _ [22] (by decide +kernel) (by decide +kernel)
set_option maxRecDepth 20000 in
theorem gX7_executeNext_X0_sign : GoodIn wsX7_executeNext (va_wsS RX7 137 yX0_sign wsX0_sign) := goodIn_app (goodIn_of _ (by decide +kernel)) ggX7_executeNext_X0_sign
set_option maxRecDepth 20000 in
theorem ggX7_executeNext_X0_operand : GoodIn wsX7_executeNext wsX0_operand := goodIn_r _ [25] (by decide +kernel) (by decide +kernel)
set_option maxRecDepth 20000 in
theorem gX7_executeNext_X0_operand : GoodIn wsX7_executeNext (va_wsS RX7 143 yX0_operand wsX0_operand) := goodIn_app (goodIn_of _ (by decide +kernel)) ggX7_executeNext_X0_operand
set_option maxRecDepth 20000 in
theorem ggX7_executeNext_X7_stepOver : GoodIn wsX7_executeNext wsX7_stepOver := goodIn_r _ [30, 1, 31, 6, 7, 8, 9, 10, 11, 333, 334, 335, 336, 337, 338, 339, 340, 341, 342, 343, 344, 345, 346, 347, 348, 349, 350, 351, 352, 353, 354] (by decide +kernel) (by decide +kernel)
set_option maxRecDepth 20000 in
theorem gX7_executeNext_X7_stepOver : GoodIn wsX7_executeNext (wsV RX7 140 RX7 yX7_stepOver wsX7_stepOver) := goodIn_app (goodIn_of _ (by decide +kernel)) ggX7_executeNext_X7_stepOver
set_option maxRecDepth 20000 in
theorem ggX7_executeNext_X6_put : GoodIn wsX7_executeNext wsX6_put := goodIn_r _ [35, 11, 354] (by decide +kernel) (by decide +kernel)
set_option maxRecDepth 20000 in
theorem gX7_executeNext_X6_put : GoodIn wsX7_executeNext (wsV RX7 131 RX6 yX6_put wsX6_put) := goodIn_app (goodIn_of _ (by decide +kernel)) ggX7_executeNext_X6_put
set_option maxRecDepth 20000 in
theorem ggX7_executeNext_X7_closeScope : GoodIn wsX7_executeNext wsX7_closeScope := goodIn_r _ [39, 1, 2, 40, 41, 42, 43, 44, 45, 46, 7, 8, 9, 10, 11, 47, 48, 49, 50, 51, 52, 53, 54, 29, 55, 56, 57, 58, 59, 60, 4, 61, 62, 63, 6, 32, 33, 34, 35, 64, 65, 66, 67, 333, 334, 335, 336, 337, 338, 339, 340, 341, 342, 343, 344, 345, 346, 347, 348, 349, 350, 351, 352, 353, 354, 357, 358, 359, 360, 361, 362, 363, 364, 365, 366, 367, 368, 369, 370, 371, 372, 373, 374, 375] (by decide +kernel) (by decide +kernel)
set_option maxRecDepth 20000 in
theorem gX7_executeNext_X7_closeScope : GoodIn wsX7_executeNext (wsV RX7 224 RX7 yX7_closeScope wsX7_closeScope) := goodIn_app (goodIn_of _ (by decide +kernel)) ggX7_executeNext_X7_closeScope
set_option maxRecDepth 20000 in
theorem ggX7_executeNext_X7_openScope : GoodIn wsX7_executeNext wsX7_openScope := goodIn_r _ [71, 56, 72, 4, 1, 61, 3, 2, 63, 73, 74, 75, 43, 76, 45, 46, 7, 8, 9, 10, 11, 77, 78, 79, 80, 81, 82, 83, 84, 85, 86, 87, 88, 89, 90, 91, 92, 93, 94, 95, 96, 97, 98, 99, 100, 101, 102, 103, 104, 105, 106, 107, 108, 109, 48, 49, 50, 51, 110, 111, 112, 113, 114, 115, 116, 117, 118, 119, 120, 121, 122, 123, 124, 125, 126, 127, 128, 129, 130, 131, 132, 133, 134, 33, 34, 35, 135, 136, 137, 138, 139, 140, 65, 66, 67, 141, 142, 143, 144, 145, 146, 147, 148, 149, 150, 151, 152, 153, 6, 154, 155, 156, 15, 157, 158, 159, 160, 161, 17, 19, 162, 13, 14, 16, 18, 163, 21, 22, 164, 165, 166, 167, 168, 169, 170, 171, 172, 173, 174, 175, 176, 177, 178, 179, 180, 181, 182, 183, 184, 185, 186, 187, 333, 334, 335, 336, 357, 358, 359, 360, 361, 362, 363, 364, 365, 366, 367, 368, 369, 370, 371, 372, 373, 374, 375, 337, 338, 339, 340, 341, 342, 343, 344, 345, 346, 347, 348, 349, 350, 351, 352, 353, 354, 376, 377, 378, 379, 380, 355, 356] (by decide +kernel) (by decide +kernel)
set_option maxRecDepth 20000 in
theorem gX7_executeNext_X7_openScope : GoodIn wsX7_executeNext (wsV RX7 227 RX7 yX7_openScope wsX7_openScope) := goodIn_app (goodIn_of _ (by decide +kernel)) ggX7_executeNext_X7_openScope
set_option maxRecDepth 20000 in
theorem ggX7_executeNext_X7_setCleanup : GoodIn wsX7_executeNext wsX7_setCleanup := goodIn_r _ [191, 1, 56, 59, 192, 4, 193, 40, 41, 42, 43, 44, 45, 46, 7, 8, 9, 10, 11, 47, 48, 49, 50, 51, 32, 33, 34, 35, 194, 195, 196, 15, 197, 198, 199, 200, 201, 17, 202, 158, 159, 160, 161, 19, 162, 13, 14, 16, 18, 203, 204, 205, 206, 333, 334, 335, 336, 357, 358, 359, 360, 361, 362, 363, 364, 365, 366, 367, 368, 369, 370, 371, 372, 373, 374, 375, 337, 338, 339, 340, 341, 342, 343, 344, 345, 346, 347, 348, 349, 350, 351, 352, 353, 354, 355, 356] (by decide +kernel) (by decide +kernel)
set_option maxRecDepth 20000 in
theorem gX7_executeNext_X7_setCleanup : GoodIn wsX7_executeNext (wsV RX7 230 RX7 yX7_setCleanup wsX7_setCleanup) := goodIn_app (goodIn_of _ (by decide +kernel)) ggX7_executeNext_X7_setCleanup
set_option maxRecDepth 20000 in
theorem ggX7_executeNext_X7_startChild : GoodIn wsX7_executeNext wsX7_startChild := goodIn_r _ [210, 1, 4, 56, 40, 41, 42, 43, 44, 45, 46, 7, 8, 9, 10, 11, 47, 48, 49, 50, 51, 211, 212, 213, 80, 214, 108, 215, 216, 217, 151, 218, 219, 220, 221, 222, 122, 223, 224, 225, 226, 145, 227, 134, 33, 34, 35, 228, 129, 130, 131, 127, 132, 133, 229, 195, 196, 15, 197, 198, 199, 200, 201, 17, 202, 158, 159, 160, 161, 19, 162, 13, 14, 16, 18, 203, 204, 205, 206, 153, 98, 99, 94, 100, 96, 101, 73, 74, 75, 76, 77, 78, 79, 81, 82, 83, 84, 85, 86, 87, 88, 89, 90, 91, 92, 93, 95, 97, 102, 103, 104, 105, 106, 107, 109, 110, 111, 112, 113, 114, 115, 116, 117, 118, 119, 120, 121, 123, 124, 125, 126, 128, 135, 136, 137, 138, 139, 140, 65, 66, 67, 141, 142, 143, 144, 146, 147, 148, 149, 150, 152, 230, 231, 232, 170, 233, 177, 178, 234, 333, 334, 335, 336, 337, 338, 339, 340, 341, 342, 343, 344, 345, 346, 347, 348, 349, 350, 351, 352, 353, 354, 368, 369, 370, 371, 372, 373, 374, 375, 355, 356, 379, 380, 376, 377, 378, 357, 358, 359, 360, 361, 362, 363, 364, 365, 366, 367] (by decide +kernel) (by decide +kernel)
set_option maxRecDepth 20000 in
theorem gX7_executeNext_X7_startChild : GoodIn wsX7_executeNext (wsV RX7 233 RX7 yX7_startChild wsX7_startChild) := goodIn_app (goodIn_of _ (by decide +kernel)) ggX7_executeNext_X7_startChild
set_option maxRecDepth 20000 in
theorem ggX7_executeNext_X9_innermost : GoodIn wsX7_executeNext wsX9_innermost := goodIn_r _ [44, 45, 46, 7, 8, 9, 10, 11, 47, 48, 49, 43, 50, 51, 337, 338, 339, 340, 341, 342, 343, 344, 345, 346, 347, 348, 349, 350, 351, 352, 353, 354] (by decide +kernel) (by decide +kernel)
set_option maxRecDepth 20000 in
theorem gX7_executeNext_X9_innermost : GoodIn wsX7_executeNext (wsV RX7 120 RX9 yX9_innermost wsX9_innermost) := goodIn_app (goodIn_of _ (by decide +kernel)) ggX7_executeNext_X9_innermost
set_option maxRecDepth 20000 in
theorem ggX7_executeNext_X10_cancelChildren : GoodIn wsX7_executeNext wsX10_cancelChildren := goodIn_r _ [238, 108, 215, 239, 110, 7, 8, 9, 10, 11, 111, 112, 113, 80, 114, 115, 116, 117, 118, 119, 120, 43, 121, 122, 46, 123, 124, 125, 126, 127, 128, 129, 130, 131, 132, 133, 134, 33, 34, 35, 135, 136, 137, 138, 139, 140, 65, 66, 67, 141, 142, 143, 144, 145, 146, 147, 148, 149, 150, 151, 152, 153, 98, 99, 94, 100, 96, 101, 368, 369, 370, 371, 372, 373, 374, 375, 337, 338, 339, 340, 341, 342, 343, 344, 345, 346, 347, 348, 349, 350, 351, 352, 353, 354, 379, 380] (by decide +kernel) (by decide +kernel)
set_option maxRecDepth 20000 in
theorem gX7_executeNext_X10_cancelChildren : GoodIn wsX7_executeNext (wsV RX7 178 RX10 yX10_cancelChildren wsX10_cancelChildren) := goodIn_app (goodIn_of _ (by decide +kernel)) ggX7_executeNext_X10_cancelChildren
set_option maxRecDepth 20000 in
theorem ggX7_executeNext_X2_send : GoodIn wsX7_executeNext wsX2_send := goodIn_r _ [244, 245, 246, 247, 248, 249, 250, 251, 252, 253, 243, 254, 255, 256, 257, 258, 43, 259, 122, 260, 261, 46, 7, 8, 9, 10, 11, 262, 263, 264, 265, 266, 267, 268, 147, 148, 80, 149, 108, 115, 150, 151, 152, 33, 34, 35, 153, 98, 99, 94, 100, 96, 101, 269, 270, 271, 272, 273, 274, 275, 65, 66, 67, 276, 277, 278, 279, 280, 281, 282, 283, 284, 285, 286, 287, 288, 289, 290, 291, 292, 293, 294, 295, 134, 381, 382, 383, 337, 338, 339, 340, 341, 342, 343, 344, 345, 346, 347, 348, 349, 350, 351, 352, 353, 368, 369, 370, 371, 372, 373, 374, 375, 354, 379, 380, 384, 385, 386] (by decide +kernel) (by decide +kernel)
set_option maxRecDepth 20000 in
theorem gX7_executeNext_X2_send : GoodIn wsX7_executeNext (wsV RX7 236 RX2 yX2_send wsX2_send) := goodIn_app (goodIn_of _ (by decide +kernel)) ggX7_executeNext_X2_send
set_option maxRecDepth 20000 in
theorem ggX7_executeNext_X2_receive : GoodIn wsX7_executeNext wsX2_receive := goodIn_r _ [299, 245, 248, 250, 300, 301, 302, 243, 303, 246, 249, 304, 305, 306, 307, 308, 255, 309, 310, 311, 43, 312, 122, 260, 46, 7, 8, 9, 10, 11, 262, 263, 264, 265, 266, 267, 313, 314, 315, 279, 316, 281, 288, 317, 318, 319, 320, 283, 289, 33, 34, 35, 290, 65, 66, 67, 284, 285, 286, 287, 268, 147, 148, 80, 149, 108, 115, 150, 151, 152, 153, 98, 99, 94, 100, 96, 101, 269, 270, 271, 272, 273, 274, 275, 291, 292, 293, 294, 261, 295, 134, 381, 382, 383, 368, 369, 370, 371, 372, 373, 374, 375, 337, 338, 339, 340, 341, 342, 343, 344, 345, 346, 347, 348, 349, 350, 351, 352, 353, 384, 385, 386, 354, 379, 380] (by decide +kernel) (by decide +kernel)
set_option maxRecDepth 20000 in
theorem gX7_executeNext_X2_receive : GoodIn wsX7_executeNext (wsV RX7 239 RX2 yX2_receive wsX2_receive) := goodIn_app (goodIn_of _ (by decide +kernel)) ggX7_executeNext_X2_receive
set_option maxRecDepth 20000 in
theorem ggX7_executeNext_X2_choose : GoodIn wsX7_executeNext wsX2_choose := goodIn_r _ [324, 245, 273, 248, 250, 267, 7, 8, 9, 10, 11, 300, 301, 302, 243, 303, 246, 249, 304, 305, 306, 307, 308, 255, 309, 310, 311, 43, 312, 122, 260, 46, 262, 263, 264, 265, 266, 313, 314, 315, 279, 316, 281, 288, 317, 318, 319, 320, 283, 289, 33, 34, 35, 290, 65, 66, 67, 284, 285, 286, 287, 268, 147, 148, 80, 149, 108, 115, 150, 151, 152, 153, 98, 99, 94, 100, 96, 101, 269, 270, 271, 272, 274, 275, 291, 292, 293, 294, 261, 295, 134, 381, 382, 383, 337, 338, 339, 340, 341, 342, 343, 344, 345, 346, 347, 348, 349, 350, 351, 352, 353, 368, 369, 370, 371, 372, 373, 374, 375, 354, 384, 385, 386, 379, 380] (by decide +kernel) (by decide +kernel)
set_option maxRecDepth 20000 in
theorem gX7_executeNext_X2_choose : GoodIn wsX7_executeNext (wsV RX7 242 RX2 yX2_choose wsX2_choose) := goodIn_app (goodIn_of _ (by decide +kernel)) ggX7_executeNext_X2_choose
set_option maxRecDepth 20000 in
theorem ggX7_executeNext_X9_innermostLevel : GoodIn wsX7_executeNext wsX9_innermostLevel := goodIn_r _ [76, 45, 46, 7, 8, 9, 10, 11, 337, 338, 339, 340, 341, 342, 343, 344, 345, 346, 347, 348, 349, 350, 351, 352, 353, 354] (by decide +kernel) (by decide +kernel)
set_option maxRecDepth 20000 in
theorem gX7_executeNext_X9_innermostLevel : GoodIn wsX7_executeNext (wsV RX7 156 RX9 yX9_innermostLevel wsX9_innermostLevel) := goodIn_app (goodIn_of _ (by decide +kernel)) ggX7_executeNext_X9_innermostLevel
set_option maxRecDepth 20000 in
theorem ggX7_executeNext_X10_fail : GoodIn wsX7_executeNext wsX10_fail := goodIn_r _ [81, 82, 83, 84, 85, 86, 87, 88, 89, 90, 91, 92, 93, 94, 95, 96, 97, 98, 99, 100, 101, 102, 103, 104, 80, 105, 106, 107, 108, 109, 48, 49, 43, 50, 45, 51, 46, 7, 8, 9, 10, 11, 110, 111, 112, 113, 114, 115, 116, 117, 118, 119, 120, 121, 122, 123, 124, 125, 126, 127, 128, 129, 130, 131, 132, 133, 134, 33, 34, 35, 135, 136, 137, 138, 139, 140, 65, 66, 67, 141, 142, 143, 144, 145, 146, 147, 148, 149, 150, 151, 152, 153, 368, 369, 370, 371, 372, 373, 374, 375, 376, 377, 378, 379, 380, 357, 358, 359, 360, 361, 362, 363, 364, 365, 366, 367, 337, 338, 339, 340, 341, 342, 343, 344, 345, 346, 347, 348, 349, 350, 351, 352, 353, 354] (by decide +kernel) (by decide +kernel)
set_option maxRecDepth 20000 in
theorem gX7_executeNext_X10_fail : GoodIn wsX7_executeNext (wsV RX7 159 RX10 yX10_fail wsX10_fail) := goodIn_app (goodIn_of _ (by decide +kernel)) ggX7_executeNext_X10_fail
set_option maxRecDepth 20000 in
theorem ggX7_executeNext_X7_executeSimple : GoodIn wsX7_executeNext wsX7_executeSimple := goodIn_r _ [328, 1, 31, 4, 61, 64, 65, 66, 9, 67, 11, 6, 7, 8, 10, 329, 330, 331, 43, 332, 122, 227, 134, 33, 34, 35, 333, 334, 335, 336, 337, 338, 339, 340, 341, 342, 343, 344, 345, 346, 347, 348, 349, 350, 351, 352, 353, 368, 369, 370, 371, 372, 373, 374, 375, 354] (by decide +kernel) (by decide +kernel)
set_option maxRecDepth 20000 in
theorem gX7_executeNext_X7_executeSimple : GoodIn wsX7_executeNext (wsV RX7 149 RX7 yX7_executeSimple wsX7_executeSimple) := goodIn_app (goodIn_of _ (by decide +kernel)) ggX7_executeNext_X7_executeSimple
theorem dX7_executeNext_0 : decode cX7_executeNext 0 = .ok (.aload_n 0, 1) := by decide +kernel
theorem dX7_executeNext_1 : decode cX7_executeNext 1 = .ok (.getfield 21, 3) := by decide +kernel
theorem dX7_executeNext_4 : decode cX7_executeNext 4 = .ok (.getfield 99, 3) := by decide +kernel
theorem dX7_executeNext_7 : decode cX7_executeNext 7 = .ok (.iload_n 1, 1) := by decide +kernel
theorem dX7_executeNext_8 : decode cX7_executeNext 8 = .ok (.invokevirtual 89, 3) := by decide +kernel
theorem dX7_executeNext_11 : decode cX7_executeNext 11 = .ok (.istore_n 2, 1) := by decide +kernel
theorem dX7_executeNext_12 : decode cX7_executeNext 12 = .ok (.aload_n 0, 1) := by decide +kernel
theorem dX7_executeNext_13 : decode cX7_executeNext 13 = .ok (.getfield 21, 3) := by decide +kernel
theorem dX7_executeNext_16 : decode cX7_executeNext 16 = .ok (.getfield 102, 3) := by decide +kernel
theorem dX7_executeNext_19 : decode cX7_executeNext 19 = .ok (.iload_n 1, 1) := by decide +kernel
theorem dX7_executeNext_20 : decode cX7_executeNext 20 = .ok (.iload_n 2, 1) := by decide +kernel
theorem dX7_executeNext_21 : decode cX7_executeNext 21 = .ok (.invokevirtual 134, 3) := by decide +kernel
theorem dX7_executeNext_24 : decode cX7_executeNext 24 = .ok (.istore_n 3, 1) := by decide +kernel
theorem dX7_executeNext_25 : decode cX7_executeNext 25 = .ok (.iload_n 3, 1) := by decide +kernel
theorem dX7_executeNext_26 : decode cX7_executeNext 26 = .ok (.invokestatic 137, 3) := by decide +kernel
theorem dX7_executeNext_29 : decode cX7_executeNext 29 = .ok (.istore 4, 2) := by decide +kernel
theorem dX7_executeNext_31 : decode cX7_executeNext 31 = .ok (.iload_n 3, 1) := by decide +kernel
theorem dX7_executeNext_32 : decode cX7_executeNext 32 = .ok (.invokestatic 143, 3) := by decide +kernel
theorem dX7_executeNext_35 : decode cX7_executeNext 35 = .ok (.istore 5, 2) := by decide +kernel
theorem dX7_executeNext_37 : decode cX7_executeNext 37 = .ok (.iload 4, 2) := by decide +kernel
theorem dX7_executeNext_39 : decode cX7_executeNext 39 = .ok (.bipush 41, 2) := by decide +kernel
theorem dX7_executeNext_41 : decode cX7_executeNext 41 = .ok (.if_icmp .eq 23, 3) := by decide +kernel
theorem dX7_executeNext_44 : decode cX7_executeNext 44 = .ok (.aload_n 0, 1) := by decide +kernel
theorem dX7_executeNext_45 : decode cX7_executeNext 45 = .ok (.getfield 21, 3) := by decide +kernel
theorem dX7_executeNext_48 : decode cX7_executeNext 48 = .ok (.getfield 99, 3) := by decide +kernel
theorem dX7_executeNext_51 : decode cX7_executeNext 51 = .ok (.iload_n 1, 1) := by decide +kernel
theorem dX7_executeNext_52 : decode cX7_executeNext 52 = .ok (.iload_n 2, 1) := by decide +kernel
theorem dX7_executeNext_53 : decode cX7_executeNext 53 = .ok (.aload_n 0, 1) := by decide +kernel
theorem dX7_executeNext_54 : decode cX7_executeNext 54 = .ok (.iload_n 1, 1) := by decide +kernel
theorem dX7_executeNext_55 : decode cX7_executeNext 55 = .ok (.iload 4, 2) := by decide +kernel
theorem dX7_executeNext_57 : decode cX7_executeNext 57 = .ok (.invokevirtual 140, 3) := by decide +kernel
theorem dX7_executeNext_60 : decode cX7_executeNext 60 = .ok (.iadd, 1) := by decide +kernel
theorem dX7_executeNext_61 : decode cX7_executeNext 61 = .ok (.invokevirtual 131, 3) := by decide +kernel
theorem dX7_executeNext_64 : decode cX7_executeNext 64 = .ok (.iload 4, 2) := by decide +kernel
theorem dX7_executeNext_66 : decode cX7_executeNext 66 = .ok (.lookupswitch 225 #[(33, 203), (40, 106), (41, 98), (60, 169), (62, 156), (63, 182), (91, 106), (94, 118), (112, 128), (120, 138), (123, 106)], 98) := by decide +kernel
theorem dX7_executeNext_164 : decode cX7_executeNext 164 = .ok (.aload_n 0, 1) := by decide +kernel
theorem dX7_executeNext_165 : decode cX7_executeNext 165 = .ok (.iload_n 1, 1) := by decide +kernel
theorem dX7_executeNext_166 : decode cX7_executeNext 166 = .ok (.invokevirtual 224, 3) := by decide +kernel
theorem dX7_executeNext_169 : decode cX7_executeNext 169 = .ok (.goto 131, 3) := by decide +kernel
theorem dX7_executeNext_172 : decode cX7_executeNext 172 = .ok (.aload_n 0, 1) := by decide +kernel
theorem dX7_executeNext_173 : decode cX7_executeNext 173 = .ok (.iload_n 1, 1) := by decide +kernel
theorem dX7_executeNext_174 : decode cX7_executeNext 174 = .ok (.iload 4, 2) := by decide +kernel
theorem dX7_executeNext_176 : decode cX7_executeNext 176 = .ok (.iload 5, 2) := by decide +kernel
theorem dX7_executeNext_178 : decode cX7_executeNext 178 = .ok (.invokevirtual 227, 3) := by decide +kernel
theorem dX7_executeNext_181 : decode cX7_executeNext 181 = .ok (.goto 119, 3) := by decide +kernel
theorem dX7_executeNext_184 : decode cX7_executeNext 184 = .ok (.aload_n 0, 1) := by decide +kernel
theorem dX7_executeNext_185 : decode cX7_executeNext 185 = .ok (.iload_n 1, 1) := by decide +kernel
theorem dX7_executeNext_186 : decode cX7_executeNext 186 = .ok (.iload 5, 2) := by decide +kernel
theorem dX7_executeNext_188 : decode cX7_executeNext 188 = .ok (.invokevirtual 230, 3) := by decide +kernel
theorem dX7_executeNext_191 : decode cX7_executeNext 191 = .ok (.goto 109, 3) := by decide +kernel
theorem dX7_executeNext_194 : decode cX7_executeNext 194 = .ok (.aload_n 0, 1) := by decide +kernel
theorem dX7_executeNext_195 : decode cX7_executeNext 195 = .ok (.iload_n 1, 1) := by decide +kernel
theorem dX7_executeNext_196 : decode cX7_executeNext 196 = .ok (.iload 5, 2) := by decide +kernel
theorem dX7_executeNext_198 : decode cX7_executeNext 198 = .ok (.invokevirtual 233, 3) := by decide +kernel
theorem dX7_executeNext_201 : decode cX7_executeNext 201 = .ok (.goto 99, 3) := by decide +kernel
theorem dX7_executeNext_204 : decode cX7_executeNext 204 = .ok (.aload_n 0, 1) := by decide +kernel
theorem dX7_executeNext_205 : decode cX7_executeNext 205 = .ok (.getfield 9, 3) := by decide +kernel
theorem dX7_executeNext_208 : decode cX7_executeNext 208 = .ok (.aload_n 0, 1) := by decide +kernel
theorem dX7_executeNext_209 : decode cX7_executeNext 209 = .ok (.getfield 21, 3) := by decide +kernel
theorem dX7_executeNext_212 : decode cX7_executeNext 212 = .ok (.iload_n 1, 1) := by decide +kernel
theorem dX7_executeNext_213 : decode cX7_executeNext 213 = .ok (.invokevirtual 120, 3) := by decide +kernel
theorem dX7_executeNext_216 : decode cX7_executeNext 216 = .ok (.invokevirtual 178, 3) := by decide +kernel
theorem dX7_executeNext_219 : decode cX7_executeNext 219 = .ok (.goto 81, 3) := by decide +kernel
theorem dX7_executeNext_222 : decode cX7_executeNext 222 = .ok (.aload_n 0, 1) := by decide +kernel
theorem dX7_executeNext_223 : decode cX7_executeNext 223 = .ok (.getfield 32, 3) := by decide +kernel
theorem dX7_executeNext_226 : decode cX7_executeNext 226 = .ok (.iload_n 1, 1) := by decide +kernel
theorem dX7_executeNext_227 : decode cX7_executeNext 227 = .ok (.iload 5, 2) := by decide +kernel
theorem dX7_executeNext_229 : decode cX7_executeNext 229 = .ok (.invokevirtual 236, 3) := by decide +kernel
theorem dX7_executeNext_232 : decode cX7_executeNext 232 = .ok (.goto 68, 3) := by decide +kernel
theorem dX7_executeNext_235 : decode cX7_executeNext 235 = .ok (.aload_n 0, 1) := by decide +kernel
theorem dX7_executeNext_236 : decode cX7_executeNext 236 = .ok (.getfield 32, 3) := by decide +kernel
theorem dX7_executeNext_239 : decode cX7_executeNext 239 = .ok (.iload_n 1, 1) := by decide +kernel
theorem dX7_executeNext_240 : decode cX7_executeNext 240 = .ok (.iload 5, 2) := by decide +kernel
theorem dX7_executeNext_242 : decode cX7_executeNext 242 = .ok (.invokevirtual 239, 3) := by decide +kernel
theorem dX7_executeNext_245 : decode cX7_executeNext 245 = .ok (.goto 55, 3) := by decide +kernel
theorem dX7_executeNext_248 : decode cX7_executeNext 248 = .ok (.aload_n 0, 1) := by decide +kernel
theorem dX7_executeNext_249 : decode cX7_executeNext 249 = .ok (.getfield 32, 3) := by decide +kernel
theorem dX7_executeNext_252 : decode cX7_executeNext 252 = .ok (.iload_n 1, 1) := by decide +kernel
theorem dX7_executeNext_253 : decode cX7_executeNext 253 = .ok (.iload 5, 2) := by decide +kernel
theorem dX7_executeNext_255 : decode cX7_executeNext 255 = .ok (.bipush 10, 2) := by decide +kernel
theorem dX7_executeNext_257 : decode cX7_executeNext 257 = .ok (.idiv, 1) := by decide +kernel
theorem dX7_executeNext_258 : decode cX7_executeNext 258 = .ok (.iload 5, 2) := by decide +kernel
theorem dX7_executeNext_260 : decode cX7_executeNext 260 = .ok (.bipush 10, 2) := by decide +kernel
theorem dX7_executeNext_262 : decode cX7_executeNext 262 = .ok (.irem, 1) := by decide +kernel
theorem dX7_executeNext_263 : decode cX7_executeNext 263 = .ok (.invokevirtual 242, 3) := by decide +kernel
theorem dX7_executeNext_266 : decode cX7_executeNext 266 = .ok (.goto 34, 3) := by decide +kernel
theorem dX7_executeNext_269 : decode cX7_executeNext 269 = .ok (.aload_n 0, 1) := by decide +kernel
theorem dX7_executeNext_270 : decode cX7_executeNext 270 = .ok (.getfield 9, 3) := by decide +kernel
theorem dX7_executeNext_273 : decode cX7_executeNext 273 = .ok (.iload_n 1, 1) := by decide +kernel
theorem dX7_executeNext_274 : decode cX7_executeNext 274 = .ok (.iload 5, 2) := by decide +kernel
theorem dX7_executeNext_276 : decode cX7_executeNext 276 = .ok (.iconst (-1), 1) := by decide +kernel
theorem dX7_executeNext_277 : decode cX7_executeNext 277 = .ok (.aload_n 0, 1) := by decide +kernel
theorem dX7_executeNext_278 : decode cX7_executeNext 278 = .ok (.getfield 21, 3) := by decide +kernel
theorem dX7_executeNext_281 : decode cX7_executeNext 281 = .ok (.iload_n 1, 1) := by decide +kernel
theorem dX7_executeNext_282 : decode cX7_executeNext 282 = .ok (.invokevirtual 156, 3) := by decide +kernel
theorem dX7_executeNext_285 : decode cX7_executeNext 285 = .ok (.invokevirtual 159, 3) := by decide +kernel
theorem dX7_executeNext_288 : decode cX7_executeNext 288 = .ok (.goto 12, 3) := by decide +kernel
theorem dX7_executeNext_291 : decode cX7_executeNext 291 = .ok (.aload_n 0, 1) := by decide +kernel
theorem dX7_executeNext_292 : decode cX7_executeNext 292 = .ok (.iload_n 1, 1) := by decide +kernel
theorem dX7_executeNext_293 : decode cX7_executeNext 293 = .ok (.iload 4, 2) := by decide +kernel
theorem dX7_executeNext_295 : decode cX7_executeNext 295 = .ok (.iload 5, 2) := by decide +kernel
theorem dX7_executeNext_297 : decode cX7_executeNext 297 = .ok (.invokevirtual 149, 3) := by decide +kernel
theorem dX7_executeNext_300 : decode cX7_executeNext 300 = .ok (.return_, 1) := by decide +kernel
set_option maxRecDepth 20000 in
theorem ggX7_executeSimple_X6_change : GoodIn wsX7_executeSimple wsX6_change := goodIn_r _ [9, 10, 55] (by decide +kernel) (by decide +kernel)
set_option maxRecDepth 20000 in
theorem gX7_executeSimple_X6_change : GoodIn wsX7_executeSimple (wsV RX7 64 RX6 yX6_change wsX6_change) := goodIn_app (goodIn_of _ (by decide +kernel)) ggX7_executeSimple_X6_change
set_option maxRecDepth 20000 in
theorem ggX7_executeSimple_X6_at : GoodIn wsX7_executeSimple wsX6_at := goodIn_r _ [14, 10, 55] (by decide +kernel) (by decide +kernel)
set_option maxRecDepth 20000 in
theorem gX7_executeSimple_X6_at : GoodIn wsX7_executeSimple (wsV RX7 89 RX6 yX6_at wsX6_at) := goodIn_app (goodIn_of _ (by decide +kernel)) ggX7_executeSimple_X6_at
set_option maxRecDepth 20000 in
theorem ggX7_executeSimple_X9_sleepUntil : GoodIn wsX7_executeSimple wsX9_sleepUntil := goodIn_r _ [19, 20, 21, 22, 23, 24, 8, 25, 10, 30, 31, 32, 33, 34, 35, 36, 37, 38, 39, 40, 41, 42, 43, 44, 45, 46, 55] (by decide +kernel) (by decide +kernel)
set_option maxRecDepth 20000 in
theorem gX7_executeSimple_X9_sleepUntil : GoodIn wsX7_executeSimple (wsV RX7 245 RX9 yX9_sleepUntil wsX9_sleepUntil) := goodIn_app (goodIn_of _ (by decide +kernel)) ggX7_executeSimple_X9_sleepUntil
theorem dX7_executeSimple_0 : decode cX7_executeSimple 0 = .ok (.iload_n 2, 1) := by decide +kernel
theorem dX7_executeSimple_1 : decode cX7_executeSimple 1 = .ok (.bipush 43, 2) := by decide +kernel
theorem dX7_executeSimple_3 : decode cX7_executeSimple 3 = .ok (.if_icmp .ne 18, 3) := by decide +kernel
theorem dX7_executeSimple_6 : decode cX7_executeSimple 6 = .ok (.aload_n 0, 1) := by decide +kernel
theorem dX7_executeSimple_7 : decode cX7_executeSimple 7 = .ok (.getfield 21, 3) := by decide +kernel
theorem dX7_executeSimple_10 : decode cX7_executeSimple 10 = .ok (.getfield 153, 3) := by decide +kernel
theorem dX7_executeSimple_13 : decode cX7_executeSimple 13 = .ok (.iload_n 1, 1) := by decide +kernel
theorem dX7_executeSimple_14 : decode cX7_executeSimple 14 = .ok (.iload_n 3, 1) := by decide +kernel
theorem dX7_executeSimple_15 : decode cX7_executeSimple 15 = .ok (.invokevirtual 64, 3) := by decide +kernel
theorem dX7_executeSimple_18 : decode cX7_executeSimple 18 = .ok (.goto 52, 3) := by decide +kernel
theorem dX7_executeSimple_21 : decode cX7_executeSimple 21 = .ok (.iload_n 2, 1) := by decide +kernel
theorem dX7_executeSimple_22 : decode cX7_executeSimple 22 = .ok (.bipush 45, 2) := by decide +kernel
theorem dX7_executeSimple_24 : decode cX7_executeSimple 24 = .ok (.if_icmp .ne 19, 3) := by decide +kernel
theorem dX7_executeSimple_27 : decode cX7_executeSimple 27 = .ok (.aload_n 0, 1) := by decide +kernel
theorem dX7_executeSimple_28 : decode cX7_executeSimple 28 = .ok (.getfield 21, 3) := by decide +kernel
theorem dX7_executeSimple_31 : decode cX7_executeSimple 31 = .ok (.getfield 153, 3) := by decide +kernel
theorem dX7_executeSimple_34 : decode cX7_executeSimple 34 = .ok (.iload_n 1, 1) := by decide +kernel
theorem dX7_executeSimple_35 : decode cX7_executeSimple 35 = .ok (.iload_n 3, 1) := by decide +kernel
theorem dX7_executeSimple_36 : decode cX7_executeSimple 36 = .ok (.ineg, 1) := by decide +kernel
theorem dX7_executeSimple_37 : decode cX7_executeSimple 37 = .ok (.invokevirtual 64, 3) := by decide +kernel
theorem dX7_executeSimple_40 : decode cX7_executeSimple 40 = .ok (.goto 30, 3) := by decide +kernel
theorem dX7_executeSimple_43 : decode cX7_executeSimple 43 = .ok (.iload_n 2, 1) := by decide +kernel
theorem dX7_executeSimple_44 : decode cX7_executeSimple 44 = .ok (.bipush 119, 2) := by decide +kernel
theorem dX7_executeSimple_46 : decode cX7_executeSimple 46 = .ok (.if_icmp .ne 24, 3) := by decide +kernel
theorem dX7_executeSimple_49 : decode cX7_executeSimple 49 = .ok (.aload_n 0, 1) := by decide +kernel
theorem dX7_executeSimple_50 : decode cX7_executeSimple 50 = .ok (.getfield 21, 3) := by decide +kernel
theorem dX7_executeSimple_53 : decode cX7_executeSimple 53 = .ok (.iload_n 1, 1) := by decide +kernel
theorem dX7_executeSimple_54 : decode cX7_executeSimple 54 = .ok (.aload_n 0, 1) := by decide +kernel
theorem dX7_executeSimple_55 : decode cX7_executeSimple 55 = .ok (.getfield 9, 3) := by decide +kernel
theorem dX7_executeSimple_58 : decode cX7_executeSimple 58 = .ok (.getfield 60, 3) := by decide +kernel
theorem dX7_executeSimple_61 : decode cX7_executeSimple 61 = .ok (.iconst 5, 1) := by decide +kernel
theorem dX7_executeSimple_62 : decode cX7_executeSimple 62 = .ok (.invokevirtual 89, 3) := by decide +kernel
theorem dX7_executeSimple_65 : decode cX7_executeSimple 65 = .ok (.iload_n 3, 1) := by decide +kernel
theorem dX7_executeSimple_66 : decode cX7_executeSimple 66 = .ok (.iadd, 1) := by decide +kernel
theorem dX7_executeSimple_67 : decode cX7_executeSimple 67 = .ok (.invokevirtual 245, 3) := by decide +kernel
theorem dX7_executeSimple_70 : decode cX7_executeSimple 70 = .ok (.return_, 1) := by decide +kernel
set_option maxRecDepth 20000 in
theorem ggX7_closeScope_X9_innermost : GoodIn wsX7_closeScope wsX9_innermost := goodIn_r _ [7, 8, 9, 10, 11, 12, 13, 14, 15, 16, 17, 6, 18, 19, 47, 48, 49, 50, 51, 52, 53, 54, 55, 56, 57, 58, 59, 60, 61, 62, 63, 64] (by decide +kernel) (by decide +kernel)
set_option maxRecDepth 20000 in
theorem gX7_closeScope_X9_innermost : GoodIn wsX7_closeScope (wsV RX7 120 RX9 yX9_innermost wsX9_innermost) := goodIn_app (goodIn_of _ (by decide +kernel)) ggX7_closeScope_X9_innermost
set_option maxRecDepth 20000 in
theorem ggX7_closeScope_X7_endScope : GoodIn wsX7_closeScope wsX7_endScope := goodIn_r _ [24, 25, 26, 1, 27, 28, 29, 30, 31, 32, 33, 34, 10, 11, 12, 13, 14, 35, 36, 37, 38, 39, 40, 41, 42, 43, 44, 45, 46, 65, 66, 67, 68, 69, 70, 71, 72, 73, 74, 75, 47, 48, 49, 50, 51, 52, 53, 54, 55, 56, 57, 58, 59, 60, 61, 62, 63, 76, 77, 78, 79, 80, 81, 82, 83, 64] (by decide +kernel) (by decide +kernel)
set_option maxRecDepth 20000 in
theorem gX7_closeScope_X7_endScope : GoodIn wsX7_closeScope (wsV RX7 181 RX7 yX7_endScope wsX7_endScope) := goodIn_app (goodIn_of _ (by decide +kernel)) ggX7_closeScope_X7_endScope
set_option maxRecDepth 20000 in
theorem ggX7_closeScope_X6_change : GoodIn wsX7_closeScope wsX6_change := goodIn_r _ [42, 14, 64] (by decide +kernel) (by decide +kernel)
set_option maxRecDepth 20000 in
theorem gX7_closeScope_X6_change : GoodIn wsX7_closeScope (wsV RX7 64 RX6 yX6_change wsX6_change) := goodIn_app (goodIn_of _ (by decide +kernel)) ggX7_closeScope_X6_change
theorem dX7_closeScope_0 : decode cX7_closeScope 0 = .ok (.aload_n 0, 1) := by decide +kernel
theorem dX7_closeScope_1 : decode cX7_closeScope 1 = .ok (.iload_n 1, 1) := by decide +kernel
theorem dX7_closeScope_2 : decode cX7_closeScope 2 = .ok (.aload_n 0, 1) := by decide +kernel
theorem dX7_closeScope_3 : decode cX7_closeScope 3 = .ok (.getfield 21, 3) := by decide +kernel
theorem dX7_closeScope_6 : decode cX7_closeScope 6 = .ok (.iload_n 1, 1) := by decide +kernel
theorem dX7_closeScope_7 : decode cX7_closeScope 7 = .ok (.invokevirtual 120, 3) := by decide +kernel
theorem dX7_closeScope_10 : decode cX7_closeScope 10 = .ok (.invokevirtual 181, 3) := by decide +kernel
theorem dX7_closeScope_13 : decode cX7_closeScope 13 = .ok (.ifCond .eq 15, 3) := by decide +kernel
theorem dX7_closeScope_16 : decode cX7_closeScope 16 = .ok (.aload_n 0, 1) := by decide +kernel
theorem dX7_closeScope_17 : decode cX7_closeScope 17 = .ok (.getfield 21, 3) := by decide +kernel
theorem dX7_closeScope_20 : decode cX7_closeScope 20 = .ok (.getfield 99, 3) := by decide +kernel
theorem dX7_closeScope_23 : decode cX7_closeScope 23 = .ok (.iload_n 1, 1) := by decide +kernel
theorem dX7_closeScope_24 : decode cX7_closeScope 24 = .ok (.iconst 1, 1) := by decide +kernel
theorem dX7_closeScope_25 : decode cX7_closeScope 25 = .ok (.invokevirtual 64, 3) := by decide +kernel
theorem dX7_closeScope_28 : decode cX7_closeScope 28 = .ok (.return_, 1) := by decide +kernel
set_option maxRecDepth 20000 in
theorem ggX7_openScope_X9_innermostLevel : GoodIn wsX7_openScope wsX9_innermostLevel := goodIn_r _ [13, 14, 15, 16, 17, 18, 19, 20, 175, 176, 177, 178, 179, 180, 181, 182, 183, 184, 185, 186, 187, 188, 189, 190, 191, 192] (by decide +kernel) (by decide +kernel)
set_option maxRecDepth 20000 in
theorem gX7_openScope_X9_innermostLevel : GoodIn wsX7_openScope (wsV RX7 156 RX9 yX9_innermostLevel wsX9_innermostLevel) := goodIn_app (goodIn_of _ (by decide +kernel)) ggX7_openScope_X9_innermostLevel
set_option maxRecDepth 20000 in
theorem ggX7_openScope_X10_fail : GoodIn wsX7_openScope wsX10_fail := goodIn_r _ [25, 26, 27, 28, 29, 30, 31, 32, 33, 34, 35, 36, 37, 38, 39, 40, 41, 42, 43, 44, 45, 46, 47, 48, 24, 49, 50, 51, 52, 53, 54, 55, 12, 56, 14, 57, 15, 16, 17, 18, 19, 20, 58, 59, 60, 61, 62, 63, 64, 65, 66, 67, 68, 69, 70, 71, 72, 73, 74, 75, 76, 77, 78, 79, 80, 81, 82, 83, 84, 85, 86, 87, 88, 89, 90, 91, 92, 93, 94, 95, 96, 97, 98, 99, 100, 101, 102, 103, 104, 105, 106, 107, 167, 168, 169, 170, 171, 172, 173, 174, 193, 194, 195, 196, 197, 156, 157, 158, 159, 160, 161, 162, 163, 164, 165, 166, 175, 176, 177, 178, 179, 180, 181, 182, 183, 184, 185, 186, 187, 188, 189, 190, 191, 192] (by decide +kernel) (by decide +kernel)
set_option maxRecDepth 20000 in
theorem gX7_openScope_X10_fail : GoodIn wsX7_openScope (wsV RX7 159 RX10 yX10_fail wsX10_fail) := goodIn_app (goodIn_of _ (by decide +kernel)) ggX7_openScope_X10_fail
set_option maxRecDepth 20000 in
theorem ggX7_openScope_X6_at : GoodIn wsX7_openScope wsX6_at := goodIn_r _ [19, 20, 192] (by decide +kernel) (by decide +kernel)
set_option maxRecDepth 20000 in
theorem gX7_openScope_X6_at : GoodIn wsX7_openScope (wsV RX7 89 RX6 yX6_at wsX6_at) := goodIn_app (goodIn_of _ (by decide +kernel)) ggX7_openScope_X6_at
set_option maxRecDepth 20000 in
theorem ggX7_openScope_X0_behindClosing : GoodIn wsX7_openScope wsX0_behindClosing := goodIn_r _ [113, 114, 115, 116, 112, 117, 118, 119, 16, 17, 18, 19, 20, 120, 121, 122, 123, 124, 125, 126, 127, 128, 129, 130, 198, 199, 192] (by decide +kernel) (by decide +kernel)
set_option maxRecDepth 20000 in
theorem gX7_openScope_X0_behindClosing : GoodIn wsX7_openScope (wsV RX7 252 RX0 yX0_behindClosing wsX0_behindClosing) := goodIn_app (goodIn_of _ (by decide +kernel)) ggX7_openScope_X0_behindClosing
set_option maxRecDepth 20000 in
theorem ggX7_openScope_X8_add : GoodIn wsX7_openScope wsX8_add := goodIn_r _ [135, 136, 137, 138, 139, 140, 141, 142, 143, 144, 145, 146, 83, 84, 18, 85, 20, 156, 157, 158, 159, 160, 161, 162, 163, 164, 165, 166, 192] (by decide +kernel) (by decide +kernel)
set_option maxRecDepth 20000 in
theorem gX7_openScope_X8_add : GoodIn wsX7_openScope (wsV RX7 255 RX8 yX8_add wsX8_add) := goodIn_app (goodIn_of _ (by decide +kernel)) ggX7_openScope_X8_add
set_option maxRecDepth 20000 in
theorem ggX7_openScope_X9_enter : GoodIn wsX7_openScope wsX9_enter := goodIn_r _ [150, 57, 14, 15, 16, 17, 18, 19, 20, 82, 83, 84, 85, 151, 92, 93, 94, 175, 176, 177, 178, 179, 180, 181, 182, 183, 184, 185, 186, 187, 188, 189, 190, 191, 192] (by decide +kernel) (by decide +kernel)
set_option maxRecDepth 20000 in
theorem gX7_openScope_X9_enter : GoodIn wsX7_openScope (wsV RX7 258 RX9 yX9_enter wsX9_enter) := goodIn_app (goodIn_of _ (by decide +kernel)) ggX7_openScope_X9_enter
theorem dX7_openScope_0 : decode cX7_openScope 0 = .ok (.aload_n 0, 1) := by decide +kernel
theorem dX7_openScope_1 : decode cX7_openScope 1 = .ok (.getfield 26, 3) := by decide +kernel
theorem dX7_openScope_4 : decode cX7_openScope 4 = .ok (.getfield 248, 3) := by decide +kernel
theorem dX7_openScope_7 : decode cX7_openScope 7 = .ok (.bipush 60, 2) := by decide +kernel
theorem dX7_openScope_9 : decode cX7_openScope 9 = .ok (.if_icmp .lt 23, 3) := by decide +kernel
theorem dX7_openScope_12 : decode cX7_openScope 12 = .ok (.aload_n 0, 1) := by decide +kernel
theorem dX7_openScope_13 : decode cX7_openScope 13 = .ok (.getfield 9, 3) := by decide +kernel
theorem dX7_openScope_16 : decode cX7_openScope 16 = .ok (.iload_n 1, 1) := by decide +kernel
theorem dX7_openScope_17 : decode cX7_openScope 17 = .ok (.bipush 12, 2) := by decide +kernel
theorem dX7_openScope_19 : decode cX7_openScope 19 = .ok (.iconst (-1), 1) := by decide +kernel
theorem dX7_openScope_20 : decode cX7_openScope 20 = .ok (.aload_n 0, 1) := by decide +kernel
theorem dX7_openScope_21 : decode cX7_openScope 21 = .ok (.getfield 21, 3) := by decide +kernel
theorem dX7_openScope_24 : decode cX7_openScope 24 = .ok (.iload_n 1, 1) := by decide +kernel
theorem dX7_openScope_25 : decode cX7_openScope 25 = .ok (.invokevirtual 156, 3) := by decide +kernel
theorem dX7_openScope_28 : decode cX7_openScope 28 = .ok (.invokevirtual 159, 3) := by decide +kernel
theorem dX7_openScope_31 : decode cX7_openScope 31 = .ok (.return_, 1) := by decide +kernel
theorem dX7_openScope_32 : decode cX7_openScope 32 = .ok (.iload_n 2, 1) := by decide +kernel
theorem dX7_openScope_33 : decode cX7_openScope 33 = .ok (.bipush 123, 2) := by decide +kernel
theorem dX7_openScope_35 : decode cX7_openScope 35 = .ok (.if_icmp .ne 7, 3) := by decide +kernel
theorem dX7_openScope_38 : decode cX7_openScope 38 = .ok (.iconst 2, 1) := by decide +kernel
theorem dX7_openScope_39 : decode cX7_openScope 39 = .ok (.goto 14, 3) := by decide +kernel
theorem dX7_openScope_42 : decode cX7_openScope 42 = .ok (.iload_n 2, 1) := by decide +kernel
theorem dX7_openScope_43 : decode cX7_openScope 43 = .ok (.bipush 91, 2) := by decide +kernel
theorem dX7_openScope_45 : decode cX7_openScope 45 = .ok (.if_icmp .ne 7, 3) := by decide +kernel
theorem dX7_openScope_48 : decode cX7_openScope 48 = .ok (.iconst 1, 1) := by decide +kernel
theorem dX7_openScope_49 : decode cX7_openScope 49 = .ok (.goto 4, 3) := by decide +kernel
theorem dX7_openScope_52 : decode cX7_openScope 52 = .ok (.iconst 0, 1) := by decide +kernel
theorem dX7_openScope_53 : decode cX7_openScope 53 = .ok (.istore 4, 2) := by decide +kernel
theorem dX7_openScope_55 : decode cX7_openScope 55 = .ok (.iload 4, 2) := by decide +kernel
theorem dX7_openScope_57 : decode cX7_openScope 57 = .ok (.iconst 1, 1) := by decide +kernel
theorem dX7_openScope_58 : decode cX7_openScope 58 = .ok (.if_icmp .ne 19, 3) := by decide +kernel
theorem dX7_openScope_61 : decode cX7_openScope 61 = .ok (.aload_n 0, 1) := by decide +kernel
theorem dX7_openScope_62 : decode cX7_openScope 62 = .ok (.getfield 9, 3) := by decide +kernel
theorem dX7_openScope_65 : decode cX7_openScope 65 = .ok (.getfield 60, 3) := by decide +kernel
theorem dX7_openScope_68 : decode cX7_openScope 68 = .ok (.iconst 5, 1) := by decide +kernel
theorem dX7_openScope_69 : decode cX7_openScope 69 = .ok (.invokevirtual 89, 3) := by decide +kernel
theorem dX7_openScope_72 : decode cX7_openScope 72 = .ok (.iload_n 3, 1) := by decide +kernel
theorem dX7_openScope_73 : decode cX7_openScope 73 = .ok (.iadd, 1) := by decide +kernel
theorem dX7_openScope_74 : decode cX7_openScope 74 = .ok (.goto 4, 3) := by decide +kernel
theorem dX7_openScope_77 : decode cX7_openScope 77 = .ok (.iconst (-1), 1) := by decide +kernel
theorem dX7_openScope_78 : decode cX7_openScope 78 = .ok (.istore 5, 2) := by decide +kernel
theorem dX7_openScope_80 : decode cX7_openScope 80 = .ok (.aload_n 0, 1) := by decide +kernel
theorem dX7_openScope_81 : decode cX7_openScope 81 = .ok (.getfield 21, 3) := by decide +kernel
theorem dX7_openScope_84 : decode cX7_openScope 84 = .ok (.getfield 102, 3) := by decide +kernel
theorem dX7_openScope_87 : decode cX7_openScope 87 = .ok (.iload_n 1, 1) := by decide +kernel
theorem dX7_openScope_88 : decode cX7_openScope 88 = .ok (.aload_n 0, 1) := by decide +kernel
theorem dX7_openScope_89 : decode cX7_openScope 89 = .ok (.getfield 21, 3) := by decide +kernel
theorem dX7_openScope_92 : decode cX7_openScope 92 = .ok (.getfield 99, 3) := by decide +kernel
theorem dX7_openScope_95 : decode cX7_openScope 95 = .ok (.iload_n 1, 1) := by decide +kernel
theorem dX7_openScope_96 : decode cX7_openScope 96 = .ok (.invokevirtual 89, 3) := by decide +kernel
theorem dX7_openScope_99 : decode cX7_openScope 99 = .ok (.invokevirtual 252, 3) := by decide +kernel
theorem dX7_openScope_102 : decode cX7_openScope 102 = .ok (.istore 6, 2) := by decide +kernel
theorem dX7_openScope_104 : decode cX7_openScope 104 = .ok (.aload_n 0, 1) := by decide +kernel
theorem dX7_openScope_105 : decode cX7_openScope 105 = .ok (.getfield 21, 3) := by decide +kernel
theorem dX7_openScope_108 : decode cX7_openScope 108 = .ok (.iload_n 1, 1) := by decide +kernel
theorem dX7_openScope_109 : decode cX7_openScope 109 = .ok (.aload_n 0, 1) := by decide +kernel
theorem dX7_openScope_110 : decode cX7_openScope 110 = .ok (.getfield 26, 3) := by decide +kernel
theorem dX7_openScope_113 : decode cX7_openScope 113 = .ok (.iload_n 1, 1) := by decide +kernel
theorem dX7_openScope_114 : decode cX7_openScope 114 = .ok (.aload_n 0, 1) := by decide +kernel
theorem dX7_openScope_115 : decode cX7_openScope 115 = .ok (.getfield 21, 3) := by decide +kernel
theorem dX7_openScope_118 : decode cX7_openScope 118 = .ok (.getfield 86, 3) := by decide +kernel
theorem dX7_openScope_121 : decode cX7_openScope 121 = .ok (.iload_n 1, 1) := by decide +kernel
theorem dX7_openScope_122 : decode cX7_openScope 122 = .ok (.invokevirtual 89, 3) := by decide +kernel
theorem dX7_openScope_125 : decode cX7_openScope 125 = .ok (.iload 4, 2) := by decide +kernel
theorem dX7_openScope_127 : decode cX7_openScope 127 = .ok (.iload 5, 2) := by decide +kernel
theorem dX7_openScope_129 : decode cX7_openScope 129 = .ok (.iload 6, 2) := by decide +kernel
theorem dX7_openScope_131 : decode cX7_openScope 131 = .ok (.invokevirtual 255, 3) := by decide +kernel
theorem dX7_openScope_134 : decode cX7_openScope 134 = .ok (.invokevirtual 258, 3) := by decide +kernel
theorem dX7_openScope_137 : decode cX7_openScope 137 = .ok (.return_, 1) := by decide +kernel
set_option maxRecDepth 20000 in
theorem ggX7_setCleanup_X9_innermost : GoodIn wsX7_setCleanup wsX9_innermost := goodIn_r _ [11, 12, 13, 14, 15, 16, 17, 18, 19, 20, 21, 10, 22, 23, 76, 77, 78, 79, 80, 81, 82, 83, 84, 85, 86, 87, 88, 89, 90, 91, 92, 93] (by decide +kernel) (by decide +kernel)
set_option maxRecDepth 20000 in
theorem gX7_setCleanup_X9_innermost : GoodIn wsX7_setCleanup (wsV RX7 120 RX9 yX9_innermost wsX9_innermost) := goodIn_app (goodIn_of _ (by decide +kernel)) ggX7_setCleanup_X9_innermost
set_option maxRecDepth 20000 in
theorem ggX7_setCleanup_X6_put : GoodIn wsX7_setCleanup wsX6_put := goodIn_r _ [27, 18, 93] (by decide +kernel) (by decide +kernel)
set_option maxRecDepth 20000 in
theorem gX7_setCleanup_X6_put : GoodIn wsX7_setCleanup (wsV RX7 131 RX6 yX6_put wsX6_put) := goodIn_app (goodIn_of _ (by decide +kernel)) ggX7_setCleanup_X6_put
set_option maxRecDepth 20000 in
theorem ggX7_setCleanup_X0_copyList : GoodIn wsX7_setCleanup wsX0_copyList := goodIn_r _ [32, 33, 34, 35, 31, 36, 37, 38, 25, 26, 16, 27, 18, 39, 40, 41, 42, 43, 14, 15, 17, 44, 45, 46, 47, 48, 49, 50, 51, 52, 94, 95, 93] (by decide +kernel) (by decide +kernel)
set_option maxRecDepth 20000 in
theorem gX7_setCleanup_X0_copyList : GoodIn wsX7_setCleanup (wsV RX7 264 RX0 yX0_copyList wsX0_copyList) := goodIn_app (goodIn_of _ (by decide +kernel)) ggX7_setCleanup_X0_copyList
theorem dX7_setCleanup_0 : decode cX7_setCleanup 0 = .ok (.aload_n 0, 1) := by decide +kernel
theorem dX7_setCleanup_1 : decode cX7_setCleanup 1 = .ok (.getfield 21, 3) := by decide +kernel
theorem dX7_setCleanup_4 : decode cX7_setCleanup 4 = .ok (.iload_n 1, 1) := by decide +kernel
theorem dX7_setCleanup_5 : decode cX7_setCleanup 5 = .ok (.invokevirtual 120, 3) := by decide +kernel
theorem dX7_setCleanup_8 : decode cX7_setCleanup 8 = .ok (.istore_n 3, 1) := by decide +kernel
theorem dX7_setCleanup_9 : decode cX7_setCleanup 9 = .ok (.aload_n 0, 1) := by decide +kernel
theorem dX7_setCleanup_10 : decode cX7_setCleanup 10 = .ok (.getfield 26, 3) := by decide +kernel
theorem dX7_setCleanup_13 : decode cX7_setCleanup 13 = .ok (.getfield 206, 3) := by decide +kernel
theorem dX7_setCleanup_16 : decode cX7_setCleanup 16 = .ok (.iload_n 3, 1) := by decide +kernel
theorem dX7_setCleanup_17 : decode cX7_setCleanup 17 = .ok (.iconst 1, 1) := by decide +kernel
theorem dX7_setCleanup_18 : decode cX7_setCleanup 18 = .ok (.invokevirtual 131, 3) := by decide +kernel
theorem dX7_setCleanup_21 : decode cX7_setCleanup 21 = .ok (.aload_n 0, 1) := by decide +kernel
theorem dX7_setCleanup_22 : decode cX7_setCleanup 22 = .ok (.getfield 26, 3) := by decide +kernel
theorem dX7_setCleanup_25 : decode cX7_setCleanup 25 = .ok (.getfield 126, 3) := by decide +kernel
theorem dX7_setCleanup_28 : decode cX7_setCleanup 28 = .ok (.iload_n 3, 1) := by decide +kernel
theorem dX7_setCleanup_29 : decode cX7_setCleanup 29 = .ok (.aload_n 0, 1) := by decide +kernel
theorem dX7_setCleanup_30 : decode cX7_setCleanup 30 = .ok (.getfield 9, 3) := by decide +kernel
theorem dX7_setCleanup_33 : decode cX7_setCleanup 33 = .ok (.getfield 261, 3) := by decide +kernel
theorem dX7_setCleanup_36 : decode cX7_setCleanup 36 = .ok (.iload_n 2, 1) := by decide +kernel
theorem dX7_setCleanup_37 : decode cX7_setCleanup 37 = .ok (.invokevirtual 264, 3) := by decide +kernel
theorem dX7_setCleanup_40 : decode cX7_setCleanup 40 = .ok (.return_, 1) := by decide +kernel
set_option maxRecDepth 20000 in
theorem ggX7_startChild_X9_innermost : GoodIn wsX7_startChild wsX9_innermost := goodIn_r _ [8, 9, 10, 11, 12, 13, 14, 15, 16, 17, 18, 7, 19, 20, 163, 164, 165, 166, 167, 168, 169, 170, 171, 172, 173, 174, 175, 176, 177, 178, 179, 180] (by decide +kernel) (by decide +kernel)
set_option maxRecDepth 20000 in
theorem gX7_startChild_X9_innermost : GoodIn wsX7_startChild (wsV RX7 120 RX9 yX9_innermost wsX9_innermost) := goodIn_app (goodIn_of _ (by decide +kernel)) ggX7_startChild_X9_innermost
set_option maxRecDepth 20000 in
theorem ggX7_startChild_X10_startTask : GoodIn wsX7_startChild wsX10_startTask := goodIn_r _ [25, 26, 27, 28, 29, 30, 31, 32, 33, 7, 34, 35, 36, 37, 38, 9, 39, 40, 41, 42, 43, 44, 45, 13, 46, 15, 47, 48, 49, 50, 51, 52, 53, 54, 55, 56, 57, 58, 59, 60, 61, 62, 63, 64, 65, 66, 67, 68, 69, 11, 12, 14, 70, 71, 72, 73, 74, 75, 76, 77, 78, 79, 80, 81, 82, 83, 84, 85, 181, 182, 183, 184, 185, 186, 187, 188, 163, 164, 165, 166, 167, 168, 169, 170, 171, 172, 173, 174, 175, 176, 177, 178, 179, 180, 189, 190, 191, 192] (by decide +kernel) (by decide +kernel)
set_option maxRecDepth 20000 in
theorem gX7_startChild_X10_startTask : GoodIn wsX7_startChild (wsV RX7 268 RX10 yX10_startTask wsX10_startTask) := goodIn_app (goodIn_of _ (by decide +kernel)) ggX7_startChild_X10_startTask
set_option maxRecDepth 20000 in
theorem ggX7_startChild_X9_innermostLevel : GoodIn wsX7_startChild wsX9_innermostLevel := goodIn_r _ [89, 9, 10, 11, 12, 13, 14, 15, 163, 164, 165, 166, 167, 168, 169, 170, 171, 172, 173, 174, 175, 176, 177, 178, 179, 180] (by decide +kernel) (by decide +kernel)
set_option maxRecDepth 20000 in
theorem gX7_startChild_X9_innermostLevel : GoodIn wsX7_startChild (wsV RX7 156 RX9 yX9_innermostLevel wsX9_innermostLevel) := goodIn_app (goodIn_of _ (by decide +kernel)) ggX7_startChild_X9_innermostLevel
set_option maxRecDepth 20000 in
theorem ggX7_startChild_X10_fail : GoodIn wsX7_startChild wsX10_fail := goodIn_r _ [93, 94, 95, 96, 97, 98, 99, 100, 101, 102, 103, 104, 105, 82, 106, 84, 107, 80, 81, 83, 85, 108, 109, 110, 24, 111, 112, 113, 26, 114, 17, 18, 7, 19, 9, 20, 10, 11, 12, 13, 14, 15, 115, 116, 117, 118, 119, 120, 121, 122, 123, 124, 125, 126, 36, 127, 128, 129, 130, 51, 131, 48, 49, 50, 52, 53, 43, 44, 45, 46, 132, 133, 134, 135, 136, 137, 138, 139, 140, 141, 142, 143, 144, 41, 145, 146, 147, 148, 149, 30, 150, 79, 181, 182, 183, 184, 185, 186, 187, 188, 193, 194, 195, 191, 192, 196, 197, 198, 199, 200, 201, 202, 203, 204, 205, 206, 163, 164, 165, 166, 167, 168, 169, 170, 171, 172, 173, 174, 175, 176, 177, 178, 179, 180] (by decide +kernel) (by decide +kernel)
set_option maxRecDepth 20000 in
theorem gX7_startChild_X10_fail : GoodIn wsX7_startChild (wsV RX7 159 RX10 yX10_fail wsX10_fail) := goodIn_app (goodIn_of _ (by decide +kernel)) ggX7_startChild_X10_fail
set_option maxRecDepth 20000 in
theorem ggX7_startChild_X8_addChild : GoodIn wsX7_startChild wsX8_addChild := goodIn_r _ [155, 156, 157, 158, 138, 139, 13, 140, 15, 196, 197, 198, 199, 200, 201, 202, 203, 204, 205, 206, 180] (by decide +kernel) (by decide +kernel)
set_option maxRecDepth 20000 in
theorem gX7_startChild_X8_addChild : GoodIn wsX7_startChild (wsV RX7 271 RX8 yX8_addChild wsX8_addChild) := goodIn_app (goodIn_of _ (by decide +kernel)) ggX7_startChild_X8_addChild
theorem dX7_startChild_0 : decode cX7_startChild 0 = .ok (.aload_n 0, 1) := by decide +kernel
theorem dX7_startChild_1 : decode cX7_startChild 1 = .ok (.getfield 21, 3) := by decide +kernel
theorem dX7_startChild_4 : decode cX7_startChild 4 = .ok (.iload_n 1, 1) := by decide +kernel
theorem dX7_startChild_5 : decode cX7_startChild 5 = .ok (.invokevirtual 120, 3) := by decide +kernel
theorem dX7_startChild_8 : decode cX7_startChild 8 = .ok (.istore_n 3, 1) := by decide +kernel
theorem dX7_startChild_9 : decode cX7_startChild 9 = .ok (.aload_n 0, 1) := by decide +kernel
theorem dX7_startChild_10 : decode cX7_startChild 10 = .ok (.getfield 9, 3) := by decide +kernel
theorem dX7_startChild_13 : decode cX7_startChild 13 = .ok (.iload_n 2, 1) := by decide +kernel
theorem dX7_startChild_14 : decode cX7_startChild 14 = .ok (.iload_n 3, 1) := by decide +kernel
theorem dX7_startChild_15 : decode cX7_startChild 15 = .ok (.invokevirtual 268, 3) := by decide +kernel
theorem dX7_startChild_18 : decode cX7_startChild 18 = .ok (.iconst (-1), 1) := by decide +kernel
theorem dX7_startChild_19 : decode cX7_startChild 19 = .ok (.if_icmp .ne 25, 3) := by decide +kernel
theorem dX7_startChild_22 : decode cX7_startChild 22 = .ok (.aload_n 0, 1) := by decide +kernel
theorem dX7_startChild_23 : decode cX7_startChild 23 = .ok (.getfield 9, 3) := by decide +kernel
theorem dX7_startChild_26 : decode cX7_startChild 26 = .ok (.iload_n 1, 1) := by decide +kernel
theorem dX7_startChild_27 : decode cX7_startChild 27 = .ok (.bipush 11, 2) := by decide +kernel
theorem dX7_startChild_29 : decode cX7_startChild 29 = .ok (.iconst (-1), 1) := by decide +kernel
theorem dX7_startChild_30 : decode cX7_startChild 30 = .ok (.aload_n 0, 1) := by decide +kernel
theorem dX7_startChild_31 : decode cX7_startChild 31 = .ok (.getfield 21, 3) := by decide +kernel
theorem dX7_startChild_34 : decode cX7_startChild 34 = .ok (.iload_n 1, 1) := by decide +kernel
theorem dX7_startChild_35 : decode cX7_startChild 35 = .ok (.invokevirtual 156, 3) := by decide +kernel
theorem dX7_startChild_38 : decode cX7_startChild 38 = .ok (.invokevirtual 159, 3) := by decide +kernel
theorem dX7_startChild_41 : decode cX7_startChild 41 = .ok (.goto 11, 3) := by decide +kernel
theorem dX7_startChild_44 : decode cX7_startChild 44 = .ok (.aload_n 0, 1) := by decide +kernel
theorem dX7_startChild_45 : decode cX7_startChild 45 = .ok (.getfield 26, 3) := by decide +kernel
theorem dX7_startChild_48 : decode cX7_startChild 48 = .ok (.iload_n 3, 1) := by decide +kernel
theorem dX7_startChild_49 : decode cX7_startChild 49 = .ok (.invokevirtual 271, 3) := by decide +kernel
theorem dX7_startChild_52 : decode cX7_startChild 52 = .ok (.return_, 1) := by decide +kernel
set_option maxRecDepth 20000 in
theorem ggX7_nextTime_X6_at : GoodIn wsX7_nextTime wsX6_at := goodIn_r _ [14, 15, 71] (by decide +kernel) (by decide +kernel)
set_option maxRecDepth 20000 in
theorem gX7_nextTime_X6_at : GoodIn wsX7_nextTime (wsV RX7 89 RX6 yX6_at wsX6_at) := goodIn_app (goodIn_of _ (by decide +kernel)) ggX7_nextTime_X6_at
set_option maxRecDepth 20000 in
theorem ggX7_nextTime_X7_sooner : GoodIn wsX7_nextTime wsX7_sooner := goodIn_r _ [19, 20, 21, 22, 23] (by decide +kernel) (by decide +kernel)
set_option maxRecDepth 20000 in
theorem gX7_nextTime_X7_sooner : GoodIn wsX7_nextTime (va_wsS RX7 278 yX7_sooner wsX7_sooner) := goodIn_app (goodIn_of _ (by decide +kernel)) ggX7_nextTime_X7_sooner
set_option maxRecDepth 20000 in
theorem ggX7_nextTime_X8_hasEnded : GoodIn wsX7_nextTime wsX8_hasEnded := goodIn_r _ [28, 29, 30, 11, 12, 13, 14, 15, 52, 53, 54, 55, 56, 57, 58, 59, 60, 61, 62, 71] (by decide +kernel) (by decide +kernel)
set_option maxRecDepth 20000 in
theorem gX7_nextTime_X8_hasEnded : GoodIn wsX7_nextTime (wsV RX7 281 RX8 yX8_hasEnded wsX8_hasEnded) := goodIn_app (goodIn_of _ (by decide +kernel)) ggX7_nextTime_X8_hasEnded
theorem dX7_nextTime_0 : decode cX7_nextTime 0 = .ok (.iconst (-1), 1) := by decide +kernel
theorem dX7_nextTime_1 : decode cX7_nextTime 1 = .ok (.istore_n 1, 1) := by decide +kernel
theorem dX7_nextTime_2 : decode cX7_nextTime 2 = .ok (.iconst 0, 1) := by decide +kernel
theorem dX7_nextTime_3 : decode cX7_nextTime 3 = .ok (.istore_n 2, 1) := by decide +kernel
theorem dX7_nextTime_4 : decode cX7_nextTime 4 = .ok (.iload_n 2, 1) := by decide +kernel
theorem dX7_nextTime_5 : decode cX7_nextTime 5 = .ok (.aload_n 0, 1) := by decide +kernel
theorem dX7_nextTime_6 : decode cX7_nextTime 6 = .ok (.getfield 21, 3) := by decide +kernel
theorem dX7_nextTime_9 : decode cX7_nextTime 9 = .ok (.getfield 274, 3) := by decide +kernel
theorem dX7_nextTime_12 : decode cX7_nextTime 12 = .ok (.if_icmp .ge 40, 3) := by decide +kernel
theorem dX7_nextTime_15 : decode cX7_nextTime 15 = .ok (.aload_n 0, 1) := by decide +kernel
theorem dX7_nextTime_16 : decode cX7_nextTime 16 = .ok (.getfield 21, 3) := by decide +kernel
theorem dX7_nextTime_19 : decode cX7_nextTime 19 = .ok (.getfield 114, 3) := by decide +kernel
theorem dX7_nextTime_22 : decode cX7_nextTime 22 = .ok (.iload_n 2, 1) := by decide +kernel
theorem dX7_nextTime_23 : decode cX7_nextTime 23 = .ok (.invokevirtual 89, 3) := by decide +kernel
theorem dX7_nextTime_26 : decode cX7_nextTime 26 = .ok (.iconst 1, 1) := by decide +kernel
theorem dX7_nextTime_27 : decode cX7_nextTime 27 = .ok (.if_icmp .ne 19, 3) := by decide +kernel
theorem dX7_nextTime_30 : decode cX7_nextTime 30 = .ok (.iload_n 1, 1) := by decide +kernel
theorem dX7_nextTime_31 : decode cX7_nextTime 31 = .ok (.aload_n 0, 1) := by decide +kernel
theorem dX7_nextTime_32 : decode cX7_nextTime 32 = .ok (.getfield 21, 3) := by decide +kernel
theorem dX7_nextTime_35 : decode cX7_nextTime 35 = .ok (.getfield 275, 3) := by decide +kernel
theorem dX7_nextTime_38 : decode cX7_nextTime 38 = .ok (.iload_n 2, 1) := by decide +kernel
theorem dX7_nextTime_39 : decode cX7_nextTime 39 = .ok (.invokevirtual 89, 3) := by decide +kernel
theorem dX7_nextTime_42 : decode cX7_nextTime 42 = .ok (.invokestatic 278, 3) := by decide +kernel
theorem dX7_nextTime_45 : decode cX7_nextTime 45 = .ok (.istore_n 1, 1) := by decide +kernel
theorem dX7_nextTime_46 : decode cX7_nextTime 46 = .ok (.iinc 2 1, 3) := by decide +kernel
theorem dX7_nextTime_49 : decode cX7_nextTime 49 = .ok (.goto (-45), 3) := by decide +kernel
theorem dX7_nextTime_52 : decode cX7_nextTime 52 = .ok (.iconst 0, 1) := by decide +kernel
theorem dX7_nextTime_53 : decode cX7_nextTime 53 = .ok (.istore_n 2, 1) := by decide +kernel
theorem dX7_nextTime_54 : decode cX7_nextTime 54 = .ok (.iload_n 2, 1) := by decide +kernel
theorem dX7_nextTime_55 : decode cX7_nextTime 55 = .ok (.aload_n 0, 1) := by decide +kernel
theorem dX7_nextTime_56 : decode cX7_nextTime 56 = .ok (.getfield 26, 3) := by decide +kernel
theorem dX7_nextTime_59 : decode cX7_nextTime 59 = .ok (.getfield 248, 3) := by decide +kernel
theorem dX7_nextTime_62 : decode cX7_nextTime 62 = .ok (.if_icmp .ge 61, 3) := by decide +kernel
theorem dX7_nextTime_65 : decode cX7_nextTime 65 = .ok (.aload_n 0, 1) := by decide +kernel
theorem dX7_nextTime_66 : decode cX7_nextTime 66 = .ok (.getfield 26, 3) := by decide +kernel
theorem dX7_nextTime_69 : decode cX7_nextTime 69 = .ok (.iload_n 2, 1) := by decide +kernel
theorem dX7_nextTime_70 : decode cX7_nextTime 70 = .ok (.invokevirtual 281, 3) := by decide +kernel
theorem dX7_nextTime_73 : decode cX7_nextTime 73 = .ok (.ifCond .ne 44, 3) := by decide +kernel
theorem dX7_nextTime_76 : decode cX7_nextTime 76 = .ok (.aload_n 0, 1) := by decide +kernel
theorem dX7_nextTime_77 : decode cX7_nextTime 77 = .ok (.getfield 26, 3) := by decide +kernel
theorem dX7_nextTime_80 : decode cX7_nextTime 80 = .ok (.getfield 284, 3) := by decide +kernel
theorem dX7_nextTime_83 : decode cX7_nextTime 83 = .ok (.iload_n 2, 1) := by decide +kernel
theorem dX7_nextTime_84 : decode cX7_nextTime 84 = .ok (.invokevirtual 89, 3) := by decide +kernel
theorem dX7_nextTime_87 : decode cX7_nextTime 87 = .ok (.aload_n 0, 1) := by decide +kernel
theorem dX7_nextTime_88 : decode cX7_nextTime 88 = .ok (.getfield 9, 3) := by decide +kernel
theorem dX7_nextTime_91 : decode cX7_nextTime 91 = .ok (.getfield 60, 3) := by decide +kernel
theorem dX7_nextTime_94 : decode cX7_nextTime 94 = .ok (.iconst 5, 1) := by decide +kernel
theorem dX7_nextTime_95 : decode cX7_nextTime 95 = .ok (.invokevirtual 89, 3) := by decide +kernel
theorem dX7_nextTime_98 : decode cX7_nextTime 98 = .ok (.if_icmp .le 19, 3) := by decide +kernel
theorem dX7_nextTime_101 : decode cX7_nextTime 101 = .ok (.iload_n 1, 1) := by decide +kernel
theorem dX7_nextTime_102 : decode cX7_nextTime 102 = .ok (.aload_n 0, 1) := by decide +kernel
theorem dX7_nextTime_103 : decode cX7_nextTime 103 = .ok (.getfield 26, 3) := by decide +kernel
theorem dX7_nextTime_106 : decode cX7_nextTime 106 = .ok (.getfield 284, 3) := by decide +kernel
theorem dX7_nextTime_109 : decode cX7_nextTime 109 = .ok (.iload_n 2, 1) := by decide +kernel
theorem dX7_nextTime_110 : decode cX7_nextTime 110 = .ok (.invokevirtual 89, 3) := by decide +kernel
theorem dX7_nextTime_113 : decode cX7_nextTime 113 = .ok (.invokestatic 278, 3) := by decide +kernel
theorem dX7_nextTime_116 : decode cX7_nextTime 116 = .ok (.istore_n 1, 1) := by decide +kernel
theorem dX7_nextTime_117 : decode cX7_nextTime 117 = .ok (.iinc 2 1, 3) := by decide +kernel
theorem dX7_nextTime_120 : decode cX7_nextTime 120 = .ok (.goto (-66), 3) := by decide +kernel
theorem dX7_nextTime_123 : decode cX7_nextTime 123 = .ok (.iload_n 1, 1) := by decide +kernel
theorem dX7_nextTime_124 : decode cX7_nextTime 124 = .ok (.ireturn, 1) := by decide +kernel
theorem dX7_sooner_0 : decode cX7_sooner 0 = .ok (.iload_n 0, 1) := by decide +kernel
theorem dX7_sooner_1 : decode cX7_sooner 1 = .ok (.iconst (-1), 1) := by decide +kernel
theorem dX7_sooner_2 : decode cX7_sooner 2 = .ok (.if_icmp .ne 7, 3) := by decide +kernel
theorem dX7_sooner_5 : decode cX7_sooner 5 = .ok (.iload_n 1, 1) := by decide +kernel
theorem dX7_sooner_6 : decode cX7_sooner 6 = .ok (.goto 8, 3) := by decide +kernel
theorem dX7_sooner_9 : decode cX7_sooner 9 = .ok (.iload_n 0, 1) := by decide +kernel
theorem dX7_sooner_10 : decode cX7_sooner 10 = .ok (.iload_n 1, 1) := by decide +kernel
theorem dX7_sooner_11 : decode cX7_sooner 11 = .ok (.invokestatic 287, 3) := by decide +kernel
theorem dX7_sooner_14 : decode cX7_sooner 14 = .ok (.ireturn, 1) := by decide +kernel
set_option maxRecDepth 20000 in
theorem ggX7_passTime_X7_nextTime : GoodIn wsX7_passTime wsX7_nextTime := goodIn_r _ [7, 8, 9, 10, 11, 12, 13, 14, 1, 2, 15, 16, 17, 18, 19, 20, 21, 22, 6, 23, 24, 25, 26, 27, 28, 29, 30, 31, 32, 33, 34, 109, 110, 111, 112, 121, 122, 123, 124, 125, 126, 127, 128, 129, 130, 131, 132, 133, 134, 135, 136, 137, 138, 139, 140, 141, 142, 143, 144, 145, 146, 147, 148, 113, 114, 115, 116, 117, 118, 119, 120, 149] (by decide +kernel) (by decide +kernel)
set_option maxRecDepth 20000 in
theorem gX7_passTime_X7_nextTime : GoodIn wsX7_passTime (wsV RX7 50 RX7 yX7_nextTime wsX7_nextTime) := goodIn_app (goodIn_of _ (by decide +kernel)) ggX7_passTime_X7_nextTime
set_option maxRecDepth 20000 in
theorem ggX7_passTime_X6_change : GoodIn wsX7_passTime wsX6_change := goodIn_r _ [38, 20, 149] (by decide +kernel) (by decide +kernel)
set_option maxRecDepth 20000 in
theorem gX7_passTime_X6_change : GoodIn wsX7_passTime (wsV RX7 64 RX6 yX6_change wsX6_change) := goodIn_app (goodIn_of _ (by decide +kernel)) ggX7_passTime_X6_change
set_option maxRecDepth 20000 in
theorem ggX7_passTime_X6_put : GoodIn wsX7_passTime wsX6_put := goodIn_r _ [42, 20, 149] (by decide +kernel) (by decide +kernel)
set_option maxRecDepth 20000 in
theorem gX7_passTime_X6_put : GoodIn wsX7_passTime (wsV RX7 131 RX6 yX6_put wsX6_put) := goodIn_app (goodIn_of _ (by decide +kernel)) ggX7_passTime_X6_put
set_option maxRecDepth 20000 in
theorem ggX7_passTime_X7_wakeTasks : GoodIn wsX7_passTime wsX7_wakeTasks := goodIn_r _ [46, 8, 9, 10, 11, 1, 15, 16, 17, 18, 19, 20, 47, 48, 49, 50, 51, 52, 53, 54, 55, 56, 40, 41, 42, 57, 58, 59, 60, 61, 62, 63, 109, 110, 111, 112, 121, 122, 123, 124, 125, 126, 127, 128, 129, 130, 131, 132, 133, 134, 135, 136, 137, 149, 113, 114, 115, 116, 117, 118, 119, 120, 150, 151] (by decide +kernel) (by decide +kernel)
set_option maxRecDepth 20000 in
theorem gX7_passTime_X7_wakeTasks : GoodIn wsX7_passTime (wsV RX7 292 RX7 yX7_wakeTasks wsX7_wakeTasks) := goodIn_app (goodIn_of _ (by decide +kernel)) ggX7_passTime_X7_wakeTasks
set_option maxRecDepth 20000 in
theorem ggX7_passTime_X7_passDeadlines : GoodIn wsX7_passTime wsX7_passDeadlines := goodIn_r _ [67, 12, 13, 14, 1, 2, 68, 69, 70, 28, 29, 30, 31, 32, 33, 34, 16, 17, 18, 19, 20, 15, 35, 36, 37, 38, 71, 72, 73, 50, 74, 52, 53, 75, 76, 77, 78, 79, 80, 81, 82, 83, 84, 85, 86, 87, 88, 89, 90, 91, 92, 93, 94, 95, 96, 40, 41, 42, 97, 98, 99, 100, 101, 102, 103, 104, 105, 106, 107, 108, 48, 49, 51, 54, 55, 56, 57, 58, 59, 60, 61, 62, 63, 109, 110, 111, 112, 138, 139, 140, 141, 142, 143, 144, 145, 146, 147, 148, 113, 114, 115, 116, 117, 118, 119, 120, 149, 121, 122, 123, 124, 125, 126, 127, 128, 129, 130, 131, 132, 133, 134, 135, 136, 137, 150, 151] (by decide +kernel) (by decide +kernel)
set_option maxRecDepth 20000 in
theorem gX7_passTime_X7_passDeadlines : GoodIn wsX7_passTime (wsV RX7 295 RX7 yX7_passDeadlines wsX7_passDeadlines) := goodIn_app (goodIn_of _ (by decide +kernel)) ggX7_passTime_X7_passDeadlines
theorem dX7_passTime_0 : decode cX7_passTime 0 = .ok (.aload_n 0, 1) := by decide +kernel
theorem dX7_passTime_1 : decode cX7_passTime 1 = .ok (.invokevirtual 50, 3) := by decide +kernel
theorem dX7_passTime_4 : decode cX7_passTime 4 = .ok (.istore_n 1, 1) := by decide +kernel
theorem dX7_passTime_5 : decode cX7_passTime 5 = .ok (.iload_n 1, 1) := by decide +kernel
theorem dX7_passTime_6 : decode cX7_passTime 6 = .ok (.iconst (-1), 1) := by decide +kernel
theorem dX7_passTime_7 : decode cX7_passTime 7 = .ok (.if_icmp .ne 5, 3) := by decide +kernel
theorem dX7_passTime_10 : decode cX7_passTime 10 = .ok (.iconst 0, 1) := by decide +kernel
theorem dX7_passTime_11 : decode cX7_passTime 11 = .ok (.ireturn, 1) := by decide +kernel
theorem dX7_passTime_12 : decode cX7_passTime 12 = .ok (.aload_n 0, 1) := by decide +kernel
theorem dX7_passTime_13 : decode cX7_passTime 13 = .ok (.getfield 9, 3) := by decide +kernel
theorem dX7_passTime_16 : decode cX7_passTime 16 = .ok (.getfield 60, 3) := by decide +kernel
theorem dX7_passTime_19 : decode cX7_passTime 19 = .ok (.bipush 6, 2) := by decide +kernel
theorem dX7_passTime_21 : decode cX7_passTime 21 = .ok (.iconst 1, 1) := by decide +kernel
theorem dX7_passTime_22 : decode cX7_passTime 22 = .ok (.invokevirtual 64, 3) := by decide +kernel
theorem dX7_passTime_25 : decode cX7_passTime 25 = .ok (.aload_n 0, 1) := by decide +kernel
theorem dX7_passTime_26 : decode cX7_passTime 26 = .ok (.getfield 9, 3) := by decide +kernel
theorem dX7_passTime_29 : decode cX7_passTime 29 = .ok (.getfield 60, 3) := by decide +kernel
theorem dX7_passTime_32 : decode cX7_passTime 32 = .ok (.bipush 7, 2) := by decide +kernel
theorem dX7_passTime_34 : decode cX7_passTime 34 = .ok (.iconst 1, 1) := by decide +kernel
theorem dX7_passTime_35 : decode cX7_passTime 35 = .ok (.invokevirtual 64, 3) := by decide +kernel
theorem dX7_passTime_38 : decode cX7_passTime 38 = .ok (.aload_n 0, 1) := by decide +kernel
theorem dX7_passTime_39 : decode cX7_passTime 39 = .ok (.getfield 9, 3) := by decide +kernel
theorem dX7_passTime_42 : decode cX7_passTime 42 = .ok (.getfield 60, 3) := by decide +kernel
theorem dX7_passTime_45 : decode cX7_passTime 45 = .ok (.iconst 5, 1) := by decide +kernel
theorem dX7_passTime_46 : decode cX7_passTime 46 = .ok (.iload_n 1, 1) := by decide +kernel
theorem dX7_passTime_47 : decode cX7_passTime 47 = .ok (.invokevirtual 131, 3) := by decide +kernel
theorem dX7_passTime_50 : decode cX7_passTime 50 = .ok (.aload_n 0, 1) := by decide +kernel
theorem dX7_passTime_51 : decode cX7_passTime 51 = .ok (.iload_n 1, 1) := by decide +kernel
theorem dX7_passTime_52 : decode cX7_passTime 52 = .ok (.invokevirtual 292, 3) := by decide +kernel
theorem dX7_passTime_55 : decode cX7_passTime 55 = .ok (.aload_n 0, 1) := by decide +kernel
theorem dX7_passTime_56 : decode cX7_passTime 56 = .ok (.iload_n 1, 1) := by decide +kernel
theorem dX7_passTime_57 : decode cX7_passTime 57 = .ok (.invokevirtual 295, 3) := by decide +kernel
theorem dX7_passTime_60 : decode cX7_passTime 60 = .ok (.iconst 1, 1) := by decide +kernel
theorem dX7_passTime_61 : decode cX7_passTime 61 = .ok (.ireturn, 1) := by decide +kernel
set_option maxRecDepth 20000 in
theorem ggX7_wakeTasks_X6_at : GoodIn wsX7_wakeTasks wsX6_at := goodIn_r _ [10, 11, 53] (by decide +kernel) (by decide +kernel)
set_option maxRecDepth 20000 in
theorem gX7_wakeTasks_X6_at : GoodIn wsX7_wakeTasks (wsV RX7 89 RX6 yX6_at wsX6_at) := goodIn_app (goodIn_of _ (by decide +kernel)) ggX7_wakeTasks_X6_at
set_option maxRecDepth 20000 in
theorem ggX7_wakeTasks_X10_makeReady : GoodIn wsX7_wakeTasks wsX10_makeReady := goodIn_r _ [16, 17, 18, 19, 20, 21, 22, 23, 9, 24, 11, 25, 26, 27, 28, 29, 30, 31, 54, 55, 56, 57, 58, 59, 60, 61, 36, 37, 38, 39, 40, 41, 42, 43, 44, 45, 46, 47, 48, 49, 50, 51, 52, 53, 62, 63] (by decide +kernel) (by decide +kernel)
set_option maxRecDepth 20000 in
theorem gX7_wakeTasks_X10_makeReady : GoodIn wsX7_wakeTasks (wsV RX7 221 RX10 yX10_makeReady wsX10_makeReady) := goodIn_app (goodIn_of _ (by decide +kernel)) ggX7_wakeTasks_X10_makeReady
theorem dX7_wakeTasks_0 : decode cX7_wakeTasks 0 = .ok (.iconst 0, 1) := by decide +kernel
theorem dX7_wakeTasks_1 : decode cX7_wakeTasks 1 = .ok (.istore_n 2, 1) := by decide +kernel
theorem dX7_wakeTasks_2 : decode cX7_wakeTasks 2 = .ok (.iload_n 2, 1) := by decide +kernel
theorem dX7_wakeTasks_3 : decode cX7_wakeTasks 3 = .ok (.aload_n 0, 1) := by decide +kernel
theorem dX7_wakeTasks_4 : decode cX7_wakeTasks 4 = .ok (.getfield 21, 3) := by decide +kernel
theorem dX7_wakeTasks_7 : decode cX7_wakeTasks 7 = .ok (.getfield 274, 3) := by decide +kernel
theorem dX7_wakeTasks_10 : decode cX7_wakeTasks 10 = .ok (.if_icmp .ge 47, 3) := by decide +kernel
theorem dX7_wakeTasks_13 : decode cX7_wakeTasks 13 = .ok (.aload_n 0, 1) := by decide +kernel
theorem dX7_wakeTasks_14 : decode cX7_wakeTasks 14 = .ok (.getfield 21, 3) := by decide +kernel
theorem dX7_wakeTasks_17 : decode cX7_wakeTasks 17 = .ok (.getfield 114, 3) := by decide +kernel
theorem dX7_wakeTasks_20 : decode cX7_wakeTasks 20 = .ok (.iload_n 2, 1) := by decide +kernel
theorem dX7_wakeTasks_21 : decode cX7_wakeTasks 21 = .ok (.invokevirtual 89, 3) := by decide +kernel
theorem dX7_wakeTasks_24 : decode cX7_wakeTasks 24 = .ok (.iconst 1, 1) := by decide +kernel
theorem dX7_wakeTasks_25 : decode cX7_wakeTasks 25 = .ok (.if_icmp .ne 26, 3) := by decide +kernel
theorem dX7_wakeTasks_28 : decode cX7_wakeTasks 28 = .ok (.aload_n 0, 1) := by decide +kernel
theorem dX7_wakeTasks_29 : decode cX7_wakeTasks 29 = .ok (.getfield 21, 3) := by decide +kernel
theorem dX7_wakeTasks_32 : decode cX7_wakeTasks 32 = .ok (.getfield 275, 3) := by decide +kernel
theorem dX7_wakeTasks_35 : decode cX7_wakeTasks 35 = .ok (.iload_n 2, 1) := by decide +kernel
theorem dX7_wakeTasks_36 : decode cX7_wakeTasks 36 = .ok (.invokevirtual 89, 3) := by decide +kernel
theorem dX7_wakeTasks_39 : decode cX7_wakeTasks 39 = .ok (.iload_n 1, 1) := by decide +kernel
theorem dX7_wakeTasks_40 : decode cX7_wakeTasks 40 = .ok (.if_icmp .ne 11, 3) := by decide +kernel
theorem dX7_wakeTasks_43 : decode cX7_wakeTasks 43 = .ok (.aload_n 0, 1) := by decide +kernel
theorem dX7_wakeTasks_44 : decode cX7_wakeTasks 44 = .ok (.getfield 9, 3) := by decide +kernel
theorem dX7_wakeTasks_47 : decode cX7_wakeTasks 47 = .ok (.iload_n 2, 1) := by decide +kernel
theorem dX7_wakeTasks_48 : decode cX7_wakeTasks 48 = .ok (.invokevirtual 221, 3) := by decide +kernel
theorem dX7_wakeTasks_51 : decode cX7_wakeTasks 51 = .ok (.iinc 2 1, 3) := by decide +kernel
theorem dX7_wakeTasks_54 : decode cX7_wakeTasks 54 = .ok (.goto (-52), 3) := by decide +kernel
theorem dX7_wakeTasks_57 : decode cX7_wakeTasks 57 = .ok (.return_, 1) := by decide +kernel
set_option maxRecDepth 20000 in
theorem ggX7_passDeadlines_X8_hasEnded : GoodIn wsX7_passDeadlines wsX8_hasEnded := goodIn_r _ [13, 14, 15, 16, 17, 18, 19, 20, 87, 88, 89, 90, 91, 92, 93, 94, 95, 96, 97, 106] (by decide +kernel) (by decide +kernel)
set_option maxRecDepth 20000 in
theorem gX7_passDeadlines_X8_hasEnded : GoodIn wsX7_passDeadlines (wsV RX7 281 RX8 yX8_hasEnded wsX8_hasEnded) := goodIn_app (goodIn_of _ (by decide +kernel)) ggX7_passDeadlines_X8_hasEnded
set_option maxRecDepth 20000 in
theorem ggX7_passDeadlines_X6_at : GoodIn wsX7_passDeadlines wsX6_at := goodIn_r _ [19, 20, 106] (by decide +kernel) (by decide +kernel)
set_option maxRecDepth 20000 in
theorem gX7_passDeadlines_X6_at : GoodIn wsX7_passDeadlines (wsV RX7 89 RX6 yX6_at wsX6_at) := goodIn_app (goodIn_of _ (by decide +kernel)) ggX7_passDeadlines_X6_at
set_option maxRecDepth 20000 in
theorem ggX7_passDeadlines_X6_change : GoodIn wsX7_passDeadlines wsX6_change := goodIn_r _ [25, 20, 106] (by decide +kernel) (by decide +kernel)
set_option maxRecDepth 20000 in
theorem gX7_passDeadlines_X6_change : GoodIn wsX7_passDeadlines (wsV RX7 64 RX6 yX6_change wsX6_change) := goodIn_app (goodIn_of _ (by decide +kernel)) ggX7_passDeadlines_X6_change
set_option maxRecDepth 20000 in
theorem ggX7_passDeadlines_X10_interrupt : GoodIn wsX7_passDeadlines wsX10_interrupt := goodIn_r _ [30, 31, 32, 33, 34, 35, 36, 37, 38, 39, 40, 41, 16, 17, 18, 19, 20, 42, 43, 44, 45, 46, 47, 48, 49, 50, 51, 52, 53, 54, 55, 56, 57, 58, 59, 60, 29, 61, 62, 63, 23, 24, 25, 64, 65, 66, 67, 68, 69, 70, 71, 72, 73, 74, 75, 76, 77, 78, 79, 80, 81, 82, 98, 99, 100, 101, 102, 103, 104, 105, 107, 108, 109, 110, 111, 112, 113, 114, 115, 116, 117, 118, 119, 120, 121, 122, 123, 106, 124, 125] (by decide +kernel) (by decide +kernel)
set_option maxRecDepth 20000 in
theorem gX7_passDeadlines_X10_interrupt : GoodIn wsX7_passDeadlines (wsV RX7 298 RX10 yX10_interrupt wsX10_interrupt) := goodIn_app (goodIn_of _ (by decide +kernel)) ggX7_passDeadlines_X10_interrupt
theorem dX7_passDeadlines_0 : decode cX7_passDeadlines 0 = .ok (.iconst 0, 1) := by decide +kernel
theorem dX7_passDeadlines_1 : decode cX7_passDeadlines 1 = .ok (.istore_n 2, 1) := by decide +kernel
theorem dX7_passDeadlines_2 : decode cX7_passDeadlines 2 = .ok (.iload_n 2, 1) := by decide +kernel
theorem dX7_passDeadlines_3 : decode cX7_passDeadlines 3 = .ok (.aload_n 0, 1) := by decide +kernel
theorem dX7_passDeadlines_4 : decode cX7_passDeadlines 4 = .ok (.getfield 26, 3) := by decide +kernel
theorem dX7_passDeadlines_7 : decode cX7_passDeadlines 7 = .ok (.getfield 248, 3) := by decide +kernel
theorem dX7_passDeadlines_10 : decode cX7_passDeadlines 10 = .ok (.if_icmp .ge 96, 3) := by decide +kernel
theorem dX7_passDeadlines_13 : decode cX7_passDeadlines 13 = .ok (.aload_n 0, 1) := by decide +kernel
theorem dX7_passDeadlines_14 : decode cX7_passDeadlines 14 = .ok (.getfield 26, 3) := by decide +kernel
theorem dX7_passDeadlines_17 : decode cX7_passDeadlines 17 = .ok (.iload_n 2, 1) := by decide +kernel
theorem dX7_passDeadlines_18 : decode cX7_passDeadlines 18 = .ok (.invokevirtual 281, 3) := by decide +kernel
theorem dX7_passDeadlines_21 : decode cX7_passDeadlines 21 = .ok (.ifCond .ne 79, 3) := by decide +kernel
theorem dX7_passDeadlines_24 : decode cX7_passDeadlines 24 = .ok (.aload_n 0, 1) := by decide +kernel
theorem dX7_passDeadlines_25 : decode cX7_passDeadlines 25 = .ok (.getfield 26, 3) := by decide +kernel
theorem dX7_passDeadlines_28 : decode cX7_passDeadlines 28 = .ok (.getfield 284, 3) := by decide +kernel
theorem dX7_passDeadlines_31 : decode cX7_passDeadlines 31 = .ok (.iload_n 2, 1) := by decide +kernel
theorem dX7_passDeadlines_32 : decode cX7_passDeadlines 32 = .ok (.invokevirtual 89, 3) := by decide +kernel
theorem dX7_passDeadlines_35 : decode cX7_passDeadlines 35 = .ok (.iload_n 1, 1) := by decide +kernel
theorem dX7_passDeadlines_36 : decode cX7_passDeadlines 36 = .ok (.if_icmp .eq 6, 3) := by decide +kernel
theorem dX7_passDeadlines_39 : decode cX7_passDeadlines 39 = .ok (.goto 61, 3) := by decide +kernel
theorem dX7_passDeadlines_42 : decode cX7_passDeadlines 42 = .ok (.aload_n 0, 1) := by decide +kernel
theorem dX7_passDeadlines_43 : decode cX7_passDeadlines 43 = .ok (.getfield 9, 3) := by decide +kernel
theorem dX7_passDeadlines_46 : decode cX7_passDeadlines 46 = .ok (.getfield 60, 3) := by decide +kernel
theorem dX7_passDeadlines_49 : decode cX7_passDeadlines 49 = .ok (.bipush 11, 2) := by decide +kernel
theorem dX7_passDeadlines_51 : decode cX7_passDeadlines 51 = .ok (.iconst 1, 1) := by decide +kernel
theorem dX7_passDeadlines_52 : decode cX7_passDeadlines 52 = .ok (.invokevirtual 64, 3) := by decide +kernel
theorem dX7_passDeadlines_55 : decode cX7_passDeadlines 55 = .ok (.aload_n 0, 1) := by decide +kernel
theorem dX7_passDeadlines_56 : decode cX7_passDeadlines 56 = .ok (.getfield 26, 3) := by decide +kernel
theorem dX7_passDeadlines_59 : decode cX7_passDeadlines 59 = .ok (.getfield 175, 3) := by decide +kernel
theorem dX7_passDeadlines_62 : decode cX7_passDeadlines 62 = .ok (.iload_n 2, 1) := by decide +kernel
theorem dX7_passDeadlines_63 : decode cX7_passDeadlines 63 = .ok (.invokevirtual 89, 3) := by decide +kernel
theorem dX7_passDeadlines_66 : decode cX7_passDeadlines 66 = .ok (.ifCond .ne 34, 3) := by decide +kernel
theorem dX7_passDeadlines_69 : decode cX7_passDeadlines 69 = .ok (.aload_n 0, 1) := by decide +kernel
theorem dX7_passDeadlines_70 : decode cX7_passDeadlines 70 = .ok (.getfield 9, 3) := by decide +kernel
theorem dX7_passDeadlines_73 : decode cX7_passDeadlines 73 = .ok (.aload_n 0, 1) := by decide +kernel
theorem dX7_passDeadlines_74 : decode cX7_passDeadlines 74 = .ok (.getfield 26, 3) := by decide +kernel
theorem dX7_passDeadlines_77 : decode cX7_passDeadlines 77 = .ok (.getfield 215, 3) := by decide +kernel
theorem dX7_passDeadlines_80 : decode cX7_passDeadlines 80 = .ok (.iload_n 2, 1) := by decide +kernel
theorem dX7_passDeadlines_81 : decode cX7_passDeadlines 81 = .ok (.invokevirtual 89, 3) := by decide +kernel
theorem dX7_passDeadlines_84 : decode cX7_passDeadlines 84 = .ok (.iconst 2, 1) := by decide +kernel
theorem dX7_passDeadlines_85 : decode cX7_passDeadlines 85 = .ok (.aload_n 0, 1) := by decide +kernel
theorem dX7_passDeadlines_86 : decode cX7_passDeadlines 86 = .ok (.getfield 26, 3) := by decide +kernel
theorem dX7_passDeadlines_89 : decode cX7_passDeadlines 89 = .ok (.getfield 185, 3) := by decide +kernel
theorem dX7_passDeadlines_92 : decode cX7_passDeadlines 92 = .ok (.iload_n 2, 1) := by decide +kernel
theorem dX7_passDeadlines_93 : decode cX7_passDeadlines 93 = .ok (.invokevirtual 89, 3) := by decide +kernel
theorem dX7_passDeadlines_96 : decode cX7_passDeadlines 96 = .ok (.iconst (-1), 1) := by decide +kernel
theorem dX7_passDeadlines_97 : decode cX7_passDeadlines 97 = .ok (.invokevirtual 298, 3) := by decide +kernel
theorem dX7_passDeadlines_100 : decode cX7_passDeadlines 100 = .ok (.iinc 2 1, 3) := by decide +kernel
theorem dX7_passDeadlines_103 : decode cX7_passDeadlines 103 = .ok (.goto (-101), 3) := by decide +kernel
theorem dX7_passDeadlines_106 : decode cX7_passDeadlines 106 = .ok (.return_, 1) := by decide +kernel
set_option maxRecDepth 20000 in
theorem ggX8_init_X6_init : GoodIn wsX8_init wsX6_init := goodIn_r _ [22, 23, 2, 3, 24, 25, 26, 27, 28, 29, 38] (by decide +kernel) (by decide +kernel)
set_option maxRecDepth 20000 in
theorem gX8_init_X6_init : GoodIn wsX8_init (wsX6_init) := ggX8_init_X6_init
set_option maxRecDepth 20000 in
theorem ggX8_init_X0_init : GoodIn wsX8_init wsX0_init := goodIn_r _ [32, 33, 2, 3, 34, 5, 6, 35, 36, 37, 21, 22, 23, 24, 25, 26, 27, 28, 29, 38, 50, 51] (by decide +kernel) (by decide +kernel)
set_option maxRecDepth 20000 in
theorem gX8_init_X0_init : GoodIn wsX8_init (wsX0_init) := ggX8_init_X0_init
theorem dX8_init_0 : decode cX8_init 0 = .ok (.aload_n 0, 1) := by decide +kernel
theorem dX8_init_1 : decode cX8_init 1 = .ok (.invokespecial 3, 3) := by decide +kernel
theorem dX8_init_4 : decode cX8_init 4 = .ok (.aload_n 0, 1) := by decide +kernel
theorem dX8_init_5 : decode cX8_init 5 = .ok (.new 9, 3) := by decide +kernel
theorem dX8_init_8 : decode cX8_init 8 = .ok (.dup, 1) := by decide +kernel
theorem dX8_init_9 : decode cX8_init 9 = .ok (.bipush 60, 2) := by decide +kernel
theorem dX8_init_11 : decode cX8_init 11 = .ok (.invokespecial 11, 3) := by decide +kernel
theorem dX8_init_14 : decode cX8_init 14 = .ok (.putfield 14, 3) := by decide +kernel
theorem dX8_init_17 : decode cX8_init 17 = .ok (.aload_n 0, 1) := by decide +kernel
theorem dX8_init_18 : decode cX8_init 18 = .ok (.new 9, 3) := by decide +kernel
theorem dX8_init_21 : decode cX8_init 21 = .ok (.dup, 1) := by decide +kernel
theorem dX8_init_22 : decode cX8_init 22 = .ok (.bipush 60, 2) := by decide +kernel
theorem dX8_init_24 : decode cX8_init 24 = .ok (.invokespecial 11, 3) := by decide +kernel
theorem dX8_init_27 : decode cX8_init 27 = .ok (.putfield 20, 3) := by decide +kernel
theorem dX8_init_30 : decode cX8_init 30 = .ok (.aload_n 0, 1) := by decide +kernel
theorem dX8_init_31 : decode cX8_init 31 = .ok (.new 9, 3) := by decide +kernel
theorem dX8_init_34 : decode cX8_init 34 = .ok (.dup, 1) := by decide +kernel
theorem dX8_init_35 : decode cX8_init 35 = .ok (.bipush 60, 2) := by decide +kernel
theorem dX8_init_37 : decode cX8_init 37 = .ok (.invokespecial 11, 3) := by decide +kernel
theorem dX8_init_40 : decode cX8_init 40 = .ok (.putfield 23, 3) := by decide +kernel
theorem dX8_init_43 : decode cX8_init 43 = .ok (.aload_n 0, 1) := by decide +kernel
theorem dX8_init_44 : decode cX8_init 44 = .ok (.new 9, 3) := by decide +kernel
theorem dX8_init_47 : decode cX8_init 47 = .ok (.dup, 1) := by decide +kernel
theorem dX8_init_48 : decode cX8_init 48 = .ok (.bipush 60, 2) := by decide +kernel
theorem dX8_init_50 : decode cX8_init 50 = .ok (.invokespecial 11, 3) := by decide +kernel
theorem dX8_init_53 : decode cX8_init 53 = .ok (.putfield 26, 3) := by decide +kernel
theorem dX8_init_56 : decode cX8_init 56 = .ok (.aload_n 0, 1) := by decide +kernel
theorem dX8_init_57 : decode cX8_init 57 = .ok (.new 9, 3) := by decide +kernel
theorem dX8_init_60 : decode cX8_init 60 = .ok (.dup, 1) := by decide +kernel
theorem dX8_init_61 : decode cX8_init 61 = .ok (.bipush 60, 2) := by decide +kernel
theorem dX8_init_63 : decode cX8_init 63 = .ok (.invokespecial 11, 3) := by decide +kernel
theorem dX8_init_66 : decode cX8_init 66 = .ok (.putfield 29, 3) := by decide +kernel
theorem dX8_init_69 : decode cX8_init 69 = .ok (.aload_n 0, 1) := by decide +kernel
theorem dX8_init_70 : decode cX8_init 70 = .ok (.new 9, 3) := by decide +kernel
theorem dX8_init_73 : decode cX8_init 73 = .ok (.dup, 1) := by decide +kernel
theorem dX8_init_74 : decode cX8_init 74 = .ok (.bipush 60, 2) := by decide +kernel
theorem dX8_init_76 : decode cX8_init 76 = .ok (.invokespecial 11, 3) := by decide +kernel
theorem dX8_init_79 : decode cX8_init 79 = .ok (.putfield 32, 3) := by decide +kernel
theorem dX8_init_82 : decode cX8_init 82 = .ok (.aload_n 0, 1) := by decide +kernel
theorem dX8_init_83 : decode cX8_init 83 = .ok (.new 9, 3) := by decide +kernel
theorem dX8_init_86 : decode cX8_init 86 = .ok (.dup, 1) := by decide +kernel
theorem dX8_init_87 : decode cX8_init 87 = .ok (.bipush 60, 2) := by decide +kernel
theorem dX8_init_89 : decode cX8_init 89 = .ok (.invokespecial 11, 3) := by decide +kernel
theorem dX8_init_92 : decode cX8_init 92 = .ok (.putfield 35, 3) := by decide +kernel
theorem dX8_init_95 : decode cX8_init 95 = .ok (.aload_n 0, 1) := by decide +kernel
theorem dX8_init_96 : decode cX8_init 96 = .ok (.new 9, 3) := by decide +kernel
theorem dX8_init_99 : decode cX8_init 99 = .ok (.dup, 1) := by decide +kernel
theorem dX8_init_100 : decode cX8_init 100 = .ok (.bipush 60, 2) := by decide +kernel
theorem dX8_init_102 : decode cX8_init 102 = .ok (.invokespecial 11, 3) := by decide +kernel
theorem dX8_init_105 : decode cX8_init 105 = .ok (.putfield 38, 3) := by decide +kernel
theorem dX8_init_108 : decode cX8_init 108 = .ok (.aload_n 0, 1) := by decide +kernel
theorem dX8_init_109 : decode cX8_init 109 = .ok (.new 9, 3) := by decide +kernel
theorem dX8_init_112 : decode cX8_init 112 = .ok (.dup, 1) := by decide +kernel
theorem dX8_init_113 : decode cX8_init 113 = .ok (.bipush 60, 2) := by decide +kernel
theorem dX8_init_115 : decode cX8_init 115 = .ok (.invokespecial 11, 3) := by decide +kernel
theorem dX8_init_118 : decode cX8_init 118 = .ok (.putfield 41, 3) := by decide +kernel
theorem dX8_init_121 : decode cX8_init 121 = .ok (.aload_n 0, 1) := by decide +kernel
theorem dX8_init_122 : decode cX8_init 122 = .ok (.new 44, 3) := by decide +kernel
theorem dX8_init_125 : decode cX8_init 125 = .ok (.dup, 1) := by decide +kernel
theorem dX8_init_126 : decode cX8_init 126 = .ok (.bipush 60, 2) := by decide +kernel
theorem dX8_init_128 : decode cX8_init 128 = .ok (.invokespecial 46, 3) := by decide +kernel
theorem dX8_init_131 : decode cX8_init 131 = .ok (.putfield 47, 3) := by decide +kernel
theorem dX8_init_134 : decode cX8_init 134 = .ok (.return_, 1) := by decide +kernel
theorem dX8_has_0 : decode cX8_has 0 = .ok (.iload_n 1, 1) := by decide +kernel
theorem dX8_has_1 : decode cX8_has 1 = .ok (.ifCond .lt 15, 3) := by decide +kernel
theorem dX8_has_4 : decode cX8_has 4 = .ok (.iload_n 1, 1) := by decide +kernel
theorem dX8_has_5 : decode cX8_has 5 = .ok (.aload_n 0, 1) := by decide +kernel
theorem dX8_has_6 : decode cX8_has 6 = .ok (.getfield 51, 3) := by decide +kernel
theorem dX8_has_9 : decode cX8_has 9 = .ok (.if_icmp .ge 7, 3) := by decide +kernel
theorem dX8_has_12 : decode cX8_has 12 = .ok (.iconst 1, 1) := by decide +kernel
theorem dX8_has_13 : decode cX8_has 13 = .ok (.goto 4, 3) := by decide +kernel
theorem dX8_has_16 : decode cX8_has 16 = .ok (.iconst 0, 1) := by decide +kernel
theorem dX8_has_17 : decode cX8_has 17 = .ok (.ireturn, 1) := by decide +kernel
set_option maxRecDepth 20000 in
theorem ggX8_add_X6_put : GoodIn wsX8_add wsX6_put := goodIn_r _ [15, 16, 28] (by decide +kernel) (by decide +kernel)
set_option maxRecDepth 20000 in
theorem gX8_add_X6_put : GoodIn wsX8_add (wsV RX8 55 RX6 yX6_put wsX6_put) := goodIn_app (goodIn_of _ (by decide +kernel)) ggX8_add_X6_put
