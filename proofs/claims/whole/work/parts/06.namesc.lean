theorem dX8_add_0 : decode cX8_add 0 = .ok (.aload_n 0, 1) := by decide +kernel
theorem dX8_add_1 : decode cX8_add 1 = .ok (.getfield 51, 3) := by decide +kernel
theorem dX8_add_4 : decode cX8_add 4 = .ok (.istore 6, 2) := by decide +kernel
theorem dX8_add_6 : decode cX8_add 6 = .ok (.aload_n 0, 1) := by decide +kernel
theorem dX8_add_7 : decode cX8_add 7 = .ok (.dup, 1) := by decide +kernel
theorem dX8_add_8 : decode cX8_add 8 = .ok (.getfield 51, 3) := by decide +kernel
theorem dX8_add_11 : decode cX8_add 11 = .ok (.iconst 1, 1) := by decide +kernel
theorem dX8_add_12 : decode cX8_add 12 = .ok (.iadd, 1) := by decide +kernel
theorem dX8_add_13 : decode cX8_add 13 = .ok (.putfield 51, 3) := by decide +kernel
theorem dX8_add_16 : decode cX8_add 16 = .ok (.aload_n 0, 1) := by decide +kernel
theorem dX8_add_17 : decode cX8_add 17 = .ok (.getfield 14, 3) := by decide +kernel
theorem dX8_add_20 : decode cX8_add 20 = .ok (.iload 6, 2) := by decide +kernel
theorem dX8_add_22 : decode cX8_add 22 = .ok (.iload_n 1, 1) := by decide +kernel
theorem dX8_add_23 : decode cX8_add 23 = .ok (.invokevirtual 55, 3) := by decide +kernel
theorem dX8_add_26 : decode cX8_add 26 = .ok (.aload_n 0, 1) := by decide +kernel
theorem dX8_add_27 : decode cX8_add 27 = .ok (.getfield 20, 3) := by decide +kernel
theorem dX8_add_30 : decode cX8_add 30 = .ok (.iload 6, 2) := by decide +kernel
theorem dX8_add_32 : decode cX8_add 32 = .ok (.iload_n 2, 1) := by decide +kernel
theorem dX8_add_33 : decode cX8_add 33 = .ok (.invokevirtual 55, 3) := by decide +kernel
theorem dX8_add_36 : decode cX8_add 36 = .ok (.aload_n 0, 1) := by decide +kernel
theorem dX8_add_37 : decode cX8_add 37 = .ok (.getfield 23, 3) := by decide +kernel
theorem dX8_add_40 : decode cX8_add 40 = .ok (.iload 6, 2) := by decide +kernel
theorem dX8_add_42 : decode cX8_add 42 = .ok (.iload_n 3, 1) := by decide +kernel
theorem dX8_add_43 : decode cX8_add 43 = .ok (.invokevirtual 55, 3) := by decide +kernel
theorem dX8_add_46 : decode cX8_add 46 = .ok (.aload_n 0, 1) := by decide +kernel
theorem dX8_add_47 : decode cX8_add 47 = .ok (.getfield 26, 3) := by decide +kernel
theorem dX8_add_50 : decode cX8_add 50 = .ok (.iload 6, 2) := by decide +kernel
theorem dX8_add_52 : decode cX8_add 52 = .ok (.iconst 0, 1) := by decide +kernel
theorem dX8_add_53 : decode cX8_add 53 = .ok (.invokevirtual 55, 3) := by decide +kernel
theorem dX8_add_56 : decode cX8_add 56 = .ok (.aload_n 0, 1) := by decide +kernel
theorem dX8_add_57 : decode cX8_add 57 = .ok (.getfield 29, 3) := by decide +kernel
theorem dX8_add_60 : decode cX8_add 60 = .ok (.iload 6, 2) := by decide +kernel
theorem dX8_add_62 : decode cX8_add 62 = .ok (.iconst 0, 1) := by decide +kernel
theorem dX8_add_63 : decode cX8_add 63 = .ok (.invokevirtual 55, 3) := by decide +kernel
theorem dX8_add_66 : decode cX8_add 66 = .ok (.aload_n 0, 1) := by decide +kernel
theorem dX8_add_67 : decode cX8_add 67 = .ok (.getfield 32, 3) := by decide +kernel
theorem dX8_add_70 : decode cX8_add 70 = .ok (.iload 6, 2) := by decide +kernel
theorem dX8_add_72 : decode cX8_add 72 = .ok (.iconst 0, 1) := by decide +kernel
theorem dX8_add_73 : decode cX8_add 73 = .ok (.invokevirtual 55, 3) := by decide +kernel
theorem dX8_add_76 : decode cX8_add 76 = .ok (.aload_n 0, 1) := by decide +kernel
theorem dX8_add_77 : decode cX8_add 77 = .ok (.getfield 35, 3) := by decide +kernel
theorem dX8_add_80 : decode cX8_add 80 = .ok (.iload 6, 2) := by decide +kernel
theorem dX8_add_82 : decode cX8_add 82 = .ok (.iload 4, 2) := by decide +kernel
theorem dX8_add_84 : decode cX8_add 84 = .ok (.invokevirtual 55, 3) := by decide +kernel
theorem dX8_add_87 : decode cX8_add 87 = .ok (.aload_n 0, 1) := by decide +kernel
theorem dX8_add_88 : decode cX8_add 88 = .ok (.getfield 38, 3) := by decide +kernel
theorem dX8_add_91 : decode cX8_add 91 = .ok (.iload 6, 2) := by decide +kernel
theorem dX8_add_93 : decode cX8_add 93 = .ok (.iconst 0, 1) := by decide +kernel
theorem dX8_add_94 : decode cX8_add 94 = .ok (.invokevirtual 55, 3) := by decide +kernel
theorem dX8_add_97 : decode cX8_add 97 = .ok (.aload_n 0, 1) := by decide +kernel
theorem dX8_add_98 : decode cX8_add 98 = .ok (.getfield 41, 3) := by decide +kernel
theorem dX8_add_101 : decode cX8_add 101 = .ok (.iload 6, 2) := by decide +kernel
theorem dX8_add_103 : decode cX8_add 103 = .ok (.iload 5, 2) := by decide +kernel
theorem dX8_add_105 : decode cX8_add 105 = .ok (.invokevirtual 55, 3) := by decide +kernel
theorem dX8_add_108 : decode cX8_add 108 = .ok (.iload 6, 2) := by decide +kernel
theorem dX8_add_110 : decode cX8_add 110 = .ok (.ireturn, 1) := by decide +kernel
set_option maxRecDepth 20000 in
theorem ggX8_addChild_X6_change : GoodIn wsX8_addChild wsX6_change := goodIn_r _ [7, 8, 20] (by decide +kernel) (by decide +kernel)
set_option maxRecDepth 20000 in
theorem gX8_addChild_X6_change : GoodIn wsX8_addChild (wsV RX8 59 RX6 yX6_change wsX6_change) := goodIn_app (goodIn_of _ (by decide +kernel)) ggX8_addChild_X6_change
theorem dX8_addChild_0 : decode cX8_addChild 0 = .ok (.aload_n 0, 1) := by decide +kernel
theorem dX8_addChild_1 : decode cX8_addChild 1 = .ok (.getfield 29, 3) := by decide +kernel
theorem dX8_addChild_4 : decode cX8_addChild 4 = .ok (.iload_n 1, 1) := by decide +kernel
theorem dX8_addChild_5 : decode cX8_addChild 5 = .ok (.iconst 1, 1) := by decide +kernel
theorem dX8_addChild_6 : decode cX8_addChild 6 = .ok (.invokevirtual 59, 3) := by decide +kernel
theorem dX8_addChild_9 : decode cX8_addChild 9 = .ok (.aload_n 0, 1) := by decide +kernel
theorem dX8_addChild_10 : decode cX8_addChild 10 = .ok (.getfield 32, 3) := by decide +kernel
theorem dX8_addChild_13 : decode cX8_addChild 13 = .ok (.iload_n 1, 1) := by decide +kernel
theorem dX8_addChild_14 : decode cX8_addChild 14 = .ok (.iconst 1, 1) := by decide +kernel
theorem dX8_addChild_15 : decode cX8_addChild 15 = .ok (.invokevirtual 59, 3) := by decide +kernel
theorem dX8_addChild_18 : decode cX8_addChild 18 = .ok (.return_, 1) := by decide +kernel
set_option maxRecDepth 20000 in
theorem ggX8_hasEnded_X6_at : GoodIn wsX8_hasEnded wsX6_at := goodIn_r _ [6, 7, 19] (by decide +kernel) (by decide +kernel)
set_option maxRecDepth 20000 in
theorem gX8_hasEnded_X6_at : GoodIn wsX8_hasEnded (wsV RX8 62 RX6 yX6_at wsX6_at) := goodIn_app (goodIn_of _ (by decide +kernel)) ggX8_hasEnded_X6_at
theorem dX8_hasEnded_0 : decode cX8_hasEnded 0 = .ok (.aload_n 0, 1) := by decide +kernel
theorem dX8_hasEnded_1 : decode cX8_hasEnded 1 = .ok (.getfield 26, 3) := by decide +kernel
theorem dX8_hasEnded_4 : decode cX8_hasEnded 4 = .ok (.iload_n 1, 1) := by decide +kernel
theorem dX8_hasEnded_5 : decode cX8_hasEnded 5 = .ok (.invokevirtual 62, 3) := by decide +kernel
theorem dX8_hasEnded_8 : decode cX8_hasEnded 8 = .ok (.iconst 2, 1) := by decide +kernel
theorem dX8_hasEnded_9 : decode cX8_hasEnded 9 = .ok (.if_icmp .ne 7, 3) := by decide +kernel
theorem dX8_hasEnded_12 : decode cX8_hasEnded 12 = .ok (.iconst 1, 1) := by decide +kernel
theorem dX8_hasEnded_13 : decode cX8_hasEnded 13 = .ok (.goto 4, 3) := by decide +kernel
theorem dX8_hasEnded_16 : decode cX8_hasEnded 16 = .ok (.iconst 0, 1) := by decide +kernel
theorem dX8_hasEnded_17 : decode cX8_hasEnded 17 = .ok (.ireturn, 1) := by decide +kernel
set_option maxRecDepth 20000 in
theorem ggX8_countNotEnded_X8_hasEnded : GoodIn wsX8_countNotEnded wsX8_hasEnded := goodIn_r _ [6, 7, 8, 9, 10, 11, 12, 13, 14, 15, 16, 17, 18, 19, 20, 21, 22, 23, 24, 25] (by decide +kernel) (by decide +kernel)
set_option maxRecDepth 20000 in
theorem gX8_countNotEnded_X8_hasEnded : GoodIn wsX8_countNotEnded (wsV RX8 66 RX8 yX8_hasEnded wsX8_hasEnded) := goodIn_app (goodIn_of _ (by decide +kernel)) ggX8_countNotEnded_X8_hasEnded
theorem dX8_countNotEnded_0 : decode cX8_countNotEnded 0 = .ok (.iconst 0, 1) := by decide +kernel
theorem dX8_countNotEnded_1 : decode cX8_countNotEnded 1 = .ok (.istore_n 1, 1) := by decide +kernel
theorem dX8_countNotEnded_2 : decode cX8_countNotEnded 2 = .ok (.iconst 0, 1) := by decide +kernel
theorem dX8_countNotEnded_3 : decode cX8_countNotEnded 3 = .ok (.istore_n 2, 1) := by decide +kernel
theorem dX8_countNotEnded_4 : decode cX8_countNotEnded 4 = .ok (.iload_n 2, 1) := by decide +kernel
theorem dX8_countNotEnded_5 : decode cX8_countNotEnded 5 = .ok (.aload_n 0, 1) := by decide +kernel
theorem dX8_countNotEnded_6 : decode cX8_countNotEnded 6 = .ok (.getfield 51, 3) := by decide +kernel
theorem dX8_countNotEnded_9 : decode cX8_countNotEnded 9 = .ok (.if_icmp .ge 20, 3) := by decide +kernel
theorem dX8_countNotEnded_12 : decode cX8_countNotEnded 12 = .ok (.aload_n 0, 1) := by decide +kernel
theorem dX8_countNotEnded_13 : decode cX8_countNotEnded 13 = .ok (.iload_n 2, 1) := by decide +kernel
theorem dX8_countNotEnded_14 : decode cX8_countNotEnded 14 = .ok (.invokevirtual 66, 3) := by decide +kernel
theorem dX8_countNotEnded_17 : decode cX8_countNotEnded 17 = .ok (.ifCond .ne 6, 3) := by decide +kernel
theorem dX8_countNotEnded_20 : decode cX8_countNotEnded 20 = .ok (.iinc 1 1, 3) := by decide +kernel
theorem dX8_countNotEnded_23 : decode cX8_countNotEnded 23 = .ok (.iinc 2 1, 3) := by decide +kernel
theorem dX8_countNotEnded_26 : decode cX8_countNotEnded 26 = .ok (.goto (-22), 3) := by decide +kernel
theorem dX8_countNotEnded_29 : decode cX8_countNotEnded 29 = .ok (.iload_n 1, 1) := by decide +kernel
theorem dX8_countNotEnded_30 : decode cX8_countNotEnded 30 = .ok (.ireturn, 1) := by decide +kernel
set_option maxRecDepth 20000 in
theorem ggX8_property_X6_at : GoodIn wsX8_property wsX6_at := goodIn_r _ [13, 14, 26] (by decide +kernel) (by decide +kernel)
set_option maxRecDepth 20000 in
theorem gX8_property_X6_at : GoodIn wsX8_property (wsV RX8 62 RX6 yX6_at wsX6_at) := goodIn_app (goodIn_of _ (by decide +kernel)) ggX8_property_X6_at
theorem dX8_property_0 : decode cX8_property 0 = .ok (.iload_n 2, 1) := by decide +kernel
theorem dX8_property_1 : decode cX8_property 1 = .ok (.tableswitch 106 0 6 #[43, 52, 61, 70, 79, 88, 97], 43) := by decide +kernel
theorem dX8_property_44 : decode cX8_property 44 = .ok (.aload_n 0, 1) := by decide +kernel
theorem dX8_property_45 : decode cX8_property 45 = .ok (.getfield 14, 3) := by decide +kernel
theorem dX8_property_48 : decode cX8_property 48 = .ok (.iload_n 1, 1) := by decide +kernel
theorem dX8_property_49 : decode cX8_property 49 = .ok (.invokevirtual 62, 3) := by decide +kernel
theorem dX8_property_52 : decode cX8_property 52 = .ok (.ireturn, 1) := by decide +kernel
theorem dX8_property_53 : decode cX8_property 53 = .ok (.aload_n 0, 1) := by decide +kernel
theorem dX8_property_54 : decode cX8_property 54 = .ok (.getfield 20, 3) := by decide +kernel
theorem dX8_property_57 : decode cX8_property 57 = .ok (.iload_n 1, 1) := by decide +kernel
theorem dX8_property_58 : decode cX8_property 58 = .ok (.invokevirtual 62, 3) := by decide +kernel
theorem dX8_property_61 : decode cX8_property 61 = .ok (.ireturn, 1) := by decide +kernel
theorem dX8_property_62 : decode cX8_property 62 = .ok (.aload_n 0, 1) := by decide +kernel
theorem dX8_property_63 : decode cX8_property 63 = .ok (.getfield 23, 3) := by decide +kernel
theorem dX8_property_66 : decode cX8_property 66 = .ok (.iload_n 1, 1) := by decide +kernel
theorem dX8_property_67 : decode cX8_property 67 = .ok (.invokevirtual 62, 3) := by decide +kernel
theorem dX8_property_70 : decode cX8_property 70 = .ok (.ireturn, 1) := by decide +kernel
theorem dX8_property_71 : decode cX8_property 71 = .ok (.aload_n 0, 1) := by decide +kernel
theorem dX8_property_72 : decode cX8_property 72 = .ok (.getfield 26, 3) := by decide +kernel
theorem dX8_property_75 : decode cX8_property 75 = .ok (.iload_n 1, 1) := by decide +kernel
theorem dX8_property_76 : decode cX8_property 76 = .ok (.invokevirtual 62, 3) := by decide +kernel
theorem dX8_property_79 : decode cX8_property 79 = .ok (.ireturn, 1) := by decide +kernel
theorem dX8_property_80 : decode cX8_property 80 = .ok (.aload_n 0, 1) := by decide +kernel
theorem dX8_property_81 : decode cX8_property 81 = .ok (.getfield 29, 3) := by decide +kernel
theorem dX8_property_84 : decode cX8_property 84 = .ok (.iload_n 1, 1) := by decide +kernel
theorem dX8_property_85 : decode cX8_property 85 = .ok (.invokevirtual 62, 3) := by decide +kernel
theorem dX8_property_88 : decode cX8_property 88 = .ok (.ireturn, 1) := by decide +kernel
theorem dX8_property_89 : decode cX8_property 89 = .ok (.aload_n 0, 1) := by decide +kernel
theorem dX8_property_90 : decode cX8_property 90 = .ok (.getfield 32, 3) := by decide +kernel
theorem dX8_property_93 : decode cX8_property 93 = .ok (.iload_n 1, 1) := by decide +kernel
theorem dX8_property_94 : decode cX8_property 94 = .ok (.invokevirtual 62, 3) := by decide +kernel
theorem dX8_property_97 : decode cX8_property 97 = .ok (.ireturn, 1) := by decide +kernel
theorem dX8_property_98 : decode cX8_property 98 = .ok (.aload_n 0, 1) := by decide +kernel
theorem dX8_property_99 : decode cX8_property 99 = .ok (.getfield 35, 3) := by decide +kernel
theorem dX8_property_102 : decode cX8_property 102 = .ok (.iload_n 1, 1) := by decide +kernel
theorem dX8_property_103 : decode cX8_property 103 = .ok (.invokevirtual 62, 3) := by decide +kernel
theorem dX8_property_106 : decode cX8_property 106 = .ok (.ireturn, 1) := by decide +kernel
theorem dX8_property_107 : decode cX8_property 107 = .ok (.aload_n 0, 1) := by decide +kernel
theorem dX8_property_108 : decode cX8_property 108 = .ok (.getfield 38, 3) := by decide +kernel
theorem dX8_property_111 : decode cX8_property 111 = .ok (.iload_n 1, 1) := by decide +kernel
theorem dX8_property_112 : decode cX8_property 112 = .ok (.invokevirtual 62, 3) := by decide +kernel
theorem dX8_property_115 : decode cX8_property 115 = .ok (.ireturn, 1) := by decide +kernel
set_option maxRecDepth 20000 in
theorem ggX8_copy_X6_copy : GoodIn wsX8_copy wsX6_copy := goodIn_r _ [16, 17, 18, 19, 20, 21, 22, 23, 24, 25, 45] (by decide +kernel) (by decide +kernel)
set_option maxRecDepth 20000 in
theorem gX8_copy_X6_copy : GoodIn wsX8_copy (wsV RX8 70 RX6 yX6_copy wsX6_copy) := goodIn_app (goodIn_of _ (by decide +kernel)) ggX8_copy_X6_copy
set_option maxRecDepth 20000 in
theorem ggX8_copy_X0_copy : GoodIn wsX8_copy wsX0_copy := goodIn_r _ [30, 31, 32, 33, 13, 14, 15, 16, 17, 18, 19, 20, 21, 22, 23, 24, 25, 46, 47, 45] (by decide +kernel) (by decide +kernel)
set_option maxRecDepth 20000 in
theorem gX8_copy_X0_copy : GoodIn wsX8_copy (wsV RX8 74 RX0 yX0_copy wsX0_copy) := goodIn_app (goodIn_of _ (by decide +kernel)) ggX8_copy_X0_copy
theorem dX8_copy_0 : decode cX8_copy 0 = .ok (.aload_n 0, 1) := by decide +kernel
theorem dX8_copy_1 : decode cX8_copy 1 = .ok (.aload_n 1, 1) := by decide +kernel
theorem dX8_copy_2 : decode cX8_copy 2 = .ok (.getfield 51, 3) := by decide +kernel
theorem dX8_copy_5 : decode cX8_copy 5 = .ok (.putfield 51, 3) := by decide +kernel
theorem dX8_copy_8 : decode cX8_copy 8 = .ok (.aload_n 0, 1) := by decide +kernel
theorem dX8_copy_9 : decode cX8_copy 9 = .ok (.getfield 14, 3) := by decide +kernel
theorem dX8_copy_12 : decode cX8_copy 12 = .ok (.aload_n 1, 1) := by decide +kernel
theorem dX8_copy_13 : decode cX8_copy 13 = .ok (.getfield 14, 3) := by decide +kernel
theorem dX8_copy_16 : decode cX8_copy 16 = .ok (.invokevirtual 70, 3) := by decide +kernel
theorem dX8_copy_19 : decode cX8_copy 19 = .ok (.aload_n 0, 1) := by decide +kernel
theorem dX8_copy_20 : decode cX8_copy 20 = .ok (.getfield 20, 3) := by decide +kernel
theorem dX8_copy_23 : decode cX8_copy 23 = .ok (.aload_n 1, 1) := by decide +kernel
theorem dX8_copy_24 : decode cX8_copy 24 = .ok (.getfield 20, 3) := by decide +kernel
theorem dX8_copy_27 : decode cX8_copy 27 = .ok (.invokevirtual 70, 3) := by decide +kernel
theorem dX8_copy_30 : decode cX8_copy 30 = .ok (.aload_n 0, 1) := by decide +kernel
theorem dX8_copy_31 : decode cX8_copy 31 = .ok (.getfield 23, 3) := by decide +kernel
theorem dX8_copy_34 : decode cX8_copy 34 = .ok (.aload_n 1, 1) := by decide +kernel
theorem dX8_copy_35 : decode cX8_copy 35 = .ok (.getfield 23, 3) := by decide +kernel
theorem dX8_copy_38 : decode cX8_copy 38 = .ok (.invokevirtual 70, 3) := by decide +kernel
theorem dX8_copy_41 : decode cX8_copy 41 = .ok (.aload_n 0, 1) := by decide +kernel
theorem dX8_copy_42 : decode cX8_copy 42 = .ok (.getfield 26, 3) := by decide +kernel
theorem dX8_copy_45 : decode cX8_copy 45 = .ok (.aload_n 1, 1) := by decide +kernel
theorem dX8_copy_46 : decode cX8_copy 46 = .ok (.getfield 26, 3) := by decide +kernel
theorem dX8_copy_49 : decode cX8_copy 49 = .ok (.invokevirtual 70, 3) := by decide +kernel
theorem dX8_copy_52 : decode cX8_copy 52 = .ok (.aload_n 0, 1) := by decide +kernel
theorem dX8_copy_53 : decode cX8_copy 53 = .ok (.getfield 29, 3) := by decide +kernel
theorem dX8_copy_56 : decode cX8_copy 56 = .ok (.aload_n 1, 1) := by decide +kernel
theorem dX8_copy_57 : decode cX8_copy 57 = .ok (.getfield 29, 3) := by decide +kernel
theorem dX8_copy_60 : decode cX8_copy 60 = .ok (.invokevirtual 70, 3) := by decide +kernel
theorem dX8_copy_63 : decode cX8_copy 63 = .ok (.aload_n 0, 1) := by decide +kernel
theorem dX8_copy_64 : decode cX8_copy 64 = .ok (.getfield 32, 3) := by decide +kernel
theorem dX8_copy_67 : decode cX8_copy 67 = .ok (.aload_n 1, 1) := by decide +kernel
theorem dX8_copy_68 : decode cX8_copy 68 = .ok (.getfield 32, 3) := by decide +kernel
theorem dX8_copy_71 : decode cX8_copy 71 = .ok (.invokevirtual 70, 3) := by decide +kernel
theorem dX8_copy_74 : decode cX8_copy 74 = .ok (.aload_n 0, 1) := by decide +kernel
theorem dX8_copy_75 : decode cX8_copy 75 = .ok (.getfield 35, 3) := by decide +kernel
theorem dX8_copy_78 : decode cX8_copy 78 = .ok (.aload_n 1, 1) := by decide +kernel
theorem dX8_copy_79 : decode cX8_copy 79 = .ok (.getfield 35, 3) := by decide +kernel
theorem dX8_copy_82 : decode cX8_copy 82 = .ok (.invokevirtual 70, 3) := by decide +kernel
theorem dX8_copy_85 : decode cX8_copy 85 = .ok (.aload_n 0, 1) := by decide +kernel
theorem dX8_copy_86 : decode cX8_copy 86 = .ok (.getfield 38, 3) := by decide +kernel
theorem dX8_copy_89 : decode cX8_copy 89 = .ok (.aload_n 1, 1) := by decide +kernel
theorem dX8_copy_90 : decode cX8_copy 90 = .ok (.getfield 38, 3) := by decide +kernel
theorem dX8_copy_93 : decode cX8_copy 93 = .ok (.invokevirtual 70, 3) := by decide +kernel
theorem dX8_copy_96 : decode cX8_copy 96 = .ok (.aload_n 0, 1) := by decide +kernel
theorem dX8_copy_97 : decode cX8_copy 97 = .ok (.getfield 41, 3) := by decide +kernel
theorem dX8_copy_100 : decode cX8_copy 100 = .ok (.aload_n 1, 1) := by decide +kernel
theorem dX8_copy_101 : decode cX8_copy 101 = .ok (.getfield 41, 3) := by decide +kernel
theorem dX8_copy_104 : decode cX8_copy 104 = .ok (.invokevirtual 70, 3) := by decide +kernel
theorem dX8_copy_107 : decode cX8_copy 107 = .ok (.aload_n 0, 1) := by decide +kernel
theorem dX8_copy_108 : decode cX8_copy 108 = .ok (.getfield 47, 3) := by decide +kernel
theorem dX8_copy_111 : decode cX8_copy 111 = .ok (.aload_n 1, 1) := by decide +kernel
theorem dX8_copy_112 : decode cX8_copy 112 = .ok (.getfield 47, 3) := by decide +kernel
theorem dX8_copy_115 : decode cX8_copy 115 = .ok (.invokevirtual 74, 3) := by decide +kernel
theorem dX8_copy_118 : decode cX8_copy 118 = .ok (.return_, 1) := by decide +kernel
set_option maxRecDepth 20000 in
theorem ggX9_init_X6_init : GoodIn wsX9_init wsX6_init := goodIn_r _ [28, 29, 2, 3, 30, 31, 32, 33, 34, 35, 44] (by decide +kernel) (by decide +kernel)
set_option maxRecDepth 20000 in
theorem gX9_init_X6_init : GoodIn wsX9_init (wsX6_init) := ggX9_init_X6_init
set_option maxRecDepth 20000 in
theorem ggX9_init_X0_init : GoodIn wsX9_init wsX0_init := goodIn_r _ [38, 39, 2, 3, 40, 5, 6, 41, 42, 43, 27, 28, 29, 30, 31, 32, 33, 34, 35, 44, 62, 63] (by decide +kernel) (by decide +kernel)
set_option maxRecDepth 20000 in
theorem gX9_init_X0_init : GoodIn wsX9_init (wsX0_init) := ggX9_init_X0_init
theorem dX9_init_0 : decode cX9_init 0 = .ok (.aload_n 0, 1) := by decide +kernel
theorem dX9_init_1 : decode cX9_init 1 = .ok (.invokespecial 3, 3) := by decide +kernel
theorem dX9_init_4 : decode cX9_init 4 = .ok (.aload_n 0, 1) := by decide +kernel
theorem dX9_init_5 : decode cX9_init 5 = .ok (.new 9, 3) := by decide +kernel
theorem dX9_init_8 : decode cX9_init 8 = .ok (.dup, 1) := by decide +kernel
theorem dX9_init_9 : decode cX9_init 9 = .ok (.bipush 24, 2) := by decide +kernel
theorem dX9_init_11 : decode cX9_init 11 = .ok (.invokespecial 11, 3) := by decide +kernel
theorem dX9_init_14 : decode cX9_init 14 = .ok (.putfield 14, 3) := by decide +kernel
theorem dX9_init_17 : decode cX9_init 17 = .ok (.aload_n 0, 1) := by decide +kernel
theorem dX9_init_18 : decode cX9_init 18 = .ok (.new 9, 3) := by decide +kernel
theorem dX9_init_21 : decode cX9_init 21 = .ok (.dup, 1) := by decide +kernel
theorem dX9_init_22 : decode cX9_init 22 = .ok (.bipush 24, 2) := by decide +kernel
theorem dX9_init_24 : decode cX9_init 24 = .ok (.invokespecial 11, 3) := by decide +kernel
theorem dX9_init_27 : decode cX9_init 27 = .ok (.putfield 20, 3) := by decide +kernel
theorem dX9_init_30 : decode cX9_init 30 = .ok (.aload_n 0, 1) := by decide +kernel
theorem dX9_init_31 : decode cX9_init 31 = .ok (.new 9, 3) := by decide +kernel
theorem dX9_init_34 : decode cX9_init 34 = .ok (.dup, 1) := by decide +kernel
theorem dX9_init_35 : decode cX9_init 35 = .ok (.bipush 24, 2) := by decide +kernel
theorem dX9_init_37 : decode cX9_init 37 = .ok (.invokespecial 11, 3) := by decide +kernel
theorem dX9_init_40 : decode cX9_init 40 = .ok (.putfield 23, 3) := by decide +kernel
theorem dX9_init_43 : decode cX9_init 43 = .ok (.aload_n 0, 1) := by decide +kernel
theorem dX9_init_44 : decode cX9_init 44 = .ok (.new 9, 3) := by decide +kernel
theorem dX9_init_47 : decode cX9_init 47 = .ok (.dup, 1) := by decide +kernel
theorem dX9_init_48 : decode cX9_init 48 = .ok (.bipush 24, 2) := by decide +kernel
theorem dX9_init_50 : decode cX9_init 50 = .ok (.invokespecial 11, 3) := by decide +kernel
theorem dX9_init_53 : decode cX9_init 53 = .ok (.putfield 26, 3) := by decide +kernel
theorem dX9_init_56 : decode cX9_init 56 = .ok (.aload_n 0, 1) := by decide +kernel
theorem dX9_init_57 : decode cX9_init 57 = .ok (.new 9, 3) := by decide +kernel
theorem dX9_init_60 : decode cX9_init 60 = .ok (.dup, 1) := by decide +kernel
theorem dX9_init_61 : decode cX9_init 61 = .ok (.bipush 24, 2) := by decide +kernel
theorem dX9_init_63 : decode cX9_init 63 = .ok (.invokespecial 11, 3) := by decide +kernel
theorem dX9_init_66 : decode cX9_init 66 = .ok (.putfield 29, 3) := by decide +kernel
theorem dX9_init_69 : decode cX9_init 69 = .ok (.aload_n 0, 1) := by decide +kernel
theorem dX9_init_70 : decode cX9_init 70 = .ok (.new 9, 3) := by decide +kernel
theorem dX9_init_73 : decode cX9_init 73 = .ok (.dup, 1) := by decide +kernel
theorem dX9_init_74 : decode cX9_init 74 = .ok (.bipush 24, 2) := by decide +kernel
theorem dX9_init_76 : decode cX9_init 76 = .ok (.invokespecial 11, 3) := by decide +kernel
theorem dX9_init_79 : decode cX9_init 79 = .ok (.putfield 32, 3) := by decide +kernel
theorem dX9_init_82 : decode cX9_init 82 = .ok (.aload_n 0, 1) := by decide +kernel
theorem dX9_init_83 : decode cX9_init 83 = .ok (.new 9, 3) := by decide +kernel
theorem dX9_init_86 : decode cX9_init 86 = .ok (.dup, 1) := by decide +kernel
theorem dX9_init_87 : decode cX9_init 87 = .ok (.bipush 24, 2) := by decide +kernel
theorem dX9_init_89 : decode cX9_init 89 = .ok (.invokespecial 11, 3) := by decide +kernel
theorem dX9_init_92 : decode cX9_init 92 = .ok (.putfield 35, 3) := by decide +kernel
theorem dX9_init_95 : decode cX9_init 95 = .ok (.aload_n 0, 1) := by decide +kernel
theorem dX9_init_96 : decode cX9_init 96 = .ok (.new 9, 3) := by decide +kernel
theorem dX9_init_99 : decode cX9_init 99 = .ok (.dup, 1) := by decide +kernel
theorem dX9_init_100 : decode cX9_init 100 = .ok (.bipush 24, 2) := by decide +kernel
theorem dX9_init_102 : decode cX9_init 102 = .ok (.invokespecial 11, 3) := by decide +kernel
theorem dX9_init_105 : decode cX9_init 105 = .ok (.putfield 38, 3) := by decide +kernel
theorem dX9_init_108 : decode cX9_init 108 = .ok (.aload_n 0, 1) := by decide +kernel
theorem dX9_init_109 : decode cX9_init 109 = .ok (.new 9, 3) := by decide +kernel
theorem dX9_init_112 : decode cX9_init 112 = .ok (.dup, 1) := by decide +kernel
theorem dX9_init_113 : decode cX9_init 113 = .ok (.bipush 24, 2) := by decide +kernel
theorem dX9_init_115 : decode cX9_init 115 = .ok (.invokespecial 11, 3) := by decide +kernel
theorem dX9_init_118 : decode cX9_init 118 = .ok (.putfield 41, 3) := by decide +kernel
theorem dX9_init_121 : decode cX9_init 121 = .ok (.aload_n 0, 1) := by decide +kernel
theorem dX9_init_122 : decode cX9_init 122 = .ok (.new 9, 3) := by decide +kernel
theorem dX9_init_125 : decode cX9_init 125 = .ok (.dup, 1) := by decide +kernel
theorem dX9_init_126 : decode cX9_init 126 = .ok (.bipush 24, 2) := by decide +kernel
theorem dX9_init_128 : decode cX9_init 128 = .ok (.invokespecial 11, 3) := by decide +kernel
theorem dX9_init_131 : decode cX9_init 131 = .ok (.putfield 44, 3) := by decide +kernel
theorem dX9_init_134 : decode cX9_init 134 = .ok (.aload_n 0, 1) := by decide +kernel
theorem dX9_init_135 : decode cX9_init 135 = .ok (.new 9, 3) := by decide +kernel
theorem dX9_init_138 : decode cX9_init 138 = .ok (.dup, 1) := by decide +kernel
theorem dX9_init_139 : decode cX9_init 139 = .ok (.bipush 24, 2) := by decide +kernel
theorem dX9_init_141 : decode cX9_init 141 = .ok (.invokespecial 11, 3) := by decide +kernel
theorem dX9_init_144 : decode cX9_init 144 = .ok (.putfield 47, 3) := by decide +kernel
theorem dX9_init_147 : decode cX9_init 147 = .ok (.aload_n 0, 1) := by decide +kernel
theorem dX9_init_148 : decode cX9_init 148 = .ok (.new 9, 3) := by decide +kernel
theorem dX9_init_151 : decode cX9_init 151 = .ok (.dup, 1) := by decide +kernel
theorem dX9_init_152 : decode cX9_init 152 = .ok (.bipush 24, 2) := by decide +kernel
theorem dX9_init_154 : decode cX9_init 154 = .ok (.invokespecial 11, 3) := by decide +kernel
theorem dX9_init_157 : decode cX9_init 157 = .ok (.putfield 50, 3) := by decide +kernel
theorem dX9_init_160 : decode cX9_init 160 = .ok (.aload_n 0, 1) := by decide +kernel
theorem dX9_init_161 : decode cX9_init 161 = .ok (.new 9, 3) := by decide +kernel
theorem dX9_init_164 : decode cX9_init 164 = .ok (.dup, 1) := by decide +kernel
theorem dX9_init_165 : decode cX9_init 165 = .ok (.bipush 24, 2) := by decide +kernel
theorem dX9_init_167 : decode cX9_init 167 = .ok (.invokespecial 11, 3) := by decide +kernel
theorem dX9_init_170 : decode cX9_init 170 = .ok (.putfield 53, 3) := by decide +kernel
theorem dX9_init_173 : decode cX9_init 173 = .ok (.aload_n 0, 1) := by decide +kernel
theorem dX9_init_174 : decode cX9_init 174 = .ok (.new 9, 3) := by decide +kernel
theorem dX9_init_177 : decode cX9_init 177 = .ok (.dup, 1) := by decide +kernel
theorem dX9_init_178 : decode cX9_init 178 = .ok (.bipush 24, 2) := by decide +kernel
theorem dX9_init_180 : decode cX9_init 180 = .ok (.invokespecial 11, 3) := by decide +kernel
theorem dX9_init_183 : decode cX9_init 183 = .ok (.putfield 56, 3) := by decide +kernel
theorem dX9_init_186 : decode cX9_init 186 = .ok (.aload_n 0, 1) := by decide +kernel
theorem dX9_init_187 : decode cX9_init 187 = .ok (.new 9, 3) := by decide +kernel
theorem dX9_init_190 : decode cX9_init 190 = .ok (.dup, 1) := by decide +kernel
theorem dX9_init_191 : decode cX9_init 191 = .ok (.bipush 120, 2) := by decide +kernel
theorem dX9_init_193 : decode cX9_init 193 = .ok (.invokespecial 11, 3) := by decide +kernel
theorem dX9_init_196 : decode cX9_init 196 = .ok (.putfield 59, 3) := by decide +kernel
theorem dX9_init_199 : decode cX9_init 199 = .ok (.aload_n 0, 1) := by decide +kernel
theorem dX9_init_200 : decode cX9_init 200 = .ok (.new 62, 3) := by decide +kernel
theorem dX9_init_203 : decode cX9_init 203 = .ok (.dup, 1) := by decide +kernel
theorem dX9_init_204 : decode cX9_init 204 = .ok (.bipush 24, 2) := by decide +kernel
theorem dX9_init_206 : decode cX9_init 206 = .ok (.invokespecial 64, 3) := by decide +kernel
theorem dX9_init_209 : decode cX9_init 209 = .ok (.putfield 65, 3) := by decide +kernel
theorem dX9_init_212 : decode cX9_init 212 = .ok (.return_, 1) := by decide +kernel
theorem dX9_has_0 : decode cX9_has 0 = .ok (.iload_n 1, 1) := by decide +kernel
theorem dX9_has_1 : decode cX9_has 1 = .ok (.ifCond .lt 15, 3) := by decide +kernel
theorem dX9_has_4 : decode cX9_has 4 = .ok (.iload_n 1, 1) := by decide +kernel
theorem dX9_has_5 : decode cX9_has 5 = .ok (.aload_n 0, 1) := by decide +kernel
theorem dX9_has_6 : decode cX9_has 6 = .ok (.getfield 69, 3) := by decide +kernel
theorem dX9_has_9 : decode cX9_has 9 = .ok (.if_icmp .ge 7, 3) := by decide +kernel
theorem dX9_has_12 : decode cX9_has 12 = .ok (.iconst 1, 1) := by decide +kernel
theorem dX9_has_13 : decode cX9_has 13 = .ok (.goto 4, 3) := by decide +kernel
theorem dX9_has_16 : decode cX9_has 16 = .ok (.iconst 0, 1) := by decide +kernel
theorem dX9_has_17 : decode cX9_has 17 = .ok (.ireturn, 1) := by decide +kernel
set_option maxRecDepth 20000 in
theorem ggX9_add_X6_put : GoodIn wsX9_add wsX6_put := goodIn_r _ [14, 15, 41] (by decide +kernel) (by decide +kernel)
set_option maxRecDepth 20000 in
theorem gX9_add_X6_put : GoodIn wsX9_add (wsV RX9 73 RX6 yX6_put wsX6_put) := goodIn_app (goodIn_of _ (by decide +kernel)) ggX9_add_X6_put
set_option maxRecDepth 20000 in
theorem ggX9_add_X9_giveReason : GoodIn wsX9_add wsX9_giveReason := goodIn_r _ [20, 21, 22, 23, 10, 11, 12, 13, 14, 15, 24, 25, 26, 27, 28, 29, 30, 31, 32, 33, 34, 35, 36, 37, 38, 39, 40, 41] (by decide +kernel) (by decide +kernel)
set_option maxRecDepth 20000 in
theorem gX9_add_X9_giveReason : GoodIn wsX9_add (wsV RX9 77 RX9 yX9_giveReason wsX9_giveReason) := goodIn_app (goodIn_of _ (by decide +kernel)) ggX9_add_X9_giveReason
theorem dX9_add_0 : decode cX9_add 0 = .ok (.aload_n 0, 1) := by decide +kernel
theorem dX9_add_1 : decode cX9_add 1 = .ok (.getfield 69, 3) := by decide +kernel
theorem dX9_add_4 : decode cX9_add 4 = .ok (.istore_n 2, 1) := by decide +kernel
theorem dX9_add_5 : decode cX9_add 5 = .ok (.aload_n 0, 1) := by decide +kernel
theorem dX9_add_6 : decode cX9_add 6 = .ok (.dup, 1) := by decide +kernel
theorem dX9_add_7 : decode cX9_add 7 = .ok (.getfield 69, 3) := by decide +kernel
theorem dX9_add_10 : decode cX9_add 10 = .ok (.iconst 1, 1) := by decide +kernel
theorem dX9_add_11 : decode cX9_add 11 = .ok (.iadd, 1) := by decide +kernel
theorem dX9_add_12 : decode cX9_add 12 = .ok (.putfield 69, 3) := by decide +kernel
theorem dX9_add_15 : decode cX9_add 15 = .ok (.aload_n 0, 1) := by decide +kernel
theorem dX9_add_16 : decode cX9_add 16 = .ok (.getfield 14, 3) := by decide +kernel
theorem dX9_add_19 : decode cX9_add 19 = .ok (.iload_n 2, 1) := by decide +kernel
theorem dX9_add_20 : decode cX9_add 20 = .ok (.iconst 0, 1) := by decide +kernel
theorem dX9_add_21 : decode cX9_add 21 = .ok (.invokevirtual 73, 3) := by decide +kernel
theorem dX9_add_24 : decode cX9_add 24 = .ok (.aload_n 0, 1) := by decide +kernel
theorem dX9_add_25 : decode cX9_add 25 = .ok (.getfield 20, 3) := by decide +kernel
theorem dX9_add_28 : decode cX9_add 28 = .ok (.iload_n 2, 1) := by decide +kernel
theorem dX9_add_29 : decode cX9_add 29 = .ok (.iconst 0, 1) := by decide +kernel
theorem dX9_add_30 : decode cX9_add 30 = .ok (.invokevirtual 73, 3) := by decide +kernel
theorem dX9_add_33 : decode cX9_add 33 = .ok (.aload_n 0, 1) := by decide +kernel
theorem dX9_add_34 : decode cX9_add 34 = .ok (.getfield 23, 3) := by decide +kernel
theorem dX9_add_37 : decode cX9_add 37 = .ok (.iload_n 2, 1) := by decide +kernel
theorem dX9_add_38 : decode cX9_add 38 = .ok (.iconst 0, 1) := by decide +kernel
theorem dX9_add_39 : decode cX9_add 39 = .ok (.invokevirtual 73, 3) := by decide +kernel
theorem dX9_add_42 : decode cX9_add 42 = .ok (.aload_n 0, 1) := by decide +kernel
theorem dX9_add_43 : decode cX9_add 43 = .ok (.getfield 26, 3) := by decide +kernel
theorem dX9_add_46 : decode cX9_add 46 = .ok (.iload_n 2, 1) := by decide +kernel
theorem dX9_add_47 : decode cX9_add 47 = .ok (.iconst 0, 1) := by decide +kernel
theorem dX9_add_48 : decode cX9_add 48 = .ok (.invokevirtual 73, 3) := by decide +kernel
theorem dX9_add_51 : decode cX9_add 51 = .ok (.aload_n 0, 1) := by decide +kernel
theorem dX9_add_52 : decode cX9_add 52 = .ok (.getfield 29, 3) := by decide +kernel
theorem dX9_add_55 : decode cX9_add 55 = .ok (.iload_n 2, 1) := by decide +kernel
theorem dX9_add_56 : decode cX9_add 56 = .ok (.iload_n 1, 1) := by decide +kernel
theorem dX9_add_57 : decode cX9_add 57 = .ok (.invokevirtual 73, 3) := by decide +kernel
theorem dX9_add_60 : decode cX9_add 60 = .ok (.aload_n 0, 1) := by decide +kernel
theorem dX9_add_61 : decode cX9_add 61 = .ok (.getfield 32, 3) := by decide +kernel
theorem dX9_add_64 : decode cX9_add 64 = .ok (.iload_n 2, 1) := by decide +kernel
theorem dX9_add_65 : decode cX9_add 65 = .ok (.iconst 0, 1) := by decide +kernel
theorem dX9_add_66 : decode cX9_add 66 = .ok (.invokevirtual 73, 3) := by decide +kernel
theorem dX9_add_69 : decode cX9_add 69 = .ok (.aload_n 0, 1) := by decide +kernel
theorem dX9_add_70 : decode cX9_add 70 = .ok (.getfield 44, 3) := by decide +kernel
theorem dX9_add_73 : decode cX9_add 73 = .ok (.iload_n 2, 1) := by decide +kernel
theorem dX9_add_74 : decode cX9_add 74 = .ok (.iconst (-1), 1) := by decide +kernel
theorem dX9_add_75 : decode cX9_add 75 = .ok (.invokevirtual 73, 3) := by decide +kernel
theorem dX9_add_78 : decode cX9_add 78 = .ok (.aload_n 0, 1) := by decide +kernel
theorem dX9_add_79 : decode cX9_add 79 = .ok (.getfield 47, 3) := by decide +kernel
theorem dX9_add_82 : decode cX9_add 82 = .ok (.iload_n 2, 1) := by decide +kernel
theorem dX9_add_83 : decode cX9_add 83 = .ok (.iconst (-1), 1) := by decide +kernel
theorem dX9_add_84 : decode cX9_add 84 = .ok (.invokevirtual 73, 3) := by decide +kernel
theorem dX9_add_87 : decode cX9_add 87 = .ok (.aload_n 0, 1) := by decide +kernel
theorem dX9_add_88 : decode cX9_add 88 = .ok (.iload_n 2, 1) := by decide +kernel
theorem dX9_add_89 : decode cX9_add 89 = .ok (.iconst 0, 1) := by decide +kernel
theorem dX9_add_90 : decode cX9_add 90 = .ok (.bipush (-2), 2) := by decide +kernel
theorem dX9_add_92 : decode cX9_add 92 = .ok (.iconst (-1), 1) := by decide +kernel
theorem dX9_add_93 : decode cX9_add 93 = .ok (.invokevirtual 77, 3) := by decide +kernel
theorem dX9_add_96 : decode cX9_add 96 = .ok (.iload_n 2, 1) := by decide +kernel
theorem dX9_add_97 : decode cX9_add 97 = .ok (.ireturn, 1) := by decide +kernel
set_option maxRecDepth 20000 in
theorem ggX9_giveReason_X6_put : GoodIn wsX9_giveReason wsX6_put := goodIn_r _ [8, 9, 27] (by decide +kernel) (by decide +kernel)
set_option maxRecDepth 20000 in
theorem gX9_giveReason_X6_put : GoodIn wsX9_giveReason (wsV RX9 73 RX6 yX6_put wsX6_put) := goodIn_app (goodIn_of _ (by decide +kernel)) ggX9_giveReason_X6_put
theorem dX9_giveReason_0 : decode cX9_giveReason 0 = .ok (.aload_n 0, 1) := by decide +kernel
theorem dX9_giveReason_1 : decode cX9_giveReason 1 = .ok (.getfield 35, 3) := by decide +kernel
theorem dX9_giveReason_4 : decode cX9_giveReason 4 = .ok (.iload_n 1, 1) := by decide +kernel
theorem dX9_giveReason_5 : decode cX9_giveReason 5 = .ok (.iload_n 2, 1) := by decide +kernel
theorem dX9_giveReason_6 : decode cX9_giveReason 6 = .ok (.invokevirtual 73, 3) := by decide +kernel
theorem dX9_giveReason_9 : decode cX9_giveReason 9 = .ok (.aload_n 0, 1) := by decide +kernel
theorem dX9_giveReason_10 : decode cX9_giveReason 10 = .ok (.getfield 38, 3) := by decide +kernel
theorem dX9_giveReason_13 : decode cX9_giveReason 13 = .ok (.iload_n 1, 1) := by decide +kernel
theorem dX9_giveReason_14 : decode cX9_giveReason 14 = .ok (.iload_n 3, 1) := by decide +kernel
theorem dX9_giveReason_15 : decode cX9_giveReason 15 = .ok (.invokevirtual 73, 3) := by decide +kernel
theorem dX9_giveReason_18 : decode cX9_giveReason 18 = .ok (.aload_n 0, 1) := by decide +kernel
theorem dX9_giveReason_19 : decode cX9_giveReason 19 = .ok (.getfield 41, 3) := by decide +kernel
theorem dX9_giveReason_22 : decode cX9_giveReason 22 = .ok (.iload_n 1, 1) := by decide +kernel
theorem dX9_giveReason_23 : decode cX9_giveReason 23 = .ok (.iload 4, 2) := by decide +kernel
theorem dX9_giveReason_25 : decode cX9_giveReason 25 = .ok (.invokevirtual 73, 3) := by decide +kernel
theorem dX9_giveReason_28 : decode cX9_giveReason 28 = .ok (.return_, 1) := by decide +kernel
set_option maxRecDepth 20000 in
theorem ggX9_hasReason_X6_at : GoodIn wsX9_hasReason wsX6_at := goodIn_r _ [6, 7, 25] (by decide +kernel) (by decide +kernel)
set_option maxRecDepth 20000 in
theorem gX9_hasReason_X6_at : GoodIn wsX9_hasReason (wsV RX9 81 RX6 yX6_at wsX6_at) := goodIn_app (goodIn_of _ (by decide +kernel)) ggX9_hasReason_X6_at
theorem dX9_hasReason_0 : decode cX9_hasReason 0 = .ok (.aload_n 0, 1) := by decide +kernel
theorem dX9_hasReason_1 : decode cX9_hasReason 1 = .ok (.getfield 35, 3) := by decide +kernel
theorem dX9_hasReason_4 : decode cX9_hasReason 4 = .ok (.iload_n 1, 1) := by decide +kernel
theorem dX9_hasReason_5 : decode cX9_hasReason 5 = .ok (.invokevirtual 81, 3) := by decide +kernel
theorem dX9_hasReason_8 : decode cX9_hasReason 8 = .ok (.ifCond .eq 7, 3) := by decide +kernel
theorem dX9_hasReason_11 : decode cX9_hasReason 11 = .ok (.iconst 1, 1) := by decide +kernel
theorem dX9_hasReason_12 : decode cX9_hasReason 12 = .ok (.goto 4, 3) := by decide +kernel
theorem dX9_hasReason_15 : decode cX9_hasReason 15 = .ok (.iconst 0, 1) := by decide +kernel
theorem dX9_hasReason_16 : decode cX9_hasReason 16 = .ok (.ireturn, 1) := by decide +kernel
set_option maxRecDepth 20000 in
theorem ggX9_hasEnded_X6_at : GoodIn wsX9_hasEnded wsX6_at := goodIn_r _ [6, 7, 25] (by decide +kernel) (by decide +kernel)
set_option maxRecDepth 20000 in
theorem gX9_hasEnded_X6_at : GoodIn wsX9_hasEnded (wsV RX9 81 RX6 yX6_at wsX6_at) := goodIn_app (goodIn_of _ (by decide +kernel)) ggX9_hasEnded_X6_at
theorem dX9_hasEnded_0 : decode cX9_hasEnded 0 = .ok (.aload_n 0, 1) := by decide +kernel
theorem dX9_hasEnded_1 : decode cX9_hasEnded 1 = .ok (.getfield 14, 3) := by decide +kernel
theorem dX9_hasEnded_4 : decode cX9_hasEnded 4 = .ok (.iload_n 1, 1) := by decide +kernel
theorem dX9_hasEnded_5 : decode cX9_hasEnded 5 = .ok (.invokevirtual 81, 3) := by decide +kernel
theorem dX9_hasEnded_8 : decode cX9_hasEnded 8 = .ok (.bipush 6, 2) := by decide +kernel
theorem dX9_hasEnded_10 : decode cX9_hasEnded 10 = .ok (.if_icmp .lt 7, 3) := by decide +kernel
theorem dX9_hasEnded_13 : decode cX9_hasEnded 13 = .ok (.iconst 1, 1) := by decide +kernel
theorem dX9_hasEnded_14 : decode cX9_hasEnded 14 = .ok (.goto 4, 3) := by decide +kernel
theorem dX9_hasEnded_17 : decode cX9_hasEnded 17 = .ok (.iconst 0, 1) := by decide +kernel
theorem dX9_hasEnded_18 : decode cX9_hasEnded 18 = .ok (.ireturn, 1) := by decide +kernel
set_option maxRecDepth 20000 in
theorem ggX9_executesCleanup_X6_at : GoodIn wsX9_executesCleanup wsX6_at := goodIn_r _ [6, 7, 25] (by decide +kernel) (by decide +kernel)
set_option maxRecDepth 20000 in
theorem gX9_executesCleanup_X6_at : GoodIn wsX9_executesCleanup (wsV RX9 81 RX6 yX6_at wsX6_at) := goodIn_app (goodIn_of _ (by decide +kernel)) ggX9_executesCleanup_X6_at
theorem dX9_executesCleanup_0 : decode cX9_executesCleanup 0 = .ok (.aload_n 0, 1) := by decide +kernel
theorem dX9_executesCleanup_1 : decode cX9_executesCleanup 1 = .ok (.getfield 44, 3) := by decide +kernel
theorem dX9_executesCleanup_4 : decode cX9_executesCleanup 4 = .ok (.iload_n 1, 1) := by decide +kernel
theorem dX9_executesCleanup_5 : decode cX9_executesCleanup 5 = .ok (.invokevirtual 81, 3) := by decide +kernel
theorem dX9_executesCleanup_8 : decode cX9_executesCleanup 8 = .ok (.iconst (-1), 1) := by decide +kernel
theorem dX9_executesCleanup_9 : decode cX9_executesCleanup 9 = .ok (.if_icmp .eq 7, 3) := by decide +kernel
theorem dX9_executesCleanup_12 : decode cX9_executesCleanup 12 = .ok (.iconst 1, 1) := by decide +kernel
theorem dX9_executesCleanup_13 : decode cX9_executesCleanup 13 = .ok (.goto 4, 3) := by decide +kernel
theorem dX9_executesCleanup_16 : decode cX9_executesCleanup 16 = .ok (.iconst 0, 1) := by decide +kernel
theorem dX9_executesCleanup_17 : decode cX9_executesCleanup 17 = .ok (.ireturn, 1) := by decide +kernel
set_option maxRecDepth 20000 in
theorem ggX9_scopeAt_X6_at : GoodIn wsX9_scopeAt wsX6_at := goodIn_r _ [7, 8, 26] (by decide +kernel) (by decide +kernel)
set_option maxRecDepth 20000 in
theorem gX9_scopeAt_X6_at : GoodIn wsX9_scopeAt (wsV RX9 81 RX6 yX6_at wsX6_at) := goodIn_app (goodIn_of _ (by decide +kernel)) ggX9_scopeAt_X6_at
theorem dX9_scopeAt_0 : decode cX9_scopeAt 0 = .ok (.iload_n 2, 1) := by decide +kernel
theorem dX9_scopeAt_1 : decode cX9_scopeAt 1 = .ok (.ifCond .lt 19, 3) := by decide +kernel
theorem dX9_scopeAt_4 : decode cX9_scopeAt 4 = .ok (.iload_n 2, 1) := by decide +kernel
theorem dX9_scopeAt_5 : decode cX9_scopeAt 5 = .ok (.aload_n 0, 1) := by decide +kernel
theorem dX9_scopeAt_6 : decode cX9_scopeAt 6 = .ok (.getfield 26, 3) := by decide +kernel
theorem dX9_scopeAt_9 : decode cX9_scopeAt 9 = .ok (.iload_n 1, 1) := by decide +kernel
theorem dX9_scopeAt_10 : decode cX9_scopeAt 10 = .ok (.invokevirtual 81, 3) := by decide +kernel
theorem dX9_scopeAt_13 : decode cX9_scopeAt 13 = .ok (.if_icmp .ge 7, 3) := by decide +kernel
theorem dX9_scopeAt_16 : decode cX9_scopeAt 16 = .ok (.iconst 1, 1) := by decide +kernel
theorem dX9_scopeAt_17 : decode cX9_scopeAt 17 = .ok (.goto 4, 3) := by decide +kernel
theorem dX9_scopeAt_20 : decode cX9_scopeAt 20 = .ok (.iconst 0, 1) := by decide +kernel
theorem dX9_scopeAt_21 : decode cX9_scopeAt 21 = .ok (.istore_n 3, 1) := by decide +kernel
theorem dX9_scopeAt_22 : decode cX9_scopeAt 22 = .ok (.iload_n 3, 1) := by decide +kernel
theorem dX9_scopeAt_23 : decode cX9_scopeAt 23 = .ok (.ifCond .eq 18, 3) := by decide +kernel
theorem dX9_scopeAt_26 : decode cX9_scopeAt 26 = .ok (.aload_n 0, 1) := by decide +kernel
theorem dX9_scopeAt_27 : decode cX9_scopeAt 27 = .ok (.getfield 59, 3) := by decide +kernel
theorem dX9_scopeAt_30 : decode cX9_scopeAt 30 = .ok (.iload_n 1, 1) := by decide +kernel
theorem dX9_scopeAt_31 : decode cX9_scopeAt 31 = .ok (.iconst 5, 1) := by decide +kernel
theorem dX9_scopeAt_32 : decode cX9_scopeAt 32 = .ok (.imul, 1) := by decide +kernel
theorem dX9_scopeAt_33 : decode cX9_scopeAt 33 = .ok (.iload_n 2, 1) := by decide +kernel
theorem dX9_scopeAt_34 : decode cX9_scopeAt 34 = .ok (.iadd, 1) := by decide +kernel
theorem dX9_scopeAt_35 : decode cX9_scopeAt 35 = .ok (.invokevirtual 81, 3) := by decide +kernel
theorem dX9_scopeAt_38 : decode cX9_scopeAt 38 = .ok (.goto 4, 3) := by decide +kernel
theorem dX9_scopeAt_41 : decode cX9_scopeAt 41 = .ok (.iconst (-1), 1) := by decide +kernel
theorem dX9_scopeAt_42 : decode cX9_scopeAt 42 = .ok (.ireturn, 1) := by decide +kernel
set_option maxRecDepth 20000 in
theorem ggX9_innermostLevel_X6_at : GoodIn wsX9_innermostLevel wsX6_at := goodIn_r _ [6, 7, 25] (by decide +kernel) (by decide +kernel)
set_option maxRecDepth 20000 in
theorem gX9_innermostLevel_X6_at : GoodIn wsX9_innermostLevel (wsV RX9 81 RX6 yX6_at wsX6_at) := goodIn_app (goodIn_of _ (by decide +kernel)) ggX9_innermostLevel_X6_at
theorem dX9_innermostLevel_0 : decode cX9_innermostLevel 0 = .ok (.aload_n 0, 1) := by decide +kernel
theorem dX9_innermostLevel_1 : decode cX9_innermostLevel 1 = .ok (.getfield 26, 3) := by decide +kernel
theorem dX9_innermostLevel_4 : decode cX9_innermostLevel 4 = .ok (.iload_n 1, 1) := by decide +kernel
theorem dX9_innermostLevel_5 : decode cX9_innermostLevel 5 = .ok (.invokevirtual 81, 3) := by decide +kernel
theorem dX9_innermostLevel_8 : decode cX9_innermostLevel 8 = .ok (.iconst 1, 1) := by decide +kernel
theorem dX9_innermostLevel_9 : decode cX9_innermostLevel 9 = .ok (.isub, 1) := by decide +kernel
theorem dX9_innermostLevel_10 : decode cX9_innermostLevel 10 = .ok (.ireturn, 1) := by decide +kernel
set_option maxRecDepth 20000 in
theorem ggX9_innermost_X6_at : GoodIn wsX9_innermost wsX6_at := goodIn_r _ [6, 7, 31] (by decide +kernel) (by decide +kernel)
set_option maxRecDepth 20000 in
theorem gX9_innermost_X6_at : GoodIn wsX9_innermost (wsV RX9 81 RX6 yX6_at wsX6_at) := goodIn_app (goodIn_of _ (by decide +kernel)) ggX9_innermost_X6_at
set_option maxRecDepth 20000 in
theorem ggX9_innermost_X9_scopeAt : GoodIn wsX9_innermost wsX9_scopeAt := goodIn_r _ [12, 1, 13, 2, 3, 4, 5, 6, 7, 14, 15, 16, 17, 18, 19, 20, 21, 22, 23, 24, 25, 26, 27, 28, 29, 30, 31] (by decide +kernel) (by decide +kernel)
set_option maxRecDepth 20000 in
theorem gX9_innermost_X9_scopeAt : GoodIn wsX9_innermost (wsV RX9 85 RX9 yX9_scopeAt wsX9_scopeAt) := goodIn_app (goodIn_of _ (by decide +kernel)) ggX9_innermost_X9_scopeAt
theorem dX9_innermost_0 : decode cX9_innermost 0 = .ok (.aload_n 0, 1) := by decide +kernel
theorem dX9_innermost_1 : decode cX9_innermost 1 = .ok (.iload_n 1, 1) := by decide +kernel
theorem dX9_innermost_2 : decode cX9_innermost 2 = .ok (.aload_n 0, 1) := by decide +kernel
theorem dX9_innermost_3 : decode cX9_innermost 3 = .ok (.getfield 26, 3) := by decide +kernel
theorem dX9_innermost_6 : decode cX9_innermost 6 = .ok (.iload_n 1, 1) := by decide +kernel
theorem dX9_innermost_7 : decode cX9_innermost 7 = .ok (.invokevirtual 81, 3) := by decide +kernel
theorem dX9_innermost_10 : decode cX9_innermost 10 = .ok (.iconst 1, 1) := by decide +kernel
theorem dX9_innermost_11 : decode cX9_innermost 11 = .ok (.isub, 1) := by decide +kernel
theorem dX9_innermost_12 : decode cX9_innermost 12 = .ok (.invokevirtual 85, 3) := by decide +kernel
theorem dX9_innermost_15 : decode cX9_innermost 15 = .ok (.ireturn, 1) := by decide +kernel
set_option maxRecDepth 20000 in
theorem ggX9_enter_X6_at : GoodIn wsX9_enter wsX6_at := goodIn_r _ [7, 8, 34] (by decide +kernel) (by decide +kernel)
set_option maxRecDepth 20000 in
theorem gX9_enter_X6_at : GoodIn wsX9_enter (wsV RX9 81 RX6 yX6_at wsX6_at) := goodIn_app (goodIn_of _ (by decide +kernel)) ggX9_enter_X6_at
set_option maxRecDepth 20000 in
theorem ggX9_enter_X6_put : GoodIn wsX9_enter wsX6_put := goodIn_r _ [12, 8, 34] (by decide +kernel) (by decide +kernel)
set_option maxRecDepth 20000 in
theorem gX9_enter_X6_put : GoodIn wsX9_enter (wsV RX9 73 RX6 yX6_put wsX6_put) := goodIn_app (goodIn_of _ (by decide +kernel)) ggX9_enter_X6_put
set_option maxRecDepth 20000 in
theorem ggX9_enter_X6_change : GoodIn wsX9_enter wsX6_change := goodIn_r _ [16, 8, 34] (by decide +kernel) (by decide +kernel)
set_option maxRecDepth 20000 in
theorem gX9_enter_X6_change : GoodIn wsX9_enter (wsV RX9 89 RX6 yX6_change wsX6_change) := goodIn_app (goodIn_of _ (by decide +kernel)) ggX9_enter_X6_change
theorem dX9_enter_0 : decode cX9_enter 0 = .ok (.aload_n 0, 1) := by decide +kernel
theorem dX9_enter_1 : decode cX9_enter 1 = .ok (.getfield 59, 3) := by decide +kernel
theorem dX9_enter_4 : decode cX9_enter 4 = .ok (.iload_n 1, 1) := by decide +kernel
theorem dX9_enter_5 : decode cX9_enter 5 = .ok (.iconst 5, 1) := by decide +kernel
theorem dX9_enter_6 : decode cX9_enter 6 = .ok (.imul, 1) := by decide +kernel
theorem dX9_enter_7 : decode cX9_enter 7 = .ok (.aload_n 0, 1) := by decide +kernel
theorem dX9_enter_8 : decode cX9_enter 8 = .ok (.getfield 26, 3) := by decide +kernel
theorem dX9_enter_11 : decode cX9_enter 11 = .ok (.iload_n 1, 1) := by decide +kernel
theorem dX9_enter_12 : decode cX9_enter 12 = .ok (.invokevirtual 81, 3) := by decide +kernel
theorem dX9_enter_15 : decode cX9_enter 15 = .ok (.iadd, 1) := by decide +kernel
theorem dX9_enter_16 : decode cX9_enter 16 = .ok (.iload_n 2, 1) := by decide +kernel
theorem dX9_enter_17 : decode cX9_enter 17 = .ok (.invokevirtual 73, 3) := by decide +kernel
theorem dX9_enter_20 : decode cX9_enter 20 = .ok (.aload_n 0, 1) := by decide +kernel
theorem dX9_enter_21 : decode cX9_enter 21 = .ok (.getfield 26, 3) := by decide +kernel
theorem dX9_enter_24 : decode cX9_enter 24 = .ok (.iload_n 1, 1) := by decide +kernel
theorem dX9_enter_25 : decode cX9_enter 25 = .ok (.iconst 1, 1) := by decide +kernel
theorem dX9_enter_26 : decode cX9_enter 26 = .ok (.invokevirtual 89, 3) := by decide +kernel
theorem dX9_enter_29 : decode cX9_enter 29 = .ok (.return_, 1) := by decide +kernel
set_option maxRecDepth 20000 in
theorem ggX9_sleepUntil_X6_put : GoodIn wsX9_sleepUntil wsX6_put := goodIn_r _ [7, 8, 26] (by decide +kernel) (by decide +kernel)
set_option maxRecDepth 20000 in
theorem gX9_sleepUntil_X6_put : GoodIn wsX9_sleepUntil (wsV RX9 73 RX6 yX6_put wsX6_put) := goodIn_app (goodIn_of _ (by decide +kernel)) ggX9_sleepUntil_X6_put
theorem dX9_sleepUntil_0 : decode cX9_sleepUntil 0 = .ok (.aload_n 0, 1) := by decide +kernel
theorem dX9_sleepUntil_1 : decode cX9_sleepUntil 1 = .ok (.getfield 14, 3) := by decide +kernel
theorem dX9_sleepUntil_4 : decode cX9_sleepUntil 4 = .ok (.iload_n 1, 1) := by decide +kernel
theorem dX9_sleepUntil_5 : decode cX9_sleepUntil 5 = .ok (.iconst 1, 1) := by decide +kernel
theorem dX9_sleepUntil_6 : decode cX9_sleepUntil 6 = .ok (.invokevirtual 73, 3) := by decide +kernel
theorem dX9_sleepUntil_9 : decode cX9_sleepUntil 9 = .ok (.aload_n 0, 1) := by decide +kernel
theorem dX9_sleepUntil_10 : decode cX9_sleepUntil 10 = .ok (.getfield 47, 3) := by decide +kernel
theorem dX9_sleepUntil_13 : decode cX9_sleepUntil 13 = .ok (.iload_n 1, 1) := by decide +kernel
theorem dX9_sleepUntil_14 : decode cX9_sleepUntil 14 = .ok (.iload_n 2, 1) := by decide +kernel
theorem dX9_sleepUntil_15 : decode cX9_sleepUntil 15 = .ok (.invokevirtual 73, 3) := by decide +kernel
theorem dX9_sleepUntil_18 : decode cX9_sleepUntil 18 = .ok (.return_, 1) := by decide +kernel
set_option maxRecDepth 20000 in
theorem ggX9_waitFor_X6_put : GoodIn wsX9_waitFor wsX6_put := goodIn_r _ [9, 10, 28] (by decide +kernel) (by decide +kernel)
set_option maxRecDepth 20000 in
theorem gX9_waitFor_X6_put : GoodIn wsX9_waitFor (wsV RX9 73 RX6 yX6_put wsX6_put) := goodIn_app (goodIn_of _ (by decide +kernel)) ggX9_waitFor_X6_put
theorem dX9_waitFor_0 : decode cX9_waitFor 0 = .ok (.aload_n 0, 1) := by decide +kernel
theorem dX9_waitFor_1 : decode cX9_waitFor 1 = .ok (.getfield 14, 3) := by decide +kernel
theorem dX9_waitFor_4 : decode cX9_waitFor 4 = .ok (.iload_n 1, 1) := by decide +kernel
theorem dX9_waitFor_5 : decode cX9_waitFor 5 = .ok (.iload_n 2, 1) := by decide +kernel
theorem dX9_waitFor_6 : decode cX9_waitFor 6 = .ok (.invokevirtual 73, 3) := by decide +kernel
theorem dX9_waitFor_9 : decode cX9_waitFor 9 = .ok (.aload_n 0, 1) := by decide +kernel
theorem dX9_waitFor_10 : decode cX9_waitFor 10 = .ok (.getfield 50, 3) := by decide +kernel
theorem dX9_waitFor_13 : decode cX9_waitFor 13 = .ok (.iload_n 1, 1) := by decide +kernel
theorem dX9_waitFor_14 : decode cX9_waitFor 14 = .ok (.iload_n 3, 1) := by decide +kernel
theorem dX9_waitFor_15 : decode cX9_waitFor 15 = .ok (.invokevirtual 73, 3) := by decide +kernel
theorem dX9_waitFor_18 : decode cX9_waitFor 18 = .ok (.aload_n 0, 1) := by decide +kernel
theorem dX9_waitFor_19 : decode cX9_waitFor 19 = .ok (.getfield 53, 3) := by decide +kernel
theorem dX9_waitFor_22 : decode cX9_waitFor 22 = .ok (.iload_n 1, 1) := by decide +kernel
theorem dX9_waitFor_23 : decode cX9_waitFor 23 = .ok (.iload 4, 2) := by decide +kernel
theorem dX9_waitFor_25 : decode cX9_waitFor 25 = .ok (.invokevirtual 73, 3) := by decide +kernel
theorem dX9_waitFor_28 : decode cX9_waitFor 28 = .ok (.aload_n 0, 1) := by decide +kernel
theorem dX9_waitFor_29 : decode cX9_waitFor 29 = .ok (.getfield 56, 3) := by decide +kernel
theorem dX9_waitFor_32 : decode cX9_waitFor 32 = .ok (.iload_n 1, 1) := by decide +kernel
theorem dX9_waitFor_33 : decode cX9_waitFor 33 = .ok (.iload 5, 2) := by decide +kernel
theorem dX9_waitFor_35 : decode cX9_waitFor 35 = .ok (.invokevirtual 73, 3) := by decide +kernel
theorem dX9_waitFor_38 : decode cX9_waitFor 38 = .ok (.return_, 1) := by decide +kernel
set_option maxRecDepth 20000 in
theorem ggX9_sendsTo_X6_at : GoodIn wsX9_sendsTo wsX6_at := goodIn_r _ [7, 8, 26] (by decide +kernel) (by decide +kernel)
set_option maxRecDepth 20000 in
theorem gX9_sendsTo_X6_at : GoodIn wsX9_sendsTo (wsV RX9 81 RX6 yX6_at wsX6_at) := goodIn_app (goodIn_of _ (by decide +kernel)) ggX9_sendsTo_X6_at
theorem dX9_sendsTo_0 : decode cX9_sendsTo 0 = .ok (.aload_n 0, 1) := by decide +kernel
theorem dX9_sendsTo_1 : decode cX9_sendsTo 1 = .ok (.getfield 14, 3) := by decide +kernel
theorem dX9_sendsTo_4 : decode cX9_sendsTo 4 = .ok (.iload_n 1, 1) := by decide +kernel
theorem dX9_sendsTo_5 : decode cX9_sendsTo 5 = .ok (.invokevirtual 81, 3) := by decide +kernel
theorem dX9_sendsTo_8 : decode cX9_sendsTo 8 = .ok (.iconst 2, 1) := by decide +kernel
theorem dX9_sendsTo_9 : decode cX9_sendsTo 9 = .ok (.if_icmp .ne 19, 3) := by decide +kernel
theorem dX9_sendsTo_12 : decode cX9_sendsTo 12 = .ok (.aload_n 0, 1) := by decide +kernel
theorem dX9_sendsTo_13 : decode cX9_sendsTo 13 = .ok (.getfield 50, 3) := by decide +kernel
theorem dX9_sendsTo_16 : decode cX9_sendsTo 16 = .ok (.iload_n 1, 1) := by decide +kernel
theorem dX9_sendsTo_17 : decode cX9_sendsTo 17 = .ok (.invokevirtual 81, 3) := by decide +kernel
theorem dX9_sendsTo_20 : decode cX9_sendsTo 20 = .ok (.iload_n 2, 1) := by decide +kernel
theorem dX9_sendsTo_21 : decode cX9_sendsTo 21 = .ok (.if_icmp .ne 7, 3) := by decide +kernel
theorem dX9_sendsTo_24 : decode cX9_sendsTo 24 = .ok (.iconst 1, 1) := by decide +kernel
theorem dX9_sendsTo_25 : decode cX9_sendsTo 25 = .ok (.goto 4, 3) := by decide +kernel
theorem dX9_sendsTo_28 : decode cX9_sendsTo 28 = .ok (.iconst 0, 1) := by decide +kernel
theorem dX9_sendsTo_29 : decode cX9_sendsTo 29 = .ok (.ireturn, 1) := by decide +kernel
set_option maxRecDepth 20000 in
theorem ggX9_takesFrom_X6_at : GoodIn wsX9_takesFrom wsX6_at := goodIn_r _ [8, 9, 27] (by decide +kernel) (by decide +kernel)
set_option maxRecDepth 20000 in
theorem gX9_takesFrom_X6_at : GoodIn wsX9_takesFrom (wsV RX9 81 RX6 yX6_at wsX6_at) := goodIn_app (goodIn_of _ (by decide +kernel)) ggX9_takesFrom_X6_at
theorem dX9_takesFrom_0 : decode cX9_takesFrom 0 = .ok (.aload_n 0, 1) := by decide +kernel
theorem dX9_takesFrom_1 : decode cX9_takesFrom 1 = .ok (.getfield 14, 3) := by decide +kernel
theorem dX9_takesFrom_4 : decode cX9_takesFrom 4 = .ok (.iload_n 1, 1) := by decide +kernel
theorem dX9_takesFrom_5 : decode cX9_takesFrom 5 = .ok (.invokevirtual 81, 3) := by decide +kernel
theorem dX9_takesFrom_8 : decode cX9_takesFrom 8 = .ok (.iconst 3, 1) := by decide +kernel
theorem dX9_takesFrom_9 : decode cX9_takesFrom 9 = .ok (.if_icmp .eq 15, 3) := by decide +kernel
theorem dX9_takesFrom_12 : decode cX9_takesFrom 12 = .ok (.aload_n 0, 1) := by decide +kernel
theorem dX9_takesFrom_13 : decode cX9_takesFrom 13 = .ok (.getfield 14, 3) := by decide +kernel
theorem dX9_takesFrom_16 : decode cX9_takesFrom 16 = .ok (.iload_n 1, 1) := by decide +kernel
theorem dX9_takesFrom_17 : decode cX9_takesFrom 17 = .ok (.invokevirtual 81, 3) := by decide +kernel
theorem dX9_takesFrom_20 : decode cX9_takesFrom 20 = .ok (.iconst 4, 1) := by decide +kernel
theorem dX9_takesFrom_21 : decode cX9_takesFrom 21 = .ok (.if_icmp .ne 7, 3) := by decide +kernel
theorem dX9_takesFrom_24 : decode cX9_takesFrom 24 = .ok (.iconst 1, 1) := by decide +kernel
theorem dX9_takesFrom_25 : decode cX9_takesFrom 25 = .ok (.goto 4, 3) := by decide +kernel
theorem dX9_takesFrom_28 : decode cX9_takesFrom 28 = .ok (.iconst 0, 1) := by decide +kernel
theorem dX9_takesFrom_29 : decode cX9_takesFrom 29 = .ok (.istore_n 3, 1) := by decide +kernel
theorem dX9_takesFrom_30 : decode cX9_takesFrom 30 = .ok (.iload_n 3, 1) := by decide +kernel
theorem dX9_takesFrom_31 : decode cX9_takesFrom 31 = .ok (.ifCond .eq 31, 3) := by decide +kernel
theorem dX9_takesFrom_34 : decode cX9_takesFrom 34 = .ok (.aload_n 0, 1) := by decide +kernel
theorem dX9_takesFrom_35 : decode cX9_takesFrom 35 = .ok (.getfield 50, 3) := by decide +kernel
theorem dX9_takesFrom_38 : decode cX9_takesFrom 38 = .ok (.iload_n 1, 1) := by decide +kernel
theorem dX9_takesFrom_39 : decode cX9_takesFrom 39 = .ok (.invokevirtual 81, 3) := by decide +kernel
theorem dX9_takesFrom_42 : decode cX9_takesFrom 42 = .ok (.iload_n 2, 1) := by decide +kernel
theorem dX9_takesFrom_43 : decode cX9_takesFrom 43 = .ok (.if_icmp .eq 15, 3) := by decide +kernel
theorem dX9_takesFrom_46 : decode cX9_takesFrom 46 = .ok (.aload_n 0, 1) := by decide +kernel
theorem dX9_takesFrom_47 : decode cX9_takesFrom 47 = .ok (.getfield 53, 3) := by decide +kernel
theorem dX9_takesFrom_50 : decode cX9_takesFrom 50 = .ok (.iload_n 1, 1) := by decide +kernel
theorem dX9_takesFrom_51 : decode cX9_takesFrom 51 = .ok (.invokevirtual 81, 3) := by decide +kernel
theorem dX9_takesFrom_54 : decode cX9_takesFrom 54 = .ok (.iload_n 2, 1) := by decide +kernel
theorem dX9_takesFrom_55 : decode cX9_takesFrom 55 = .ok (.if_icmp .ne 7, 3) := by decide +kernel
theorem dX9_takesFrom_58 : decode cX9_takesFrom 58 = .ok (.iconst 1, 1) := by decide +kernel
theorem dX9_takesFrom_59 : decode cX9_takesFrom 59 = .ok (.goto 4, 3) := by decide +kernel
theorem dX9_takesFrom_62 : decode cX9_takesFrom 62 = .ok (.iconst 0, 1) := by decide +kernel
theorem dX9_takesFrom_63 : decode cX9_takesFrom 63 = .ok (.ireturn, 1) := by decide +kernel
set_option maxRecDepth 20000 in
theorem ggX9_countSenders_X9_sendsTo : GoodIn wsX9_countSenders wsX9_sendsTo := goodIn_r _ [6, 7, 8, 9, 10, 11, 12, 13, 14, 15, 16, 17, 18, 19, 20, 21, 22, 23, 24, 25, 26, 27, 28, 29, 30, 31, 32] (by decide +kernel) (by decide +kernel)
set_option maxRecDepth 20000 in
theorem gX9_countSenders_X9_sendsTo : GoodIn wsX9_countSenders (wsV RX9 92 RX9 yX9_sendsTo wsX9_sendsTo) := goodIn_app (goodIn_of _ (by decide +kernel)) ggX9_countSenders_X9_sendsTo
theorem dX9_countSenders_0 : decode cX9_countSenders 0 = .ok (.iconst 0, 1) := by decide +kernel
theorem dX9_countSenders_1 : decode cX9_countSenders 1 = .ok (.istore_n 2, 1) := by decide +kernel
theorem dX9_countSenders_2 : decode cX9_countSenders 2 = .ok (.iconst 0, 1) := by decide +kernel
theorem dX9_countSenders_3 : decode cX9_countSenders 3 = .ok (.istore_n 3, 1) := by decide +kernel
theorem dX9_countSenders_4 : decode cX9_countSenders 4 = .ok (.iload_n 3, 1) := by decide +kernel
theorem dX9_countSenders_5 : decode cX9_countSenders 5 = .ok (.aload_n 0, 1) := by decide +kernel
theorem dX9_countSenders_6 : decode cX9_countSenders 6 = .ok (.getfield 69, 3) := by decide +kernel
theorem dX9_countSenders_9 : decode cX9_countSenders 9 = .ok (.if_icmp .ge 21, 3) := by decide +kernel
theorem dX9_countSenders_12 : decode cX9_countSenders 12 = .ok (.aload_n 0, 1) := by decide +kernel
theorem dX9_countSenders_13 : decode cX9_countSenders 13 = .ok (.iload_n 3, 1) := by decide +kernel
theorem dX9_countSenders_14 : decode cX9_countSenders 14 = .ok (.iload_n 1, 1) := by decide +kernel
theorem dX9_countSenders_15 : decode cX9_countSenders 15 = .ok (.invokevirtual 92, 3) := by decide +kernel
theorem dX9_countSenders_18 : decode cX9_countSenders 18 = .ok (.ifCond .eq 6, 3) := by decide +kernel
theorem dX9_countSenders_21 : decode cX9_countSenders 21 = .ok (.iinc 2 1, 3) := by decide +kernel
theorem dX9_countSenders_24 : decode cX9_countSenders 24 = .ok (.iinc 3 1, 3) := by decide +kernel
theorem dX9_countSenders_27 : decode cX9_countSenders 27 = .ok (.goto (-23), 3) := by decide +kernel
theorem dX9_countSenders_30 : decode cX9_countSenders 30 = .ok (.iload_n 2, 1) := by decide +kernel
theorem dX9_countSenders_31 : decode cX9_countSenders 31 = .ok (.ireturn, 1) := by decide +kernel
set_option maxRecDepth 20000 in
theorem ggX9_countTakers_X9_takesFrom : GoodIn wsX9_countTakers wsX9_takesFrom := goodIn_r _ [6, 7, 8, 9, 10, 11, 12, 13, 14, 15, 16, 17, 18, 19, 20, 21, 22, 23, 24, 25, 26, 27, 28, 29, 30, 31, 32, 33] (by decide +kernel) (by decide +kernel)
set_option maxRecDepth 20000 in
theorem gX9_countTakers_X9_takesFrom : GoodIn wsX9_countTakers (wsV RX9 96 RX9 yX9_takesFrom wsX9_takesFrom) := goodIn_app (goodIn_of _ (by decide +kernel)) ggX9_countTakers_X9_takesFrom
theorem dX9_countTakers_0 : decode cX9_countTakers 0 = .ok (.iconst 0, 1) := by decide +kernel
theorem dX9_countTakers_1 : decode cX9_countTakers 1 = .ok (.istore_n 2, 1) := by decide +kernel
theorem dX9_countTakers_2 : decode cX9_countTakers 2 = .ok (.iconst 0, 1) := by decide +kernel
theorem dX9_countTakers_3 : decode cX9_countTakers 3 = .ok (.istore_n 3, 1) := by decide +kernel
theorem dX9_countTakers_4 : decode cX9_countTakers 4 = .ok (.iload_n 3, 1) := by decide +kernel
theorem dX9_countTakers_5 : decode cX9_countTakers 5 = .ok (.aload_n 0, 1) := by decide +kernel
theorem dX9_countTakers_6 : decode cX9_countTakers 6 = .ok (.getfield 69, 3) := by decide +kernel
theorem dX9_countTakers_9 : decode cX9_countTakers 9 = .ok (.if_icmp .ge 21, 3) := by decide +kernel
theorem dX9_countTakers_12 : decode cX9_countTakers 12 = .ok (.aload_n 0, 1) := by decide +kernel
theorem dX9_countTakers_13 : decode cX9_countTakers 13 = .ok (.iload_n 3, 1) := by decide +kernel
theorem dX9_countTakers_14 : decode cX9_countTakers 14 = .ok (.iload_n 1, 1) := by decide +kernel
theorem dX9_countTakers_15 : decode cX9_countTakers 15 = .ok (.invokevirtual 96, 3) := by decide +kernel
theorem dX9_countTakers_18 : decode cX9_countTakers 18 = .ok (.ifCond .eq 6, 3) := by decide +kernel
theorem dX9_countTakers_21 : decode cX9_countTakers 21 = .ok (.iinc 2 1, 3) := by decide +kernel
theorem dX9_countTakers_24 : decode cX9_countTakers 24 = .ok (.iinc 3 1, 3) := by decide +kernel
theorem dX9_countTakers_27 : decode cX9_countTakers 27 = .ok (.goto (-23), 3) := by decide +kernel
theorem dX9_countTakers_30 : decode cX9_countTakers 30 = .ok (.iload_n 2, 1) := by decide +kernel
theorem dX9_countTakers_31 : decode cX9_countTakers 31 = .ok (.ireturn, 1) := by decide +kernel
set_option maxRecDepth 20000 in
theorem ggX9_property_X6_at : GoodIn wsX9_property wsX6_at := goodIn_r _ [14, 15, 39] (by decide +kernel) (by decide +kernel)
set_option maxRecDepth 20000 in
theorem gX9_property_X6_at : GoodIn wsX9_property (wsV RX9 81 RX6 yX6_at wsX6_at) := goodIn_app (goodIn_of _ (by decide +kernel)) ggX9_property_X6_at
set_option maxRecDepth 20000 in
theorem ggX9_property_X9_executesCleanup : GoodIn wsX9_property wsX9_executesCleanup := goodIn_r _ [20, 21, 10, 11, 12, 13, 14, 15, 22, 23, 24, 25, 26, 27, 28, 29, 30, 31, 32, 33, 34, 35, 36, 37, 38, 39] (by decide +kernel) (by decide +kernel)
set_option maxRecDepth 20000 in
theorem gX9_property_X9_executesCleanup : GoodIn wsX9_property (wsV RX9 99 RX9 yX9_executesCleanup wsX9_executesCleanup) := goodIn_app (goodIn_of _ (by decide +kernel)) ggX9_property_X9_executesCleanup
theorem dX9_property_0 : decode cX9_property 0 = .ok (.iload_n 2, 1) := by decide +kernel
theorem dX9_property_1 : decode cX9_property 1 = .ok (.tableswitch 137 0 8 #[51, 60, 69, 78, 87, 96, 105, 114, 123], 51) := by decide +kernel
theorem dX9_property_52 : decode cX9_property 52 = .ok (.aload_n 0, 1) := by decide +kernel
theorem dX9_property_53 : decode cX9_property 53 = .ok (.getfield 14, 3) := by decide +kernel
theorem dX9_property_56 : decode cX9_property 56 = .ok (.iload_n 1, 1) := by decide +kernel
theorem dX9_property_57 : decode cX9_property 57 = .ok (.invokevirtual 81, 3) := by decide +kernel
theorem dX9_property_60 : decode cX9_property 60 = .ok (.ireturn, 1) := by decide +kernel
theorem dX9_property_61 : decode cX9_property 61 = .ok (.aload_n 0, 1) := by decide +kernel
theorem dX9_property_62 : decode cX9_property 62 = .ok (.getfield 20, 3) := by decide +kernel
theorem dX9_property_65 : decode cX9_property 65 = .ok (.iload_n 1, 1) := by decide +kernel
theorem dX9_property_66 : decode cX9_property 66 = .ok (.invokevirtual 81, 3) := by decide +kernel
theorem dX9_property_69 : decode cX9_property 69 = .ok (.ireturn, 1) := by decide +kernel
theorem dX9_property_70 : decode cX9_property 70 = .ok (.aload_n 0, 1) := by decide +kernel
theorem dX9_property_71 : decode cX9_property 71 = .ok (.getfield 23, 3) := by decide +kernel
theorem dX9_property_74 : decode cX9_property 74 = .ok (.iload_n 1, 1) := by decide +kernel
theorem dX9_property_75 : decode cX9_property 75 = .ok (.invokevirtual 81, 3) := by decide +kernel
theorem dX9_property_78 : decode cX9_property 78 = .ok (.ireturn, 1) := by decide +kernel
theorem dX9_property_79 : decode cX9_property 79 = .ok (.aload_n 0, 1) := by decide +kernel
theorem dX9_property_80 : decode cX9_property 80 = .ok (.getfield 26, 3) := by decide +kernel
theorem dX9_property_83 : decode cX9_property 83 = .ok (.iload_n 1, 1) := by decide +kernel
theorem dX9_property_84 : decode cX9_property 84 = .ok (.invokevirtual 81, 3) := by decide +kernel
theorem dX9_property_87 : decode cX9_property 87 = .ok (.ireturn, 1) := by decide +kernel
theorem dX9_property_88 : decode cX9_property 88 = .ok (.aload_n 0, 1) := by decide +kernel
theorem dX9_property_89 : decode cX9_property 89 = .ok (.getfield 29, 3) := by decide +kernel
theorem dX9_property_92 : decode cX9_property 92 = .ok (.iload_n 1, 1) := by decide +kernel
theorem dX9_property_93 : decode cX9_property 93 = .ok (.invokevirtual 81, 3) := by decide +kernel
theorem dX9_property_96 : decode cX9_property 96 = .ok (.ireturn, 1) := by decide +kernel
theorem dX9_property_97 : decode cX9_property 97 = .ok (.aload_n 0, 1) := by decide +kernel
theorem dX9_property_98 : decode cX9_property 98 = .ok (.getfield 32, 3) := by decide +kernel
theorem dX9_property_101 : decode cX9_property 101 = .ok (.iload_n 1, 1) := by decide +kernel
theorem dX9_property_102 : decode cX9_property 102 = .ok (.invokevirtual 81, 3) := by decide +kernel
theorem dX9_property_105 : decode cX9_property 105 = .ok (.ireturn, 1) := by decide +kernel
theorem dX9_property_106 : decode cX9_property 106 = .ok (.aload_n 0, 1) := by decide +kernel
theorem dX9_property_107 : decode cX9_property 107 = .ok (.getfield 35, 3) := by decide +kernel
theorem dX9_property_110 : decode cX9_property 110 = .ok (.iload_n 1, 1) := by decide +kernel
theorem dX9_property_111 : decode cX9_property 111 = .ok (.invokevirtual 81, 3) := by decide +kernel
theorem dX9_property_114 : decode cX9_property 114 = .ok (.ireturn, 1) := by decide +kernel
theorem dX9_property_115 : decode cX9_property 115 = .ok (.aload_n 0, 1) := by decide +kernel
theorem dX9_property_116 : decode cX9_property 116 = .ok (.getfield 38, 3) := by decide +kernel
theorem dX9_property_119 : decode cX9_property 119 = .ok (.iload_n 1, 1) := by decide +kernel
theorem dX9_property_120 : decode cX9_property 120 = .ok (.invokevirtual 81, 3) := by decide +kernel
theorem dX9_property_123 : decode cX9_property 123 = .ok (.ireturn, 1) := by decide +kernel
theorem dX9_property_124 : decode cX9_property 124 = .ok (.aload_n 0, 1) := by decide +kernel
theorem dX9_property_125 : decode cX9_property 125 = .ok (.iload_n 1, 1) := by decide +kernel
theorem dX9_property_126 : decode cX9_property 126 = .ok (.invokevirtual 99, 3) := by decide +kernel
theorem dX9_property_129 : decode cX9_property 129 = .ok (.ifCond .eq 7, 3) := by decide +kernel
theorem dX9_property_132 : decode cX9_property 132 = .ok (.iconst 1, 1) := by decide +kernel
theorem dX9_property_133 : decode cX9_property 133 = .ok (.goto 4, 3) := by decide +kernel
theorem dX9_property_136 : decode cX9_property 136 = .ok (.iconst 0, 1) := by decide +kernel
theorem dX9_property_137 : decode cX9_property 137 = .ok (.ireturn, 1) := by decide +kernel
theorem dX9_property_138 : decode cX9_property 138 = .ok (.aload_n 0, 1) := by decide +kernel
theorem dX9_property_139 : decode cX9_property 139 = .ok (.getfield 47, 3) := by decide +kernel
theorem dX9_property_142 : decode cX9_property 142 = .ok (.iload_n 1, 1) := by decide +kernel
theorem dX9_property_143 : decode cX9_property 143 = .ok (.invokevirtual 81, 3) := by decide +kernel
theorem dX9_property_146 : decode cX9_property 146 = .ok (.ireturn, 1) := by decide +kernel
set_option maxRecDepth 20000 in
theorem ggX9_copy_X6_copy : GoodIn wsX9_copy wsX6_copy := goodIn_r _ [22, 23, 24, 25, 26, 27, 28, 29, 30, 31, 57] (by decide +kernel) (by decide +kernel)
set_option maxRecDepth 20000 in
theorem gX9_copy_X6_copy : GoodIn wsX9_copy (wsV RX9 103 RX6 yX6_copy wsX6_copy) := goodIn_app (goodIn_of _ (by decide +kernel)) ggX9_copy_X6_copy
set_option maxRecDepth 20000 in
theorem ggX9_copy_X0_copy : GoodIn wsX9_copy wsX0_copy := goodIn_r _ [36, 37, 38, 39, 19, 20, 21, 22, 23, 24, 25, 26, 27, 28, 29, 30, 31, 58, 59, 57] (by decide +kernel) (by decide +kernel)
set_option maxRecDepth 20000 in
theorem gX9_copy_X0_copy : GoodIn wsX9_copy (wsV RX9 107 RX0 yX0_copy wsX0_copy) := goodIn_app (goodIn_of _ (by decide +kernel)) ggX9_copy_X0_copy
theorem dX9_copy_0 : decode cX9_copy 0 = .ok (.aload_n 0, 1) := by decide +kernel
theorem dX9_copy_1 : decode cX9_copy 1 = .ok (.aload_n 1, 1) := by decide +kernel
theorem dX9_copy_2 : decode cX9_copy 2 = .ok (.getfield 69, 3) := by decide +kernel
theorem dX9_copy_5 : decode cX9_copy 5 = .ok (.putfield 69, 3) := by decide +kernel
theorem dX9_copy_8 : decode cX9_copy 8 = .ok (.aload_n 0, 1) := by decide +kernel
theorem dX9_copy_9 : decode cX9_copy 9 = .ok (.getfield 14, 3) := by decide +kernel
theorem dX9_copy_12 : decode cX9_copy 12 = .ok (.aload_n 1, 1) := by decide +kernel
theorem dX9_copy_13 : decode cX9_copy 13 = .ok (.getfield 14, 3) := by decide +kernel
theorem dX9_copy_16 : decode cX9_copy 16 = .ok (.invokevirtual 103, 3) := by decide +kernel
theorem dX9_copy_19 : decode cX9_copy 19 = .ok (.aload_n 0, 1) := by decide +kernel
theorem dX9_copy_20 : decode cX9_copy 20 = .ok (.getfield 20, 3) := by decide +kernel
theorem dX9_copy_23 : decode cX9_copy 23 = .ok (.aload_n 1, 1) := by decide +kernel
theorem dX9_copy_24 : decode cX9_copy 24 = .ok (.getfield 20, 3) := by decide +kernel
theorem dX9_copy_27 : decode cX9_copy 27 = .ok (.invokevirtual 103, 3) := by decide +kernel
theorem dX9_copy_30 : decode cX9_copy 30 = .ok (.aload_n 0, 1) := by decide +kernel
theorem dX9_copy_31 : decode cX9_copy 31 = .ok (.getfield 23, 3) := by decide +kernel
theorem dX9_copy_34 : decode cX9_copy 34 = .ok (.aload_n 1, 1) := by decide +kernel
theorem dX9_copy_35 : decode cX9_copy 35 = .ok (.getfield 23, 3) := by decide +kernel
theorem dX9_copy_38 : decode cX9_copy 38 = .ok (.invokevirtual 103, 3) := by decide +kernel
theorem dX9_copy_41 : decode cX9_copy 41 = .ok (.aload_n 0, 1) := by decide +kernel
theorem dX9_copy_42 : decode cX9_copy 42 = .ok (.getfield 26, 3) := by decide +kernel
theorem dX9_copy_45 : decode cX9_copy 45 = .ok (.aload_n 1, 1) := by decide +kernel
theorem dX9_copy_46 : decode cX9_copy 46 = .ok (.getfield 26, 3) := by decide +kernel
theorem dX9_copy_49 : decode cX9_copy 49 = .ok (.invokevirtual 103, 3) := by decide +kernel
theorem dX9_copy_52 : decode cX9_copy 52 = .ok (.aload_n 0, 1) := by decide +kernel
theorem dX9_copy_53 : decode cX9_copy 53 = .ok (.getfield 29, 3) := by decide +kernel
theorem dX9_copy_56 : decode cX9_copy 56 = .ok (.aload_n 1, 1) := by decide +kernel
theorem dX9_copy_57 : decode cX9_copy 57 = .ok (.getfield 29, 3) := by decide +kernel
theorem dX9_copy_60 : decode cX9_copy 60 = .ok (.invokevirtual 103, 3) := by decide +kernel
theorem dX9_copy_63 : decode cX9_copy 63 = .ok (.aload_n 0, 1) := by decide +kernel
theorem dX9_copy_64 : decode cX9_copy 64 = .ok (.getfield 32, 3) := by decide +kernel
theorem dX9_copy_67 : decode cX9_copy 67 = .ok (.aload_n 1, 1) := by decide +kernel
theorem dX9_copy_68 : decode cX9_copy 68 = .ok (.getfield 32, 3) := by decide +kernel
theorem dX9_copy_71 : decode cX9_copy 71 = .ok (.invokevirtual 103, 3) := by decide +kernel
theorem dX9_copy_74 : decode cX9_copy 74 = .ok (.aload_n 0, 1) := by decide +kernel
theorem dX9_copy_75 : decode cX9_copy 75 = .ok (.getfield 35, 3) := by decide +kernel
theorem dX9_copy_78 : decode cX9_copy 78 = .ok (.aload_n 1, 1) := by decide +kernel
theorem dX9_copy_79 : decode cX9_copy 79 = .ok (.getfield 35, 3) := by decide +kernel
theorem dX9_copy_82 : decode cX9_copy 82 = .ok (.invokevirtual 103, 3) := by decide +kernel
theorem dX9_copy_85 : decode cX9_copy 85 = .ok (.aload_n 0, 1) := by decide +kernel
theorem dX9_copy_86 : decode cX9_copy 86 = .ok (.getfield 38, 3) := by decide +kernel
theorem dX9_copy_89 : decode cX9_copy 89 = .ok (.aload_n 1, 1) := by decide +kernel
theorem dX9_copy_90 : decode cX9_copy 90 = .ok (.getfield 38, 3) := by decide +kernel
theorem dX9_copy_93 : decode cX9_copy 93 = .ok (.invokevirtual 103, 3) := by decide +kernel
theorem dX9_copy_96 : decode cX9_copy 96 = .ok (.aload_n 0, 1) := by decide +kernel
theorem dX9_copy_97 : decode cX9_copy 97 = .ok (.getfield 41, 3) := by decide +kernel
theorem dX9_copy_100 : decode cX9_copy 100 = .ok (.aload_n 1, 1) := by decide +kernel
theorem dX9_copy_101 : decode cX9_copy 101 = .ok (.getfield 41, 3) := by decide +kernel
theorem dX9_copy_104 : decode cX9_copy 104 = .ok (.invokevirtual 103, 3) := by decide +kernel
theorem dX9_copy_107 : decode cX9_copy 107 = .ok (.aload_n 0, 1) := by decide +kernel
theorem dX9_copy_108 : decode cX9_copy 108 = .ok (.getfield 44, 3) := by decide +kernel
theorem dX9_copy_111 : decode cX9_copy 111 = .ok (.aload_n 1, 1) := by decide +kernel
theorem dX9_copy_112 : decode cX9_copy 112 = .ok (.getfield 44, 3) := by decide +kernel
theorem dX9_copy_115 : decode cX9_copy 115 = .ok (.invokevirtual 103, 3) := by decide +kernel
theorem dX9_copy_118 : decode cX9_copy 118 = .ok (.aload_n 0, 1) := by decide +kernel
theorem dX9_copy_119 : decode cX9_copy 119 = .ok (.getfield 47, 3) := by decide +kernel
theorem dX9_copy_122 : decode cX9_copy 122 = .ok (.aload_n 1, 1) := by decide +kernel
theorem dX9_copy_123 : decode cX9_copy 123 = .ok (.getfield 47, 3) := by decide +kernel
theorem dX9_copy_126 : decode cX9_copy 126 = .ok (.invokevirtual 103, 3) := by decide +kernel
theorem dX9_copy_129 : decode cX9_copy 129 = .ok (.aload_n 0, 1) := by decide +kernel
theorem dX9_copy_130 : decode cX9_copy 130 = .ok (.getfield 50, 3) := by decide +kernel
theorem dX9_copy_133 : decode cX9_copy 133 = .ok (.aload_n 1, 1) := by decide +kernel
theorem dX9_copy_134 : decode cX9_copy 134 = .ok (.getfield 50, 3) := by decide +kernel
theorem dX9_copy_137 : decode cX9_copy 137 = .ok (.invokevirtual 103, 3) := by decide +kernel
theorem dX9_copy_140 : decode cX9_copy 140 = .ok (.aload_n 0, 1) := by decide +kernel
theorem dX9_copy_141 : decode cX9_copy 141 = .ok (.getfield 53, 3) := by decide +kernel
theorem dX9_copy_144 : decode cX9_copy 144 = .ok (.aload_n 1, 1) := by decide +kernel
theorem dX9_copy_145 : decode cX9_copy 145 = .ok (.getfield 53, 3) := by decide +kernel
theorem dX9_copy_148 : decode cX9_copy 148 = .ok (.invokevirtual 103, 3) := by decide +kernel
theorem dX9_copy_151 : decode cX9_copy 151 = .ok (.aload_n 0, 1) := by decide +kernel
theorem dX9_copy_152 : decode cX9_copy 152 = .ok (.getfield 56, 3) := by decide +kernel
theorem dX9_copy_155 : decode cX9_copy 155 = .ok (.aload_n 1, 1) := by decide +kernel
theorem dX9_copy_156 : decode cX9_copy 156 = .ok (.getfield 56, 3) := by decide +kernel
theorem dX9_copy_159 : decode cX9_copy 159 = .ok (.invokevirtual 103, 3) := by decide +kernel
theorem dX9_copy_162 : decode cX9_copy 162 = .ok (.aload_n 0, 1) := by decide +kernel
theorem dX9_copy_163 : decode cX9_copy 163 = .ok (.getfield 59, 3) := by decide +kernel
theorem dX9_copy_166 : decode cX9_copy 166 = .ok (.aload_n 1, 1) := by decide +kernel
theorem dX9_copy_167 : decode cX9_copy 167 = .ok (.getfield 59, 3) := by decide +kernel
theorem dX9_copy_170 : decode cX9_copy 170 = .ok (.invokevirtual 103, 3) := by decide +kernel
theorem dX9_copy_173 : decode cX9_copy 173 = .ok (.aload_n 0, 1) := by decide +kernel
theorem dX9_copy_174 : decode cX9_copy 174 = .ok (.getfield 65, 3) := by decide +kernel
theorem dX9_copy_177 : decode cX9_copy 177 = .ok (.aload_n 1, 1) := by decide +kernel
theorem dX9_copy_178 : decode cX9_copy 178 = .ok (.getfield 65, 3) := by decide +kernel
theorem dX9_copy_181 : decode cX9_copy 181 = .ok (.invokevirtual 107, 3) := by decide +kernel
theorem dX9_copy_184 : decode cX9_copy 184 = .ok (.return_, 1) := by decide +kernel
set_option maxRecDepth 20000 in
theorem ggX10_init_X0_init : GoodIn wsX10_init wsX0_init := goodIn_r _ [35, 36, 2, 3, 37, 30, 31, 38, 39, 40, 41, 42, 43, 44, 45, 46, 47, 48, 49, 159, 113, 114] (by decide +kernel) (by decide +kernel)
set_option maxRecDepth 20000 in
theorem gX10_init_X0_init : GoodIn wsX10_init (wsX0_init) := ggX10_init_X0_init
set_option maxRecDepth 20000 in
theorem ggX10_init_X9_init : GoodIn wsX10_init wsX9_init := goodIn_r _ [51, 52, 2, 3, 53, 30, 31, 54, 55, 56, 57, 58, 59, 60, 61, 62, 63, 64, 65, 66, 67, 68, 69, 5, 6, 70, 71, 41, 42, 43, 44, 45, 46, 47, 48, 49, 72, 34, 35, 36, 37, 38, 39, 40, 159, 123, 124, 125, 126, 127, 128, 129, 130, 131, 132, 133, 134, 135, 136, 137, 138, 139, 113, 114] (by decide +kernel) (by decide +kernel)
set_option maxRecDepth 20000 in
theorem gX10_init_X9_init_n22 : GoodIn wsX10_init (wsX9_init) := ggX10_init_X9_init
set_option maxRecDepth 20000 in
theorem ggX10_init_X8_init : GoodIn wsX10_init wsX8_init := goodIn_r _ [74, 75, 2, 3, 76, 30, 31, 77, 78, 79, 80, 81, 82, 83, 84, 85, 86, 5, 6, 87, 88, 41, 42, 43, 44, 45, 46, 47, 48, 49, 89, 34, 35, 36, 37, 38, 39, 40, 159, 140, 141, 142, 143, 144, 145, 146, 147, 148, 149, 150, 113, 114] (by decide +kernel) (by decide +kernel)
set_option maxRecDepth 20000 in
theorem gX10_init_X8_init_n29 : GoodIn wsX10_init (wsX8_init) := ggX10_init_X8_init
set_option maxRecDepth 20000 in
theorem ggX10_init_X1_init : GoodIn wsX10_init wsX1_init := goodIn_r _ [91, 92, 2, 3, 93, 30, 31, 94, 95, 96, 97, 41, 42, 43, 44, 45, 46, 47, 48, 49, 159, 151, 152, 153] (by decide +kernel) (by decide +kernel)
set_option maxRecDepth 20000 in
theorem gX10_init_X1_init_n36 : GoodIn wsX10_init (wsX1_init) := ggX10_init_X1_init
set_option maxRecDepth 20000 in
theorem ggX10_init_X3_init : GoodIn wsX10_init wsX3_init := goodIn_r _ [99, 100, 2, 3, 101, 25, 26, 102, 103, 104, 105, 106, 107, 108, 109, 45, 46, 47, 48, 110, 157, 158, 154, 155, 156] (by decide +kernel) (by decide +kernel)
set_option maxRecDepth 20000 in
theorem gX10_init_X3_init_n43 : GoodIn wsX10_init (wsX3_init) := ggX10_init_X3_init
set_option maxRecDepth 20000 in
theorem ggX10_init_X4_init : GoodIn wsX10_init wsX4_init := goodIn_r _ [107, 108, 2, 3, 109, 45, 46, 47, 48, 110, 157, 158] (by decide +kernel) (by decide +kernel)
set_option maxRecDepth 20000 in
theorem gX10_init_X4_init : GoodIn wsX10_init (wsX4_init) := ggX10_init_X4_init
set_option maxRecDepth 20000 in
theorem ggX10_init_X6_init : GoodIn wsX10_init wsX6_init := goodIn_r _ [42, 43, 2, 3, 44, 45, 46, 47, 48, 49, 159] (by decide +kernel) (by decide +kernel)
set_option maxRecDepth 20000 in
theorem gX10_init_X6_init : GoodIn wsX10_init (wsX6_init) := ggX10_init_X6_init
theorem dX10_init_0 : decode cX10_init 0 = .ok (.aload_n 0, 1) := by decide +kernel
theorem dX10_init_1 : decode cX10_init 1 = .ok (.invokespecial 3, 3) := by decide +kernel
theorem dX10_init_4 : decode cX10_init 4 = .ok (.aload_n 0, 1) := by decide +kernel
theorem dX10_init_5 : decode cX10_init 5 = .ok (.new 9, 3) := by decide +kernel
theorem dX10_init_8 : decode cX10_init 8 = .ok (.dup, 1) := by decide +kernel
theorem dX10_init_9 : decode cX10_init 9 = .ok (.bipush 6, 2) := by decide +kernel
theorem dX10_init_11 : decode cX10_init 11 = .ok (.invokespecial 11, 3) := by decide +kernel
theorem dX10_init_14 : decode cX10_init 14 = .ok (.putfield 14, 3) := by decide +kernel
theorem dX10_init_17 : decode cX10_init 17 = .ok (.aload_n 0, 1) := by decide +kernel
theorem dX10_init_18 : decode cX10_init 18 = .ok (.new 20, 3) := by decide +kernel
theorem dX10_init_21 : decode cX10_init 21 = .ok (.dup, 1) := by decide +kernel
theorem dX10_init_22 : decode cX10_init 22 = .ok (.invokespecial 22, 3) := by decide +kernel
theorem dX10_init_25 : decode cX10_init 25 = .ok (.putfield 23, 3) := by decide +kernel
theorem dX10_init_28 : decode cX10_init 28 = .ok (.aload_n 0, 1) := by decide +kernel
theorem dX10_init_29 : decode cX10_init 29 = .ok (.new 27, 3) := by decide +kernel
theorem dX10_init_32 : decode cX10_init 32 = .ok (.dup, 1) := by decide +kernel
theorem dX10_init_33 : decode cX10_init 33 = .ok (.invokespecial 29, 3) := by decide +kernel
theorem dX10_init_36 : decode cX10_init 36 = .ok (.putfield 30, 3) := by decide +kernel
theorem dX10_init_39 : decode cX10_init 39 = .ok (.aload_n 0, 1) := by decide +kernel
theorem dX10_init_40 : decode cX10_init 40 = .ok (.new 34, 3) := by decide +kernel
theorem dX10_init_43 : decode cX10_init 43 = .ok (.dup, 1) := by decide +kernel
theorem dX10_init_44 : decode cX10_init 44 = .ok (.invokespecial 36, 3) := by decide +kernel
theorem dX10_init_47 : decode cX10_init 47 = .ok (.putfield 37, 3) := by decide +kernel
theorem dX10_init_50 : decode cX10_init 50 = .ok (.aload_n 0, 1) := by decide +kernel
theorem dX10_init_51 : decode cX10_init 51 = .ok (.new 41, 3) := by decide +kernel
theorem dX10_init_54 : decode cX10_init 54 = .ok (.dup, 1) := by decide +kernel
theorem dX10_init_55 : decode cX10_init 55 = .ok (.invokespecial 43, 3) := by decide +kernel
theorem dX10_init_58 : decode cX10_init 58 = .ok (.putfield 44, 3) := by decide +kernel
theorem dX10_init_61 : decode cX10_init 61 = .ok (.aload_n 0, 1) := by decide +kernel
theorem dX10_init_62 : decode cX10_init 62 = .ok (.new 48, 3) := by decide +kernel
theorem dX10_init_65 : decode cX10_init 65 = .ok (.dup, 1) := by decide +kernel
theorem dX10_init_66 : decode cX10_init 66 = .ok (.bipush 24, 2) := by decide +kernel
theorem dX10_init_68 : decode cX10_init 68 = .ok (.invokespecial 50, 3) := by decide +kernel
theorem dX10_init_71 : decode cX10_init 71 = .ok (.putfield 51, 3) := by decide +kernel
theorem dX10_init_74 : decode cX10_init 74 = .ok (.aload_n 0, 1) := by decide +kernel
theorem dX10_init_75 : decode cX10_init 75 = .ok (.new 48, 3) := by decide +kernel
theorem dX10_init_78 : decode cX10_init 78 = .ok (.dup, 1) := by decide +kernel
theorem dX10_init_79 : decode cX10_init 79 = .ok (.bipush 24, 2) := by decide +kernel
theorem dX10_init_81 : decode cX10_init 81 = .ok (.invokespecial 50, 3) := by decide +kernel
theorem dX10_init_84 : decode cX10_init 84 = .ok (.putfield 55, 3) := by decide +kernel
theorem dX10_init_87 : decode cX10_init 87 = .ok (.aload_n 0, 1) := by decide +kernel
theorem dX10_init_88 : decode cX10_init 88 = .ok (.new 58, 3) := by decide +kernel
theorem dX10_init_91 : decode cX10_init 91 = .ok (.dup, 1) := by decide +kernel
theorem dX10_init_92 : decode cX10_init 92 = .ok (.bipush 12, 2) := by decide +kernel
theorem dX10_init_94 : decode cX10_init 94 = .ok (.invokespecial 60, 3) := by decide +kernel
theorem dX10_init_97 : decode cX10_init 97 = .ok (.putfield 61, 3) := by decide +kernel
theorem dX10_init_100 : decode cX10_init 100 = .ok (.return_, 1) := by decide +kernel
set_option maxRecDepth 20000 in
theorem ggX10_copy_X0_copy : GoodIn wsX10_copy wsX0_copy := goodIn_r _ [13, 14, 15, 16, 17, 18, 19, 20, 21, 22, 23, 24, 25, 26, 27, 28, 29, 108, 109, 110] (by decide +kernel) (by decide +kernel)
set_option maxRecDepth 20000 in
theorem gX10_copy_X0_copy : GoodIn wsX10_copy (wsV RX10 65 RX0 yX0_copy wsX0_copy) := goodIn_app (goodIn_of _ (by decide +kernel)) ggX10_copy_X0_copy
set_option maxRecDepth 20000 in
theorem ggX10_copy_X9_copy : GoodIn wsX10_copy wsX9_copy := goodIn_r _ [34, 35, 36, 37, 38, 39, 40, 41, 42, 43, 44, 45, 46, 47, 48, 49, 50, 51, 52, 17, 18, 19, 20, 21, 22, 23, 24, 25, 26, 27, 28, 29, 53, 10, 11, 12, 13, 14, 15, 16, 111, 112, 113, 114, 115, 116, 117, 118, 119, 120, 121, 122, 123, 124, 125, 126, 127, 110, 108, 109] (by decide +kernel) (by decide +kernel)
set_option maxRecDepth 20000 in
theorem gX10_copy_X9_copy : GoodIn wsX10_copy (wsV RX10 69 RX9 yX9_copy wsX9_copy) := goodIn_app (goodIn_of _ (by decide +kernel)) ggX10_copy_X9_copy
set_option maxRecDepth 20000 in
theorem ggX10_copy_X8_copy : GoodIn wsX10_copy wsX8_copy := goodIn_r _ [58, 59, 60, 61, 62, 63, 64, 65, 66, 67, 68, 69, 70, 17, 18, 19, 20, 21, 22, 23, 24, 25, 26, 27, 28, 29, 71, 10, 11, 12, 13, 14, 15, 16, 128, 129, 130, 131, 132, 133, 134, 135, 136, 137, 138, 110, 108, 109] (by decide +kernel) (by decide +kernel)
set_option maxRecDepth 20000 in
theorem gX10_copy_X8_copy : GoodIn wsX10_copy (wsV RX10 72 RX8 yX8_copy wsX8_copy) := goodIn_app (goodIn_of _ (by decide +kernel)) ggX10_copy_X8_copy
set_option maxRecDepth 20000 in
theorem ggX10_copy_X1_copy : GoodIn wsX10_copy wsX1_copy := goodIn_r _ [76, 77, 78, 79, 80, 17, 18, 19, 20, 21, 22, 23, 24, 25, 26, 27, 28, 29, 139, 140, 141, 110] (by decide +kernel) (by decide +kernel)
set_option maxRecDepth 20000 in
theorem gX10_copy_X1_copy : GoodIn wsX10_copy (wsV RX10 75 RX1 yX1_copy wsX1_copy) := goodIn_app (goodIn_of _ (by decide +kernel)) ggX10_copy_X1_copy
set_option maxRecDepth 20000 in
theorem ggX10_copy_X3_copy : GoodIn wsX10_copy wsX3_copy := goodIn_r _ [85, 86, 87, 88, 89, 90, 91, 92, 93, 94, 95, 23, 24, 25, 96, 27, 28, 29, 97, 142, 143, 144, 145, 146] (by decide +kernel) (by decide +kernel)
set_option maxRecDepth 20000 in
theorem gX10_copy_X3_copy : GoodIn wsX10_copy (wsV RX10 78 RX3 yX3_copy wsX3_copy) := goodIn_app (goodIn_of _ (by decide +kernel)) ggX10_copy_X3_copy
set_option maxRecDepth 20000 in
theorem ggX10_copy_X4_copy : GoodIn wsX10_copy wsX4_copy := goodIn_r _ [93, 94, 95, 23, 24, 25, 96, 27, 28, 29, 97, 145, 146] (by decide +kernel) (by decide +kernel)
set_option maxRecDepth 20000 in
theorem gX10_copy_X4_copy : GoodIn wsX10_copy (wsV RX10 81 RX4 yX4_copy wsX4_copy) := goodIn_app (goodIn_of _ (by decide +kernel)) ggX10_copy_X4_copy
set_option maxRecDepth 20000 in
theorem ggX10_copy_X6_copy : GoodIn wsX10_copy wsX6_copy := goodIn_r _ [20, 21, 22, 23, 24, 25, 26, 27, 28, 29, 110] (by decide +kernel) (by decide +kernel)
set_option maxRecDepth 20000 in
theorem gX10_copy_X6_copy : GoodIn wsX10_copy (wsV RX10 84 RX6 yX6_copy wsX6_copy) := goodIn_app (goodIn_of _ (by decide +kernel)) ggX10_copy_X6_copy
theorem dX10_copy_0 : decode cX10_copy 0 = .ok (.aload_n 0, 1) := by decide +kernel
theorem dX10_copy_1 : decode cX10_copy 1 = .ok (.getfield 14, 3) := by decide +kernel
theorem dX10_copy_4 : decode cX10_copy 4 = .ok (.aload_n 1, 1) := by decide +kernel
theorem dX10_copy_5 : decode cX10_copy 5 = .ok (.getfield 14, 3) := by decide +kernel
theorem dX10_copy_8 : decode cX10_copy 8 = .ok (.invokevirtual 65, 3) := by decide +kernel
theorem dX10_copy_11 : decode cX10_copy 11 = .ok (.aload_n 0, 1) := by decide +kernel
theorem dX10_copy_12 : decode cX10_copy 12 = .ok (.getfield 23, 3) := by decide +kernel
theorem dX10_copy_15 : decode cX10_copy 15 = .ok (.aload_n 1, 1) := by decide +kernel
theorem dX10_copy_16 : decode cX10_copy 16 = .ok (.getfield 23, 3) := by decide +kernel
theorem dX10_copy_19 : decode cX10_copy 19 = .ok (.invokevirtual 69, 3) := by decide +kernel
theorem dX10_copy_22 : decode cX10_copy 22 = .ok (.aload_n 0, 1) := by decide +kernel
theorem dX10_copy_23 : decode cX10_copy 23 = .ok (.getfield 30, 3) := by decide +kernel
theorem dX10_copy_26 : decode cX10_copy 26 = .ok (.aload_n 1, 1) := by decide +kernel
theorem dX10_copy_27 : decode cX10_copy 27 = .ok (.getfield 30, 3) := by decide +kernel
theorem dX10_copy_30 : decode cX10_copy 30 = .ok (.invokevirtual 72, 3) := by decide +kernel
theorem dX10_copy_33 : decode cX10_copy 33 = .ok (.aload_n 0, 1) := by decide +kernel
theorem dX10_copy_34 : decode cX10_copy 34 = .ok (.getfield 37, 3) := by decide +kernel
theorem dX10_copy_37 : decode cX10_copy 37 = .ok (.aload_n 1, 1) := by decide +kernel
theorem dX10_copy_38 : decode cX10_copy 38 = .ok (.getfield 37, 3) := by decide +kernel
theorem dX10_copy_41 : decode cX10_copy 41 = .ok (.invokevirtual 75, 3) := by decide +kernel
theorem dX10_copy_44 : decode cX10_copy 44 = .ok (.aload_n 0, 1) := by decide +kernel
theorem dX10_copy_45 : decode cX10_copy 45 = .ok (.getfield 44, 3) := by decide +kernel
theorem dX10_copy_48 : decode cX10_copy 48 = .ok (.aload_n 1, 1) := by decide +kernel
theorem dX10_copy_49 : decode cX10_copy 49 = .ok (.getfield 44, 3) := by decide +kernel
theorem dX10_copy_52 : decode cX10_copy 52 = .ok (.invokevirtual 78, 3) := by decide +kernel
theorem dX10_copy_55 : decode cX10_copy 55 = .ok (.aload_n 0, 1) := by decide +kernel
theorem dX10_copy_56 : decode cX10_copy 56 = .ok (.getfield 51, 3) := by decide +kernel
theorem dX10_copy_59 : decode cX10_copy 59 = .ok (.aload_n 1, 1) := by decide +kernel
theorem dX10_copy_60 : decode cX10_copy 60 = .ok (.getfield 51, 3) := by decide +kernel
theorem dX10_copy_63 : decode cX10_copy 63 = .ok (.invokevirtual 81, 3) := by decide +kernel
theorem dX10_copy_66 : decode cX10_copy 66 = .ok (.aload_n 0, 1) := by decide +kernel
theorem dX10_copy_67 : decode cX10_copy 67 = .ok (.getfield 55, 3) := by decide +kernel
theorem dX10_copy_70 : decode cX10_copy 70 = .ok (.aload_n 1, 1) := by decide +kernel
theorem dX10_copy_71 : decode cX10_copy 71 = .ok (.getfield 55, 3) := by decide +kernel
theorem dX10_copy_74 : decode cX10_copy 74 = .ok (.invokevirtual 81, 3) := by decide +kernel
theorem dX10_copy_77 : decode cX10_copy 77 = .ok (.aload_n 0, 1) := by decide +kernel
theorem dX10_copy_78 : decode cX10_copy 78 = .ok (.getfield 61, 3) := by decide +kernel
theorem dX10_copy_81 : decode cX10_copy 81 = .ok (.aload_n 1, 1) := by decide +kernel
theorem dX10_copy_82 : decode cX10_copy 82 = .ok (.getfield 61, 3) := by decide +kernel
theorem dX10_copy_85 : decode cX10_copy 85 = .ok (.invokevirtual 84, 3) := by decide +kernel
theorem dX10_copy_88 : decode cX10_copy 88 = .ok (.return_, 1) := by decide +kernel
set_option maxRecDepth 20000 in
theorem ggX10_removeTasks_X6_clear : GoodIn wsX10_removeTasks wsX6_clear := goodIn_r _ [15, 16, 71] (by decide +kernel) (by decide +kernel)
set_option maxRecDepth 20000 in
theorem gX10_removeTasks_X6_clear : GoodIn wsX10_removeTasks (wsV RX10 95 RX6 yX6_clear wsX6_clear) := goodIn_app (goodIn_of _ (by decide +kernel)) ggX10_removeTasks_X6_clear
set_option maxRecDepth 20000 in
theorem ggX10_removeTasks_X3_clear : GoodIn wsX10_removeTasks wsX3_clear := goodIn_r _ [21, 22, 23, 24, 25, 26, 27, 28, 29, 30, 72, 73, 74, 75, 76] (by decide +kernel) (by decide +kernel)
set_option maxRecDepth 20000 in
theorem gX10_removeTasks_X3_clear : GoodIn wsX10_removeTasks (wsV RX10 98 RX3 yX3_clear wsX3_clear) := goodIn_app (goodIn_of _ (by decide +kernel)) ggX10_removeTasks_X3_clear
set_option maxRecDepth 20000 in
theorem ggX10_removeTasks_X4_clear : GoodIn wsX10_removeTasks wsX4_clear := goodIn_r _ [29, 30, 75, 76] (by decide +kernel) (by decide +kernel)
set_option maxRecDepth 20000 in
theorem gX10_removeTasks_X4_clear : GoodIn wsX10_removeTasks (wsV RX10 99 RX4 yX4_clear wsX4_clear) := goodIn_app (goodIn_of _ (by decide +kernel)) ggX10_removeTasks_X4_clear
theorem dX10_removeTasks_0 : decode cX10_removeTasks 0 = .ok (.aload_n 0, 1) := by decide +kernel
theorem dX10_removeTasks_1 : decode cX10_removeTasks 1 = .ok (.getfield 23, 3) := by decide +kernel
theorem dX10_removeTasks_4 : decode cX10_removeTasks 4 = .ok (.iconst 0, 1) := by decide +kernel
theorem dX10_removeTasks_5 : decode cX10_removeTasks 5 = .ok (.putfield 87, 3) := by decide +kernel
theorem dX10_removeTasks_8 : decode cX10_removeTasks 8 = .ok (.aload_n 0, 1) := by decide +kernel
theorem dX10_removeTasks_9 : decode cX10_removeTasks 9 = .ok (.getfield 30, 3) := by decide +kernel
theorem dX10_removeTasks_12 : decode cX10_removeTasks 12 = .ok (.iconst 0, 1) := by decide +kernel
theorem dX10_removeTasks_13 : decode cX10_removeTasks 13 = .ok (.putfield 91, 3) := by decide +kernel
theorem dX10_removeTasks_16 : decode cX10_removeTasks 16 = .ok (.aload_n 0, 1) := by decide +kernel
theorem dX10_removeTasks_17 : decode cX10_removeTasks 17 = .ok (.getfield 37, 3) := by decide +kernel
theorem dX10_removeTasks_20 : decode cX10_removeTasks 20 = .ok (.getfield 92, 3) := by decide +kernel
theorem dX10_removeTasks_23 : decode cX10_removeTasks 23 = .ok (.invokevirtual 95, 3) := by decide +kernel
theorem dX10_removeTasks_26 : decode cX10_removeTasks 26 = .ok (.aload_n 0, 1) := by decide +kernel
theorem dX10_removeTasks_27 : decode cX10_removeTasks 27 = .ok (.getfield 44, 3) := by decide +kernel
theorem dX10_removeTasks_30 : decode cX10_removeTasks 30 = .ok (.invokevirtual 98, 3) := by decide +kernel
theorem dX10_removeTasks_33 : decode cX10_removeTasks 33 = .ok (.aload_n 0, 1) := by decide +kernel
theorem dX10_removeTasks_34 : decode cX10_removeTasks 34 = .ok (.getfield 51, 3) := by decide +kernel
theorem dX10_removeTasks_37 : decode cX10_removeTasks 37 = .ok (.invokevirtual 99, 3) := by decide +kernel
theorem dX10_removeTasks_40 : decode cX10_removeTasks 40 = .ok (.aload_n 0, 1) := by decide +kernel
theorem dX10_removeTasks_41 : decode cX10_removeTasks 41 = .ok (.getfield 55, 3) := by decide +kernel
theorem dX10_removeTasks_44 : decode cX10_removeTasks 44 = .ok (.invokevirtual 99, 3) := by decide +kernel
theorem dX10_removeTasks_47 : decode cX10_removeTasks 47 = .ok (.aload_n 0, 1) := by decide +kernel
theorem dX10_removeTasks_48 : decode cX10_removeTasks 48 = .ok (.getfield 61, 3) := by decide +kernel
theorem dX10_removeTasks_51 : decode cX10_removeTasks 51 = .ok (.invokevirtual 95, 3) := by decide +kernel
theorem dX10_removeTasks_54 : decode cX10_removeTasks 54 = .ok (.return_, 1) := by decide +kernel
set_option maxRecDepth 20000 in
theorem ggX10_liveTasks_X4_size : GoodIn wsX10_liveTasks wsX4_size := goodIn_r _ [8, 9, 35, 36] (by decide +kernel) (by decide +kernel)
set_option maxRecDepth 20000 in
theorem gX10_liveTasks_X4_size : GoodIn wsX10_liveTasks (wsV RX10 100 RX4 yX4_size wsX4_size) := goodIn_app (goodIn_of _ (by decide +kernel)) ggX10_liveTasks_X4_size
theorem dX10_liveTasks_0 : decode cX10_liveTasks 0 = .ok (.aload_n 0, 1) := by decide +kernel
theorem dX10_liveTasks_1 : decode cX10_liveTasks 1 = .ok (.getfield 23, 3) := by decide +kernel
theorem dX10_liveTasks_4 : decode cX10_liveTasks 4 = .ok (.getfield 87, 3) := by decide +kernel
theorem dX10_liveTasks_7 : decode cX10_liveTasks 7 = .ok (.aload_n 0, 1) := by decide +kernel
theorem dX10_liveTasks_8 : decode cX10_liveTasks 8 = .ok (.getfield 55, 3) := by decide +kernel
theorem dX10_liveTasks_11 : decode cX10_liveTasks 11 = .ok (.invokevirtual 100, 3) := by decide +kernel
theorem dX10_liveTasks_14 : decode cX10_liveTasks 14 = .ok (.isub, 1) := by decide +kernel
theorem dX10_liveTasks_15 : decode cX10_liveTasks 15 = .ok (.ireturn, 1) := by decide +kernel
set_option maxRecDepth 20000 in
theorem ggX10_startTask_X9_add : GoodIn wsX10_startTask wsX9_add := goodIn_r _ [10, 11, 12, 13, 14, 15, 16, 17, 18, 19, 20, 21, 22, 23, 24, 25, 26, 27, 28, 9, 29, 30, 31, 32, 76, 77, 78, 79, 80, 81, 82, 83, 84, 85, 86, 87, 88, 89, 90, 91, 92, 93] (by decide +kernel) (by decide +kernel)
set_option maxRecDepth 20000 in
theorem gX10_startTask_X9_add : GoodIn wsX10_startTask (wsV RX10 104 RX9 yX9_add wsX9_add) := goodIn_app (goodIn_of _ (by decide +kernel)) ggX10_startTask_X9_add
set_option maxRecDepth 20000 in
theorem ggX10_startTask_X0_copyList : GoodIn wsX10_startTask wsX0_copyList := goodIn_r _ [37, 38, 39, 40, 36, 41, 42, 43, 21, 22, 23, 24, 25, 44, 45, 46, 47, 48, 49, 50, 51, 52, 53, 54, 55, 56, 57, 58, 59, 60, 94, 95, 93] (by decide +kernel) (by decide +kernel)
set_option maxRecDepth 20000 in
theorem gX10_startTask_X0_copyList : GoodIn wsX10_startTask (wsV RX10 111 RX0 yX0_copyList wsX0_copyList) := goodIn_app (goodIn_of _ (by decide +kernel)) ggX10_startTask_X0_copyList
set_option maxRecDepth 20000 in
theorem ggX10_startTask_X4_add : GoodIn wsX10_startTask wsX4_add := goodIn_r _ [65, 66, 67, 96, 97] (by decide +kernel) (by decide +kernel)
set_option maxRecDepth 20000 in
theorem gX10_startTask_X4_add : GoodIn wsX10_startTask (wsV RX10 115 RX4 yX4_add wsX4_add) := goodIn_app (goodIn_of _ (by decide +kernel)) ggX10_startTask_X4_add
theorem dX10_startTask_0 : decode cX10_startTask 0 = .ok (.aload_n 0, 1) := by decide +kernel
theorem dX10_startTask_1 : decode cX10_startTask 1 = .ok (.getfield 23, 3) := by decide +kernel
theorem dX10_startTask_4 : decode cX10_startTask 4 = .ok (.getfield 87, 3) := by decide +kernel
theorem dX10_startTask_7 : decode cX10_startTask 7 = .ok (.bipush 24, 2) := by decide +kernel
theorem dX10_startTask_9 : decode cX10_startTask 9 = .ok (.if_icmp .lt 5, 3) := by decide +kernel
theorem dX10_startTask_12 : decode cX10_startTask 12 = .ok (.iconst (-1), 1) := by decide +kernel
theorem dX10_startTask_13 : decode cX10_startTask 13 = .ok (.ireturn, 1) := by decide +kernel
theorem dX10_startTask_14 : decode cX10_startTask 14 = .ok (.aload_n 0, 1) := by decide +kernel
theorem dX10_startTask_15 : decode cX10_startTask 15 = .ok (.getfield 23, 3) := by decide +kernel
theorem dX10_startTask_18 : decode cX10_startTask 18 = .ok (.iload_n 2, 1) := by decide +kernel
theorem dX10_startTask_19 : decode cX10_startTask 19 = .ok (.invokevirtual 104, 3) := by decide +kernel
theorem dX10_startTask_22 : decode cX10_startTask 22 = .ok (.istore_n 3, 1) := by decide +kernel
theorem dX10_startTask_23 : decode cX10_startTask 23 = .ok (.aload_n 0, 1) := by decide +kernel
theorem dX10_startTask_24 : decode cX10_startTask 24 = .ok (.getfield 23, 3) := by decide +kernel
theorem dX10_startTask_27 : decode cX10_startTask 27 = .ok (.getfield 108, 3) := by decide +kernel
theorem dX10_startTask_30 : decode cX10_startTask 30 = .ok (.iload_n 3, 1) := by decide +kernel
theorem dX10_startTask_31 : decode cX10_startTask 31 = .ok (.aload_n 0, 1) := by decide +kernel
theorem dX10_startTask_32 : decode cX10_startTask 32 = .ok (.getfield 14, 3) := by decide +kernel
theorem dX10_startTask_35 : decode cX10_startTask 35 = .ok (.iload_n 1, 1) := by decide +kernel
theorem dX10_startTask_36 : decode cX10_startTask 36 = .ok (.invokevirtual 111, 3) := by decide +kernel
theorem dX10_startTask_39 : decode cX10_startTask 39 = .ok (.aload_n 0, 1) := by decide +kernel
theorem dX10_startTask_40 : decode cX10_startTask 40 = .ok (.getfield 51, 3) := by decide +kernel
theorem dX10_startTask_43 : decode cX10_startTask 43 = .ok (.iload_n 3, 1) := by decide +kernel
theorem dX10_startTask_44 : decode cX10_startTask 44 = .ok (.invokevirtual 115, 3) := by decide +kernel
theorem dX10_startTask_47 : decode cX10_startTask 47 = .ok (.iload_n 3, 1) := by decide +kernel
theorem dX10_startTask_48 : decode cX10_startTask 48 = .ok (.ireturn, 1) := by decide +kernel
set_option maxRecDepth 20000 in
theorem ggX10_ownerAbove_X6_at : GoodIn wsX10_ownerAbove wsX6_at := goodIn_r _ [9, 10, 47] (by decide +kernel) (by decide +kernel)
set_option maxRecDepth 20000 in
theorem gX10_ownerAbove_X6_at : GoodIn wsX10_ownerAbove (wsV RX10 120 RX6 yX6_at wsX6_at) := goodIn_app (goodIn_of _ (by decide +kernel)) ggX10_ownerAbove_X6_at
theorem dX10_ownerAbove_0 : decode cX10_ownerAbove 0 = .ok (.aload_n 0, 1) := by decide +kernel
theorem dX10_ownerAbove_1 : decode cX10_ownerAbove 1 = .ok (.getfield 23, 3) := by decide +kernel
theorem dX10_ownerAbove_4 : decode cX10_ownerAbove 4 = .ok (.getfield 117, 3) := by decide +kernel
theorem dX10_ownerAbove_7 : decode cX10_ownerAbove 7 = .ok (.iload_n 1, 1) := by decide +kernel
theorem dX10_ownerAbove_8 : decode cX10_ownerAbove 8 = .ok (.invokevirtual 120, 3) := by decide +kernel
theorem dX10_ownerAbove_11 : decode cX10_ownerAbove 11 = .ok (.istore_n 2, 1) := by decide +kernel
theorem dX10_ownerAbove_12 : decode cX10_ownerAbove 12 = .ok (.iload_n 2, 1) := by decide +kernel
theorem dX10_ownerAbove_13 : decode cX10_ownerAbove 13 = .ok (.iconst (-1), 1) := by decide +kernel
theorem dX10_ownerAbove_14 : decode cX10_ownerAbove 14 = .ok (.if_icmp .ne 7, 3) := by decide +kernel
theorem dX10_ownerAbove_17 : decode cX10_ownerAbove 17 = .ok (.iconst (-1), 1) := by decide +kernel
theorem dX10_ownerAbove_18 : decode cX10_ownerAbove 18 = .ok (.goto 14, 3) := by decide +kernel
theorem dX10_ownerAbove_21 : decode cX10_ownerAbove 21 = .ok (.aload_n 0, 1) := by decide +kernel
theorem dX10_ownerAbove_22 : decode cX10_ownerAbove 22 = .ok (.getfield 30, 3) := by decide +kernel
theorem dX10_ownerAbove_25 : decode cX10_ownerAbove 25 = .ok (.getfield 123, 3) := by decide +kernel
theorem dX10_ownerAbove_28 : decode cX10_ownerAbove 28 = .ok (.iload_n 2, 1) := by decide +kernel
theorem dX10_ownerAbove_29 : decode cX10_ownerAbove 29 = .ok (.invokevirtual 120, 3) := by decide +kernel
theorem dX10_ownerAbove_32 : decode cX10_ownerAbove 32 = .ok (.ireturn, 1) := by decide +kernel
set_option maxRecDepth 20000 in
theorem ggX10_makeReady_X6_put : GoodIn wsX10_makeReady wsX6_put := goodIn_r _ [9, 10, 43] (by decide +kernel) (by decide +kernel)
set_option maxRecDepth 20000 in
theorem gX10_makeReady_X6_put : GoodIn wsX10_makeReady (wsV RX10 129 RX6 yX6_put wsX6_put) := goodIn_app (goodIn_of _ (by decide +kernel)) ggX10_makeReady_X6_put
set_option maxRecDepth 20000 in
theorem ggX10_makeReady_X4_add : GoodIn wsX10_makeReady wsX4_add := goodIn_r _ [15, 16, 17, 44, 45] (by decide +kernel) (by decide +kernel)
set_option maxRecDepth 20000 in
theorem gX10_makeReady_X4_add : GoodIn wsX10_makeReady (wsV RX10 115 RX4 yX4_add wsX4_add) := goodIn_app (goodIn_of _ (by decide +kernel)) ggX10_makeReady_X4_add
theorem dX10_makeReady_0 : decode cX10_makeReady 0 = .ok (.aload_n 0, 1) := by decide +kernel
theorem dX10_makeReady_1 : decode cX10_makeReady 1 = .ok (.getfield 23, 3) := by decide +kernel
theorem dX10_makeReady_4 : decode cX10_makeReady 4 = .ok (.getfield 126, 3) := by decide +kernel
theorem dX10_makeReady_7 : decode cX10_makeReady 7 = .ok (.iload_n 1, 1) := by decide +kernel
theorem dX10_makeReady_8 : decode cX10_makeReady 8 = .ok (.iconst 0, 1) := by decide +kernel
theorem dX10_makeReady_9 : decode cX10_makeReady 9 = .ok (.invokevirtual 129, 3) := by decide +kernel
theorem dX10_makeReady_12 : decode cX10_makeReady 12 = .ok (.aload_n 0, 1) := by decide +kernel
theorem dX10_makeReady_13 : decode cX10_makeReady 13 = .ok (.getfield 23, 3) := by decide +kernel
theorem dX10_makeReady_16 : decode cX10_makeReady 16 = .ok (.getfield 133, 3) := by decide +kernel
theorem dX10_makeReady_19 : decode cX10_makeReady 19 = .ok (.iload_n 1, 1) := by decide +kernel
theorem dX10_makeReady_20 : decode cX10_makeReady 20 = .ok (.iconst (-1), 1) := by decide +kernel
theorem dX10_makeReady_21 : decode cX10_makeReady 21 = .ok (.invokevirtual 129, 3) := by decide +kernel
theorem dX10_makeReady_24 : decode cX10_makeReady 24 = .ok (.aload_n 0, 1) := by decide +kernel
theorem dX10_makeReady_25 : decode cX10_makeReady 25 = .ok (.getfield 51, 3) := by decide +kernel
theorem dX10_makeReady_28 : decode cX10_makeReady 28 = .ok (.iload_n 1, 1) := by decide +kernel
theorem dX10_makeReady_29 : decode cX10_makeReady 29 = .ok (.invokevirtual 115, 3) := by decide +kernel
theorem dX10_makeReady_32 : decode cX10_makeReady 32 = .ok (.return_, 1) := by decide +kernel
set_option maxRecDepth 20000 in
theorem ggX10_interrupt_X9_hasEnded : GoodIn wsX10_interrupt wsX9_hasEnded := goodIn_r _ [9, 10, 11, 12, 13, 14, 15, 16, 70, 71, 72, 73, 74, 75, 76, 77, 78, 79, 80, 81, 82, 83, 84, 85, 86, 87] (by decide +kernel) (by decide +kernel)
set_option maxRecDepth 20000 in
theorem gX10_interrupt_X9_hasEnded : GoodIn wsX10_interrupt (wsV RX10 136 RX9 yX9_hasEnded wsX9_hasEnded) := goodIn_app (goodIn_of _ (by decide +kernel)) ggX10_interrupt_X9_hasEnded
set_option maxRecDepth 20000 in
theorem ggX10_interrupt_X6_at : GoodIn wsX10_interrupt wsX6_at := goodIn_r _ [15, 16, 87] (by decide +kernel) (by decide +kernel)
set_option maxRecDepth 20000 in
theorem gX10_interrupt_X6_at : GoodIn wsX10_interrupt (wsV RX10 120 RX6 yX6_at wsX6_at) := goodIn_app (goodIn_of _ (by decide +kernel)) ggX10_interrupt_X6_at
set_option maxRecDepth 20000 in
theorem ggX10_interrupt_X9_hasReason : GoodIn wsX10_interrupt wsX9_hasReason := goodIn_r _ [21, 22, 11, 12, 13, 14, 15, 16, 70, 71, 72, 73, 74, 75, 76, 77, 78, 79, 80, 81, 82, 83, 84, 85, 86, 87] (by decide +kernel) (by decide +kernel)
set_option maxRecDepth 20000 in
theorem gX10_interrupt_X9_hasReason : GoodIn wsX10_interrupt (wsV RX10 140 RX9 yX9_hasReason wsX9_hasReason) := goodIn_app (goodIn_of _ (by decide +kernel)) ggX10_interrupt_X9_hasReason
set_option maxRecDepth 20000 in
theorem ggX10_interrupt_X9_giveReason : GoodIn wsX10_interrupt wsX9_giveReason := goodIn_r _ [26, 22, 27, 28, 29, 30, 31, 14, 32, 16, 70, 71, 72, 73, 74, 75, 76, 77, 78, 79, 80, 81, 82, 83, 84, 85, 86, 87] (by decide +kernel) (by decide +kernel)
set_option maxRecDepth 20000 in
theorem gX10_interrupt_X9_giveReason : GoodIn wsX10_interrupt (wsV RX10 143 RX9 yX9_giveReason wsX9_giveReason) := goodIn_app (goodIn_of _ (by decide +kernel)) ggX10_interrupt_X9_giveReason
set_option maxRecDepth 20000 in
theorem ggX10_interrupt_X10_suppress : GoodIn wsX10_interrupt wsX10_suppress := goodIn_r _ [37, 38, 39, 40, 41, 14, 42, 16, 62, 63, 64, 65, 66, 67, 68, 69, 87] (by decide +kernel) (by decide +kernel)
set_option maxRecDepth 20000 in
theorem gX10_interrupt_X10_suppress : GoodIn wsX10_interrupt (wsV RX10 153 RX10 yX10_suppress wsX10_suppress) := goodIn_app (goodIn_of _ (by decide +kernel)) ggX10_interrupt_X10_suppress
set_option maxRecDepth 20000 in
theorem ggX10_interrupt_X9_executesCleanup : GoodIn wsX10_interrupt wsX9_executesCleanup := goodIn_r _ [46, 47, 11, 12, 13, 14, 15, 16, 70, 71, 72, 73, 74, 75, 76, 77, 78, 79, 80, 81, 82, 83, 84, 85, 86, 87] (by decide +kernel) (by decide +kernel)
set_option maxRecDepth 20000 in
theorem gX10_interrupt_X9_executesCleanup : GoodIn wsX10_interrupt (wsV RX10 156 RX9 yX9_executesCleanup wsX9_executesCleanup) := goodIn_app (goodIn_of _ (by decide +kernel)) ggX10_interrupt_X9_executesCleanup
set_option maxRecDepth 20000 in
theorem ggX10_interrupt_X10_makeReady : GoodIn wsX10_interrupt wsX10_makeReady := goodIn_r _ [51, 1, 2, 52, 53, 54, 30, 31, 14, 32, 16, 55, 56, 57, 58, 59, 60, 61, 62, 63, 64, 65, 66, 67, 68, 69, 70, 71, 72, 73, 74, 75, 76, 77, 78, 79, 80, 81, 82, 83, 84, 85, 86, 87, 88, 89] (by decide +kernel) (by decide +kernel)
set_option maxRecDepth 20000 in
theorem gX10_interrupt_X10_makeReady : GoodIn wsX10_interrupt (wsV RX10 159 RX10 yX10_makeReady wsX10_makeReady) := goodIn_app (goodIn_of _ (by decide +kernel)) ggX10_interrupt_X10_makeReady
theorem dX10_interrupt_0 : decode cX10_interrupt 0 = .ok (.aload_n 0, 1) := by decide +kernel
theorem dX10_interrupt_1 : decode cX10_interrupt 1 = .ok (.getfield 23, 3) := by decide +kernel
theorem dX10_interrupt_4 : decode cX10_interrupt 4 = .ok (.iload_n 1, 1) := by decide +kernel
theorem dX10_interrupt_5 : decode cX10_interrupt 5 = .ok (.invokevirtual 136, 3) := by decide +kernel
theorem dX10_interrupt_8 : decode cX10_interrupt 8 = .ok (.ifCond .eq 4, 3) := by decide +kernel
theorem dX10_interrupt_11 : decode cX10_interrupt 11 = .ok (.return_, 1) := by decide +kernel
theorem dX10_interrupt_12 : decode cX10_interrupt 12 = .ok (.aload_n 0, 1) := by decide +kernel
theorem dX10_interrupt_13 : decode cX10_interrupt 13 = .ok (.getfield 23, 3) := by decide +kernel
theorem dX10_interrupt_16 : decode cX10_interrupt 16 = .ok (.getfield 126, 3) := by decide +kernel
theorem dX10_interrupt_19 : decode cX10_interrupt 19 = .ok (.iload_n 1, 1) := by decide +kernel
theorem dX10_interrupt_20 : decode cX10_interrupt 20 = .ok (.invokevirtual 120, 3) := by decide +kernel
theorem dX10_interrupt_23 : decode cX10_interrupt 23 = .ok (.iconst 5, 1) := by decide +kernel
theorem dX10_interrupt_24 : decode cX10_interrupt 24 = .ok (.if_icmp .ne 18, 3) := by decide +kernel
theorem dX10_interrupt_27 : decode cX10_interrupt 27 = .ok (.aload_n 0, 1) := by decide +kernel
theorem dX10_interrupt_28 : decode cX10_interrupt 28 = .ok (.getfield 23, 3) := by decide +kernel
theorem dX10_interrupt_31 : decode cX10_interrupt 31 = .ok (.iload_n 1, 1) := by decide +kernel
theorem dX10_interrupt_32 : decode cX10_interrupt 32 = .ok (.invokevirtual 140, 3) := by decide +kernel
theorem dX10_interrupt_35 : decode cX10_interrupt 35 = .ok (.ifCond .eq 7, 3) := by decide +kernel
theorem dX10_interrupt_38 : decode cX10_interrupt 38 = .ok (.iconst 1, 1) := by decide +kernel
theorem dX10_interrupt_39 : decode cX10_interrupt 39 = .ok (.goto 4, 3) := by decide +kernel
theorem dX10_interrupt_42 : decode cX10_interrupt 42 = .ok (.iconst 0, 1) := by decide +kernel
theorem dX10_interrupt_43 : decode cX10_interrupt 43 = .ok (.istore 5, 2) := by decide +kernel
theorem dX10_interrupt_45 : decode cX10_interrupt 45 = .ok (.aload_n 0, 1) := by decide +kernel
theorem dX10_interrupt_46 : decode cX10_interrupt 46 = .ok (.getfield 23, 3) := by decide +kernel
theorem dX10_interrupt_49 : decode cX10_interrupt 49 = .ok (.iload_n 1, 1) := by decide +kernel
theorem dX10_interrupt_50 : decode cX10_interrupt 50 = .ok (.invokevirtual 140, 3) := by decide +kernel
theorem dX10_interrupt_53 : decode cX10_interrupt 53 = .ok (.ifCond .ne 18, 3) := by decide +kernel
theorem dX10_interrupt_56 : decode cX10_interrupt 56 = .ok (.aload_n 0, 1) := by decide +kernel
theorem dX10_interrupt_57 : decode cX10_interrupt 57 = .ok (.getfield 23, 3) := by decide +kernel
theorem dX10_interrupt_60 : decode cX10_interrupt 60 = .ok (.iload_n 1, 1) := by decide +kernel
theorem dX10_interrupt_61 : decode cX10_interrupt 61 = .ok (.iload_n 2, 1) := by decide +kernel
theorem dX10_interrupt_62 : decode cX10_interrupt 62 = .ok (.iload_n 3, 1) := by decide +kernel
theorem dX10_interrupt_63 : decode cX10_interrupt 63 = .ok (.iload 4, 2) := by decide +kernel
theorem dX10_interrupt_65 : decode cX10_interrupt 65 = .ok (.invokevirtual 143, 3) := by decide +kernel
theorem dX10_interrupt_68 : decode cX10_interrupt 68 = .ok (.goto 53, 3) := by decide +kernel
theorem dX10_interrupt_71 : decode cX10_interrupt 71 = .ok (.iload_n 3, 1) := by decide +kernel
theorem dX10_interrupt_72 : decode cX10_interrupt 72 = .ok (.aload_n 0, 1) := by decide +kernel
theorem dX10_interrupt_73 : decode cX10_interrupt 73 = .ok (.getfield 23, 3) := by decide +kernel
theorem dX10_interrupt_76 : decode cX10_interrupt 76 = .ok (.getfield 147, 3) := by decide +kernel
theorem dX10_interrupt_79 : decode cX10_interrupt 79 = .ok (.iload_n 1, 1) := by decide +kernel
theorem dX10_interrupt_80 : decode cX10_interrupt 80 = .ok (.invokevirtual 120, 3) := by decide +kernel
theorem dX10_interrupt_83 : decode cX10_interrupt 83 = .ok (.if_icmp .ge 33, 3) := by decide +kernel
theorem dX10_interrupt_86 : decode cX10_interrupt 86 = .ok (.aload_n 0, 1) := by decide +kernel
theorem dX10_interrupt_87 : decode cX10_interrupt 87 = .ok (.aload_n 0, 1) := by decide +kernel
theorem dX10_interrupt_88 : decode cX10_interrupt 88 = .ok (.getfield 23, 3) := by decide +kernel
theorem dX10_interrupt_91 : decode cX10_interrupt 91 = .ok (.getfield 150, 3) := by decide +kernel
theorem dX10_interrupt_94 : decode cX10_interrupt 94 = .ok (.iload_n 1, 1) := by decide +kernel
theorem dX10_interrupt_95 : decode cX10_interrupt 95 = .ok (.invokevirtual 120, 3) := by decide +kernel
theorem dX10_interrupt_98 : decode cX10_interrupt 98 = .ok (.invokevirtual 153, 3) := by decide +kernel
theorem dX10_interrupt_101 : decode cX10_interrupt 101 = .ok (.aload_n 0, 1) := by decide +kernel
theorem dX10_interrupt_102 : decode cX10_interrupt 102 = .ok (.getfield 23, 3) := by decide +kernel
theorem dX10_interrupt_105 : decode cX10_interrupt 105 = .ok (.iload_n 1, 1) := by decide +kernel
theorem dX10_interrupt_106 : decode cX10_interrupt 106 = .ok (.iload_n 2, 1) := by decide +kernel
theorem dX10_interrupt_107 : decode cX10_interrupt 107 = .ok (.iload_n 3, 1) := by decide +kernel
theorem dX10_interrupt_108 : decode cX10_interrupt 108 = .ok (.iload 4, 2) := by decide +kernel
theorem dX10_interrupt_110 : decode cX10_interrupt 110 = .ok (.invokevirtual 143, 3) := by decide +kernel
theorem dX10_interrupt_113 : decode cX10_interrupt 113 = .ok (.goto 8, 3) := by decide +kernel
theorem dX10_interrupt_116 : decode cX10_interrupt 116 = .ok (.aload_n 0, 1) := by decide +kernel
theorem dX10_interrupt_117 : decode cX10_interrupt 117 = .ok (.iload_n 2, 1) := by decide +kernel
theorem dX10_interrupt_118 : decode cX10_interrupt 118 = .ok (.invokevirtual 153, 3) := by decide +kernel
theorem dX10_interrupt_121 : decode cX10_interrupt 121 = .ok (.aload_n 0, 1) := by decide +kernel
theorem dX10_interrupt_122 : decode cX10_interrupt 122 = .ok (.getfield 23, 3) := by decide +kernel
theorem dX10_interrupt_125 : decode cX10_interrupt 125 = .ok (.getfield 126, 3) := by decide +kernel
theorem dX10_interrupt_128 : decode cX10_interrupt 128 = .ok (.iload_n 1, 1) := by decide +kernel
theorem dX10_interrupt_129 : decode cX10_interrupt 129 = .ok (.invokevirtual 120, 3) := by decide +kernel
theorem dX10_interrupt_132 : decode cX10_interrupt 132 = .ok (.ifCond .eq 12, 3) := by decide +kernel
theorem dX10_interrupt_135 : decode cX10_interrupt 135 = .ok (.iload 5, 2) := by decide +kernel
theorem dX10_interrupt_137 : decode cX10_interrupt 137 = .ok (.ifCond .ne 7, 3) := by decide +kernel
theorem dX10_interrupt_140 : decode cX10_interrupt 140 = .ok (.iconst 1, 1) := by decide +kernel
theorem dX10_interrupt_141 : decode cX10_interrupt 141 = .ok (.goto 4, 3) := by decide +kernel
theorem dX10_interrupt_144 : decode cX10_interrupt 144 = .ok (.iconst 0, 1) := by decide +kernel
theorem dX10_interrupt_145 : decode cX10_interrupt 145 = .ok (.istore 6, 2) := by decide +kernel
theorem dX10_interrupt_147 : decode cX10_interrupt 147 = .ok (.iload 6, 2) := by decide +kernel
theorem dX10_interrupt_149 : decode cX10_interrupt 149 = .ok (.ifCond .eq 19, 3) := by decide +kernel
theorem dX10_interrupt_152 : decode cX10_interrupt 152 = .ok (.aload_n 0, 1) := by decide +kernel
theorem dX10_interrupt_153 : decode cX10_interrupt 153 = .ok (.getfield 23, 3) := by decide +kernel
theorem dX10_interrupt_156 : decode cX10_interrupt 156 = .ok (.iload_n 1, 1) := by decide +kernel
theorem dX10_interrupt_157 : decode cX10_interrupt 157 = .ok (.invokevirtual 156, 3) := by decide +kernel
theorem dX10_interrupt_160 : decode cX10_interrupt 160 = .ok (.ifCond .ne 8, 3) := by decide +kernel
theorem dX10_interrupt_163 : decode cX10_interrupt 163 = .ok (.aload_n 0, 1) := by decide +kernel
theorem dX10_interrupt_164 : decode cX10_interrupt 164 = .ok (.iload_n 1, 1) := by decide +kernel
theorem dX10_interrupt_165 : decode cX10_interrupt 165 = .ok (.invokevirtual 159, 3) := by decide +kernel
theorem dX10_interrupt_168 : decode cX10_interrupt 168 = .ok (.return_, 1) := by decide +kernel
set_option maxRecDepth 20000 in
theorem ggX10_suppress_X6_change : GoodIn wsX10_suppress wsX6_change := goodIn_r _ [6, 7, 16] (by decide +kernel) (by decide +kernel)
set_option maxRecDepth 20000 in
theorem gX10_suppress_X6_change : GoodIn wsX10_suppress (wsV RX10 162 RX6 yX6_change wsX6_change) := goodIn_app (goodIn_of _ (by decide +kernel)) ggX10_suppress_X6_change
theorem dX10_suppress_0 : decode cX10_suppress 0 = .ok (.iload_n 1, 1) := by decide +kernel
theorem dX10_suppress_1 : decode cX10_suppress 1 = .ok (.iconst 3, 1) := by decide +kernel
theorem dX10_suppress_2 : decode cX10_suppress 2 = .ok (.if_icmp .ne 13, 3) := by decide +kernel
theorem dX10_suppress_5 : decode cX10_suppress 5 = .ok (.aload_n 0, 1) := by decide +kernel
theorem dX10_suppress_6 : decode cX10_suppress 6 = .ok (.getfield 61, 3) := by decide +kernel
theorem dX10_suppress_9 : decode cX10_suppress 9 = .ok (.bipush 9, 2) := by decide +kernel
theorem dX10_suppress_11 : decode cX10_suppress 11 = .ok (.iconst 1, 1) := by decide +kernel
theorem dX10_suppress_12 : decode cX10_suppress 12 = .ok (.invokevirtual 162, 3) := by decide +kernel
theorem dX10_suppress_15 : decode cX10_suppress 15 = .ok (.return_, 1) := by decide +kernel
set_option maxRecDepth 20000 in
theorem ggX10_fail_X3_add : GoodIn wsX10_fail wsX3_add := goodIn_r _ [6, 7, 8, 9, 10, 11, 12, 13, 14, 15, 16, 17, 18, 19, 20, 100, 101, 102, 103, 104] (by decide +kernel) (by decide +kernel)
set_option maxRecDepth 20000 in
theorem gX10_fail_X3_add : GoodIn wsX10_fail (wsV RX10 165 RX3 yX3_add wsX3_add) := goodIn_app (goodIn_of _ (by decide +kernel)) ggX10_fail_X3_add
set_option maxRecDepth 20000 in
theorem ggX10_fail_X10_guardLevel : GoodIn wsX10_fail wsX10_guardLevel := goodIn_r _ [25, 26, 27, 28, 29, 30, 31, 32, 33, 34, 35, 36, 37, 38, 39, 40, 41, 42, 92, 93, 94, 95, 96, 97, 98, 99, 105, 106, 107, 108, 109, 110, 111, 112, 113, 114, 115, 116, 117, 118, 119, 120, 121, 122, 123, 124, 125, 126, 127, 128, 129, 130, 131, 132, 133] (by decide +kernel) (by decide +kernel)
set_option maxRecDepth 20000 in
theorem gX10_fail_X10_guardLevel : GoodIn wsX10_fail (wsV RX10 168 RX10 yX10_guardLevel wsX10_guardLevel) := goodIn_app (goodIn_of _ (by decide +kernel)) ggX10_fail_X10_guardLevel
set_option maxRecDepth 20000 in
theorem ggX10_fail_X10_interrupt : GoodIn wsX10_fail wsX10_interrupt := goodIn_r _ [46, 28, 47, 48, 49, 50, 51, 52, 32, 53, 54, 36, 37, 38, 39, 40, 41, 42, 55, 56, 57, 58, 59, 60, 61, 62, 63, 64, 65, 66, 67, 68, 69, 70, 71, 72, 24, 73, 74, 75, 76, 77, 78, 79, 80, 81, 82, 83, 84, 85, 86, 87, 88, 89, 90, 91, 17, 18, 13, 19, 15, 20, 92, 93, 94, 95, 96, 97, 98, 99, 116, 117, 118, 119, 120, 121, 122, 123, 124, 125, 126, 127, 128, 129, 130, 131, 132, 133, 103, 104] (by decide +kernel) (by decide +kernel)
set_option maxRecDepth 20000 in
theorem gX10_fail_X10_interrupt : GoodIn wsX10_fail (wsV RX10 172 RX10 yX10_interrupt wsX10_interrupt) := goodIn_app (goodIn_of _ (by decide +kernel)) ggX10_fail_X10_interrupt
theorem dX10_fail_0 : decode cX10_fail 0 = .ok (.aload_n 0, 1) := by decide +kernel
theorem dX10_fail_1 : decode cX10_fail 1 = .ok (.getfield 44, 3) := by decide +kernel
theorem dX10_fail_4 : decode cX10_fail 4 = .ok (.iload_n 2, 1) := by decide +kernel
theorem dX10_fail_5 : decode cX10_fail 5 = .ok (.iload_n 1, 1) := by decide +kernel
theorem dX10_fail_6 : decode cX10_fail 6 = .ok (.iload_n 3, 1) := by decide +kernel
theorem dX10_fail_7 : decode cX10_fail 7 = .ok (.invokevirtual 165, 3) := by decide +kernel
theorem dX10_fail_10 : decode cX10_fail 10 = .ok (.istore 5, 2) := by decide +kernel
theorem dX10_fail_12 : decode cX10_fail 12 = .ok (.aload_n 0, 1) := by decide +kernel
theorem dX10_fail_13 : decode cX10_fail 13 = .ok (.iload_n 1, 1) := by decide +kernel
theorem dX10_fail_14 : decode cX10_fail 14 = .ok (.iconst 3, 1) := by decide +kernel
theorem dX10_fail_15 : decode cX10_fail 15 = .ok (.aload_n 0, 1) := by decide +kernel
theorem dX10_fail_16 : decode cX10_fail 16 = .ok (.iload_n 1, 1) := by decide +kernel
theorem dX10_fail_17 : decode cX10_fail 17 = .ok (.iload 4, 2) := by decide +kernel
theorem dX10_fail_19 : decode cX10_fail 19 = .ok (.invokevirtual 168, 3) := by decide +kernel
theorem dX10_fail_22 : decode cX10_fail 22 = .ok (.iload 5, 2) := by decide +kernel
theorem dX10_fail_24 : decode cX10_fail 24 = .ok (.invokevirtual 172, 3) := by decide +kernel
theorem dX10_fail_27 : decode cX10_fail 27 = .ok (.return_, 1) := by decide +kernel
set_option maxRecDepth 20000 in
theorem ggX10_guardLevel_X9_scopeAt : GoodIn wsX10_guardLevel wsX9_scopeAt := goodIn_r _ [8, 9, 10, 11, 12, 13, 14, 15, 16, 37, 38, 39, 40, 41, 42, 43, 44, 45, 46, 47, 48, 49, 50, 51, 52, 53, 54] (by decide +kernel) (by decide +kernel)
set_option maxRecDepth 20000 in
theorem gX10_guardLevel_X9_scopeAt : GoodIn wsX10_guardLevel (wsV RX10 178 RX9 yX9_scopeAt wsX9_scopeAt) := goodIn_app (goodIn_of _ (by decide +kernel)) ggX10_guardLevel_X9_scopeAt
set_option maxRecDepth 20000 in
theorem ggX10_guardLevel_X6_at : GoodIn wsX10_guardLevel wsX6_at := goodIn_r _ [15, 16, 54] (by decide +kernel) (by decide +kernel)
set_option maxRecDepth 20000 in
theorem gX10_guardLevel_X6_at : GoodIn wsX10_guardLevel (wsV RX10 120 RX6 yX6_at wsX6_at) := goodIn_app (goodIn_of _ (by decide +kernel)) ggX10_guardLevel_X6_at
theorem dX10_guardLevel_0 : decode cX10_guardLevel 0 = .ok (.iload_n 2, 1) := by decide +kernel
theorem dX10_guardLevel_1 : decode cX10_guardLevel 1 = .ok (.istore_n 3, 1) := by decide +kernel
theorem dX10_guardLevel_2 : decode cX10_guardLevel 2 = .ok (.iload_n 3, 1) := by decide +kernel
theorem dX10_guardLevel_3 : decode cX10_guardLevel 3 = .ok (.ifCond .lt 34, 3) := by decide +kernel
theorem dX10_guardLevel_6 : decode cX10_guardLevel 6 = .ok (.aload_n 0, 1) := by decide +kernel
theorem dX10_guardLevel_7 : decode cX10_guardLevel 7 = .ok (.getfield 30, 3) := by decide +kernel
theorem dX10_guardLevel_10 : decode cX10_guardLevel 10 = .ok (.getfield 175, 3) := by decide +kernel
theorem dX10_guardLevel_13 : decode cX10_guardLevel 13 = .ok (.aload_n 0, 1) := by decide +kernel
theorem dX10_guardLevel_14 : decode cX10_guardLevel 14 = .ok (.getfield 23, 3) := by decide +kernel
theorem dX10_guardLevel_17 : decode cX10_guardLevel 17 = .ok (.iload_n 1, 1) := by decide +kernel
theorem dX10_guardLevel_18 : decode cX10_guardLevel 18 = .ok (.iload_n 3, 1) := by decide +kernel
theorem dX10_guardLevel_19 : decode cX10_guardLevel 19 = .ok (.invokevirtual 178, 3) := by decide +kernel
theorem dX10_guardLevel_22 : decode cX10_guardLevel 22 = .ok (.invokevirtual 120, 3) := by decide +kernel
theorem dX10_guardLevel_25 : decode cX10_guardLevel 25 = .ok (.iconst 2, 1) := by decide +kernel
theorem dX10_guardLevel_26 : decode cX10_guardLevel 26 = .ok (.if_icmp .ne 5, 3) := by decide +kernel
theorem dX10_guardLevel_29 : decode cX10_guardLevel 29 = .ok (.iload_n 3, 1) := by decide +kernel
theorem dX10_guardLevel_30 : decode cX10_guardLevel 30 = .ok (.ireturn, 1) := by decide +kernel
theorem dX10_guardLevel_31 : decode cX10_guardLevel 31 = .ok (.iinc 3 (-1), 3) := by decide +kernel
theorem dX10_guardLevel_34 : decode cX10_guardLevel 34 = .ok (.goto (-32), 3) := by decide +kernel
theorem dX10_guardLevel_37 : decode cX10_guardLevel 37 = .ok (.iconst (-1), 1) := by decide +kernel
theorem dX10_guardLevel_38 : decode cX10_guardLevel 38 = .ok (.ireturn, 1) := by decide +kernel
set_option maxRecDepth 20000 in
theorem ggX10_cancelChildren_X6_at : GoodIn wsX10_cancelChildren wsX6_at := goodIn_r _ [8, 9, 93] (by decide +kernel) (by decide +kernel)
set_option maxRecDepth 20000 in
theorem gX10_cancelChildren_X6_at : GoodIn wsX10_cancelChildren (wsV RX10 120 RX6 yX6_at wsX6_at) := goodIn_app (goodIn_of _ (by decide +kernel)) ggX10_cancelChildren_X6_at
set_option maxRecDepth 20000 in
theorem ggX10_cancelChildren_X10_interrupt : GoodIn wsX10_cancelChildren wsX10_interrupt := goodIn_r _ [14, 1, 15, 16, 17, 18, 19, 20, 21, 22, 23, 24, 5, 6, 7, 8, 9, 4, 25, 26, 27, 28, 29, 30, 31, 32, 33, 34, 35, 36, 37, 38, 39, 40, 41, 42, 13, 43, 44, 45, 46, 47, 48, 49, 50, 51, 52, 53, 54, 55, 56, 57, 58, 59, 60, 61, 62, 63, 64, 65, 66, 67, 68, 69, 70, 71, 72, 73, 74, 75, 76, 77, 78, 79, 80, 81, 82, 83, 84, 85, 86, 87, 88, 89, 90, 91, 92, 93, 94, 95] (by decide +kernel) (by decide +kernel)
set_option maxRecDepth 20000 in
theorem gX10_cancelChildren_X10_interrupt : GoodIn wsX10_cancelChildren (wsV RX10 172 RX10 yX10_interrupt wsX10_interrupt) := goodIn_app (goodIn_of _ (by decide +kernel)) ggX10_cancelChildren_X10_interrupt
theorem dX10_cancelChildren_0 : decode cX10_cancelChildren 0 = .ok (.iconst 0, 1) := by decide +kernel
theorem dX10_cancelChildren_1 : decode cX10_cancelChildren 1 = .ok (.istore_n 2, 1) := by decide +kernel
theorem dX10_cancelChildren_2 : decode cX10_cancelChildren 2 = .ok (.iload_n 2, 1) := by decide +kernel
theorem dX10_cancelChildren_3 : decode cX10_cancelChildren 3 = .ok (.aload_n 0, 1) := by decide +kernel
theorem dX10_cancelChildren_4 : decode cX10_cancelChildren 4 = .ok (.getfield 23, 3) := by decide +kernel
theorem dX10_cancelChildren_7 : decode cX10_cancelChildren 7 = .ok (.getfield 87, 3) := by decide +kernel
theorem dX10_cancelChildren_10 : decode cX10_cancelChildren 10 = .ok (.if_icmp .ge 32, 3) := by decide +kernel
theorem dX10_cancelChildren_13 : decode cX10_cancelChildren 13 = .ok (.aload_n 0, 1) := by decide +kernel
theorem dX10_cancelChildren_14 : decode cX10_cancelChildren 14 = .ok (.getfield 23, 3) := by decide +kernel
theorem dX10_cancelChildren_17 : decode cX10_cancelChildren 17 = .ok (.getfield 117, 3) := by decide +kernel
theorem dX10_cancelChildren_20 : decode cX10_cancelChildren 20 = .ok (.iload_n 2, 1) := by decide +kernel
theorem dX10_cancelChildren_21 : decode cX10_cancelChildren 21 = .ok (.invokevirtual 120, 3) := by decide +kernel
theorem dX10_cancelChildren_24 : decode cX10_cancelChildren 24 = .ok (.iload_n 1, 1) := by decide +kernel
theorem dX10_cancelChildren_25 : decode cX10_cancelChildren 25 = .ok (.if_icmp .ne 11, 3) := by decide +kernel
theorem dX10_cancelChildren_28 : decode cX10_cancelChildren 28 = .ok (.aload_n 0, 1) := by decide +kernel
theorem dX10_cancelChildren_29 : decode cX10_cancelChildren 29 = .ok (.iload_n 2, 1) := by decide +kernel
theorem dX10_cancelChildren_30 : decode cX10_cancelChildren 30 = .ok (.iconst 1, 1) := by decide +kernel
theorem dX10_cancelChildren_31 : decode cX10_cancelChildren 31 = .ok (.iconst (-1), 1) := by decide +kernel
theorem dX10_cancelChildren_32 : decode cX10_cancelChildren 32 = .ok (.iconst (-1), 1) := by decide +kernel
theorem dX10_cancelChildren_33 : decode cX10_cancelChildren 33 = .ok (.invokevirtual 172, 3) := by decide +kernel
theorem dX10_cancelChildren_36 : decode cX10_cancelChildren 36 = .ok (.iinc 2 1, 3) := by decide +kernel
theorem dX10_cancelChildren_39 : decode cX10_cancelChildren 39 = .ok (.goto (-37), 3) := by decide +kernel
theorem dX10_cancelChildren_42 : decode cX10_cancelChildren 42 = .ok (.return_, 1) := by decide +kernel
set_option maxRecDepth 20000 in
theorem ggX11_init_X4_init : GoodIn wsX11_init wsX4_init := goodIn_r _ [24, 25, 2, 3, 26, 27, 28, 29, 30, 31, 170, 171] (by decide +kernel) (by decide +kernel)
set_option maxRecDepth 20000 in
theorem gX11_init_X4_init : GoodIn wsX11_init (wsX4_init) := ggX11_init_X4_init
set_option maxRecDepth 20000 in
theorem ggX11_init_X5_init : GoodIn wsX11_init wsX5_init := goodIn_r _ [34, 35, 2, 3, 36, 37, 38, 39, 40, 41, 42, 43, 44, 5, 6, 45, 46, 47, 48, 49, 50, 51, 52, 53, 54, 55, 56, 57, 58, 59, 27, 28, 29, 30, 60, 61, 62, 23, 24, 25, 26, 31, 198, 199, 179, 180, 181, 182, 183, 184, 185, 200, 170, 171] (by decide +kernel) (by decide +kernel)
set_option maxRecDepth 20000 in
theorem gX11_init_X5_init : GoodIn wsX11_init (wsX5_init) := ggX11_init_X5_init
set_option maxRecDepth 20000 in
theorem ggX11_init_X10_init : GoodIn wsX11_init wsX10_init := goodIn_r _ [64, 65, 2, 3, 66, 37, 38, 67, 68, 69, 70, 71, 72, 73, 74, 75, 76, 77, 78, 79, 80, 81, 82, 83, 84, 5, 6, 85, 86, 87, 41, 42, 88, 89, 49, 50, 51, 52, 53, 54, 55, 56, 57, 58, 59, 27, 28, 29, 30, 60, 90, 91, 92, 93, 94, 95, 96, 97, 98, 99, 100, 101, 102, 103, 104, 105, 106, 107, 108, 109, 110, 111, 112, 113, 114, 115, 116, 117, 118, 119, 120, 121, 122, 123, 124, 125, 126, 127, 128, 129, 130, 131, 132, 133, 134, 135, 136, 137, 138, 139, 140, 141, 142, 143, 144, 145, 23, 24, 25, 26, 31, 146, 147, 198, 199, 186, 187, 188, 189, 190, 191, 192, 193, 201, 202, 203, 204, 205, 206, 207, 208, 209, 210, 211, 212, 213, 214, 215, 216, 217, 218, 219, 220, 221, 222, 223, 224, 225, 226, 227, 228, 229, 230, 231, 232, 233, 234, 170, 171, 200] (by decide +kernel) (by decide +kernel)
set_option maxRecDepth 20000 in
theorem gX11_init_X10_init_n29 : GoodIn wsX11_init (wsX10_init) := ggX11_init_X10_init
set_option maxRecDepth 20000 in
theorem ggX11_init_X7_init : GoodIn wsX11_init wsX7_init := goodIn_r _ [150, 151, 2, 3, 152, 153, 154, 155, 156, 157, 158, 159, 160, 161, 162, 163, 164, 165, 166, 167, 168, 169, 194, 195, 196, 197, 186, 187, 188, 189, 190, 191, 192, 193, 235, 236, 237] (by decide +kernel) (by decide +kernel)
set_option maxRecDepth 20000 in
theorem gX11_init_X7_init : GoodIn wsX11_init (wsX7_init) := ggX11_init_X7_init
theorem dX11_init_0 : decode cX11_init 0 = .ok (.aload_n 0, 1) := by decide +kernel
theorem dX11_init_1 : decode cX11_init 1 = .ok (.invokespecial 3, 3) := by decide +kernel
theorem dX11_init_4 : decode cX11_init 4 = .ok (.aload_n 0, 1) := by decide +kernel
theorem dX11_init_5 : decode cX11_init 5 = .ok (.new 9, 3) := by decide +kernel
theorem dX11_init_8 : decode cX11_init 8 = .ok (.dup, 1) := by decide +kernel
theorem dX11_init_9 : decode cX11_init 9 = .ok (.bipush 60, 2) := by decide +kernel
theorem dX11_init_11 : decode cX11_init 11 = .ok (.invokespecial 11, 3) := by decide +kernel
theorem dX11_init_14 : decode cX11_init 14 = .ok (.putfield 14, 3) := by decide +kernel
theorem dX11_init_17 : decode cX11_init 17 = .ok (.aload_n 0, 1) := by decide +kernel
theorem dX11_init_18 : decode cX11_init 18 = .ok (.new 18, 3) := by decide +kernel
theorem dX11_init_21 : decode cX11_init 21 = .ok (.dup, 1) := by decide +kernel
theorem dX11_init_22 : decode cX11_init 22 = .ok (.aload_n 0, 1) := by decide +kernel
theorem dX11_init_23 : decode cX11_init 23 = .ok (.getfield 14, 3) := by decide +kernel
theorem dX11_init_26 : decode cX11_init 26 = .ok (.invokespecial 20, 3) := by decide +kernel
theorem dX11_init_29 : decode cX11_init 29 = .ok (.putfield 23, 3) := by decide +kernel
theorem dX11_init_32 : decode cX11_init 32 = .ok (.aload_n 0, 1) := by decide +kernel
theorem dX11_init_33 : decode cX11_init 33 = .ok (.new 27, 3) := by decide +kernel
theorem dX11_init_36 : decode cX11_init 36 = .ok (.dup, 1) := by decide +kernel
theorem dX11_init_37 : decode cX11_init 37 = .ok (.invokespecial 29, 3) := by decide +kernel
theorem dX11_init_40 : decode cX11_init 40 = .ok (.putfield 30, 3) := by decide +kernel
theorem dX11_init_43 : decode cX11_init 43 = .ok (.aload_n 0, 1) := by decide +kernel
theorem dX11_init_44 : decode cX11_init 44 = .ok (.new 27, 3) := by decide +kernel
theorem dX11_init_47 : decode cX11_init 47 = .ok (.dup, 1) := by decide +kernel
theorem dX11_init_48 : decode cX11_init 48 = .ok (.invokespecial 29, 3) := by decide +kernel
theorem dX11_init_51 : decode cX11_init 51 = .ok (.putfield 34, 3) := by decide +kernel
theorem dX11_init_54 : decode cX11_init 54 = .ok (.aload_n 0, 1) := by decide +kernel
theorem dX11_init_55 : decode cX11_init 55 = .ok (.new 37, 3) := by decide +kernel
theorem dX11_init_58 : decode cX11_init 58 = .ok (.dup, 1) := by decide +kernel
theorem dX11_init_59 : decode cX11_init 59 = .ok (.aload_n 0, 1) := by decide +kernel
theorem dX11_init_60 : decode cX11_init 60 = .ok (.getfield 30, 3) := by decide +kernel
theorem dX11_init_63 : decode cX11_init 63 = .ok (.invokespecial 39, 3) := by decide +kernel
theorem dX11_init_66 : decode cX11_init 66 = .ok (.putfield 42, 3) := by decide +kernel
theorem dX11_init_69 : decode cX11_init 69 = .ok (.aload_n 0, 1) := by decide +kernel
theorem dX11_init_70 : decode cX11_init 70 = .ok (.iconst (-1), 1) := by decide +kernel
theorem dX11_init_71 : decode cX11_init 71 = .ok (.putfield 46, 3) := by decide +kernel
theorem dX11_init_74 : decode cX11_init 74 = .ok (.return_, 1) := by decide +kernel
set_option maxRecDepth 20000 in
theorem ggX11_append_X11_countCharacters : GoodIn wsX11_append wsX11_countCharacters := goodIn_r _ [9] (by decide +kernel) (by decide +kernel)
set_option maxRecDepth 20000 in
theorem gX11_append_X11_countCharacters : GoodIn wsX11_append (va_wsS RX11 50 yX11_countCharacters wsX11_countCharacters) := goodIn_app (goodIn_of _ (by decide +kernel)) ggX11_append_X11_countCharacters
set_option maxRecDepth 20000 in
theorem ggX11_append_X4_size : GoodIn wsX11_append wsX4_size := goodIn_r _ [14, 15, 28, 29] (by decide +kernel) (by decide +kernel)
set_option maxRecDepth 20000 in
theorem gX11_append_X4_size : GoodIn wsX11_append (wsV RX11 61 RX4 yX4_size wsX4_size) := goodIn_app (goodIn_of _ (by decide +kernel)) ggX11_append_X4_size
set_option maxRecDepth 20000 in
theorem ggX11_append_X4_add : GoodIn wsX11_append wsX4_add := goodIn_r _ [19, 15, 20, 28, 29] (by decide +kernel) (by decide +kernel)
set_option maxRecDepth 20000 in
theorem gX11_append_X4_add : GoodIn wsX11_append (wsV RX11 70 RX4 yX4_add wsX4_add) := goodIn_app (goodIn_of _ (by decide +kernel)) ggX11_append_X4_add
theorem dX11_append_0 : decode cX11_append 0 = .ok (.iload_n 1, 1) := by decide +kernel
theorem dX11_append_1 : decode cX11_append 1 = .ok (.invokestatic 50, 3) := by decide +kernel
theorem dX11_append_4 : decode cX11_append 4 = .ok (.istore_n 2, 1) := by decide +kernel
theorem dX11_append_5 : decode cX11_append 5 = .ok (.iload_n 2, 1) := by decide +kernel
theorem dX11_append_6 : decode cX11_append 6 = .ok (.iconst (-1), 1) := by decide +kernel
theorem dX11_append_7 : decode cX11_append 7 = .ok (.if_icmp .ne 13, 3) := by decide +kernel
theorem dX11_append_10 : decode cX11_append 10 = .ok (.new 54, 3) := by decide +kernel
theorem dX11_append_13 : decode cX11_append 13 = .ok (.dup, 1) := by decide +kernel
theorem dX11_append_14 : decode cX11_append 14 = .ok (.ldc 56, 2) := by decide +kernel
theorem dX11_append_16 : decode cX11_append 16 = .ok (.invokespecial 58, 3) := by decide +kernel
theorem dX11_append_19 : decode cX11_append 19 = .ok (.athrow, 1) := by decide +kernel
theorem dX11_append_20 : decode cX11_append 20 = .ok (.aload_n 0, 1) := by decide +kernel
theorem dX11_append_21 : decode cX11_append 21 = .ok (.getfield 14, 3) := by decide +kernel
theorem dX11_append_24 : decode cX11_append 24 = .ok (.invokevirtual 61, 3) := by decide +kernel
theorem dX11_append_27 : decode cX11_append 27 = .ok (.iload_n 2, 1) := by decide +kernel
theorem dX11_append_28 : decode cX11_append 28 = .ok (.iadd, 1) := by decide +kernel
theorem dX11_append_29 : decode cX11_append 29 = .ok (.bipush 60, 2) := by decide +kernel
theorem dX11_append_31 : decode cX11_append 31 = .ok (.if_icmp .le 13, 3) := by decide +kernel
theorem dX11_append_34 : decode cX11_append 34 = .ok (.new 65, 3) := by decide +kernel
theorem dX11_append_37 : decode cX11_append 37 = .ok (.dup, 1) := by decide +kernel
theorem dX11_append_38 : decode cX11_append 38 = .ok (.ldc 67, 2) := by decide +kernel
theorem dX11_append_40 : decode cX11_append 40 = .ok (.invokespecial 69, 3) := by decide +kernel
theorem dX11_append_43 : decode cX11_append 43 = .ok (.athrow, 1) := by decide +kernel
theorem dX11_append_44 : decode cX11_append 44 = .ok (.bipush 24, 2) := by decide +kernel
theorem dX11_append_46 : decode cX11_append 46 = .ok (.istore_n 3, 1) := by decide +kernel
theorem dX11_append_47 : decode cX11_append 47 = .ok (.iload_n 3, 1) := by decide +kernel
theorem dX11_append_48 : decode cX11_append 48 = .ok (.ifCond .lt 32, 3) := by decide +kernel
theorem dX11_append_51 : decode cX11_append 51 = .ok (.iload_n 1, 1) := by decide +kernel
theorem dX11_append_52 : decode cX11_append 52 = .ok (.iload_n 3, 1) := by decide +kernel
theorem dX11_append_53 : decode cX11_append 53 = .ok (.iushr, 1) := by decide +kernel
theorem dX11_append_54 : decode cX11_append 54 = .ok (.sipush 255, 3) := by decide +kernel
theorem dX11_append_57 : decode cX11_append 57 = .ok (.iand, 1) := by decide +kernel
theorem dX11_append_58 : decode cX11_append 58 = .ok (.istore 4, 2) := by decide +kernel
theorem dX11_append_60 : decode cX11_append 60 = .ok (.iload 4, 2) := by decide +kernel
theorem dX11_append_62 : decode cX11_append 62 = .ok (.ifCond .eq 12, 3) := by decide +kernel
theorem dX11_append_65 : decode cX11_append 65 = .ok (.aload_n 0, 1) := by decide +kernel
theorem dX11_append_66 : decode cX11_append 66 = .ok (.getfield 14, 3) := by decide +kernel
theorem dX11_append_69 : decode cX11_append 69 = .ok (.iload 4, 2) := by decide +kernel
theorem dX11_append_71 : decode cX11_append 71 = .ok (.invokevirtual 70, 3) := by decide +kernel
theorem dX11_append_74 : decode cX11_append 74 = .ok (.iinc 3 (-8), 3) := by decide +kernel
theorem dX11_append_77 : decode cX11_append 77 = .ok (.goto (-30), 3) := by decide +kernel
theorem dX11_append_80 : decode cX11_append 80 = .ok (.aload_n 0, 1) := by decide +kernel
theorem dX11_append_81 : decode cX11_append 81 = .ok (.getfield 14, 3) := by decide +kernel
theorem dX11_append_84 : decode cX11_append 84 = .ok (.invokevirtual 61, 3) := by decide +kernel
theorem dX11_append_87 : decode cX11_append 87 = .ok (.ireturn, 1) := by decide +kernel
set_option maxRecDepth 20000 in
theorem ggX11_execute_X5_read : GoodIn wsX11_execute wsX5_read := goodIn_r _ [13, 14, 15, 16, 17, 18, 19, 20, 21, 22, 23, 24, 25, 26, 27, 28, 29, 30, 31, 32, 33, 34, 35, 36, 37, 38, 12, 39, 40, 41, 42, 43, 44, 45, 46, 47, 48, 49, 50, 51, 52, 53, 54, 55, 56, 57, 58, 59, 60, 61, 62, 63, 64, 65, 66, 67, 68, 69, 70, 71, 72, 73, 74, 75, 76, 77, 78, 79, 80, 81, 82, 83, 84, 85, 86, 87, 88, 89, 90, 91, 92, 93, 94, 95, 96, 97, 98, 99, 100, 101, 102, 103, 152, 153, 154, 155, 156, 157, 158, 159, 160, 161, 162, 163] (by decide +kernel) (by decide +kernel)
set_option maxRecDepth 20000 in
theorem gX11_execute_X5_read : GoodIn wsX11_execute (wsV RX11 73 RX5 yX5_read wsX5_read) := goodIn_app (goodIn_of _ (by decide +kernel)) ggX11_execute_X5_read
set_option maxRecDepth 20000 in
theorem ggX11_execute_X4_clear : GoodIn wsX11_execute wsX4_clear := goodIn_r _ [30, 31, 160, 161] (by decide +kernel) (by decide +kernel)
set_option maxRecDepth 20000 in
theorem gX11_execute_X4_clear : GoodIn wsX11_execute (wsV RX11 76 RX4 yX4_clear wsX4_clear) := goodIn_app (goodIn_of _ (by decide +kernel)) ggX11_execute_X4_clear
set_option maxRecDepth 20000 in
theorem ggX11_execute_X5_roomsSuit : GoodIn wsX11_execute wsX5_roomsSuit := goodIn_r _ [108, 15, 16, 109, 110, 32, 33, 34, 29, 35, 31, 111, 112, 113, 114, 115, 116, 117, 118, 119, 40, 41, 42, 43, 44, 120, 98, 99, 23, 100, 25, 152, 153, 154, 155, 156, 157, 158, 164, 165, 166, 167, 168, 169, 170, 171, 172, 173, 174, 160, 161, 175, 176, 177, 178, 179, 180, 181, 182, 183, 184, 185, 186, 187, 188, 189, 190, 191, 159] (by decide +kernel) (by decide +kernel)
set_option maxRecDepth 20000 in
theorem gX11_execute_X5_roomsSuit : GoodIn wsX11_execute (wsV RX11 81 RX5 yX5_roomsSuit wsX5_roomsSuit) := goodIn_app (goodIn_of _ (by decide +kernel)) ggX11_execute_X5_roomsSuit
set_option maxRecDepth 20000 in
theorem ggX11_execute_X5_writeTo : GoodIn wsX11_execute wsX5_writeTo := goodIn_r _ [124, 14, 125, 65, 15, 109, 126, 16, 120, 98, 99, 23, 100, 25, 127, 128, 129, 69, 130, 131, 67, 68, 70, 71, 72, 73, 74, 75, 132, 133, 134, 135, 97, 136, 137, 138, 139, 96, 140, 93, 94, 95, 32, 33, 34, 29, 35, 31, 40, 41, 42, 43, 44, 76, 152, 153, 154, 155, 156, 157, 158, 164, 165, 166, 167, 168, 169, 170, 171, 172, 173, 174, 159, 162, 163, 160, 161] (by decide +kernel) (by decide +kernel)
set_option maxRecDepth 20000 in
theorem gX11_execute_X5_writeTo : GoodIn wsX11_execute (wsV RX11 87 RX5 yX5_writeTo wsX5_writeTo) := goodIn_app (goodIn_of _ (by decide +kernel)) ggX11_execute_X5_writeTo
set_option maxRecDepth 20000 in
theorem ggX11_execute_X5_commands : GoodIn wsX11_execute wsX5_commands := goodIn_r _ [144, 18, 152, 153, 154, 155, 156, 157, 158] (by decide +kernel) (by decide +kernel)
set_option maxRecDepth 20000 in
theorem gX11_execute_X5_commands : GoodIn wsX11_execute (wsV RX11 90 RX5 yX5_commands wsX5_commands) := goodIn_app (goodIn_of _ (by decide +kernel)) ggX11_execute_X5_commands
theorem dX11_execute_0 : decode cX11_execute 0 = .ok (.aload_n 0, 1) := by decide +kernel
theorem dX11_execute_1 : decode cX11_execute 1 = .ok (.aload_n 0, 1) := by decide +kernel
theorem dX11_execute_2 : decode cX11_execute 2 = .ok (.getfield 23, 3) := by decide +kernel
theorem dX11_execute_5 : decode cX11_execute 5 = .ok (.invokevirtual 73, 3) := by decide +kernel
theorem dX11_execute_8 : decode cX11_execute 8 = .ok (.putfield 46, 3) := by decide +kernel
theorem dX11_execute_11 : decode cX11_execute 11 = .ok (.aload_n 0, 1) := by decide +kernel
theorem dX11_execute_12 : decode cX11_execute 12 = .ok (.getfield 14, 3) := by decide +kernel
theorem dX11_execute_15 : decode cX11_execute 15 = .ok (.invokevirtual 76, 3) := by decide +kernel
theorem dX11_execute_18 : decode cX11_execute 18 = .ok (.aload_n 0, 1) := by decide +kernel
theorem dX11_execute_19 : decode cX11_execute 19 = .ok (.getfield 46, 3) := by decide +kernel
theorem dX11_execute_22 : decode cX11_execute 22 = .ok (.iconst (-1), 1) := by decide +kernel
theorem dX11_execute_23 : decode cX11_execute 23 = .ok (.if_icmp .eq 13, 3) := by decide +kernel
theorem dX11_execute_26 : decode cX11_execute 26 = .ok (.new 54, 3) := by decide +kernel
theorem dX11_execute_29 : decode cX11_execute 29 = .ok (.dup, 1) := by decide +kernel
theorem dX11_execute_30 : decode cX11_execute 30 = .ok (.ldc 79, 2) := by decide +kernel
theorem dX11_execute_32 : decode cX11_execute 32 = .ok (.invokespecial 58, 3) := by decide +kernel
theorem dX11_execute_35 : decode cX11_execute 35 = .ok (.athrow, 1) := by decide +kernel
theorem dX11_execute_36 : decode cX11_execute 36 = .ok (.aload_n 0, 1) := by decide +kernel
theorem dX11_execute_37 : decode cX11_execute 37 = .ok (.getfield 23, 3) := by decide +kernel
theorem dX11_execute_40 : decode cX11_execute 40 = .ok (.aload_n 0, 1) := by decide +kernel
theorem dX11_execute_41 : decode cX11_execute 41 = .ok (.getfield 30, 3) := by decide +kernel
theorem dX11_execute_44 : decode cX11_execute 44 = .ok (.invokevirtual 81, 3) := by decide +kernel
theorem dX11_execute_47 : decode cX11_execute 47 = .ok (.ifCond .ne 13, 3) := by decide +kernel
theorem dX11_execute_50 : decode cX11_execute 50 = .ok (.new 65, 3) := by decide +kernel
theorem dX11_execute_53 : decode cX11_execute 53 = .ok (.dup, 1) := by decide +kernel
theorem dX11_execute_54 : decode cX11_execute 54 = .ok (.ldc 85, 2) := by decide +kernel
theorem dX11_execute_56 : decode cX11_execute 56 = .ok (.invokespecial 69, 3) := by decide +kernel
theorem dX11_execute_59 : decode cX11_execute 59 = .ok (.athrow, 1) := by decide +kernel
theorem dX11_execute_60 : decode cX11_execute 60 = .ok (.aload_n 0, 1) := by decide +kernel
theorem dX11_execute_61 : decode cX11_execute 61 = .ok (.getfield 23, 3) := by decide +kernel
theorem dX11_execute_64 : decode cX11_execute 64 = .ok (.aload_n 0, 1) := by decide +kernel
theorem dX11_execute_65 : decode cX11_execute 65 = .ok (.getfield 30, 3) := by decide +kernel
theorem dX11_execute_68 : decode cX11_execute 68 = .ok (.invokevirtual 87, 3) := by decide +kernel
theorem dX11_execute_71 : decode cX11_execute 71 = .ok (.aload_n 0, 1) := by decide +kernel
theorem dX11_execute_72 : decode cX11_execute 72 = .ok (.getfield 23, 3) := by decide +kernel
theorem dX11_execute_75 : decode cX11_execute 75 = .ok (.invokevirtual 90, 3) := by decide +kernel
theorem dX11_execute_78 : decode cX11_execute 78 = .ok (.ireturn, 1) := by decide +kernel
theorem dX11_errorPosition_0 : decode cX11_errorPosition 0 = .ok (.aload_n 0, 1) := by decide +kernel
theorem dX11_errorPosition_1 : decode cX11_errorPosition 1 = .ok (.getfield 46, 3) := by decide +kernel
theorem dX11_errorPosition_4 : decode cX11_errorPosition 4 = .ok (.ireturn, 1) := by decide +kernel
set_option maxRecDepth 20000 in
theorem ggX11_program_X0_length : GoodIn wsX11_program wsX0_length := goodIn_r _ [9, 10, 11, 12, 13, 14, 15, 16, 37, 38, 39] (by decide +kernel) (by decide +kernel)
set_option maxRecDepth 20000 in
theorem gX11_program_X0_length : GoodIn wsX11_program (wsV RX11 102 RX0 yX0_length wsX0_length) := goodIn_app (goodIn_of _ (by decide +kernel)) ggX11_program_X0_length
set_option maxRecDepth 20000 in
theorem ggX11_program_X0_at : GoodIn wsX11_program wsX0_at := goodIn_r _ [20, 10, 21, 11, 12, 13, 14, 15, 16, 37, 38, 39] (by decide +kernel) (by decide +kernel)
set_option maxRecDepth 20000 in
theorem gX11_program_X0_at : GoodIn wsX11_program (wsV RX11 109 RX0 yX0_at wsX0_at) := goodIn_app (goodIn_of _ (by decide +kernel)) ggX11_program_X0_at
theorem dX11_program_0 : decode cX11_program 0 = .ok (.iload_n 1, 1) := by decide +kernel
theorem dX11_program_1 : decode cX11_program 1 = .ok (.ifCond .lt 9, 3) := by decide +kernel
theorem dX11_program_4 : decode cX11_program 4 = .ok (.iload_n 1, 1) := by decide +kernel
theorem dX11_program_5 : decode cX11_program 5 = .ok (.bipush 6, 2) := by decide +kernel
theorem dX11_program_7 : decode cX11_program 7 = .ok (.if_icmp .lt 13, 3) := by decide +kernel
theorem dX11_program_10 : decode cX11_program 10 = .ok (.new 93, 3) := by decide +kernel
theorem dX11_program_13 : decode cX11_program 13 = .ok (.dup, 1) := by decide +kernel
theorem dX11_program_14 : decode cX11_program 14 = .ok (.ldc 95, 2) := by decide +kernel
theorem dX11_program_16 : decode cX11_program 16 = .ok (.invokespecial 97, 3) := by decide +kernel
theorem dX11_program_19 : decode cX11_program 19 = .ok (.athrow, 1) := by decide +kernel
theorem dX11_program_20 : decode cX11_program 20 = .ok (.aload_n 0, 1) := by decide +kernel
theorem dX11_program_21 : decode cX11_program 21 = .ok (.getfield 30, 3) := by decide +kernel
theorem dX11_program_24 : decode cX11_program 24 = .ok (.getfield 98, 3) := by decide +kernel
theorem dX11_program_27 : decode cX11_program 27 = .ok (.iload_n 1, 1) := by decide +kernel
theorem dX11_program_28 : decode cX11_program 28 = .ok (.invokevirtual 102, 3) := by decide +kernel
theorem dX11_program_31 : decode cX11_program 31 = .ok (.istore_n 3, 1) := by decide +kernel
theorem dX11_program_32 : decode cX11_program 32 = .ok (.iload_n 2, 1) := by decide +kernel
theorem dX11_program_33 : decode cX11_program 33 = .ok (.iconst (-1), 1) := by decide +kernel
theorem dX11_program_34 : decode cX11_program 34 = .ok (.if_icmp .lt 8, 3) := by decide +kernel
theorem dX11_program_37 : decode cX11_program 37 = .ok (.iload_n 2, 1) := by decide +kernel
theorem dX11_program_38 : decode cX11_program 38 = .ok (.iload_n 3, 1) := by decide +kernel
theorem dX11_program_39 : decode cX11_program 39 = .ok (.if_icmp .lt 13, 3) := by decide +kernel
theorem dX11_program_42 : decode cX11_program 42 = .ok (.new 93, 3) := by decide +kernel
theorem dX11_program_45 : decode cX11_program 45 = .ok (.dup, 1) := by decide +kernel
theorem dX11_program_46 : decode cX11_program 46 = .ok (.ldc 107, 2) := by decide +kernel
theorem dX11_program_48 : decode cX11_program 48 = .ok (.invokespecial 97, 3) := by decide +kernel
theorem dX11_program_51 : decode cX11_program 51 = .ok (.athrow, 1) := by decide +kernel
theorem dX11_program_52 : decode cX11_program 52 = .ok (.iload_n 2, 1) := by decide +kernel
theorem dX11_program_53 : decode cX11_program 53 = .ok (.iconst (-1), 1) := by decide +kernel
theorem dX11_program_54 : decode cX11_program 54 = .ok (.if_icmp .ne 7, 3) := by decide +kernel
theorem dX11_program_57 : decode cX11_program 57 = .ok (.iload_n 3, 1) := by decide +kernel
theorem dX11_program_58 : decode cX11_program 58 = .ok (.goto 15, 3) := by decide +kernel
theorem dX11_program_61 : decode cX11_program 61 = .ok (.aload_n 0, 1) := by decide +kernel
theorem dX11_program_62 : decode cX11_program 62 = .ok (.getfield 30, 3) := by decide +kernel
theorem dX11_program_65 : decode cX11_program 65 = .ok (.getfield 98, 3) := by decide +kernel
theorem dX11_program_68 : decode cX11_program 68 = .ok (.iload_n 1, 1) := by decide +kernel
theorem dX11_program_69 : decode cX11_program 69 = .ok (.iload_n 2, 1) := by decide +kernel
theorem dX11_program_70 : decode cX11_program 70 = .ok (.invokevirtual 109, 3) := by decide +kernel
theorem dX11_program_73 : decode cX11_program 73 = .ok (.ireturn, 1) := by decide +kernel
set_option maxRecDepth 20000 in
theorem ggX11_reset_X10_liveTasks : GoodIn wsX11_reset wsX10_liveTasks := goodIn_r _ [6, 7, 8, 9, 10, 11, 12, 13, 14, 15, 53, 54, 55, 56, 57, 58, 59, 60, 61, 62, 63, 64, 65, 66, 67, 68, 69, 70, 71, 72, 73, 74, 75, 76, 77, 78, 79] (by decide +kernel) (by decide +kernel)
set_option maxRecDepth 20000 in
theorem gX11_reset_X10_liveTasks : GoodIn wsX11_reset (wsV RX11 113 RX10 yX10_liveTasks wsX10_liveTasks) := goodIn_app (goodIn_of _ (by decide +kernel)) ggX11_reset_X10_liveTasks
set_option maxRecDepth 20000 in
theorem ggX11_reset_X10_removeTasks : GoodIn wsX11_reset wsX10_removeTasks := goodIn_r _ [19, 7, 8, 20, 21, 22, 23, 24, 25, 9, 26, 27, 28, 29, 30, 31, 32, 33, 34, 35, 36, 37, 38, 39, 40, 41, 42, 43, 13, 44, 15, 45, 53, 54, 55, 56, 57, 58, 59, 60, 61, 62, 63, 64, 65, 66, 67, 68, 69, 70, 71, 72, 73, 74, 75, 76, 77, 80, 81, 82, 83, 84, 85, 86, 87, 88, 89, 90, 91, 92, 93, 94, 95, 96, 97, 78, 79] (by decide +kernel) (by decide +kernel)
set_option maxRecDepth 20000 in
theorem gX11_reset_X10_removeTasks : GoodIn wsX11_reset (wsV RX11 116 RX10 yX10_removeTasks wsX10_removeTasks) := goodIn_app (goodIn_of _ (by decide +kernel)) ggX11_reset_X10_removeTasks
theorem dX11_reset_0 : decode cX11_reset 0 = .ok (.aload_n 0, 1) := by decide +kernel
theorem dX11_reset_1 : decode cX11_reset 1 = .ok (.getfield 30, 3) := by decide +kernel
theorem dX11_reset_4 : decode cX11_reset 4 = .ok (.invokevirtual 113, 3) := by decide +kernel
theorem dX11_reset_7 : decode cX11_reset 7 = .ok (.istore_n 1, 1) := by decide +kernel
theorem dX11_reset_8 : decode cX11_reset 8 = .ok (.aload_n 0, 1) := by decide +kernel
theorem dX11_reset_9 : decode cX11_reset 9 = .ok (.getfield 30, 3) := by decide +kernel
theorem dX11_reset_12 : decode cX11_reset 12 = .ok (.invokevirtual 116, 3) := by decide +kernel
theorem dX11_reset_15 : decode cX11_reset 15 = .ok (.iload_n 1, 1) := by decide +kernel
theorem dX11_reset_16 : decode cX11_reset 16 = .ok (.ireturn, 1) := by decide +kernel
set_option maxRecDepth 20000 in
theorem ggX11_start_X10_startTask : GoodIn wsX11_start wsX10_startTask := goodIn_r _ [10, 11, 12, 13, 14, 15, 16, 17, 18, 19, 20, 21, 22, 23, 24, 25, 26, 27, 28, 29, 30, 31, 32, 33, 34, 35, 36, 37, 38, 39, 40, 41, 42, 43, 44, 45, 46, 47, 48, 49, 50, 51, 52, 53, 54, 55, 56, 57, 58, 59, 60, 61, 62, 63, 64, 65, 66, 67, 68, 69, 70, 71, 72, 73, 74, 75, 76, 77, 85, 86, 87, 88, 89, 90, 91, 92, 93, 94, 95, 96, 97, 98, 99, 100, 101, 102, 103, 104, 105, 106, 107, 108, 109, 110, 111, 112, 113, 114] (by decide +kernel) (by decide +kernel)
set_option maxRecDepth 20000 in
theorem gX11_start_X10_startTask : GoodIn wsX11_start (wsV RX11 119 RX10 yX10_startTask wsX10_startTask) := goodIn_app (goodIn_of _ (by decide +kernel)) ggX11_start_X10_startTask
theorem dX11_start_0 : decode cX11_start 0 = .ok (.iload_n 1, 1) := by decide +kernel
theorem dX11_start_1 : decode cX11_start 1 = .ok (.ifCond .lt 9, 3) := by decide +kernel
theorem dX11_start_4 : decode cX11_start 4 = .ok (.iload_n 1, 1) := by decide +kernel
theorem dX11_start_5 : decode cX11_start 5 = .ok (.bipush 6, 2) := by decide +kernel
theorem dX11_start_7 : decode cX11_start 7 = .ok (.if_icmp .lt 13, 3) := by decide +kernel
theorem dX11_start_10 : decode cX11_start 10 = .ok (.new 93, 3) := by decide +kernel
theorem dX11_start_13 : decode cX11_start 13 = .ok (.dup, 1) := by decide +kernel
theorem dX11_start_14 : decode cX11_start 14 = .ok (.ldc 95, 2) := by decide +kernel
theorem dX11_start_16 : decode cX11_start 16 = .ok (.invokespecial 97, 3) := by decide +kernel
theorem dX11_start_19 : decode cX11_start 19 = .ok (.athrow, 1) := by decide +kernel
theorem dX11_start_20 : decode cX11_start 20 = .ok (.aload_n 0, 1) := by decide +kernel
theorem dX11_start_21 : decode cX11_start 21 = .ok (.getfield 30, 3) := by decide +kernel
theorem dX11_start_24 : decode cX11_start 24 = .ok (.iload_n 1, 1) := by decide +kernel
theorem dX11_start_25 : decode cX11_start 25 = .ok (.iconst (-1), 1) := by decide +kernel
theorem dX11_start_26 : decode cX11_start 26 = .ok (.invokevirtual 119, 3) := by decide +kernel
theorem dX11_start_29 : decode cX11_start 29 = .ok (.istore_n 2, 1) := by decide +kernel
theorem dX11_start_30 : decode cX11_start 30 = .ok (.iload_n 2, 1) := by decide +kernel
theorem dX11_start_31 : decode cX11_start 31 = .ok (.iconst (-1), 1) := by decide +kernel
theorem dX11_start_32 : decode cX11_start 32 = .ok (.if_icmp .ne 13, 3) := by decide +kernel
theorem dX11_start_35 : decode cX11_start 35 = .ok (.new 65, 3) := by decide +kernel
theorem dX11_start_38 : decode cX11_start 38 = .ok (.dup, 1) := by decide +kernel
theorem dX11_start_39 : decode cX11_start 39 = .ok (.ldc 122, 2) := by decide +kernel
theorem dX11_start_41 : decode cX11_start 41 = .ok (.invokespecial 69, 3) := by decide +kernel
theorem dX11_start_44 : decode cX11_start 44 = .ok (.athrow, 1) := by decide +kernel
theorem dX11_start_45 : decode cX11_start 45 = .ok (.iload_n 2, 1) := by decide +kernel
theorem dX11_start_46 : decode cX11_start 46 = .ok (.ireturn, 1) := by decide +kernel
set_option maxRecDepth 20000 in
theorem ggX11_cancel_X9_has : GoodIn wsX11_cancel wsX9_has := goodIn_r _ [10, 11, 92, 93, 94, 95, 96, 97, 98, 99, 100, 101, 102, 103, 104, 105, 106, 107, 108] (by decide +kernel) (by decide +kernel)
set_option maxRecDepth 20000 in
theorem gX11_cancel_X9_has : GoodIn wsX11_cancel (wsV RX11 128 RX9 yX9_has wsX9_has) := goodIn_app (goodIn_of _ (by decide +kernel)) ggX11_cancel_X9_has
set_option maxRecDepth 20000 in
theorem ggX11_cancel_X10_interrupt : GoodIn wsX11_cancel wsX10_interrupt := goodIn_r _ [16, 17, 18, 19, 20, 21, 22, 23, 9, 24, 25, 26, 27, 28, 29, 30, 31, 32, 33, 34, 35, 36, 37, 38, 39, 40, 41, 42, 43, 44, 45, 46, 47, 48, 49, 50, 15, 51, 52, 53, 54, 55, 56, 57, 58, 59, 60, 61, 62, 63, 64, 65, 66, 67, 68, 69, 70, 71, 72, 73, 74, 75, 84, 85, 86, 87, 88, 89, 90, 91, 92, 93, 94, 95, 96, 97, 98, 99, 100, 101, 102, 103, 104, 105, 106, 107, 108, 109, 110, 111] (by decide +kernel) (by decide +kernel)
set_option maxRecDepth 20000 in
theorem gX11_cancel_X10_interrupt : GoodIn wsX11_cancel (wsV RX11 136 RX10 yX10_interrupt wsX10_interrupt) := goodIn_app (goodIn_of _ (by decide +kernel)) ggX11_cancel_X10_interrupt
set_option maxRecDepth 20000 in
theorem ggX11_cancel_X6_at : GoodIn wsX11_cancel wsX6_at := goodIn_r _ [30, 31, 109] (by decide +kernel) (by decide +kernel)
set_option maxRecDepth 20000 in
theorem gX11_cancel_X6_at : GoodIn wsX11_cancel (wsV RX11 144 RX6 yX6_at wsX6_at) := goodIn_app (goodIn_of _ (by decide +kernel)) ggX11_cancel_X6_at
theorem dX11_cancel_0 : decode cX11_cancel 0 = .ok (.aload_n 0, 1) := by decide +kernel
theorem dX11_cancel_1 : decode cX11_cancel 1 = .ok (.getfield 30, 3) := by decide +kernel
theorem dX11_cancel_4 : decode cX11_cancel 4 = .ok (.getfield 124, 3) := by decide +kernel
theorem dX11_cancel_7 : decode cX11_cancel 7 = .ok (.iload_n 1, 1) := by decide +kernel
theorem dX11_cancel_8 : decode cX11_cancel 8 = .ok (.invokevirtual 128, 3) := by decide +kernel
theorem dX11_cancel_11 : decode cX11_cancel 11 = .ok (.ifCond .ne 13, 3) := by decide +kernel
theorem dX11_cancel_14 : decode cX11_cancel 14 = .ok (.new 93, 3) := by decide +kernel
theorem dX11_cancel_17 : decode cX11_cancel 17 = .ok (.dup, 1) := by decide +kernel
theorem dX11_cancel_18 : decode cX11_cancel 18 = .ok (.ldc 134, 2) := by decide +kernel
theorem dX11_cancel_20 : decode cX11_cancel 20 = .ok (.invokespecial 97, 3) := by decide +kernel
theorem dX11_cancel_23 : decode cX11_cancel 23 = .ok (.athrow, 1) := by decide +kernel
theorem dX11_cancel_24 : decode cX11_cancel 24 = .ok (.aload_n 0, 1) := by decide +kernel
theorem dX11_cancel_25 : decode cX11_cancel 25 = .ok (.getfield 30, 3) := by decide +kernel
theorem dX11_cancel_28 : decode cX11_cancel 28 = .ok (.iload_n 1, 1) := by decide +kernel
theorem dX11_cancel_29 : decode cX11_cancel 29 = .ok (.iconst 1, 1) := by decide +kernel
theorem dX11_cancel_30 : decode cX11_cancel 30 = .ok (.iconst (-1), 1) := by decide +kernel
theorem dX11_cancel_31 : decode cX11_cancel 31 = .ok (.iconst (-1), 1) := by decide +kernel
theorem dX11_cancel_32 : decode cX11_cancel 32 = .ok (.invokevirtual 136, 3) := by decide +kernel
theorem dX11_cancel_35 : decode cX11_cancel 35 = .ok (.aload_n 0, 1) := by decide +kernel
theorem dX11_cancel_36 : decode cX11_cancel 36 = .ok (.getfield 30, 3) := by decide +kernel
theorem dX11_cancel_39 : decode cX11_cancel 39 = .ok (.getfield 124, 3) := by decide +kernel
theorem dX11_cancel_42 : decode cX11_cancel 42 = .ok (.getfield 140, 3) := by decide +kernel
theorem dX11_cancel_45 : decode cX11_cancel 45 = .ok (.iload_n 1, 1) := by decide +kernel
theorem dX11_cancel_46 : decode cX11_cancel 46 = .ok (.invokevirtual 144, 3) := by decide +kernel
theorem dX11_cancel_49 : decode cX11_cancel 49 = .ok (.ireturn, 1) := by decide +kernel
set_option maxRecDepth 20000 in
theorem ggX11_run_X7_makeTurn : GoodIn wsX11_run wsX7_makeTurn := goodIn_r _ [8, 9, 10, 11, 12, 13, 14, 15, 16, 17, 18, 19, 20, 21, 22, 23, 24, 25, 26, 7, 27, 28, 29, 30, 31, 32, 33, 34, 35, 36, 37, 38, 39, 40, 41, 42, 43, 44, 45, 46, 47, 48, 49, 50, 51, 52, 53, 54, 55, 56, 57, 58, 59, 60, 61, 62, 63, 64, 65, 66, 67, 68, 69, 70, 71, 72, 73, 74, 75, 76, 77, 78, 79, 80, 81, 82, 83, 84, 85, 86, 87, 88, 89, 90, 91, 92, 93, 94, 95, 96, 97, 98, 99, 100, 101, 102, 103, 104, 105, 106, 107, 108, 109, 110, 111, 112, 113, 114, 115, 116, 117, 118, 119, 120, 121, 122, 123, 124, 125, 126, 127, 128, 129, 130, 131, 132, 133, 134, 135, 136, 137, 138, 139, 140, 141, 142, 143, 144, 145, 146, 147, 148, 149, 150, 151, 152, 153, 154, 155, 156, 157, 158, 159, 160, 161, 162, 163, 164, 165, 166, 167, 168, 169, 170, 171, 172, 173, 174, 175, 176, 177, 178, 179, 180, 181, 182, 183, 184, 185, 186, 187, 188, 189, 190, 191, 192, 193, 194, 195, 196, 197, 198, 199, 200, 201, 202, 203, 204, 205, 206, 207, 208, 209, 210, 211, 212, 213, 214, 215, 216, 217, 218, 219, 220, 221, 222, 223, 224, 225, 226, 227, 228, 229, 230, 231, 232, 233, 234, 235, 236, 237, 238, 239, 240, 241, 242, 243, 244, 245, 246, 247, 248, 249, 250, 251, 252, 253, 254, 255, 256, 257, 258, 259, 260, 261, 262, 263, 264, 265, 266, 267, 268, 269, 270, 271, 272, 273, 274, 275, 276, 277, 278, 279, 280, 281, 282, 283, 284, 285, 286, 287, 288, 289, 290, 291, 292, 293, 294, 295, 296, 297, 298, 299, 300, 301, 302, 303, 304, 305, 306, 307, 308, 309, 310, 311, 312, 313, 314, 315, 316, 317, 318, 319, 320, 321, 322, 323, 324, 325, 326, 327, 328, 329, 330, 331, 332, 333, 334, 335, 336, 337, 338, 339, 340, 341, 342, 343, 344, 345, 346, 347, 348, 349, 350, 351, 352, 353, 354, 355, 356, 357, 358, 359, 360, 361, 362, 363, 364, 365, 366, 367, 368, 369, 370, 371, 372, 373, 374, 375, 376, 377, 378, 379, 380, 381, 382, 383, 384, 385, 386, 387, 388, 389, 390, 391, 392, 393, 394, 395, 396, 397, 398, 399, 400, 401, 402, 403, 404, 405, 406, 407, 408, 409, 410, 411, 412, 413, 414, 415, 416, 417, 418, 419, 420, 421, 422, 423, 424, 425, 426, 427, 428, 429, 430, 431, 432, 433, 441, 442, 443, 444, 445, 446, 447, 448, 449, 450, 451, 452, 453, 454, 455, 456, 457, 458, 459, 460, 461, 462, 463, 464, 465, 466, 467, 468, 469, 470, 471, 472, 473, 474, 475, 476, 477, 478, 479, 480, 481, 482, 483, 484, 485, 486, 487, 488, 489, 490, 491, 492, 493, 494] (by decide +kernel) (by decide +kernel)
set_option maxRecDepth 20000 in
theorem gX11_run_X7_makeTurn : GoodIn wsX11_run (wsV RX11 150 RX7 yX7_makeTurn wsX7_makeTurn) := goodIn_app (goodIn_of _ (by decide +kernel)) ggX11_run_X7_makeTurn
theorem dX11_run_0 : decode cX11_run 0 = .ok (.iload_n 1, 1) := by decide +kernel
theorem dX11_run_1 : decode cX11_run 1 = .ok (.iconst 1, 1) := by decide +kernel
theorem dX11_run_2 : decode cX11_run 2 = .ok (.if_icmp .lt 9, 3) := by decide +kernel
theorem dX11_run_5 : decode cX11_run 5 = .ok (.iload_n 1, 1) := by decide +kernel
theorem dX11_run_6 : decode cX11_run 6 = .ok (.bipush 100, 2) := by decide +kernel
theorem dX11_run_8 : decode cX11_run 8 = .ok (.if_icmp .le 13, 3) := by decide +kernel
theorem dX11_run_11 : decode cX11_run 11 = .ok (.new 54, 3) := by decide +kernel
theorem dX11_run_14 : decode cX11_run 14 = .ok (.dup, 1) := by decide +kernel
theorem dX11_run_15 : decode cX11_run 15 = .ok (.ldc 148, 2) := by decide +kernel
theorem dX11_run_17 : decode cX11_run 17 = .ok (.invokespecial 58, 3) := by decide +kernel
theorem dX11_run_20 : decode cX11_run 20 = .ok (.athrow, 1) := by decide +kernel
theorem dX11_run_21 : decode cX11_run 21 = .ok (.iconst 0, 1) := by decide +kernel
theorem dX11_run_22 : decode cX11_run 22 = .ok (.istore_n 2, 1) := by decide +kernel
theorem dX11_run_23 : decode cX11_run 23 = .ok (.iload_n 2, 1) := by decide +kernel
theorem dX11_run_24 : decode cX11_run 24 = .ok (.iload_n 1, 1) := by decide +kernel
theorem dX11_run_25 : decode cX11_run 25 = .ok (.if_icmp .ge 19, 3) := by decide +kernel
theorem dX11_run_28 : decode cX11_run 28 = .ok (.aload_n 0, 1) := by decide +kernel
theorem dX11_run_29 : decode cX11_run 29 = .ok (.getfield 42, 3) := by decide +kernel
theorem dX11_run_32 : decode cX11_run 32 = .ok (.invokevirtual 150, 3) := by decide +kernel
theorem dX11_run_35 : decode cX11_run 35 = .ok (.ifCond .eq 9, 3) := by decide +kernel
theorem dX11_run_38 : decode cX11_run 38 = .ok (.iinc 2 1, 3) := by decide +kernel
theorem dX11_run_41 : decode cX11_run 41 = .ok (.goto (-18), 3) := by decide +kernel
theorem dX11_run_44 : decode cX11_run 44 = .ok (.iload_n 2, 1) := by decide +kernel
theorem dX11_run_45 : decode cX11_run 45 = .ok (.ireturn, 1) := by decide +kernel
set_option maxRecDepth 20000 in
theorem ggX11_next_X7_upcoming : GoodIn wsX11_next wsX7_upcoming := goodIn_r _ [6, 7, 8, 9, 10, 11, 12, 13, 14, 15, 16, 17, 18, 19, 20, 21, 22, 5, 23, 24, 25, 26, 27, 28, 29, 30, 31, 32, 33, 34, 35, 36, 37, 38, 39, 40, 41, 42, 43, 44, 45, 46, 47, 48, 49, 50, 51, 52, 53, 54, 55, 56, 57, 58, 59, 60, 68, 69, 70, 71, 72, 73, 74, 75, 76, 77, 78, 79, 80, 81, 82, 83, 84, 85, 86, 87, 88, 89, 90, 91, 92, 93, 94, 95, 96, 97, 98, 99, 100, 101, 102, 103, 104, 105, 106, 107, 108, 109, 110] (by decide +kernel) (by decide +kernel)
set_option maxRecDepth 20000 in
theorem gX11_next_X7_upcoming : GoodIn wsX11_next (wsV RX11 154 RX7 yX7_upcoming wsX7_upcoming) := goodIn_app (goodIn_of _ (by decide +kernel)) ggX11_next_X7_upcoming
theorem dX11_next_0 : decode cX11_next 0 = .ok (.aload_n 0, 1) := by decide +kernel
theorem dX11_next_1 : decode cX11_next 1 = .ok (.getfield 42, 3) := by decide +kernel
theorem dX11_next_4 : decode cX11_next 4 = .ok (.invokevirtual 154, 3) := by decide +kernel
theorem dX11_next_7 : decode cX11_next 7 = .ok (.ireturn, 1) := by decide +kernel
set_option maxRecDepth 20000 in
theorem ggX11_task_X9_has : GoodIn wsX11_task wsX9_has := goodIn_r _ [11, 12, 52, 53, 54, 55, 56, 57, 58, 59, 60, 61, 62, 63, 64, 65, 66, 67, 68] (by decide +kernel) (by decide +kernel)
set_option maxRecDepth 20000 in
theorem gX11_task_X9_has : GoodIn wsX11_task (wsV RX11 128 RX9 yX9_has wsX9_has) := goodIn_app (goodIn_of _ (by decide +kernel)) ggX11_task_X9_has
set_option maxRecDepth 20000 in
theorem ggX11_task_X9_property : GoodIn wsX11_task wsX9_property := goodIn_r _ [16, 17, 18, 19, 20, 21, 22, 23, 24, 25, 26, 27, 28, 29, 30, 31, 32, 33, 34, 10, 35, 36, 52, 53, 54, 55, 56, 57, 58, 59, 60, 61, 62, 63, 64, 65, 66, 67, 68, 69] (by decide +kernel) (by decide +kernel)
set_option maxRecDepth 20000 in
theorem gX11_task_X9_property : GoodIn wsX11_task (wsV RX11 159 RX9 yX9_property wsX9_property) := goodIn_app (goodIn_of _ (by decide +kernel)) ggX11_task_X9_property
theorem dX11_task_0 : decode cX11_task 0 = .ok (.aload_n 0, 1) := by decide +kernel
theorem dX11_task_1 : decode cX11_task 1 = .ok (.getfield 30, 3) := by decide +kernel
theorem dX11_task_4 : decode cX11_task 4 = .ok (.getfield 124, 3) := by decide +kernel
theorem dX11_task_7 : decode cX11_task 7 = .ok (.iload_n 1, 1) := by decide +kernel
theorem dX11_task_8 : decode cX11_task 8 = .ok (.invokevirtual 128, 3) := by decide +kernel
theorem dX11_task_11 : decode cX11_task 11 = .ok (.ifCond .ne 13, 3) := by decide +kernel
theorem dX11_task_14 : decode cX11_task 14 = .ok (.new 93, 3) := by decide +kernel
theorem dX11_task_17 : decode cX11_task 17 = .ok (.dup, 1) := by decide +kernel
theorem dX11_task_18 : decode cX11_task 18 = .ok (.ldc 134, 2) := by decide +kernel
theorem dX11_task_20 : decode cX11_task 20 = .ok (.invokespecial 97, 3) := by decide +kernel
theorem dX11_task_23 : decode cX11_task 23 = .ok (.athrow, 1) := by decide +kernel
theorem dX11_task_24 : decode cX11_task 24 = .ok (.iload_n 2, 1) := by decide +kernel
theorem dX11_task_25 : decode cX11_task 25 = .ok (.ifCond .lt 9, 3) := by decide +kernel
theorem dX11_task_28 : decode cX11_task 28 = .ok (.iload_n 2, 1) := by decide +kernel
theorem dX11_task_29 : decode cX11_task 29 = .ok (.bipush 9, 2) := by decide +kernel
theorem dX11_task_31 : decode cX11_task 31 = .ok (.if_icmp .le 13, 3) := by decide +kernel
theorem dX11_task_34 : decode cX11_task 34 = .ok (.new 54, 3) := by decide +kernel
theorem dX11_task_37 : decode cX11_task 37 = .ok (.dup, 1) := by decide +kernel
theorem dX11_task_38 : decode cX11_task 38 = .ok (.ldc 157, 2) := by decide +kernel
theorem dX11_task_40 : decode cX11_task 40 = .ok (.invokespecial 58, 3) := by decide +kernel
theorem dX11_task_43 : decode cX11_task 43 = .ok (.athrow, 1) := by decide +kernel
theorem dX11_task_44 : decode cX11_task 44 = .ok (.aload_n 0, 1) := by decide +kernel
theorem dX11_task_45 : decode cX11_task 45 = .ok (.getfield 30, 3) := by decide +kernel
theorem dX11_task_48 : decode cX11_task 48 = .ok (.getfield 124, 3) := by decide +kernel
theorem dX11_task_51 : decode cX11_task 51 = .ok (.iload_n 1, 1) := by decide +kernel
theorem dX11_task_52 : decode cX11_task 52 = .ok (.iload_n 2, 1) := by decide +kernel
theorem dX11_task_53 : decode cX11_task 53 = .ok (.invokevirtual 159, 3) := by decide +kernel
theorem dX11_task_56 : decode cX11_task 56 = .ok (.ireturn, 1) := by decide +kernel
set_option maxRecDepth 20000 in
theorem ggX11_scope_X8_has : GoodIn wsX11_scope wsX8_has := goodIn_r _ [11, 12, 46, 47, 48, 49, 50, 51, 52, 53, 54, 55, 56] (by decide +kernel) (by decide +kernel)
set_option maxRecDepth 20000 in
theorem gX11_scope_X8_has : GoodIn wsX11_scope (wsV RX11 166 RX8 yX8_has wsX8_has) := goodIn_app (goodIn_of _ (by decide +kernel)) ggX11_scope_X8_has
set_option maxRecDepth 20000 in
theorem ggX11_scope_X8_property : GoodIn wsX11_scope wsX8_property := goodIn_r _ [16, 17, 18, 19, 20, 21, 22, 23, 24, 25, 26, 27, 28, 29, 30, 46, 47, 48, 49, 50, 51, 52, 53, 54, 55, 56, 57] (by decide +kernel) (by decide +kernel)
set_option maxRecDepth 20000 in
theorem gX11_scope_X8_property : GoodIn wsX11_scope (wsV RX11 173 RX8 yX8_property wsX8_property) := goodIn_app (goodIn_of _ (by decide +kernel)) ggX11_scope_X8_property
theorem dX11_scope_0 : decode cX11_scope 0 = .ok (.aload_n 0, 1) := by decide +kernel
theorem dX11_scope_1 : decode cX11_scope 1 = .ok (.getfield 30, 3) := by decide +kernel
theorem dX11_scope_4 : decode cX11_scope 4 = .ok (.getfield 162, 3) := by decide +kernel
theorem dX11_scope_7 : decode cX11_scope 7 = .ok (.iload_n 1, 1) := by decide +kernel
theorem dX11_scope_8 : decode cX11_scope 8 = .ok (.invokevirtual 166, 3) := by decide +kernel
theorem dX11_scope_11 : decode cX11_scope 11 = .ok (.ifCond .ne 13, 3) := by decide +kernel
theorem dX11_scope_14 : decode cX11_scope 14 = .ok (.new 93, 3) := by decide +kernel
theorem dX11_scope_17 : decode cX11_scope 17 = .ok (.dup, 1) := by decide +kernel
theorem dX11_scope_18 : decode cX11_scope 18 = .ok (.ldc 169, 2) := by decide +kernel
theorem dX11_scope_20 : decode cX11_scope 20 = .ok (.invokespecial 97, 3) := by decide +kernel
theorem dX11_scope_23 : decode cX11_scope 23 = .ok (.athrow, 1) := by decide +kernel
theorem dX11_scope_24 : decode cX11_scope 24 = .ok (.iload_n 2, 1) := by decide +kernel
theorem dX11_scope_25 : decode cX11_scope 25 = .ok (.ifCond .lt 9, 3) := by decide +kernel
theorem dX11_scope_28 : decode cX11_scope 28 = .ok (.iload_n 2, 1) := by decide +kernel
theorem dX11_scope_29 : decode cX11_scope 29 = .ok (.bipush 7, 2) := by decide +kernel
theorem dX11_scope_31 : decode cX11_scope 31 = .ok (.if_icmp .le 13, 3) := by decide +kernel
theorem dX11_scope_34 : decode cX11_scope 34 = .ok (.new 54, 3) := by decide +kernel
theorem dX11_scope_37 : decode cX11_scope 37 = .ok (.dup, 1) := by decide +kernel
theorem dX11_scope_38 : decode cX11_scope 38 = .ok (.ldc 171, 2) := by decide +kernel
theorem dX11_scope_40 : decode cX11_scope 40 = .ok (.invokespecial 58, 3) := by decide +kernel
theorem dX11_scope_43 : decode cX11_scope 43 = .ok (.athrow, 1) := by decide +kernel
theorem dX11_scope_44 : decode cX11_scope 44 = .ok (.aload_n 0, 1) := by decide +kernel
theorem dX11_scope_45 : decode cX11_scope 45 = .ok (.getfield 30, 3) := by decide +kernel
theorem dX11_scope_48 : decode cX11_scope 48 = .ok (.getfield 162, 3) := by decide +kernel
theorem dX11_scope_51 : decode cX11_scope 51 = .ok (.iload_n 1, 1) := by decide +kernel
theorem dX11_scope_52 : decode cX11_scope 52 = .ok (.iload_n 2, 1) := by decide +kernel
theorem dX11_scope_53 : decode cX11_scope 53 = .ok (.invokevirtual 173, 3) := by decide +kernel
theorem dX11_scope_56 : decode cX11_scope 56 = .ok (.ireturn, 1) := by decide +kernel
set_option maxRecDepth 20000 in
theorem ggX11_failure_X9_has : GoodIn wsX11_failure wsX9_has := goodIn_r _ [17, 18, 54, 55, 56, 57, 58, 59, 60, 61, 62, 63, 64, 65, 66, 67, 68, 69, 70] (by decide +kernel) (by decide +kernel)
set_option maxRecDepth 20000 in
theorem gX11_failure_X9_has : GoodIn wsX11_failure (wsV RX11 128 RX9 yX9_has wsX9_has) := goodIn_app (goodIn_of _ (by decide +kernel)) ggX11_failure_X9_has
set_option maxRecDepth 20000 in
theorem ggX11_failure_X6_at : GoodIn wsX11_failure wsX6_at := goodIn_r _ [23, 24, 74] (by decide +kernel) (by decide +kernel)
set_option maxRecDepth 20000 in
theorem gX11_failure_X6_at : GoodIn wsX11_failure (wsV RX11 144 RX6 yX6_at wsX6_at) := goodIn_app (goodIn_of _ (by decide +kernel)) ggX11_failure_X6_at
set_option maxRecDepth 20000 in
theorem ggX11_failure_X3_under : GoodIn wsX11_failure wsX3_under := goodIn_r _ [29, 30, 31, 32, 33, 34, 35, 36, 37, 71, 72, 73, 75, 76] (by decide +kernel) (by decide +kernel)
set_option maxRecDepth 20000 in
theorem gX11_failure_X3_under : GoodIn wsX11_failure (wsV RX11 183 RX3 yX3_under wsX3_under) := goodIn_app (goodIn_of _ (by decide +kernel)) ggX11_failure_X3_under
set_option maxRecDepth 20000 in
theorem ggX11_failure_X4_at : GoodIn wsX11_failure wsX4_at := goodIn_r _ [35, 36, 37, 75, 76] (by decide +kernel) (by decide +kernel)
set_option maxRecDepth 20000 in
theorem gX11_failure_X4_at : GoodIn wsX11_failure (wsV RX11 196 RX4 yX4_at wsX4_at) := goodIn_app (goodIn_of _ (by decide +kernel)) ggX11_failure_X4_at
theorem dX11_failure_0 : decode cX11_failure 0 = .ok (.aload_n 0, 1) := by decide +kernel
theorem dX11_failure_1 : decode cX11_failure 1 = .ok (.getfield 30, 3) := by decide +kernel
theorem dX11_failure_4 : decode cX11_failure 4 = .ok (.getfield 124, 3) := by decide +kernel
theorem dX11_failure_7 : decode cX11_failure 7 = .ok (.iload_n 1, 1) := by decide +kernel
theorem dX11_failure_8 : decode cX11_failure 8 = .ok (.invokevirtual 128, 3) := by decide +kernel
theorem dX11_failure_11 : decode cX11_failure 11 = .ok (.ifCond .ne 13, 3) := by decide +kernel
theorem dX11_failure_14 : decode cX11_failure 14 = .ok (.new 93, 3) := by decide +kernel
theorem dX11_failure_17 : decode cX11_failure 17 = .ok (.dup, 1) := by decide +kernel
theorem dX11_failure_18 : decode cX11_failure 18 = .ok (.ldc 134, 2) := by decide +kernel
theorem dX11_failure_20 : decode cX11_failure 20 = .ok (.invokespecial 97, 3) := by decide +kernel
theorem dX11_failure_23 : decode cX11_failure 23 = .ok (.athrow, 1) := by decide +kernel
theorem dX11_failure_24 : decode cX11_failure 24 = .ok (.iload_n 3, 1) := by decide +kernel
theorem dX11_failure_25 : decode cX11_failure 25 = .ok (.ifCond .eq 18, 3) := by decide +kernel
theorem dX11_failure_28 : decode cX11_failure 28 = .ok (.iload_n 3, 1) := by decide +kernel
theorem dX11_failure_29 : decode cX11_failure 29 = .ok (.iconst 1, 1) := by decide +kernel
theorem dX11_failure_30 : decode cX11_failure 30 = .ok (.if_icmp .eq 13, 3) := by decide +kernel
theorem dX11_failure_33 : decode cX11_failure 33 = .ok (.new 54, 3) := by decide +kernel
theorem dX11_failure_36 : decode cX11_failure 36 = .ok (.dup, 1) := by decide +kernel
theorem dX11_failure_37 : decode cX11_failure 37 = .ok (.ldc 174, 2) := by decide +kernel
theorem dX11_failure_39 : decode cX11_failure 39 = .ok (.invokespecial 58, 3) := by decide +kernel
theorem dX11_failure_42 : decode cX11_failure 42 = .ok (.athrow, 1) := by decide +kernel
theorem dX11_failure_43 : decode cX11_failure 43 = .ok (.aload_n 0, 1) := by decide +kernel
theorem dX11_failure_44 : decode cX11_failure 44 = .ok (.getfield 30, 3) := by decide +kernel
theorem dX11_failure_47 : decode cX11_failure 47 = .ok (.getfield 176, 3) := by decide +kernel
theorem dX11_failure_50 : decode cX11_failure 50 = .ok (.aload_n 0, 1) := by decide +kernel
theorem dX11_failure_51 : decode cX11_failure 51 = .ok (.getfield 30, 3) := by decide +kernel
theorem dX11_failure_54 : decode cX11_failure 54 = .ok (.getfield 124, 3) := by decide +kernel
theorem dX11_failure_57 : decode cX11_failure 57 = .ok (.getfield 180, 3) := by decide +kernel
theorem dX11_failure_60 : decode cX11_failure 60 = .ok (.iload_n 1, 1) := by decide +kernel
theorem dX11_failure_61 : decode cX11_failure 61 = .ok (.invokevirtual 144, 3) := by decide +kernel
theorem dX11_failure_64 : decode cX11_failure 64 = .ok (.iload_n 2, 1) := by decide +kernel
theorem dX11_failure_65 : decode cX11_failure 65 = .ok (.invokevirtual 183, 3) := by decide +kernel
theorem dX11_failure_68 : decode cX11_failure 68 = .ok (.istore 4, 2) := by decide +kernel
theorem dX11_failure_70 : decode cX11_failure 70 = .ok (.iload 4, 2) := by decide +kernel
theorem dX11_failure_72 : decode cX11_failure 72 = .ok (.iconst (-1), 1) := by decide +kernel
theorem dX11_failure_73 : decode cX11_failure 73 = .ok (.if_icmp .ne 13, 3) := by decide +kernel
theorem dX11_failure_76 : decode cX11_failure 76 = .ok (.new 188, 3) := by decide +kernel
theorem dX11_failure_79 : decode cX11_failure 79 = .ok (.dup, 1) := by decide +kernel
theorem dX11_failure_80 : decode cX11_failure 80 = .ok (.ldc 190, 2) := by decide +kernel
theorem dX11_failure_82 : decode cX11_failure 82 = .ok (.invokespecial 192, 3) := by decide +kernel
theorem dX11_failure_85 : decode cX11_failure 85 = .ok (.athrow, 1) := by decide +kernel
theorem dX11_failure_86 : decode cX11_failure 86 = .ok (.iload_n 3, 1) := by decide +kernel
theorem dX11_failure_87 : decode cX11_failure 87 = .ok (.ifCond .ne 21, 3) := by decide +kernel
theorem dX11_failure_90 : decode cX11_failure 90 = .ok (.aload_n 0, 1) := by decide +kernel
theorem dX11_failure_91 : decode cX11_failure 91 = .ok (.getfield 30, 3) := by decide +kernel
theorem dX11_failure_94 : decode cX11_failure 94 = .ok (.getfield 176, 3) := by decide +kernel
theorem dX11_failure_97 : decode cX11_failure 97 = .ok (.getfield 193, 3) := by decide +kernel
theorem dX11_failure_100 : decode cX11_failure 100 = .ok (.iload 4, 2) := by decide +kernel
theorem dX11_failure_102 : decode cX11_failure 102 = .ok (.invokevirtual 196, 3) := by decide +kernel
theorem dX11_failure_105 : decode cX11_failure 105 = .ok (.goto 18, 3) := by decide +kernel
theorem dX11_failure_108 : decode cX11_failure 108 = .ok (.aload_n 0, 1) := by decide +kernel
theorem dX11_failure_109 : decode cX11_failure 109 = .ok (.getfield 30, 3) := by decide +kernel
theorem dX11_failure_112 : decode cX11_failure 112 = .ok (.getfield 176, 3) := by decide +kernel
theorem dX11_failure_115 : decode cX11_failure 115 = .ok (.getfield 197, 3) := by decide +kernel
theorem dX11_failure_118 : decode cX11_failure 118 = .ok (.iload 4, 2) := by decide +kernel
theorem dX11_failure_120 : decode cX11_failure 120 = .ok (.invokevirtual 196, 3) := by decide +kernel
theorem dX11_failure_123 : decode cX11_failure 123 = .ok (.ireturn, 1) := by decide +kernel
set_option maxRecDepth 20000 in
theorem ggX11_ready_X4_has : GoodIn wsX11_ready wsX4_has := goodIn_r _ [9, 10, 31, 32] (by decide +kernel) (by decide +kernel)
set_option maxRecDepth 20000 in
theorem gX11_ready_X4_has : GoodIn wsX11_ready (wsV RX11 202 RX4 yX4_has wsX4_has) := goodIn_app (goodIn_of _ (by decide +kernel)) ggX11_ready_X4_has
set_option maxRecDepth 20000 in
theorem ggX11_ready_X4_at : GoodIn wsX11_ready wsX4_at := goodIn_r _ [14, 10, 15, 31, 32] (by decide +kernel) (by decide +kernel)
set_option maxRecDepth 20000 in
theorem gX11_ready_X4_at : GoodIn wsX11_ready (wsV RX11 196 RX4 yX4_at wsX4_at) := goodIn_app (goodIn_of _ (by decide +kernel)) ggX11_ready_X4_at
theorem dX11_ready_0 : decode cX11_ready 0 = .ok (.aload_n 0, 1) := by decide +kernel
theorem dX11_ready_1 : decode cX11_ready 1 = .ok (.getfield 30, 3) := by decide +kernel
theorem dX11_ready_4 : decode cX11_ready 4 = .ok (.getfield 199, 3) := by decide +kernel
theorem dX11_ready_7 : decode cX11_ready 7 = .ok (.iload_n 1, 1) := by decide +kernel
theorem dX11_ready_8 : decode cX11_ready 8 = .ok (.invokevirtual 202, 3) := by decide +kernel
theorem dX11_ready_11 : decode cX11_ready 11 = .ok (.ifCond .ne 13, 3) := by decide +kernel
theorem dX11_ready_14 : decode cX11_ready 14 = .ok (.new 188, 3) := by decide +kernel
theorem dX11_ready_17 : decode cX11_ready 17 = .ok (.dup, 1) := by decide +kernel
theorem dX11_ready_18 : decode cX11_ready 18 = .ok (.ldc 203, 2) := by decide +kernel
theorem dX11_ready_20 : decode cX11_ready 20 = .ok (.invokespecial 192, 3) := by decide +kernel
theorem dX11_ready_23 : decode cX11_ready 23 = .ok (.athrow, 1) := by decide +kernel
theorem dX11_ready_24 : decode cX11_ready 24 = .ok (.aload_n 0, 1) := by decide +kernel
theorem dX11_ready_25 : decode cX11_ready 25 = .ok (.getfield 30, 3) := by decide +kernel
theorem dX11_ready_28 : decode cX11_ready 28 = .ok (.getfield 199, 3) := by decide +kernel
theorem dX11_ready_31 : decode cX11_ready 31 = .ok (.iload_n 1, 1) := by decide +kernel
theorem dX11_ready_32 : decode cX11_ready 32 = .ok (.invokevirtual 196, 3) := by decide +kernel
theorem dX11_ready_35 : decode cX11_ready 35 = .ok (.ireturn, 1) := by decide +kernel
set_option maxRecDepth 20000 in
theorem ggX11_ended_X4_has : GoodIn wsX11_ended wsX4_has := goodIn_r _ [9, 10, 31, 32] (by decide +kernel) (by decide +kernel)
set_option maxRecDepth 20000 in
theorem gX11_ended_X4_has : GoodIn wsX11_ended (wsV RX11 202 RX4 yX4_has wsX4_has) := goodIn_app (goodIn_of _ (by decide +kernel)) ggX11_ended_X4_has
set_option maxRecDepth 20000 in
theorem ggX11_ended_X4_at : GoodIn wsX11_ended wsX4_at := goodIn_r _ [14, 10, 15, 31, 32] (by decide +kernel) (by decide +kernel)
set_option maxRecDepth 20000 in
theorem gX11_ended_X4_at : GoodIn wsX11_ended (wsV RX11 196 RX4 yX4_at wsX4_at) := goodIn_app (goodIn_of _ (by decide +kernel)) ggX11_ended_X4_at
theorem dX11_ended_0 : decode cX11_ended 0 = .ok (.aload_n 0, 1) := by decide +kernel
theorem dX11_ended_1 : decode cX11_ended 1 = .ok (.getfield 30, 3) := by decide +kernel
theorem dX11_ended_4 : decode cX11_ended 4 = .ok (.getfield 205, 3) := by decide +kernel
theorem dX11_ended_7 : decode cX11_ended 7 = .ok (.iload_n 1, 1) := by decide +kernel
theorem dX11_ended_8 : decode cX11_ended 8 = .ok (.invokevirtual 202, 3) := by decide +kernel
theorem dX11_ended_11 : decode cX11_ended 11 = .ok (.ifCond .ne 13, 3) := by decide +kernel
theorem dX11_ended_14 : decode cX11_ended 14 = .ok (.new 188, 3) := by decide +kernel
theorem dX11_ended_17 : decode cX11_ended 17 = .ok (.dup, 1) := by decide +kernel
theorem dX11_ended_18 : decode cX11_ended 18 = .ok (.ldc 208, 2) := by decide +kernel
theorem dX11_ended_20 : decode cX11_ended 20 = .ok (.invokespecial 192, 3) := by decide +kernel
theorem dX11_ended_23 : decode cX11_ended 23 = .ok (.athrow, 1) := by decide +kernel
theorem dX11_ended_24 : decode cX11_ended 24 = .ok (.aload_n 0, 1) := by decide +kernel
theorem dX11_ended_25 : decode cX11_ended 25 = .ok (.getfield 30, 3) := by decide +kernel
theorem dX11_ended_28 : decode cX11_ended 28 = .ok (.getfield 205, 3) := by decide +kernel
theorem dX11_ended_31 : decode cX11_ended 31 = .ok (.iload_n 1, 1) := by decide +kernel
theorem dX11_ended_32 : decode cX11_ended 32 = .ok (.invokevirtual 196, 3) := by decide +kernel
theorem dX11_ended_35 : decode cX11_ended 35 = .ok (.ireturn, 1) := by decide +kernel
set_option maxRecDepth 20000 in
theorem ggX11_isAbove_X9_has : GoodIn wsX11_isAbove wsX9_has := goodIn_r _ [9, 10, 41, 42, 43, 44, 45, 46, 47, 48, 49, 50, 51, 52, 53, 54, 55, 56, 57] (by decide +kernel) (by decide +kernel)
set_option maxRecDepth 20000 in
theorem gX11_isAbove_X9_has : GoodIn wsX11_isAbove (wsV RX11 128 RX9 yX9_has wsX9_has) := goodIn_app (goodIn_of _ (by decide +kernel)) ggX11_isAbove_X9_has
set_option maxRecDepth 20000 in
theorem ggX11_isAbove_X10_ownerAbove : GoodIn wsX11_isAbove wsX10_ownerAbove := goodIn_r _ [15, 16, 17, 18, 19, 20, 21, 22, 23, 24, 25, 33, 34, 35, 36, 37, 38, 39, 40, 41, 42, 43, 44, 45, 46, 47, 48, 49, 50, 51, 52, 53, 54, 55, 56, 57, 58, 59, 60, 61, 62, 63, 64, 65, 66, 67, 68, 69] (by decide +kernel) (by decide +kernel)
set_option maxRecDepth 20000 in
theorem gX11_isAbove_X10_ownerAbove : GoodIn wsX11_isAbove (wsV RX11 210 RX10 yX10_ownerAbove wsX10_ownerAbove) := goodIn_app (goodIn_of _ (by decide +kernel)) ggX11_isAbove_X10_ownerAbove
theorem dX11_isAbove_0 : decode cX11_isAbove 0 = .ok (.aload_n 0, 1) := by decide +kernel
theorem dX11_isAbove_1 : decode cX11_isAbove 1 = .ok (.getfield 30, 3) := by decide +kernel
theorem dX11_isAbove_4 : decode cX11_isAbove 4 = .ok (.getfield 124, 3) := by decide +kernel
theorem dX11_isAbove_7 : decode cX11_isAbove 7 = .ok (.iload_n 1, 1) := by decide +kernel
theorem dX11_isAbove_8 : decode cX11_isAbove 8 = .ok (.invokevirtual 128, 3) := by decide +kernel
theorem dX11_isAbove_11 : decode cX11_isAbove 11 = .ok (.ifCond .eq 17, 3) := by decide +kernel
theorem dX11_isAbove_14 : decode cX11_isAbove 14 = .ok (.aload_n 0, 1) := by decide +kernel
theorem dX11_isAbove_15 : decode cX11_isAbove 15 = .ok (.getfield 30, 3) := by decide +kernel
theorem dX11_isAbove_18 : decode cX11_isAbove 18 = .ok (.getfield 124, 3) := by decide +kernel
theorem dX11_isAbove_21 : decode cX11_isAbove 21 = .ok (.iload_n 2, 1) := by decide +kernel
theorem dX11_isAbove_22 : decode cX11_isAbove 22 = .ok (.invokevirtual 128, 3) := by decide +kernel
theorem dX11_isAbove_25 : decode cX11_isAbove 25 = .ok (.ifCond .ne 13, 3) := by decide +kernel
theorem dX11_isAbove_28 : decode cX11_isAbove 28 = .ok (.new 93, 3) := by decide +kernel
theorem dX11_isAbove_31 : decode cX11_isAbove 31 = .ok (.dup, 1) := by decide +kernel
theorem dX11_isAbove_32 : decode cX11_isAbove 32 = .ok (.ldc 134, 2) := by decide +kernel
theorem dX11_isAbove_34 : decode cX11_isAbove 34 = .ok (.invokespecial 97, 3) := by decide +kernel
theorem dX11_isAbove_37 : decode cX11_isAbove 37 = .ok (.athrow, 1) := by decide +kernel
theorem dX11_isAbove_38 : decode cX11_isAbove 38 = .ok (.aload_n 0, 1) := by decide +kernel
theorem dX11_isAbove_39 : decode cX11_isAbove 39 = .ok (.getfield 30, 3) := by decide +kernel
theorem dX11_isAbove_42 : decode cX11_isAbove 42 = .ok (.iload_n 2, 1) := by decide +kernel
theorem dX11_isAbove_43 : decode cX11_isAbove 43 = .ok (.invokevirtual 210, 3) := by decide +kernel
theorem dX11_isAbove_46 : decode cX11_isAbove 46 = .ok (.istore_n 3, 1) := by decide +kernel
theorem dX11_isAbove_47 : decode cX11_isAbove 47 = .ok (.iconst 0, 1) := by decide +kernel
theorem dX11_isAbove_48 : decode cX11_isAbove 48 = .ok (.istore 4, 2) := by decide +kernel
theorem dX11_isAbove_50 : decode cX11_isAbove 50 = .ok (.iload 4, 2) := by decide +kernel
theorem dX11_isAbove_52 : decode cX11_isAbove 52 = .ok (.bipush 24, 2) := by decide +kernel
theorem dX11_isAbove_54 : decode cX11_isAbove 54 = .ok (.if_icmp .ge 30, 3) := by decide +kernel
theorem dX11_isAbove_57 : decode cX11_isAbove 57 = .ok (.iload_n 3, 1) := by decide +kernel
theorem dX11_isAbove_58 : decode cX11_isAbove 58 = .ok (.iconst (-1), 1) := by decide +kernel
theorem dX11_isAbove_59 : decode cX11_isAbove 59 = .ok (.if_icmp .eq 25, 3) := by decide +kernel
theorem dX11_isAbove_62 : decode cX11_isAbove 62 = .ok (.iload_n 3, 1) := by decide +kernel
theorem dX11_isAbove_63 : decode cX11_isAbove 63 = .ok (.iload_n 1, 1) := by decide +kernel
theorem dX11_isAbove_64 : decode cX11_isAbove 64 = .ok (.if_icmp .ne 5, 3) := by decide +kernel
theorem dX11_isAbove_67 : decode cX11_isAbove 67 = .ok (.iconst 1, 1) := by decide +kernel
theorem dX11_isAbove_68 : decode cX11_isAbove 68 = .ok (.ireturn, 1) := by decide +kernel
theorem dX11_isAbove_69 : decode cX11_isAbove 69 = .ok (.aload_n 0, 1) := by decide +kernel
theorem dX11_isAbove_70 : decode cX11_isAbove 70 = .ok (.getfield 30, 3) := by decide +kernel
theorem dX11_isAbove_73 : decode cX11_isAbove 73 = .ok (.iload_n 3, 1) := by decide +kernel
theorem dX11_isAbove_74 : decode cX11_isAbove 74 = .ok (.invokevirtual 210, 3) := by decide +kernel
theorem dX11_isAbove_77 : decode cX11_isAbove 77 = .ok (.istore_n 3, 1) := by decide +kernel
theorem dX11_isAbove_78 : decode cX11_isAbove 78 = .ok (.iinc 4 1, 3) := by decide +kernel
theorem dX11_isAbove_81 : decode cX11_isAbove 81 = .ok (.goto (-31), 3) := by decide +kernel
theorem dX11_isAbove_84 : decode cX11_isAbove 84 = .ok (.iconst 0, 1) := by decide +kernel
theorem dX11_isAbove_85 : decode cX11_isAbove 85 = .ok (.ireturn, 1) := by decide +kernel
set_option maxRecDepth 20000 in
theorem ggX11_scopeOf_X9_has : GoodIn wsX11_scopeOf wsX9_has := goodIn_r _ [10, 11, 40, 41, 42, 43, 44, 45, 46, 47, 48, 49, 50, 51, 52, 53, 54, 55, 56] (by decide +kernel) (by decide +kernel)
set_option maxRecDepth 20000 in
theorem gX11_scopeOf_X9_has : GoodIn wsX11_scopeOf (wsV RX11 128 RX9 yX9_has wsX9_has) := goodIn_app (goodIn_of _ (by decide +kernel)) ggX11_scopeOf_X9_has
set_option maxRecDepth 20000 in
theorem ggX11_scopeOf_X6_at : GoodIn wsX11_scopeOf wsX6_at := goodIn_r _ [16, 17, 57] (by decide +kernel) (by decide +kernel)
set_option maxRecDepth 20000 in
theorem gX11_scopeOf_X6_at : GoodIn wsX11_scopeOf (wsV RX11 144 RX6 yX6_at wsX6_at) := goodIn_app (goodIn_of _ (by decide +kernel)) ggX11_scopeOf_X6_at
set_option maxRecDepth 20000 in
theorem ggX11_scopeOf_X9_scopeAt : GoodIn wsX11_scopeOf wsX9_scopeAt := goodIn_r _ [21, 22, 23, 24, 13, 14, 15, 16, 17, 40, 41, 42, 43, 44, 45, 46, 47, 48, 49, 50, 51, 52, 53, 54, 55, 56, 57] (by decide +kernel) (by decide +kernel)
set_option maxRecDepth 20000 in
theorem gX11_scopeOf_X9_scopeAt : GoodIn wsX11_scopeOf (wsV RX11 218 RX9 yX9_scopeAt wsX9_scopeAt) := goodIn_app (goodIn_of _ (by decide +kernel)) ggX11_scopeOf_X9_scopeAt
theorem dX11_scopeOf_0 : decode cX11_scopeOf 0 = .ok (.aload_n 0, 1) := by decide +kernel
theorem dX11_scopeOf_1 : decode cX11_scopeOf 1 = .ok (.getfield 30, 3) := by decide +kernel
theorem dX11_scopeOf_4 : decode cX11_scopeOf 4 = .ok (.getfield 124, 3) := by decide +kernel
theorem dX11_scopeOf_7 : decode cX11_scopeOf 7 = .ok (.iload_n 1, 1) := by decide +kernel
theorem dX11_scopeOf_8 : decode cX11_scopeOf 8 = .ok (.invokevirtual 128, 3) := by decide +kernel
theorem dX11_scopeOf_11 : decode cX11_scopeOf 11 = .ok (.ifCond .ne 13, 3) := by decide +kernel
theorem dX11_scopeOf_14 : decode cX11_scopeOf 14 = .ok (.new 93, 3) := by decide +kernel
theorem dX11_scopeOf_17 : decode cX11_scopeOf 17 = .ok (.dup, 1) := by decide +kernel
theorem dX11_scopeOf_18 : decode cX11_scopeOf 18 = .ok (.ldc 134, 2) := by decide +kernel
theorem dX11_scopeOf_20 : decode cX11_scopeOf 20 = .ok (.invokespecial 97, 3) := by decide +kernel
theorem dX11_scopeOf_23 : decode cX11_scopeOf 23 = .ok (.athrow, 1) := by decide +kernel
theorem dX11_scopeOf_24 : decode cX11_scopeOf 24 = .ok (.iload_n 2, 1) := by decide +kernel
theorem dX11_scopeOf_25 : decode cX11_scopeOf 25 = .ok (.ifCond .lt 21, 3) := by decide +kernel
theorem dX11_scopeOf_28 : decode cX11_scopeOf 28 = .ok (.iload_n 2, 1) := by decide +kernel
theorem dX11_scopeOf_29 : decode cX11_scopeOf 29 = .ok (.aload_n 0, 1) := by decide +kernel
theorem dX11_scopeOf_30 : decode cX11_scopeOf 30 = .ok (.getfield 30, 3) := by decide +kernel
theorem dX11_scopeOf_33 : decode cX11_scopeOf 33 = .ok (.getfield 124, 3) := by decide +kernel
theorem dX11_scopeOf_36 : decode cX11_scopeOf 36 = .ok (.getfield 213, 3) := by decide +kernel
theorem dX11_scopeOf_39 : decode cX11_scopeOf 39 = .ok (.iload_n 1, 1) := by decide +kernel
theorem dX11_scopeOf_40 : decode cX11_scopeOf 40 = .ok (.invokevirtual 144, 3) := by decide +kernel
theorem dX11_scopeOf_43 : decode cX11_scopeOf 43 = .ok (.if_icmp .lt 13, 3) := by decide +kernel
theorem dX11_scopeOf_46 : decode cX11_scopeOf 46 = .ok (.new 93, 3) := by decide +kernel
theorem dX11_scopeOf_49 : decode cX11_scopeOf 49 = .ok (.dup, 1) := by decide +kernel
theorem dX11_scopeOf_50 : decode cX11_scopeOf 50 = .ok (.ldc 216, 2) := by decide +kernel
theorem dX11_scopeOf_52 : decode cX11_scopeOf 52 = .ok (.invokespecial 97, 3) := by decide +kernel
theorem dX11_scopeOf_55 : decode cX11_scopeOf 55 = .ok (.athrow, 1) := by decide +kernel
theorem dX11_scopeOf_56 : decode cX11_scopeOf 56 = .ok (.aload_n 0, 1) := by decide +kernel
theorem dX11_scopeOf_57 : decode cX11_scopeOf 57 = .ok (.getfield 30, 3) := by decide +kernel
theorem dX11_scopeOf_60 : decode cX11_scopeOf 60 = .ok (.getfield 124, 3) := by decide +kernel
theorem dX11_scopeOf_63 : decode cX11_scopeOf 63 = .ok (.iload_n 1, 1) := by decide +kernel
theorem dX11_scopeOf_64 : decode cX11_scopeOf 64 = .ok (.iload_n 2, 1) := by decide +kernel
theorem dX11_scopeOf_65 : decode cX11_scopeOf 65 = .ok (.invokevirtual 218, 3) := by decide +kernel
theorem dX11_scopeOf_68 : decode cX11_scopeOf 68 = .ok (.ireturn, 1) := by decide +kernel
set_option maxRecDepth 20000 in
theorem ggX11_channel_X6_at : GoodIn wsX11_channel wsX6_at := goodIn_r _ [14, 15, 56] (by decide +kernel) (by decide +kernel)
set_option maxRecDepth 20000 in
theorem gX11_channel_X6_at : GoodIn wsX11_channel (wsV RX11 144 RX6 yX6_at wsX6_at) := goodIn_app (goodIn_of _ (by decide +kernel)) ggX11_channel_X6_at
set_option maxRecDepth 20000 in
theorem ggX11_channel_X9_countSenders : GoodIn wsX11_channel wsX9_countSenders := goodIn_r _ [20, 21, 22, 23, 24, 19, 25, 26, 27, 28, 11, 12, 13, 14, 15, 57, 58, 59, 60, 61, 62, 63, 64, 65, 66, 67, 68, 69, 70, 71, 72, 73, 56] (by decide +kernel) (by decide +kernel)
set_option maxRecDepth 20000 in
theorem gX11_channel_X9_countSenders : GoodIn wsX11_channel (wsV RX11 235 RX9 yX9_countSenders wsX9_countSenders) := goodIn_app (goodIn_of _ (by decide +kernel)) ggX11_channel_X9_countSenders
set_option maxRecDepth 20000 in
theorem ggX11_channel_X9_countTakers : GoodIn wsX11_channel wsX9_countTakers := goodIn_r _ [32, 21, 33, 34, 35, 19, 36, 26, 27, 37, 28, 11, 12, 13, 14, 15, 57, 58, 59, 60, 61, 62, 63, 64, 65, 66, 67, 68, 69, 70, 71, 72, 73, 56] (by decide +kernel) (by decide +kernel)
set_option maxRecDepth 20000 in
theorem gX11_channel_X9_countTakers : GoodIn wsX11_channel (wsV RX11 238 RX9 yX9_countTakers wsX9_countTakers) := goodIn_app (goodIn_of _ (by decide +kernel)) ggX11_channel_X9_countTakers
theorem dX11_channel_0 : decode cX11_channel 0 = .ok (.iload_n 1, 1) := by decide +kernel
theorem dX11_channel_1 : decode cX11_channel 1 = .ok (.ifCond .lt 8, 3) := by decide +kernel
theorem dX11_channel_4 : decode cX11_channel 4 = .ok (.iload_n 1, 1) := by decide +kernel
theorem dX11_channel_5 : decode cX11_channel 5 = .ok (.iconst 4, 1) := by decide +kernel
theorem dX11_channel_6 : decode cX11_channel 6 = .ok (.if_icmp .lt 13, 3) := by decide +kernel
theorem dX11_channel_9 : decode cX11_channel 9 = .ok (.new 93, 3) := by decide +kernel
theorem dX11_channel_12 : decode cX11_channel 12 = .ok (.dup, 1) := by decide +kernel
theorem dX11_channel_13 : decode cX11_channel 13 = .ok (.ldc 221, 2) := by decide +kernel
theorem dX11_channel_15 : decode cX11_channel 15 = .ok (.invokespecial 97, 3) := by decide +kernel
theorem dX11_channel_18 : decode cX11_channel 18 = .ok (.athrow, 1) := by decide +kernel
theorem dX11_channel_19 : decode cX11_channel 19 = .ok (.iload_n 2, 1) := by decide +kernel
theorem dX11_channel_20 : decode cX11_channel 20 = .ok (.tableswitch 86 0 3 #[32, 47, 62, 74], 32) := by decide +kernel
theorem dX11_channel_52 : decode cX11_channel 52 = .ok (.aload_n 0, 1) := by decide +kernel
theorem dX11_channel_53 : decode cX11_channel 53 = .ok (.getfield 30, 3) := by decide +kernel
theorem dX11_channel_56 : decode cX11_channel 56 = .ok (.getfield 223, 3) := by decide +kernel
theorem dX11_channel_59 : decode cX11_channel 59 = .ok (.getfield 227, 3) := by decide +kernel
theorem dX11_channel_62 : decode cX11_channel 62 = .ok (.iload_n 1, 1) := by decide +kernel
theorem dX11_channel_63 : decode cX11_channel 63 = .ok (.invokevirtual 144, 3) := by decide +kernel
theorem dX11_channel_66 : decode cX11_channel 66 = .ok (.ireturn, 1) := by decide +kernel
theorem dX11_channel_67 : decode cX11_channel 67 = .ok (.aload_n 0, 1) := by decide +kernel
theorem dX11_channel_68 : decode cX11_channel 68 = .ok (.getfield 30, 3) := by decide +kernel
theorem dX11_channel_71 : decode cX11_channel 71 = .ok (.getfield 223, 3) := by decide +kernel
theorem dX11_channel_74 : decode cX11_channel 74 = .ok (.getfield 232, 3) := by decide +kernel
theorem dX11_channel_77 : decode cX11_channel 77 = .ok (.iload_n 1, 1) := by decide +kernel
theorem dX11_channel_78 : decode cX11_channel 78 = .ok (.invokevirtual 144, 3) := by decide +kernel
theorem dX11_channel_81 : decode cX11_channel 81 = .ok (.ireturn, 1) := by decide +kernel
