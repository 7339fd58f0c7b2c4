theorem dX6_readWalls_87 : decode cX6_readWalls 87 = .ok (.istore 4, 2) := by decide +kernel
theorem dX6_readWalls_89 : decode cX6_readWalls 89 = .ok (.iload 4, 2) := by decide +kernel
theorem dX6_readWalls_91 : decode cX6_readWalls 91 = .ok (.iload_n 3, 1) := by decide +kernel
theorem dX6_readWalls_92 : decode cX6_readWalls 92 = .ok (.if_icmp .ne 9, 3) := by decide +kernel
theorem dX6_readWalls_95 : decode cX6_readWalls 95 = .ok (.aload_n 0, 1) := by decide +kernel
theorem dX6_readWalls_96 : decode cX6_readWalls 96 = .ok (.iconst 2, 1) := by decide +kernel
theorem dX6_readWalls_97 : decode cX6_readWalls 97 = .ok (.invokevirtual 63, 3) := by decide +kernel
theorem dX6_readWalls_100 : decode cX6_readWalls 100 = .ok (.ireturn, 1) := by decide +kernel
theorem dX6_readWalls_101 : decode cX6_readWalls 101 = .ok (.aload_n 0, 1) := by decide +kernel
theorem dX6_readWalls_102 : decode cX6_readWalls 102 = .ok (.invokevirtual 24, 3) := by decide +kernel
theorem dX6_readWalls_105 : decode cX6_readWalls 105 = .ok (.aload_n 0, 1) := by decide +kernel
theorem dX6_readWalls_106 : decode cX6_readWalls 106 = .ok (.bipush 59, 2) := by decide +kernel
theorem dX6_readWalls_108 : decode cX6_readWalls 108 = .ok (.invokevirtual 40, 3) := by decide +kernel
theorem dX6_readWalls_111 : decode cX6_readWalls 111 = .ok (.ifCond .ne 5, 3) := by decide +kernel
theorem dX6_readWalls_114 : decode cX6_readWalls 114 = .ok (.iconst 0, 1) := by decide +kernel
theorem dX6_readWalls_115 : decode cX6_readWalls 115 = .ok (.ireturn, 1) := by decide +kernel
theorem dX6_readWalls_116 : decode cX6_readWalls 116 = .ok (.aload_n 1, 1) := by decide +kernel
theorem dX6_readWalls_117 : decode cX6_readWalls 117 = .ok (.iload_n 3, 1) := by decide +kernel
theorem dX6_readWalls_118 : decode cX6_readWalls 118 = .ok (.iload 4, 2) := by decide +kernel
theorem dX6_readWalls_120 : decode cX6_readWalls 120 = .ok (.invokevirtual 66, 3) := by decide +kernel
theorem dX6_readWalls_123 : decode cX6_readWalls 123 = .ok (.iinc 2 1, 3) := by decide +kernel
theorem dX6_readWalls_126 : decode cX6_readWalls 126 = .ok (.goto (-124), 3) := by decide +kernel
theorem dX6_readWalls_129 : decode cX6_readWalls 129 = .ok (.iconst 1, 1) := by decide +kernel
theorem dX6_readWalls_130 : decode cX6_readWalls 130 = .ok (.ireturn, 1) := by decide +kernel
set_option maxRecDepth 20000 in
theorem ggX6_readPeople_X6_faulty : GoodIn wsX6_readPeople wsX6_faulty := goodIn_r _ [10, 11, 12, 13, 36, 37, 38, 39, 40, 41, 42, 43] (by decide +kernel) (by decide +kernel)
set_option maxRecDepth 20000 in
theorem gX6_readPeople_X6_faulty : GoodIn wsX6_readPeople (wsV RX6 63 RX6 yX6_faulty wsX6_faulty) := goodIn_app (goodIn_of _ (by decide +kernel)) ggX6_readPeople_X6_faulty
set_option maxRecDepth 20000 in
theorem ggX6_readPeople_X6_step : GoodIn wsX6_readPeople wsX6_step := goodIn_r _ [17, 18, 12, 19, 1, 20, 21, 22, 9, 23, 24, 25, 26, 27, 4, 36, 37, 38, 39, 40, 41, 42, 43] (by decide +kernel) (by decide +kernel)
set_option maxRecDepth 20000 in
theorem gX6_readPeople_X6_step : GoodIn wsX6_readPeople (wsV RX6 24 RX6 yX6_step wsX6_step) := goodIn_app (goodIn_of _ (by decide +kernel)) ggX6_readPeople_X6_step
set_option maxRecDepth 20000 in
theorem ggX6_readPeople_X6_take : GoodIn wsX6_readPeople wsX6_take := goodIn_r _ [31, 1, 6, 7, 8, 9, 10, 11, 12, 13, 14, 15, 16, 17, 18, 19, 20, 21, 22, 23, 24, 25, 26, 27, 4, 36, 37, 38, 39, 40, 41, 42, 43] (by decide +kernel) (by decide +kernel)
set_option maxRecDepth 20000 in
theorem gX6_readPeople_X6_take : GoodIn wsX6_readPeople (wsV RX6 40 RX6 yX6_take wsX6_take) := goodIn_app (goodIn_of _ (by decide +kernel)) ggX6_readPeople_X6_take
set_option maxRecDepth 20000 in
theorem ggX6_readPeople_X6_numberStands : GoodIn wsX6_readPeople wsX6_numberStands := goodIn_r _ [35, 1, 4, 6, 7, 8, 9, 10, 11, 12, 13, 36, 37, 38, 39, 40, 41, 42, 43] (by decide +kernel) (by decide +kernel)
set_option maxRecDepth 20000 in
theorem gX6_readPeople_X6_numberStands : GoodIn wsX6_readPeople (wsV RX6 44 RX6 yX6_numberStands wsX6_numberStands) := goodIn_app (goodIn_of _ (by decide +kernel)) ggX6_readPeople_X6_numberStands
theorem dX6_readPeople_0 : decode cX6_readPeople 0 = .ok (.iconst 0, 1) := by decide +kernel
theorem dX6_readPeople_1 : decode cX6_readPeople 1 = .ok (.istore_n 2, 1) := by decide +kernel
theorem dX6_readPeople_2 : decode cX6_readPeople 2 = .ok (.iload_n 2, 1) := by decide +kernel
theorem dX6_readPeople_3 : decode cX6_readPeople 3 = .ok (.iconst 4, 1) := by decide +kernel
theorem dX6_readPeople_4 : decode cX6_readPeople 4 = .ok (.if_icmp .gt 116, 3) := by decide +kernel
theorem dX6_readPeople_7 : decode cX6_readPeople 7 = .ok (.aload_n 0, 1) := by decide +kernel
theorem dX6_readPeople_8 : decode cX6_readPeople 8 = .ok (.getfield 60, 3) := by decide +kernel
theorem dX6_readPeople_11 : decode cX6_readPeople 11 = .ok (.bipush 114, 2) := by decide +kernel
theorem dX6_readPeople_13 : decode cX6_readPeople 13 = .ok (.if_icmp .ne 107, 3) := by decide +kernel
theorem dX6_readPeople_16 : decode cX6_readPeople 16 = .ok (.iload_n 2, 1) := by decide +kernel
theorem dX6_readPeople_17 : decode cX6_readPeople 17 = .ok (.iconst 4, 1) := by decide +kernel
theorem dX6_readPeople_18 : decode cX6_readPeople 18 = .ok (.if_icmp .ne 9, 3) := by decide +kernel
theorem dX6_readPeople_21 : decode cX6_readPeople 21 = .ok (.aload_n 0, 1) := by decide +kernel
theorem dX6_readPeople_22 : decode cX6_readPeople 22 = .ok (.iconst 3, 1) := by decide +kernel
theorem dX6_readPeople_23 : decode cX6_readPeople 23 = .ok (.invokevirtual 63, 3) := by decide +kernel
theorem dX6_readPeople_26 : decode cX6_readPeople 26 = .ok (.ireturn, 1) := by decide +kernel
theorem dX6_readPeople_27 : decode cX6_readPeople 27 = .ok (.aload_n 0, 1) := by decide +kernel
theorem dX6_readPeople_28 : decode cX6_readPeople 28 = .ok (.invokevirtual 24, 3) := by decide +kernel
theorem dX6_readPeople_31 : decode cX6_readPeople 31 = .ok (.iconst 0, 1) := by decide +kernel
theorem dX6_readPeople_32 : decode cX6_readPeople 32 = .ok (.istore_n 3, 1) := by decide +kernel
theorem dX6_readPeople_33 : decode cX6_readPeople 33 = .ok (.iload_n 3, 1) := by decide +kernel
theorem dX6_readPeople_34 : decode cX6_readPeople 34 = .ok (.bipush 8, 2) := by decide +kernel
theorem dX6_readPeople_36 : decode cX6_readPeople 36 = .ok (.if_icmp .ge 57, 3) := by decide +kernel
theorem dX6_readPeople_39 : decode cX6_readPeople 39 = .ok (.iload_n 3, 1) := by decide +kernel
theorem dX6_readPeople_40 : decode cX6_readPeople 40 = .ok (.ifCond .le 12, 3) := by decide +kernel
theorem dX6_readPeople_43 : decode cX6_readPeople 43 = .ok (.aload_n 0, 1) := by decide +kernel
theorem dX6_readPeople_44 : decode cX6_readPeople 44 = .ok (.bipush 44, 2) := by decide +kernel
theorem dX6_readPeople_46 : decode cX6_readPeople 46 = .ok (.invokevirtual 40, 3) := by decide +kernel
theorem dX6_readPeople_49 : decode cX6_readPeople 49 = .ok (.ifCond .eq 17, 3) := by decide +kernel
theorem dX6_readPeople_52 : decode cX6_readPeople 52 = .ok (.aload_n 0, 1) := by decide +kernel
theorem dX6_readPeople_53 : decode cX6_readPeople 53 = .ok (.iconst 0, 1) := by decide +kernel
theorem dX6_readPeople_54 : decode cX6_readPeople 54 = .ok (.aload_n 1, 1) := by decide +kernel
theorem dX6_readPeople_55 : decode cX6_readPeople 55 = .ok (.getfield 51, 3) := by decide +kernel
theorem dX6_readPeople_58 : decode cX6_readPeople 58 = .ok (.iconst 1, 1) := by decide +kernel
theorem dX6_readPeople_59 : decode cX6_readPeople 59 = .ok (.isub, 1) := by decide +kernel
theorem dX6_readPeople_60 : decode cX6_readPeople 60 = .ok (.invokevirtual 44, 3) := by decide +kernel
theorem dX6_readPeople_63 : decode cX6_readPeople 63 = .ok (.ifCond .ne 5, 3) := by decide +kernel
theorem dX6_readPeople_66 : decode cX6_readPeople 66 = .ok (.iconst 0, 1) := by decide +kernel
theorem dX6_readPeople_67 : decode cX6_readPeople 67 = .ok (.ireturn, 1) := by decide +kernel
theorem dX6_readPeople_68 : decode cX6_readPeople 68 = .ok (.aload_n 1, 1) := by decide +kernel
theorem dX6_readPeople_69 : decode cX6_readPeople 69 = .ok (.getfield 70, 3) := by decide +kernel
theorem dX6_readPeople_72 : decode cX6_readPeople 72 = .ok (.bipush 8, 2) := by decide +kernel
theorem dX6_readPeople_74 : decode cX6_readPeople 74 = .ok (.iload_n 2, 1) := by decide +kernel
theorem dX6_readPeople_75 : decode cX6_readPeople 75 = .ok (.imul, 1) := by decide +kernel
theorem dX6_readPeople_76 : decode cX6_readPeople 76 = .ok (.iload_n 3, 1) := by decide +kernel
theorem dX6_readPeople_77 : decode cX6_readPeople 77 = .ok (.iadd, 1) := by decide +kernel
theorem dX6_readPeople_78 : decode cX6_readPeople 78 = .ok (.aload_n 0, 1) := by decide +kernel
theorem dX6_readPeople_79 : decode cX6_readPeople 79 = .ok (.getfield 48, 3) := by decide +kernel
theorem dX6_readPeople_82 : decode cX6_readPeople 82 = .ok (.iastore, 1) := by decide +kernel
theorem dX6_readPeople_83 : decode cX6_readPeople 83 = .ok (.aload_n 0, 1) := by decide +kernel
theorem dX6_readPeople_84 : decode cX6_readPeople 84 = .ok (.invokevirtual 24, 3) := by decide +kernel
theorem dX6_readPeople_87 : decode cX6_readPeople 87 = .ok (.iinc 3 1, 3) := by decide +kernel
theorem dX6_readPeople_90 : decode cX6_readPeople 90 = .ok (.goto (-57), 3) := by decide +kernel
theorem dX6_readPeople_93 : decode cX6_readPeople 93 = .ok (.aload_n 0, 1) := by decide +kernel
theorem dX6_readPeople_94 : decode cX6_readPeople 94 = .ok (.bipush 59, 2) := by decide +kernel
theorem dX6_readPeople_96 : decode cX6_readPeople 96 = .ok (.invokevirtual 40, 3) := by decide +kernel
theorem dX6_readPeople_99 : decode cX6_readPeople 99 = .ok (.ifCond .ne 5, 3) := by decide +kernel
theorem dX6_readPeople_102 : decode cX6_readPeople 102 = .ok (.iconst 0, 1) := by decide +kernel
theorem dX6_readPeople_103 : decode cX6_readPeople 103 = .ok (.ireturn, 1) := by decide +kernel
theorem dX6_readPeople_104 : decode cX6_readPeople 104 = .ok (.aload_n 1, 1) := by decide +kernel
theorem dX6_readPeople_105 : decode cX6_readPeople 105 = .ok (.dup, 1) := by decide +kernel
theorem dX6_readPeople_106 : decode cX6_readPeople 106 = .ok (.getfield 73, 3) := by decide +kernel
theorem dX6_readPeople_109 : decode cX6_readPeople 109 = .ok (.iconst 1, 1) := by decide +kernel
theorem dX6_readPeople_110 : decode cX6_readPeople 110 = .ok (.iadd, 1) := by decide +kernel
theorem dX6_readPeople_111 : decode cX6_readPeople 111 = .ok (.putfield 73, 3) := by decide +kernel
theorem dX6_readPeople_114 : decode cX6_readPeople 114 = .ok (.iinc 2 1, 3) := by decide +kernel
theorem dX6_readPeople_117 : decode cX6_readPeople 117 = .ok (.goto (-115), 3) := by decide +kernel
theorem dX6_readPeople_120 : decode cX6_readPeople 120 = .ok (.iconst 1, 1) := by decide +kernel
theorem dX6_readPeople_121 : decode cX6_readPeople 121 = .ok (.ireturn, 1) := by decide +kernel
set_option maxRecDepth 20000 in
theorem ggX6_readVisitors_X6_isSort : GoodIn wsX6_readVisitors wsX6_isSort := goodIn_r _ [9] (by decide +kernel) (by decide +kernel)
set_option maxRecDepth 20000 in
theorem gX6_readVisitors_X6_isSort : GoodIn wsX6_readVisitors (va_wsS RX6 76 yX6_isSort wsX6_isSort) := goodIn_app (goodIn_of _ (by decide +kernel)) ggX6_readVisitors_X6_isSort
set_option maxRecDepth 20000 in
theorem ggX6_readVisitors_X6_faulty : GoodIn wsX6_readVisitors wsX6_faulty := goodIn_r _ [13, 14, 15, 16, 84, 85, 86, 87, 88, 89, 90, 91] (by decide +kernel) (by decide +kernel)
set_option maxRecDepth 20000 in
theorem gX6_readVisitors_X6_faulty : GoodIn wsX6_readVisitors (wsV RX6 63 RX6 yX6_faulty wsX6_faulty) := goodIn_app (goodIn_of _ (by decide +kernel)) ggX6_readVisitors_X6_faulty
set_option maxRecDepth 20000 in
theorem ggX6_readVisitors_X6_newVisitor : GoodIn wsX6_readVisitors wsX6_newVisitor := goodIn_r _ [19, 20, 21, 22, 23, 24, 25, 26, 27, 28, 29, 30, 31, 32, 33, 34, 35, 36, 37, 38, 39, 40, 41, 42, 43, 44, 45, 46, 47, 48, 49, 50, 51, 52, 53, 54, 55, 56, 57, 58, 59, 60, 61, 107, 108, 109, 110, 111] (by decide +kernel) (by decide +kernel)
set_option maxRecDepth 20000 in
theorem gX6_readVisitors_X6_newVisitor : GoodIn wsX6_readVisitors (va_wsS RX6 83 yX6_newVisitor wsX6_newVisitor) := goodIn_app (goodIn_of _ (by decide +kernel)) ggX6_readVisitors_X6_newVisitor
set_option maxRecDepth 20000 in
theorem ggX6_readVisitors_X6_step : GoodIn wsX6_readVisitors wsX6_step := goodIn_r _ [65, 66, 15, 67, 1, 68, 69, 70, 8, 71, 72, 73, 74, 75, 4, 84, 85, 86, 87, 88, 89, 90, 91] (by decide +kernel) (by decide +kernel)
set_option maxRecDepth 20000 in
theorem gX6_readVisitors_X6_step : GoodIn wsX6_readVisitors (wsV RX6 24 RX6 yX6_step wsX6_step) := goodIn_app (goodIn_of _ (by decide +kernel)) ggX6_readVisitors_X6_step
set_option maxRecDepth 20000 in
theorem ggX6_readVisitors_X6_numberStands : GoodIn wsX6_readVisitors wsX6_numberStands := goodIn_r _ [79, 1, 4, 10, 11, 12, 8, 13, 14, 15, 16, 84, 85, 86, 87, 88, 89, 90, 91] (by decide +kernel) (by decide +kernel)
set_option maxRecDepth 20000 in
theorem gX6_readVisitors_X6_numberStands : GoodIn wsX6_readVisitors (wsV RX6 44 RX6 yX6_numberStands wsX6_numberStands) := goodIn_app (goodIn_of _ (by decide +kernel)) ggX6_readVisitors_X6_numberStands
set_option maxRecDepth 20000 in
theorem ggX6_readVisitors_X6_take : GoodIn wsX6_readVisitors wsX6_take := goodIn_r _ [83, 1, 10, 11, 12, 8, 13, 14, 15, 16, 62, 63, 64, 65, 66, 67, 68, 69, 70, 71, 72, 73, 74, 75, 4, 84, 85, 86, 87, 88, 89, 90, 91] (by decide +kernel) (by decide +kernel)
set_option maxRecDepth 20000 in
theorem gX6_readVisitors_X6_take : GoodIn wsX6_readVisitors (wsV RX6 40 RX6 yX6_take wsX6_take) := goodIn_app (goodIn_of _ (by decide +kernel)) ggX6_readVisitors_X6_take
theorem dX6_readVisitors_0 : decode cX6_readVisitors 0 = .ok (.iconst 0, 1) := by decide +kernel
theorem dX6_readVisitors_1 : decode cX6_readVisitors 1 = .ok (.istore_n 2, 1) := by decide +kernel
theorem dX6_readVisitors_2 : decode cX6_readVisitors 2 = .ok (.iload_n 2, 1) := by decide +kernel
theorem dX6_readVisitors_3 : decode cX6_readVisitors 3 = .ok (.iconst 4, 1) := by decide +kernel
theorem dX6_readVisitors_4 : decode cX6_readVisitors 4 = .ok (.if_icmp .gt 95, 3) := by decide +kernel
theorem dX6_readVisitors_7 : decode cX6_readVisitors 7 = .ok (.aload_n 0, 1) := by decide +kernel
theorem dX6_readVisitors_8 : decode cX6_readVisitors 8 = .ok (.getfield 60, 3) := by decide +kernel
theorem dX6_readVisitors_11 : decode cX6_readVisitors 11 = .ok (.invokestatic 76, 3) := by decide +kernel
theorem dX6_readVisitors_14 : decode cX6_readVisitors 14 = .ok (.ifCond .eq 85, 3) := by decide +kernel
theorem dX6_readVisitors_17 : decode cX6_readVisitors 17 = .ok (.iload_n 2, 1) := by decide +kernel
theorem dX6_readVisitors_18 : decode cX6_readVisitors 18 = .ok (.iconst 4, 1) := by decide +kernel
theorem dX6_readVisitors_19 : decode cX6_readVisitors 19 = .ok (.if_icmp .ne 9, 3) := by decide +kernel
theorem dX6_readVisitors_22 : decode cX6_readVisitors 22 = .ok (.aload_n 0, 1) := by decide +kernel
theorem dX6_readVisitors_23 : decode cX6_readVisitors 23 = .ok (.iconst 3, 1) := by decide +kernel
theorem dX6_readVisitors_24 : decode cX6_readVisitors 24 = .ok (.invokevirtual 63, 3) := by decide +kernel
theorem dX6_readVisitors_27 : decode cX6_readVisitors 27 = .ok (.ireturn, 1) := by decide +kernel
theorem dX6_readVisitors_28 : decode cX6_readVisitors 28 = .ok (.aload_n 1, 1) := by decide +kernel
theorem dX6_readVisitors_29 : decode cX6_readVisitors 29 = .ok (.getfield 79, 3) := by decide +kernel
theorem dX6_readVisitors_32 : decode cX6_readVisitors 32 = .ok (.iload_n 2, 1) := by decide +kernel
theorem dX6_readVisitors_33 : decode cX6_readVisitors 33 = .ok (.aload_n 0, 1) := by decide +kernel
theorem dX6_readVisitors_34 : decode cX6_readVisitors 34 = .ok (.getfield 60, 3) := by decide +kernel
theorem dX6_readVisitors_37 : decode cX6_readVisitors 37 = .ok (.iload_n 2, 1) := by decide +kernel
theorem dX6_readVisitors_38 : decode cX6_readVisitors 38 = .ok (.invokestatic 83, 3) := by decide +kernel
theorem dX6_readVisitors_41 : decode cX6_readVisitors 41 = .ok (.aastore, 1) := by decide +kernel
theorem dX6_readVisitors_42 : decode cX6_readVisitors 42 = .ok (.aload_n 0, 1) := by decide +kernel
theorem dX6_readVisitors_43 : decode cX6_readVisitors 43 = .ok (.invokevirtual 24, 3) := by decide +kernel
theorem dX6_readVisitors_46 : decode cX6_readVisitors 46 = .ok (.aload_n 0, 1) := by decide +kernel
theorem dX6_readVisitors_47 : decode cX6_readVisitors 47 = .ok (.iconst 0, 1) := by decide +kernel
theorem dX6_readVisitors_48 : decode cX6_readVisitors 48 = .ok (.bipush 99, 2) := by decide +kernel
theorem dX6_readVisitors_50 : decode cX6_readVisitors 50 = .ok (.invokevirtual 44, 3) := by decide +kernel
theorem dX6_readVisitors_53 : decode cX6_readVisitors 53 = .ok (.ifCond .ne 5, 3) := by decide +kernel
theorem dX6_readVisitors_56 : decode cX6_readVisitors 56 = .ok (.iconst 0, 1) := by decide +kernel
theorem dX6_readVisitors_57 : decode cX6_readVisitors 57 = .ok (.ireturn, 1) := by decide +kernel
theorem dX6_readVisitors_58 : decode cX6_readVisitors 58 = .ok (.aload_n 1, 1) := by decide +kernel
theorem dX6_readVisitors_59 : decode cX6_readVisitors 59 = .ok (.getfield 87, 3) := by decide +kernel
theorem dX6_readVisitors_62 : decode cX6_readVisitors 62 = .ok (.iload_n 2, 1) := by decide +kernel
theorem dX6_readVisitors_63 : decode cX6_readVisitors 63 = .ok (.aload_n 0, 1) := by decide +kernel
theorem dX6_readVisitors_64 : decode cX6_readVisitors 64 = .ok (.getfield 48, 3) := by decide +kernel
theorem dX6_readVisitors_67 : decode cX6_readVisitors 67 = .ok (.iastore, 1) := by decide +kernel
theorem dX6_readVisitors_68 : decode cX6_readVisitors 68 = .ok (.aload_n 0, 1) := by decide +kernel
theorem dX6_readVisitors_69 : decode cX6_readVisitors 69 = .ok (.invokevirtual 24, 3) := by decide +kernel
theorem dX6_readVisitors_72 : decode cX6_readVisitors 72 = .ok (.aload_n 0, 1) := by decide +kernel
theorem dX6_readVisitors_73 : decode cX6_readVisitors 73 = .ok (.bipush 59, 2) := by decide +kernel
theorem dX6_readVisitors_75 : decode cX6_readVisitors 75 = .ok (.invokevirtual 40, 3) := by decide +kernel
theorem dX6_readVisitors_78 : decode cX6_readVisitors 78 = .ok (.ifCond .ne 5, 3) := by decide +kernel
theorem dX6_readVisitors_81 : decode cX6_readVisitors 81 = .ok (.iconst 0, 1) := by decide +kernel
theorem dX6_readVisitors_82 : decode cX6_readVisitors 82 = .ok (.ireturn, 1) := by decide +kernel
theorem dX6_readVisitors_83 : decode cX6_readVisitors 83 = .ok (.aload_n 1, 1) := by decide +kernel
theorem dX6_readVisitors_84 : decode cX6_readVisitors 84 = .ok (.dup, 1) := by decide +kernel
theorem dX6_readVisitors_85 : decode cX6_readVisitors 85 = .ok (.getfield 90, 3) := by decide +kernel
theorem dX6_readVisitors_88 : decode cX6_readVisitors 88 = .ok (.iconst 1, 1) := by decide +kernel
theorem dX6_readVisitors_89 : decode cX6_readVisitors 89 = .ok (.iadd, 1) := by decide +kernel
theorem dX6_readVisitors_90 : decode cX6_readVisitors 90 = .ok (.putfield 90, 3) := by decide +kernel
theorem dX6_readVisitors_93 : decode cX6_readVisitors 93 = .ok (.iinc 2 1, 3) := by decide +kernel
theorem dX6_readVisitors_96 : decode cX6_readVisitors 96 = .ok (.goto (-94), 3) := by decide +kernel
theorem dX6_readVisitors_99 : decode cX6_readVisitors 99 = .ok (.iconst 1, 1) := by decide +kernel
theorem dX6_readVisitors_100 : decode cX6_readVisitors 100 = .ok (.ireturn, 1) := by decide +kernel
theorem dX6_isSort_0 : decode cX6_isSort 0 = .ok (.iload_n 0, 1) := by decide +kernel
theorem dX6_isSort_1 : decode cX6_isSort 1 = .ok (.bipush 97, 2) := by decide +kernel
theorem dX6_isSort_3 : decode cX6_isSort 3 = .ok (.if_icmp .eq 27, 3) := by decide +kernel
theorem dX6_isSort_6 : decode cX6_isSort 6 = .ok (.iload_n 0, 1) := by decide +kernel
theorem dX6_isSort_7 : decode cX6_isSort 7 = .ok (.bipush 100, 2) := by decide +kernel
theorem dX6_isSort_9 : decode cX6_isSort 9 = .ok (.if_icmp .eq 21, 3) := by decide +kernel
theorem dX6_isSort_12 : decode cX6_isSort 12 = .ok (.iload_n 0, 1) := by decide +kernel
theorem dX6_isSort_13 : decode cX6_isSort 13 = .ok (.bipush 108, 2) := by decide +kernel
theorem dX6_isSort_15 : decode cX6_isSort 15 = .ok (.if_icmp .eq 15, 3) := by decide +kernel
theorem dX6_isSort_18 : decode cX6_isSort 18 = .ok (.iload_n 0, 1) := by decide +kernel
theorem dX6_isSort_19 : decode cX6_isSort 19 = .ok (.bipush 116, 2) := by decide +kernel
theorem dX6_isSort_21 : decode cX6_isSort 21 = .ok (.if_icmp .eq 9, 3) := by decide +kernel
theorem dX6_isSort_24 : decode cX6_isSort 24 = .ok (.iload_n 0, 1) := by decide +kernel
theorem dX6_isSort_25 : decode cX6_isSort 25 = .ok (.bipush 119, 2) := by decide +kernel
theorem dX6_isSort_27 : decode cX6_isSort 27 = .ok (.if_icmp .ne 7, 3) := by decide +kernel
theorem dX6_isSort_30 : decode cX6_isSort 30 = .ok (.iconst 1, 1) := by decide +kernel
theorem dX6_isSort_31 : decode cX6_isSort 31 = .ok (.goto 4, 3) := by decide +kernel
theorem dX6_isSort_34 : decode cX6_isSort 34 = .ok (.iconst 0, 1) := by decide +kernel
theorem dX6_isSort_35 : decode cX6_isSort 35 = .ok (.ireturn, 1) := by decide +kernel
set_option maxRecDepth 20000 in
theorem ggX6_newVisitor_X2_init : GoodIn wsX6_newVisitor wsX2_init := goodIn_r _ [18, 19, 20, 12, 21, 22, 23, 24, 25, 26, 27, 28, 29, 44, 43, 45, 47, 46] (by decide +kernel) (by decide +kernel)
set_option maxRecDepth 20000 in
theorem gX6_newVisitor_X2_init : GoodIn wsX6_newVisitor (wsX2_init) := ggX6_newVisitor_X2_init
set_option maxRecDepth 20000 in
theorem ggX6_newVisitor_X1_init : GoodIn wsX6_newVisitor wsX1_init := goodIn_r _ [32, 33, 34, 15, 35, 36, 23, 24, 25, 26, 27, 28, 29, 44, 43, 45, 47, 46] (by decide +kernel) (by decide +kernel)
set_option maxRecDepth 20000 in
theorem gX6_newVisitor_X1_init : GoodIn wsX6_newVisitor (wsX1_init) := ggX6_newVisitor_X1_init
set_option maxRecDepth 20000 in
theorem ggX6_newVisitor_X4_init : GoodIn wsX6_newVisitor wsX4_init := goodIn_r _ [39, 40, 34, 15, 35, 36, 23, 24, 25, 26, 27, 28, 29, 44, 43, 45, 47, 46] (by decide +kernel) (by decide +kernel)
set_option maxRecDepth 20000 in
theorem gX6_newVisitor_X4_init : GoodIn wsX6_newVisitor (wsX4_init) := ggX6_newVisitor_X4_init
set_option maxRecDepth 20000 in
theorem ggX6_newVisitor_X10_init : GoodIn wsX6_newVisitor wsX10_init := goodIn_r _ [21, 22, 23, 24, 25, 26, 27, 28, 29, 44, 43, 45, 47, 46] (by decide +kernel) (by decide +kernel)
set_option maxRecDepth 20000 in
theorem gX6_newVisitor_X10_init : GoodIn wsX6_newVisitor (wsX10_init) := ggX6_newVisitor_X10_init
set_option maxRecDepth 20000 in
theorem ggX6_newVisitor_X7_init : GoodIn wsX6_newVisitor wsX7_init := goodIn_r _ [35, 36, 23, 24, 25, 26, 27, 28, 29, 44, 43, 45, 47, 46] (by decide +kernel) (by decide +kernel)
set_option maxRecDepth 20000 in
theorem gX6_newVisitor_X7_init : GoodIn wsX6_newVisitor (wsX7_init) := ggX6_newVisitor_X7_init
theorem dX6_newVisitor_0 : decode cX6_newVisitor 0 = .ok (.iload_n 0, 1) := by decide +kernel
theorem dX6_newVisitor_1 : decode cX6_newVisitor 1 = .ok (.lookupswitch 79 #[(97, 43), (100, 52), (108, 61), (119, 70)], 43) := by decide +kernel
theorem dX6_newVisitor_44 : decode cX6_newVisitor 44 = .ok (.new 93, 3) := by decide +kernel
theorem dX6_newVisitor_47 : decode cX6_newVisitor 47 = .ok (.dup, 1) := by decide +kernel
theorem dX6_newVisitor_48 : decode cX6_newVisitor 48 = .ok (.iload_n 1, 1) := by decide +kernel
theorem dX6_newVisitor_49 : decode cX6_newVisitor 49 = .ok (.invokespecial 95, 3) := by decide +kernel
theorem dX6_newVisitor_52 : decode cX6_newVisitor 52 = .ok (.areturn, 1) := by decide +kernel
theorem dX6_newVisitor_53 : decode cX6_newVisitor 53 = .ok (.new 98, 3) := by decide +kernel
theorem dX6_newVisitor_56 : decode cX6_newVisitor 56 = .ok (.dup, 1) := by decide +kernel
theorem dX6_newVisitor_57 : decode cX6_newVisitor 57 = .ok (.iload_n 1, 1) := by decide +kernel
theorem dX6_newVisitor_58 : decode cX6_newVisitor 58 = .ok (.invokespecial 100, 3) := by decide +kernel
theorem dX6_newVisitor_61 : decode cX6_newVisitor 61 = .ok (.areturn, 1) := by decide +kernel
theorem dX6_newVisitor_62 : decode cX6_newVisitor 62 = .ok (.new 101, 3) := by decide +kernel
theorem dX6_newVisitor_65 : decode cX6_newVisitor 65 = .ok (.dup, 1) := by decide +kernel
theorem dX6_newVisitor_66 : decode cX6_newVisitor 66 = .ok (.iload_n 1, 1) := by decide +kernel
theorem dX6_newVisitor_67 : decode cX6_newVisitor 67 = .ok (.invokespecial 103, 3) := by decide +kernel
theorem dX6_newVisitor_70 : decode cX6_newVisitor 70 = .ok (.areturn, 1) := by decide +kernel
theorem dX6_newVisitor_71 : decode cX6_newVisitor 71 = .ok (.new 104, 3) := by decide +kernel
theorem dX6_newVisitor_74 : decode cX6_newVisitor 74 = .ok (.dup, 1) := by decide +kernel
theorem dX6_newVisitor_75 : decode cX6_newVisitor 75 = .ok (.iload_n 1, 1) := by decide +kernel
theorem dX6_newVisitor_76 : decode cX6_newVisitor 76 = .ok (.invokespecial 106, 3) := by decide +kernel
theorem dX6_newVisitor_79 : decode cX6_newVisitor 79 = .ok (.areturn, 1) := by decide +kernel
theorem dX6_newVisitor_80 : decode cX6_newVisitor 80 = .ok (.new 107, 3) := by decide +kernel
theorem dX6_newVisitor_83 : decode cX6_newVisitor 83 = .ok (.dup, 1) := by decide +kernel
theorem dX6_newVisitor_84 : decode cX6_newVisitor 84 = .ok (.iload_n 1, 1) := by decide +kernel
theorem dX6_newVisitor_85 : decode cX6_newVisitor 85 = .ok (.invokespecial 109, 3) := by decide +kernel
theorem dX6_newVisitor_88 : decode cX6_newVisitor 88 = .ok (.areturn, 1) := by decide +kernel
set_option maxRecDepth 20000 in
theorem ggX6_take_X6_faulty : GoodIn wsX6_take wsX6_faulty := goodIn_r _ [6, 7, 8, 9, 25, 26, 27, 28, 29, 30, 31, 32] (by decide +kernel) (by decide +kernel)
set_option maxRecDepth 20000 in
theorem gX6_take_X6_faulty : GoodIn wsX6_take (wsV RX6 63 RX6 yX6_faulty wsX6_faulty) := goodIn_app (goodIn_of _ (by decide +kernel)) ggX6_take_X6_faulty
set_option maxRecDepth 20000 in
theorem ggX6_take_X6_step : GoodIn wsX6_take wsX6_step := goodIn_r _ [13, 14, 8, 15, 1, 16, 17, 18, 5, 19, 20, 21, 22, 23, 24, 25, 26, 27, 28, 29, 30, 31, 32] (by decide +kernel) (by decide +kernel)
set_option maxRecDepth 20000 in
theorem gX6_take_X6_step : GoodIn wsX6_take (wsV RX6 24 RX6 yX6_step wsX6_step) := goodIn_app (goodIn_of _ (by decide +kernel)) ggX6_take_X6_step
theorem dX6_take_0 : decode cX6_take 0 = .ok (.aload_n 0, 1) := by decide +kernel
theorem dX6_take_1 : decode cX6_take 1 = .ok (.getfield 60, 3) := by decide +kernel
theorem dX6_take_4 : decode cX6_take 4 = .ok (.iload_n 1, 1) := by decide +kernel
theorem dX6_take_5 : decode cX6_take 5 = .ok (.if_icmp .eq 9, 3) := by decide +kernel
theorem dX6_take_8 : decode cX6_take 8 = .ok (.aload_n 0, 1) := by decide +kernel
theorem dX6_take_9 : decode cX6_take 9 = .ok (.iconst 1, 1) := by decide +kernel
theorem dX6_take_10 : decode cX6_take 10 = .ok (.invokevirtual 63, 3) := by decide +kernel
theorem dX6_take_13 : decode cX6_take 13 = .ok (.ireturn, 1) := by decide +kernel
theorem dX6_take_14 : decode cX6_take 14 = .ok (.aload_n 0, 1) := by decide +kernel
theorem dX6_take_15 : decode cX6_take 15 = .ok (.invokevirtual 24, 3) := by decide +kernel
theorem dX6_take_18 : decode cX6_take 18 = .ok (.iconst 1, 1) := by decide +kernel
theorem dX6_take_19 : decode cX6_take 19 = .ok (.ireturn, 1) := by decide +kernel
set_option maxRecDepth 20000 in
theorem ggX6_numberStands_X6_faulty : GoodIn wsX6_numberStands wsX6_faulty := goodIn_r _ [7, 8, 9, 10, 11, 12, 13, 14, 15, 16, 17, 18] (by decide +kernel) (by decide +kernel)
set_option maxRecDepth 20000 in
theorem gX6_numberStands_X6_faulty : GoodIn wsX6_numberStands (wsV RX6 63 RX6 yX6_faulty wsX6_faulty) := goodIn_app (goodIn_of _ (by decide +kernel)) ggX6_numberStands_X6_faulty
theorem dX6_numberStands_0 : decode cX6_numberStands 0 = .ok (.aload_n 0, 1) := by decide +kernel
theorem dX6_numberStands_1 : decode cX6_numberStands 1 = .ok (.getfield 60, 3) := by decide +kernel
theorem dX6_numberStands_4 : decode cX6_numberStands 4 = .ok (.bipush (-3), 2) := by decide +kernel
theorem dX6_numberStands_6 : decode cX6_numberStands 6 = .ok (.if_icmp .eq 9, 3) := by decide +kernel
theorem dX6_numberStands_9 : decode cX6_numberStands 9 = .ok (.aload_n 0, 1) := by decide +kernel
theorem dX6_numberStands_10 : decode cX6_numberStands 10 = .ok (.iconst 1, 1) := by decide +kernel
theorem dX6_numberStands_11 : decode cX6_numberStands 11 = .ok (.invokevirtual 63, 3) := by decide +kernel
theorem dX6_numberStands_14 : decode cX6_numberStands 14 = .ok (.ireturn, 1) := by decide +kernel
theorem dX6_numberStands_15 : decode cX6_numberStands 15 = .ok (.aload_n 0, 1) := by decide +kernel
theorem dX6_numberStands_16 : decode cX6_numberStands 16 = .ok (.getfield 48, 3) := by decide +kernel
theorem dX6_numberStands_19 : decode cX6_numberStands 19 = .ok (.iload_n 1, 1) := by decide +kernel
theorem dX6_numberStands_20 : decode cX6_numberStands 20 = .ok (.if_icmp .lt 11, 3) := by decide +kernel
theorem dX6_numberStands_23 : decode cX6_numberStands 23 = .ok (.aload_n 0, 1) := by decide +kernel
theorem dX6_numberStands_24 : decode cX6_numberStands 24 = .ok (.getfield 48, 3) := by decide +kernel
theorem dX6_numberStands_27 : decode cX6_numberStands 27 = .ok (.iload_n 2, 1) := by decide +kernel
theorem dX6_numberStands_28 : decode cX6_numberStands 28 = .ok (.if_icmp .le 9, 3) := by decide +kernel
theorem dX6_numberStands_31 : decode cX6_numberStands 31 = .ok (.aload_n 0, 1) := by decide +kernel
theorem dX6_numberStands_32 : decode cX6_numberStands 32 = .ok (.iconst 2, 1) := by decide +kernel
theorem dX6_numberStands_33 : decode cX6_numberStands 33 = .ok (.invokevirtual 63, 3) := by decide +kernel
theorem dX6_numberStands_36 : decode cX6_numberStands 36 = .ok (.ireturn, 1) := by decide +kernel
theorem dX6_numberStands_37 : decode cX6_numberStands 37 = .ok (.iconst 1, 1) := by decide +kernel
theorem dX6_numberStands_38 : decode cX6_numberStands 38 = .ok (.ireturn, 1) := by decide +kernel
theorem dX6_faulty_0 : decode cX6_faulty 0 = .ok (.aload_n 0, 1) := by decide +kernel
theorem dX6_faulty_1 : decode cX6_faulty 1 = .ok (.iload_n 1, 1) := by decide +kernel
theorem dX6_faulty_2 : decode cX6_faulty 2 = .ok (.putfield 110, 3) := by decide +kernel
theorem dX6_faulty_5 : decode cX6_faulty 5 = .ok (.aload_n 0, 1) := by decide +kernel
theorem dX6_faulty_6 : decode cX6_faulty 6 = .ok (.aload_n 0, 1) := by decide +kernel
theorem dX6_faulty_7 : decode cX6_faulty 7 = .ok (.getfield 113, 3) := by decide +kernel
theorem dX6_faulty_10 : decode cX6_faulty 10 = .ok (.putfield 116, 3) := by decide +kernel
theorem dX6_faulty_13 : decode cX6_faulty 13 = .ok (.iconst 0, 1) := by decide +kernel
theorem dX6_faulty_14 : decode cX6_faulty 14 = .ok (.ireturn, 1) := by decide +kernel
set_option maxRecDepth 20000 in
theorem ggX6_step_X6_isFigure : GoodIn wsX6_step wsX6_isFigure := goodIn_r _ [9] (by decide +kernel) (by decide +kernel)
set_option maxRecDepth 20000 in
theorem gX6_step_X6_isFigure : GoodIn wsX6_step (va_wsS RX6 122 yX6_isFigure wsX6_isFigure) := goodIn_app (goodIn_of _ (by decide +kernel)) ggX6_step_X6_isFigure
set_option maxRecDepth 20000 in
theorem ggX6_step_X6_readNumber : GoodIn wsX6_step wsX6_readNumber := goodIn_r _ [13, 14, 2, 3, 5, 1, 4, 6, 7, 8, 9, 15, 16, 17, 18, 19, 20, 21, 22] (by decide +kernel) (by decide +kernel)
set_option maxRecDepth 20000 in
theorem gX6_step_X6_readNumber : GoodIn wsX6_step (wsV RX6 125 RX6 yX6_readNumber wsX6_readNumber) := goodIn_app (goodIn_of _ (by decide +kernel)) ggX6_step_X6_readNumber
theorem dX6_step_0 : decode cX6_step 0 = .ok (.aload_n 0, 1) := by decide +kernel
theorem dX6_step_1 : decode cX6_step 1 = .ok (.aload_n 0, 1) := by decide +kernel
theorem dX6_step_2 : decode cX6_step 2 = .ok (.getfield 20, 3) := by decide +kernel
theorem dX6_step_5 : decode cX6_step 5 = .ok (.putfield 113, 3) := by decide +kernel
theorem dX6_step_8 : decode cX6_step 8 = .ok (.aload_n 0, 1) := by decide +kernel
theorem dX6_step_9 : decode cX6_step 9 = .ok (.getfield 113, 3) := by decide +kernel
theorem dX6_step_12 : decode cX6_step 12 = .ok (.aload_n 0, 1) := by decide +kernel
theorem dX6_step_13 : decode cX6_step 13 = .ok (.getfield 119, 3) := by decide +kernel
theorem dX6_step_16 : decode cX6_step 16 = .ok (.if_icmp .lt 9, 3) := by decide +kernel
theorem dX6_step_19 : decode cX6_step 19 = .ok (.aload_n 0, 1) := by decide +kernel
theorem dX6_step_20 : decode cX6_step 20 = .ok (.iconst (-1), 1) := by decide +kernel
theorem dX6_step_21 : decode cX6_step 21 = .ok (.putfield 60, 3) := by decide +kernel
theorem dX6_step_24 : decode cX6_step 24 = .ok (.return_, 1) := by decide +kernel
theorem dX6_step_25 : decode cX6_step 25 = .ok (.aload_n 0, 1) := by decide +kernel
theorem dX6_step_26 : decode cX6_step 26 = .ok (.getfield 11, 3) := by decide +kernel
theorem dX6_step_29 : decode cX6_step 29 = .ok (.aload_n 0, 1) := by decide +kernel
theorem dX6_step_30 : decode cX6_step 30 = .ok (.getfield 113, 3) := by decide +kernel
theorem dX6_step_33 : decode cX6_step 33 = .ok (.iaload, 1) := by decide +kernel
theorem dX6_step_34 : decode cX6_step 34 = .ok (.istore_n 1, 1) := by decide +kernel
theorem dX6_step_35 : decode cX6_step 35 = .ok (.iload_n 1, 1) := by decide +kernel
theorem dX6_step_36 : decode cX6_step 36 = .ok (.invokestatic 122, 3) := by decide +kernel
theorem dX6_step_39 : decode cX6_step 39 = .ok (.ifCond .eq 8, 3) := by decide +kernel
theorem dX6_step_42 : decode cX6_step 42 = .ok (.aload_n 0, 1) := by decide +kernel
theorem dX6_step_43 : decode cX6_step 43 = .ok (.invokevirtual 125, 3) := by decide +kernel
theorem dX6_step_46 : decode cX6_step 46 = .ok (.return_, 1) := by decide +kernel
theorem dX6_step_47 : decode cX6_step 47 = .ok (.aload_n 0, 1) := by decide +kernel
theorem dX6_step_48 : decode cX6_step 48 = .ok (.aload_n 0, 1) := by decide +kernel
theorem dX6_step_49 : decode cX6_step 49 = .ok (.getfield 113, 3) := by decide +kernel
theorem dX6_step_52 : decode cX6_step 52 = .ok (.iconst 1, 1) := by decide +kernel
theorem dX6_step_53 : decode cX6_step 53 = .ok (.iadd, 1) := by decide +kernel
theorem dX6_step_54 : decode cX6_step 54 = .ok (.putfield 20, 3) := by decide +kernel
theorem dX6_step_57 : decode cX6_step 57 = .ok (.aload_n 0, 1) := by decide +kernel
theorem dX6_step_58 : decode cX6_step 58 = .ok (.iload_n 1, 1) := by decide +kernel
theorem dX6_step_59 : decode cX6_step 59 = .ok (.putfield 60, 3) := by decide +kernel
theorem dX6_step_62 : decode cX6_step 62 = .ok (.return_, 1) := by decide +kernel
set_option maxRecDepth 20000 in
theorem ggX6_readNumber_X6_isFigure : GoodIn wsX6_readNumber wsX6_isFigure := goodIn_r _ [10] (by decide +kernel) (by decide +kernel)
set_option maxRecDepth 20000 in
theorem gX6_readNumber_X6_isFigure : GoodIn wsX6_readNumber (va_wsS RX6 122 yX6_isFigure wsX6_isFigure) := goodIn_app (goodIn_of _ (by decide +kernel)) ggX6_readNumber_X6_isFigure
theorem dX6_readNumber_0 : decode cX6_readNumber 0 = .ok (.aload_n 0, 1) := by decide +kernel
theorem dX6_readNumber_1 : decode cX6_readNumber 1 = .ok (.iconst 0, 1) := by decide +kernel
theorem dX6_readNumber_2 : decode cX6_readNumber 2 = .ok (.putfield 48, 3) := by decide +kernel
theorem dX6_readNumber_5 : decode cX6_readNumber 5 = .ok (.aload_n 0, 1) := by decide +kernel
theorem dX6_readNumber_6 : decode cX6_readNumber 6 = .ok (.getfield 113, 3) := by decide +kernel
theorem dX6_readNumber_9 : decode cX6_readNumber 9 = .ok (.istore_n 1, 1) := by decide +kernel
theorem dX6_readNumber_10 : decode cX6_readNumber 10 = .ok (.iload_n 1, 1) := by decide +kernel
theorem dX6_readNumber_11 : decode cX6_readNumber 11 = .ok (.aload_n 0, 1) := by decide +kernel
theorem dX6_readNumber_12 : decode cX6_readNumber 12 = .ok (.getfield 119, 3) := by decide +kernel
theorem dX6_readNumber_15 : decode cX6_readNumber 15 = .ok (.if_icmp .ge 42, 3) := by decide +kernel
theorem dX6_readNumber_18 : decode cX6_readNumber 18 = .ok (.aload_n 0, 1) := by decide +kernel
theorem dX6_readNumber_19 : decode cX6_readNumber 19 = .ok (.getfield 11, 3) := by decide +kernel
theorem dX6_readNumber_22 : decode cX6_readNumber 22 = .ok (.iload_n 1, 1) := by decide +kernel
theorem dX6_readNumber_23 : decode cX6_readNumber 23 = .ok (.iaload, 1) := by decide +kernel
theorem dX6_readNumber_24 : decode cX6_readNumber 24 = .ok (.invokestatic 122, 3) := by decide +kernel
theorem dX6_readNumber_27 : decode cX6_readNumber 27 = .ok (.ifCond .eq 30, 3) := by decide +kernel
theorem dX6_readNumber_30 : decode cX6_readNumber 30 = .ok (.aload_n 0, 1) := by decide +kernel
theorem dX6_readNumber_31 : decode cX6_readNumber 31 = .ok (.bipush 10, 2) := by decide +kernel
theorem dX6_readNumber_33 : decode cX6_readNumber 33 = .ok (.aload_n 0, 1) := by decide +kernel
theorem dX6_readNumber_34 : decode cX6_readNumber 34 = .ok (.getfield 48, 3) := by decide +kernel
theorem dX6_readNumber_37 : decode cX6_readNumber 37 = .ok (.imul, 1) := by decide +kernel
theorem dX6_readNumber_38 : decode cX6_readNumber 38 = .ok (.aload_n 0, 1) := by decide +kernel
theorem dX6_readNumber_39 : decode cX6_readNumber 39 = .ok (.getfield 11, 3) := by decide +kernel
theorem dX6_readNumber_42 : decode cX6_readNumber 42 = .ok (.iload_n 1, 1) := by decide +kernel
theorem dX6_readNumber_43 : decode cX6_readNumber 43 = .ok (.iaload, 1) := by decide +kernel
theorem dX6_readNumber_44 : decode cX6_readNumber 44 = .ok (.iadd, 1) := by decide +kernel
theorem dX6_readNumber_45 : decode cX6_readNumber 45 = .ok (.bipush 48, 2) := by decide +kernel
theorem dX6_readNumber_47 : decode cX6_readNumber 47 = .ok (.isub, 1) := by decide +kernel
theorem dX6_readNumber_48 : decode cX6_readNumber 48 = .ok (.putfield 48, 3) := by decide +kernel
theorem dX6_readNumber_51 : decode cX6_readNumber 51 = .ok (.iinc 1 1, 3) := by decide +kernel
theorem dX6_readNumber_54 : decode cX6_readNumber 54 = .ok (.goto (-44), 3) := by decide +kernel
theorem dX6_readNumber_57 : decode cX6_readNumber 57 = .ok (.aload_n 0, 1) := by decide +kernel
theorem dX6_readNumber_58 : decode cX6_readNumber 58 = .ok (.iload_n 1, 1) := by decide +kernel
theorem dX6_readNumber_59 : decode cX6_readNumber 59 = .ok (.putfield 20, 3) := by decide +kernel
theorem dX6_readNumber_62 : decode cX6_readNumber 62 = .ok (.aload_n 0, 1) := by decide +kernel
theorem dX6_readNumber_63 : decode cX6_readNumber 63 = .ok (.iload_n 1, 1) := by decide +kernel
theorem dX6_readNumber_64 : decode cX6_readNumber 64 = .ok (.aload_n 0, 1) := by decide +kernel
theorem dX6_readNumber_65 : decode cX6_readNumber 65 = .ok (.getfield 113, 3) := by decide +kernel
theorem dX6_readNumber_68 : decode cX6_readNumber 68 = .ok (.isub, 1) := by decide +kernel
theorem dX6_readNumber_69 : decode cX6_readNumber 69 = .ok (.iconst 2, 1) := by decide +kernel
theorem dX6_readNumber_70 : decode cX6_readNumber 70 = .ok (.if_icmp .gt 8, 3) := by decide +kernel
theorem dX6_readNumber_73 : decode cX6_readNumber 73 = .ok (.bipush (-3), 2) := by decide +kernel
theorem dX6_readNumber_75 : decode cX6_readNumber 75 = .ok (.goto 5, 3) := by decide +kernel
theorem dX6_readNumber_78 : decode cX6_readNumber 78 = .ok (.bipush (-2), 2) := by decide +kernel
theorem dX6_readNumber_80 : decode cX6_readNumber 80 = .ok (.putfield 60, 3) := by decide +kernel
theorem dX6_readNumber_83 : decode cX6_readNumber 83 = .ok (.return_, 1) := by decide +kernel
theorem dX6_isFigure_0 : decode cX6_isFigure 0 = .ok (.iload_n 0, 1) := by decide +kernel
theorem dX6_isFigure_1 : decode cX6_isFigure 1 = .ok (.bipush 48, 2) := by decide +kernel
theorem dX6_isFigure_3 : decode cX6_isFigure 3 = .ok (.if_icmp .lt 13, 3) := by decide +kernel
theorem dX6_isFigure_6 : decode cX6_isFigure 6 = .ok (.iload_n 0, 1) := by decide +kernel
theorem dX6_isFigure_7 : decode cX6_isFigure 7 = .ok (.bipush 57, 2) := by decide +kernel
theorem dX6_isFigure_9 : decode cX6_isFigure 9 = .ok (.if_icmp .gt 7, 3) := by decide +kernel
theorem dX6_isFigure_12 : decode cX6_isFigure 12 = .ok (.iconst 1, 1) := by decide +kernel
theorem dX6_isFigure_13 : decode cX6_isFigure 13 = .ok (.goto 4, 3) := by decide +kernel
theorem dX6_isFigure_16 : decode cX6_isFigure 16 = .ok (.iconst 0, 1) := by decide +kernel
theorem dX6_isFigure_17 : decode cX6_isFigure 17 = .ok (.ireturn, 1) := by decide +kernel
set_option maxRecDepth 20000 in
theorem ggX7_init_X9_init : GoodIn wsX7_init wsX9_init := goodIn_r _ [4, 5, 6, 7, 8, 9, 10, 11, 12, 13] (by decide +kernel) (by decide +kernel)
set_option maxRecDepth 20000 in
theorem gX7_init_X9_init : GoodIn wsX7_init (wsX9_init) := ggX7_init_X9_init
theorem dX7_init_0 : decode cX7_init 0 = .ok (.aload_n 0, 1) := by decide +kernel
theorem dX7_init_1 : decode cX7_init 1 = .ok (.iload_n 1, 1) := by decide +kernel
theorem dX7_init_2 : decode cX7_init 2 = .ok (.invokespecial 1, 3) := by decide +kernel
theorem dX7_init_5 : decode cX7_init 5 = .ok (.return_, 1) := by decide +kernel
theorem dX7_kindNumber_0 : decode cX7_kindNumber 0 = .ok (.iconst 1, 1) := by decide +kernel
theorem dX7_kindNumber_1 : decode cX7_kindNumber 1 = .ok (.ireturn, 1) := by decide +kernel
set_option maxRecDepth 20000 in
theorem ggX7_size_X8_begin : GoodIn wsX7_size wsX8_begin := goodIn_r _ [5, 6, 7, 51, 52] (by decide +kernel) (by decide +kernel)
set_option maxRecDepth 20000 in
theorem gX7_size_X8_begin : GoodIn wsX7_size (wsV RX7 9 RX8 yX8_begin wsX8_begin) := goodIn_app (goodIn_of _ (by decide +kernel)) ggX7_size_X8_begin
set_option maxRecDepth 20000 in
theorem ggX7_size_X9_size : GoodIn wsX7_size wsX9_size := goodIn_r _ [13, 14, 15, 16, 2, 3, 4, 5, 6, 7, 53, 54, 55, 56, 57, 58, 59, 60, 61, 62, 63, 64, 65, 66, 67, 68, 69, 70, 71, 72, 51, 52] (by decide +kernel) (by decide +kernel)
set_option maxRecDepth 20000 in
theorem gX7_size_X9_size_s14 : GoodIn wsX7_size (va_wsSU RX7 14 yX9_size wsX9_size) := goodIn_app (goodIn_of _ (by decide +kernel)) ggX7_size_X9_size
set_option maxRecDepth 20000 in
theorem ggX7_size_X1_mark : GoodIn wsX7_size wsX1_mark := goodIn_r _ [23, 24, 2, 3, 4, 5, 6, 7, 25, 18, 26, 27, 28, 29, 30, 31, 1, 32, 33, 10, 34, 12, 35, 15, 16, 36, 37, 38, 39, 40, 41, 51, 52, 68, 69, 70, 71, 72, 53, 54, 55, 56, 57, 58, 59, 60, 61, 62, 63, 64, 65, 66, 67] (by decide +kernel) (by decide +kernel)
set_option maxRecDepth 20000 in
theorem gX7_size_X1_mark_u18X1 : GoodIn wsX7_size (va_wsO RX7 18 RX1 "SeenAgain$Tourist" ⟨"SeenAgain$Tourist", "mark", "(LSeenAgain$House;LSeenAgain$Trace;)I"⟩ yX1_mark wsX1_mark) := goodIn_app (goodIn_of _ (by decide +kernel)) ggX7_size_X1_mark
set_option maxRecDepth 20000 in
theorem ggX7_size_X4_mark : GoodIn wsX7_size wsX4_mark := goodIn_r _ [45, 46, 2, 3, 4, 5, 6, 7, 47, 18, 48, 27, 28, 29, 30, 31, 1, 32, 33, 10, 34, 12, 35, 15, 16, 36, 37, 38, 39, 40, 41, 51, 52, 68, 69, 70, 71, 72, 53, 54, 55, 56, 57, 58, 59, 60, 61, 62, 63, 64, 65, 66, 67] (by decide +kernel) (by decide +kernel)
set_option maxRecDepth 20000 in
theorem gX7_size_X4_mark_u18X4 : GoodIn wsX7_size (va_wsO RX7 18 RX4 "SeenAgain$Tourist" ⟨"SeenAgain$Tourist", "mark", "(LSeenAgain$House;LSeenAgain$Trace;)I"⟩ yX4_mark wsX4_mark) := goodIn_app (goodIn_of _ (by decide +kernel)) ggX7_size_X4_mark
set_option maxRecDepth 20000 in
theorem ggX7_size_X7_mark : GoodIn wsX7_size wsX7_mark := goodIn_r _ [29, 30, 31, 1, 2, 3, 4, 5, 6, 7, 32, 33, 10, 34, 12, 35, 15, 16, 36, 37, 38, 39, 40, 41, 68, 69, 70, 71, 72, 51, 52, 53, 54, 55, 56, 57, 58, 59, 60, 61, 62, 63, 64, 65, 66, 67] (by decide +kernel) (by decide +kernel)
set_option maxRecDepth 20000 in
theorem gX7_size_X7_mark : GoodIn wsX7_size (wsV RX7 18 RX7 yX7_mark wsX7_mark) := goodIn_app (goodIn_of _ (by decide +kernel)) ggX7_size_X7_mark
theorem dX7_size_0 : decode cX7_size 0 = .ok (.aload_n 2, 1) := by decide +kernel
theorem dX7_size_1 : decode cX7_size 1 = .ok (.bipush 11, 2) := by decide +kernel
theorem dX7_size_3 : decode cX7_size 3 = .ok (.invokevirtual 9, 3) := by decide +kernel
theorem dX7_size_6 : decode cX7_size 6 = .ok (.aload_n 0, 1) := by decide +kernel
theorem dX7_size_7 : decode cX7_size 7 = .ok (.aload_n 1, 1) := by decide +kernel
theorem dX7_size_8 : decode cX7_size 8 = .ok (.aload_n 2, 1) := by decide +kernel
theorem dX7_size_9 : decode cX7_size 9 = .ok (.invokespecial 14, 3) := by decide +kernel
theorem dX7_size_12 : decode cX7_size 12 = .ok (.istore_n 3, 1) := by decide +kernel
theorem dX7_size_13 : decode cX7_size 13 = .ok (.iload_n 3, 1) := by decide +kernel
theorem dX7_size_14 : decode cX7_size 14 = .ok (.aload_n 0, 1) := by decide +kernel
theorem dX7_size_15 : decode cX7_size 15 = .ok (.aload_n 1, 1) := by decide +kernel
theorem dX7_size_16 : decode cX7_size 16 = .ok (.aload_n 2, 1) := by decide +kernel
theorem dX7_size_17 : decode cX7_size 17 = .ok (.invokevirtual 18, 3) := by decide +kernel
theorem dX7_size_20 : decode cX7_size 20 = .ok (.iadd, 1) := by decide +kernel
theorem dX7_size_21 : decode cX7_size 21 = .ok (.ireturn, 1) := by decide +kernel
set_option maxRecDepth 20000 in
theorem ggX7_mark_X8_begin : GoodIn wsX7_mark wsX8_begin := goodIn_r _ [7, 8, 9, 29, 30] (by decide +kernel) (by decide +kernel)
set_option maxRecDepth 20000 in
theorem gX7_mark_X8_begin : GoodIn wsX7_mark (wsV RX7 9 RX8 yX8_begin wsX8_begin) := goodIn_app (goodIn_of _ (by decide +kernel)) ggX7_mark_X8_begin
set_option maxRecDepth 20000 in
theorem ggX7_mark_X9_mark : GoodIn wsX7_mark wsX9_mark := goodIn_r _ [15, 16, 17, 4, 5, 6, 7, 8, 9, 24, 25, 26, 27, 28, 29, 30] (by decide +kernel) (by decide +kernel)
set_option maxRecDepth 20000 in
theorem gX7_mark_X9_mark_s21 : GoodIn wsX7_mark (va_wsSU RX7 21 yX9_mark wsX9_mark) := goodIn_app (goodIn_of _ (by decide +kernel)) ggX7_mark_X9_mark
set_option maxRecDepth 20000 in
theorem ggX7_mark_X3_seatsOf : GoodIn wsX7_mark wsX3_seatsOf := goodIn_r _ [22, 23, 31, 32, 33, 34, 35, 36, 37, 38, 39, 40, 41, 42, 43, 44, 45] (by decide +kernel) (by decide +kernel)
set_option maxRecDepth 20000 in
theorem gX7_mark_X3_seatsOf : GoodIn wsX7_mark (wsV RX7 26 RX3 yX3_seatsOf wsX3_seatsOf) := goodIn_app (goodIn_of _ (by decide +kernel)) ggX7_mark_X3_seatsOf
theorem dX7_mark_0 : decode cX7_mark 0 = .ok (.aload_n 2, 1) := by decide +kernel
theorem dX7_mark_1 : decode cX7_mark 1 = .ok (.bipush 21, 2) := by decide +kernel
theorem dX7_mark_3 : decode cX7_mark 3 = .ok (.invokevirtual 9, 3) := by decide +kernel
theorem dX7_mark_6 : decode cX7_mark 6 = .ok (.aload_n 0, 1) := by decide +kernel
theorem dX7_mark_7 : decode cX7_mark 7 = .ok (.aload_n 1, 1) := by decide +kernel
theorem dX7_mark_8 : decode cX7_mark 8 = .ok (.aload_n 2, 1) := by decide +kernel
theorem dX7_mark_9 : decode cX7_mark 9 = .ok (.invokespecial 21, 3) := by decide +kernel
theorem dX7_mark_12 : decode cX7_mark 12 = .ok (.aload_n 1, 1) := by decide +kernel
theorem dX7_mark_13 : decode cX7_mark 13 = .ok (.aload_n 0, 1) := by decide +kernel
theorem dX7_mark_14 : decode cX7_mark 14 = .ok (.getfield 22, 3) := by decide +kernel
theorem dX7_mark_17 : decode cX7_mark 17 = .ok (.invokevirtual 26, 3) := by decide +kernel
theorem dX7_mark_20 : decode cX7_mark 20 = .ok (.iadd, 1) := by decide +kernel
theorem dX7_mark_21 : decode cX7_mark 21 = .ok (.ireturn, 1) := by decide +kernel
theorem dX8_init_0 : decode cX8_init 0 = .ok (.aload_n 0, 1) := by decide +kernel
theorem dX8_init_1 : decode cX8_init 1 = .ok (.invokespecial 1, 3) := by decide +kernel
theorem dX8_init_4 : decode cX8_init 4 = .ok (.aload_n 0, 1) := by decide +kernel
theorem dX8_init_5 : decode cX8_init 5 = .ok (.bipush 16, 2) := by decide +kernel
theorem dX8_init_7 : decode cX8_init 7 = .ok (.newarray .int, 2) := by decide +kernel
theorem dX8_init_9 : decode cX8_init 9 = .ok (.putfield 9, 3) := by decide +kernel
theorem dX8_init_12 : decode cX8_init 12 = .ok (.return_, 1) := by decide +kernel
theorem dX8_begin_0 : decode cX8_begin 0 = .ok (.aload_n 0, 1) := by decide +kernel
theorem dX8_begin_1 : decode cX8_begin 1 = .ok (.getfield 13, 3) := by decide +kernel
theorem dX8_begin_4 : decode cX8_begin 4 = .ok (.bipush 16, 2) := by decide +kernel
theorem dX8_begin_6 : decode cX8_begin 6 = .ok (.if_icmp .ge 23, 3) := by decide +kernel
theorem dX8_begin_9 : decode cX8_begin 9 = .ok (.aload_n 0, 1) := by decide +kernel
theorem dX8_begin_10 : decode cX8_begin 10 = .ok (.getfield 9, 3) := by decide +kernel
theorem dX8_begin_13 : decode cX8_begin 13 = .ok (.aload_n 0, 1) := by decide +kernel
theorem dX8_begin_14 : decode cX8_begin 14 = .ok (.getfield 13, 3) := by decide +kernel
theorem dX8_begin_17 : decode cX8_begin 17 = .ok (.iload_n 1, 1) := by decide +kernel
theorem dX8_begin_18 : decode cX8_begin 18 = .ok (.iastore, 1) := by decide +kernel
theorem dX8_begin_19 : decode cX8_begin 19 = .ok (.aload_n 0, 1) := by decide +kernel
theorem dX8_begin_20 : decode cX8_begin 20 = .ok (.dup, 1) := by decide +kernel
theorem dX8_begin_21 : decode cX8_begin 21 = .ok (.getfield 13, 3) := by decide +kernel
theorem dX8_begin_24 : decode cX8_begin 24 = .ok (.iconst 1, 1) := by decide +kernel
theorem dX8_begin_25 : decode cX8_begin 25 = .ok (.iadd, 1) := by decide +kernel
theorem dX8_begin_26 : decode cX8_begin 26 = .ok (.putfield 13, 3) := by decide +kernel
theorem dX8_begin_29 : decode cX8_begin 29 = .ok (.return_, 1) := by decide +kernel
theorem dX9_init_0 : decode cX9_init 0 = .ok (.aload_n 0, 1) := by decide +kernel
theorem dX9_init_1 : decode cX9_init 1 = .ok (.invokespecial 1, 3) := by decide +kernel
theorem dX9_init_4 : decode cX9_init 4 = .ok (.aload_n 0, 1) := by decide +kernel
theorem dX9_init_5 : decode cX9_init 5 = .ok (.iload_n 1, 1) := by decide +kernel
theorem dX9_init_6 : decode cX9_init 6 = .ok (.putfield 7, 3) := by decide +kernel
theorem dX9_init_9 : decode cX9_init 9 = .ok (.return_, 1) := by decide +kernel
theorem dX9_priceFrom_0 : decode cX9_priceFrom 0 = .ok (.iload_n 1, 1) := by decide +kernel
theorem dX9_priceFrom_1 : decode cX9_priceFrom 1 = .ok (.ireturn, 1) := by decide +kernel
theorem dX9_tells_0 : decode cX9_tells 0 = .ok (.iload_n 1, 1) := by decide +kernel
theorem dX9_tells_1 : decode cX9_tells 1 = .ok (.ireturn, 1) := by decide +kernel
set_option maxRecDepth 20000 in
theorem ggX9_size_X8_begin : GoodIn wsX9_size wsX8_begin := goodIn_r _ [7, 8, 9, 30, 31] (by decide +kernel) (by decide +kernel)
set_option maxRecDepth 20000 in
theorem gX9_size_X8_begin : GoodIn wsX9_size (wsV RX9 13 RX8 yX8_begin wsX8_begin) := goodIn_app (goodIn_of _ (by decide +kernel)) ggX9_size_X8_begin
theorem dX9_size_0 : decode cX9_size 0 = .ok (.aload_n 2, 1) := by decide +kernel
theorem dX9_size_1 : decode cX9_size 1 = .ok (.bipush 10, 2) := by decide +kernel
theorem dX9_size_3 : decode cX9_size 3 = .ok (.invokevirtual 13, 3) := by decide +kernel
theorem dX9_size_6 : decode cX9_size 6 = .ok (.aload_n 1, 1) := by decide +kernel
theorem dX9_size_7 : decode cX9_size 7 = .ok (.getfield 19, 3) := by decide +kernel
theorem dX9_size_10 : decode cX9_size 10 = .ok (.aload_n 0, 1) := by decide +kernel
theorem dX9_size_11 : decode cX9_size 11 = .ok (.getfield 7, 3) := by decide +kernel
theorem dX9_size_14 : decode cX9_size 14 = .ok (.iaload, 1) := by decide +kernel
theorem dX9_size_15 : decode cX9_size 15 = .ok (.ireturn, 1) := by decide +kernel
set_option maxRecDepth 20000 in
theorem ggX9_mark_X8_begin : GoodIn wsX9_mark wsX8_begin := goodIn_r _ [6, 7, 8, 14, 15] (by decide +kernel) (by decide +kernel)
set_option maxRecDepth 20000 in
theorem gX9_mark_X8_begin : GoodIn wsX9_mark (wsV RX9 13 RX8 yX8_begin wsX8_begin) := goodIn_app (goodIn_of _ (by decide +kernel)) ggX9_mark_X8_begin
theorem dX9_mark_0 : decode cX9_mark 0 = .ok (.aload_n 2, 1) := by decide +kernel
theorem dX9_mark_1 : decode cX9_mark 1 = .ok (.bipush 20, 2) := by decide +kernel
theorem dX9_mark_3 : decode cX9_mark 3 = .ok (.invokevirtual 13, 3) := by decide +kernel
theorem dX9_mark_6 : decode cX9_mark 6 = .ok (.aload_n 0, 1) := by decide +kernel
theorem dX9_mark_7 : decode cX9_mark 7 = .ok (.getfield 7, 3) := by decide +kernel
theorem dX9_mark_10 : decode cX9_mark 10 = .ok (.ireturn, 1) := by decide +kernel
set_option maxRecDepth 20000 in
theorem ggX10_init_X9_init : GoodIn wsX10_init wsX9_init := goodIn_r _ [4, 5, 6, 7, 8, 9, 10, 11, 12, 13] (by decide +kernel) (by decide +kernel)
set_option maxRecDepth 20000 in
theorem gX10_init_X9_init : GoodIn wsX10_init (wsX9_init) := ggX10_init_X9_init
theorem dX10_init_0 : decode cX10_init 0 = .ok (.aload_n 0, 1) := by decide +kernel
theorem dX10_init_1 : decode cX10_init 1 = .ok (.iload_n 1, 1) := by decide +kernel
theorem dX10_init_2 : decode cX10_init 2 = .ok (.invokespecial 1, 3) := by decide +kernel
theorem dX10_init_5 : decode cX10_init 5 = .ok (.return_, 1) := by decide +kernel
theorem dX10_kindNumber_0 : decode cX10_kindNumber 0 = .ok (.iconst 4, 1) := by decide +kernel
theorem dX10_kindNumber_1 : decode cX10_kindNumber 1 = .ok (.ireturn, 1) := by decide +kernel
theorem dX10_priceFrom_0 : decode cX10_priceFrom 0 = .ok (.iconst 0, 1) := by decide +kernel
theorem dX10_priceFrom_1 : decode cX10_priceFrom 1 = .ok (.iload_n 1, 1) := by decide +kernel
theorem dX10_priceFrom_2 : decode cX10_priceFrom 2 = .ok (.iconst 1, 1) := by decide +kernel
theorem dX10_priceFrom_3 : decode cX10_priceFrom 3 = .ok (.isub, 1) := by decide +kernel
theorem dX10_priceFrom_4 : decode cX10_priceFrom 4 = .ok (.invokestatic 9, 3) := by decide +kernel
theorem dX10_priceFrom_7 : decode cX10_priceFrom 7 = .ok (.ireturn, 1) := by decide +kernel
set_option maxRecDepth 20000 in
theorem ggX10_size_X8_begin : GoodIn wsX10_size wsX8_begin := goodIn_r _ [5, 6, 7, 17, 18] (by decide +kernel) (by decide +kernel)
set_option maxRecDepth 20000 in
theorem gX10_size_X8_begin : GoodIn wsX10_size (wsV RX10 15 RX8 yX8_begin wsX8_begin) := goodIn_app (goodIn_of _ (by decide +kernel)) ggX10_size_X8_begin
set_option maxRecDepth 20000 in
theorem ggX10_size_X9_size : GoodIn wsX10_size wsX9_size := goodIn_r _ [13, 14, 15, 16, 2, 3, 4, 5, 6, 7, 19, 20, 21, 22, 23, 24, 25, 26, 27, 28, 29, 30, 31, 32, 33, 34, 35, 36, 37, 38, 17, 18] (by decide +kernel) (by decide +kernel)
set_option maxRecDepth 20000 in
theorem gX10_size_X9_size_s20 : GoodIn wsX10_size (va_wsSU RX10 20 yX9_size wsX9_size) := goodIn_app (goodIn_of _ (by decide +kernel)) ggX10_size_X9_size
theorem dX10_size_0 : decode cX10_size 0 = .ok (.aload_n 2, 1) := by decide +kernel
theorem dX10_size_1 : decode cX10_size 1 = .ok (.bipush 13, 2) := by decide +kernel
theorem dX10_size_3 : decode cX10_size 3 = .ok (.invokevirtual 15, 3) := by decide +kernel
theorem dX10_size_6 : decode cX10_size 6 = .ok (.aload_n 0, 1) := by decide +kernel
theorem dX10_size_7 : decode cX10_size 7 = .ok (.aload_n 1, 1) := by decide +kernel
theorem dX10_size_8 : decode cX10_size 8 = .ok (.aload_n 2, 1) := by decide +kernel
theorem dX10_size_9 : decode cX10_size 9 = .ok (.invokespecial 20, 3) := by decide +kernel
theorem dX10_size_12 : decode cX10_size 12 = .ok (.bipush 100, 2) := by decide +kernel
theorem dX10_size_14 : decode cX10_size 14 = .ok (.isub, 1) := by decide +kernel
theorem dX10_size_15 : decode cX10_size 15 = .ok (.ireturn, 1) := by decide +kernel
set_option maxRecDepth 20000 in
theorem ggX10_mark_X8_begin : GoodIn wsX10_mark wsX8_begin := goodIn_r _ [5, 6, 7, 36, 37] (by decide +kernel) (by decide +kernel)
set_option maxRecDepth 20000 in
theorem gX10_mark_X8_begin : GoodIn wsX10_mark (wsV RX10 15 RX8 yX8_begin wsX8_begin) := goodIn_app (goodIn_of _ (by decide +kernel)) ggX10_mark_X8_begin
set_option maxRecDepth 20000 in
theorem ggX10_mark_X9_mark : GoodIn wsX10_mark wsX9_mark := goodIn_r _ [13, 14, 15, 2, 3, 4, 5, 6, 7, 38, 39, 40, 41, 42, 36, 37] (by decide +kernel) (by decide +kernel)
set_option maxRecDepth 20000 in
theorem gX10_mark_X9_mark_s24 : GoodIn wsX10_mark (va_wsSU RX10 24 yX9_mark wsX9_mark) := goodIn_app (goodIn_of _ (by decide +kernel)) ggX10_mark_X9_mark
set_option maxRecDepth 20000 in
theorem ggX10_mark_X2_size : GoodIn wsX10_mark wsX2_size := goodIn_r _ [22, 23, 2, 3, 4, 5, 6, 7, 24, 17, 25, 26, 27, 28, 1, 29, 30, 10, 31, 12, 32, 33, 14, 15, 36, 37, 43, 44, 45, 46, 47, 48, 49, 50, 51, 52, 53, 54, 55, 56, 57, 38, 39, 40, 41, 42] (by decide +kernel) (by decide +kernel)
set_option maxRecDepth 20000 in
theorem gX10_mark_X2_size_u27X2 : GoodIn wsX10_mark (va_wsO RX10 27 RX2 "SeenAgain$Writer" ⟨"SeenAgain$Writer", "size", "(LSeenAgain$House;LSeenAgain$Trace;)I"⟩ yX2_size wsX2_size) := goodIn_app (goodIn_of _ (by decide +kernel)) ggX10_mark_X2_size
set_option maxRecDepth 20000 in
theorem ggX10_mark_X10_size : GoodIn wsX10_mark wsX10_size := goodIn_r _ [28, 1, 2, 3, 4, 5, 6, 7, 29, 30, 10, 31, 12, 32, 33, 14, 15, 36, 37, 43, 44, 45, 46, 47, 48, 49, 50, 51, 52, 53, 54, 55, 56, 57, 38, 39, 40, 41, 42] (by decide +kernel) (by decide +kernel)
set_option maxRecDepth 20000 in
theorem gX10_mark_X10_size : GoodIn wsX10_mark (wsV RX10 27 RX10 yX10_size wsX10_size) := goodIn_app (goodIn_of _ (by decide +kernel)) ggX10_mark_X10_size
theorem dX10_mark_0 : decode cX10_mark 0 = .ok (.aload_n 2, 1) := by decide +kernel
theorem dX10_mark_1 : decode cX10_mark 1 = .ok (.bipush 23, 2) := by decide +kernel
theorem dX10_mark_3 : decode cX10_mark 3 = .ok (.invokevirtual 15, 3) := by decide +kernel
theorem dX10_mark_6 : decode cX10_mark 6 = .ok (.aload_n 0, 1) := by decide +kernel
theorem dX10_mark_7 : decode cX10_mark 7 = .ok (.aload_n 1, 1) := by decide +kernel
theorem dX10_mark_8 : decode cX10_mark 8 = .ok (.aload_n 2, 1) := by decide +kernel
theorem dX10_mark_9 : decode cX10_mark 9 = .ok (.invokespecial 24, 3) := by decide +kernel
theorem dX10_mark_12 : decode cX10_mark 12 = .ok (.istore_n 3, 1) := by decide +kernel
theorem dX10_mark_13 : decode cX10_mark 13 = .ok (.iload_n 3, 1) := by decide +kernel
theorem dX10_mark_14 : decode cX10_mark 14 = .ok (.aload_n 0, 1) := by decide +kernel
theorem dX10_mark_15 : decode cX10_mark 15 = .ok (.aload_n 1, 1) := by decide +kernel
theorem dX10_mark_16 : decode cX10_mark 16 = .ok (.aload_n 2, 1) := by decide +kernel
theorem dX10_mark_17 : decode cX10_mark 17 = .ok (.invokevirtual 27, 3) := by decide +kernel
theorem dX10_mark_20 : decode cX10_mark 20 = .ok (.isub, 1) := by decide +kernel
theorem dX10_mark_21 : decode cX10_mark 21 = .ok (.ireturn, 1) := by decide +kernel
set_option maxRecDepth 20000 in
theorem ggX11_init_X6_init : GoodIn wsX11_init wsX6_init := goodIn_r _ [27, 28, 2, 3, 29, 30, 79, 80, 81, 82, 83, 84, 85, 86] (by decide +kernel) (by decide +kernel)
set_option maxRecDepth 20000 in
theorem gX11_init_X6_init_n17 : GoodIn wsX11_init (wsX6_init) := ggX11_init_X6_init
set_option maxRecDepth 20000 in
theorem ggX11_init_X3_init : GoodIn wsX11_init wsX3_init := goodIn_r _ [33, 34, 2, 3, 29, 35, 36, 37, 38, 39, 40, 41, 42, 43, 44, 45, 46, 47, 48, 49, 50, 51, 52, 53, 87, 88, 89, 90, 91, 92, 93, 94, 95, 96, 97, 98, 99, 100, 101, 115, 116, 117, 118, 119] (by decide +kernel) (by decide +kernel)
set_option maxRecDepth 20000 in
theorem gX11_init_X3_init : GoodIn wsX11_init (wsX3_init) := ggX11_init_X3_init
set_option maxRecDepth 20000 in
theorem ggX11_init_X0_init : GoodIn wsX11_init wsX0_init := goodIn_r _ [55, 56, 2, 3, 29, 57, 58, 59, 60, 61, 102, 103, 104, 105, 106, 107, 108] (by decide +kernel) (by decide +kernel)
set_option maxRecDepth 20000 in
theorem gX11_init_X0_init_n38 : GoodIn wsX11_init (wsX0_init) := ggX11_init_X0_init
set_option maxRecDepth 20000 in
theorem ggX11_init_X8_init : GoodIn wsX11_init wsX8_init := goodIn_r _ [63, 64, 2, 3, 29, 65, 109, 110] (by decide +kernel) (by decide +kernel)
set_option maxRecDepth 20000 in
theorem gX11_init_X8_init_n45 : GoodIn wsX11_init (wsX8_init) := ggX11_init_X8_init
set_option maxRecDepth 20000 in
theorem ggX11_init_X5_init : GoodIn wsX11_init wsX5_init := goodIn_r _ [67, 68, 2, 3, 29, 69, 70, 111, 112, 113, 114] (by decide +kernel) (by decide +kernel)
set_option maxRecDepth 20000 in
theorem gX11_init_X5_init_n50 : GoodIn wsX11_init (wsX5_init) := ggX11_init_X5_init
theorem dX11_init_0 : decode cX11_init 0 = .ok (.aload_n 0, 1) := by decide +kernel
theorem dX11_init_1 : decode cX11_init 1 = .ok (.invokespecial 1, 3) := by decide +kernel
theorem dX11_init_4 : decode cX11_init 4 = .ok (.aload_n 0, 1) := by decide +kernel
theorem dX11_init_5 : decode cX11_init 5 = .ok (.bipush 8, 2) := by decide +kernel
theorem dX11_init_7 : decode cX11_init 7 = .ok (.anewarray 9, 3) := by decide +kernel
theorem dX11_init_10 : decode cX11_init 10 = .ok (.putfield 11, 3) := by decide +kernel
theorem dX11_init_13 : decode cX11_init 13 = .ok (.aload_n 0, 1) := by decide +kernel
theorem dX11_init_14 : decode cX11_init 14 = .ok (.new 15, 3) := by decide +kernel
theorem dX11_init_17 : decode cX11_init 17 = .ok (.dup, 1) := by decide +kernel
theorem dX11_init_18 : decode cX11_init 18 = .ok (.invokespecial 17, 3) := by decide +kernel
theorem dX11_init_21 : decode cX11_init 21 = .ok (.putfield 18, 3) := by decide +kernel
theorem dX11_init_24 : decode cX11_init 24 = .ok (.aload_n 0, 1) := by decide +kernel
theorem dX11_init_25 : decode cX11_init 25 = .ok (.new 22, 3) := by decide +kernel
theorem dX11_init_28 : decode cX11_init 28 = .ok (.dup, 1) := by decide +kernel
theorem dX11_init_29 : decode cX11_init 29 = .ok (.invokespecial 24, 3) := by decide +kernel
theorem dX11_init_32 : decode cX11_init 32 = .ok (.putfield 25, 3) := by decide +kernel
theorem dX11_init_35 : decode cX11_init 35 = .ok (.aload_n 0, 1) := by decide +kernel
theorem dX11_init_36 : decode cX11_init 36 = .ok (.new 22, 3) := by decide +kernel
theorem dX11_init_39 : decode cX11_init 39 = .ok (.dup, 1) := by decide +kernel
theorem dX11_init_40 : decode cX11_init 40 = .ok (.invokespecial 24, 3) := by decide +kernel
theorem dX11_init_43 : decode cX11_init 43 = .ok (.putfield 29, 3) := by decide +kernel
theorem dX11_init_46 : decode cX11_init 46 = .ok (.aload_n 0, 1) := by decide +kernel
theorem dX11_init_47 : decode cX11_init 47 = .ok (.iconst 2, 1) := by decide +kernel
theorem dX11_init_48 : decode cX11_init 48 = .ok (.anewarray 22, 3) := by decide +kernel
theorem dX11_init_51 : decode cX11_init 51 = .ok (.putfield 32, 3) := by decide +kernel
theorem dX11_init_54 : decode cX11_init 54 = .ok (.aload_n 0, 1) := by decide +kernel
theorem dX11_init_55 : decode cX11_init 55 = .ok (.new 36, 3) := by decide +kernel
theorem dX11_init_58 : decode cX11_init 58 = .ok (.dup, 1) := by decide +kernel
theorem dX11_init_59 : decode cX11_init 59 = .ok (.invokespecial 38, 3) := by decide +kernel
theorem dX11_init_62 : decode cX11_init 62 = .ok (.putfield 39, 3) := by decide +kernel
theorem dX11_init_65 : decode cX11_init 65 = .ok (.aload_n 0, 1) := by decide +kernel
theorem dX11_init_66 : decode cX11_init 66 = .ok (.new 43, 3) := by decide +kernel
theorem dX11_init_69 : decode cX11_init 69 = .ok (.dup, 1) := by decide +kernel
theorem dX11_init_70 : decode cX11_init 70 = .ok (.invokespecial 45, 3) := by decide +kernel
theorem dX11_init_73 : decode cX11_init 73 = .ok (.putfield 46, 3) := by decide +kernel
theorem dX11_init_76 : decode cX11_init 76 = .ok (.iconst 0, 1) := by decide +kernel
theorem dX11_init_77 : decode cX11_init 77 = .ok (.istore_n 1, 1) := by decide +kernel
theorem dX11_init_78 : decode cX11_init 78 = .ok (.iload_n 1, 1) := by decide +kernel
theorem dX11_init_79 : decode cX11_init 79 = .ok (.bipush 8, 2) := by decide +kernel
theorem dX11_init_81 : decode cX11_init 81 = .ok (.if_icmp .ge 22, 3) := by decide +kernel
theorem dX11_init_84 : decode cX11_init 84 = .ok (.aload_n 0, 1) := by decide +kernel
theorem dX11_init_85 : decode cX11_init 85 = .ok (.getfield 11, 3) := by decide +kernel
theorem dX11_init_88 : decode cX11_init 88 = .ok (.iload_n 1, 1) := by decide +kernel
theorem dX11_init_89 : decode cX11_init 89 = .ok (.new 9, 3) := by decide +kernel
theorem dX11_init_92 : decode cX11_init 92 = .ok (.dup, 1) := by decide +kernel
theorem dX11_init_93 : decode cX11_init 93 = .ok (.invokespecial 50, 3) := by decide +kernel
theorem dX11_init_96 : decode cX11_init 96 = .ok (.aastore, 1) := by decide +kernel
theorem dX11_init_97 : decode cX11_init 97 = .ok (.iinc 1 1, 3) := by decide +kernel
theorem dX11_init_100 : decode cX11_init 100 = .ok (.goto (-22), 3) := by decide +kernel
theorem dX11_init_103 : decode cX11_init 103 = .ok (.iconst 0, 1) := by decide +kernel
theorem dX11_init_104 : decode cX11_init 104 = .ok (.istore_n 1, 1) := by decide +kernel
theorem dX11_init_105 : decode cX11_init 105 = .ok (.iload_n 1, 1) := by decide +kernel
theorem dX11_init_106 : decode cX11_init 106 = .ok (.iconst 2, 1) := by decide +kernel
theorem dX11_init_107 : decode cX11_init 107 = .ok (.if_icmp .ge 22, 3) := by decide +kernel
theorem dX11_init_110 : decode cX11_init 110 = .ok (.aload_n 0, 1) := by decide +kernel
theorem dX11_init_111 : decode cX11_init 111 = .ok (.getfield 32, 3) := by decide +kernel
theorem dX11_init_114 : decode cX11_init 114 = .ok (.iload_n 1, 1) := by decide +kernel
theorem dX11_init_115 : decode cX11_init 115 = .ok (.new 22, 3) := by decide +kernel
theorem dX11_init_118 : decode cX11_init 118 = .ok (.dup, 1) := by decide +kernel
theorem dX11_init_119 : decode cX11_init 119 = .ok (.invokespecial 24, 3) := by decide +kernel
theorem dX11_init_122 : decode cX11_init 122 = .ok (.aastore, 1) := by decide +kernel
theorem dX11_init_123 : decode cX11_init 123 = .ok (.iinc 1 1, 3) := by decide +kernel
theorem dX11_init_126 : decode cX11_init 126 = .ok (.goto (-21), 3) := by decide +kernel
theorem dX11_init_129 : decode cX11_init 129 = .ok (.return_, 1) := by decide +kernel
set_option maxRecDepth 20000 in
theorem ggX11_row_X11_isRow : GoodIn wsX11_row wsX11_isRow := goodIn_r _ [6] (by decide +kernel) (by decide +kernel)
set_option maxRecDepth 20000 in
theorem gX11_row_X11_isRow : GoodIn wsX11_row (va_wsS RX11 51 yX11_isRow wsX11_isRow) := goodIn_app (goodIn_of _ (by decide +kernel)) ggX11_row_X11_isRow
set_option maxRecDepth 20000 in
theorem ggX11_row_X11_found : GoodIn wsX11_row wsX11_found := goodIn_r _ [10, 11, 12, 30, 31, 32, 33, 34, 35, 36, 37] (by decide +kernel) (by decide +kernel)
set_option maxRecDepth 20000 in
theorem gX11_row_X11_found : GoodIn wsX11_row (wsV RX11 56 RX11 yX11_found wsX11_found) := goodIn_app (goodIn_of _ (by decide +kernel)) ggX11_row_X11_found
set_option maxRecDepth 20000 in
theorem ggX11_row_X5_begin : GoodIn wsX11_row wsX5_begin := goodIn_r _ [17, 18, 19, 20, 21, 22, 23, 24, 25, 38, 39, 40, 41] (by decide +kernel) (by decide +kernel)
set_option maxRecDepth 20000 in
theorem gX11_row_X5_begin : GoodIn wsX11_row (wsV RX11 60 RX5 yX5_begin wsX5_begin) := goodIn_app (goodIn_of _ (by decide +kernel)) ggX11_row_X5_begin
set_option maxRecDepth 20000 in
theorem ggX11_row_X11_answered : GoodIn wsX11_row wsX11_answered := goodIn_r _ [29, 11, 30, 31, 32, 33, 34, 35, 36, 37] (by decide +kernel) (by decide +kernel)
set_option maxRecDepth 20000 in
theorem gX11_row_X11_answered : GoodIn wsX11_row (wsV RX11 64 RX11 yX11_answered wsX11_answered) := goodIn_app (goodIn_of _ (by decide +kernel)) ggX11_row_X11_answered
theorem dX11_row_0 : decode cX11_row 0 = .ok (.iload_n 1, 1) := by decide +kernel
theorem dX11_row_1 : decode cX11_row 1 = .ok (.invokestatic 51, 3) := by decide +kernel
theorem dX11_row_4 : decode cX11_row 4 = .ok (.ifCond .eq 18, 3) := by decide +kernel
theorem dX11_row_7 : decode cX11_row 7 = .ok (.iload_n 2, 1) := by decide +kernel
theorem dX11_row_8 : decode cX11_row 8 = .ok (.ifCond .lt 14, 3) := by decide +kernel
theorem dX11_row_11 : decode cX11_row 11 = .ok (.iload_n 2, 1) := by decide +kernel
theorem dX11_row_12 : decode cX11_row 12 = .ok (.iconst 2, 1) := by decide +kernel
theorem dX11_row_13 : decode cX11_row 13 = .ok (.if_icmp .gt 9, 3) := by decide +kernel
theorem dX11_row_16 : decode cX11_row 16 = .ok (.iload_n 3, 1) := by decide +kernel
theorem dX11_row_17 : decode cX11_row 17 = .ok (.bipush 40, 2) := by decide +kernel
theorem dX11_row_19 : decode cX11_row 19 = .ok (.if_icmp .le 6, 3) := by decide +kernel
theorem dX11_row_22 : decode cX11_row 22 = .ok (.ldc 55, 2) := by decide +kernel
theorem dX11_row_24 : decode cX11_row 24 = .ok (.ireturn, 1) := by decide +kernel
theorem dX11_row_25 : decode cX11_row 25 = .ok (.iload_n 3, 1) := by decide +kernel
theorem dX11_row_26 : decode cX11_row 26 = .ok (.ifCond .ge 9, 3) := by decide +kernel
theorem dX11_row_29 : decode cX11_row 29 = .ok (.aload_n 0, 1) := by decide +kernel
theorem dX11_row_30 : decode cX11_row 30 = .ok (.iconst 4, 1) := by decide +kernel
theorem dX11_row_31 : decode cX11_row 31 = .ok (.invokevirtual 56, 3) := by decide +kernel
theorem dX11_row_34 : decode cX11_row 34 = .ok (.ireturn, 1) := by decide +kernel
theorem dX11_row_35 : decode cX11_row 35 = .ok (.aload_n 0, 1) := by decide +kernel
theorem dX11_row_36 : decode cX11_row 36 = .ok (.getfield 11, 3) := by decide +kernel
theorem dX11_row_39 : decode cX11_row 39 = .ok (.iload_n 1, 1) := by decide +kernel
theorem dX11_row_40 : decode cX11_row 40 = .ok (.aaload, 1) := by decide +kernel
theorem dX11_row_41 : decode cX11_row 41 = .ok (.iload_n 2, 1) := by decide +kernel
theorem dX11_row_42 : decode cX11_row 42 = .ok (.iload_n 3, 1) := by decide +kernel
theorem dX11_row_43 : decode cX11_row 43 = .ok (.invokevirtual 60, 3) := by decide +kernel
theorem dX11_row_46 : decode cX11_row 46 = .ok (.aload_n 0, 1) := by decide +kernel
theorem dX11_row_47 : decode cX11_row 47 = .ok (.iload_n 3, 1) := by decide +kernel
theorem dX11_row_48 : decode cX11_row 48 = .ok (.invokevirtual 64, 3) := by decide +kernel
theorem dX11_row_51 : decode cX11_row 51 = .ok (.ireturn, 1) := by decide +kernel
set_option maxRecDepth 20000 in
theorem ggX11_set_X11_isRow : GoodIn wsX11_set wsX11_isRow := goodIn_r _ [8] (by decide +kernel) (by decide +kernel)
set_option maxRecDepth 20000 in
theorem gX11_set_X11_isRow : GoodIn wsX11_set (va_wsS RX11 51 yX11_isRow wsX11_isRow) := goodIn_app (goodIn_of _ (by decide +kernel)) ggX11_set_X11_isRow
set_option maxRecDepth 20000 in
theorem ggX11_set_X11_found : GoodIn wsX11_set wsX11_found := goodIn_r _ [12, 13, 14, 30, 31, 32, 33, 34, 35, 36, 37] (by decide +kernel) (by decide +kernel)
set_option maxRecDepth 20000 in
theorem gX11_set_X11_found : GoodIn wsX11_set (wsV RX11 56 RX11 yX11_found wsX11_found) := goodIn_app (goodIn_of _ (by decide +kernel)) ggX11_set_X11_found
set_option maxRecDepth 20000 in
theorem ggX11_set_X5_hasItems : GoodIn wsX11_set wsX5_hasItems := goodIn_r _ [19, 20, 38, 39, 40, 41] (by decide +kernel) (by decide +kernel)
set_option maxRecDepth 20000 in
theorem gX11_set_X5_hasItems : GoodIn wsX11_set (wsV RX11 71 RX5 yX5_hasItems wsX5_hasItems) := goodIn_app (goodIn_of _ (by decide +kernel)) ggX11_set_X5_hasItems
set_option maxRecDepth 20000 in
theorem ggX11_set_X5_cutToLane : GoodIn wsX11_set wsX5_cutToLane := goodIn_r _ [24, 25, 38, 39, 40, 41] (by decide +kernel) (by decide +kernel)
set_option maxRecDepth 20000 in
theorem gX11_set_X5_cutToLane : GoodIn wsX11_set (wsV RX11 79 RX5 yX5_cutToLane wsX5_cutToLane) := goodIn_app (goodIn_of _ (by decide +kernel)) ggX11_set_X5_cutToLane
set_option maxRecDepth 20000 in
theorem ggX11_set_X11_answered : GoodIn wsX11_set wsX11_answered := goodIn_r _ [29, 13, 30, 31, 32, 33, 34, 35, 36, 37] (by decide +kernel) (by decide +kernel)
set_option maxRecDepth 20000 in
theorem gX11_set_X11_answered : GoodIn wsX11_set (wsV RX11 64 RX11 yX11_answered wsX11_answered) := goodIn_app (goodIn_of _ (by decide +kernel)) ggX11_set_X11_answered
theorem dX11_set_0 : decode cX11_set 0 = .ok (.iload_n 1, 1) := by decide +kernel
theorem dX11_set_1 : decode cX11_set 1 = .ok (.invokestatic 51, 3) := by decide +kernel
theorem dX11_set_4 : decode cX11_set 4 = .ok (.ifCond .ne 6, 3) := by decide +kernel
theorem dX11_set_7 : decode cX11_set 7 = .ok (.ldc 55, 2) := by decide +kernel
theorem dX11_set_9 : decode cX11_set 9 = .ok (.ireturn, 1) := by decide +kernel
theorem dX11_set_10 : decode cX11_set 10 = .ok (.aload_n 0, 1) := by decide +kernel
theorem dX11_set_11 : decode cX11_set 11 = .ok (.getfield 11, 3) := by decide +kernel
theorem dX11_set_14 : decode cX11_set 14 = .ok (.iload_n 1, 1) := by decide +kernel
theorem dX11_set_15 : decode cX11_set 15 = .ok (.aaload, 1) := by decide +kernel
theorem dX11_set_16 : decode cX11_set 16 = .ok (.astore 4, 2) := by decide +kernel
theorem dX11_set_18 : decode cX11_set 18 = .ok (.aload 4, 2) := by decide +kernel
theorem dX11_set_20 : decode cX11_set 20 = .ok (.getfield 67, 3) := by decide +kernel
theorem dX11_set_23 : decode cX11_set 23 = .ok (.ifCond .eq 9, 3) := by decide +kernel
theorem dX11_set_26 : decode cX11_set 26 = .ok (.aload_n 0, 1) := by decide +kernel
theorem dX11_set_27 : decode cX11_set 27 = .ok (.iconst 1, 1) := by decide +kernel
theorem dX11_set_28 : decode cX11_set 28 = .ok (.invokevirtual 56, 3) := by decide +kernel
theorem dX11_set_31 : decode cX11_set 31 = .ok (.ireturn, 1) := by decide +kernel
theorem dX11_set_32 : decode cX11_set 32 = .ok (.aload 4, 2) := by decide +kernel
theorem dX11_set_34 : decode cX11_set 34 = .ok (.iload_n 2, 1) := by decide +kernel
theorem dX11_set_35 : decode cX11_set 35 = .ok (.iconst 1, 1) := by decide +kernel
theorem dX11_set_36 : decode cX11_set 36 = .ok (.invokevirtual 71, 3) := by decide +kernel
theorem dX11_set_39 : decode cX11_set 39 = .ok (.ifCond .ne 9, 3) := by decide +kernel
theorem dX11_set_42 : decode cX11_set 42 = .ok (.aload_n 0, 1) := by decide +kernel
theorem dX11_set_43 : decode cX11_set 43 = .ok (.iconst 2, 1) := by decide +kernel
theorem dX11_set_44 : decode cX11_set 44 = .ok (.invokevirtual 56, 3) := by decide +kernel
theorem dX11_set_47 : decode cX11_set 47 = .ok (.ireturn, 1) := by decide +kernel
theorem dX11_set_48 : decode cX11_set 48 = .ok (.aload 4, 2) := by decide +kernel
theorem dX11_set_50 : decode cX11_set 50 = .ok (.getfield 75, 3) := by decide +kernel
theorem dX11_set_53 : decode cX11_set 53 = .ok (.iload_n 2, 1) := by decide +kernel
theorem dX11_set_54 : decode cX11_set 54 = .ok (.aload 4, 2) := by decide +kernel
theorem dX11_set_56 : decode cX11_set 56 = .ok (.iload_n 3, 1) := by decide +kernel
theorem dX11_set_57 : decode cX11_set 57 = .ok (.invokevirtual 79, 3) := by decide +kernel
theorem dX11_set_60 : decode cX11_set 60 = .ok (.iastore, 1) := by decide +kernel
theorem dX11_set_61 : decode cX11_set 61 = .ok (.aload_n 0, 1) := by decide +kernel
theorem dX11_set_62 : decode cX11_set 62 = .ok (.aload 4, 2) := by decide +kernel
theorem dX11_set_64 : decode cX11_set 64 = .ok (.getfield 75, 3) := by decide +kernel
theorem dX11_set_67 : decode cX11_set 67 = .ok (.iload_n 2, 1) := by decide +kernel
theorem dX11_set_68 : decode cX11_set 68 = .ok (.iaload, 1) := by decide +kernel
theorem dX11_set_69 : decode cX11_set 69 = .ok (.invokevirtual 64, 3) := by decide +kernel
theorem dX11_set_72 : decode cX11_set 72 = .ok (.ireturn, 1) := by decide +kernel
set_option maxRecDepth 20000 in
theorem ggX11_copy_X11_isRow : GoodIn wsX11_copy wsX11_isRow := goodIn_r _ [13] (by decide +kernel) (by decide +kernel)
set_option maxRecDepth 20000 in
theorem gX11_copy_X11_isRow : GoodIn wsX11_copy (va_wsS RX11 51 yX11_isRow wsX11_isRow) := goodIn_app (goodIn_of _ (by decide +kernel)) ggX11_copy_X11_isRow
set_option maxRecDepth 20000 in
theorem ggX11_copy_X11_found : GoodIn wsX11_copy wsX11_found := goodIn_r _ [17, 18, 19, 30, 31, 32, 33, 34, 35, 36, 37] (by decide +kernel) (by decide +kernel)
set_option maxRecDepth 20000 in
theorem gX11_copy_X11_found : GoodIn wsX11_copy (wsV RX11 56 RX11 yX11_found wsX11_found) := goodIn_app (goodIn_of _ (by decide +kernel)) ggX11_copy_X11_found
set_option maxRecDepth 20000 in
theorem ggX11_copy_X5_hasItems : GoodIn wsX11_copy wsX5_hasItems := goodIn_r _ [24, 25, 38, 39, 40, 41] (by decide +kernel) (by decide +kernel)
set_option maxRecDepth 20000 in
theorem gX11_copy_X5_hasItems : GoodIn wsX11_copy (wsV RX11 71 RX5 yX5_hasItems wsX5_hasItems) := goodIn_app (goodIn_of _ (by decide +kernel)) ggX11_copy_X5_hasItems
set_option maxRecDepth 20000 in
theorem ggX11_copy_X11_answered : GoodIn wsX11_copy wsX11_answered := goodIn_r _ [29, 18, 30, 31, 32, 33, 34, 35, 36, 37] (by decide +kernel) (by decide +kernel)
set_option maxRecDepth 20000 in
theorem gX11_copy_X11_answered : GoodIn wsX11_copy (wsV RX11 64 RX11 yX11_answered wsX11_answered) := goodIn_app (goodIn_of _ (by decide +kernel)) ggX11_copy_X11_answered
theorem dX11_copy_0 : decode cX11_copy 0 = .ok (.iload_n 1, 1) := by decide +kernel
theorem dX11_copy_1 : decode cX11_copy 1 = .ok (.invokestatic 51, 3) := by decide +kernel
theorem dX11_copy_4 : decode cX11_copy 4 = .ok (.ifCond .eq 10, 3) := by decide +kernel
theorem dX11_copy_7 : decode cX11_copy 7 = .ok (.iload_n 3, 1) := by decide +kernel
theorem dX11_copy_8 : decode cX11_copy 8 = .ok (.invokestatic 51, 3) := by decide +kernel
theorem dX11_copy_11 : decode cX11_copy 11 = .ok (.ifCond .ne 6, 3) := by decide +kernel
theorem dX11_copy_14 : decode cX11_copy 14 = .ok (.ldc 55, 2) := by decide +kernel
theorem dX11_copy_16 : decode cX11_copy 16 = .ok (.ireturn, 1) := by decide +kernel
theorem dX11_copy_17 : decode cX11_copy 17 = .ok (.aload_n 0, 1) := by decide +kernel
theorem dX11_copy_18 : decode cX11_copy 18 = .ok (.getfield 11, 3) := by decide +kernel
theorem dX11_copy_21 : decode cX11_copy 21 = .ok (.iload_n 1, 1) := by decide +kernel
theorem dX11_copy_22 : decode cX11_copy 22 = .ok (.aaload, 1) := by decide +kernel
theorem dX11_copy_23 : decode cX11_copy 23 = .ok (.astore 6, 2) := by decide +kernel
theorem dX11_copy_25 : decode cX11_copy 25 = .ok (.aload_n 0, 1) := by decide +kernel
theorem dX11_copy_26 : decode cX11_copy 26 = .ok (.getfield 11, 3) := by decide +kernel
theorem dX11_copy_29 : decode cX11_copy 29 = .ok (.iload_n 3, 1) := by decide +kernel
theorem dX11_copy_30 : decode cX11_copy 30 = .ok (.aaload, 1) := by decide +kernel
theorem dX11_copy_31 : decode cX11_copy 31 = .ok (.astore 7, 2) := by decide +kernel
theorem dX11_copy_33 : decode cX11_copy 33 = .ok (.aload 6, 2) := by decide +kernel
theorem dX11_copy_35 : decode cX11_copy 35 = .ok (.getfield 67, 3) := by decide +kernel
theorem dX11_copy_38 : decode cX11_copy 38 = .ok (.ifCond .ne 11, 3) := by decide +kernel
theorem dX11_copy_41 : decode cX11_copy 41 = .ok (.aload 7, 2) := by decide +kernel
theorem dX11_copy_43 : decode cX11_copy 43 = .ok (.getfield 67, 3) := by decide +kernel
theorem dX11_copy_46 : decode cX11_copy 46 = .ok (.ifCond .eq 9, 3) := by decide +kernel
theorem dX11_copy_49 : decode cX11_copy 49 = .ok (.aload_n 0, 1) := by decide +kernel
theorem dX11_copy_50 : decode cX11_copy 50 = .ok (.iconst 1, 1) := by decide +kernel
theorem dX11_copy_51 : decode cX11_copy 51 = .ok (.invokevirtual 56, 3) := by decide +kernel
theorem dX11_copy_54 : decode cX11_copy 54 = .ok (.ireturn, 1) := by decide +kernel
theorem dX11_copy_55 : decode cX11_copy 55 = .ok (.aload 6, 2) := by decide +kernel
theorem dX11_copy_57 : decode cX11_copy 57 = .ok (.getfield 82, 3) := by decide +kernel
theorem dX11_copy_60 : decode cX11_copy 60 = .ok (.aload 7, 2) := by decide +kernel
theorem dX11_copy_62 : decode cX11_copy 62 = .ok (.getfield 82, 3) := by decide +kernel
theorem dX11_copy_65 : decode cX11_copy 65 = .ok (.if_icmp .eq 9, 3) := by decide +kernel
theorem dX11_copy_68 : decode cX11_copy 68 = .ok (.aload_n 0, 1) := by decide +kernel
theorem dX11_copy_69 : decode cX11_copy 69 = .ok (.iconst 5, 1) := by decide +kernel
theorem dX11_copy_70 : decode cX11_copy 70 = .ok (.invokevirtual 56, 3) := by decide +kernel
theorem dX11_copy_73 : decode cX11_copy 73 = .ok (.ireturn, 1) := by decide +kernel
theorem dX11_copy_74 : decode cX11_copy 74 = .ok (.aload 6, 2) := by decide +kernel
theorem dX11_copy_76 : decode cX11_copy 76 = .ok (.iload_n 2, 1) := by decide +kernel
theorem dX11_copy_77 : decode cX11_copy 77 = .ok (.iload 5, 2) := by decide +kernel
theorem dX11_copy_79 : decode cX11_copy 79 = .ok (.invokevirtual 71, 3) := by decide +kernel
theorem dX11_copy_82 : decode cX11_copy 82 = .ok (.ifCond .eq 15, 3) := by decide +kernel
theorem dX11_copy_85 : decode cX11_copy 85 = .ok (.aload 7, 2) := by decide +kernel
theorem dX11_copy_87 : decode cX11_copy 87 = .ok (.iload 4, 2) := by decide +kernel
theorem dX11_copy_89 : decode cX11_copy 89 = .ok (.iload 5, 2) := by decide +kernel
theorem dX11_copy_91 : decode cX11_copy 91 = .ok (.invokevirtual 71, 3) := by decide +kernel
theorem dX11_copy_94 : decode cX11_copy 94 = .ok (.ifCond .ne 9, 3) := by decide +kernel
theorem dX11_copy_97 : decode cX11_copy 97 = .ok (.aload_n 0, 1) := by decide +kernel
theorem dX11_copy_98 : decode cX11_copy 98 = .ok (.iconst 2, 1) := by decide +kernel
theorem dX11_copy_99 : decode cX11_copy 99 = .ok (.invokevirtual 56, 3) := by decide +kernel
theorem dX11_copy_102 : decode cX11_copy 102 = .ok (.ireturn, 1) := by decide +kernel
theorem dX11_copy_103 : decode cX11_copy 103 = .ok (.aload 6, 2) := by decide +kernel
theorem dX11_copy_105 : decode cX11_copy 105 = .ok (.getfield 75, 3) := by decide +kernel
theorem dX11_copy_108 : decode cX11_copy 108 = .ok (.iload_n 2, 1) := by decide +kernel
theorem dX11_copy_109 : decode cX11_copy 109 = .ok (.aload 7, 2) := by decide +kernel
theorem dX11_copy_111 : decode cX11_copy 111 = .ok (.getfield 75, 3) := by decide +kernel
theorem dX11_copy_114 : decode cX11_copy 114 = .ok (.iload 4, 2) := by decide +kernel
theorem dX11_copy_116 : decode cX11_copy 116 = .ok (.iload 5, 2) := by decide +kernel
theorem dX11_copy_118 : decode cX11_copy 118 = .ok (.invokestatic 86, 3) := by decide +kernel
theorem dX11_copy_121 : decode cX11_copy 121 = .ok (.aload_n 0, 1) := by decide +kernel
theorem dX11_copy_122 : decode cX11_copy 122 = .ok (.iload 5, 2) := by decide +kernel
theorem dX11_copy_124 : decode cX11_copy 124 = .ok (.invokevirtual 64, 3) := by decide +kernel
theorem dX11_copy_127 : decode cX11_copy 127 = .ok (.ireturn, 1) := by decide +kernel
set_option maxRecDepth 20000 in
theorem ggX11_drop_X11_isRow : GoodIn wsX11_drop wsX11_isRow := goodIn_r _ [8] (by decide +kernel) (by decide +kernel)
set_option maxRecDepth 20000 in
theorem gX11_drop_X11_isRow : GoodIn wsX11_drop (va_wsS RX11 51 yX11_isRow wsX11_isRow) := goodIn_app (goodIn_of _ (by decide +kernel)) ggX11_drop_X11_isRow
set_option maxRecDepth 20000 in
theorem ggX11_drop_X11_found : GoodIn wsX11_drop wsX11_found := goodIn_r _ [12, 13, 14, 19, 20, 21, 22, 23, 24, 25, 26] (by decide +kernel) (by decide +kernel)
set_option maxRecDepth 20000 in
theorem gX11_drop_X11_found : GoodIn wsX11_drop (wsV RX11 56 RX11 yX11_found wsX11_found) := goodIn_app (goodIn_of _ (by decide +kernel)) ggX11_drop_X11_found
set_option maxRecDepth 20000 in
theorem ggX11_drop_X11_answered : GoodIn wsX11_drop wsX11_answered := goodIn_r _ [18, 13, 19, 20, 21, 22, 23, 24, 25, 26] (by decide +kernel) (by decide +kernel)
set_option maxRecDepth 20000 in
theorem gX11_drop_X11_answered : GoodIn wsX11_drop (wsV RX11 64 RX11 yX11_answered wsX11_answered) := goodIn_app (goodIn_of _ (by decide +kernel)) ggX11_drop_X11_answered
theorem dX11_drop_0 : decode cX11_drop 0 = .ok (.iload_n 1, 1) := by decide +kernel
theorem dX11_drop_1 : decode cX11_drop 1 = .ok (.invokestatic 51, 3) := by decide +kernel
theorem dX11_drop_4 : decode cX11_drop 4 = .ok (.ifCond .ne 6, 3) := by decide +kernel
theorem dX11_drop_7 : decode cX11_drop 7 = .ok (.ldc 55, 2) := by decide +kernel
theorem dX11_drop_9 : decode cX11_drop 9 = .ok (.ireturn, 1) := by decide +kernel
theorem dX11_drop_10 : decode cX11_drop 10 = .ok (.aload_n 0, 1) := by decide +kernel
theorem dX11_drop_11 : decode cX11_drop 11 = .ok (.getfield 11, 3) := by decide +kernel
theorem dX11_drop_14 : decode cX11_drop 14 = .ok (.iload_n 1, 1) := by decide +kernel
theorem dX11_drop_15 : decode cX11_drop 15 = .ok (.aaload, 1) := by decide +kernel
theorem dX11_drop_16 : decode cX11_drop 16 = .ok (.astore_n 2, 1) := by decide +kernel
theorem dX11_drop_17 : decode cX11_drop 17 = .ok (.aload_n 2, 1) := by decide +kernel
theorem dX11_drop_18 : decode cX11_drop 18 = .ok (.getfield 67, 3) := by decide +kernel
theorem dX11_drop_21 : decode cX11_drop 21 = .ok (.ifCond .eq 9, 3) := by decide +kernel
theorem dX11_drop_24 : decode cX11_drop 24 = .ok (.aload_n 0, 1) := by decide +kernel
theorem dX11_drop_25 : decode cX11_drop 25 = .ok (.iconst 1, 1) := by decide +kernel
theorem dX11_drop_26 : decode cX11_drop 26 = .ok (.invokevirtual 56, 3) := by decide +kernel
theorem dX11_drop_29 : decode cX11_drop 29 = .ok (.ireturn, 1) := by decide +kernel
theorem dX11_drop_30 : decode cX11_drop 30 = .ok (.aload_n 2, 1) := by decide +kernel
theorem dX11_drop_31 : decode cX11_drop 31 = .ok (.iconst 1, 1) := by decide +kernel
theorem dX11_drop_32 : decode cX11_drop 32 = .ok (.putfield 67, 3) := by decide +kernel
theorem dX11_drop_35 : decode cX11_drop 35 = .ok (.aload_n 0, 1) := by decide +kernel
theorem dX11_drop_36 : decode cX11_drop 36 = .ok (.aload_n 2, 1) := by decide +kernel
theorem dX11_drop_37 : decode cX11_drop 37 = .ok (.getfield 92, 3) := by decide +kernel
theorem dX11_drop_40 : decode cX11_drop 40 = .ok (.invokevirtual 64, 3) := by decide +kernel
theorem dX11_drop_43 : decode cX11_drop 43 = .ok (.ireturn, 1) := by decide +kernel
theorem dX11_feed_0 : decode cX11_feed 0 = .ok (.iload_n 1, 1) := by decide +kernel
theorem dX11_feed_1 : decode cX11_feed 1 = .ok (.ifCond .lt 10, 3) := by decide +kernel
theorem dX11_feed_4 : decode cX11_feed 4 = .ok (.iload_n 1, 1) := by decide +kernel
theorem dX11_feed_5 : decode cX11_feed 5 = .ok (.sipush 255, 3) := by decide +kernel
theorem dX11_feed_8 : decode cX11_feed 8 = .ok (.if_icmp .le 6, 3) := by decide +kernel
theorem dX11_feed_11 : decode cX11_feed 11 = .ok (.ldc 55, 2) := by decide +kernel
theorem dX11_feed_13 : decode cX11_feed 13 = .ok (.ireturn, 1) := by decide +kernel
theorem dX11_feed_14 : decode cX11_feed 14 = .ok (.aload_n 0, 1) := by decide +kernel
theorem dX11_feed_15 : decode cX11_feed 15 = .ok (.getfield 18, 3) := by decide +kernel
theorem dX11_feed_18 : decode cX11_feed 18 = .ok (.getfield 95, 3) := by decide +kernel
theorem dX11_feed_21 : decode cX11_feed 21 = .ok (.sipush 140, 3) := by decide +kernel
theorem dX11_feed_24 : decode cX11_feed 24 = .ok (.if_icmp .lt 6, 3) := by decide +kernel
theorem dX11_feed_27 : decode cX11_feed 27 = .ok (.ldc 98, 2) := by decide +kernel
theorem dX11_feed_29 : decode cX11_feed 29 = .ok (.ireturn, 1) := by decide +kernel
theorem dX11_feed_30 : decode cX11_feed 30 = .ok (.aload_n 0, 1) := by decide +kernel
theorem dX11_feed_31 : decode cX11_feed 31 = .ok (.getfield 18, 3) := by decide +kernel
theorem dX11_feed_34 : decode cX11_feed 34 = .ok (.getfield 99, 3) := by decide +kernel
theorem dX11_feed_37 : decode cX11_feed 37 = .ok (.aload_n 0, 1) := by decide +kernel
theorem dX11_feed_38 : decode cX11_feed 38 = .ok (.getfield 18, 3) := by decide +kernel
theorem dX11_feed_41 : decode cX11_feed 41 = .ok (.getfield 95, 3) := by decide +kernel
theorem dX11_feed_44 : decode cX11_feed 44 = .ok (.iload_n 1, 1) := by decide +kernel
theorem dX11_feed_45 : decode cX11_feed 45 = .ok (.iastore, 1) := by decide +kernel
theorem dX11_feed_46 : decode cX11_feed 46 = .ok (.aload_n 0, 1) := by decide +kernel
theorem dX11_feed_47 : decode cX11_feed 47 = .ok (.getfield 18, 3) := by decide +kernel
theorem dX11_feed_50 : decode cX11_feed 50 = .ok (.dup, 1) := by decide +kernel
theorem dX11_feed_51 : decode cX11_feed 51 = .ok (.getfield 95, 3) := by decide +kernel
theorem dX11_feed_54 : decode cX11_feed 54 = .ok (.iconst 1, 1) := by decide +kernel
theorem dX11_feed_55 : decode cX11_feed 55 = .ok (.iadd, 1) := by decide +kernel
theorem dX11_feed_56 : decode cX11_feed 56 = .ok (.putfield 95, 3) := by decide +kernel
theorem dX11_feed_59 : decode cX11_feed 59 = .ok (.aload_n 0, 1) := by decide +kernel
theorem dX11_feed_60 : decode cX11_feed 60 = .ok (.getfield 18, 3) := by decide +kernel
theorem dX11_feed_63 : decode cX11_feed 63 = .ok (.getfield 95, 3) := by decide +kernel
theorem dX11_feed_66 : decode cX11_feed 66 = .ok (.ireturn, 1) := by decide +kernel
set_option maxRecDepth 20000 in
theorem ggX11_house_X6_readInto : GoodIn wsX11_house wsX6_readInto := goodIn_r _ [13, 14, 15, 16, 17, 18, 19, 20, 21, 22, 23, 24, 25, 26, 27, 28, 29, 30, 12, 31, 32, 33, 34, 35, 36, 37, 38, 39, 40, 41, 42, 43, 44, 45, 46, 47, 48, 49, 50, 51, 52, 53, 54, 55, 56, 57, 58, 59, 60, 61, 62, 63, 64, 65, 66, 67, 68, 69, 70, 71, 72, 73, 74, 75, 76, 77, 78, 79, 80, 81, 82, 83, 84, 85, 86, 87, 88, 89, 90, 91, 92, 93, 94, 95, 96, 97, 98, 99, 100, 101, 102, 103, 104, 105, 106, 107, 108, 109, 110, 111, 112, 113, 114, 115, 116, 117, 118, 119, 120, 121, 122, 123, 124, 125, 126, 127, 128, 129, 130, 131, 132, 133, 167, 168, 169, 170, 171, 172, 173, 174, 175, 176, 177, 178, 179, 180, 181, 182, 183, 184, 185, 186, 187, 188, 189, 190, 191, 192, 193, 194] (by decide +kernel) (by decide +kernel)
set_option maxRecDepth 20000 in
theorem gX11_house_X6_readInto : GoodIn wsX11_house (wsV RX11 102 RX6 yX6_readInto wsX6_readInto) := goodIn_app (goodIn_of _ (by decide +kernel)) ggX11_house_X6_readInto
set_option maxRecDepth 20000 in
theorem ggX11_house_X3_becomes : GoodIn wsX11_house wsX3_becomes := goodIn_r _ [137, 138, 139, 140, 20, 21, 22, 141, 142, 143, 23, 144, 145, 146, 147, 148, 149, 150, 151, 152, 175, 176, 177, 178, 179, 180, 181, 182, 183, 184, 185, 186, 187, 188, 189] (by decide +kernel) (by decide +kernel)
set_option maxRecDepth 20000 in
theorem gX11_house_X3_becomes : GoodIn wsX11_house (wsV RX11 110 RX3 yX3_becomes wsX3_becomes) := goodIn_app (goodIn_of _ (by decide +kernel)) ggX11_house_X3_becomes
set_option maxRecDepth 20000 in
theorem ggX11_house_X0_forgetAll : GoodIn wsX11_house wsX0_forgetAll := goodIn_r _ [157, 158, 195, 196, 197, 198, 199, 200, 201] (by decide +kernel) (by decide +kernel)
set_option maxRecDepth 20000 in
theorem gX11_house_X0_forgetAll : GoodIn wsX11_house (wsV RX11 114 RX0 yX0_forgetAll wsX0_forgetAll) := goodIn_app (goodIn_of _ (by decide +kernel)) ggX11_house_X0_forgetAll
theorem dX11_house_0 : decode cX11_house 0 = .ok (.aload_n 0, 1) := by decide +kernel
theorem dX11_house_1 : decode cX11_house 1 = .ok (.getfield 18, 3) := by decide +kernel
theorem dX11_house_4 : decode cX11_house 4 = .ok (.aload_n 0, 1) := by decide +kernel
theorem dX11_house_5 : decode cX11_house 5 = .ok (.getfield 29, 3) := by decide +kernel
theorem dX11_house_8 : decode cX11_house 8 = .ok (.invokevirtual 102, 3) := by decide +kernel
theorem dX11_house_11 : decode cX11_house 11 = .ok (.istore_n 1, 1) := by decide +kernel
theorem dX11_house_12 : decode cX11_house 12 = .ok (.aload_n 0, 1) := by decide +kernel
theorem dX11_house_13 : decode cX11_house 13 = .ok (.getfield 18, 3) := by decide +kernel
theorem dX11_house_16 : decode cX11_house 16 = .ok (.iconst 0, 1) := by decide +kernel
theorem dX11_house_17 : decode cX11_house 17 = .ok (.putfield 95, 3) := by decide +kernel
theorem dX11_house_20 : decode cX11_house 20 = .ok (.iload_n 1, 1) := by decide +kernel
theorem dX11_house_21 : decode cX11_house 21 = .ok (.ifCond .ne 14, 3) := by decide +kernel
theorem dX11_house_24 : decode cX11_house 24 = .ok (.ldc 106, 2) := by decide +kernel
theorem dX11_house_26 : decode cX11_house 26 = .ok (.aload_n 0, 1) := by decide +kernel
theorem dX11_house_27 : decode cX11_house 27 = .ok (.getfield 18, 3) := by decide +kernel
theorem dX11_house_30 : decode cX11_house 30 = .ok (.getfield 107, 3) := by decide +kernel
theorem dX11_house_33 : decode cX11_house 33 = .ok (.isub, 1) := by decide +kernel
theorem dX11_house_34 : decode cX11_house 34 = .ok (.ireturn, 1) := by decide +kernel
theorem dX11_house_35 : decode cX11_house 35 = .ok (.aload_n 0, 1) := by decide +kernel
theorem dX11_house_36 : decode cX11_house 36 = .ok (.getfield 25, 3) := by decide +kernel
theorem dX11_house_39 : decode cX11_house 39 = .ok (.aload_n 0, 1) := by decide +kernel
theorem dX11_house_40 : decode cX11_house 40 = .ok (.getfield 29, 3) := by decide +kernel
theorem dX11_house_43 : decode cX11_house 43 = .ok (.invokevirtual 110, 3) := by decide +kernel
theorem dX11_house_46 : decode cX11_house 46 = .ok (.aload_n 0, 1) := by decide +kernel
theorem dX11_house_47 : decode cX11_house 47 = .ok (.getfield 39, 3) := by decide +kernel
theorem dX11_house_50 : decode cX11_house 50 = .ok (.invokevirtual 114, 3) := by decide +kernel
theorem dX11_house_53 : decode cX11_house 53 = .ok (.aload_n 0, 1) := by decide +kernel
theorem dX11_house_54 : decode cX11_house 54 = .ok (.getfield 25, 3) := by decide +kernel
theorem dX11_house_57 : decode cX11_house 57 = .ok (.getfield 117, 3) := by decide +kernel
theorem dX11_house_60 : decode cX11_house 60 = .ok (.ireturn, 1) := by decide +kernel
theorem dX11_fault_0 : decode cX11_fault 0 = .ok (.aload_n 0, 1) := by decide +kernel
theorem dX11_fault_1 : decode cX11_fault 1 = .ok (.getfield 18, 3) := by decide +kernel
theorem dX11_fault_4 : decode cX11_fault 4 = .ok (.getfield 120, 3) := by decide +kernel
theorem dX11_fault_7 : decode cX11_fault 7 = .ok (.ireturn, 1) := by decide +kernel
set_option maxRecDepth 20000 in
theorem ggX11_undo_X0_undoLatest : GoodIn wsX11_undo wsX0_undoLatest := goodIn_r _ [9, 10, 11, 12, 13, 14, 15, 16, 17, 18, 19, 20, 21, 22, 23, 24, 25, 26, 27, 28, 29, 30, 31, 32, 33, 34, 35, 36, 37, 38, 47, 48, 49, 50, 51, 52, 53, 54, 55, 56, 57, 58, 59, 60, 61, 62, 63, 64, 65, 66, 67, 68] (by decide +kernel) (by decide +kernel)
set_option maxRecDepth 20000 in
theorem gX11_undo_X0_undoLatest : GoodIn wsX11_undo (wsV RX11 127 RX0 yX0_undoLatest wsX0_undoLatest) := goodIn_app (goodIn_of _ (by decide +kernel)) ggX11_undo_X0_undoLatest
theorem dX11_undo_0 : decode cX11_undo 0 = .ok (.aload_n 0, 1) := by decide +kernel
theorem dX11_undo_1 : decode cX11_undo 1 = .ok (.getfield 39, 3) := by decide +kernel
theorem dX11_undo_4 : decode cX11_undo 4 = .ok (.getfield 123, 3) := by decide +kernel
theorem dX11_undo_7 : decode cX11_undo 7 = .ok (.ifCond .ne 6, 3) := by decide +kernel
theorem dX11_undo_10 : decode cX11_undo 10 = .ok (.ldc 126, 2) := by decide +kernel
theorem dX11_undo_12 : decode cX11_undo 12 = .ok (.ireturn, 1) := by decide +kernel
theorem dX11_undo_13 : decode cX11_undo 13 = .ok (.aload_n 0, 1) := by decide +kernel
theorem dX11_undo_14 : decode cX11_undo 14 = .ok (.getfield 39, 3) := by decide +kernel
theorem dX11_undo_17 : decode cX11_undo 17 = .ok (.aload_n 0, 1) := by decide +kernel
theorem dX11_undo_18 : decode cX11_undo 18 = .ok (.getfield 25, 3) := by decide +kernel
theorem dX11_undo_21 : decode cX11_undo 21 = .ok (.invokevirtual 127, 3) := by decide +kernel
theorem dX11_undo_24 : decode cX11_undo 24 = .ok (.aload_n 0, 1) := by decide +kernel
theorem dX11_undo_25 : decode cX11_undo 25 = .ok (.getfield 39, 3) := by decide +kernel
theorem dX11_undo_28 : decode cX11_undo 28 = .ok (.getfield 123, 3) := by decide +kernel
theorem dX11_undo_31 : decode cX11_undo 31 = .ok (.ireturn, 1) := by decide +kernel
set_option maxRecDepth 20000 in
theorem ggX11_buy_X3_isVisitor : GoodIn wsX11_buy wsX3_isVisitor := goodIn_r _ [10, 11, 120, 121, 122, 123, 124, 125, 126, 127, 128, 129, 130, 131, 132, 133, 134] (by decide +kernel) (by decide +kernel)
set_option maxRecDepth 20000 in
theorem gX11_buy_X3_isVisitor : GoodIn wsX11_buy (wsV RX11 130 RX3 yX3_isVisitor wsX3_isVisitor) := goodIn_app (goodIn_of _ (by decide +kernel)) ggX11_buy_X3_isVisitor
set_option maxRecDepth 20000 in
theorem ggX11_buy_X3_isRoom : GoodIn wsX11_buy wsX3_isRoom := goodIn_r _ [15, 16, 120, 121, 122, 123, 124, 125, 126, 127, 128, 129, 130, 131, 132, 133, 134] (by decide +kernel) (by decide +kernel)
set_option maxRecDepth 20000 in
theorem gX11_buy_X3_isRoom : GoodIn wsX11_buy (wsV RX11 133 RX3 yX3_isRoom wsX3_isRoom) := goodIn_app (goodIn_of _ (by decide +kernel)) ggX11_buy_X3_isRoom
set_option maxRecDepth 20000 in
theorem ggX11_buy_X11_isMinute : GoodIn wsX11_buy wsX11_isMinute := goodIn_r _ [20] (by decide +kernel) (by decide +kernel)
set_option maxRecDepth 20000 in
theorem gX11_buy_X11_isMinute : GoodIn wsX11_buy (va_wsS RX11 136 yX11_isMinute wsX11_isMinute) := goodIn_app (goodIn_of _ (by decide +kernel)) ggX11_buy_X11_isMinute
set_option maxRecDepth 20000 in
theorem ggX11_buy_X3_holds : GoodIn wsX11_buy wsX3_holds := goodIn_r _ [24, 25, 26, 19, 27, 28, 29, 120, 121, 122, 123, 124, 125, 126, 127, 128, 129, 130, 131, 132, 133, 134] (by decide +kernel) (by decide +kernel)
set_option maxRecDepth 20000 in
theorem gX11_buy_X3_holds : GoodIn wsX11_buy (wsV RX11 139 RX3 yX3_holds wsX3_holds) := goodIn_app (goodIn_of _ (by decide +kernel)) ggX11_buy_X3_holds
set_option maxRecDepth 20000 in
theorem ggX11_buy_X3_canBuy : GoodIn wsX11_buy wsX3_canBuy := goodIn_r _ [33, 34, 35, 36, 37, 38, 9, 39, 40, 41, 42, 43, 44, 25, 26, 19, 27, 45, 46, 47, 48, 49, 50, 51, 52, 53, 54, 55, 56, 57, 58, 59, 60, 61, 62, 63, 64, 28, 29, 65, 66, 67, 68, 69, 70, 71, 72, 73, 74, 75, 76, 77, 78, 79, 80, 81, 82, 83, 84, 85, 86, 87, 88, 89, 90, 91, 120, 121, 122, 123, 124, 125, 126, 127, 128, 129, 130, 131, 132, 133, 134] (by decide +kernel) (by decide +kernel)
set_option maxRecDepth 20000 in
theorem gX11_buy_X3_canBuy : GoodIn wsX11_buy (wsV RX11 143 RX3 yX3_canBuy wsX3_canBuy) := goodIn_app (goodIn_of _ (by decide +kernel)) ggX11_buy_X3_canBuy
set_option maxRecDepth 20000 in
theorem ggX11_buy_X3_priceFor : GoodIn wsX11_buy wsX3_priceFor := goodIn_r _ [55, 56, 57, 58, 59, 60, 61, 62, 63, 64, 28, 19, 29, 41, 42, 43, 9, 44, 25, 26, 27, 45, 46, 47, 48, 49, 50, 51, 65, 66, 67, 68, 69, 70, 71, 72, 73, 74, 75, 76, 77, 78, 79, 80, 81, 82, 83, 84, 85, 86, 87, 88, 89, 90, 91, 120, 121, 122, 123, 124, 125, 126, 127, 128, 129, 130, 131, 132, 133, 134] (by decide +kernel) (by decide +kernel)
set_option maxRecDepth 20000 in
theorem gX11_buy_X3_priceFor : GoodIn wsX11_buy (wsV RX11 146 RX3 yX3_priceFor wsX3_priceFor) := goodIn_app (goodIn_of _ (by decide +kernel)) ggX11_buy_X3_priceFor
set_option maxRecDepth 20000 in
theorem ggX11_buy_X3_takeSeat : GoodIn wsX11_buy wsX3_takeSeat := goodIn_r _ [96, 25, 34, 35, 26, 19, 27, 120, 121, 122, 123, 124, 125, 126, 127, 128, 129, 130, 131, 132, 133, 134] (by decide +kernel) (by decide +kernel)
set_option maxRecDepth 20000 in
theorem gX11_buy_X3_takeSeat : GoodIn wsX11_buy (wsV RX11 150 RX3 yX3_takeSeat wsX3_takeSeat) := goodIn_app (goodIn_of _ (by decide +kernel)) ggX11_buy_X3_takeSeat
set_option maxRecDepth 20000 in
theorem ggX11_buy_X0_keep : GoodIn wsX11_buy wsX0_keep := goodIn_r _ [101, 102, 103, 104, 105, 106, 107, 108, 109, 110, 60, 111, 135, 136, 137, 138, 139, 140, 141] (by decide +kernel) (by decide +kernel)
set_option maxRecDepth 20000 in
theorem gX11_buy_X0_keep : GoodIn wsX11_buy (wsV RX11 154 RX0 yX0_keep wsX0_keep) := goodIn_app (goodIn_of _ (by decide +kernel)) ggX11_buy_X0_keep
theorem dX11_buy_0 : decode cX11_buy 0 = .ok (.aload_n 0, 1) := by decide +kernel
theorem dX11_buy_1 : decode cX11_buy 1 = .ok (.getfield 25, 3) := by decide +kernel
theorem dX11_buy_4 : decode cX11_buy 4 = .ok (.iload_n 1, 1) := by decide +kernel
theorem dX11_buy_5 : decode cX11_buy 5 = .ok (.invokevirtual 130, 3) := by decide +kernel
theorem dX11_buy_8 : decode cX11_buy 8 = .ok (.ifCond .eq 21, 3) := by decide +kernel
theorem dX11_buy_11 : decode cX11_buy 11 = .ok (.aload_n 0, 1) := by decide +kernel
theorem dX11_buy_12 : decode cX11_buy 12 = .ok (.getfield 25, 3) := by decide +kernel
theorem dX11_buy_15 : decode cX11_buy 15 = .ok (.iload_n 2, 1) := by decide +kernel
theorem dX11_buy_16 : decode cX11_buy 16 = .ok (.invokevirtual 133, 3) := by decide +kernel
theorem dX11_buy_19 : decode cX11_buy 19 = .ok (.ifCond .eq 10, 3) := by decide +kernel
theorem dX11_buy_22 : decode cX11_buy 22 = .ok (.iload_n 3, 1) := by decide +kernel
theorem dX11_buy_23 : decode cX11_buy 23 = .ok (.invokestatic 136, 3) := by decide +kernel
theorem dX11_buy_26 : decode cX11_buy 26 = .ok (.ifCond .ne 6, 3) := by decide +kernel
theorem dX11_buy_29 : decode cX11_buy 29 = .ok (.ldc 55, 2) := by decide +kernel
theorem dX11_buy_31 : decode cX11_buy 31 = .ok (.ireturn, 1) := by decide +kernel
theorem dX11_buy_32 : decode cX11_buy 32 = .ok (.aload_n 0, 1) := by decide +kernel
theorem dX11_buy_33 : decode cX11_buy 33 = .ok (.getfield 25, 3) := by decide +kernel
theorem dX11_buy_36 : decode cX11_buy 36 = .ok (.iload_n 1, 1) := by decide +kernel
theorem dX11_buy_37 : decode cX11_buy 37 = .ok (.iload_n 2, 1) := by decide +kernel
theorem dX11_buy_38 : decode cX11_buy 38 = .ok (.iload_n 3, 1) := by decide +kernel
theorem dX11_buy_39 : decode cX11_buy 39 = .ok (.invokevirtual 139, 3) := by decide +kernel
theorem dX11_buy_42 : decode cX11_buy 42 = .ok (.ifCond .eq 6, 3) := by decide +kernel
theorem dX11_buy_45 : decode cX11_buy 45 = .ok (.ldc 126, 2) := by decide +kernel
theorem dX11_buy_47 : decode cX11_buy 47 = .ok (.ireturn, 1) := by decide +kernel
theorem dX11_buy_48 : decode cX11_buy 48 = .ok (.aload_n 0, 1) := by decide +kernel
theorem dX11_buy_49 : decode cX11_buy 49 = .ok (.getfield 25, 3) := by decide +kernel
theorem dX11_buy_52 : decode cX11_buy 52 = .ok (.iload_n 1, 1) := by decide +kernel
theorem dX11_buy_53 : decode cX11_buy 53 = .ok (.iload_n 2, 1) := by decide +kernel
theorem dX11_buy_54 : decode cX11_buy 54 = .ok (.iload_n 3, 1) := by decide +kernel
theorem dX11_buy_55 : decode cX11_buy 55 = .ok (.invokevirtual 143, 3) := by decide +kernel
theorem dX11_buy_58 : decode cX11_buy 58 = .ok (.ifCond .ne 6, 3) := by decide +kernel
theorem dX11_buy_61 : decode cX11_buy 61 = .ok (.ldc 98, 2) := by decide +kernel
theorem dX11_buy_63 : decode cX11_buy 63 = .ok (.ireturn, 1) := by decide +kernel
theorem dX11_buy_64 : decode cX11_buy 64 = .ok (.aload_n 0, 1) := by decide +kernel
theorem dX11_buy_65 : decode cX11_buy 65 = .ok (.getfield 25, 3) := by decide +kernel
theorem dX11_buy_68 : decode cX11_buy 68 = .ok (.iload_n 1, 1) := by decide +kernel
theorem dX11_buy_69 : decode cX11_buy 69 = .ok (.iload_n 2, 1) := by decide +kernel
theorem dX11_buy_70 : decode cX11_buy 70 = .ok (.iload_n 3, 1) := by decide +kernel
theorem dX11_buy_71 : decode cX11_buy 71 = .ok (.invokevirtual 146, 3) := by decide +kernel
theorem dX11_buy_74 : decode cX11_buy 74 = .ok (.istore 4, 2) := by decide +kernel
theorem dX11_buy_76 : decode cX11_buy 76 = .ok (.aload_n 0, 1) := by decide +kernel
theorem dX11_buy_77 : decode cX11_buy 77 = .ok (.getfield 25, 3) := by decide +kernel
theorem dX11_buy_80 : decode cX11_buy 80 = .ok (.iload_n 1, 1) := by decide +kernel
theorem dX11_buy_81 : decode cX11_buy 81 = .ok (.iload_n 2, 1) := by decide +kernel
theorem dX11_buy_82 : decode cX11_buy 82 = .ok (.iload_n 3, 1) := by decide +kernel
theorem dX11_buy_83 : decode cX11_buy 83 = .ok (.iload 4, 2) := by decide +kernel
theorem dX11_buy_85 : decode cX11_buy 85 = .ok (.invokevirtual 150, 3) := by decide +kernel
theorem dX11_buy_88 : decode cX11_buy 88 = .ok (.aload_n 0, 1) := by decide +kernel
theorem dX11_buy_89 : decode cX11_buy 89 = .ok (.getfield 39, 3) := by decide +kernel
theorem dX11_buy_92 : decode cX11_buy 92 = .ok (.iconst 0, 1) := by decide +kernel
theorem dX11_buy_93 : decode cX11_buy 93 = .ok (.iload_n 1, 1) := by decide +kernel
theorem dX11_buy_94 : decode cX11_buy 94 = .ok (.iload_n 2, 1) := by decide +kernel
theorem dX11_buy_95 : decode cX11_buy 95 = .ok (.iload_n 3, 1) := by decide +kernel
theorem dX11_buy_96 : decode cX11_buy 96 = .ok (.iload 4, 2) := by decide +kernel
theorem dX11_buy_98 : decode cX11_buy 98 = .ok (.invokevirtual 154, 3) := by decide +kernel
theorem dX11_buy_101 : decode cX11_buy 101 = .ok (.iload 4, 2) := by decide +kernel
theorem dX11_buy_103 : decode cX11_buy 103 = .ok (.ireturn, 1) := by decide +kernel
set_option maxRecDepth 20000 in
theorem ggX11_back_X3_isVisitor : GoodIn wsX11_back wsX3_isVisitor := goodIn_r _ [11, 12, 61, 62, 63, 64, 65, 66, 67, 68, 69, 70, 71, 72, 73, 74, 75] (by decide +kernel) (by decide +kernel)
set_option maxRecDepth 20000 in
theorem gX11_back_X3_isVisitor : GoodIn wsX11_back (wsV RX11 130 RX3 yX3_isVisitor wsX3_isVisitor) := goodIn_app (goodIn_of _ (by decide +kernel)) ggX11_back_X3_isVisitor
set_option maxRecDepth 20000 in
theorem ggX11_back_X3_isRoom : GoodIn wsX11_back wsX3_isRoom := goodIn_r _ [16, 17, 61, 62, 63, 64, 65, 66, 67, 68, 69, 70, 71, 72, 73, 74, 75] (by decide +kernel) (by decide +kernel)
set_option maxRecDepth 20000 in
theorem gX11_back_X3_isRoom : GoodIn wsX11_back (wsV RX11 133 RX3 yX3_isRoom wsX3_isRoom) := goodIn_app (goodIn_of _ (by decide +kernel)) ggX11_back_X3_isRoom
set_option maxRecDepth 20000 in
theorem ggX11_back_X11_isMinute : GoodIn wsX11_back wsX11_isMinute := goodIn_r _ [21] (by decide +kernel) (by decide +kernel)
set_option maxRecDepth 20000 in
theorem gX11_back_X11_isMinute : GoodIn wsX11_back (va_wsS RX11 136 yX11_isMinute wsX11_isMinute) := goodIn_app (goodIn_of _ (by decide +kernel)) ggX11_back_X11_isMinute
set_option maxRecDepth 20000 in
theorem ggX11_back_X3_holds : GoodIn wsX11_back wsX3_holds := goodIn_r _ [25, 26, 27, 20, 28, 29, 30, 61, 62, 63, 64, 65, 66, 67, 68, 69, 70, 71, 72, 73, 74, 75] (by decide +kernel) (by decide +kernel)
set_option maxRecDepth 20000 in
theorem gX11_back_X3_holds : GoodIn wsX11_back (wsV RX11 139 RX3 yX3_holds wsX3_holds) := goodIn_app (goodIn_of _ (by decide +kernel)) ggX11_back_X3_holds
set_option maxRecDepth 20000 in
theorem ggX11_back_X3_leaveSeat : GoodIn wsX11_back wsX3_leaveSeat := goodIn_r _ [34, 26, 35, 36, 27, 20, 28, 61, 62, 63, 64, 65, 66, 67, 68, 69, 70, 71, 72, 73, 74, 75] (by decide +kernel) (by decide +kernel)
set_option maxRecDepth 20000 in
theorem gX11_back_X3_leaveSeat : GoodIn wsX11_back (wsV RX11 161 RX3 yX3_leaveSeat wsX3_leaveSeat) := goodIn_app (goodIn_of _ (by decide +kernel)) ggX11_back_X3_leaveSeat
set_option maxRecDepth 20000 in
theorem ggX11_back_X0_keep : GoodIn wsX11_back wsX0_keep := goodIn_r _ [41, 42, 43, 44, 45, 46, 47, 48, 49, 50, 51, 52, 76, 77, 78, 79, 80, 81, 82] (by decide +kernel) (by decide +kernel)
set_option maxRecDepth 20000 in
theorem gX11_back_X0_keep : GoodIn wsX11_back (wsV RX11 154 RX0 yX0_keep wsX0_keep) := goodIn_app (goodIn_of _ (by decide +kernel)) ggX11_back_X0_keep
theorem dX11_back_0 : decode cX11_back 0 = .ok (.aload_n 0, 1) := by decide +kernel
theorem dX11_back_1 : decode cX11_back 1 = .ok (.getfield 25, 3) := by decide +kernel
theorem dX11_back_4 : decode cX11_back 4 = .ok (.iload_n 1, 1) := by decide +kernel
theorem dX11_back_5 : decode cX11_back 5 = .ok (.invokevirtual 130, 3) := by decide +kernel
theorem dX11_back_8 : decode cX11_back 8 = .ok (.ifCond .eq 21, 3) := by decide +kernel
theorem dX11_back_11 : decode cX11_back 11 = .ok (.aload_n 0, 1) := by decide +kernel
theorem dX11_back_12 : decode cX11_back 12 = .ok (.getfield 25, 3) := by decide +kernel
theorem dX11_back_15 : decode cX11_back 15 = .ok (.iload_n 2, 1) := by decide +kernel
theorem dX11_back_16 : decode cX11_back 16 = .ok (.invokevirtual 133, 3) := by decide +kernel
theorem dX11_back_19 : decode cX11_back 19 = .ok (.ifCond .eq 10, 3) := by decide +kernel
theorem dX11_back_22 : decode cX11_back 22 = .ok (.iload_n 3, 1) := by decide +kernel
theorem dX11_back_23 : decode cX11_back 23 = .ok (.invokestatic 136, 3) := by decide +kernel
theorem dX11_back_26 : decode cX11_back 26 = .ok (.ifCond .ne 6, 3) := by decide +kernel
theorem dX11_back_29 : decode cX11_back 29 = .ok (.ldc 55, 2) := by decide +kernel
theorem dX11_back_31 : decode cX11_back 31 = .ok (.ireturn, 1) := by decide +kernel
theorem dX11_back_32 : decode cX11_back 32 = .ok (.aload_n 0, 1) := by decide +kernel
theorem dX11_back_33 : decode cX11_back 33 = .ok (.getfield 25, 3) := by decide +kernel
theorem dX11_back_36 : decode cX11_back 36 = .ok (.iload_n 1, 1) := by decide +kernel
theorem dX11_back_37 : decode cX11_back 37 = .ok (.iload_n 2, 1) := by decide +kernel
theorem dX11_back_38 : decode cX11_back 38 = .ok (.iload_n 3, 1) := by decide +kernel
theorem dX11_back_39 : decode cX11_back 39 = .ok (.invokevirtual 139, 3) := by decide +kernel
theorem dX11_back_42 : decode cX11_back 42 = .ok (.ifCond .ne 6, 3) := by decide +kernel
theorem dX11_back_45 : decode cX11_back 45 = .ok (.ldc 126, 2) := by decide +kernel
theorem dX11_back_47 : decode cX11_back 47 = .ok (.ireturn, 1) := by decide +kernel
theorem dX11_back_48 : decode cX11_back 48 = .ok (.aload_n 0, 1) := by decide +kernel
theorem dX11_back_49 : decode cX11_back 49 = .ok (.getfield 25, 3) := by decide +kernel
theorem dX11_back_52 : decode cX11_back 52 = .ok (.getfield 158, 3) := by decide +kernel
theorem dX11_back_55 : decode cX11_back 55 = .ok (.iconst 2, 1) := by decide +kernel
theorem dX11_back_56 : decode cX11_back 56 = .ok (.idiv, 1) := by decide +kernel
theorem dX11_back_57 : decode cX11_back 57 = .ok (.istore 4, 2) := by decide +kernel
theorem dX11_back_59 : decode cX11_back 59 = .ok (.aload_n 0, 1) := by decide +kernel
theorem dX11_back_60 : decode cX11_back 60 = .ok (.getfield 25, 3) := by decide +kernel
theorem dX11_back_63 : decode cX11_back 63 = .ok (.iload_n 1, 1) := by decide +kernel
theorem dX11_back_64 : decode cX11_back 64 = .ok (.iload_n 2, 1) := by decide +kernel
theorem dX11_back_65 : decode cX11_back 65 = .ok (.iload_n 3, 1) := by decide +kernel
theorem dX11_back_66 : decode cX11_back 66 = .ok (.iload 4, 2) := by decide +kernel
theorem dX11_back_68 : decode cX11_back 68 = .ok (.invokevirtual 161, 3) := by decide +kernel
theorem dX11_back_71 : decode cX11_back 71 = .ok (.aload_n 0, 1) := by decide +kernel
theorem dX11_back_72 : decode cX11_back 72 = .ok (.getfield 39, 3) := by decide +kernel
theorem dX11_back_75 : decode cX11_back 75 = .ok (.iconst 1, 1) := by decide +kernel
theorem dX11_back_76 : decode cX11_back 76 = .ok (.iload_n 1, 1) := by decide +kernel
theorem dX11_back_77 : decode cX11_back 77 = .ok (.iload_n 2, 1) := by decide +kernel
theorem dX11_back_78 : decode cX11_back 78 = .ok (.iload_n 3, 1) := by decide +kernel
theorem dX11_back_79 : decode cX11_back 79 = .ok (.iload 4, 2) := by decide +kernel
theorem dX11_back_81 : decode cX11_back 81 = .ok (.invokevirtual 154, 3) := by decide +kernel
theorem dX11_back_84 : decode cX11_back 84 = .ok (.aload_n 0, 1) := by decide +kernel
theorem dX11_back_85 : decode cX11_back 85 = .ok (.getfield 25, 3) := by decide +kernel
theorem dX11_back_88 : decode cX11_back 88 = .ok (.getfield 164, 3) := by decide +kernel
theorem dX11_back_91 : decode cX11_back 91 = .ok (.iload_n 1, 1) := by decide +kernel
theorem dX11_back_92 : decode cX11_back 92 = .ok (.iaload, 1) := by decide +kernel
theorem dX11_back_93 : decode cX11_back 93 = .ok (.ireturn, 1) := by decide +kernel
set_option maxRecDepth 20000 in
theorem ggX11_curtain_X3_isRoom : GoodIn wsX11_curtain wsX3_isRoom := goodIn_r _ [10, 11, 59, 60, 61, 62, 63, 64, 65, 66, 67, 68, 69, 70, 71, 72, 73] (by decide +kernel) (by decide +kernel)
set_option maxRecDepth 20000 in
theorem gX11_curtain_X3_isRoom : GoodIn wsX11_curtain (wsV RX11 133 RX3 yX3_isRoom wsX3_isRoom) := goodIn_app (goodIn_of _ (by decide +kernel)) ggX11_curtain_X3_isRoom
set_option maxRecDepth 20000 in
theorem ggX11_curtain_X11_isMinute : GoodIn wsX11_curtain wsX11_isMinute := goodIn_r _ [15] (by decide +kernel) (by decide +kernel)
set_option maxRecDepth 20000 in
theorem gX11_curtain_X11_isMinute : GoodIn wsX11_curtain (va_wsS RX11 136 yX11_isMinute wsX11_isMinute) := goodIn_app (goodIn_of _ (by decide +kernel)) ggX11_curtain_X11_isMinute
set_option maxRecDepth 20000 in
theorem ggX11_curtain_X3_hasWindow : GoodIn wsX11_curtain wsX3_hasWindow := goodIn_r _ [19, 20, 21, 14, 22, 59, 60, 61, 62, 63, 64, 65, 66, 67, 68, 69, 70, 71, 72, 73] (by decide +kernel) (by decide +kernel)
set_option maxRecDepth 20000 in
theorem gX11_curtain_X3_hasWindow : GoodIn wsX11_curtain (wsV RX11 167 RX3 yX3_hasWindow wsX3_hasWindow) := goodIn_app (goodIn_of _ (by decide +kernel)) ggX11_curtain_X3_hasWindow
set_option maxRecDepth 20000 in
theorem ggX11_curtain_X3_isDrawn : GoodIn wsX11_curtain wsX3_isDrawn := goodIn_r _ [26, 27, 28, 14, 29, 21, 22, 59, 60, 61, 62, 63, 64, 65, 66, 67, 68, 69, 70, 71, 72, 73] (by decide +kernel) (by decide +kernel)
set_option maxRecDepth 20000 in
theorem gX11_curtain_X3_isDrawn : GoodIn wsX11_curtain (wsV RX11 170 RX3 yX3_isDrawn wsX3_isDrawn) := goodIn_app (goodIn_of _ (by decide +kernel)) ggX11_curtain_X3_isDrawn
set_option maxRecDepth 20000 in
theorem ggX11_curtain_X3_drawCurtain : GoodIn wsX11_curtain wsX3_drawCurtain := goodIn_r _ [33, 27, 34, 28, 14, 29, 59, 60, 61, 62, 63, 64, 65, 66, 67, 68, 69, 70, 71, 72, 73] (by decide +kernel) (by decide +kernel)
set_option maxRecDepth 20000 in
theorem gX11_curtain_X3_drawCurtain : GoodIn wsX11_curtain (wsV RX11 173 RX3 yX3_drawCurtain wsX3_drawCurtain) := goodIn_app (goodIn_of _ (by decide +kernel)) ggX11_curtain_X3_drawCurtain
set_option maxRecDepth 20000 in
theorem ggX11_curtain_X0_keep : GoodIn wsX11_curtain wsX0_keep := goodIn_r _ [39, 40, 41, 42, 43, 44, 45, 46, 47, 48, 49, 50, 74, 75, 76, 77, 78, 79, 80] (by decide +kernel) (by decide +kernel)
set_option maxRecDepth 20000 in
theorem gX11_curtain_X0_keep : GoodIn wsX11_curtain (wsV RX11 154 RX0 yX0_keep wsX0_keep) := goodIn_app (goodIn_of _ (by decide +kernel)) ggX11_curtain_X0_keep
theorem dX11_curtain_0 : decode cX11_curtain 0 = .ok (.aload_n 0, 1) := by decide +kernel
theorem dX11_curtain_1 : decode cX11_curtain 1 = .ok (.getfield 25, 3) := by decide +kernel
theorem dX11_curtain_4 : decode cX11_curtain 4 = .ok (.iload_n 1, 1) := by decide +kernel
theorem dX11_curtain_5 : decode cX11_curtain 5 = .ok (.invokevirtual 133, 3) := by decide +kernel
theorem dX11_curtain_8 : decode cX11_curtain 8 = .ok (.ifCond .eq 33, 3) := by decide +kernel
theorem dX11_curtain_11 : decode cX11_curtain 11 = .ok (.aload_n 0, 1) := by decide +kernel
theorem dX11_curtain_12 : decode cX11_curtain 12 = .ok (.getfield 25, 3) := by decide +kernel
theorem dX11_curtain_15 : decode cX11_curtain 15 = .ok (.iload_n 2, 1) := by decide +kernel
theorem dX11_curtain_16 : decode cX11_curtain 16 = .ok (.invokevirtual 133, 3) := by decide +kernel
theorem dX11_curtain_19 : decode cX11_curtain 19 = .ok (.ifCond .eq 22, 3) := by decide +kernel
theorem dX11_curtain_22 : decode cX11_curtain 22 = .ok (.iload_n 3, 1) := by decide +kernel
theorem dX11_curtain_23 : decode cX11_curtain 23 = .ok (.invokestatic 136, 3) := by decide +kernel
theorem dX11_curtain_26 : decode cX11_curtain 26 = .ok (.ifCond .eq 15, 3) := by decide +kernel
theorem dX11_curtain_29 : decode cX11_curtain 29 = .ok (.aload_n 0, 1) := by decide +kernel
theorem dX11_curtain_30 : decode cX11_curtain 30 = .ok (.getfield 25, 3) := by decide +kernel
theorem dX11_curtain_33 : decode cX11_curtain 33 = .ok (.iload_n 1, 1) := by decide +kernel
theorem dX11_curtain_34 : decode cX11_curtain 34 = .ok (.iload_n 2, 1) := by decide +kernel
theorem dX11_curtain_35 : decode cX11_curtain 35 = .ok (.invokevirtual 167, 3) := by decide +kernel
theorem dX11_curtain_38 : decode cX11_curtain 38 = .ok (.ifCond .ne 6, 3) := by decide +kernel
theorem dX11_curtain_41 : decode cX11_curtain 41 = .ok (.ldc 55, 2) := by decide +kernel
theorem dX11_curtain_43 : decode cX11_curtain 43 = .ok (.ireturn, 1) := by decide +kernel
theorem dX11_curtain_44 : decode cX11_curtain 44 = .ok (.aload_n 0, 1) := by decide +kernel
theorem dX11_curtain_45 : decode cX11_curtain 45 = .ok (.getfield 25, 3) := by decide +kernel
theorem dX11_curtain_48 : decode cX11_curtain 48 = .ok (.iload_n 1, 1) := by decide +kernel
theorem dX11_curtain_49 : decode cX11_curtain 49 = .ok (.iload_n 2, 1) := by decide +kernel
theorem dX11_curtain_50 : decode cX11_curtain 50 = .ok (.iload_n 3, 1) := by decide +kernel
theorem dX11_curtain_51 : decode cX11_curtain 51 = .ok (.invokevirtual 170, 3) := by decide +kernel
theorem dX11_curtain_54 : decode cX11_curtain 54 = .ok (.ifCond .eq 6, 3) := by decide +kernel
theorem dX11_curtain_57 : decode cX11_curtain 57 = .ok (.ldc 126, 2) := by decide +kernel
theorem dX11_curtain_59 : decode cX11_curtain 59 = .ok (.ireturn, 1) := by decide +kernel
theorem dX11_curtain_60 : decode cX11_curtain 60 = .ok (.aload_n 0, 1) := by decide +kernel
theorem dX11_curtain_61 : decode cX11_curtain 61 = .ok (.getfield 25, 3) := by decide +kernel
theorem dX11_curtain_64 : decode cX11_curtain 64 = .ok (.iload_n 1, 1) := by decide +kernel
theorem dX11_curtain_65 : decode cX11_curtain 65 = .ok (.iload_n 2, 1) := by decide +kernel
theorem dX11_curtain_66 : decode cX11_curtain 66 = .ok (.iload_n 3, 1) := by decide +kernel
theorem dX11_curtain_67 : decode cX11_curtain 67 = .ok (.invokevirtual 173, 3) := by decide +kernel
theorem dX11_curtain_70 : decode cX11_curtain 70 = .ok (.aload_n 0, 1) := by decide +kernel
theorem dX11_curtain_71 : decode cX11_curtain 71 = .ok (.getfield 39, 3) := by decide +kernel
theorem dX11_curtain_74 : decode cX11_curtain 74 = .ok (.iconst 2, 1) := by decide +kernel
theorem dX11_curtain_75 : decode cX11_curtain 75 = .ok (.iload_n 1, 1) := by decide +kernel
theorem dX11_curtain_76 : decode cX11_curtain 76 = .ok (.iload_n 2, 1) := by decide +kernel
theorem dX11_curtain_77 : decode cX11_curtain 77 = .ok (.iload_n 3, 1) := by decide +kernel
theorem dX11_curtain_78 : decode cX11_curtain 78 = .ok (.iconst 0, 1) := by decide +kernel
theorem dX11_curtain_79 : decode cX11_curtain 79 = .ok (.invokevirtual 154, 3) := by decide +kernel
theorem dX11_curtain_82 : decode cX11_curtain 82 = .ok (.aload_n 0, 1) := by decide +kernel
theorem dX11_curtain_83 : decode cX11_curtain 83 = .ok (.getfield 25, 3) := by decide +kernel
theorem dX11_curtain_86 : decode cX11_curtain 86 = .ok (.getfield 177, 3) := by decide +kernel
theorem dX11_curtain_89 : decode cX11_curtain 89 = .ok (.ireturn, 1) := by decide +kernel
set_option maxRecDepth 20000 in
theorem ggX11_write_X3_stands : GoodIn wsX11_write wsX3_stands := goodIn_r _ [10, 11, 50, 51, 52, 53, 54, 55, 56, 57, 58, 59, 60, 61, 62, 63, 64] (by decide +kernel) (by decide +kernel)
set_option maxRecDepth 20000 in
theorem gX11_write_X3_stands : GoodIn wsX11_write (wsV RX11 180 RX3 yX3_stands wsX3_stands) := goodIn_app (goodIn_of _ (by decide +kernel)) ggX11_write_X3_stands
set_option maxRecDepth 20000 in
theorem ggX11_write_X11_isMinute : GoodIn wsX11_write wsX11_isMinute := goodIn_r _ [15] (by decide +kernel) (by decide +kernel)
set_option maxRecDepth 20000 in
theorem gX11_write_X11_isMinute : GoodIn wsX11_write (va_wsS RX11 136 yX11_isMinute wsX11_isMinute) := goodIn_app (goodIn_of _ (by decide +kernel)) ggX11_write_X11_isMinute
set_option maxRecDepth 20000 in
theorem ggX11_write_X11_has : GoodIn wsX11_write wsX11_has := goodIn_r _ [18] (by decide +kernel) (by decide +kernel)
set_option maxRecDepth 20000 in
theorem gX11_write_X11_has : GoodIn wsX11_write (va_wsS RX11 187 yX11_has wsX11_has) := goodIn_app (goodIn_of _ (by decide +kernel)) ggX11_write_X11_has
set_option maxRecDepth 20000 in
theorem ggX11_write_X0_keep : GoodIn wsX11_write wsX0_keep := goodIn_r _ [23, 24, 25, 26, 27, 28, 29, 30, 31, 32, 33, 34, 65, 66, 67, 68, 69, 70, 71] (by decide +kernel) (by decide +kernel)
set_option maxRecDepth 20000 in
theorem gX11_write_X0_keep : GoodIn wsX11_write (wsV RX11 154 RX0 yX0_keep wsX0_keep) := goodIn_app (goodIn_of _ (by decide +kernel)) ggX11_write_X0_keep
set_option maxRecDepth 20000 in
theorem ggX11_write_J6_bitCount_0f7a4 : GoodIn wsX11_write wsJ6_bitCount_0f7a4 := goodIn_r _ [38, 39, 40, 41] (by decide +kernel) (by decide +kernel)
set_option maxRecDepth 20000 in
theorem gX11_write_J6_bitCount_0f7a4 : GoodIn wsX11_write (va_wsS RX11 190 yJ6_bitCount_0f7a4 wsJ6_bitCount_0f7a4) := goodIn_app (goodIn_of _ (by decide +kernel)) ggX11_write_J6_bitCount_0f7a4
theorem dX11_write_0 : decode cX11_write 0 = .ok (.aload_n 0, 1) := by decide +kernel
theorem dX11_write_1 : decode cX11_write 1 = .ok (.getfield 25, 3) := by decide +kernel
theorem dX11_write_4 : decode cX11_write 4 = .ok (.invokevirtual 180, 3) := by decide +kernel
theorem dX11_write_7 : decode cX11_write 7 = .ok (.ifCond .ne 6, 3) := by decide +kernel
theorem dX11_write_10 : decode cX11_write 10 = .ok (.ldc 126, 2) := by decide +kernel
theorem dX11_write_12 : decode cX11_write 12 = .ok (.ireturn, 1) := by decide +kernel
theorem dX11_write_13 : decode cX11_write 13 = .ok (.iload_n 1, 1) := by decide +kernel
theorem dX11_write_14 : decode cX11_write 14 = .ok (.invokestatic 136, 3) := by decide +kernel
theorem dX11_write_17 : decode cX11_write 17 = .ok (.ifCond .ne 6, 3) := by decide +kernel
theorem dX11_write_20 : decode cX11_write 20 = .ok (.ldc 55, 2) := by decide +kernel
theorem dX11_write_22 : decode cX11_write 22 = .ok (.ireturn, 1) := by decide +kernel
theorem dX11_write_23 : decode cX11_write 23 = .ok (.aload_n 0, 1) := by decide +kernel
theorem dX11_write_24 : decode cX11_write 24 = .ok (.getfield 25, 3) := by decide +kernel
theorem dX11_write_27 : decode cX11_write 27 = .ok (.getfield 184, 3) := by decide +kernel
theorem dX11_write_30 : decode cX11_write 30 = .ok (.iload_n 1, 1) := by decide +kernel
theorem dX11_write_31 : decode cX11_write 31 = .ok (.invokestatic 187, 3) := by decide +kernel
theorem dX11_write_34 : decode cX11_write 34 = .ok (.ifCond .eq 6, 3) := by decide +kernel
theorem dX11_write_37 : decode cX11_write 37 = .ok (.ldc 126, 2) := by decide +kernel
theorem dX11_write_39 : decode cX11_write 39 = .ok (.ireturn, 1) := by decide +kernel
theorem dX11_write_40 : decode cX11_write 40 = .ok (.aload_n 0, 1) := by decide +kernel
theorem dX11_write_41 : decode cX11_write 41 = .ok (.getfield 25, 3) := by decide +kernel
theorem dX11_write_44 : decode cX11_write 44 = .ok (.dup, 1) := by decide +kernel
theorem dX11_write_45 : decode cX11_write 45 = .ok (.getfield 184, 3) := by decide +kernel
theorem dX11_write_48 : decode cX11_write 48 = .ok (.iconst 1, 1) := by decide +kernel
theorem dX11_write_49 : decode cX11_write 49 = .ok (.iload_n 1, 1) := by decide +kernel
theorem dX11_write_50 : decode cX11_write 50 = .ok (.ishl, 1) := by decide +kernel
theorem dX11_write_51 : decode cX11_write 51 = .ok (.ior, 1) := by decide +kernel
theorem dX11_write_52 : decode cX11_write 52 = .ok (.putfield 184, 3) := by decide +kernel
theorem dX11_write_55 : decode cX11_write 55 = .ok (.aload_n 0, 1) := by decide +kernel
theorem dX11_write_56 : decode cX11_write 56 = .ok (.getfield 39, 3) := by decide +kernel
theorem dX11_write_59 : decode cX11_write 59 = .ok (.iconst 3, 1) := by decide +kernel
theorem dX11_write_60 : decode cX11_write 60 = .ok (.iconst 0, 1) := by decide +kernel
theorem dX11_write_61 : decode cX11_write 61 = .ok (.iconst 0, 1) := by decide +kernel
theorem dX11_write_62 : decode cX11_write 62 = .ok (.iload_n 1, 1) := by decide +kernel
theorem dX11_write_63 : decode cX11_write 63 = .ok (.iconst 0, 1) := by decide +kernel
theorem dX11_write_64 : decode cX11_write 64 = .ok (.invokevirtual 154, 3) := by decide +kernel
theorem dX11_write_67 : decode cX11_write 67 = .ok (.aload_n 0, 1) := by decide +kernel
theorem dX11_write_68 : decode cX11_write 68 = .ok (.getfield 25, 3) := by decide +kernel
theorem dX11_write_71 : decode cX11_write 71 = .ok (.getfield 184, 3) := by decide +kernel
theorem dX11_write_74 : decode cX11_write 74 = .ok (.invokestatic 190, 3) := by decide +kernel
theorem dX11_write_77 : decode cX11_write 77 = .ok (.ireturn, 1) := by decide +kernel
set_option maxRecDepth 20000 in
theorem ggX11_visitor_X3_isVisitor : GoodIn wsX11_visitor wsX3_isVisitor := goodIn_r _ [8, 9, 41, 42, 43, 44, 45, 46, 47, 48, 49, 50, 51, 52, 53, 54, 55] (by decide +kernel) (by decide +kernel)
set_option maxRecDepth 20000 in
theorem gX11_visitor_X3_isVisitor : GoodIn wsX11_visitor (wsV RX11 130 RX3 yX3_isVisitor wsX3_isVisitor) := goodIn_app (goodIn_of _ (by decide +kernel)) ggX11_visitor_X3_isVisitor
set_option maxRecDepth 20000 in
theorem ggX11_visitor_X3_seatsOf : GoodIn wsX11_visitor wsX3_seatsOf := goodIn_r _ [13, 14, 41, 42, 43, 44, 45, 46, 47, 48, 49, 50, 51, 52, 53, 54, 55] (by decide +kernel) (by decide +kernel)
set_option maxRecDepth 20000 in
theorem gX11_visitor_X3_seatsOf : GoodIn wsX11_visitor (wsV RX11 195 RX3 yX3_seatsOf wsX3_seatsOf) := goodIn_app (goodIn_of _ (by decide +kernel)) ggX11_visitor_X3_seatsOf
set_option maxRecDepth 20000 in
theorem ggX11_visitor_X3_everLookedBy : GoodIn wsX11_visitor wsX3_everLookedBy := goodIn_r _ [18, 19, 20, 21, 7, 22, 23, 14, 24, 25, 26, 27, 28, 29, 30, 31, 32, 41, 42, 43, 44, 45, 46, 47, 48, 49, 50, 51, 52, 53, 54, 55] (by decide +kernel) (by decide +kernel)
set_option maxRecDepth 20000 in
theorem gX11_visitor_X3_everLookedBy : GoodIn wsX11_visitor (wsV RX11 198 RX3 yX3_everLookedBy wsX3_everLookedBy) := goodIn_app (goodIn_of _ (by decide +kernel)) ggX11_visitor_X3_everLookedBy
theorem dX11_visitor_0 : decode cX11_visitor 0 = .ok (.aload_n 0, 1) := by decide +kernel
theorem dX11_visitor_1 : decode cX11_visitor 1 = .ok (.getfield 25, 3) := by decide +kernel
theorem dX11_visitor_4 : decode cX11_visitor 4 = .ok (.iload_n 1, 1) := by decide +kernel
theorem dX11_visitor_5 : decode cX11_visitor 5 = .ok (.invokevirtual 130, 3) := by decide +kernel
theorem dX11_visitor_8 : decode cX11_visitor 8 = .ok (.ifCond .ne 6, 3) := by decide +kernel
theorem dX11_visitor_11 : decode cX11_visitor 11 = .ok (.ldc 55, 2) := by decide +kernel
theorem dX11_visitor_13 : decode cX11_visitor 13 = .ok (.ireturn, 1) := by decide +kernel
theorem dX11_visitor_14 : decode cX11_visitor 14 = .ok (.iload_n 2, 1) := by decide +kernel
theorem dX11_visitor_15 : decode cX11_visitor 15 = .ok (.tableswitch 53 0 2 #[25, 35, 44], 25) := by decide +kernel
theorem dX11_visitor_40 : decode cX11_visitor 40 = .ok (.aload_n 0, 1) := by decide +kernel
theorem dX11_visitor_41 : decode cX11_visitor 41 = .ok (.getfield 25, 3) := by decide +kernel
theorem dX11_visitor_44 : decode cX11_visitor 44 = .ok (.getfield 164, 3) := by decide +kernel
theorem dX11_visitor_47 : decode cX11_visitor 47 = .ok (.iload_n 1, 1) := by decide +kernel
theorem dX11_visitor_48 : decode cX11_visitor 48 = .ok (.iaload, 1) := by decide +kernel
theorem dX11_visitor_49 : decode cX11_visitor 49 = .ok (.ireturn, 1) := by decide +kernel
theorem dX11_visitor_50 : decode cX11_visitor 50 = .ok (.aload_n 0, 1) := by decide +kernel
theorem dX11_visitor_51 : decode cX11_visitor 51 = .ok (.getfield 25, 3) := by decide +kernel
theorem dX11_visitor_54 : decode cX11_visitor 54 = .ok (.iload_n 1, 1) := by decide +kernel
theorem dX11_visitor_55 : decode cX11_visitor 55 = .ok (.invokevirtual 195, 3) := by decide +kernel
theorem dX11_visitor_58 : decode cX11_visitor 58 = .ok (.ireturn, 1) := by decide +kernel
theorem dX11_visitor_59 : decode cX11_visitor 59 = .ok (.aload_n 0, 1) := by decide +kernel
theorem dX11_visitor_60 : decode cX11_visitor 60 = .ok (.getfield 25, 3) := by decide +kernel
theorem dX11_visitor_63 : decode cX11_visitor 63 = .ok (.iload_n 1, 1) := by decide +kernel
theorem dX11_visitor_64 : decode cX11_visitor 64 = .ok (.invokevirtual 198, 3) := by decide +kernel
theorem dX11_visitor_67 : decode cX11_visitor 67 = .ok (.ireturn, 1) := by decide +kernel
theorem dX11_visitor_68 : decode cX11_visitor 68 = .ok (.ldc 55, 2) := by decide +kernel
theorem dX11_visitor_70 : decode cX11_visitor 70 = .ok (.ireturn, 1) := by decide +kernel
set_option maxRecDepth 20000 in
theorem ggX11_seat_X3_isRoom : GoodIn wsX11_seat wsX3_isRoom := goodIn_r _ [8, 9, 41, 42, 43, 44, 45, 46, 47, 48, 49, 50, 51, 52, 53, 54, 55] (by decide +kernel) (by decide +kernel)
set_option maxRecDepth 20000 in
theorem gX11_seat_X3_isRoom : GoodIn wsX11_seat (wsV RX11 133 RX3 yX3_isRoom wsX3_isRoom) := goodIn_app (goodIn_of _ (by decide +kernel)) ggX11_seat_X3_isRoom
set_option maxRecDepth 20000 in
theorem ggX11_seat_X11_isMinute : GoodIn wsX11_seat wsX11_isMinute := goodIn_r _ [13] (by decide +kernel) (by decide +kernel)
set_option maxRecDepth 20000 in
theorem gX11_seat_X11_isMinute : GoodIn wsX11_seat (va_wsS RX11 136 yX11_isMinute wsX11_isMinute) := goodIn_app (goodIn_of _ (by decide +kernel)) ggX11_seat_X11_isMinute
set_option maxRecDepth 20000 in
theorem ggX11_seat_X3_viewOf : GoodIn wsX11_seat wsX3_viewOf := goodIn_r _ [17, 18, 19, 20, 12, 21, 41, 42, 43, 44, 45, 46, 47, 48, 49, 50, 51, 52, 53, 54, 55] (by decide +kernel) (by decide +kernel)
set_option maxRecDepth 20000 in
theorem gX11_seat_X3_viewOf : GoodIn wsX11_seat (wsV RX11 201 RX3 yX3_viewOf wsX3_viewOf) := goodIn_app (goodIn_of _ (by decide +kernel)) ggX11_seat_X3_viewOf
set_option maxRecDepth 20000 in
theorem ggX11_seat_X11_seatNumber : GoodIn wsX11_seat wsX11_seatNumber := goodIn_r _ [21] (by decide +kernel) (by decide +kernel)
set_option maxRecDepth 20000 in
theorem gX11_seat_X11_seatNumber : GoodIn wsX11_seat (va_wsS RX11 208 yX11_seatNumber wsX11_seatNumber) := goodIn_app (goodIn_of _ (by decide +kernel)) ggX11_seat_X11_seatNumber
set_option maxRecDepth 20000 in
theorem ggX11_seat_X3_peopleIn : GoodIn wsX11_seat wsX3_peopleIn := goodIn_r _ [26, 27, 28, 29, 30, 7, 31, 32, 41, 42, 43, 44, 45, 46, 47, 48, 49, 50, 51, 52, 53, 54, 55] (by decide +kernel) (by decide +kernel)
set_option maxRecDepth 20000 in
theorem gX11_seat_X3_peopleIn : GoodIn wsX11_seat (wsV RX11 211 RX3 yX3_peopleIn wsX3_peopleIn) := goodIn_app (goodIn_of _ (by decide +kernel)) ggX11_seat_X3_peopleIn
theorem dX11_seat_0 : decode cX11_seat 0 = .ok (.aload_n 0, 1) := by decide +kernel
theorem dX11_seat_1 : decode cX11_seat 1 = .ok (.getfield 25, 3) := by decide +kernel
theorem dX11_seat_4 : decode cX11_seat 4 = .ok (.iload_n 1, 1) := by decide +kernel
theorem dX11_seat_5 : decode cX11_seat 5 = .ok (.invokevirtual 133, 3) := by decide +kernel
theorem dX11_seat_8 : decode cX11_seat 8 = .ok (.ifCond .eq 10, 3) := by decide +kernel
theorem dX11_seat_11 : decode cX11_seat 11 = .ok (.iload_n 2, 1) := by decide +kernel
theorem dX11_seat_12 : decode cX11_seat 12 = .ok (.invokestatic 136, 3) := by decide +kernel
theorem dX11_seat_15 : decode cX11_seat 15 = .ok (.ifCond .ne 6, 3) := by decide +kernel
theorem dX11_seat_18 : decode cX11_seat 18 = .ok (.ldc 55, 2) := by decide +kernel
theorem dX11_seat_20 : decode cX11_seat 20 = .ok (.ireturn, 1) := by decide +kernel
theorem dX11_seat_21 : decode cX11_seat 21 = .ok (.iload_n 3, 1) := by decide +kernel
theorem dX11_seat_22 : decode cX11_seat 22 = .ok (.tableswitch 60 0 2 #[26, 36, 50], 26) := by decide +kernel
theorem dX11_seat_48 : decode cX11_seat 48 = .ok (.aload_n 0, 1) := by decide +kernel
theorem dX11_seat_49 : decode cX11_seat 49 = .ok (.getfield 25, 3) := by decide +kernel
theorem dX11_seat_52 : decode cX11_seat 52 = .ok (.iload_n 1, 1) := by decide +kernel
theorem dX11_seat_53 : decode cX11_seat 53 = .ok (.iload_n 2, 1) := by decide +kernel
theorem dX11_seat_54 : decode cX11_seat 54 = .ok (.invokevirtual 201, 3) := by decide +kernel
theorem dX11_seat_57 : decode cX11_seat 57 = .ok (.ireturn, 1) := by decide +kernel
theorem dX11_seat_58 : decode cX11_seat 58 = .ok (.aload_n 0, 1) := by decide +kernel
theorem dX11_seat_59 : decode cX11_seat 59 = .ok (.getfield 25, 3) := by decide +kernel
theorem dX11_seat_62 : decode cX11_seat 62 = .ok (.getfield 205, 3) := by decide +kernel
theorem dX11_seat_65 : decode cX11_seat 65 = .ok (.iload_n 1, 1) := by decide +kernel
theorem dX11_seat_66 : decode cX11_seat 66 = .ok (.iload_n 2, 1) := by decide +kernel
theorem dX11_seat_67 : decode cX11_seat 67 = .ok (.invokestatic 208, 3) := by decide +kernel
theorem dX11_seat_70 : decode cX11_seat 70 = .ok (.iaload, 1) := by decide +kernel
theorem dX11_seat_71 : decode cX11_seat 71 = .ok (.ireturn, 1) := by decide +kernel
theorem dX11_seat_72 : decode cX11_seat 72 = .ok (.aload_n 0, 1) := by decide +kernel
theorem dX11_seat_73 : decode cX11_seat 73 = .ok (.getfield 25, 3) := by decide +kernel
theorem dX11_seat_76 : decode cX11_seat 76 = .ok (.iload_n 1, 1) := by decide +kernel
theorem dX11_seat_77 : decode cX11_seat 77 = .ok (.iload_n 2, 1) := by decide +kernel
theorem dX11_seat_78 : decode cX11_seat 78 = .ok (.invokevirtual 211, 3) := by decide +kernel
theorem dX11_seat_81 : decode cX11_seat 81 = .ok (.ireturn, 1) := by decide +kernel
theorem dX11_seat_82 : decode cX11_seat 82 = .ok (.ldc 55, 2) := by decide +kernel
theorem dX11_seat_84 : decode cX11_seat 84 = .ok (.ireturn, 1) := by decide +kernel
set_option maxRecDepth 20000 in
theorem ggX11_price_X3_isVisitor : GoodIn wsX11_price wsX3_isVisitor := goodIn_r _ [7, 8, 82, 83, 84, 85, 86, 87, 88, 89, 90, 91, 92, 93, 94, 95, 96] (by decide +kernel) (by decide +kernel)
set_option maxRecDepth 20000 in
theorem gX11_price_X3_isVisitor : GoodIn wsX11_price (wsV RX11 130 RX3 yX3_isVisitor wsX3_isVisitor) := goodIn_app (goodIn_of _ (by decide +kernel)) ggX11_price_X3_isVisitor
set_option maxRecDepth 20000 in
theorem ggX11_price_X3_isRoom : GoodIn wsX11_price wsX3_isRoom := goodIn_r _ [12, 13, 82, 83, 84, 85, 86, 87, 88, 89, 90, 91, 92, 93, 94, 95, 96] (by decide +kernel) (by decide +kernel)
set_option maxRecDepth 20000 in
theorem gX11_price_X3_isRoom : GoodIn wsX11_price (wsV RX11 133 RX3 yX3_isRoom wsX3_isRoom) := goodIn_app (goodIn_of _ (by decide +kernel)) ggX11_price_X3_isRoom
set_option maxRecDepth 20000 in
theorem ggX11_price_X11_isMinute : GoodIn wsX11_price wsX11_isMinute := goodIn_r _ [17] (by decide +kernel) (by decide +kernel)
set_option maxRecDepth 20000 in
theorem gX11_price_X11_isMinute : GoodIn wsX11_price (va_wsS RX11 136 yX11_isMinute wsX11_isMinute) := goodIn_app (goodIn_of _ (by decide +kernel)) ggX11_price_X11_isMinute
set_option maxRecDepth 20000 in
theorem ggX11_price_X3_priceFor : GoodIn wsX11_price wsX3_priceFor := goodIn_r _ [21, 22, 23, 24, 25, 26, 27, 28, 29, 30, 31, 16, 32, 33, 34, 35, 6, 36, 37, 38, 39, 40, 41, 42, 43, 44, 45, 46, 47, 48, 49, 50, 51, 52, 53, 54, 55, 56, 57, 58, 59, 60, 61, 62, 63, 64, 65, 66, 67, 68, 69, 70, 71, 72, 73, 82, 83, 84, 85, 86, 87, 88, 89, 90, 91, 92, 93, 94, 95, 96] (by decide +kernel) (by decide +kernel)
set_option maxRecDepth 20000 in
theorem gX11_price_X3_priceFor : GoodIn wsX11_price (wsV RX11 146 RX3 yX3_priceFor wsX3_priceFor) := goodIn_app (goodIn_of _ (by decide +kernel)) ggX11_price_X3_priceFor
theorem dX11_price_0 : decode cX11_price 0 = .ok (.aload_n 0, 1) := by decide +kernel
theorem dX11_price_1 : decode cX11_price 1 = .ok (.getfield 25, 3) := by decide +kernel
theorem dX11_price_4 : decode cX11_price 4 = .ok (.iload_n 1, 1) := by decide +kernel
theorem dX11_price_5 : decode cX11_price 5 = .ok (.invokevirtual 130, 3) := by decide +kernel
theorem dX11_price_8 : decode cX11_price 8 = .ok (.ifCond .eq 21, 3) := by decide +kernel
theorem dX11_price_11 : decode cX11_price 11 = .ok (.aload_n 0, 1) := by decide +kernel
theorem dX11_price_12 : decode cX11_price 12 = .ok (.getfield 25, 3) := by decide +kernel
theorem dX11_price_15 : decode cX11_price 15 = .ok (.iload_n 2, 1) := by decide +kernel
theorem dX11_price_16 : decode cX11_price 16 = .ok (.invokevirtual 133, 3) := by decide +kernel
theorem dX11_price_19 : decode cX11_price 19 = .ok (.ifCond .eq 10, 3) := by decide +kernel
theorem dX11_price_22 : decode cX11_price 22 = .ok (.iload_n 3, 1) := by decide +kernel
theorem dX11_price_23 : decode cX11_price 23 = .ok (.invokestatic 136, 3) := by decide +kernel
theorem dX11_price_26 : decode cX11_price 26 = .ok (.ifCond .ne 6, 3) := by decide +kernel
theorem dX11_price_29 : decode cX11_price 29 = .ok (.ldc 55, 2) := by decide +kernel
theorem dX11_price_31 : decode cX11_price 31 = .ok (.ireturn, 1) := by decide +kernel
theorem dX11_price_32 : decode cX11_price 32 = .ok (.aload_n 0, 1) := by decide +kernel
theorem dX11_price_33 : decode cX11_price 33 = .ok (.getfield 25, 3) := by decide +kernel
theorem dX11_price_36 : decode cX11_price 36 = .ok (.iload_n 1, 1) := by decide +kernel
theorem dX11_price_37 : decode cX11_price 37 = .ok (.iload_n 2, 1) := by decide +kernel
theorem dX11_price_38 : decode cX11_price 38 = .ok (.iload_n 3, 1) := by decide +kernel
theorem dX11_price_39 : decode cX11_price 39 = .ok (.invokevirtual 146, 3) := by decide +kernel
theorem dX11_price_42 : decode cX11_price 42 = .ok (.ireturn, 1) := by decide +kernel
set_option maxRecDepth 20000 in
theorem ggX11_looked_X3_stands : GoodIn wsX11_looked wsX3_stands := goodIn_r _ [8, 9, 40, 41, 42, 43, 44, 45, 46, 47, 48, 49, 50, 51, 52, 53, 54] (by decide +kernel) (by decide +kernel)
set_option maxRecDepth 20000 in
theorem gX11_looked_X3_stands : GoodIn wsX11_looked (wsV RX11 180 RX3 yX3_stands wsX3_stands) := goodIn_app (goodIn_of _ (by decide +kernel)) ggX11_looked_X3_stands
set_option maxRecDepth 20000 in
theorem ggX11_looked_X3_isVisitorSet : GoodIn wsX11_looked wsX3_isVisitorSet := goodIn_r _ [13, 14, 40, 41, 42, 43, 44, 45, 46, 47, 48, 49, 50, 51, 52, 53, 54] (by decide +kernel) (by decide +kernel)
set_option maxRecDepth 20000 in
theorem gX11_looked_X3_isVisitorSet : GoodIn wsX11_looked (wsV RX11 214 RX3 yX3_isVisitorSet wsX3_isVisitorSet) := goodIn_app (goodIn_of _ (by decide +kernel)) ggX11_looked_X3_isVisitorSet
set_option maxRecDepth 20000 in
theorem ggX11_looked_X11_isMinute : GoodIn wsX11_looked wsX11_isMinute := goodIn_r _ [18] (by decide +kernel) (by decide +kernel)
set_option maxRecDepth 20000 in
theorem gX11_looked_X11_isMinute : GoodIn wsX11_looked (va_wsS RX11 136 yX11_isMinute wsX11_isMinute) := goodIn_app (goodIn_of _ (by decide +kernel)) ggX11_looked_X11_isMinute
set_option maxRecDepth 20000 in
theorem ggX11_looked_X3_lookedBy : GoodIn wsX11_looked wsX3_lookedBy := goodIn_r _ [22, 9, 23, 24, 17, 25, 26, 27, 28, 7, 29, 30, 31, 40, 41, 42, 43, 44, 45, 46, 47, 48, 49, 50, 51, 52, 53, 54] (by decide +kernel) (by decide +kernel)
set_option maxRecDepth 20000 in
theorem gX11_looked_X3_lookedBy : GoodIn wsX11_looked (wsV RX11 217 RX3 yX3_lookedBy wsX3_lookedBy) := goodIn_app (goodIn_of _ (by decide +kernel)) ggX11_looked_X3_lookedBy
theorem dX11_looked_0 : decode cX11_looked 0 = .ok (.aload_n 0, 1) := by decide +kernel
theorem dX11_looked_1 : decode cX11_looked 1 = .ok (.getfield 25, 3) := by decide +kernel
theorem dX11_looked_4 : decode cX11_looked 4 = .ok (.invokevirtual 180, 3) := by decide +kernel
theorem dX11_looked_7 : decode cX11_looked 7 = .ok (.ifCond .ne 6, 3) := by decide +kernel
theorem dX11_looked_10 : decode cX11_looked 10 = .ok (.ldc 126, 2) := by decide +kernel
theorem dX11_looked_12 : decode cX11_looked 12 = .ok (.ireturn, 1) := by decide +kernel
theorem dX11_looked_13 : decode cX11_looked 13 = .ok (.aload_n 0, 1) := by decide +kernel
theorem dX11_looked_14 : decode cX11_looked 14 = .ok (.getfield 25, 3) := by decide +kernel
theorem dX11_looked_17 : decode cX11_looked 17 = .ok (.iload_n 1, 1) := by decide +kernel
theorem dX11_looked_18 : decode cX11_looked 18 = .ok (.invokevirtual 214, 3) := by decide +kernel
theorem dX11_looked_21 : decode cX11_looked 21 = .ok (.ifCond .eq 10, 3) := by decide +kernel
theorem dX11_looked_24 : decode cX11_looked 24 = .ok (.iload_n 2, 1) := by decide +kernel
theorem dX11_looked_25 : decode cX11_looked 25 = .ok (.invokestatic 136, 3) := by decide +kernel
theorem dX11_looked_28 : decode cX11_looked 28 = .ok (.ifCond .ne 6, 3) := by decide +kernel
theorem dX11_looked_31 : decode cX11_looked 31 = .ok (.ldc 55, 2) := by decide +kernel
theorem dX11_looked_33 : decode cX11_looked 33 = .ok (.ireturn, 1) := by decide +kernel
theorem dX11_looked_34 : decode cX11_looked 34 = .ok (.aload_n 0, 1) := by decide +kernel
theorem dX11_looked_35 : decode cX11_looked 35 = .ok (.getfield 25, 3) := by decide +kernel
theorem dX11_looked_38 : decode cX11_looked 38 = .ok (.iload_n 1, 1) := by decide +kernel
theorem dX11_looked_39 : decode cX11_looked 39 = .ok (.iload_n 2, 1) := by decide +kernel
theorem dX11_looked_40 : decode cX11_looked 40 = .ok (.invokevirtual 217, 3) := by decide +kernel
theorem dX11_looked_43 : decode cX11_looked 43 = .ok (.ireturn, 1) := by decide +kernel
set_option maxRecDepth 20000 in
theorem ggX11_seen_X3_isVisitorSet : GoodIn wsX11_seen wsX3_isVisitorSet := goodIn_r _ [7, 8, 52, 53, 54, 55, 56, 57, 58, 59, 60, 61, 62, 63, 64, 65, 66] (by decide +kernel) (by decide +kernel)
set_option maxRecDepth 20000 in
theorem gX11_seen_X3_isVisitorSet : GoodIn wsX11_seen (wsV RX11 214 RX3 yX3_isVisitorSet wsX3_isVisitorSet) := goodIn_app (goodIn_of _ (by decide +kernel)) ggX11_seen_X3_isVisitorSet
set_option maxRecDepth 20000 in
theorem ggX11_seen_X3_isPerson : GoodIn wsX11_seen wsX3_isPerson := goodIn_r _ [12, 13, 52, 53, 54, 55, 56, 57, 58, 59, 60, 61, 62, 63, 64, 65, 66] (by decide +kernel) (by decide +kernel)
set_option maxRecDepth 20000 in
theorem gX11_seen_X3_isPerson : GoodIn wsX11_seen (wsV RX11 220 RX3 yX3_isPerson wsX3_isPerson) := goodIn_app (goodIn_of _ (by decide +kernel)) ggX11_seen_X3_isPerson
set_option maxRecDepth 20000 in
theorem ggX11_seen_X11_isMinute : GoodIn wsX11_seen wsX11_isMinute := goodIn_r _ [17] (by decide +kernel) (by decide +kernel)
set_option maxRecDepth 20000 in
theorem gX11_seen_X11_isMinute : GoodIn wsX11_seen (va_wsS RX11 136 yX11_isMinute wsX11_isMinute) := goodIn_app (goodIn_of _ (by decide +kernel)) ggX11_seen_X11_isMinute
set_option maxRecDepth 20000 in
theorem ggX11_seen_X3_seenBy : GoodIn wsX11_seen wsX3_seenBy := goodIn_r _ [21, 22, 23, 24, 25, 6, 26, 27, 28, 29, 30, 31, 32, 33, 34, 16, 35, 36, 37, 38, 39, 40, 41, 42, 43, 52, 53, 54, 55, 56, 57, 58, 59, 60, 61, 62, 63, 64, 65, 66] (by decide +kernel) (by decide +kernel)
set_option maxRecDepth 20000 in
theorem gX11_seen_X3_seenBy : GoodIn wsX11_seen (wsV RX11 223 RX3 yX3_seenBy wsX3_seenBy) := goodIn_app (goodIn_of _ (by decide +kernel)) ggX11_seen_X3_seenBy
theorem dX11_seen_0 : decode cX11_seen 0 = .ok (.aload_n 0, 1) := by decide +kernel
theorem dX11_seen_1 : decode cX11_seen 1 = .ok (.getfield 25, 3) := by decide +kernel
theorem dX11_seen_4 : decode cX11_seen 4 = .ok (.iload_n 1, 1) := by decide +kernel
theorem dX11_seen_5 : decode cX11_seen 5 = .ok (.invokevirtual 214, 3) := by decide +kernel
theorem dX11_seen_8 : decode cX11_seen 8 = .ok (.ifCond .eq 21, 3) := by decide +kernel
theorem dX11_seen_11 : decode cX11_seen 11 = .ok (.aload_n 0, 1) := by decide +kernel
theorem dX11_seen_12 : decode cX11_seen 12 = .ok (.getfield 25, 3) := by decide +kernel
theorem dX11_seen_15 : decode cX11_seen 15 = .ok (.iload_n 2, 1) := by decide +kernel
theorem dX11_seen_16 : decode cX11_seen 16 = .ok (.invokevirtual 220, 3) := by decide +kernel
theorem dX11_seen_19 : decode cX11_seen 19 = .ok (.ifCond .eq 10, 3) := by decide +kernel
theorem dX11_seen_22 : decode cX11_seen 22 = .ok (.iload_n 3, 1) := by decide +kernel
theorem dX11_seen_23 : decode cX11_seen 23 = .ok (.invokestatic 136, 3) := by decide +kernel
theorem dX11_seen_26 : decode cX11_seen 26 = .ok (.ifCond .ne 6, 3) := by decide +kernel
theorem dX11_seen_29 : decode cX11_seen 29 = .ok (.ldc 55, 2) := by decide +kernel
theorem dX11_seen_31 : decode cX11_seen 31 = .ok (.ireturn, 1) := by decide +kernel
theorem dX11_seen_32 : decode cX11_seen 32 = .ok (.aload_n 0, 1) := by decide +kernel
theorem dX11_seen_33 : decode cX11_seen 33 = .ok (.getfield 25, 3) := by decide +kernel
theorem dX11_seen_36 : decode cX11_seen 36 = .ok (.iload_n 1, 1) := by decide +kernel
theorem dX11_seen_37 : decode cX11_seen 37 = .ok (.iload_n 2, 1) := by decide +kernel
theorem dX11_seen_38 : decode cX11_seen 38 = .ok (.iload_n 3, 1) := by decide +kernel
theorem dX11_seen_39 : decode cX11_seen 39 = .ok (.invokevirtual 223, 3) := by decide +kernel
theorem dX11_seen_42 : decode cX11_seen 42 = .ok (.ireturn, 1) := by decide +kernel
set_option maxRecDepth 20000 in
theorem ggX11_known_X3_isVisitorSet : GoodIn wsX11_known wsX3_isVisitorSet := goodIn_r _ [7, 8, 53, 54, 55, 56, 57, 58, 59, 60, 61, 62, 63, 64, 65, 66, 67] (by decide +kernel) (by decide +kernel)
set_option maxRecDepth 20000 in
theorem gX11_known_X3_isVisitorSet : GoodIn wsX11_known (wsV RX11 214 RX3 yX3_isVisitorSet wsX3_isVisitorSet) := goodIn_app (goodIn_of _ (by decide +kernel)) ggX11_known_X3_isVisitorSet
set_option maxRecDepth 20000 in
theorem ggX11_known_X3_isPerson : GoodIn wsX11_known wsX3_isPerson := goodIn_r _ [12, 13, 53, 54, 55, 56, 57, 58, 59, 60, 61, 62, 63, 64, 65, 66, 67] (by decide +kernel) (by decide +kernel)
set_option maxRecDepth 20000 in
theorem gX11_known_X3_isPerson : GoodIn wsX11_known (wsV RX11 220 RX3 yX3_isPerson wsX3_isPerson) := goodIn_app (goodIn_of _ (by decide +kernel)) ggX11_known_X3_isPerson
set_option maxRecDepth 20000 in
theorem ggX11_known_X3_minutesSeen : GoodIn wsX11_known wsX3_minutesSeen := goodIn_r _ [17, 18, 19, 20, 21, 6, 22, 23, 24, 25, 26, 27, 28, 29, 30, 31, 32, 33, 34, 35, 36, 37, 38, 39, 40, 41, 42, 43, 44, 53, 54, 55, 56, 57, 58, 59, 60, 61, 62, 63, 64, 65, 66, 67] (by decide +kernel) (by decide +kernel)
set_option maxRecDepth 20000 in
theorem gX11_known_X3_minutesSeen : GoodIn wsX11_known (wsV RX11 226 RX3 yX3_minutesSeen wsX3_minutesSeen) := goodIn_app (goodIn_of _ (by decide +kernel)) ggX11_known_X3_minutesSeen
theorem dX11_known_0 : decode cX11_known 0 = .ok (.aload_n 0, 1) := by decide +kernel
theorem dX11_known_1 : decode cX11_known 1 = .ok (.getfield 25, 3) := by decide +kernel
theorem dX11_known_4 : decode cX11_known 4 = .ok (.iload_n 1, 1) := by decide +kernel
theorem dX11_known_5 : decode cX11_known 5 = .ok (.invokevirtual 214, 3) := by decide +kernel
theorem dX11_known_8 : decode cX11_known 8 = .ok (.ifCond .eq 14, 3) := by decide +kernel
theorem dX11_known_11 : decode cX11_known 11 = .ok (.aload_n 0, 1) := by decide +kernel
theorem dX11_known_12 : decode cX11_known 12 = .ok (.getfield 25, 3) := by decide +kernel
theorem dX11_known_15 : decode cX11_known 15 = .ok (.iload_n 2, 1) := by decide +kernel
theorem dX11_known_16 : decode cX11_known 16 = .ok (.invokevirtual 220, 3) := by decide +kernel
theorem dX11_known_19 : decode cX11_known 19 = .ok (.ifCond .ne 6, 3) := by decide +kernel
theorem dX11_known_22 : decode cX11_known 22 = .ok (.ldc 55, 2) := by decide +kernel
theorem dX11_known_24 : decode cX11_known 24 = .ok (.ireturn, 1) := by decide +kernel
theorem dX11_known_25 : decode cX11_known 25 = .ok (.aload_n 0, 1) := by decide +kernel
theorem dX11_known_26 : decode cX11_known 26 = .ok (.getfield 25, 3) := by decide +kernel
theorem dX11_known_29 : decode cX11_known 29 = .ok (.iload_n 1, 1) := by decide +kernel
theorem dX11_known_30 : decode cX11_known 30 = .ok (.iload_n 2, 1) := by decide +kernel
theorem dX11_known_31 : decode cX11_known 31 = .ok (.invokevirtual 226, 3) := by decide +kernel
theorem dX11_known_34 : decode cX11_known 34 = .ok (.ireturn, 1) := by decide +kernel
set_option maxRecDepth 20000 in
theorem ggX11_canBe_X3_isVisitorSet : GoodIn wsX11_canBe wsX3_isVisitorSet := goodIn_r _ [7, 8, 55, 56, 57, 58, 59, 60, 61, 62, 63, 64, 65, 66, 67, 68, 69] (by decide +kernel) (by decide +kernel)
set_option maxRecDepth 20000 in
theorem gX11_canBe_X3_isVisitorSet : GoodIn wsX11_canBe (wsV RX11 214 RX3 yX3_isVisitorSet wsX3_isVisitorSet) := goodIn_app (goodIn_of _ (by decide +kernel)) ggX11_canBe_X3_isVisitorSet
set_option maxRecDepth 20000 in
theorem ggX11_canBe_X3_isPerson : GoodIn wsX11_canBe wsX3_isPerson := goodIn_r _ [12, 13, 55, 56, 57, 58, 59, 60, 61, 62, 63, 64, 65, 66, 67, 68, 69] (by decide +kernel) (by decide +kernel)
set_option maxRecDepth 20000 in
theorem gX11_canBe_X3_isPerson : GoodIn wsX11_canBe (wsV RX11 220 RX3 yX3_isPerson wsX3_isPerson) := goodIn_app (goodIn_of _ (by decide +kernel)) ggX11_canBe_X3_isPerson
set_option maxRecDepth 20000 in
theorem ggX11_canBe_X3_isRoom : GoodIn wsX11_canBe wsX3_isRoom := goodIn_r _ [17, 18, 55, 56, 57, 58, 59, 60, 61, 62, 63, 64, 65, 66, 67, 68, 69] (by decide +kernel) (by decide +kernel)
set_option maxRecDepth 20000 in
theorem gX11_canBe_X3_isRoom : GoodIn wsX11_canBe (wsV RX11 133 RX3 yX3_isRoom wsX3_isRoom) := goodIn_app (goodIn_of _ (by decide +kernel)) ggX11_canBe_X3_isRoom
set_option maxRecDepth 20000 in
theorem ggX11_canBe_X11_isMinute : GoodIn wsX11_canBe wsX11_isMinute := goodIn_r _ [22] (by decide +kernel) (by decide +kernel)
set_option maxRecDepth 20000 in
theorem gX11_canBe_X11_isMinute : GoodIn wsX11_canBe (va_wsS RX11 136 yX11_isMinute wsX11_isMinute) := goodIn_app (goodIn_of _ (by decide +kernel)) ggX11_canBe_X11_isMinute
set_option maxRecDepth 20000 in
theorem ggX11_canBe_X3_canBeIn : GoodIn wsX11_canBe wsX3_canBeIn := goodIn_r _ [26, 27, 28, 29, 6, 30, 18, 31, 32, 21, 33, 34, 35, 36, 37, 38, 39, 40, 41, 42, 43, 44, 45, 46, 55, 56, 57, 58, 59, 60, 61, 62, 63, 64, 65, 66, 67, 68, 69] (by decide +kernel) (by decide +kernel)
set_option maxRecDepth 20000 in
theorem gX11_canBe_X3_canBeIn : GoodIn wsX11_canBe (wsV RX11 229 RX3 yX3_canBeIn wsX3_canBeIn) := goodIn_app (goodIn_of _ (by decide +kernel)) ggX11_canBe_X3_canBeIn
theorem dX11_canBe_0 : decode cX11_canBe 0 = .ok (.aload_n 0, 1) := by decide +kernel
theorem dX11_canBe_1 : decode cX11_canBe 1 = .ok (.getfield 25, 3) := by decide +kernel
theorem dX11_canBe_4 : decode cX11_canBe 4 = .ok (.iload_n 1, 1) := by decide +kernel
theorem dX11_canBe_5 : decode cX11_canBe 5 = .ok (.invokevirtual 214, 3) := by decide +kernel
theorem dX11_canBe_8 : decode cX11_canBe 8 = .ok (.ifCond .eq 14, 3) := by decide +kernel
theorem dX11_canBe_11 : decode cX11_canBe 11 = .ok (.aload_n 0, 1) := by decide +kernel
theorem dX11_canBe_12 : decode cX11_canBe 12 = .ok (.getfield 25, 3) := by decide +kernel
theorem dX11_canBe_15 : decode cX11_canBe 15 = .ok (.iload_n 2, 1) := by decide +kernel
theorem dX11_canBe_16 : decode cX11_canBe 16 = .ok (.invokevirtual 220, 3) := by decide +kernel
theorem dX11_canBe_19 : decode cX11_canBe 19 = .ok (.ifCond .ne 6, 3) := by decide +kernel
theorem dX11_canBe_22 : decode cX11_canBe 22 = .ok (.ldc 55, 2) := by decide +kernel
theorem dX11_canBe_24 : decode cX11_canBe 24 = .ok (.ireturn, 1) := by decide +kernel
theorem dX11_canBe_25 : decode cX11_canBe 25 = .ok (.aload_n 0, 1) := by decide +kernel
theorem dX11_canBe_26 : decode cX11_canBe 26 = .ok (.getfield 25, 3) := by decide +kernel
theorem dX11_canBe_29 : decode cX11_canBe 29 = .ok (.iload_n 3, 1) := by decide +kernel
theorem dX11_canBe_30 : decode cX11_canBe 30 = .ok (.invokevirtual 133, 3) := by decide +kernel
theorem dX11_canBe_33 : decode cX11_canBe 33 = .ok (.ifCond .eq 11, 3) := by decide +kernel
theorem dX11_canBe_36 : decode cX11_canBe 36 = .ok (.iload 4, 2) := by decide +kernel
theorem dX11_canBe_38 : decode cX11_canBe 38 = .ok (.invokestatic 136, 3) := by decide +kernel
theorem dX11_canBe_41 : decode cX11_canBe 41 = .ok (.ifCond .ne 6, 3) := by decide +kernel
theorem dX11_canBe_44 : decode cX11_canBe 44 = .ok (.ldc 55, 2) := by decide +kernel
theorem dX11_canBe_46 : decode cX11_canBe 46 = .ok (.ireturn, 1) := by decide +kernel
theorem dX11_canBe_47 : decode cX11_canBe 47 = .ok (.aload_n 0, 1) := by decide +kernel
theorem dX11_canBe_48 : decode cX11_canBe 48 = .ok (.getfield 25, 3) := by decide +kernel
theorem dX11_canBe_51 : decode cX11_canBe 51 = .ok (.iload_n 1, 1) := by decide +kernel
theorem dX11_canBe_52 : decode cX11_canBe 52 = .ok (.iload_n 2, 1) := by decide +kernel
theorem dX11_canBe_53 : decode cX11_canBe 53 = .ok (.iload_n 3, 1) := by decide +kernel
theorem dX11_canBe_54 : decode cX11_canBe 54 = .ok (.iload 4, 2) := by decide +kernel
theorem dX11_canBe_56 : decode cX11_canBe 56 = .ok (.invokevirtual 229, 3) := by decide +kernel
theorem dX11_canBe_59 : decode cX11_canBe 59 = .ok (.ifCond .eq 7, 3) := by decide +kernel
theorem dX11_canBe_62 : decode cX11_canBe 62 = .ok (.iconst 1, 1) := by decide +kernel
theorem dX11_canBe_63 : decode cX11_canBe 63 = .ok (.goto 4, 3) := by decide +kernel
theorem dX11_canBe_66 : decode cX11_canBe 66 = .ok (.iconst 0, 1) := by decide +kernel
theorem dX11_canBe_67 : decode cX11_canBe 67 = .ok (.ireturn, 1) := by decide +kernel
set_option maxRecDepth 20000 in
theorem ggX11_suspects_X3_stands : GoodIn wsX11_suspects wsX3_stands := goodIn_r _ [8, 9, 60, 61, 62, 63, 64, 65, 66, 67, 68, 69, 70, 71, 72, 73, 74] (by decide +kernel) (by decide +kernel)
set_option maxRecDepth 20000 in
theorem gX11_suspects_X3_stands : GoodIn wsX11_suspects (wsV RX11 180 RX3 yX3_stands wsX3_stands) := goodIn_app (goodIn_of _ (by decide +kernel)) ggX11_suspects_X3_stands
set_option maxRecDepth 20000 in
theorem ggX11_suspects_X3_isVisitorSet : GoodIn wsX11_suspects wsX3_isVisitorSet := goodIn_r _ [13, 14, 60, 61, 62, 63, 64, 65, 66, 67, 68, 69, 70, 71, 72, 73, 74] (by decide +kernel) (by decide +kernel)
set_option maxRecDepth 20000 in
theorem gX11_suspects_X3_isVisitorSet : GoodIn wsX11_suspects (wsV RX11 214 RX3 yX3_isVisitorSet wsX3_isVisitorSet) := goodIn_app (goodIn_of _ (by decide +kernel)) ggX11_suspects_X3_isVisitorSet
set_option maxRecDepth 20000 in
theorem ggX11_suspects_X3_isRoom : GoodIn wsX11_suspects wsX3_isRoom := goodIn_r _ [18, 9, 60, 61, 62, 63, 64, 65, 66, 67, 68, 69, 70, 71, 72, 73, 74] (by decide +kernel) (by decide +kernel)
set_option maxRecDepth 20000 in
theorem gX11_suspects_X3_isRoom : GoodIn wsX11_suspects (wsV RX11 133 RX3 yX3_isRoom wsX3_isRoom) := goodIn_app (goodIn_of _ (by decide +kernel)) ggX11_suspects_X3_isRoom
set_option maxRecDepth 20000 in
theorem ggX11_suspects_X11_isMinuteSet : GoodIn wsX11_suspects wsX11_isMinuteSet := goodIn_r _ [22] (by decide +kernel) (by decide +kernel)
set_option maxRecDepth 20000 in
theorem gX11_suspects_X11_isMinuteSet : GoodIn wsX11_suspects (va_wsS RX11 233 yX11_isMinuteSet wsX11_isMinuteSet) := goodIn_app (goodIn_of _ (by decide +kernel)) ggX11_suspects_X11_isMinuteSet
set_option maxRecDepth 20000 in
theorem ggX11_suspects_X3_suspectsBy : GoodIn wsX11_suspects wsX3_suspectsBy := goodIn_r _ [26, 27, 28, 21, 29, 30, 31, 32, 7, 33, 34, 35, 36, 37, 9, 38, 39, 40, 41, 42, 43, 44, 45, 46, 47, 48, 49, 50, 51, 60, 61, 62, 63, 64, 65, 66, 67, 68, 69, 70, 71, 72, 73, 74] (by decide +kernel) (by decide +kernel)
set_option maxRecDepth 20000 in
theorem gX11_suspects_X3_suspectsBy : GoodIn wsX11_suspects (wsV RX11 236 RX3 yX3_suspectsBy wsX3_suspectsBy) := goodIn_app (goodIn_of _ (by decide +kernel)) ggX11_suspects_X3_suspectsBy
theorem dX11_suspects_0 : decode cX11_suspects 0 = .ok (.aload_n 0, 1) := by decide +kernel
theorem dX11_suspects_1 : decode cX11_suspects 1 = .ok (.getfield 25, 3) := by decide +kernel
theorem dX11_suspects_4 : decode cX11_suspects 4 = .ok (.invokevirtual 180, 3) := by decide +kernel
theorem dX11_suspects_7 : decode cX11_suspects 7 = .ok (.ifCond .ne 6, 3) := by decide +kernel
theorem dX11_suspects_10 : decode cX11_suspects 10 = .ok (.ldc 126, 2) := by decide +kernel
theorem dX11_suspects_12 : decode cX11_suspects 12 = .ok (.ireturn, 1) := by decide +kernel
theorem dX11_suspects_13 : decode cX11_suspects 13 = .ok (.aload_n 0, 1) := by decide +kernel
theorem dX11_suspects_14 : decode cX11_suspects 14 = .ok (.getfield 25, 3) := by decide +kernel
theorem dX11_suspects_17 : decode cX11_suspects 17 = .ok (.iload_n 1, 1) := by decide +kernel
theorem dX11_suspects_18 : decode cX11_suspects 18 = .ok (.invokevirtual 214, 3) := by decide +kernel
theorem dX11_suspects_21 : decode cX11_suspects 21 = .ok (.ifCond .eq 21, 3) := by decide +kernel
theorem dX11_suspects_24 : decode cX11_suspects 24 = .ok (.aload_n 0, 1) := by decide +kernel
theorem dX11_suspects_25 : decode cX11_suspects 25 = .ok (.getfield 25, 3) := by decide +kernel
theorem dX11_suspects_28 : decode cX11_suspects 28 = .ok (.iload_n 2, 1) := by decide +kernel
theorem dX11_suspects_29 : decode cX11_suspects 29 = .ok (.invokevirtual 133, 3) := by decide +kernel
theorem dX11_suspects_32 : decode cX11_suspects 32 = .ok (.ifCond .eq 10, 3) := by decide +kernel
theorem dX11_suspects_35 : decode cX11_suspects 35 = .ok (.iload_n 3, 1) := by decide +kernel
theorem dX11_suspects_36 : decode cX11_suspects 36 = .ok (.invokestatic 233, 3) := by decide +kernel
theorem dX11_suspects_39 : decode cX11_suspects 39 = .ok (.ifCond .ne 6, 3) := by decide +kernel
theorem dX11_suspects_42 : decode cX11_suspects 42 = .ok (.ldc 55, 2) := by decide +kernel
theorem dX11_suspects_44 : decode cX11_suspects 44 = .ok (.ireturn, 1) := by decide +kernel
theorem dX11_suspects_45 : decode cX11_suspects 45 = .ok (.aload_n 0, 1) := by decide +kernel
theorem dX11_suspects_46 : decode cX11_suspects 46 = .ok (.getfield 25, 3) := by decide +kernel
theorem dX11_suspects_49 : decode cX11_suspects 49 = .ok (.iload_n 1, 1) := by decide +kernel
theorem dX11_suspects_50 : decode cX11_suspects 50 = .ok (.iload_n 2, 1) := by decide +kernel
theorem dX11_suspects_51 : decode cX11_suspects 51 = .ok (.iload_n 3, 1) := by decide +kernel
theorem dX11_suspects_52 : decode cX11_suspects 52 = .ok (.invokevirtual 236, 3) := by decide +kernel
theorem dX11_suspects_55 : decode cX11_suspects 55 = .ok (.ireturn, 1) := by decide +kernel
set_option maxRecDepth 20000 in
theorem ggX11_settled_X3_stands : GoodIn wsX11_settled wsX3_stands := goodIn_r _ [8, 9, 48, 49, 50, 51, 52, 53, 54, 55, 56, 57, 58, 59, 60, 61, 62] (by decide +kernel) (by decide +kernel)
set_option maxRecDepth 20000 in
theorem gX11_settled_X3_stands : GoodIn wsX11_settled (wsV RX11 180 RX3 yX3_stands wsX3_stands) := goodIn_app (goodIn_of _ (by decide +kernel)) ggX11_settled_X3_stands
set_option maxRecDepth 20000 in
theorem ggX11_settled_X11_isMinute : GoodIn wsX11_settled wsX11_isMinute := goodIn_r _ [13] (by decide +kernel) (by decide +kernel)
set_option maxRecDepth 20000 in
theorem gX11_settled_X11_isMinute : GoodIn wsX11_settled (va_wsS RX11 136 yX11_isMinute wsX11_isMinute) := goodIn_app (goodIn_of _ (by decide +kernel)) ggX11_settled_X11_isMinute
set_option maxRecDepth 20000 in
theorem ggX11_settled_X3_fewestSettling : GoodIn wsX11_settled wsX3_fewestSettling := goodIn_r _ [17, 18, 9, 19, 20, 21, 22, 23, 24, 25, 26, 27, 28, 7, 29, 30, 12, 31, 32, 33, 34, 35, 36, 37, 38, 39, 48, 49, 50, 51, 52, 53, 54, 55, 56, 57, 58, 59, 60, 61, 62] (by decide +kernel) (by decide +kernel)
set_option maxRecDepth 20000 in
theorem gX11_settled_X3_fewestSettling : GoodIn wsX11_settled (wsV RX11 239 RX3 yX3_fewestSettling wsX3_fewestSettling) := goodIn_app (goodIn_of _ (by decide +kernel)) ggX11_settled_X3_fewestSettling
theorem dX11_settled_0 : decode cX11_settled 0 = .ok (.aload_n 0, 1) := by decide +kernel
theorem dX11_settled_1 : decode cX11_settled 1 = .ok (.getfield 25, 3) := by decide +kernel
theorem dX11_settled_4 : decode cX11_settled 4 = .ok (.invokevirtual 180, 3) := by decide +kernel
theorem dX11_settled_7 : decode cX11_settled 7 = .ok (.ifCond .ne 6, 3) := by decide +kernel
theorem dX11_settled_10 : decode cX11_settled 10 = .ok (.ldc 126, 2) := by decide +kernel
theorem dX11_settled_12 : decode cX11_settled 12 = .ok (.ireturn, 1) := by decide +kernel
theorem dX11_settled_13 : decode cX11_settled 13 = .ok (.iload_n 1, 1) := by decide +kernel
theorem dX11_settled_14 : decode cX11_settled 14 = .ok (.invokestatic 136, 3) := by decide +kernel
theorem dX11_settled_17 : decode cX11_settled 17 = .ok (.ifCond .ne 6, 3) := by decide +kernel
theorem dX11_settled_20 : decode cX11_settled 20 = .ok (.ldc 55, 2) := by decide +kernel
theorem dX11_settled_22 : decode cX11_settled 22 = .ok (.ireturn, 1) := by decide +kernel
theorem dX11_settled_23 : decode cX11_settled 23 = .ok (.aload_n 0, 1) := by decide +kernel
theorem dX11_settled_24 : decode cX11_settled 24 = .ok (.getfield 25, 3) := by decide +kernel
theorem dX11_settled_27 : decode cX11_settled 27 = .ok (.iload_n 1, 1) := by decide +kernel
theorem dX11_settled_28 : decode cX11_settled 28 = .ok (.invokevirtual 239, 3) := by decide +kernel
theorem dX11_settled_31 : decode cX11_settled 31 = .ok (.ireturn, 1) := by decide +kernel
set_option maxRecDepth 20000 in
theorem ggX11_cheapest_X3_isVisitor : GoodIn wsX11_cheapest wsX3_isVisitor := goodIn_r _ [8, 9, 108, 109, 110, 111, 112, 113, 114, 115, 116, 117, 118, 119, 120, 121, 122] (by decide +kernel) (by decide +kernel)
set_option maxRecDepth 20000 in
theorem gX11_cheapest_X3_isVisitor : GoodIn wsX11_cheapest (wsV RX11 130 RX3 yX3_isVisitor wsX3_isVisitor) := goodIn_app (goodIn_of _ (by decide +kernel)) ggX11_cheapest_X3_isVisitor
set_option maxRecDepth 20000 in
theorem ggX11_cheapest_X11_isMinute : GoodIn wsX11_cheapest wsX11_isMinute := goodIn_r _ [13] (by decide +kernel) (by decide +kernel)
set_option maxRecDepth 20000 in
theorem gX11_cheapest_X11_isMinute : GoodIn wsX11_cheapest (va_wsS RX11 136 yX11_isMinute wsX11_isMinute) := goodIn_app (goodIn_of _ (by decide +kernel)) ggX11_cheapest_X11_isMinute
set_option maxRecDepth 20000 in
theorem ggX11_cheapest_X3_cheapestSettling : GoodIn wsX11_cheapest wsX3_cheapestSettling := goodIn_r _ [17, 18, 19, 20, 21, 22, 7, 23, 24, 12, 25, 26, 27, 28, 29, 30, 31, 32, 33, 34, 35, 36, 37, 38, 39, 40, 41, 42, 43, 44, 45, 46, 47, 48, 49, 50, 51, 52, 53, 54, 55, 56, 57, 58, 59, 60, 61, 62, 63, 64, 65, 66, 67, 68, 69, 70, 71, 72, 73, 74, 75, 76, 77, 78, 79, 80, 81, 82, 83, 84, 85, 86, 87, 88, 89, 90, 91, 92, 93, 94, 95, 96, 97, 98, 108, 109, 110, 111, 112, 113, 114, 115, 116, 117, 118, 119, 120, 121, 122] (by decide +kernel) (by decide +kernel)
set_option maxRecDepth 20000 in
theorem gX11_cheapest_X3_cheapestSettling : GoodIn wsX11_cheapest (wsV RX11 242 RX3 yX3_cheapestSettling wsX3_cheapestSettling) := goodIn_app (goodIn_of _ (by decide +kernel)) ggX11_cheapest_X3_cheapestSettling
set_option maxRecDepth 20000 in
theorem ggX11_cheapest_X3_costOf : GoodIn wsX11_cheapest wsX3_costOf := goodIn_r _ [23, 19, 18, 24, 12, 25, 26, 27, 28, 7, 29, 30, 31, 32, 33, 34, 35, 36, 37, 38, 39, 40, 41, 42, 43, 44, 45, 46, 47, 48, 49, 50, 51, 52, 53, 54, 55, 56, 57, 58, 59, 60, 61, 62, 63, 64, 65, 66, 67, 68, 69, 70, 71, 72, 73, 74, 75, 76, 77, 78, 79, 80, 81, 82, 83, 84, 85, 86, 87, 88, 108, 109, 110, 111, 112, 113, 114, 115, 116, 117, 118, 119, 120, 121, 122] (by decide +kernel) (by decide +kernel)
set_option maxRecDepth 20000 in
theorem gX11_cheapest_X3_costOf : GoodIn wsX11_cheapest (wsV RX11 246 RX3 yX3_costOf wsX3_costOf) := goodIn_app (goodIn_of _ (by decide +kernel)) ggX11_cheapest_X3_costOf
theorem dX11_cheapest_0 : decode cX11_cheapest 0 = .ok (.aload_n 0, 1) := by decide +kernel
theorem dX11_cheapest_1 : decode cX11_cheapest 1 = .ok (.getfield 25, 3) := by decide +kernel
theorem dX11_cheapest_4 : decode cX11_cheapest 4 = .ok (.iload_n 1, 1) := by decide +kernel
theorem dX11_cheapest_5 : decode cX11_cheapest 5 = .ok (.invokevirtual 130, 3) := by decide +kernel
theorem dX11_cheapest_8 : decode cX11_cheapest 8 = .ok (.ifCond .eq 19, 3) := by decide +kernel
theorem dX11_cheapest_11 : decode cX11_cheapest 11 = .ok (.iload_n 2, 1) := by decide +kernel
theorem dX11_cheapest_12 : decode cX11_cheapest 12 = .ok (.invokestatic 136, 3) := by decide +kernel
theorem dX11_cheapest_15 : decode cX11_cheapest 15 = .ok (.ifCond .eq 12, 3) := by decide +kernel
theorem dX11_cheapest_18 : decode cX11_cheapest 18 = .ok (.iload_n 3, 1) := by decide +kernel
theorem dX11_cheapest_19 : decode cX11_cheapest 19 = .ok (.ifCond .lt 8, 3) := by decide +kernel
theorem dX11_cheapest_22 : decode cX11_cheapest 22 = .ok (.iload_n 3, 1) := by decide +kernel
theorem dX11_cheapest_23 : decode cX11_cheapest 23 = .ok (.iconst 1, 1) := by decide +kernel
theorem dX11_cheapest_24 : decode cX11_cheapest 24 = .ok (.if_icmp .le 6, 3) := by decide +kernel
theorem dX11_cheapest_27 : decode cX11_cheapest 27 = .ok (.ldc 55, 2) := by decide +kernel
theorem dX11_cheapest_29 : decode cX11_cheapest 29 = .ok (.ireturn, 1) := by decide +kernel
theorem dX11_cheapest_30 : decode cX11_cheapest 30 = .ok (.aload_n 0, 1) := by decide +kernel
theorem dX11_cheapest_31 : decode cX11_cheapest 31 = .ok (.getfield 25, 3) := by decide +kernel
theorem dX11_cheapest_34 : decode cX11_cheapest 34 = .ok (.iload_n 1, 1) := by decide +kernel
theorem dX11_cheapest_35 : decode cX11_cheapest 35 = .ok (.iload_n 2, 1) := by decide +kernel
theorem dX11_cheapest_36 : decode cX11_cheapest 36 = .ok (.invokevirtual 242, 3) := by decide +kernel
theorem dX11_cheapest_39 : decode cX11_cheapest 39 = .ok (.istore 4, 2) := by decide +kernel
theorem dX11_cheapest_41 : decode cX11_cheapest 41 = .ok (.iload 4, 2) := by decide +kernel
theorem dX11_cheapest_43 : decode cX11_cheapest 43 = .ok (.ldc 245, 2) := by decide +kernel
theorem dX11_cheapest_45 : decode cX11_cheapest 45 = .ok (.if_icmp .eq 7, 3) := by decide +kernel
theorem dX11_cheapest_48 : decode cX11_cheapest 48 = .ok (.iload_n 3, 1) := by decide +kernel
theorem dX11_cheapest_49 : decode cX11_cheapest 49 = .ok (.ifCond .ne 6, 3) := by decide +kernel
theorem dX11_cheapest_52 : decode cX11_cheapest 52 = .ok (.iload 4, 2) := by decide +kernel
theorem dX11_cheapest_54 : decode cX11_cheapest 54 = .ok (.ireturn, 1) := by decide +kernel
theorem dX11_cheapest_55 : decode cX11_cheapest 55 = .ok (.aload_n 0, 1) := by decide +kernel
theorem dX11_cheapest_56 : decode cX11_cheapest 56 = .ok (.getfield 25, 3) := by decide +kernel
theorem dX11_cheapest_59 : decode cX11_cheapest 59 = .ok (.iload_n 1, 1) := by decide +kernel
theorem dX11_cheapest_60 : decode cX11_cheapest 60 = .ok (.iload 4, 2) := by decide +kernel
theorem dX11_cheapest_62 : decode cX11_cheapest 62 = .ok (.iload_n 2, 1) := by decide +kernel
theorem dX11_cheapest_63 : decode cX11_cheapest 63 = .ok (.invokevirtual 246, 3) := by decide +kernel
theorem dX11_cheapest_66 : decode cX11_cheapest 66 = .ok (.ireturn, 1) := by decide +kernel
set_option maxRecDepth 20000 in
theorem ggX11_nextSeat_X3_isVisitor : GoodIn wsX11_nextSeat wsX3_isVisitor := goodIn_r _ [7, 8, 132, 133, 134, 135, 136, 137, 138, 139, 140, 141, 142, 143, 144, 145, 146] (by decide +kernel) (by decide +kernel)
set_option maxRecDepth 20000 in
theorem gX11_nextSeat_X3_isVisitor : GoodIn wsX11_nextSeat (wsV RX11 130 RX3 yX3_isVisitor wsX3_isVisitor) := goodIn_app (goodIn_of _ (by decide +kernel)) ggX11_nextSeat_X3_isVisitor
set_option maxRecDepth 20000 in
theorem ggX11_nextSeat_X3_isRoom : GoodIn wsX11_nextSeat wsX3_isRoom := goodIn_r _ [12, 13, 132, 133, 134, 135, 136, 137, 138, 139, 140, 141, 142, 143, 144, 145, 146] (by decide +kernel) (by decide +kernel)
set_option maxRecDepth 20000 in
theorem gX11_nextSeat_X3_isRoom : GoodIn wsX11_nextSeat (wsV RX11 133 RX3 yX3_isRoom wsX3_isRoom) := goodIn_app (goodIn_of _ (by decide +kernel)) ggX11_nextSeat_X3_isRoom
set_option maxRecDepth 20000 in
theorem ggX11_nextSeat_X11_isMinuteSet : GoodIn wsX11_nextSeat wsX11_isMinuteSet := goodIn_r _ [17] (by decide +kernel) (by decide +kernel)
set_option maxRecDepth 20000 in
theorem gX11_nextSeat_X11_isMinuteSet : GoodIn wsX11_nextSeat (va_wsS RX11 233 yX11_isMinuteSet wsX11_isMinuteSet) := goodIn_app (goodIn_of _ (by decide +kernel)) ggX11_nextSeat_X11_isMinuteSet
set_option maxRecDepth 20000 in
theorem ggX11_nextSeat_X3_nextSeatFor : GoodIn wsX11_nextSeat wsX3_nextSeatFor := goodIn_r _ [21, 22, 13, 23, 24, 25, 6, 26, 27, 28, 16, 29, 30, 31, 32, 33, 34, 35, 36, 37, 38, 39, 40, 41, 42, 43, 44, 45, 46, 47, 48, 49, 50, 51, 52, 53, 54, 55, 56, 57, 58, 59, 60, 61, 62, 63, 64, 65, 66, 67, 68, 69, 70, 71, 72, 73, 74, 75, 76, 77, 78, 79, 80, 81, 82, 83, 84, 85, 86, 87, 88, 89, 90, 91, 92, 93, 94, 95, 96, 97, 98, 99, 100, 101, 102, 103, 104, 105, 106, 107, 108, 109, 110, 111, 112, 113, 114, 115, 116, 117, 118, 119, 120, 121, 122, 123, 132, 133, 134, 135, 136, 137, 138, 139, 140, 141, 142, 143, 144, 145, 146] (by decide +kernel) (by decide +kernel)
set_option maxRecDepth 20000 in
theorem gX11_nextSeat_X3_nextSeatFor : GoodIn wsX11_nextSeat (wsV RX11 249 RX3 yX3_nextSeatFor wsX3_nextSeatFor) := goodIn_app (goodIn_of _ (by decide +kernel)) ggX11_nextSeat_X3_nextSeatFor
theorem dX11_nextSeat_0 : decode cX11_nextSeat 0 = .ok (.aload_n 0, 1) := by decide +kernel
theorem dX11_nextSeat_1 : decode cX11_nextSeat 1 = .ok (.getfield 25, 3) := by decide +kernel
theorem dX11_nextSeat_4 : decode cX11_nextSeat 4 = .ok (.iload_n 1, 1) := by decide +kernel
theorem dX11_nextSeat_5 : decode cX11_nextSeat 5 = .ok (.invokevirtual 130, 3) := by decide +kernel
theorem dX11_nextSeat_8 : decode cX11_nextSeat 8 = .ok (.ifCond .eq 21, 3) := by decide +kernel
theorem dX11_nextSeat_11 : decode cX11_nextSeat 11 = .ok (.aload_n 0, 1) := by decide +kernel
theorem dX11_nextSeat_12 : decode cX11_nextSeat 12 = .ok (.getfield 25, 3) := by decide +kernel
theorem dX11_nextSeat_15 : decode cX11_nextSeat 15 = .ok (.iload_n 2, 1) := by decide +kernel
theorem dX11_nextSeat_16 : decode cX11_nextSeat 16 = .ok (.invokevirtual 133, 3) := by decide +kernel
theorem dX11_nextSeat_19 : decode cX11_nextSeat 19 = .ok (.ifCond .eq 10, 3) := by decide +kernel
theorem dX11_nextSeat_22 : decode cX11_nextSeat 22 = .ok (.iload_n 3, 1) := by decide +kernel
theorem dX11_nextSeat_23 : decode cX11_nextSeat 23 = .ok (.invokestatic 233, 3) := by decide +kernel
theorem dX11_nextSeat_26 : decode cX11_nextSeat 26 = .ok (.ifCond .ne 6, 3) := by decide +kernel
theorem dX11_nextSeat_29 : decode cX11_nextSeat 29 = .ok (.ldc 55, 2) := by decide +kernel
theorem dX11_nextSeat_31 : decode cX11_nextSeat 31 = .ok (.ireturn, 1) := by decide +kernel
theorem dX11_nextSeat_32 : decode cX11_nextSeat 32 = .ok (.aload_n 0, 1) := by decide +kernel
theorem dX11_nextSeat_33 : decode cX11_nextSeat 33 = .ok (.getfield 25, 3) := by decide +kernel
theorem dX11_nextSeat_36 : decode cX11_nextSeat 36 = .ok (.iload_n 1, 1) := by decide +kernel
theorem dX11_nextSeat_37 : decode cX11_nextSeat 37 = .ok (.iload_n 2, 1) := by decide +kernel
theorem dX11_nextSeat_38 : decode cX11_nextSeat 38 = .ok (.iload_n 3, 1) := by decide +kernel
theorem dX11_nextSeat_39 : decode cX11_nextSeat 39 = .ok (.invokevirtual 249, 3) := by decide +kernel
theorem dX11_nextSeat_42 : decode cX11_nextSeat 42 = .ok (.ireturn, 1) := by decide +kernel
set_option maxRecDepth 20000 in
theorem ggX11_followed_X3_isVisitor : GoodIn wsX11_followed wsX3_isVisitor := goodIn_r _ [8, 9, 116, 117, 118, 119, 120, 121, 122, 123, 124, 125, 126, 127, 128, 129, 130] (by decide +kernel) (by decide +kernel)
set_option maxRecDepth 20000 in
theorem gX11_followed_X3_isVisitor : GoodIn wsX11_followed (wsV RX11 130 RX3 yX3_isVisitor wsX3_isVisitor) := goodIn_app (goodIn_of _ (by decide +kernel)) ggX11_followed_X3_isVisitor
set_option maxRecDepth 20000 in
theorem ggX11_followed_X3_isPerson : GoodIn wsX11_followed wsX3_isPerson := goodIn_r _ [13, 14, 116, 117, 118, 119, 120, 121, 122, 123, 124, 125, 126, 127, 128, 129, 130] (by decide +kernel) (by decide +kernel)
set_option maxRecDepth 20000 in
theorem gX11_followed_X3_isPerson : GoodIn wsX11_followed (wsV RX11 220 RX3 yX3_isPerson wsX3_isPerson) := goodIn_app (goodIn_of _ (by decide +kernel)) ggX11_followed_X3_isPerson
set_option maxRecDepth 20000 in
theorem ggX11_followed_X3_followedFrom : GoodIn wsX11_followed wsX3_followedFrom := goodIn_r _ [18, 19, 20, 21, 22, 23, 7, 24, 25, 26, 27, 28, 29, 30, 31, 32, 33, 34, 35, 36, 37, 38, 39, 40, 41, 42, 43, 44, 45, 46, 47, 48, 49, 50, 51, 52, 53, 54, 55, 56, 57, 58, 59, 60, 61, 62, 63, 64, 65, 66, 67, 68, 69, 70, 71, 72, 73, 74, 75, 76, 77, 78, 79, 14, 80, 81, 82, 83, 84, 85, 86, 87, 88, 89, 90, 91, 92, 93, 94, 95, 96, 97, 98, 99, 100, 101, 102, 103, 104, 105, 106, 107, 116, 117, 118, 119, 120, 121, 122, 123, 124, 125, 126, 127, 128, 129, 130] (by decide +kernel) (by decide +kernel)
set_option maxRecDepth 20000 in
theorem gX11_followed_X3_followedFrom : GoodIn wsX11_followed (wsV RX11 252 RX3 yX3_followedFrom wsX3_followedFrom) := goodIn_app (goodIn_of _ (by decide +kernel)) ggX11_followed_X3_followedFrom
theorem dX11_followed_0 : decode cX11_followed 0 = .ok (.aload_n 0, 1) := by decide +kernel
theorem dX11_followed_1 : decode cX11_followed 1 = .ok (.getfield 25, 3) := by decide +kernel
theorem dX11_followed_4 : decode cX11_followed 4 = .ok (.iload_n 1, 1) := by decide +kernel
theorem dX11_followed_5 : decode cX11_followed 5 = .ok (.invokevirtual 130, 3) := by decide +kernel
theorem dX11_followed_8 : decode cX11_followed 8 = .ok (.ifCond .eq 23, 3) := by decide +kernel
theorem dX11_followed_11 : decode cX11_followed 11 = .ok (.aload_n 0, 1) := by decide +kernel
theorem dX11_followed_12 : decode cX11_followed 12 = .ok (.getfield 25, 3) := by decide +kernel
theorem dX11_followed_15 : decode cX11_followed 15 = .ok (.iload_n 2, 1) := by decide +kernel
theorem dX11_followed_16 : decode cX11_followed 16 = .ok (.invokevirtual 220, 3) := by decide +kernel
theorem dX11_followed_19 : decode cX11_followed 19 = .ok (.ifCond .eq 12, 3) := by decide +kernel
theorem dX11_followed_22 : decode cX11_followed 22 = .ok (.iload_n 3, 1) := by decide +kernel
theorem dX11_followed_23 : decode cX11_followed 23 = .ok (.ifCond .lt 8, 3) := by decide +kernel
theorem dX11_followed_26 : decode cX11_followed 26 = .ok (.iload_n 3, 1) := by decide +kernel
theorem dX11_followed_27 : decode cX11_followed 27 = .ok (.iconst 1, 1) := by decide +kernel
theorem dX11_followed_28 : decode cX11_followed 28 = .ok (.if_icmp .le 6, 3) := by decide +kernel
theorem dX11_followed_31 : decode cX11_followed 31 = .ok (.ldc 55, 2) := by decide +kernel
theorem dX11_followed_33 : decode cX11_followed 33 = .ok (.ireturn, 1) := by decide +kernel
theorem dX11_followed_34 : decode cX11_followed 34 = .ok (.iconst 0, 1) := by decide +kernel
theorem dX11_followed_35 : decode cX11_followed 35 = .ok (.istore 4, 2) := by decide +kernel
theorem dX11_followed_37 : decode cX11_followed 37 = .ok (.ldc 245, 2) := by decide +kernel
theorem dX11_followed_39 : decode cX11_followed 39 = .ok (.istore 5, 2) := by decide +kernel
theorem dX11_followed_41 : decode cX11_followed 41 = .ok (.iconst 0, 1) := by decide +kernel
theorem dX11_followed_42 : decode cX11_followed 42 = .ok (.istore 6, 2) := by decide +kernel
theorem dX11_followed_44 : decode cX11_followed 44 = .ok (.iload 6, 2) := by decide +kernel
theorem dX11_followed_46 : decode cX11_followed 46 = .ok (.bipush 8, 2) := by decide +kernel
theorem dX11_followed_48 : decode cX11_followed 48 = .ok (.if_icmp .ge 37, 3) := by decide +kernel
theorem dX11_followed_51 : decode cX11_followed 51 = .ok (.aload_n 0, 1) := by decide +kernel
theorem dX11_followed_52 : decode cX11_followed 52 = .ok (.getfield 25, 3) := by decide +kernel
theorem dX11_followed_55 : decode cX11_followed 55 = .ok (.iload_n 1, 1) := by decide +kernel
theorem dX11_followed_56 : decode cX11_followed 56 = .ok (.iload_n 2, 1) := by decide +kernel
theorem dX11_followed_57 : decode cX11_followed 57 = .ok (.iload 6, 2) := by decide +kernel
theorem dX11_followed_59 : decode cX11_followed 59 = .ok (.invokevirtual 252, 3) := by decide +kernel
theorem dX11_followed_62 : decode cX11_followed 62 = .ok (.istore 7, 2) := by decide +kernel
theorem dX11_followed_64 : decode cX11_followed 64 = .ok (.iload 7, 2) := by decide +kernel
theorem dX11_followed_66 : decode cX11_followed 66 = .ok (.iload 4, 2) := by decide +kernel
theorem dX11_followed_68 : decode cX11_followed 68 = .ok (.if_icmp .le 11, 3) := by decide +kernel
theorem dX11_followed_71 : decode cX11_followed 71 = .ok (.iload 7, 2) := by decide +kernel
theorem dX11_followed_73 : decode cX11_followed 73 = .ok (.istore 4, 2) := by decide +kernel
theorem dX11_followed_75 : decode cX11_followed 75 = .ok (.iload 6, 2) := by decide +kernel
theorem dX11_followed_77 : decode cX11_followed 77 = .ok (.istore 5, 2) := by decide +kernel
theorem dX11_followed_79 : decode cX11_followed 79 = .ok (.iinc 6 1, 3) := by decide +kernel
theorem dX11_followed_82 : decode cX11_followed 82 = .ok (.goto (-38), 3) := by decide +kernel
theorem dX11_followed_85 : decode cX11_followed 85 = .ok (.iload_n 3, 1) := by decide +kernel
theorem dX11_followed_86 : decode cX11_followed 86 = .ok (.ifCond .ne 8, 3) := by decide +kernel
theorem dX11_followed_89 : decode cX11_followed 89 = .ok (.iload 4, 2) := by decide +kernel
theorem dX11_followed_91 : decode cX11_followed 91 = .ok (.goto 5, 3) := by decide +kernel
theorem dX11_followed_94 : decode cX11_followed 94 = .ok (.iload 5, 2) := by decide +kernel
theorem dX11_followed_96 : decode cX11_followed 96 = .ok (.ireturn, 1) := by decide +kernel
set_option maxRecDepth 20000 in
theorem ggX11_crowd_X3_isVisitor : GoodIn wsX11_crowd wsX3_isVisitor := goodIn_r _ [7, 8, 41, 42, 43, 44, 45, 46, 47, 48, 49, 50, 51, 52, 53, 54, 55] (by decide +kernel) (by decide +kernel)
set_option maxRecDepth 20000 in
theorem gX11_crowd_X3_isVisitor : GoodIn wsX11_crowd (wsV RX11 130 RX3 yX3_isVisitor wsX3_isVisitor) := goodIn_app (goodIn_of _ (by decide +kernel)) ggX11_crowd_X3_isVisitor
set_option maxRecDepth 20000 in
theorem ggX11_crowd_X11_isMinute : GoodIn wsX11_crowd wsX11_isMinute := goodIn_r _ [12] (by decide +kernel) (by decide +kernel)
set_option maxRecDepth 20000 in
theorem gX11_crowd_X11_isMinute : GoodIn wsX11_crowd (va_wsS RX11 136 yX11_isMinute wsX11_isMinute) := goodIn_app (goodIn_of _ (by decide +kernel)) ggX11_crowd_X11_isMinute
set_option maxRecDepth 20000 in
theorem ggX11_crowd_X3_crowdOf : GoodIn wsX11_crowd wsX3_crowdOf := goodIn_r _ [16, 17, 18, 19, 20, 21, 6, 22, 23, 11, 24, 25, 26, 27, 28, 29, 30, 31, 32, 41, 42, 43, 44, 45, 46, 47, 48, 49, 50, 51, 52, 53, 54, 55] (by decide +kernel) (by decide +kernel)
set_option maxRecDepth 20000 in
theorem gX11_crowd_X3_crowdOf : GoodIn wsX11_crowd (wsV RX11 255 RX3 yX3_crowdOf wsX3_crowdOf) := goodIn_app (goodIn_of _ (by decide +kernel)) ggX11_crowd_X3_crowdOf
theorem dX11_crowd_0 : decode cX11_crowd 0 = .ok (.aload_n 0, 1) := by decide +kernel
theorem dX11_crowd_1 : decode cX11_crowd 1 = .ok (.getfield 25, 3) := by decide +kernel
theorem dX11_crowd_4 : decode cX11_crowd 4 = .ok (.iload_n 1, 1) := by decide +kernel
theorem dX11_crowd_5 : decode cX11_crowd 5 = .ok (.invokevirtual 130, 3) := by decide +kernel
theorem dX11_crowd_8 : decode cX11_crowd 8 = .ok (.ifCond .eq 10, 3) := by decide +kernel
theorem dX11_crowd_11 : decode cX11_crowd 11 = .ok (.iload_n 2, 1) := by decide +kernel
theorem dX11_crowd_12 : decode cX11_crowd 12 = .ok (.invokestatic 136, 3) := by decide +kernel
theorem dX11_crowd_15 : decode cX11_crowd 15 = .ok (.ifCond .ne 6, 3) := by decide +kernel
theorem dX11_crowd_18 : decode cX11_crowd 18 = .ok (.ldc 55, 2) := by decide +kernel
theorem dX11_crowd_20 : decode cX11_crowd 20 = .ok (.ireturn, 1) := by decide +kernel
theorem dX11_crowd_21 : decode cX11_crowd 21 = .ok (.aload_n 0, 1) := by decide +kernel
theorem dX11_crowd_22 : decode cX11_crowd 22 = .ok (.getfield 25, 3) := by decide +kernel
theorem dX11_crowd_25 : decode cX11_crowd 25 = .ok (.iload_n 1, 1) := by decide +kernel
theorem dX11_crowd_26 : decode cX11_crowd 26 = .ok (.iload_n 2, 1) := by decide +kernel
theorem dX11_crowd_27 : decode cX11_crowd 27 = .ok (.invokevirtual 255, 3) := by decide +kernel
theorem dX11_crowd_30 : decode cX11_crowd 30 = .ok (.ireturn, 1) := by decide +kernel
set_option maxRecDepth 20000 in
theorem ggX11_told_X3_isVisitor : GoodIn wsX11_told wsX3_isVisitor := goodIn_r _ [7, 8, 71, 72, 73, 74, 75, 76, 77, 78, 79, 80, 81, 82, 83, 84, 85] (by decide +kernel) (by decide +kernel)
set_option maxRecDepth 20000 in
theorem gX11_told_X3_isVisitor : GoodIn wsX11_told (wsV RX11 130 RX3 yX3_isVisitor wsX3_isVisitor) := goodIn_app (goodIn_of _ (by decide +kernel)) ggX11_told_X3_isVisitor
set_option maxRecDepth 20000 in
theorem ggX11_told_X3_isPerson : GoodIn wsX11_told wsX3_isPerson := goodIn_r _ [12, 13, 71, 72, 73, 74, 75, 76, 77, 78, 79, 80, 81, 82, 83, 84, 85] (by decide +kernel) (by decide +kernel)
set_option maxRecDepth 20000 in
theorem gX11_told_X3_isPerson : GoodIn wsX11_told (wsV RX11 220 RX3 yX3_isPerson wsX3_isPerson) := goodIn_app (goodIn_of _ (by decide +kernel)) ggX11_told_X3_isPerson
set_option maxRecDepth 20000 in
theorem ggX11_told_X11_isMinute : GoodIn wsX11_told wsX11_isMinute := goodIn_r _ [17] (by decide +kernel) (by decide +kernel)
set_option maxRecDepth 20000 in
theorem gX11_told_X11_isMinute : GoodIn wsX11_told (va_wsS RX11 136 yX11_isMinute wsX11_isMinute) := goodIn_app (goodIn_of _ (by decide +kernel)) ggX11_told_X11_isMinute
set_option maxRecDepth 20000 in
theorem ggX11_told_X3_toldBy : GoodIn wsX11_told wsX3_toldBy := goodIn_r _ [21, 22, 23, 24, 25, 26, 27, 6, 28, 29, 30, 31, 32, 33, 34, 35, 36, 37, 38, 39, 16, 40, 41, 42, 43, 44, 45, 46, 47, 48, 49, 50, 51, 52, 53, 54, 55, 56, 57, 58, 59, 60, 61, 62, 71, 72, 73, 74, 75, 76, 77, 78, 79, 80, 81, 82, 83, 84, 85] (by decide +kernel) (by decide +kernel)
set_option maxRecDepth 20000 in
theorem gX11_told_X3_toldBy : GoodIn wsX11_told (wsV RX11 258 RX3 yX3_toldBy wsX3_toldBy) := goodIn_app (goodIn_of _ (by decide +kernel)) ggX11_told_X3_toldBy
theorem dX11_told_0 : decode cX11_told 0 = .ok (.aload_n 0, 1) := by decide +kernel
theorem dX11_told_1 : decode cX11_told 1 = .ok (.getfield 25, 3) := by decide +kernel
theorem dX11_told_4 : decode cX11_told 4 = .ok (.iload_n 1, 1) := by decide +kernel
theorem dX11_told_5 : decode cX11_told 5 = .ok (.invokevirtual 130, 3) := by decide +kernel
theorem dX11_told_8 : decode cX11_told 8 = .ok (.ifCond .eq 21, 3) := by decide +kernel
theorem dX11_told_11 : decode cX11_told 11 = .ok (.aload_n 0, 1) := by decide +kernel
theorem dX11_told_12 : decode cX11_told 12 = .ok (.getfield 25, 3) := by decide +kernel
theorem dX11_told_15 : decode cX11_told 15 = .ok (.iload_n 2, 1) := by decide +kernel
theorem dX11_told_16 : decode cX11_told 16 = .ok (.invokevirtual 220, 3) := by decide +kernel
theorem dX11_told_19 : decode cX11_told 19 = .ok (.ifCond .eq 10, 3) := by decide +kernel
theorem dX11_told_22 : decode cX11_told 22 = .ok (.iload_n 3, 1) := by decide +kernel
theorem dX11_told_23 : decode cX11_told 23 = .ok (.invokestatic 136, 3) := by decide +kernel
theorem dX11_told_26 : decode cX11_told 26 = .ok (.ifCond .ne 6, 3) := by decide +kernel
theorem dX11_told_29 : decode cX11_told 29 = .ok (.ldc 55, 2) := by decide +kernel
theorem dX11_told_31 : decode cX11_told 31 = .ok (.ireturn, 1) := by decide +kernel
theorem dX11_told_32 : decode cX11_told 32 = .ok (.aload_n 0, 1) := by decide +kernel
theorem dX11_told_33 : decode cX11_told 33 = .ok (.getfield 25, 3) := by decide +kernel
theorem dX11_told_36 : decode cX11_told 36 = .ok (.iload_n 1, 1) := by decide +kernel
theorem dX11_told_37 : decode cX11_told 37 = .ok (.iload_n 2, 1) := by decide +kernel
theorem dX11_told_38 : decode cX11_told 38 = .ok (.iload_n 3, 1) := by decide +kernel
theorem dX11_told_39 : decode cX11_told 39 = .ok (.invokevirtual 258, 3) := by decide +kernel
theorem dX11_told_42 : decode cX11_told 42 = .ok (.ireturn, 1) := by decide +kernel
set_option maxRecDepth 20000 in
theorem ggX11_believed_X3_isPerson : GoodIn wsX11_believed wsX3_isPerson := goodIn_r _ [7, 8, 71, 72, 73, 74, 75, 76, 77, 78, 79, 80, 81, 82, 83, 84, 85] (by decide +kernel) (by decide +kernel)
set_option maxRecDepth 20000 in
theorem gX11_believed_X3_isPerson : GoodIn wsX11_believed (wsV RX11 220 RX3 yX3_isPerson wsX3_isPerson) := goodIn_app (goodIn_of _ (by decide +kernel)) ggX11_believed_X3_isPerson
set_option maxRecDepth 20000 in
theorem ggX11_believed_X11_isMinute : GoodIn wsX11_believed wsX11_isMinute := goodIn_r _ [12] (by decide +kernel) (by decide +kernel)
set_option maxRecDepth 20000 in
theorem gX11_believed_X11_isMinute : GoodIn wsX11_believed (va_wsS RX11 136 yX11_isMinute wsX11_isMinute) := goodIn_app (goodIn_of _ (by decide +kernel)) ggX11_believed_X11_isMinute
set_option maxRecDepth 20000 in
theorem ggX11_believed_X3_mostTold : GoodIn wsX11_believed wsX3_mostTold := goodIn_r _ [16, 17, 18, 19, 20, 21, 22, 6, 23, 24, 25, 26, 27, 28, 29, 30, 31, 32, 33, 34, 35, 36, 37, 38, 39, 11, 40, 41, 42, 43, 44, 45, 46, 47, 48, 49, 50, 51, 52, 53, 54, 55, 56, 57, 58, 59, 60, 61, 62, 71, 72, 73, 74, 75, 76, 77, 78, 79, 80, 81, 82, 83, 84, 85] (by decide +kernel) (by decide +kernel)
set_option maxRecDepth 20000 in
theorem gX11_believed_X3_mostTold : GoodIn wsX11_believed (wsV RX11 261 RX3 yX3_mostTold wsX3_mostTold) := goodIn_app (goodIn_of _ (by decide +kernel)) ggX11_believed_X3_mostTold
theorem dX11_believed_0 : decode cX11_believed 0 = .ok (.aload_n 0, 1) := by decide +kernel
theorem dX11_believed_1 : decode cX11_believed 1 = .ok (.getfield 25, 3) := by decide +kernel
theorem dX11_believed_4 : decode cX11_believed 4 = .ok (.iload_n 1, 1) := by decide +kernel
theorem dX11_believed_5 : decode cX11_believed 5 = .ok (.invokevirtual 220, 3) := by decide +kernel
theorem dX11_believed_8 : decode cX11_believed 8 = .ok (.ifCond .eq 10, 3) := by decide +kernel
theorem dX11_believed_11 : decode cX11_believed 11 = .ok (.iload_n 2, 1) := by decide +kernel
theorem dX11_believed_12 : decode cX11_believed 12 = .ok (.invokestatic 136, 3) := by decide +kernel
theorem dX11_believed_15 : decode cX11_believed 15 = .ok (.ifCond .ne 6, 3) := by decide +kernel
theorem dX11_believed_18 : decode cX11_believed 18 = .ok (.ldc 55, 2) := by decide +kernel
theorem dX11_believed_20 : decode cX11_believed 20 = .ok (.ireturn, 1) := by decide +kernel
theorem dX11_believed_21 : decode cX11_believed 21 = .ok (.aload_n 0, 1) := by decide +kernel
theorem dX11_believed_22 : decode cX11_believed 22 = .ok (.getfield 25, 3) := by decide +kernel
theorem dX11_believed_25 : decode cX11_believed 25 = .ok (.iload_n 1, 1) := by decide +kernel
theorem dX11_believed_26 : decode cX11_believed 26 = .ok (.iload_n 2, 1) := by decide +kernel
theorem dX11_believed_27 : decode cX11_believed 27 = .ok (.invokevirtual 261, 3) := by decide +kernel
theorem dX11_believed_30 : decode cX11_believed 30 = .ok (.ireturn, 1) := by decide +kernel
set_option maxRecDepth 20000 in
theorem ggX11_account_X3_isVisitorSet : GoodIn wsX11_account wsX3_isVisitorSet := goodIn_r _ [10, 11, 78, 79, 80, 81, 82, 83, 84, 85, 86, 87, 88, 89, 90, 91, 92] (by decide +kernel) (by decide +kernel)
set_option maxRecDepth 20000 in
theorem gX11_account_X3_isVisitorSet : GoodIn wsX11_account (wsV RX11 214 RX3 yX3_isVisitorSet wsX3_isVisitorSet) := goodIn_app (goodIn_of _ (by decide +kernel)) ggX11_account_X3_isVisitorSet
set_option maxRecDepth 20000 in
theorem ggX11_account_X3_isPerson : GoodIn wsX11_account wsX3_isPerson := goodIn_r _ [15, 16, 78, 79, 80, 81, 82, 83, 84, 85, 86, 87, 88, 89, 90, 91, 92] (by decide +kernel) (by decide +kernel)
set_option maxRecDepth 20000 in
theorem gX11_account_X3_isPerson : GoodIn wsX11_account (wsV RX11 220 RX3 yX3_isPerson wsX3_isPerson) := goodIn_app (goodIn_of _ (by decide +kernel)) ggX11_account_X3_isPerson
set_option maxRecDepth 20000 in
theorem ggX11_account_X11_isRow : GoodIn wsX11_account wsX11_isRow := goodIn_r _ [20] (by decide +kernel) (by decide +kernel)
set_option maxRecDepth 20000 in
theorem gX11_account_X11_isRow : GoodIn wsX11_account (va_wsS RX11 51 yX11_isRow wsX11_isRow) := goodIn_app (goodIn_of _ (by decide +kernel)) ggX11_account_X11_isRow
set_option maxRecDepth 20000 in
theorem ggX11_account_X11_found : GoodIn wsX11_account wsX11_found := goodIn_r _ [24, 25, 26, 66, 67, 68, 69, 70, 71, 72, 73] (by decide +kernel) (by decide +kernel)
set_option maxRecDepth 20000 in
theorem gX11_account_X11_found : GoodIn wsX11_account (wsV RX11 56 RX11 yX11_found wsX11_found) := goodIn_app (goodIn_of _ (by decide +kernel)) ggX11_account_X11_found
set_option maxRecDepth 20000 in
theorem ggX11_account_X5_hasItems : GoodIn wsX11_account wsX5_hasItems := goodIn_r _ [31, 32, 74, 75, 76, 77] (by decide +kernel) (by decide +kernel)
set_option maxRecDepth 20000 in
theorem gX11_account_X5_hasItems : GoodIn wsX11_account (wsV RX11 71 RX5 yX5_hasItems wsX5_hasItems) := goodIn_app (goodIn_of _ (by decide +kernel)) ggX11_account_X5_hasItems
set_option maxRecDepth 20000 in
theorem ggX11_account_X3_isRoom : GoodIn wsX11_account wsX3_isRoom := goodIn_r _ [36, 37, 78, 79, 80, 81, 82, 83, 84, 85, 86, 87, 88, 89, 90, 91, 92] (by decide +kernel) (by decide +kernel)
set_option maxRecDepth 20000 in
theorem gX11_account_X3_isRoom : GoodIn wsX11_account (wsV RX11 133 RX3 yX3_isRoom wsX3_isRoom) := goodIn_app (goodIn_of _ (by decide +kernel)) ggX11_account_X3_isRoom
set_option maxRecDepth 20000 in
theorem ggX11_account_X3_canBeIn : GoodIn wsX11_account wsX3_canBeIn := goodIn_r _ [41, 42, 43, 44, 9, 45, 37, 46, 47, 19, 48, 49, 50, 51, 52, 53, 54, 55, 56, 57, 58, 59, 60, 61, 78, 79, 80, 81, 82, 83, 84, 85, 86, 87, 88, 89, 90, 91, 92] (by decide +kernel) (by decide +kernel)
set_option maxRecDepth 20000 in
theorem gX11_account_X3_canBeIn : GoodIn wsX11_account (wsV RX11 229 RX3 yX3_canBeIn wsX3_canBeIn) := goodIn_app (goodIn_of _ (by decide +kernel)) ggX11_account_X3_canBeIn
set_option maxRecDepth 20000 in
theorem ggX11_account_X11_answered : GoodIn wsX11_account wsX11_answered := goodIn_r _ [65, 25, 66, 67, 68, 69, 70, 71, 72, 73] (by decide +kernel) (by decide +kernel)
set_option maxRecDepth 20000 in
theorem gX11_account_X11_answered : GoodIn wsX11_account (wsV RX11 64 RX11 yX11_answered wsX11_answered) := goodIn_app (goodIn_of _ (by decide +kernel)) ggX11_account_X11_answered
theorem dX11_account_0 : decode cX11_account 0 = .ok (.aload_n 0, 1) := by decide +kernel
theorem dX11_account_1 : decode cX11_account 1 = .ok (.getfield 25, 3) := by decide +kernel
theorem dX11_account_4 : decode cX11_account 4 = .ok (.iload_n 1, 1) := by decide +kernel
theorem dX11_account_5 : decode cX11_account 5 = .ok (.invokevirtual 214, 3) := by decide +kernel
theorem dX11_account_8 : decode cX11_account 8 = .ok (.ifCond .eq 21, 3) := by decide +kernel
theorem dX11_account_11 : decode cX11_account 11 = .ok (.aload_n 0, 1) := by decide +kernel
theorem dX11_account_12 : decode cX11_account 12 = .ok (.getfield 25, 3) := by decide +kernel
theorem dX11_account_15 : decode cX11_account 15 = .ok (.iload_n 2, 1) := by decide +kernel
theorem dX11_account_16 : decode cX11_account 16 = .ok (.invokevirtual 220, 3) := by decide +kernel
theorem dX11_account_19 : decode cX11_account 19 = .ok (.ifCond .eq 10, 3) := by decide +kernel
theorem dX11_account_22 : decode cX11_account 22 = .ok (.iload_n 3, 1) := by decide +kernel
theorem dX11_account_23 : decode cX11_account 23 = .ok (.invokestatic 51, 3) := by decide +kernel
theorem dX11_account_26 : decode cX11_account 26 = .ok (.ifCond .ne 6, 3) := by decide +kernel
theorem dX11_account_29 : decode cX11_account 29 = .ok (.ldc 55, 2) := by decide +kernel
theorem dX11_account_31 : decode cX11_account 31 = .ok (.ireturn, 1) := by decide +kernel
theorem dX11_account_32 : decode cX11_account 32 = .ok (.aload_n 0, 1) := by decide +kernel
theorem dX11_account_33 : decode cX11_account 33 = .ok (.getfield 11, 3) := by decide +kernel
theorem dX11_account_36 : decode cX11_account 36 = .ok (.iload_n 3, 1) := by decide +kernel
theorem dX11_account_37 : decode cX11_account 37 = .ok (.aaload, 1) := by decide +kernel
theorem dX11_account_38 : decode cX11_account 38 = .ok (.astore 5, 2) := by decide +kernel
theorem dX11_account_40 : decode cX11_account 40 = .ok (.aload 5, 2) := by decide +kernel
theorem dX11_account_42 : decode cX11_account 42 = .ok (.getfield 67, 3) := by decide +kernel
theorem dX11_account_45 : decode cX11_account 45 = .ok (.ifCond .eq 9, 3) := by decide +kernel
theorem dX11_account_48 : decode cX11_account 48 = .ok (.aload_n 0, 1) := by decide +kernel
theorem dX11_account_49 : decode cX11_account 49 = .ok (.iconst 1, 1) := by decide +kernel
theorem dX11_account_50 : decode cX11_account 50 = .ok (.invokevirtual 56, 3) := by decide +kernel
theorem dX11_account_53 : decode cX11_account 53 = .ok (.ireturn, 1) := by decide +kernel
theorem dX11_account_54 : decode cX11_account 54 = .ok (.aload 5, 2) := by decide +kernel
theorem dX11_account_56 : decode cX11_account 56 = .ok (.iload 4, 2) := by decide +kernel
theorem dX11_account_58 : decode cX11_account 58 = .ok (.bipush 8, 2) := by decide +kernel
theorem dX11_account_60 : decode cX11_account 60 = .ok (.invokevirtual 71, 3) := by decide +kernel
theorem dX11_account_63 : decode cX11_account 63 = .ok (.ifCond .ne 9, 3) := by decide +kernel
theorem dX11_account_66 : decode cX11_account 66 = .ok (.aload_n 0, 1) := by decide +kernel
theorem dX11_account_67 : decode cX11_account 67 = .ok (.iconst 2, 1) := by decide +kernel
theorem dX11_account_68 : decode cX11_account 68 = .ok (.invokevirtual 56, 3) := by decide +kernel
theorem dX11_account_71 : decode cX11_account 71 = .ok (.ireturn, 1) := by decide +kernel
theorem dX11_account_72 : decode cX11_account 72 = .ok (.iconst 0, 1) := by decide +kernel
theorem dX11_account_73 : decode cX11_account 73 = .ok (.istore 6, 2) := by decide +kernel
theorem dX11_account_75 : decode cX11_account 75 = .ok (.iconst 0, 1) := by decide +kernel
theorem dX11_account_76 : decode cX11_account 76 = .ok (.istore 7, 2) := by decide +kernel
theorem dX11_account_78 : decode cX11_account 78 = .ok (.iload 7, 2) := by decide +kernel
theorem dX11_account_80 : decode cX11_account 80 = .ok (.bipush 8, 2) := by decide +kernel
theorem dX11_account_82 : decode cX11_account 82 = .ok (.if_icmp .ge 74, 3) := by decide +kernel
theorem dX11_account_85 : decode cX11_account 85 = .ok (.aload 5, 2) := by decide +kernel
theorem dX11_account_87 : decode cX11_account 87 = .ok (.getfield 75, 3) := by decide +kernel
theorem dX11_account_90 : decode cX11_account 90 = .ok (.iload 4, 2) := by decide +kernel
theorem dX11_account_92 : decode cX11_account 92 = .ok (.iload 7, 2) := by decide +kernel
theorem dX11_account_94 : decode cX11_account 94 = .ok (.iadd, 1) := by decide +kernel
theorem dX11_account_95 : decode cX11_account 95 = .ok (.iaload, 1) := by decide +kernel
theorem dX11_account_96 : decode cX11_account 96 = .ok (.istore 8, 2) := by decide +kernel
theorem dX11_account_98 : decode cX11_account 98 = .ok (.iload 8, 2) := by decide +kernel
theorem dX11_account_100 : decode cX11_account 100 = .ok (.iconst (-1), 1) := by decide +kernel
theorem dX11_account_101 : decode cX11_account 101 = .ok (.if_icmp .eq 18, 3) := by decide +kernel
theorem dX11_account_104 : decode cX11_account 104 = .ok (.aload_n 0, 1) := by decide +kernel
theorem dX11_account_105 : decode cX11_account 105 = .ok (.getfield 25, 3) := by decide +kernel
theorem dX11_account_108 : decode cX11_account 108 = .ok (.iload 8, 2) := by decide +kernel
theorem dX11_account_110 : decode cX11_account 110 = .ok (.invokevirtual 133, 3) := by decide +kernel
theorem dX11_account_113 : decode cX11_account 113 = .ok (.ifCond .ne 6, 3) := by decide +kernel
theorem dX11_account_116 : decode cX11_account 116 = .ok (.ldc 55, 2) := by decide +kernel
theorem dX11_account_118 : decode cX11_account 118 = .ok (.ireturn, 1) := by decide +kernel
theorem dX11_account_119 : decode cX11_account 119 = .ok (.iload 8, 2) := by decide +kernel
theorem dX11_account_121 : decode cX11_account 121 = .ok (.iconst (-1), 1) := by decide +kernel
theorem dX11_account_122 : decode cX11_account 122 = .ok (.if_icmp .eq 28, 3) := by decide +kernel
theorem dX11_account_125 : decode cX11_account 125 = .ok (.aload_n 0, 1) := by decide +kernel
theorem dX11_account_126 : decode cX11_account 126 = .ok (.getfield 25, 3) := by decide +kernel
theorem dX11_account_129 : decode cX11_account 129 = .ok (.iload_n 1, 1) := by decide +kernel
theorem dX11_account_130 : decode cX11_account 130 = .ok (.iload_n 2, 1) := by decide +kernel
theorem dX11_account_131 : decode cX11_account 131 = .ok (.iload 8, 2) := by decide +kernel
theorem dX11_account_133 : decode cX11_account 133 = .ok (.iload 7, 2) := by decide +kernel
theorem dX11_account_135 : decode cX11_account 135 = .ok (.invokevirtual 229, 3) := by decide +kernel
theorem dX11_account_138 : decode cX11_account 138 = .ok (.ifCond .ne 12, 3) := by decide +kernel
theorem dX11_account_141 : decode cX11_account 141 = .ok (.iload 6, 2) := by decide +kernel
theorem dX11_account_143 : decode cX11_account 143 = .ok (.iconst 1, 1) := by decide +kernel
theorem dX11_account_144 : decode cX11_account 144 = .ok (.iload 7, 2) := by decide +kernel
theorem dX11_account_146 : decode cX11_account 146 = .ok (.ishl, 1) := by decide +kernel
theorem dX11_account_147 : decode cX11_account 147 = .ok (.ior, 1) := by decide +kernel
theorem dX11_account_148 : decode cX11_account 148 = .ok (.istore 6, 2) := by decide +kernel
theorem dX11_account_150 : decode cX11_account 150 = .ok (.iinc 7 1, 3) := by decide +kernel
theorem dX11_account_153 : decode cX11_account 153 = .ok (.goto (-75), 3) := by decide +kernel
theorem dX11_account_156 : decode cX11_account 156 = .ok (.aload_n 0, 1) := by decide +kernel
theorem dX11_account_157 : decode cX11_account 157 = .ok (.iload 6, 2) := by decide +kernel
theorem dX11_account_159 : decode cX11_account 159 = .ok (.invokevirtual 64, 3) := by decide +kernel
theorem dX11_account_162 : decode cX11_account 162 = .ok (.ireturn, 1) := by decide +kernel
set_option maxRecDepth 20000 in
theorem ggX11_met_X3_isPerson : GoodIn wsX11_met wsX3_isPerson := goodIn_r _ [7, 8, 26, 27, 28, 29, 30, 31, 32, 33, 34, 35, 36, 37, 38, 39, 40] (by decide +kernel) (by decide +kernel)
set_option maxRecDepth 20000 in
theorem gX11_met_X3_isPerson : GoodIn wsX11_met (wsV RX11 220 RX3 yX3_isPerson wsX3_isPerson) := goodIn_app (goodIn_of _ (by decide +kernel)) ggX11_met_X3_isPerson
set_option maxRecDepth 20000 in
theorem ggX11_met_X3_minutesTogether : GoodIn wsX11_met wsX3_minutesTogether := goodIn_r _ [12, 13, 14, 15, 6, 16, 17, 26, 27, 28, 29, 30, 31, 32, 33, 34, 35, 36, 37, 38, 39, 40] (by decide +kernel) (by decide +kernel)
set_option maxRecDepth 20000 in
theorem gX11_met_X3_minutesTogether : GoodIn wsX11_met (wsV RX11 264 RX3 yX3_minutesTogether wsX3_minutesTogether) := goodIn_app (goodIn_of _ (by decide +kernel)) ggX11_met_X3_minutesTogether
theorem dX11_met_0 : decode cX11_met 0 = .ok (.aload_n 0, 1) := by decide +kernel
theorem dX11_met_1 : decode cX11_met 1 = .ok (.getfield 25, 3) := by decide +kernel
theorem dX11_met_4 : decode cX11_met 4 = .ok (.iload_n 1, 1) := by decide +kernel
theorem dX11_met_5 : decode cX11_met 5 = .ok (.invokevirtual 220, 3) := by decide +kernel
theorem dX11_met_8 : decode cX11_met 8 = .ok (.ifCond .eq 19, 3) := by decide +kernel
theorem dX11_met_11 : decode cX11_met 11 = .ok (.aload_n 0, 1) := by decide +kernel
theorem dX11_met_12 : decode cX11_met 12 = .ok (.getfield 25, 3) := by decide +kernel
theorem dX11_met_15 : decode cX11_met 15 = .ok (.iload_n 2, 1) := by decide +kernel
theorem dX11_met_16 : decode cX11_met 16 = .ok (.invokevirtual 220, 3) := by decide +kernel
theorem dX11_met_19 : decode cX11_met 19 = .ok (.ifCond .eq 8, 3) := by decide +kernel
theorem dX11_met_22 : decode cX11_met 22 = .ok (.iload_n 1, 1) := by decide +kernel
theorem dX11_met_23 : decode cX11_met 23 = .ok (.iload_n 2, 1) := by decide +kernel
theorem dX11_met_24 : decode cX11_met 24 = .ok (.if_icmp .ne 6, 3) := by decide +kernel
theorem dX11_met_27 : decode cX11_met 27 = .ok (.ldc 55, 2) := by decide +kernel
theorem dX11_met_29 : decode cX11_met 29 = .ok (.ireturn, 1) := by decide +kernel
