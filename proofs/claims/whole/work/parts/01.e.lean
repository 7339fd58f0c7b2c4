theorem dX12_buy_1 : decode cX12_buy 1 = .ok (.iload_n 1, 1) := by decide +kernel
theorem dX12_buy_2 : decode cX12_buy 2 = .ok (.iload_n 2, 1) := by decide +kernel
theorem dX12_buy_3 : decode cX12_buy 3 = .ok (.iload_n 3, 1) := by decide +kernel
theorem dX12_buy_4 : decode cX12_buy 4 = .ok (.invokevirtual 163, 3) := by decide +kernel
theorem dX12_buy_7 : decode cX12_buy 7 = .ok (.ifCond .ne 6, 3) := by decide +kernel
theorem dX12_buy_10 : decode cX12_buy 10 = .ok (.ldc 60, 2) := by decide +kernel
theorem dX12_buy_12 : decode cX12_buy 12 = .ok (.ireturn, 1) := by decide +kernel
theorem dX12_buy_13 : decode cX12_buy 13 = .ok (.aload_n 0, 1) := by decide +kernel
theorem dX12_buy_14 : decode cX12_buy 14 = .ok (.iload_n 2, 1) := by decide +kernel
theorem dX12_buy_15 : decode cX12_buy 15 = .ok (.iload_n 3, 1) := by decide +kernel
theorem dX12_buy_16 : decode cX12_buy 16 = .ok (.invokevirtual 153, 3) := by decide +kernel
theorem dX12_buy_19 : decode cX12_buy 19 = .ok (.iload_n 1, 1) := by decide +kernel
theorem dX12_buy_20 : decode cX12_buy 20 = .ok (.invokestatic 157, 3) := by decide +kernel
theorem dX12_buy_23 : decode cX12_buy 23 = .ok (.ifCond .eq 6, 3) := by decide +kernel
theorem dX12_buy_26 : decode cX12_buy 26 = .ok (.ldc 166, 2) := by decide +kernel
theorem dX12_buy_28 : decode cX12_buy 28 = .ok (.ireturn, 1) := by decide +kernel
theorem dX12_buy_29 : decode cX12_buy 29 = .ok (.aload_n 0, 1) := by decide +kernel
theorem dX12_buy_30 : decode cX12_buy 30 = .ok (.iload_n 1, 1) := by decide +kernel
theorem dX12_buy_31 : decode cX12_buy 31 = .ok (.iload_n 2, 1) := by decide +kernel
theorem dX12_buy_32 : decode cX12_buy 32 = .ok (.iload_n 3, 1) := by decide +kernel
theorem dX12_buy_33 : decode cX12_buy 33 = .ok (.invokevirtual 167, 3) := by decide +kernel
theorem dX12_buy_36 : decode cX12_buy 36 = .ok (.istore 4, 2) := by decide +kernel
theorem dX12_buy_38 : decode cX12_buy 38 = .ok (.aload_n 0, 1) := by decide +kernel
theorem dX12_buy_39 : decode cX12_buy 39 = .ok (.iload_n 2, 1) := by decide +kernel
theorem dX12_buy_40 : decode cX12_buy 40 = .ok (.iload_n 3, 1) := by decide +kernel
theorem dX12_buy_41 : decode cX12_buy 41 = .ok (.invokevirtual 171, 3) := by decide +kernel
theorem dX12_buy_44 : decode cX12_buy 44 = .ok (.ifCond .eq 26, 3) := by decide +kernel
theorem dX12_buy_47 : decode cX12_buy 47 = .ok (.aload_n 0, 1) := by decide +kernel
theorem dX12_buy_48 : decode cX12_buy 48 = .ok (.invokevirtual 174, 3) := by decide +kernel
theorem dX12_buy_51 : decode cX12_buy 51 = .ok (.bipush 24, 2) := by decide +kernel
theorem dX12_buy_53 : decode cX12_buy 53 = .ok (.if_icmp .eq 17, 3) := by decide +kernel
theorem dX12_buy_56 : decode cX12_buy 56 = .ok (.aload_n 0, 1) := by decide +kernel
theorem dX12_buy_57 : decode cX12_buy 57 = .ok (.getfield 31, 3) := by decide +kernel
theorem dX12_buy_60 : decode cX12_buy 60 = .ok (.bipush 47, 2) := by decide +kernel
theorem dX12_buy_62 : decode cX12_buy 62 = .ok (.iload_n 1, 1) := by decide +kernel
theorem dX12_buy_63 : decode cX12_buy 63 = .ok (.iadd, 1) := by decide +kernel
theorem dX12_buy_64 : decode cX12_buy 64 = .ok (.iaload, 1) := by decide +kernel
theorem dX12_buy_65 : decode cX12_buy 65 = .ok (.iload 4, 2) := by decide +kernel
theorem dX12_buy_67 : decode cX12_buy 67 = .ok (.if_icmp .ge 6, 3) := by decide +kernel
theorem dX12_buy_70 : decode cX12_buy 70 = .ok (.ldc 74, 2) := by decide +kernel
theorem dX12_buy_72 : decode cX12_buy 72 = .ok (.ireturn, 1) := by decide +kernel
theorem dX12_buy_73 : decode cX12_buy 73 = .ok (.aload_n 0, 1) := by decide +kernel
theorem dX12_buy_74 : decode cX12_buy 74 = .ok (.iconst 0, 1) := by decide +kernel
theorem dX12_buy_75 : decode cX12_buy 75 = .ok (.iload_n 1, 1) := by decide +kernel
theorem dX12_buy_76 : decode cX12_buy 76 = .ok (.iload_n 2, 1) := by decide +kernel
theorem dX12_buy_77 : decode cX12_buy 77 = .ok (.iload_n 3, 1) := by decide +kernel
theorem dX12_buy_78 : decode cX12_buy 78 = .ok (.aload_n 0, 1) := by decide +kernel
theorem dX12_buy_79 : decode cX12_buy 79 = .ok (.getfield 31, 3) := by decide +kernel
theorem dX12_buy_82 : decode cX12_buy 82 = .ok (.bipush 47, 2) := by decide +kernel
theorem dX12_buy_84 : decode cX12_buy 84 = .ok (.iload_n 1, 1) := by decide +kernel
theorem dX12_buy_85 : decode cX12_buy 85 = .ok (.iadd, 1) := by decide +kernel
theorem dX12_buy_86 : decode cX12_buy 86 = .ok (.iaload, 1) := by decide +kernel
theorem dX12_buy_87 : decode cX12_buy 87 = .ok (.invokevirtual 178, 3) := by decide +kernel
theorem dX12_buy_90 : decode cX12_buy 90 = .ok (.aload_n 0, 1) := by decide +kernel
theorem dX12_buy_91 : decode cX12_buy 91 = .ok (.getfield 31, 3) := by decide +kernel
theorem dX12_buy_94 : decode cX12_buy 94 = .ok (.bipush 47, 2) := by decide +kernel
theorem dX12_buy_96 : decode cX12_buy 96 = .ok (.iload_n 1, 1) := by decide +kernel
theorem dX12_buy_97 : decode cX12_buy 97 = .ok (.iadd, 1) := by decide +kernel
theorem dX12_buy_98 : decode cX12_buy 98 = .ok (.dup2, 1) := by decide +kernel
theorem dX12_buy_99 : decode cX12_buy 99 = .ok (.iaload, 1) := by decide +kernel
theorem dX12_buy_100 : decode cX12_buy 100 = .ok (.iload 4, 2) := by decide +kernel
theorem dX12_buy_102 : decode cX12_buy 102 = .ok (.isub, 1) := by decide +kernel
theorem dX12_buy_103 : decode cX12_buy 103 = .ok (.iastore, 1) := by decide +kernel
theorem dX12_buy_104 : decode cX12_buy 104 = .ok (.aload_n 0, 1) := by decide +kernel
theorem dX12_buy_105 : decode cX12_buy 105 = .ok (.getfield 31, 3) := by decide +kernel
theorem dX12_buy_108 : decode cX12_buy 108 = .ok (.bipush 100, 2) := by decide +kernel
theorem dX12_buy_110 : decode cX12_buy 110 = .ok (.bipush 6, 2) := by decide +kernel
theorem dX12_buy_112 : decode cX12_buy 112 = .ok (.iload_n 3, 1) := by decide +kernel
theorem dX12_buy_113 : decode cX12_buy 113 = .ok (.imul, 1) := by decide +kernel
theorem dX12_buy_114 : decode cX12_buy 114 = .ok (.iadd, 1) := by decide +kernel
theorem dX12_buy_115 : decode cX12_buy 115 = .ok (.iload_n 2, 1) := by decide +kernel
theorem dX12_buy_116 : decode cX12_buy 116 = .ok (.iadd, 1) := by decide +kernel
theorem dX12_buy_117 : decode cX12_buy 117 = .ok (.aload_n 0, 1) := by decide +kernel
theorem dX12_buy_118 : decode cX12_buy 118 = .ok (.getfield 31, 3) := by decide +kernel
theorem dX12_buy_121 : decode cX12_buy 121 = .ok (.bipush 100, 2) := by decide +kernel
theorem dX12_buy_123 : decode cX12_buy 123 = .ok (.bipush 6, 2) := by decide +kernel
theorem dX12_buy_125 : decode cX12_buy 125 = .ok (.iload_n 3, 1) := by decide +kernel
theorem dX12_buy_126 : decode cX12_buy 126 = .ok (.imul, 1) := by decide +kernel
theorem dX12_buy_127 : decode cX12_buy 127 = .ok (.iadd, 1) := by decide +kernel
theorem dX12_buy_128 : decode cX12_buy 128 = .ok (.iload_n 2, 1) := by decide +kernel
theorem dX12_buy_129 : decode cX12_buy 129 = .ok (.iadd, 1) := by decide +kernel
theorem dX12_buy_130 : decode cX12_buy 130 = .ok (.iaload, 1) := by decide +kernel
theorem dX12_buy_131 : decode cX12_buy 131 = .ok (.iconst 1, 1) := by decide +kernel
theorem dX12_buy_132 : decode cX12_buy 132 = .ok (.iload_n 1, 1) := by decide +kernel
theorem dX12_buy_133 : decode cX12_buy 133 = .ok (.ishl, 1) := by decide +kernel
theorem dX12_buy_134 : decode cX12_buy 134 = .ok (.ior, 1) := by decide +kernel
theorem dX12_buy_135 : decode cX12_buy 135 = .ok (.iastore, 1) := by decide +kernel
theorem dX12_buy_136 : decode cX12_buy 136 = .ok (.iload 4, 2) := by decide +kernel
theorem dX12_buy_138 : decode cX12_buy 138 = .ok (.ireturn, 1) := by decide +kernel
set_option maxRecDepth 20000 in
theorem ggX12_back_X12_isSeat : GoodIn wsX12_back wsX12_isSeat := goodIn_r _ [8, 9, 10, 11, 7, 12, 3, 13, 14, 15, 16, 17, 18, 19, 20, 21, 22, 36, 37, 38, 39, 40, 41, 42, 43, 44, 45, 46, 47, 48, 49, 50, 51, 52, 53, 54, 55, 56, 57, 58, 59, 60, 61, 62] (by decide +kernel) (by decide +kernel)
set_option maxRecDepth 20000 in
theorem gX12_back_X12_isSeat : GoodIn wsX12_back (wsV RX12 163 RX12 yX12_isSeat wsX12_isSeat) := goodIn_app (goodIn_of _ (by decide +kernel)) ggX12_back_X12_isSeat
set_option maxRecDepth 20000 in
theorem ggX12_back_X12_heldAt : GoodIn wsX12_back wsX12_heldAt := goodIn_r _ [26, 3, 36, 37, 38, 39, 40, 41, 42, 43, 44, 45, 46, 47, 48, 49, 50, 51, 52, 53, 54, 55, 56, 57, 58, 59, 60, 61, 62] (by decide +kernel) (by decide +kernel)
set_option maxRecDepth 20000 in
theorem gX12_back_X12_heldAt : GoodIn wsX12_back (wsV RX12 153 RX12 yX12_heldAt wsX12_heldAt) := goodIn_app (goodIn_of _ (by decide +kernel)) ggX12_back_X12_heldAt
set_option maxRecDepth 20000 in
theorem ggX12_back_X12_has : GoodIn wsX12_back wsX12_has := goodIn_r _ [29] (by decide +kernel) (by decide +kernel)
set_option maxRecDepth 20000 in
theorem gX12_back_X12_has : GoodIn wsX12_back (va_wsS RX12 157 yX12_has wsX12_has) := goodIn_app (goodIn_of _ (by decide +kernel)) ggX12_back_X12_has
set_option maxRecDepth 20000 in
theorem ggX12_back_X12_note : GoodIn wsX12_back wsX12_note := goodIn_r _ [33, 34, 35, 36, 37, 38, 39, 40, 41, 42, 43, 44, 45, 46, 47, 48, 49, 50, 51, 52, 53, 54, 55, 56, 57, 58, 59, 60, 61, 62] (by decide +kernel) (by decide +kernel)
set_option maxRecDepth 20000 in
theorem gX12_back_X12_note : GoodIn wsX12_back (wsV RX12 178 RX12 yX12_note wsX12_note) := goodIn_app (goodIn_of _ (by decide +kernel)) ggX12_back_X12_note
theorem dX12_back_0 : decode cX12_back 0 = .ok (.aload_n 0, 1) := by decide +kernel
theorem dX12_back_1 : decode cX12_back 1 = .ok (.iload_n 1, 1) := by decide +kernel
theorem dX12_back_2 : decode cX12_back 2 = .ok (.iload_n 2, 1) := by decide +kernel
theorem dX12_back_3 : decode cX12_back 3 = .ok (.iload_n 3, 1) := by decide +kernel
theorem dX12_back_4 : decode cX12_back 4 = .ok (.invokevirtual 163, 3) := by decide +kernel
theorem dX12_back_7 : decode cX12_back 7 = .ok (.ifCond .ne 6, 3) := by decide +kernel
theorem dX12_back_10 : decode cX12_back 10 = .ok (.ldc 60, 2) := by decide +kernel
theorem dX12_back_12 : decode cX12_back 12 = .ok (.ireturn, 1) := by decide +kernel
theorem dX12_back_13 : decode cX12_back 13 = .ok (.aload_n 0, 1) := by decide +kernel
theorem dX12_back_14 : decode cX12_back 14 = .ok (.iload_n 2, 1) := by decide +kernel
theorem dX12_back_15 : decode cX12_back 15 = .ok (.iload_n 3, 1) := by decide +kernel
theorem dX12_back_16 : decode cX12_back 16 = .ok (.invokevirtual 153, 3) := by decide +kernel
theorem dX12_back_19 : decode cX12_back 19 = .ok (.iload_n 1, 1) := by decide +kernel
theorem dX12_back_20 : decode cX12_back 20 = .ok (.invokestatic 157, 3) := by decide +kernel
theorem dX12_back_23 : decode cX12_back 23 = .ok (.ifCond .ne 6, 3) := by decide +kernel
theorem dX12_back_26 : decode cX12_back 26 = .ok (.ldc 166, 2) := by decide +kernel
theorem dX12_back_28 : decode cX12_back 28 = .ok (.ireturn, 1) := by decide +kernel
theorem dX12_back_29 : decode cX12_back 29 = .ok (.aload_n 0, 1) := by decide +kernel
theorem dX12_back_30 : decode cX12_back 30 = .ok (.iconst 1, 1) := by decide +kernel
theorem dX12_back_31 : decode cX12_back 31 = .ok (.iload_n 1, 1) := by decide +kernel
theorem dX12_back_32 : decode cX12_back 32 = .ok (.iload_n 2, 1) := by decide +kernel
theorem dX12_back_33 : decode cX12_back 33 = .ok (.iload_n 3, 1) := by decide +kernel
theorem dX12_back_34 : decode cX12_back 34 = .ok (.aload_n 0, 1) := by decide +kernel
theorem dX12_back_35 : decode cX12_back 35 = .ok (.getfield 31, 3) := by decide +kernel
theorem dX12_back_38 : decode cX12_back 38 = .ok (.bipush 47, 2) := by decide +kernel
theorem dX12_back_40 : decode cX12_back 40 = .ok (.iload_n 1, 1) := by decide +kernel
theorem dX12_back_41 : decode cX12_back 41 = .ok (.iadd, 1) := by decide +kernel
theorem dX12_back_42 : decode cX12_back 42 = .ok (.iaload, 1) := by decide +kernel
theorem dX12_back_43 : decode cX12_back 43 = .ok (.invokevirtual 178, 3) := by decide +kernel
theorem dX12_back_46 : decode cX12_back 46 = .ok (.aload_n 0, 1) := by decide +kernel
theorem dX12_back_47 : decode cX12_back 47 = .ok (.getfield 31, 3) := by decide +kernel
theorem dX12_back_50 : decode cX12_back 50 = .ok (.bipush 47, 2) := by decide +kernel
theorem dX12_back_52 : decode cX12_back 52 = .ok (.iload_n 1, 1) := by decide +kernel
theorem dX12_back_53 : decode cX12_back 53 = .ok (.iadd, 1) := by decide +kernel
theorem dX12_back_54 : decode cX12_back 54 = .ok (.dup2, 1) := by decide +kernel
theorem dX12_back_55 : decode cX12_back 55 = .ok (.iaload, 1) := by decide +kernel
theorem dX12_back_56 : decode cX12_back 56 = .ok (.aload_n 0, 1) := by decide +kernel
theorem dX12_back_57 : decode cX12_back 57 = .ok (.getfield 31, 3) := by decide +kernel
theorem dX12_back_60 : decode cX12_back 60 = .ok (.iconst 2, 1) := by decide +kernel
theorem dX12_back_61 : decode cX12_back 61 = .ok (.iaload, 1) := by decide +kernel
theorem dX12_back_62 : decode cX12_back 62 = .ok (.iconst 2, 1) := by decide +kernel
theorem dX12_back_63 : decode cX12_back 63 = .ok (.idiv, 1) := by decide +kernel
theorem dX12_back_64 : decode cX12_back 64 = .ok (.iadd, 1) := by decide +kernel
theorem dX12_back_65 : decode cX12_back 65 = .ok (.iastore, 1) := by decide +kernel
theorem dX12_back_66 : decode cX12_back 66 = .ok (.aload_n 0, 1) := by decide +kernel
theorem dX12_back_67 : decode cX12_back 67 = .ok (.getfield 31, 3) := by decide +kernel
theorem dX12_back_70 : decode cX12_back 70 = .ok (.bipush 100, 2) := by decide +kernel
theorem dX12_back_72 : decode cX12_back 72 = .ok (.bipush 6, 2) := by decide +kernel
theorem dX12_back_74 : decode cX12_back 74 = .ok (.iload_n 3, 1) := by decide +kernel
theorem dX12_back_75 : decode cX12_back 75 = .ok (.imul, 1) := by decide +kernel
theorem dX12_back_76 : decode cX12_back 76 = .ok (.iadd, 1) := by decide +kernel
theorem dX12_back_77 : decode cX12_back 77 = .ok (.iload_n 2, 1) := by decide +kernel
theorem dX12_back_78 : decode cX12_back 78 = .ok (.iadd, 1) := by decide +kernel
theorem dX12_back_79 : decode cX12_back 79 = .ok (.aload_n 0, 1) := by decide +kernel
theorem dX12_back_80 : decode cX12_back 80 = .ok (.getfield 31, 3) := by decide +kernel
theorem dX12_back_83 : decode cX12_back 83 = .ok (.bipush 100, 2) := by decide +kernel
theorem dX12_back_85 : decode cX12_back 85 = .ok (.bipush 6, 2) := by decide +kernel
theorem dX12_back_87 : decode cX12_back 87 = .ok (.iload_n 3, 1) := by decide +kernel
theorem dX12_back_88 : decode cX12_back 88 = .ok (.imul, 1) := by decide +kernel
theorem dX12_back_89 : decode cX12_back 89 = .ok (.iadd, 1) := by decide +kernel
theorem dX12_back_90 : decode cX12_back 90 = .ok (.iload_n 2, 1) := by decide +kernel
theorem dX12_back_91 : decode cX12_back 91 = .ok (.iadd, 1) := by decide +kernel
theorem dX12_back_92 : decode cX12_back 92 = .ok (.iaload, 1) := by decide +kernel
theorem dX12_back_93 : decode cX12_back 93 = .ok (.iconst 1, 1) := by decide +kernel
theorem dX12_back_94 : decode cX12_back 94 = .ok (.iload_n 1, 1) := by decide +kernel
theorem dX12_back_95 : decode cX12_back 95 = .ok (.ishl, 1) := by decide +kernel
theorem dX12_back_96 : decode cX12_back 96 = .ok (.iconst (-1), 1) := by decide +kernel
theorem dX12_back_97 : decode cX12_back 97 = .ok (.ixor, 1) := by decide +kernel
theorem dX12_back_98 : decode cX12_back 98 = .ok (.iand, 1) := by decide +kernel
theorem dX12_back_99 : decode cX12_back 99 = .ok (.iastore, 1) := by decide +kernel
theorem dX12_back_100 : decode cX12_back 100 = .ok (.aload_n 0, 1) := by decide +kernel
theorem dX12_back_101 : decode cX12_back 101 = .ok (.getfield 31, 3) := by decide +kernel
theorem dX12_back_104 : decode cX12_back 104 = .ok (.bipush 47, 2) := by decide +kernel
theorem dX12_back_106 : decode cX12_back 106 = .ok (.iload_n 1, 1) := by decide +kernel
theorem dX12_back_107 : decode cX12_back 107 = .ok (.iadd, 1) := by decide +kernel
theorem dX12_back_108 : decode cX12_back 108 = .ok (.iaload, 1) := by decide +kernel
theorem dX12_back_109 : decode cX12_back 109 = .ok (.ireturn, 1) := by decide +kernel
set_option maxRecDepth 20000 in
theorem ggX12_drawnOfAll_X12_bits : GoodIn wsX12_drawnOfAll wsX12_bits := goodIn_r _ [5] (by decide +kernel) (by decide +kernel)
set_option maxRecDepth 20000 in
theorem gX12_drawnOfAll_X12_bits : GoodIn wsX12_drawnOfAll (va_wsS RX12 150 yX12_bits wsX12_bits) := goodIn_app (goodIn_of _ (by decide +kernel)) ggX12_drawnOfAll_X12_bits
theorem dX12_drawnOfAll_0 : decode cX12_drawnOfAll 0 = .ok (.iconst 0, 1) := by decide +kernel
theorem dX12_drawnOfAll_1 : decode cX12_drawnOfAll 1 = .ok (.istore_n 1, 1) := by decide +kernel
theorem dX12_drawnOfAll_2 : decode cX12_drawnOfAll 2 = .ok (.iconst 0, 1) := by decide +kernel
theorem dX12_drawnOfAll_3 : decode cX12_drawnOfAll 3 = .ok (.istore_n 2, 1) := by decide +kernel
theorem dX12_drawnOfAll_4 : decode cX12_drawnOfAll 4 = .ok (.iload_n 2, 1) := by decide +kernel
theorem dX12_drawnOfAll_5 : decode cX12_drawnOfAll 5 = .ok (.bipush 48, 2) := by decide +kernel
theorem dX12_drawnOfAll_7 : decode cX12_drawnOfAll 7 = .ok (.if_icmp .ge 24, 3) := by decide +kernel
theorem dX12_drawnOfAll_10 : decode cX12_drawnOfAll 10 = .ok (.iload_n 1, 1) := by decide +kernel
theorem dX12_drawnOfAll_11 : decode cX12_drawnOfAll 11 = .ok (.aload_n 0, 1) := by decide +kernel
theorem dX12_drawnOfAll_12 : decode cX12_drawnOfAll 12 = .ok (.getfield 31, 3) := by decide +kernel
theorem dX12_drawnOfAll_15 : decode cX12_drawnOfAll 15 = .ok (.bipush 52, 2) := by decide +kernel
theorem dX12_drawnOfAll_17 : decode cX12_drawnOfAll 17 = .ok (.iload_n 2, 1) := by decide +kernel
theorem dX12_drawnOfAll_18 : decode cX12_drawnOfAll 18 = .ok (.iadd, 1) := by decide +kernel
theorem dX12_drawnOfAll_19 : decode cX12_drawnOfAll 19 = .ok (.iaload, 1) := by decide +kernel
theorem dX12_drawnOfAll_20 : decode cX12_drawnOfAll 20 = .ok (.invokestatic 150, 3) := by decide +kernel
theorem dX12_drawnOfAll_23 : decode cX12_drawnOfAll 23 = .ok (.iadd, 1) := by decide +kernel
theorem dX12_drawnOfAll_24 : decode cX12_drawnOfAll 24 = .ok (.istore_n 1, 1) := by decide +kernel
theorem dX12_drawnOfAll_25 : decode cX12_drawnOfAll 25 = .ok (.iinc 2 1, 3) := by decide +kernel
theorem dX12_drawnOfAll_28 : decode cX12_drawnOfAll 28 = .ok (.goto (-24), 3) := by decide +kernel
theorem dX12_drawnOfAll_31 : decode cX12_drawnOfAll 31 = .ok (.iload_n 1, 1) := by decide +kernel
theorem dX12_drawnOfAll_32 : decode cX12_drawnOfAll 32 = .ok (.iconst 2, 1) := by decide +kernel
theorem dX12_drawnOfAll_33 : decode cX12_drawnOfAll 33 = .ok (.idiv, 1) := by decide +kernel
theorem dX12_drawnOfAll_34 : decode cX12_drawnOfAll 34 = .ok (.ireturn, 1) := by decide +kernel
theorem dX12_draw_0 : decode cX12_draw 0 = .ok (.aload_n 0, 1) := by decide +kernel
theorem dX12_draw_1 : decode cX12_draw 1 = .ok (.getfield 31, 3) := by decide +kernel
theorem dX12_draw_4 : decode cX12_draw 4 = .ok (.bipush 52, 2) := by decide +kernel
theorem dX12_draw_6 : decode cX12_draw 6 = .ok (.bipush 6, 2) := by decide +kernel
theorem dX12_draw_8 : decode cX12_draw 8 = .ok (.iload_n 3, 1) := by decide +kernel
theorem dX12_draw_9 : decode cX12_draw 9 = .ok (.imul, 1) := by decide +kernel
theorem dX12_draw_10 : decode cX12_draw 10 = .ok (.iadd, 1) := by decide +kernel
theorem dX12_draw_11 : decode cX12_draw 11 = .ok (.iload_n 1, 1) := by decide +kernel
theorem dX12_draw_12 : decode cX12_draw 12 = .ok (.iadd, 1) := by decide +kernel
theorem dX12_draw_13 : decode cX12_draw 13 = .ok (.aload_n 0, 1) := by decide +kernel
theorem dX12_draw_14 : decode cX12_draw 14 = .ok (.getfield 31, 3) := by decide +kernel
theorem dX12_draw_17 : decode cX12_draw 17 = .ok (.bipush 52, 2) := by decide +kernel
theorem dX12_draw_19 : decode cX12_draw 19 = .ok (.bipush 6, 2) := by decide +kernel
theorem dX12_draw_21 : decode cX12_draw 21 = .ok (.iload_n 3, 1) := by decide +kernel
theorem dX12_draw_22 : decode cX12_draw 22 = .ok (.imul, 1) := by decide +kernel
theorem dX12_draw_23 : decode cX12_draw 23 = .ok (.iadd, 1) := by decide +kernel
theorem dX12_draw_24 : decode cX12_draw 24 = .ok (.iload_n 1, 1) := by decide +kernel
theorem dX12_draw_25 : decode cX12_draw 25 = .ok (.iadd, 1) := by decide +kernel
theorem dX12_draw_26 : decode cX12_draw 26 = .ok (.iaload, 1) := by decide +kernel
theorem dX12_draw_27 : decode cX12_draw 27 = .ok (.iconst 1, 1) := by decide +kernel
theorem dX12_draw_28 : decode cX12_draw 28 = .ok (.iload_n 2, 1) := by decide +kernel
theorem dX12_draw_29 : decode cX12_draw 29 = .ok (.ishl, 1) := by decide +kernel
theorem dX12_draw_30 : decode cX12_draw 30 = .ok (.ixor, 1) := by decide +kernel
theorem dX12_draw_31 : decode cX12_draw 31 = .ok (.iastore, 1) := by decide +kernel
theorem dX12_draw_32 : decode cX12_draw 32 = .ok (.aload_n 0, 1) := by decide +kernel
theorem dX12_draw_33 : decode cX12_draw 33 = .ok (.getfield 31, 3) := by decide +kernel
theorem dX12_draw_36 : decode cX12_draw 36 = .ok (.bipush 52, 2) := by decide +kernel
theorem dX12_draw_38 : decode cX12_draw 38 = .ok (.bipush 6, 2) := by decide +kernel
theorem dX12_draw_40 : decode cX12_draw 40 = .ok (.iload_n 3, 1) := by decide +kernel
theorem dX12_draw_41 : decode cX12_draw 41 = .ok (.imul, 1) := by decide +kernel
theorem dX12_draw_42 : decode cX12_draw 42 = .ok (.iadd, 1) := by decide +kernel
theorem dX12_draw_43 : decode cX12_draw 43 = .ok (.iload_n 2, 1) := by decide +kernel
theorem dX12_draw_44 : decode cX12_draw 44 = .ok (.iadd, 1) := by decide +kernel
theorem dX12_draw_45 : decode cX12_draw 45 = .ok (.aload_n 0, 1) := by decide +kernel
theorem dX12_draw_46 : decode cX12_draw 46 = .ok (.getfield 31, 3) := by decide +kernel
theorem dX12_draw_49 : decode cX12_draw 49 = .ok (.bipush 52, 2) := by decide +kernel
theorem dX12_draw_51 : decode cX12_draw 51 = .ok (.bipush 6, 2) := by decide +kernel
theorem dX12_draw_53 : decode cX12_draw 53 = .ok (.iload_n 3, 1) := by decide +kernel
theorem dX12_draw_54 : decode cX12_draw 54 = .ok (.imul, 1) := by decide +kernel
theorem dX12_draw_55 : decode cX12_draw 55 = .ok (.iadd, 1) := by decide +kernel
theorem dX12_draw_56 : decode cX12_draw 56 = .ok (.iload_n 2, 1) := by decide +kernel
theorem dX12_draw_57 : decode cX12_draw 57 = .ok (.iadd, 1) := by decide +kernel
theorem dX12_draw_58 : decode cX12_draw 58 = .ok (.iaload, 1) := by decide +kernel
theorem dX12_draw_59 : decode cX12_draw 59 = .ok (.iconst 1, 1) := by decide +kernel
theorem dX12_draw_60 : decode cX12_draw 60 = .ok (.iload_n 1, 1) := by decide +kernel
theorem dX12_draw_61 : decode cX12_draw 61 = .ok (.ishl, 1) := by decide +kernel
theorem dX12_draw_62 : decode cX12_draw 62 = .ok (.ixor, 1) := by decide +kernel
theorem dX12_draw_63 : decode cX12_draw 63 = .ok (.iastore, 1) := by decide +kernel
theorem dX12_draw_64 : decode cX12_draw 64 = .ok (.return_, 1) := by decide +kernel
set_option maxRecDepth 20000 in
theorem ggX12_curtain_X12_isRoom : GoodIn wsX12_curtain wsX12_isRoom := goodIn_r _ [8, 1, 9, 10, 7, 11, 35, 36, 37, 38, 39, 40, 41, 42, 43, 44, 45, 46, 47, 48, 49, 50, 51, 52, 53, 54, 55, 56, 57, 58, 59, 60, 61] (by decide +kernel) (by decide +kernel)
set_option maxRecDepth 20000 in
theorem gX12_curtain_X12_isRoom : GoodIn wsX12_curtain (wsV RX12 144 RX12 yX12_isRoom wsX12_isRoom) := goodIn_app (goodIn_of _ (by decide +kernel)) ggX12_curtain_X12_isRoom
set_option maxRecDepth 20000 in
theorem ggX12_curtain_X12_isMinute : GoodIn wsX12_curtain wsX12_isMinute := goodIn_r _ [14, 9, 10, 7, 11] (by decide +kernel) (by decide +kernel)
set_option maxRecDepth 20000 in
theorem gX12_curtain_X12_isMinute : GoodIn wsX12_curtain (va_wsS RX12 147 yX12_isMinute wsX12_isMinute) := goodIn_app (goodIn_of _ (by decide +kernel)) ggX12_curtain_X12_isMinute
set_option maxRecDepth 20000 in
theorem ggX12_curtain_X12_has : GoodIn wsX12_curtain wsX12_has := goodIn_r _ [17] (by decide +kernel) (by decide +kernel)
set_option maxRecDepth 20000 in
theorem gX12_curtain_X12_has : GoodIn wsX12_curtain (va_wsS RX12 157 yX12_has wsX12_has) := goodIn_app (goodIn_of _ (by decide +kernel)) ggX12_curtain_X12_has
set_option maxRecDepth 20000 in
theorem ggX12_curtain_X12_note : GoodIn wsX12_curtain wsX12_note := goodIn_r _ [21, 22, 23, 35, 36, 37, 38, 39, 40, 41, 42, 43, 44, 45, 46, 47, 48, 49, 50, 51, 52, 53, 54, 55, 56, 57, 58, 59, 60, 61] (by decide +kernel) (by decide +kernel)
set_option maxRecDepth 20000 in
theorem gX12_curtain_X12_note : GoodIn wsX12_curtain (wsV RX12 178 RX12 yX12_note wsX12_note) := goodIn_app (goodIn_of _ (by decide +kernel)) ggX12_curtain_X12_note
set_option maxRecDepth 20000 in
theorem ggX12_curtain_X12_draw : GoodIn wsX12_curtain wsX12_draw := goodIn_r _ [27, 1, 35, 36, 37, 38, 39, 40, 41, 42, 43, 44, 45, 46, 47, 48, 49, 50, 51, 52, 53, 54, 55, 56, 57, 58, 59, 60, 61] (by decide +kernel) (by decide +kernel)
set_option maxRecDepth 20000 in
theorem gX12_curtain_X12_draw : GoodIn wsX12_curtain (wsV RX12 182 RX12 yX12_draw wsX12_draw) := goodIn_app (goodIn_of _ (by decide +kernel)) ggX12_curtain_X12_draw
set_option maxRecDepth 20000 in
theorem ggX12_curtain_X12_drawnOfAll : GoodIn wsX12_curtain wsX12_drawnOfAll := goodIn_r _ [31, 1, 32, 33, 7, 34, 35, 36, 37, 38, 39, 40, 41, 42, 43, 44, 45, 46, 47, 48, 49, 50, 51, 52, 53, 54, 55, 56, 57, 58, 59, 60, 61] (by decide +kernel) (by decide +kernel)
set_option maxRecDepth 20000 in
theorem gX12_curtain_X12_drawnOfAll : GoodIn wsX12_curtain (wsV RX12 186 RX12 yX12_drawnOfAll wsX12_drawnOfAll) := goodIn_app (goodIn_of _ (by decide +kernel)) ggX12_curtain_X12_drawnOfAll
theorem dX12_curtain_0 : decode cX12_curtain 0 = .ok (.aload_n 0, 1) := by decide +kernel
theorem dX12_curtain_1 : decode cX12_curtain 1 = .ok (.iload_n 1, 1) := by decide +kernel
theorem dX12_curtain_2 : decode cX12_curtain 2 = .ok (.invokevirtual 144, 3) := by decide +kernel
theorem dX12_curtain_5 : decode cX12_curtain 5 = .ok (.ifCond .eq 33, 3) := by decide +kernel
theorem dX12_curtain_8 : decode cX12_curtain 8 = .ok (.aload_n 0, 1) := by decide +kernel
theorem dX12_curtain_9 : decode cX12_curtain 9 = .ok (.iload_n 2, 1) := by decide +kernel
theorem dX12_curtain_10 : decode cX12_curtain 10 = .ok (.invokevirtual 144, 3) := by decide +kernel
theorem dX12_curtain_13 : decode cX12_curtain 13 = .ok (.ifCond .eq 25, 3) := by decide +kernel
theorem dX12_curtain_16 : decode cX12_curtain 16 = .ok (.iload_n 3, 1) := by decide +kernel
theorem dX12_curtain_17 : decode cX12_curtain 17 = .ok (.invokestatic 147, 3) := by decide +kernel
theorem dX12_curtain_20 : decode cX12_curtain 20 = .ok (.ifCond .eq 18, 3) := by decide +kernel
theorem dX12_curtain_23 : decode cX12_curtain 23 = .ok (.aload_n 0, 1) := by decide +kernel
theorem dX12_curtain_24 : decode cX12_curtain 24 = .ok (.getfield 31, 3) := by decide +kernel
theorem dX12_curtain_27 : decode cX12_curtain 27 = .ok (.iconst 5, 1) := by decide +kernel
theorem dX12_curtain_28 : decode cX12_curtain 28 = .ok (.iload_n 1, 1) := by decide +kernel
theorem dX12_curtain_29 : decode cX12_curtain 29 = .ok (.iadd, 1) := by decide +kernel
theorem dX12_curtain_30 : decode cX12_curtain 30 = .ok (.iaload, 1) := by decide +kernel
theorem dX12_curtain_31 : decode cX12_curtain 31 = .ok (.iload_n 2, 1) := by decide +kernel
theorem dX12_curtain_32 : decode cX12_curtain 32 = .ok (.invokestatic 157, 3) := by decide +kernel
theorem dX12_curtain_35 : decode cX12_curtain 35 = .ok (.ifCond .ne 6, 3) := by decide +kernel
theorem dX12_curtain_38 : decode cX12_curtain 38 = .ok (.ldc 60, 2) := by decide +kernel
theorem dX12_curtain_40 : decode cX12_curtain 40 = .ok (.ireturn, 1) := by decide +kernel
theorem dX12_curtain_41 : decode cX12_curtain 41 = .ok (.aload_n 0, 1) := by decide +kernel
theorem dX12_curtain_42 : decode cX12_curtain 42 = .ok (.getfield 31, 3) := by decide +kernel
theorem dX12_curtain_45 : decode cX12_curtain 45 = .ok (.bipush 52, 2) := by decide +kernel
theorem dX12_curtain_47 : decode cX12_curtain 47 = .ok (.bipush 6, 2) := by decide +kernel
theorem dX12_curtain_49 : decode cX12_curtain 49 = .ok (.iload_n 3, 1) := by decide +kernel
theorem dX12_curtain_50 : decode cX12_curtain 50 = .ok (.imul, 1) := by decide +kernel
theorem dX12_curtain_51 : decode cX12_curtain 51 = .ok (.iadd, 1) := by decide +kernel
theorem dX12_curtain_52 : decode cX12_curtain 52 = .ok (.iload_n 1, 1) := by decide +kernel
theorem dX12_curtain_53 : decode cX12_curtain 53 = .ok (.iadd, 1) := by decide +kernel
theorem dX12_curtain_54 : decode cX12_curtain 54 = .ok (.iaload, 1) := by decide +kernel
theorem dX12_curtain_55 : decode cX12_curtain 55 = .ok (.iload_n 2, 1) := by decide +kernel
theorem dX12_curtain_56 : decode cX12_curtain 56 = .ok (.invokestatic 157, 3) := by decide +kernel
theorem dX12_curtain_59 : decode cX12_curtain 59 = .ok (.ifCond .eq 6, 3) := by decide +kernel
theorem dX12_curtain_62 : decode cX12_curtain 62 = .ok (.ldc 166, 2) := by decide +kernel
theorem dX12_curtain_64 : decode cX12_curtain 64 = .ok (.ireturn, 1) := by decide +kernel
theorem dX12_curtain_65 : decode cX12_curtain 65 = .ok (.aload_n 0, 1) := by decide +kernel
theorem dX12_curtain_66 : decode cX12_curtain 66 = .ok (.iconst 2, 1) := by decide +kernel
theorem dX12_curtain_67 : decode cX12_curtain 67 = .ok (.iload_n 1, 1) := by decide +kernel
theorem dX12_curtain_68 : decode cX12_curtain 68 = .ok (.iload_n 2, 1) := by decide +kernel
theorem dX12_curtain_69 : decode cX12_curtain 69 = .ok (.iload_n 3, 1) := by decide +kernel
theorem dX12_curtain_70 : decode cX12_curtain 70 = .ok (.iconst 0, 1) := by decide +kernel
theorem dX12_curtain_71 : decode cX12_curtain 71 = .ok (.invokevirtual 178, 3) := by decide +kernel
theorem dX12_curtain_74 : decode cX12_curtain 74 = .ok (.aload_n 0, 1) := by decide +kernel
theorem dX12_curtain_75 : decode cX12_curtain 75 = .ok (.iload_n 1, 1) := by decide +kernel
theorem dX12_curtain_76 : decode cX12_curtain 76 = .ok (.iload_n 2, 1) := by decide +kernel
theorem dX12_curtain_77 : decode cX12_curtain 77 = .ok (.iload_n 3, 1) := by decide +kernel
theorem dX12_curtain_78 : decode cX12_curtain 78 = .ok (.invokevirtual 182, 3) := by decide +kernel
theorem dX12_curtain_81 : decode cX12_curtain 81 = .ok (.aload_n 0, 1) := by decide +kernel
theorem dX12_curtain_82 : decode cX12_curtain 82 = .ok (.invokevirtual 186, 3) := by decide +kernel
theorem dX12_curtain_85 : decode cX12_curtain 85 = .ok (.ireturn, 1) := by decide +kernel
set_option maxRecDepth 20000 in
theorem ggX12_write_X12_isMinute : GoodIn wsX12_write wsX12_isMinute := goodIn_r _ [7, 8, 9, 6, 10] (by decide +kernel) (by decide +kernel)
set_option maxRecDepth 20000 in
theorem gX12_write_X12_isMinute : GoodIn wsX12_write (va_wsS RX12 147 yX12_isMinute wsX12_isMinute) := goodIn_app (goodIn_of _ (by decide +kernel)) ggX12_write_X12_isMinute
set_option maxRecDepth 20000 in
theorem ggX12_write_X12_has : GoodIn wsX12_write wsX12_has := goodIn_r _ [13] (by decide +kernel) (by decide +kernel)
set_option maxRecDepth 20000 in
theorem gX12_write_X12_has : GoodIn wsX12_write (va_wsS RX12 157 yX12_has wsX12_has) := goodIn_app (goodIn_of _ (by decide +kernel)) ggX12_write_X12_has
set_option maxRecDepth 20000 in
theorem ggX12_write_X12_note : GoodIn wsX12_write wsX12_note := goodIn_r _ [17, 18, 19, 23, 24, 25, 26, 27, 28, 29, 30, 31, 32, 33, 34, 35, 36, 37, 38, 39, 40, 41, 42, 43, 44, 45, 46, 47, 48, 49] (by decide +kernel) (by decide +kernel)
set_option maxRecDepth 20000 in
theorem gX12_write_X12_note : GoodIn wsX12_write (wsV RX12 178 RX12 yX12_note wsX12_note) := goodIn_app (goodIn_of _ (by decide +kernel)) ggX12_write_X12_note
set_option maxRecDepth 20000 in
theorem ggX12_write_X12_bits : GoodIn wsX12_write wsX12_bits := goodIn_r _ [22] (by decide +kernel) (by decide +kernel)
set_option maxRecDepth 20000 in
theorem gX12_write_X12_bits : GoodIn wsX12_write (va_wsS RX12 150 yX12_bits wsX12_bits) := goodIn_app (goodIn_of _ (by decide +kernel)) ggX12_write_X12_bits
theorem dX12_write_0 : decode cX12_write 0 = .ok (.aload_n 0, 1) := by decide +kernel
theorem dX12_write_1 : decode cX12_write 1 = .ok (.getfield 31, 3) := by decide +kernel
theorem dX12_write_4 : decode cX12_write 4 = .ok (.iconst 0, 1) := by decide +kernel
theorem dX12_write_5 : decode cX12_write 5 = .ok (.iaload, 1) := by decide +kernel
theorem dX12_write_6 : decode cX12_write 6 = .ok (.ifCond .ne 6, 3) := by decide +kernel
theorem dX12_write_9 : decode cX12_write 9 = .ok (.ldc 166, 2) := by decide +kernel
theorem dX12_write_11 : decode cX12_write 11 = .ok (.ireturn, 1) := by decide +kernel
theorem dX12_write_12 : decode cX12_write 12 = .ok (.iload_n 1, 1) := by decide +kernel
theorem dX12_write_13 : decode cX12_write 13 = .ok (.invokestatic 147, 3) := by decide +kernel
theorem dX12_write_16 : decode cX12_write 16 = .ok (.ifCond .ne 6, 3) := by decide +kernel
theorem dX12_write_19 : decode cX12_write 19 = .ok (.ldc 60, 2) := by decide +kernel
theorem dX12_write_21 : decode cX12_write 21 = .ok (.ireturn, 1) := by decide +kernel
theorem dX12_write_22 : decode cX12_write 22 = .ok (.aload_n 0, 1) := by decide +kernel
theorem dX12_write_23 : decode cX12_write 23 = .ok (.getfield 31, 3) := by decide +kernel
theorem dX12_write_26 : decode cX12_write 26 = .ok (.bipush 51, 2) := by decide +kernel
theorem dX12_write_28 : decode cX12_write 28 = .ok (.iaload, 1) := by decide +kernel
theorem dX12_write_29 : decode cX12_write 29 = .ok (.iload_n 1, 1) := by decide +kernel
theorem dX12_write_30 : decode cX12_write 30 = .ok (.invokestatic 157, 3) := by decide +kernel
theorem dX12_write_33 : decode cX12_write 33 = .ok (.ifCond .eq 6, 3) := by decide +kernel
theorem dX12_write_36 : decode cX12_write 36 = .ok (.ldc 166, 2) := by decide +kernel
theorem dX12_write_38 : decode cX12_write 38 = .ok (.ireturn, 1) := by decide +kernel
theorem dX12_write_39 : decode cX12_write 39 = .ok (.aload_n 0, 1) := by decide +kernel
theorem dX12_write_40 : decode cX12_write 40 = .ok (.iconst 3, 1) := by decide +kernel
theorem dX12_write_41 : decode cX12_write 41 = .ok (.iconst 0, 1) := by decide +kernel
theorem dX12_write_42 : decode cX12_write 42 = .ok (.iconst 0, 1) := by decide +kernel
theorem dX12_write_43 : decode cX12_write 43 = .ok (.iload_n 1, 1) := by decide +kernel
theorem dX12_write_44 : decode cX12_write 44 = .ok (.iconst 0, 1) := by decide +kernel
theorem dX12_write_45 : decode cX12_write 45 = .ok (.invokevirtual 178, 3) := by decide +kernel
theorem dX12_write_48 : decode cX12_write 48 = .ok (.aload_n 0, 1) := by decide +kernel
theorem dX12_write_49 : decode cX12_write 49 = .ok (.getfield 31, 3) := by decide +kernel
theorem dX12_write_52 : decode cX12_write 52 = .ok (.bipush 51, 2) := by decide +kernel
theorem dX12_write_54 : decode cX12_write 54 = .ok (.aload_n 0, 1) := by decide +kernel
theorem dX12_write_55 : decode cX12_write 55 = .ok (.getfield 31, 3) := by decide +kernel
theorem dX12_write_58 : decode cX12_write 58 = .ok (.bipush 51, 2) := by decide +kernel
theorem dX12_write_60 : decode cX12_write 60 = .ok (.iaload, 1) := by decide +kernel
theorem dX12_write_61 : decode cX12_write 61 = .ok (.iconst 1, 1) := by decide +kernel
theorem dX12_write_62 : decode cX12_write 62 = .ok (.iload_n 1, 1) := by decide +kernel
theorem dX12_write_63 : decode cX12_write 63 = .ok (.ishl, 1) := by decide +kernel
theorem dX12_write_64 : decode cX12_write 64 = .ok (.ior, 1) := by decide +kernel
theorem dX12_write_65 : decode cX12_write 65 = .ok (.iastore, 1) := by decide +kernel
theorem dX12_write_66 : decode cX12_write 66 = .ok (.aload_n 0, 1) := by decide +kernel
theorem dX12_write_67 : decode cX12_write 67 = .ok (.getfield 31, 3) := by decide +kernel
theorem dX12_write_70 : decode cX12_write 70 = .ok (.bipush 51, 2) := by decide +kernel
theorem dX12_write_72 : decode cX12_write 72 = .ok (.iaload, 1) := by decide +kernel
theorem dX12_write_73 : decode cX12_write 73 = .ok (.invokestatic 150, 3) := by decide +kernel
theorem dX12_write_76 : decode cX12_write 76 = .ok (.ireturn, 1) := by decide +kernel
set_option maxRecDepth 20000 in
theorem ggX12_undo_X12_draw : GoodIn wsX12_undo wsX12_draw := goodIn_r _ [9, 4, 10, 11, 12, 13, 14, 15, 16, 17, 18, 19, 20, 21, 22, 23, 24, 25, 26, 27, 28, 29, 30, 31, 32, 33, 34, 35, 36] (by decide +kernel) (by decide +kernel)
set_option maxRecDepth 20000 in
theorem gX12_undo_X12_draw : GoodIn wsX12_undo (wsV RX12 182 RX12 yX12_draw wsX12_draw) := goodIn_app (goodIn_of _ (by decide +kernel)) ggX12_undo_X12_draw
theorem dX12_undo_0 : decode cX12_undo 0 = .ok (.aload_n 0, 1) := by decide +kernel
theorem dX12_undo_1 : decode cX12_undo 1 = .ok (.getfield 138, 3) := by decide +kernel
theorem dX12_undo_4 : decode cX12_undo 4 = .ok (.ifCond .ne 6, 3) := by decide +kernel
theorem dX12_undo_7 : decode cX12_undo 7 = .ok (.ldc 166, 2) := by decide +kernel
theorem dX12_undo_9 : decode cX12_undo 9 = .ok (.ireturn, 1) := by decide +kernel
theorem dX12_undo_10 : decode cX12_undo 10 = .ok (.aload_n 0, 1) := by decide +kernel
theorem dX12_undo_11 : decode cX12_undo 11 = .ok (.dup, 1) := by decide +kernel
theorem dX12_undo_12 : decode cX12_undo 12 = .ok (.getfield 138, 3) := by decide +kernel
theorem dX12_undo_15 : decode cX12_undo 15 = .ok (.iconst 1, 1) := by decide +kernel
theorem dX12_undo_16 : decode cX12_undo 16 = .ok (.isub, 1) := by decide +kernel
theorem dX12_undo_17 : decode cX12_undo 17 = .ok (.putfield 138, 3) := by decide +kernel
theorem dX12_undo_20 : decode cX12_undo 20 = .ok (.aload_n 0, 1) := by decide +kernel
theorem dX12_undo_21 : decode cX12_undo 21 = .ok (.getfield 41, 3) := by decide +kernel
theorem dX12_undo_24 : decode cX12_undo 24 = .ok (.iconst 5, 1) := by decide +kernel
theorem dX12_undo_25 : decode cX12_undo 25 = .ok (.aload_n 0, 1) := by decide +kernel
theorem dX12_undo_26 : decode cX12_undo 26 = .ok (.getfield 138, 3) := by decide +kernel
theorem dX12_undo_29 : decode cX12_undo 29 = .ok (.imul, 1) := by decide +kernel
theorem dX12_undo_30 : decode cX12_undo 30 = .ok (.iaload, 1) := by decide +kernel
theorem dX12_undo_31 : decode cX12_undo 31 = .ok (.istore_n 1, 1) := by decide +kernel
theorem dX12_undo_32 : decode cX12_undo 32 = .ok (.aload_n 0, 1) := by decide +kernel
theorem dX12_undo_33 : decode cX12_undo 33 = .ok (.getfield 41, 3) := by decide +kernel
theorem dX12_undo_36 : decode cX12_undo 36 = .ok (.iconst 5, 1) := by decide +kernel
theorem dX12_undo_37 : decode cX12_undo 37 = .ok (.aload_n 0, 1) := by decide +kernel
theorem dX12_undo_38 : decode cX12_undo 38 = .ok (.getfield 138, 3) := by decide +kernel
theorem dX12_undo_41 : decode cX12_undo 41 = .ok (.imul, 1) := by decide +kernel
theorem dX12_undo_42 : decode cX12_undo 42 = .ok (.iconst 1, 1) := by decide +kernel
theorem dX12_undo_43 : decode cX12_undo 43 = .ok (.iadd, 1) := by decide +kernel
theorem dX12_undo_44 : decode cX12_undo 44 = .ok (.iaload, 1) := by decide +kernel
theorem dX12_undo_45 : decode cX12_undo 45 = .ok (.istore_n 2, 1) := by decide +kernel
theorem dX12_undo_46 : decode cX12_undo 46 = .ok (.aload_n 0, 1) := by decide +kernel
theorem dX12_undo_47 : decode cX12_undo 47 = .ok (.getfield 41, 3) := by decide +kernel
theorem dX12_undo_50 : decode cX12_undo 50 = .ok (.iconst 5, 1) := by decide +kernel
theorem dX12_undo_51 : decode cX12_undo 51 = .ok (.aload_n 0, 1) := by decide +kernel
theorem dX12_undo_52 : decode cX12_undo 52 = .ok (.getfield 138, 3) := by decide +kernel
theorem dX12_undo_55 : decode cX12_undo 55 = .ok (.imul, 1) := by decide +kernel
theorem dX12_undo_56 : decode cX12_undo 56 = .ok (.iconst 2, 1) := by decide +kernel
theorem dX12_undo_57 : decode cX12_undo 57 = .ok (.iadd, 1) := by decide +kernel
theorem dX12_undo_58 : decode cX12_undo 58 = .ok (.iaload, 1) := by decide +kernel
theorem dX12_undo_59 : decode cX12_undo 59 = .ok (.istore_n 3, 1) := by decide +kernel
theorem dX12_undo_60 : decode cX12_undo 60 = .ok (.aload_n 0, 1) := by decide +kernel
theorem dX12_undo_61 : decode cX12_undo 61 = .ok (.getfield 41, 3) := by decide +kernel
theorem dX12_undo_64 : decode cX12_undo 64 = .ok (.iconst 5, 1) := by decide +kernel
theorem dX12_undo_65 : decode cX12_undo 65 = .ok (.aload_n 0, 1) := by decide +kernel
theorem dX12_undo_66 : decode cX12_undo 66 = .ok (.getfield 138, 3) := by decide +kernel
theorem dX12_undo_69 : decode cX12_undo 69 = .ok (.imul, 1) := by decide +kernel
theorem dX12_undo_70 : decode cX12_undo 70 = .ok (.iconst 3, 1) := by decide +kernel
theorem dX12_undo_71 : decode cX12_undo 71 = .ok (.iadd, 1) := by decide +kernel
theorem dX12_undo_72 : decode cX12_undo 72 = .ok (.iaload, 1) := by decide +kernel
theorem dX12_undo_73 : decode cX12_undo 73 = .ok (.istore 4, 2) := by decide +kernel
theorem dX12_undo_75 : decode cX12_undo 75 = .ok (.iload_n 1, 1) := by decide +kernel
theorem dX12_undo_76 : decode cX12_undo 76 = .ok (.iconst 2, 1) := by decide +kernel
theorem dX12_undo_77 : decode cX12_undo 77 = .ok (.if_icmp .ge 62, 3) := by decide +kernel
theorem dX12_undo_80 : decode cX12_undo 80 = .ok (.aload_n 0, 1) := by decide +kernel
theorem dX12_undo_81 : decode cX12_undo 81 = .ok (.getfield 31, 3) := by decide +kernel
theorem dX12_undo_84 : decode cX12_undo 84 = .ok (.bipush 47, 2) := by decide +kernel
theorem dX12_undo_86 : decode cX12_undo 86 = .ok (.iload_n 2, 1) := by decide +kernel
theorem dX12_undo_87 : decode cX12_undo 87 = .ok (.iadd, 1) := by decide +kernel
theorem dX12_undo_88 : decode cX12_undo 88 = .ok (.aload_n 0, 1) := by decide +kernel
theorem dX12_undo_89 : decode cX12_undo 89 = .ok (.getfield 41, 3) := by decide +kernel
theorem dX12_undo_92 : decode cX12_undo 92 = .ok (.iconst 5, 1) := by decide +kernel
theorem dX12_undo_93 : decode cX12_undo 93 = .ok (.aload_n 0, 1) := by decide +kernel
theorem dX12_undo_94 : decode cX12_undo 94 = .ok (.getfield 138, 3) := by decide +kernel
theorem dX12_undo_97 : decode cX12_undo 97 = .ok (.imul, 1) := by decide +kernel
theorem dX12_undo_98 : decode cX12_undo 98 = .ok (.iconst 4, 1) := by decide +kernel
theorem dX12_undo_99 : decode cX12_undo 99 = .ok (.iadd, 1) := by decide +kernel
theorem dX12_undo_100 : decode cX12_undo 100 = .ok (.iaload, 1) := by decide +kernel
theorem dX12_undo_101 : decode cX12_undo 101 = .ok (.iastore, 1) := by decide +kernel
theorem dX12_undo_102 : decode cX12_undo 102 = .ok (.aload_n 0, 1) := by decide +kernel
theorem dX12_undo_103 : decode cX12_undo 103 = .ok (.getfield 31, 3) := by decide +kernel
theorem dX12_undo_106 : decode cX12_undo 106 = .ok (.bipush 100, 2) := by decide +kernel
theorem dX12_undo_108 : decode cX12_undo 108 = .ok (.bipush 6, 2) := by decide +kernel
theorem dX12_undo_110 : decode cX12_undo 110 = .ok (.iload 4, 2) := by decide +kernel
theorem dX12_undo_112 : decode cX12_undo 112 = .ok (.imul, 1) := by decide +kernel
theorem dX12_undo_113 : decode cX12_undo 113 = .ok (.iadd, 1) := by decide +kernel
theorem dX12_undo_114 : decode cX12_undo 114 = .ok (.iload_n 3, 1) := by decide +kernel
theorem dX12_undo_115 : decode cX12_undo 115 = .ok (.iadd, 1) := by decide +kernel
theorem dX12_undo_116 : decode cX12_undo 116 = .ok (.aload_n 0, 1) := by decide +kernel
theorem dX12_undo_117 : decode cX12_undo 117 = .ok (.getfield 31, 3) := by decide +kernel
theorem dX12_undo_120 : decode cX12_undo 120 = .ok (.bipush 100, 2) := by decide +kernel
theorem dX12_undo_122 : decode cX12_undo 122 = .ok (.bipush 6, 2) := by decide +kernel
theorem dX12_undo_124 : decode cX12_undo 124 = .ok (.iload 4, 2) := by decide +kernel
theorem dX12_undo_126 : decode cX12_undo 126 = .ok (.imul, 1) := by decide +kernel
theorem dX12_undo_127 : decode cX12_undo 127 = .ok (.iadd, 1) := by decide +kernel
theorem dX12_undo_128 : decode cX12_undo 128 = .ok (.iload_n 3, 1) := by decide +kernel
theorem dX12_undo_129 : decode cX12_undo 129 = .ok (.iadd, 1) := by decide +kernel
theorem dX12_undo_130 : decode cX12_undo 130 = .ok (.iaload, 1) := by decide +kernel
theorem dX12_undo_131 : decode cX12_undo 131 = .ok (.iconst 1, 1) := by decide +kernel
theorem dX12_undo_132 : decode cX12_undo 132 = .ok (.iload_n 2, 1) := by decide +kernel
theorem dX12_undo_133 : decode cX12_undo 133 = .ok (.ishl, 1) := by decide +kernel
theorem dX12_undo_134 : decode cX12_undo 134 = .ok (.ixor, 1) := by decide +kernel
theorem dX12_undo_135 : decode cX12_undo 135 = .ok (.iastore, 1) := by decide +kernel
theorem dX12_undo_136 : decode cX12_undo 136 = .ok (.goto 40, 3) := by decide +kernel
theorem dX12_undo_139 : decode cX12_undo 139 = .ok (.iload_n 1, 1) := by decide +kernel
theorem dX12_undo_140 : decode cX12_undo 140 = .ok (.iconst 2, 1) := by decide +kernel
theorem dX12_undo_141 : decode cX12_undo 141 = .ok (.if_icmp .ne 14, 3) := by decide +kernel
theorem dX12_undo_144 : decode cX12_undo 144 = .ok (.aload_n 0, 1) := by decide +kernel
theorem dX12_undo_145 : decode cX12_undo 145 = .ok (.iload_n 2, 1) := by decide +kernel
theorem dX12_undo_146 : decode cX12_undo 146 = .ok (.iload_n 3, 1) := by decide +kernel
theorem dX12_undo_147 : decode cX12_undo 147 = .ok (.iload 4, 2) := by decide +kernel
theorem dX12_undo_149 : decode cX12_undo 149 = .ok (.invokevirtual 182, 3) := by decide +kernel
theorem dX12_undo_152 : decode cX12_undo 152 = .ok (.goto 24, 3) := by decide +kernel
theorem dX12_undo_155 : decode cX12_undo 155 = .ok (.aload_n 0, 1) := by decide +kernel
theorem dX12_undo_156 : decode cX12_undo 156 = .ok (.getfield 31, 3) := by decide +kernel
theorem dX12_undo_159 : decode cX12_undo 159 = .ok (.bipush 51, 2) := by decide +kernel
theorem dX12_undo_161 : decode cX12_undo 161 = .ok (.aload_n 0, 1) := by decide +kernel
theorem dX12_undo_162 : decode cX12_undo 162 = .ok (.getfield 31, 3) := by decide +kernel
theorem dX12_undo_165 : decode cX12_undo 165 = .ok (.bipush 51, 2) := by decide +kernel
theorem dX12_undo_167 : decode cX12_undo 167 = .ok (.iaload, 1) := by decide +kernel
theorem dX12_undo_168 : decode cX12_undo 168 = .ok (.iconst 1, 1) := by decide +kernel
theorem dX12_undo_169 : decode cX12_undo 169 = .ok (.iload 4, 2) := by decide +kernel
theorem dX12_undo_171 : decode cX12_undo 171 = .ok (.ishl, 1) := by decide +kernel
theorem dX12_undo_172 : decode cX12_undo 172 = .ok (.iconst (-1), 1) := by decide +kernel
theorem dX12_undo_173 : decode cX12_undo 173 = .ok (.ixor, 1) := by decide +kernel
theorem dX12_undo_174 : decode cX12_undo 174 = .ok (.iand, 1) := by decide +kernel
theorem dX12_undo_175 : decode cX12_undo 175 = .ok (.iastore, 1) := by decide +kernel
theorem dX12_undo_176 : decode cX12_undo 176 = .ok (.aload_n 0, 1) := by decide +kernel
theorem dX12_undo_177 : decode cX12_undo 177 = .ok (.getfield 138, 3) := by decide +kernel
theorem dX12_undo_180 : decode cX12_undo 180 = .ok (.ireturn, 1) := by decide +kernel
theorem dX12_heldBy_0 : decode cX12_heldBy 0 = .ok (.iconst 0, 1) := by decide +kernel
theorem dX12_heldBy_1 : decode cX12_heldBy 1 = .ok (.istore_n 2, 1) := by decide +kernel
theorem dX12_heldBy_2 : decode cX12_heldBy 2 = .ok (.iconst 0, 1) := by decide +kernel
theorem dX12_heldBy_3 : decode cX12_heldBy 3 = .ok (.istore_n 3, 1) := by decide +kernel
theorem dX12_heldBy_4 : decode cX12_heldBy 4 = .ok (.iload_n 3, 1) := by decide +kernel
theorem dX12_heldBy_5 : decode cX12_heldBy 5 = .ok (.bipush 48, 2) := by decide +kernel
theorem dX12_heldBy_7 : decode cX12_heldBy 7 = .ok (.if_icmp .ge 25, 3) := by decide +kernel
theorem dX12_heldBy_10 : decode cX12_heldBy 10 = .ok (.iload_n 2, 1) := by decide +kernel
theorem dX12_heldBy_11 : decode cX12_heldBy 11 = .ok (.aload_n 0, 1) := by decide +kernel
theorem dX12_heldBy_12 : decode cX12_heldBy 12 = .ok (.getfield 31, 3) := by decide +kernel
theorem dX12_heldBy_15 : decode cX12_heldBy 15 = .ok (.bipush 100, 2) := by decide +kernel
theorem dX12_heldBy_17 : decode cX12_heldBy 17 = .ok (.iload_n 3, 1) := by decide +kernel
theorem dX12_heldBy_18 : decode cX12_heldBy 18 = .ok (.iadd, 1) := by decide +kernel
theorem dX12_heldBy_19 : decode cX12_heldBy 19 = .ok (.iaload, 1) := by decide +kernel
theorem dX12_heldBy_20 : decode cX12_heldBy 20 = .ok (.iload_n 1, 1) := by decide +kernel
theorem dX12_heldBy_21 : decode cX12_heldBy 21 = .ok (.ishr, 1) := by decide +kernel
theorem dX12_heldBy_22 : decode cX12_heldBy 22 = .ok (.iconst 1, 1) := by decide +kernel
theorem dX12_heldBy_23 : decode cX12_heldBy 23 = .ok (.iand, 1) := by decide +kernel
theorem dX12_heldBy_24 : decode cX12_heldBy 24 = .ok (.iadd, 1) := by decide +kernel
theorem dX12_heldBy_25 : decode cX12_heldBy 25 = .ok (.istore_n 2, 1) := by decide +kernel
theorem dX12_heldBy_26 : decode cX12_heldBy 26 = .ok (.iinc 3 1, 3) := by decide +kernel
theorem dX12_heldBy_29 : decode cX12_heldBy 29 = .ok (.goto (-25), 3) := by decide +kernel
theorem dX12_heldBy_32 : decode cX12_heldBy 32 = .ok (.iload_n 2, 1) := by decide +kernel
theorem dX12_heldBy_33 : decode cX12_heldBy 33 = .ok (.ireturn, 1) := by decide +kernel
set_option maxRecDepth 20000 in
theorem ggX12_lookedBy_X12_heldAt : GoodIn wsX12_lookedBy wsX12_heldAt := goodIn_r _ [6, 1, 11, 12, 13, 14, 15, 16, 17, 18, 19, 20, 21, 22, 23, 24, 25, 26, 27, 28, 29, 30, 31, 32, 33, 34, 35, 36, 37] (by decide +kernel) (by decide +kernel)
set_option maxRecDepth 20000 in
theorem gX12_lookedBy_X12_heldAt : GoodIn wsX12_lookedBy (wsV RX12 153 RX12 yX12_heldAt wsX12_heldAt) := goodIn_app (goodIn_of _ (by decide +kernel)) ggX12_lookedBy_X12_heldAt
set_option maxRecDepth 20000 in
theorem ggX12_lookedBy_X12_viewOf : GoodIn wsX12_lookedBy wsX12_viewOf := goodIn_r _ [10, 1, 11, 12, 13, 14, 15, 16, 17, 18, 19, 20, 21, 22, 23, 24, 25, 26, 27, 28, 29, 30, 31, 32, 33, 34, 35, 36, 37] (by decide +kernel) (by decide +kernel)
set_option maxRecDepth 20000 in
theorem gX12_lookedBy_X12_viewOf : GoodIn wsX12_lookedBy (wsV RX12 189 RX12 yX12_viewOf wsX12_viewOf) := goodIn_app (goodIn_of _ (by decide +kernel)) ggX12_lookedBy_X12_viewOf
theorem dX12_lookedBy_0 : decode cX12_lookedBy 0 = .ok (.iconst 0, 1) := by decide +kernel
theorem dX12_lookedBy_1 : decode cX12_lookedBy 1 = .ok (.istore_n 3, 1) := by decide +kernel
theorem dX12_lookedBy_2 : decode cX12_lookedBy 2 = .ok (.iconst 0, 1) := by decide +kernel
theorem dX12_lookedBy_3 : decode cX12_lookedBy 3 = .ok (.istore 4, 2) := by decide +kernel
theorem dX12_lookedBy_5 : decode cX12_lookedBy 5 = .ok (.iload 4, 2) := by decide +kernel
theorem dX12_lookedBy_7 : decode cX12_lookedBy 7 = .ok (.aload_n 0, 1) := by decide +kernel
theorem dX12_lookedBy_8 : decode cX12_lookedBy 8 = .ok (.getfield 31, 3) := by decide +kernel
theorem dX12_lookedBy_11 : decode cX12_lookedBy 11 = .ok (.iconst 0, 1) := by decide +kernel
theorem dX12_lookedBy_12 : decode cX12_lookedBy 12 = .ok (.iaload, 1) := by decide +kernel
theorem dX12_lookedBy_13 : decode cX12_lookedBy 13 = .ok (.if_icmp .ge 35, 3) := by decide +kernel
theorem dX12_lookedBy_16 : decode cX12_lookedBy 16 = .ok (.iload_n 3, 1) := by decide +kernel
theorem dX12_lookedBy_17 : decode cX12_lookedBy 17 = .ok (.aload_n 0, 1) := by decide +kernel
theorem dX12_lookedBy_18 : decode cX12_lookedBy 18 = .ok (.iload 4, 2) := by decide +kernel
theorem dX12_lookedBy_20 : decode cX12_lookedBy 20 = .ok (.iload_n 2, 1) := by decide +kernel
theorem dX12_lookedBy_21 : decode cX12_lookedBy 21 = .ok (.invokevirtual 153, 3) := by decide +kernel
theorem dX12_lookedBy_24 : decode cX12_lookedBy 24 = .ok (.iload_n 1, 1) := by decide +kernel
theorem dX12_lookedBy_25 : decode cX12_lookedBy 25 = .ok (.iand, 1) := by decide +kernel
theorem dX12_lookedBy_26 : decode cX12_lookedBy 26 = .ok (.ifCond .eq 13, 3) := by decide +kernel
theorem dX12_lookedBy_29 : decode cX12_lookedBy 29 = .ok (.aload_n 0, 1) := by decide +kernel
theorem dX12_lookedBy_30 : decode cX12_lookedBy 30 = .ok (.iload 4, 2) := by decide +kernel
theorem dX12_lookedBy_32 : decode cX12_lookedBy 32 = .ok (.iload_n 2, 1) := by decide +kernel
theorem dX12_lookedBy_33 : decode cX12_lookedBy 33 = .ok (.invokevirtual 189, 3) := by decide +kernel
theorem dX12_lookedBy_36 : decode cX12_lookedBy 36 = .ok (.goto 4, 3) := by decide +kernel
theorem dX12_lookedBy_39 : decode cX12_lookedBy 39 = .ok (.iconst 0, 1) := by decide +kernel
theorem dX12_lookedBy_40 : decode cX12_lookedBy 40 = .ok (.ior, 1) := by decide +kernel
theorem dX12_lookedBy_41 : decode cX12_lookedBy 41 = .ok (.istore_n 3, 1) := by decide +kernel
theorem dX12_lookedBy_42 : decode cX12_lookedBy 42 = .ok (.iinc 4 1, 3) := by decide +kernel
theorem dX12_lookedBy_45 : decode cX12_lookedBy 45 = .ok (.goto (-40), 3) := by decide +kernel
theorem dX12_lookedBy_48 : decode cX12_lookedBy 48 = .ok (.iload_n 3, 1) := by decide +kernel
theorem dX12_lookedBy_49 : decode cX12_lookedBy 49 = .ok (.ireturn, 1) := by decide +kernel
set_option maxRecDepth 20000 in
theorem ggX12_visitor_X12_isGuest : GoodIn wsX12_visitor wsX12_isGuest := goodIn_r _ [7, 2, 8, 9, 6, 10, 27, 28, 29, 30, 31, 32, 33, 34, 35, 36, 37, 38, 39, 40, 41, 42, 43, 44, 45, 46, 47, 48, 49, 50, 51, 52, 53] (by decide +kernel) (by decide +kernel)
set_option maxRecDepth 20000 in
theorem gX12_visitor_X12_isGuest : GoodIn wsX12_visitor (wsV RX12 141 RX12 yX12_isGuest wsX12_isGuest) := goodIn_app (goodIn_of _ (by decide +kernel)) ggX12_visitor_X12_isGuest
set_option maxRecDepth 20000 in
theorem ggX12_visitor_X12_lookedBy : GoodIn wsX12_visitor wsX12_lookedBy := goodIn_r _ [14, 2, 15, 16, 17, 6, 18, 19, 20, 21, 22, 27, 28, 29, 30, 31, 32, 33, 34, 35, 36, 37, 38, 39, 40, 41, 42, 43, 44, 45, 46, 47, 48, 49, 50, 51, 52, 53] (by decide +kernel) (by decide +kernel)
set_option maxRecDepth 20000 in
theorem gX12_visitor_X12_lookedBy : GoodIn wsX12_visitor (wsV RX12 192 RX12 yX12_lookedBy wsX12_lookedBy) := goodIn_app (goodIn_of _ (by decide +kernel)) ggX12_visitor_X12_lookedBy
set_option maxRecDepth 20000 in
theorem ggX12_visitor_X12_heldBy : GoodIn wsX12_visitor wsX12_heldBy := goodIn_r _ [26, 2, 27, 28, 29, 30, 31, 32, 33, 34, 35, 36, 37, 38, 39, 40, 41, 42, 43, 44, 45, 46, 47, 48, 49, 50, 51, 52, 53] (by decide +kernel) (by decide +kernel)
set_option maxRecDepth 20000 in
theorem gX12_visitor_X12_heldBy : GoodIn wsX12_visitor (wsV RX12 195 RX12 yX12_heldBy wsX12_heldBy) := goodIn_app (goodIn_of _ (by decide +kernel)) ggX12_visitor_X12_heldBy
theorem dX12_visitor_0 : decode cX12_visitor 0 = .ok (.aload_n 0, 1) := by decide +kernel
theorem dX12_visitor_1 : decode cX12_visitor 1 = .ok (.iload_n 1, 1) := by decide +kernel
theorem dX12_visitor_2 : decode cX12_visitor 2 = .ok (.invokevirtual 141, 3) := by decide +kernel
theorem dX12_visitor_5 : decode cX12_visitor 5 = .ok (.ifCond .ne 6, 3) := by decide +kernel
theorem dX12_visitor_8 : decode cX12_visitor 8 = .ok (.ldc 60, 2) := by decide +kernel
theorem dX12_visitor_10 : decode cX12_visitor 10 = .ok (.ireturn, 1) := by decide +kernel
theorem dX12_visitor_11 : decode cX12_visitor 11 = .ok (.iconst 0, 1) := by decide +kernel
theorem dX12_visitor_12 : decode cX12_visitor 12 = .ok (.istore_n 3, 1) := by decide +kernel
theorem dX12_visitor_13 : decode cX12_visitor 13 = .ok (.iconst 0, 1) := by decide +kernel
theorem dX12_visitor_14 : decode cX12_visitor 14 = .ok (.istore 4, 2) := by decide +kernel
theorem dX12_visitor_16 : decode cX12_visitor 16 = .ok (.iload 4, 2) := by decide +kernel
theorem dX12_visitor_18 : decode cX12_visitor 18 = .ok (.bipush 8, 2) := by decide +kernel
theorem dX12_visitor_20 : decode cX12_visitor 20 = .ok (.if_icmp .ge 21, 3) := by decide +kernel
theorem dX12_visitor_23 : decode cX12_visitor 23 = .ok (.iload_n 3, 1) := by decide +kernel
theorem dX12_visitor_24 : decode cX12_visitor 24 = .ok (.aload_n 0, 1) := by decide +kernel
theorem dX12_visitor_25 : decode cX12_visitor 25 = .ok (.iconst 1, 1) := by decide +kernel
theorem dX12_visitor_26 : decode cX12_visitor 26 = .ok (.iload_n 1, 1) := by decide +kernel
theorem dX12_visitor_27 : decode cX12_visitor 27 = .ok (.ishl, 1) := by decide +kernel
theorem dX12_visitor_28 : decode cX12_visitor 28 = .ok (.iload 4, 2) := by decide +kernel
theorem dX12_visitor_30 : decode cX12_visitor 30 = .ok (.invokevirtual 192, 3) := by decide +kernel
theorem dX12_visitor_33 : decode cX12_visitor 33 = .ok (.ior, 1) := by decide +kernel
theorem dX12_visitor_34 : decode cX12_visitor 34 = .ok (.istore_n 3, 1) := by decide +kernel
theorem dX12_visitor_35 : decode cX12_visitor 35 = .ok (.iinc 4 1, 3) := by decide +kernel
theorem dX12_visitor_38 : decode cX12_visitor 38 = .ok (.goto (-22), 3) := by decide +kernel
theorem dX12_visitor_41 : decode cX12_visitor 41 = .ok (.iload_n 2, 1) := by decide +kernel
theorem dX12_visitor_42 : decode cX12_visitor 42 = .ok (.ifCond .ne 15, 3) := by decide +kernel
theorem dX12_visitor_45 : decode cX12_visitor 45 = .ok (.aload_n 0, 1) := by decide +kernel
theorem dX12_visitor_46 : decode cX12_visitor 46 = .ok (.getfield 31, 3) := by decide +kernel
theorem dX12_visitor_49 : decode cX12_visitor 49 = .ok (.bipush 47, 2) := by decide +kernel
theorem dX12_visitor_51 : decode cX12_visitor 51 = .ok (.iload_n 1, 1) := by decide +kernel
theorem dX12_visitor_52 : decode cX12_visitor 52 = .ok (.iadd, 1) := by decide +kernel
theorem dX12_visitor_53 : decode cX12_visitor 53 = .ok (.iaload, 1) := by decide +kernel
theorem dX12_visitor_54 : decode cX12_visitor 54 = .ok (.goto 27, 3) := by decide +kernel
theorem dX12_visitor_57 : decode cX12_visitor 57 = .ok (.iload_n 2, 1) := by decide +kernel
theorem dX12_visitor_58 : decode cX12_visitor 58 = .ok (.iconst 1, 1) := by decide +kernel
theorem dX12_visitor_59 : decode cX12_visitor 59 = .ok (.if_icmp .ne 11, 3) := by decide +kernel
theorem dX12_visitor_62 : decode cX12_visitor 62 = .ok (.aload_n 0, 1) := by decide +kernel
theorem dX12_visitor_63 : decode cX12_visitor 63 = .ok (.iload_n 1, 1) := by decide +kernel
theorem dX12_visitor_64 : decode cX12_visitor 64 = .ok (.invokevirtual 195, 3) := by decide +kernel
theorem dX12_visitor_67 : decode cX12_visitor 67 = .ok (.goto 14, 3) := by decide +kernel
theorem dX12_visitor_70 : decode cX12_visitor 70 = .ok (.iload_n 2, 1) := by decide +kernel
theorem dX12_visitor_71 : decode cX12_visitor 71 = .ok (.iconst 2, 1) := by decide +kernel
theorem dX12_visitor_72 : decode cX12_visitor 72 = .ok (.if_icmp .ne 7, 3) := by decide +kernel
theorem dX12_visitor_75 : decode cX12_visitor 75 = .ok (.iload_n 3, 1) := by decide +kernel
theorem dX12_visitor_76 : decode cX12_visitor 76 = .ok (.goto 5, 3) := by decide +kernel
theorem dX12_visitor_79 : decode cX12_visitor 79 = .ok (.ldc 60, 2) := by decide +kernel
theorem dX12_visitor_81 : decode cX12_visitor 81 = .ok (.ireturn, 1) := by decide +kernel
set_option maxRecDepth 20000 in
theorem ggX12_seat_X12_isRoom : GoodIn wsX12_seat wsX12_isRoom := goodIn_r _ [7, 2, 8, 9, 6, 10, 26, 27, 28, 29, 30, 31, 32, 33, 34, 35, 36, 37, 38, 39, 40, 41, 42, 43, 44, 45, 46, 47, 48, 49, 50, 51, 52] (by decide +kernel) (by decide +kernel)
set_option maxRecDepth 20000 in
theorem gX12_seat_X12_isRoom : GoodIn wsX12_seat (wsV RX12 144 RX12 yX12_isRoom wsX12_isRoom) := goodIn_app (goodIn_of _ (by decide +kernel)) ggX12_seat_X12_isRoom
set_option maxRecDepth 20000 in
theorem ggX12_seat_X12_isMinute : GoodIn wsX12_seat wsX12_isMinute := goodIn_r _ [13, 8, 9, 6, 10] (by decide +kernel) (by decide +kernel)
set_option maxRecDepth 20000 in
theorem gX12_seat_X12_isMinute : GoodIn wsX12_seat (va_wsS RX12 147 yX12_isMinute wsX12_isMinute) := goodIn_app (goodIn_of _ (by decide +kernel)) ggX12_seat_X12_isMinute
set_option maxRecDepth 20000 in
theorem ggX12_seat_X12_was : GoodIn wsX12_seat wsX12_was := goodIn_r _ [17, 2, 26, 27, 28, 29, 30, 31, 32, 33, 34, 35, 36, 37, 38, 39, 40, 41, 42, 43, 44, 45, 46, 47, 48, 49, 50, 51, 52] (by decide +kernel) (by decide +kernel)
set_option maxRecDepth 20000 in
theorem gX12_seat_X12_was : GoodIn wsX12_seat (wsV RX12 160 RX12 yX12_was wsX12_was) := goodIn_app (goodIn_of _ (by decide +kernel)) ggX12_seat_X12_was
set_option maxRecDepth 20000 in
theorem ggX12_seat_X12_viewOf : GoodIn wsX12_seat wsX12_viewOf := goodIn_r _ [21, 2, 26, 27, 28, 29, 30, 31, 32, 33, 34, 35, 36, 37, 38, 39, 40, 41, 42, 43, 44, 45, 46, 47, 48, 49, 50, 51, 52] (by decide +kernel) (by decide +kernel)
set_option maxRecDepth 20000 in
theorem gX12_seat_X12_viewOf : GoodIn wsX12_seat (wsV RX12 189 RX12 yX12_viewOf wsX12_viewOf) := goodIn_app (goodIn_of _ (by decide +kernel)) ggX12_seat_X12_viewOf
set_option maxRecDepth 20000 in
theorem ggX12_seat_X12_heldAt : GoodIn wsX12_seat wsX12_heldAt := goodIn_r _ [25, 2, 26, 27, 28, 29, 30, 31, 32, 33, 34, 35, 36, 37, 38, 39, 40, 41, 42, 43, 44, 45, 46, 47, 48, 49, 50, 51, 52] (by decide +kernel) (by decide +kernel)
set_option maxRecDepth 20000 in
theorem gX12_seat_X12_heldAt : GoodIn wsX12_seat (wsV RX12 153 RX12 yX12_heldAt wsX12_heldAt) := goodIn_app (goodIn_of _ (by decide +kernel)) ggX12_seat_X12_heldAt
theorem dX12_seat_0 : decode cX12_seat 0 = .ok (.aload_n 0, 1) := by decide +kernel
theorem dX12_seat_1 : decode cX12_seat 1 = .ok (.iload_n 1, 1) := by decide +kernel
theorem dX12_seat_2 : decode cX12_seat 2 = .ok (.invokevirtual 144, 3) := by decide +kernel
theorem dX12_seat_5 : decode cX12_seat 5 = .ok (.ifCond .eq 10, 3) := by decide +kernel
theorem dX12_seat_8 : decode cX12_seat 8 = .ok (.iload_n 2, 1) := by decide +kernel
theorem dX12_seat_9 : decode cX12_seat 9 = .ok (.invokestatic 147, 3) := by decide +kernel
theorem dX12_seat_12 : decode cX12_seat 12 = .ok (.ifCond .ne 6, 3) := by decide +kernel
theorem dX12_seat_15 : decode cX12_seat 15 = .ok (.ldc 60, 2) := by decide +kernel
theorem dX12_seat_17 : decode cX12_seat 17 = .ok (.ireturn, 1) := by decide +kernel
theorem dX12_seat_18 : decode cX12_seat 18 = .ok (.iconst 0, 1) := by decide +kernel
theorem dX12_seat_19 : decode cX12_seat 19 = .ok (.istore 4, 2) := by decide +kernel
theorem dX12_seat_21 : decode cX12_seat 21 = .ok (.iconst 0, 1) := by decide +kernel
theorem dX12_seat_22 : decode cX12_seat 22 = .ok (.istore 5, 2) := by decide +kernel
theorem dX12_seat_24 : decode cX12_seat 24 = .ok (.iload 5, 2) := by decide +kernel
theorem dX12_seat_26 : decode cX12_seat 26 = .ok (.aload_n 0, 1) := by decide +kernel
theorem dX12_seat_27 : decode cX12_seat 27 = .ok (.getfield 31, 3) := by decide +kernel
theorem dX12_seat_30 : decode cX12_seat 30 = .ok (.iconst 3, 1) := by decide +kernel
theorem dX12_seat_31 : decode cX12_seat 31 = .ok (.iaload, 1) := by decide +kernel
theorem dX12_seat_32 : decode cX12_seat 32 = .ok (.if_icmp .ge 33, 3) := by decide +kernel
theorem dX12_seat_35 : decode cX12_seat 35 = .ok (.iload 4, 2) := by decide +kernel
theorem dX12_seat_37 : decode cX12_seat 37 = .ok (.aload_n 0, 1) := by decide +kernel
theorem dX12_seat_38 : decode cX12_seat 38 = .ok (.iload 5, 2) := by decide +kernel
theorem dX12_seat_40 : decode cX12_seat 40 = .ok (.iload_n 2, 1) := by decide +kernel
theorem dX12_seat_41 : decode cX12_seat 41 = .ok (.invokevirtual 160, 3) := by decide +kernel
theorem dX12_seat_44 : decode cX12_seat 44 = .ok (.iload_n 1, 1) := by decide +kernel
theorem dX12_seat_45 : decode cX12_seat 45 = .ok (.if_icmp .ne 10, 3) := by decide +kernel
theorem dX12_seat_48 : decode cX12_seat 48 = .ok (.iconst 1, 1) := by decide +kernel
theorem dX12_seat_49 : decode cX12_seat 49 = .ok (.iload 5, 2) := by decide +kernel
theorem dX12_seat_51 : decode cX12_seat 51 = .ok (.ishl, 1) := by decide +kernel
theorem dX12_seat_52 : decode cX12_seat 52 = .ok (.goto 4, 3) := by decide +kernel
theorem dX12_seat_55 : decode cX12_seat 55 = .ok (.iconst 0, 1) := by decide +kernel
theorem dX12_seat_56 : decode cX12_seat 56 = .ok (.ior, 1) := by decide +kernel
theorem dX12_seat_57 : decode cX12_seat 57 = .ok (.istore 4, 2) := by decide +kernel
theorem dX12_seat_59 : decode cX12_seat 59 = .ok (.iinc 5 1, 3) := by decide +kernel
theorem dX12_seat_62 : decode cX12_seat 62 = .ok (.goto (-38), 3) := by decide +kernel
theorem dX12_seat_65 : decode cX12_seat 65 = .ok (.iload_n 3, 1) := by decide +kernel
theorem dX12_seat_66 : decode cX12_seat 66 = .ok (.ifCond .ne 12, 3) := by decide +kernel
theorem dX12_seat_69 : decode cX12_seat 69 = .ok (.aload_n 0, 1) := by decide +kernel
theorem dX12_seat_70 : decode cX12_seat 70 = .ok (.iload_n 1, 1) := by decide +kernel
theorem dX12_seat_71 : decode cX12_seat 71 = .ok (.iload_n 2, 1) := by decide +kernel
theorem dX12_seat_72 : decode cX12_seat 72 = .ok (.invokevirtual 189, 3) := by decide +kernel
theorem dX12_seat_75 : decode cX12_seat 75 = .ok (.goto 29, 3) := by decide +kernel
theorem dX12_seat_78 : decode cX12_seat 78 = .ok (.iload_n 3, 1) := by decide +kernel
theorem dX12_seat_79 : decode cX12_seat 79 = .ok (.iconst 1, 1) := by decide +kernel
theorem dX12_seat_80 : decode cX12_seat 80 = .ok (.if_icmp .ne 12, 3) := by decide +kernel
theorem dX12_seat_83 : decode cX12_seat 83 = .ok (.aload_n 0, 1) := by decide +kernel
theorem dX12_seat_84 : decode cX12_seat 84 = .ok (.iload_n 1, 1) := by decide +kernel
theorem dX12_seat_85 : decode cX12_seat 85 = .ok (.iload_n 2, 1) := by decide +kernel
theorem dX12_seat_86 : decode cX12_seat 86 = .ok (.invokevirtual 153, 3) := by decide +kernel
theorem dX12_seat_89 : decode cX12_seat 89 = .ok (.goto 15, 3) := by decide +kernel
theorem dX12_seat_92 : decode cX12_seat 92 = .ok (.iload_n 3, 1) := by decide +kernel
theorem dX12_seat_93 : decode cX12_seat 93 = .ok (.iconst 2, 1) := by decide +kernel
theorem dX12_seat_94 : decode cX12_seat 94 = .ok (.if_icmp .ne 8, 3) := by decide +kernel
theorem dX12_seat_97 : decode cX12_seat 97 = .ok (.iload 4, 2) := by decide +kernel
theorem dX12_seat_99 : decode cX12_seat 99 = .ok (.goto 5, 3) := by decide +kernel
theorem dX12_seat_102 : decode cX12_seat 102 = .ok (.ldc 60, 2) := by decide +kernel
theorem dX12_seat_104 : decode cX12_seat 104 = .ok (.ireturn, 1) := by decide +kernel
set_option maxRecDepth 20000 in
theorem ggX12_price_X12_isSeat : GoodIn wsX12_price wsX12_isSeat := goodIn_r _ [6, 7, 8, 9, 5, 10, 11, 12, 13, 14, 15, 16, 17, 18, 19, 20, 21, 40, 41, 42, 43, 44, 45, 46, 47, 48, 49, 50, 51, 52, 53, 54, 55, 56, 57, 58, 59, 60, 61, 62, 63, 64, 65, 66] (by decide +kernel) (by decide +kernel)
set_option maxRecDepth 20000 in
theorem gX12_price_X12_isSeat : GoodIn wsX12_price (wsV RX12 163 RX12 yX12_isSeat wsX12_isSeat) := goodIn_app (goodIn_of _ (by decide +kernel)) ggX12_price_X12_isSeat
set_option maxRecDepth 20000 in
theorem ggX12_price_X12_priceOf : GoodIn wsX12_price wsX12_priceOf := goodIn_r _ [25, 11, 26, 27, 28, 5, 29, 30, 31, 32, 33, 34, 35, 36, 37, 38, 39, 40, 41, 42, 43, 44, 45, 46, 47, 48, 49, 50, 51, 52, 53, 54, 55, 56, 57, 58, 59, 60, 61, 62, 63, 64, 65, 66] (by decide +kernel) (by decide +kernel)
set_option maxRecDepth 20000 in
theorem gX12_price_X12_priceOf : GoodIn wsX12_price (wsV RX12 167 RX12 yX12_priceOf wsX12_priceOf) := goodIn_app (goodIn_of _ (by decide +kernel)) ggX12_price_X12_priceOf
theorem dX12_price_0 : decode cX12_price 0 = .ok (.aload_n 0, 1) := by decide +kernel
theorem dX12_price_1 : decode cX12_price 1 = .ok (.iload_n 1, 1) := by decide +kernel
theorem dX12_price_2 : decode cX12_price 2 = .ok (.iload_n 2, 1) := by decide +kernel
theorem dX12_price_3 : decode cX12_price 3 = .ok (.iload_n 3, 1) := by decide +kernel
theorem dX12_price_4 : decode cX12_price 4 = .ok (.invokevirtual 163, 3) := by decide +kernel
theorem dX12_price_7 : decode cX12_price 7 = .ok (.ifCond .eq 13, 3) := by decide +kernel
theorem dX12_price_10 : decode cX12_price 10 = .ok (.aload_n 0, 1) := by decide +kernel
theorem dX12_price_11 : decode cX12_price 11 = .ok (.iload_n 1, 1) := by decide +kernel
theorem dX12_price_12 : decode cX12_price 12 = .ok (.iload_n 2, 1) := by decide +kernel
theorem dX12_price_13 : decode cX12_price 13 = .ok (.iload_n 3, 1) := by decide +kernel
theorem dX12_price_14 : decode cX12_price 14 = .ok (.invokevirtual 167, 3) := by decide +kernel
theorem dX12_price_17 : decode cX12_price 17 = .ok (.goto 5, 3) := by decide +kernel
theorem dX12_price_20 : decode cX12_price 20 = .ok (.ldc 60, 2) := by decide +kernel
theorem dX12_price_22 : decode cX12_price 22 = .ok (.ireturn, 1) := by decide +kernel
set_option maxRecDepth 20000 in
theorem ggX12_looked_X12_isSet : GoodIn wsX12_looked wsX12_isSet := goodIn_r _ [8, 1, 9, 10, 7, 11, 27, 28, 29, 30, 31, 32, 33, 34, 35, 36, 37, 38, 39, 40, 41, 42, 43, 44, 45, 46, 47, 48, 49, 50, 51, 52, 53] (by decide +kernel) (by decide +kernel)
set_option maxRecDepth 20000 in
theorem gX12_looked_X12_isSet : GoodIn wsX12_looked (wsV RX12 198 RX12 yX12_isSet wsX12_isSet) := goodIn_app (goodIn_of _ (by decide +kernel)) ggX12_looked_X12_isSet
set_option maxRecDepth 20000 in
theorem ggX12_looked_X12_isMinute : GoodIn wsX12_looked wsX12_isMinute := goodIn_r _ [14, 9, 10, 7, 11] (by decide +kernel) (by decide +kernel)
set_option maxRecDepth 20000 in
theorem gX12_looked_X12_isMinute : GoodIn wsX12_looked (va_wsS RX12 147 yX12_isMinute wsX12_isMinute) := goodIn_app (goodIn_of _ (by decide +kernel)) ggX12_looked_X12_isMinute
set_option maxRecDepth 20000 in
theorem ggX12_looked_X12_lookedBy : GoodIn wsX12_looked wsX12_lookedBy := goodIn_r _ [18, 1, 19, 20, 21, 7, 22, 23, 24, 25, 26, 27, 28, 29, 30, 31, 32, 33, 34, 35, 36, 37, 38, 39, 40, 41, 42, 43, 44, 45, 46, 47, 48, 49, 50, 51, 52, 53] (by decide +kernel) (by decide +kernel)
set_option maxRecDepth 20000 in
theorem gX12_looked_X12_lookedBy : GoodIn wsX12_looked (wsV RX12 192 RX12 yX12_lookedBy wsX12_lookedBy) := goodIn_app (goodIn_of _ (by decide +kernel)) ggX12_looked_X12_lookedBy
theorem dX12_looked_0 : decode cX12_looked 0 = .ok (.aload_n 0, 1) := by decide +kernel
theorem dX12_looked_1 : decode cX12_looked 1 = .ok (.getfield 31, 3) := by decide +kernel
theorem dX12_looked_4 : decode cX12_looked 4 = .ok (.iconst 0, 1) := by decide +kernel
theorem dX12_looked_5 : decode cX12_looked 5 = .ok (.iaload, 1) := by decide +kernel
theorem dX12_looked_6 : decode cX12_looked 6 = .ok (.ifCond .ne 6, 3) := by decide +kernel
theorem dX12_looked_9 : decode cX12_looked 9 = .ok (.ldc 166, 2) := by decide +kernel
theorem dX12_looked_11 : decode cX12_looked 11 = .ok (.ireturn, 1) := by decide +kernel
theorem dX12_looked_12 : decode cX12_looked 12 = .ok (.aload_n 0, 1) := by decide +kernel
theorem dX12_looked_13 : decode cX12_looked 13 = .ok (.iload_n 1, 1) := by decide +kernel
theorem dX12_looked_14 : decode cX12_looked 14 = .ok (.invokevirtual 198, 3) := by decide +kernel
theorem dX12_looked_17 : decode cX12_looked 17 = .ok (.ifCond .eq 19, 3) := by decide +kernel
theorem dX12_looked_20 : decode cX12_looked 20 = .ok (.iload_n 2, 1) := by decide +kernel
theorem dX12_looked_21 : decode cX12_looked 21 = .ok (.invokestatic 147, 3) := by decide +kernel
theorem dX12_looked_24 : decode cX12_looked 24 = .ok (.ifCond .eq 12, 3) := by decide +kernel
theorem dX12_looked_27 : decode cX12_looked 27 = .ok (.aload_n 0, 1) := by decide +kernel
theorem dX12_looked_28 : decode cX12_looked 28 = .ok (.iload_n 1, 1) := by decide +kernel
theorem dX12_looked_29 : decode cX12_looked 29 = .ok (.iload_n 2, 1) := by decide +kernel
theorem dX12_looked_30 : decode cX12_looked 30 = .ok (.invokevirtual 192, 3) := by decide +kernel
theorem dX12_looked_33 : decode cX12_looked 33 = .ok (.goto 5, 3) := by decide +kernel
theorem dX12_looked_36 : decode cX12_looked 36 = .ok (.ldc 60, 2) := by decide +kernel
theorem dX12_looked_38 : decode cX12_looked 38 = .ok (.ireturn, 1) := by decide +kernel
set_option maxRecDepth 20000 in
theorem ggX12_seenBy_X12_lookedBy : GoodIn wsX12_seenBy wsX12_lookedBy := goodIn_r _ [6, 7, 8, 9, 10, 5, 11, 12, 13, 14, 15, 23, 24, 25, 26, 27, 28, 29, 30, 31, 32, 33, 34, 35, 36, 37, 38, 39, 40, 41, 42, 43, 44, 45, 46, 47, 48, 49] (by decide +kernel) (by decide +kernel)
set_option maxRecDepth 20000 in
theorem gX12_seenBy_X12_lookedBy : GoodIn wsX12_seenBy (wsV RX12 192 RX12 yX12_lookedBy wsX12_lookedBy) := goodIn_app (goodIn_of _ (by decide +kernel)) ggX12_seenBy_X12_lookedBy
set_option maxRecDepth 20000 in
theorem ggX12_seenBy_X12_was : GoodIn wsX12_seenBy wsX12_was := goodIn_r _ [19, 7, 23, 24, 25, 26, 27, 28, 29, 30, 31, 32, 33, 34, 35, 36, 37, 38, 39, 40, 41, 42, 43, 44, 45, 46, 47, 48, 49] (by decide +kernel) (by decide +kernel)
set_option maxRecDepth 20000 in
theorem gX12_seenBy_X12_was : GoodIn wsX12_seenBy (wsV RX12 160 RX12 yX12_was wsX12_was) := goodIn_app (goodIn_of _ (by decide +kernel)) ggX12_seenBy_X12_was
set_option maxRecDepth 20000 in
theorem ggX12_seenBy_X12_has : GoodIn wsX12_seenBy wsX12_has := goodIn_r _ [22] (by decide +kernel) (by decide +kernel)
set_option maxRecDepth 20000 in
theorem gX12_seenBy_X12_has : GoodIn wsX12_seenBy (va_wsS RX12 157 yX12_has wsX12_has) := goodIn_app (goodIn_of _ (by decide +kernel)) ggX12_seenBy_X12_has
theorem dX12_seenBy_0 : decode cX12_seenBy 0 = .ok (.aload_n 0, 1) := by decide +kernel
theorem dX12_seenBy_1 : decode cX12_seenBy 1 = .ok (.iload_n 1, 1) := by decide +kernel
theorem dX12_seenBy_2 : decode cX12_seenBy 2 = .ok (.iload_n 3, 1) := by decide +kernel
theorem dX12_seenBy_3 : decode cX12_seenBy 3 = .ok (.invokevirtual 192, 3) := by decide +kernel
theorem dX12_seenBy_6 : decode cX12_seenBy 6 = .ok (.aload_n 0, 1) := by decide +kernel
theorem dX12_seenBy_7 : decode cX12_seenBy 7 = .ok (.iload_n 2, 1) := by decide +kernel
theorem dX12_seenBy_8 : decode cX12_seenBy 8 = .ok (.iload_n 3, 1) := by decide +kernel
theorem dX12_seenBy_9 : decode cX12_seenBy 9 = .ok (.invokevirtual 160, 3) := by decide +kernel
theorem dX12_seenBy_12 : decode cX12_seenBy 12 = .ok (.invokestatic 157, 3) := by decide +kernel
theorem dX12_seenBy_15 : decode cX12_seenBy 15 = .ok (.ifCond .eq 12, 3) := by decide +kernel
theorem dX12_seenBy_18 : decode cX12_seenBy 18 = .ok (.aload_n 0, 1) := by decide +kernel
theorem dX12_seenBy_19 : decode cX12_seenBy 19 = .ok (.iload_n 2, 1) := by decide +kernel
theorem dX12_seenBy_20 : decode cX12_seenBy 20 = .ok (.iload_n 3, 1) := by decide +kernel
theorem dX12_seenBy_21 : decode cX12_seenBy 21 = .ok (.invokevirtual 160, 3) := by decide +kernel
theorem dX12_seenBy_24 : decode cX12_seenBy 24 = .ok (.goto 5, 3) := by decide +kernel
theorem dX12_seenBy_27 : decode cX12_seenBy 27 = .ok (.ldc 201, 2) := by decide +kernel
theorem dX12_seenBy_29 : decode cX12_seenBy 29 = .ok (.ireturn, 1) := by decide +kernel
set_option maxRecDepth 20000 in
theorem ggX12_seen_X12_isSet : GoodIn wsX12_seen wsX12_isSet := goodIn_r _ [6, 7, 8, 9, 5, 10, 42, 43, 44, 45, 46, 47, 48, 49, 50, 51, 52, 53, 54, 55, 56, 57, 58, 59, 60, 61, 62, 63, 64, 65, 66, 67, 68] (by decide +kernel) (by decide +kernel)
set_option maxRecDepth 20000 in
theorem gX12_seen_X12_isSet : GoodIn wsX12_seen (wsV RX12 198 RX12 yX12_isSet wsX12_isSet) := goodIn_app (goodIn_of _ (by decide +kernel)) ggX12_seen_X12_isSet
set_option maxRecDepth 20000 in
theorem ggX12_seen_X12_isMan : GoodIn wsX12_seen wsX12_isMan := goodIn_r _ [14, 7, 8, 9, 5, 10, 42, 43, 44, 45, 46, 47, 48, 49, 50, 51, 52, 53, 54, 55, 56, 57, 58, 59, 60, 61, 62, 63, 64, 65, 66, 67, 68] (by decide +kernel) (by decide +kernel)
set_option maxRecDepth 20000 in
theorem gX12_seen_X12_isMan : GoodIn wsX12_seen (wsV RX12 202 RX12 yX12_isMan wsX12_isMan) := goodIn_app (goodIn_of _ (by decide +kernel)) ggX12_seen_X12_isMan
set_option maxRecDepth 20000 in
theorem ggX12_seen_X12_isMinute : GoodIn wsX12_seen wsX12_isMinute := goodIn_r _ [17, 8, 9, 5, 10] (by decide +kernel) (by decide +kernel)
set_option maxRecDepth 20000 in
theorem gX12_seen_X12_isMinute : GoodIn wsX12_seen (va_wsS RX12 147 yX12_isMinute wsX12_isMinute) := goodIn_app (goodIn_of _ (by decide +kernel)) ggX12_seen_X12_isMinute
set_option maxRecDepth 20000 in
theorem ggX12_seen_X12_seenBy : GoodIn wsX12_seen wsX12_seenBy := goodIn_r _ [21, 22, 23, 24, 25, 5, 26, 7, 27, 28, 29, 30, 31, 32, 33, 34, 35, 36, 37, 38, 39, 40, 41, 42, 43, 44, 45, 46, 47, 48, 49, 50, 51, 52, 53, 54, 55, 56, 57, 58, 59, 60, 61, 62, 63, 64, 65, 66, 67, 68] (by decide +kernel) (by decide +kernel)
set_option maxRecDepth 20000 in
theorem gX12_seen_X12_seenBy : GoodIn wsX12_seen (wsV RX12 205 RX12 yX12_seenBy wsX12_seenBy) := goodIn_app (goodIn_of _ (by decide +kernel)) ggX12_seen_X12_seenBy
theorem dX12_seen_0 : decode cX12_seen 0 = .ok (.aload_n 0, 1) := by decide +kernel
theorem dX12_seen_1 : decode cX12_seen 1 = .ok (.iload_n 1, 1) := by decide +kernel
theorem dX12_seen_2 : decode cX12_seen 2 = .ok (.invokevirtual 198, 3) := by decide +kernel
theorem dX12_seen_5 : decode cX12_seen 5 = .ok (.ifCond .eq 28, 3) := by decide +kernel
theorem dX12_seen_8 : decode cX12_seen 8 = .ok (.aload_n 0, 1) := by decide +kernel
theorem dX12_seen_9 : decode cX12_seen 9 = .ok (.iload_n 2, 1) := by decide +kernel
theorem dX12_seen_10 : decode cX12_seen 10 = .ok (.invokevirtual 202, 3) := by decide +kernel
theorem dX12_seen_13 : decode cX12_seen 13 = .ok (.ifCond .eq 20, 3) := by decide +kernel
theorem dX12_seen_16 : decode cX12_seen 16 = .ok (.iload_n 3, 1) := by decide +kernel
theorem dX12_seen_17 : decode cX12_seen 17 = .ok (.invokestatic 147, 3) := by decide +kernel
theorem dX12_seen_20 : decode cX12_seen 20 = .ok (.ifCond .eq 13, 3) := by decide +kernel
theorem dX12_seen_23 : decode cX12_seen 23 = .ok (.aload_n 0, 1) := by decide +kernel
theorem dX12_seen_24 : decode cX12_seen 24 = .ok (.iload_n 1, 1) := by decide +kernel
theorem dX12_seen_25 : decode cX12_seen 25 = .ok (.iload_n 2, 1) := by decide +kernel
theorem dX12_seen_26 : decode cX12_seen 26 = .ok (.iload_n 3, 1) := by decide +kernel
theorem dX12_seen_27 : decode cX12_seen 27 = .ok (.invokevirtual 205, 3) := by decide +kernel
theorem dX12_seen_30 : decode cX12_seen 30 = .ok (.goto 5, 3) := by decide +kernel
theorem dX12_seen_33 : decode cX12_seen 33 = .ok (.ldc 60, 2) := by decide +kernel
theorem dX12_seen_35 : decode cX12_seen 35 = .ok (.ireturn, 1) := by decide +kernel
set_option maxRecDepth 20000 in
theorem ggX12_known_X12_isSet : GoodIn wsX12_known wsX12_isSet := goodIn_r _ [7, 8, 9, 10, 6, 11, 39, 40, 41, 42, 43, 44, 45, 46, 47, 48, 49, 50, 51, 52, 53, 54, 55, 56, 57, 58, 59, 60, 61, 62, 63, 64, 65] (by decide +kernel) (by decide +kernel)
set_option maxRecDepth 20000 in
theorem gX12_known_X12_isSet : GoodIn wsX12_known (wsV RX12 198 RX12 yX12_isSet wsX12_isSet) := goodIn_app (goodIn_of _ (by decide +kernel)) ggX12_known_X12_isSet
set_option maxRecDepth 20000 in
theorem ggX12_known_X12_isMan : GoodIn wsX12_known wsX12_isMan := goodIn_r _ [15, 8, 9, 10, 6, 11, 39, 40, 41, 42, 43, 44, 45, 46, 47, 48, 49, 50, 51, 52, 53, 54, 55, 56, 57, 58, 59, 60, 61, 62, 63, 64, 65] (by decide +kernel) (by decide +kernel)
set_option maxRecDepth 20000 in
theorem gX12_known_X12_isMan : GoodIn wsX12_known (wsV RX12 202 RX12 yX12_isMan wsX12_isMan) := goodIn_app (goodIn_of _ (by decide +kernel)) ggX12_known_X12_isMan
set_option maxRecDepth 20000 in
theorem ggX12_known_X12_seenBy : GoodIn wsX12_known wsX12_seenBy := goodIn_r _ [19, 2, 20, 21, 22, 6, 23, 8, 24, 25, 26, 27, 28, 29, 30, 31, 32, 33, 34, 35, 36, 37, 38, 39, 40, 41, 42, 43, 44, 45, 46, 47, 48, 49, 50, 51, 52, 53, 54, 55, 56, 57, 58, 59, 60, 61, 62, 63, 64, 65] (by decide +kernel) (by decide +kernel)
set_option maxRecDepth 20000 in
theorem gX12_known_X12_seenBy : GoodIn wsX12_known (wsV RX12 205 RX12 yX12_seenBy wsX12_seenBy) := goodIn_app (goodIn_of _ (by decide +kernel)) ggX12_known_X12_seenBy
theorem dX12_known_0 : decode cX12_known 0 = .ok (.aload_n 0, 1) := by decide +kernel
theorem dX12_known_1 : decode cX12_known 1 = .ok (.iload_n 1, 1) := by decide +kernel
theorem dX12_known_2 : decode cX12_known 2 = .ok (.invokevirtual 198, 3) := by decide +kernel
theorem dX12_known_5 : decode cX12_known 5 = .ok (.ifCond .eq 11, 3) := by decide +kernel
theorem dX12_known_8 : decode cX12_known 8 = .ok (.aload_n 0, 1) := by decide +kernel
theorem dX12_known_9 : decode cX12_known 9 = .ok (.iload_n 2, 1) := by decide +kernel
theorem dX12_known_10 : decode cX12_known 10 = .ok (.invokevirtual 202, 3) := by decide +kernel
theorem dX12_known_13 : decode cX12_known 13 = .ok (.ifCond .ne 6, 3) := by decide +kernel
theorem dX12_known_16 : decode cX12_known 16 = .ok (.ldc 60, 2) := by decide +kernel
theorem dX12_known_18 : decode cX12_known 18 = .ok (.ireturn, 1) := by decide +kernel
theorem dX12_known_19 : decode cX12_known 19 = .ok (.iconst 0, 1) := by decide +kernel
theorem dX12_known_20 : decode cX12_known 20 = .ok (.istore_n 3, 1) := by decide +kernel
theorem dX12_known_21 : decode cX12_known 21 = .ok (.iconst 0, 1) := by decide +kernel
theorem dX12_known_22 : decode cX12_known 22 = .ok (.istore 4, 2) := by decide +kernel
theorem dX12_known_24 : decode cX12_known 24 = .ok (.iload 4, 2) := by decide +kernel
theorem dX12_known_26 : decode cX12_known 26 = .ok (.bipush 8, 2) := by decide +kernel
theorem dX12_known_28 : decode cX12_known 28 = .ok (.if_icmp .ge 33, 3) := by decide +kernel
theorem dX12_known_31 : decode cX12_known 31 = .ok (.iload_n 3, 1) := by decide +kernel
theorem dX12_known_32 : decode cX12_known 32 = .ok (.aload_n 0, 1) := by decide +kernel
theorem dX12_known_33 : decode cX12_known 33 = .ok (.iload_n 1, 1) := by decide +kernel
theorem dX12_known_34 : decode cX12_known 34 = .ok (.iload_n 2, 1) := by decide +kernel
theorem dX12_known_35 : decode cX12_known 35 = .ok (.iload 4, 2) := by decide +kernel
theorem dX12_known_37 : decode cX12_known 37 = .ok (.invokevirtual 205, 3) := by decide +kernel
theorem dX12_known_40 : decode cX12_known 40 = .ok (.ldc 201, 2) := by decide +kernel
theorem dX12_known_42 : decode cX12_known 42 = .ok (.if_icmp .ne 7, 3) := by decide +kernel
theorem dX12_known_45 : decode cX12_known 45 = .ok (.iconst 0, 1) := by decide +kernel
theorem dX12_known_46 : decode cX12_known 46 = .ok (.goto 7, 3) := by decide +kernel
theorem dX12_known_49 : decode cX12_known 49 = .ok (.iconst 1, 1) := by decide +kernel
theorem dX12_known_50 : decode cX12_known 50 = .ok (.iload 4, 2) := by decide +kernel
theorem dX12_known_52 : decode cX12_known 52 = .ok (.ishl, 1) := by decide +kernel
theorem dX12_known_53 : decode cX12_known 53 = .ok (.ior, 1) := by decide +kernel
theorem dX12_known_54 : decode cX12_known 54 = .ok (.istore_n 3, 1) := by decide +kernel
theorem dX12_known_55 : decode cX12_known 55 = .ok (.iinc 4 1, 3) := by decide +kernel
theorem dX12_known_58 : decode cX12_known 58 = .ok (.goto (-34), 3) := by decide +kernel
theorem dX12_known_61 : decode cX12_known 61 = .ok (.iload_n 3, 1) := by decide +kernel
theorem dX12_known_62 : decode cX12_known 62 = .ok (.ireturn, 1) := by decide +kernel
set_option maxRecDepth 20000 in
theorem ggX12_canBeAt_X12_seenBy : GoodIn wsX12_canBeAt wsX12_seenBy := goodIn_r _ [6, 1, 7, 8, 9, 5, 10, 11, 12, 13, 14, 15, 16, 17, 18, 19, 20, 21, 22, 23, 24, 25, 26, 27, 28, 29, 30, 31, 32, 33, 34, 35, 36, 37, 38, 39, 40, 41, 42, 43, 44, 45, 46, 47, 48, 49, 50, 51, 52, 53] (by decide +kernel) (by decide +kernel)
set_option maxRecDepth 20000 in
theorem gX12_canBeAt_X12_seenBy : GoodIn wsX12_canBeAt (wsV RX12 205 RX12 yX12_seenBy wsX12_seenBy) := goodIn_app (goodIn_of _ (by decide +kernel)) ggX12_canBeAt_X12_seenBy
set_option maxRecDepth 20000 in
theorem ggX12_canBeAt_X12_lookedBy : GoodIn wsX12_canBeAt wsX12_lookedBy := goodIn_r _ [10, 11, 12, 13, 14, 5, 15, 16, 17, 18, 19, 27, 28, 29, 30, 31, 32, 33, 34, 35, 36, 37, 38, 39, 40, 41, 42, 43, 44, 45, 46, 47, 48, 49, 50, 51, 52, 53] (by decide +kernel) (by decide +kernel)
set_option maxRecDepth 20000 in
theorem gX12_canBeAt_X12_lookedBy : GoodIn wsX12_canBeAt (wsV RX12 192 RX12 yX12_lookedBy wsX12_lookedBy) := goodIn_app (goodIn_of _ (by decide +kernel)) ggX12_canBeAt_X12_lookedBy
set_option maxRecDepth 20000 in
theorem ggX12_canBeAt_X12_has : GoodIn wsX12_canBeAt wsX12_has := goodIn_r _ [26] (by decide +kernel) (by decide +kernel)
set_option maxRecDepth 20000 in
theorem gX12_canBeAt_X12_has : GoodIn wsX12_canBeAt (va_wsS RX12 157 yX12_has wsX12_has) := goodIn_app (goodIn_of _ (by decide +kernel)) ggX12_canBeAt_X12_has
theorem dX12_canBeAt_0 : decode cX12_canBeAt 0 = .ok (.aload_n 0, 1) := by decide +kernel
theorem dX12_canBeAt_1 : decode cX12_canBeAt 1 = .ok (.iload_n 1, 1) := by decide +kernel
theorem dX12_canBeAt_2 : decode cX12_canBeAt 2 = .ok (.iload_n 2, 1) := by decide +kernel
theorem dX12_canBeAt_3 : decode cX12_canBeAt 3 = .ok (.iload 4, 2) := by decide +kernel
theorem dX12_canBeAt_5 : decode cX12_canBeAt 5 = .ok (.invokevirtual 205, 3) := by decide +kernel
theorem dX12_canBeAt_8 : decode cX12_canBeAt 8 = .ok (.istore 5, 2) := by decide +kernel
theorem dX12_canBeAt_10 : decode cX12_canBeAt 10 = .ok (.iload 5, 2) := by decide +kernel
theorem dX12_canBeAt_12 : decode cX12_canBeAt 12 = .ok (.ldc 201, 2) := by decide +kernel
theorem dX12_canBeAt_14 : decode cX12_canBeAt 14 = .ok (.if_icmp .ne 25, 3) := by decide +kernel
theorem dX12_canBeAt_17 : decode cX12_canBeAt 17 = .ok (.aload_n 0, 1) := by decide +kernel
theorem dX12_canBeAt_18 : decode cX12_canBeAt 18 = .ok (.iload_n 1, 1) := by decide +kernel
theorem dX12_canBeAt_19 : decode cX12_canBeAt 19 = .ok (.iload 4, 2) := by decide +kernel
theorem dX12_canBeAt_21 : decode cX12_canBeAt 21 = .ok (.invokevirtual 192, 3) := by decide +kernel
theorem dX12_canBeAt_24 : decode cX12_canBeAt 24 = .ok (.iload_n 3, 1) := by decide +kernel
theorem dX12_canBeAt_25 : decode cX12_canBeAt 25 = .ok (.invokestatic 157, 3) := by decide +kernel
theorem dX12_canBeAt_28 : decode cX12_canBeAt 28 = .ok (.ifCond .ne 7, 3) := by decide +kernel
theorem dX12_canBeAt_31 : decode cX12_canBeAt 31 = .ok (.iconst 1, 1) := by decide +kernel
theorem dX12_canBeAt_32 : decode cX12_canBeAt 32 = .ok (.goto 18, 3) := by decide +kernel
theorem dX12_canBeAt_35 : decode cX12_canBeAt 35 = .ok (.iconst 0, 1) := by decide +kernel
theorem dX12_canBeAt_36 : decode cX12_canBeAt 36 = .ok (.goto 14, 3) := by decide +kernel
theorem dX12_canBeAt_39 : decode cX12_canBeAt 39 = .ok (.iload 5, 2) := by decide +kernel
theorem dX12_canBeAt_41 : decode cX12_canBeAt 41 = .ok (.iload_n 3, 1) := by decide +kernel
theorem dX12_canBeAt_42 : decode cX12_canBeAt 42 = .ok (.if_icmp .ne 7, 3) := by decide +kernel
theorem dX12_canBeAt_45 : decode cX12_canBeAt 45 = .ok (.iconst 1, 1) := by decide +kernel
theorem dX12_canBeAt_46 : decode cX12_canBeAt 46 = .ok (.goto 4, 3) := by decide +kernel
theorem dX12_canBeAt_49 : decode cX12_canBeAt 49 = .ok (.iconst 0, 1) := by decide +kernel
theorem dX12_canBeAt_50 : decode cX12_canBeAt 50 = .ok (.ireturn, 1) := by decide +kernel
set_option maxRecDepth 20000 in
theorem ggX12_canBe_X12_isSet : GoodIn wsX12_canBe wsX12_isSet := goodIn_r _ [6, 7, 8, 9, 5, 10, 50, 51, 52, 53, 54, 55, 56, 57, 58, 59, 60, 61, 62, 63, 64, 65, 66, 67, 68, 69, 70, 71, 72, 73, 74, 75, 76] (by decide +kernel) (by decide +kernel)
set_option maxRecDepth 20000 in
theorem gX12_canBe_X12_isSet : GoodIn wsX12_canBe (wsV RX12 198 RX12 yX12_isSet wsX12_isSet) := goodIn_app (goodIn_of _ (by decide +kernel)) ggX12_canBe_X12_isSet
set_option maxRecDepth 20000 in
theorem ggX12_canBe_X12_isMan : GoodIn wsX12_canBe wsX12_isMan := goodIn_r _ [14, 7, 8, 9, 5, 10, 50, 51, 52, 53, 54, 55, 56, 57, 58, 59, 60, 61, 62, 63, 64, 65, 66, 67, 68, 69, 70, 71, 72, 73, 74, 75, 76] (by decide +kernel) (by decide +kernel)
set_option maxRecDepth 20000 in
theorem gX12_canBe_X12_isMan : GoodIn wsX12_canBe (wsV RX12 202 RX12 yX12_isMan wsX12_isMan) := goodIn_app (goodIn_of _ (by decide +kernel)) ggX12_canBe_X12_isMan
set_option maxRecDepth 20000 in
theorem ggX12_canBe_X12_isRoom : GoodIn wsX12_canBe wsX12_isRoom := goodIn_r _ [18, 7, 8, 9, 5, 10, 50, 51, 52, 53, 54, 55, 56, 57, 58, 59, 60, 61, 62, 63, 64, 65, 66, 67, 68, 69, 70, 71, 72, 73, 74, 75, 76] (by decide +kernel) (by decide +kernel)
set_option maxRecDepth 20000 in
theorem gX12_canBe_X12_isRoom : GoodIn wsX12_canBe (wsV RX12 144 RX12 yX12_isRoom wsX12_isRoom) := goodIn_app (goodIn_of _ (by decide +kernel)) ggX12_canBe_X12_isRoom
set_option maxRecDepth 20000 in
theorem ggX12_canBe_X12_isMinute : GoodIn wsX12_canBe wsX12_isMinute := goodIn_r _ [21, 8, 9, 5, 10] (by decide +kernel) (by decide +kernel)
set_option maxRecDepth 20000 in
theorem gX12_canBe_X12_isMinute : GoodIn wsX12_canBe (va_wsS RX12 147 yX12_isMinute wsX12_isMinute) := goodIn_app (goodIn_of _ (by decide +kernel)) ggX12_canBe_X12_isMinute
set_option maxRecDepth 20000 in
theorem ggX12_canBe_X12_canBeAt : GoodIn wsX12_canBe wsX12_canBeAt := goodIn_r _ [25, 26, 27, 28, 29, 5, 30, 31, 32, 33, 34, 7, 35, 36, 37, 38, 39, 40, 41, 42, 43, 44, 45, 46, 47, 48, 49, 50, 51, 52, 53, 54, 55, 56, 57, 58, 59, 60, 61, 62, 63, 64, 65, 66, 67, 68, 69, 70, 71, 72, 73, 74, 75, 76] (by decide +kernel) (by decide +kernel)
set_option maxRecDepth 20000 in
theorem gX12_canBe_X12_canBeAt : GoodIn wsX12_canBe (wsV RX12 208 RX12 yX12_canBeAt wsX12_canBeAt) := goodIn_app (goodIn_of _ (by decide +kernel)) ggX12_canBe_X12_canBeAt
theorem dX12_canBe_0 : decode cX12_canBe 0 = .ok (.aload_n 0, 1) := by decide +kernel
theorem dX12_canBe_1 : decode cX12_canBe 1 = .ok (.iload_n 1, 1) := by decide +kernel
theorem dX12_canBe_2 : decode cX12_canBe 2 = .ok (.invokevirtual 198, 3) := by decide +kernel
theorem dX12_canBe_5 : decode cX12_canBe 5 = .ok (.ifCond .eq 27, 3) := by decide +kernel
theorem dX12_canBe_8 : decode cX12_canBe 8 = .ok (.aload_n 0, 1) := by decide +kernel
theorem dX12_canBe_9 : decode cX12_canBe 9 = .ok (.iload_n 2, 1) := by decide +kernel
theorem dX12_canBe_10 : decode cX12_canBe 10 = .ok (.invokevirtual 202, 3) := by decide +kernel
theorem dX12_canBe_13 : decode cX12_canBe 13 = .ok (.ifCond .eq 19, 3) := by decide +kernel
theorem dX12_canBe_16 : decode cX12_canBe 16 = .ok (.aload_n 0, 1) := by decide +kernel
theorem dX12_canBe_17 : decode cX12_canBe 17 = .ok (.iload_n 3, 1) := by decide +kernel
theorem dX12_canBe_18 : decode cX12_canBe 18 = .ok (.invokevirtual 144, 3) := by decide +kernel
theorem dX12_canBe_21 : decode cX12_canBe 21 = .ok (.ifCond .eq 11, 3) := by decide +kernel
theorem dX12_canBe_24 : decode cX12_canBe 24 = .ok (.iload 4, 2) := by decide +kernel
theorem dX12_canBe_26 : decode cX12_canBe 26 = .ok (.invokestatic 147, 3) := by decide +kernel
theorem dX12_canBe_29 : decode cX12_canBe 29 = .ok (.ifCond .ne 6, 3) := by decide +kernel
theorem dX12_canBe_32 : decode cX12_canBe 32 = .ok (.ldc 60, 2) := by decide +kernel
theorem dX12_canBe_34 : decode cX12_canBe 34 = .ok (.ireturn, 1) := by decide +kernel
theorem dX12_canBe_35 : decode cX12_canBe 35 = .ok (.aload_n 0, 1) := by decide +kernel
theorem dX12_canBe_36 : decode cX12_canBe 36 = .ok (.iload_n 1, 1) := by decide +kernel
theorem dX12_canBe_37 : decode cX12_canBe 37 = .ok (.iload_n 2, 1) := by decide +kernel
theorem dX12_canBe_38 : decode cX12_canBe 38 = .ok (.iload_n 3, 1) := by decide +kernel
theorem dX12_canBe_39 : decode cX12_canBe 39 = .ok (.iload 4, 2) := by decide +kernel
theorem dX12_canBe_41 : decode cX12_canBe 41 = .ok (.invokevirtual 208, 3) := by decide +kernel
theorem dX12_canBe_44 : decode cX12_canBe 44 = .ok (.ifCond .eq 7, 3) := by decide +kernel
theorem dX12_canBe_47 : decode cX12_canBe 47 = .ok (.iconst 1, 1) := by decide +kernel
theorem dX12_canBe_48 : decode cX12_canBe 48 = .ok (.goto 4, 3) := by decide +kernel
theorem dX12_canBe_51 : decode cX12_canBe 51 = .ok (.iconst 0, 1) := by decide +kernel
theorem dX12_canBe_52 : decode cX12_canBe 52 = .ok (.ireturn, 1) := by decide +kernel
set_option maxRecDepth 20000 in
theorem ggX12_suspectsOf_X12_has : GoodIn wsX12_suspectsOf wsX12_has := goodIn_r _ [5] (by decide +kernel) (by decide +kernel)
set_option maxRecDepth 20000 in
theorem gX12_suspectsOf_X12_has : GoodIn wsX12_suspectsOf (va_wsS RX12 157 yX12_has wsX12_has) := goodIn_app (goodIn_of _ (by decide +kernel)) ggX12_suspectsOf_X12_has
set_option maxRecDepth 20000 in
theorem ggX12_suspectsOf_X12_canBeAt : GoodIn wsX12_suspectsOf wsX12_canBeAt := goodIn_r _ [9, 10, 11, 12, 13, 4, 14, 15, 16, 17, 18, 1, 19, 20, 21, 22, 23, 24, 25, 26, 27, 28, 29, 30, 2, 3, 5, 31, 32, 33, 34, 35, 36, 37, 38, 39, 40, 41, 42, 43, 44, 45, 46, 47, 48, 49, 50, 51, 52, 53, 54, 55, 56, 57] (by decide +kernel) (by decide +kernel)
set_option maxRecDepth 20000 in
theorem gX12_suspectsOf_X12_canBeAt : GoodIn wsX12_suspectsOf (wsV RX12 208 RX12 yX12_canBeAt wsX12_canBeAt) := goodIn_app (goodIn_of _ (by decide +kernel)) ggX12_suspectsOf_X12_canBeAt
theorem dX12_suspectsOf_0 : decode cX12_suspectsOf 0 = .ok (.iconst 0, 1) := by decide +kernel
theorem dX12_suspectsOf_1 : decode cX12_suspectsOf 1 = .ok (.istore 4, 2) := by decide +kernel
theorem dX12_suspectsOf_3 : decode cX12_suspectsOf 3 = .ok (.iconst 0, 1) := by decide +kernel
theorem dX12_suspectsOf_4 : decode cX12_suspectsOf 4 = .ok (.istore 5, 2) := by decide +kernel
theorem dX12_suspectsOf_6 : decode cX12_suspectsOf 6 = .ok (.iload 5, 2) := by decide +kernel
theorem dX12_suspectsOf_8 : decode cX12_suspectsOf 8 = .ok (.aload_n 0, 1) := by decide +kernel
theorem dX12_suspectsOf_9 : decode cX12_suspectsOf 9 = .ok (.getfield 31, 3) := by decide +kernel
theorem dX12_suspectsOf_12 : decode cX12_suspectsOf 12 = .ok (.iconst 3, 1) := by decide +kernel
theorem dX12_suspectsOf_13 : decode cX12_suspectsOf 13 = .ok (.iaload, 1) := by decide +kernel
theorem dX12_suspectsOf_14 : decode cX12_suspectsOf 14 = .ok (.if_icmp .ge 60, 3) := by decide +kernel
theorem dX12_suspectsOf_17 : decode cX12_suspectsOf 17 = .ok (.iconst 0, 1) := by decide +kernel
theorem dX12_suspectsOf_18 : decode cX12_suspectsOf 18 = .ok (.istore 6, 2) := by decide +kernel
theorem dX12_suspectsOf_20 : decode cX12_suspectsOf 20 = .ok (.iload 6, 2) := by decide +kernel
theorem dX12_suspectsOf_22 : decode cX12_suspectsOf 22 = .ok (.bipush 8, 2) := by decide +kernel
theorem dX12_suspectsOf_24 : decode cX12_suspectsOf 24 = .ok (.if_icmp .ge 44, 3) := by decide +kernel
theorem dX12_suspectsOf_27 : decode cX12_suspectsOf 27 = .ok (.iload 4, 2) := by decide +kernel
theorem dX12_suspectsOf_29 : decode cX12_suspectsOf 29 = .ok (.iload_n 3, 1) := by decide +kernel
theorem dX12_suspectsOf_30 : decode cX12_suspectsOf 30 = .ok (.iload 6, 2) := by decide +kernel
theorem dX12_suspectsOf_32 : decode cX12_suspectsOf 32 = .ok (.invokestatic 157, 3) := by decide +kernel
theorem dX12_suspectsOf_35 : decode cX12_suspectsOf 35 = .ok (.ifCond .eq 23, 3) := by decide +kernel
theorem dX12_suspectsOf_38 : decode cX12_suspectsOf 38 = .ok (.aload_n 0, 1) := by decide +kernel
theorem dX12_suspectsOf_39 : decode cX12_suspectsOf 39 = .ok (.iload_n 1, 1) := by decide +kernel
theorem dX12_suspectsOf_40 : decode cX12_suspectsOf 40 = .ok (.iload 5, 2) := by decide +kernel
theorem dX12_suspectsOf_42 : decode cX12_suspectsOf 42 = .ok (.iload_n 2, 1) := by decide +kernel
theorem dX12_suspectsOf_43 : decode cX12_suspectsOf 43 = .ok (.iload 6, 2) := by decide +kernel
theorem dX12_suspectsOf_45 : decode cX12_suspectsOf 45 = .ok (.invokevirtual 208, 3) := by decide +kernel
theorem dX12_suspectsOf_48 : decode cX12_suspectsOf 48 = .ok (.ifCond .eq 10, 3) := by decide +kernel
theorem dX12_suspectsOf_51 : decode cX12_suspectsOf 51 = .ok (.iconst 1, 1) := by decide +kernel
theorem dX12_suspectsOf_52 : decode cX12_suspectsOf 52 = .ok (.iload 5, 2) := by decide +kernel
theorem dX12_suspectsOf_54 : decode cX12_suspectsOf 54 = .ok (.ishl, 1) := by decide +kernel
theorem dX12_suspectsOf_55 : decode cX12_suspectsOf 55 = .ok (.goto 4, 3) := by decide +kernel
theorem dX12_suspectsOf_58 : decode cX12_suspectsOf 58 = .ok (.iconst 0, 1) := by decide +kernel
theorem dX12_suspectsOf_59 : decode cX12_suspectsOf 59 = .ok (.ior, 1) := by decide +kernel
theorem dX12_suspectsOf_60 : decode cX12_suspectsOf 60 = .ok (.istore 4, 2) := by decide +kernel
theorem dX12_suspectsOf_62 : decode cX12_suspectsOf 62 = .ok (.iinc 6 1, 3) := by decide +kernel
theorem dX12_suspectsOf_65 : decode cX12_suspectsOf 65 = .ok (.goto (-45), 3) := by decide +kernel
theorem dX12_suspectsOf_68 : decode cX12_suspectsOf 68 = .ok (.iinc 5 1, 3) := by decide +kernel
theorem dX12_suspectsOf_71 : decode cX12_suspectsOf 71 = .ok (.goto (-65), 3) := by decide +kernel
theorem dX12_suspectsOf_74 : decode cX12_suspectsOf 74 = .ok (.iload 4, 2) := by decide +kernel
theorem dX12_suspectsOf_76 : decode cX12_suspectsOf 76 = .ok (.ireturn, 1) := by decide +kernel
set_option maxRecDepth 20000 in
theorem ggX12_suspects_X12_isSet : GoodIn wsX12_suspects wsX12_isSet := goodIn_r _ [8, 1, 9, 10, 7, 11, 48, 49, 50, 51, 52, 53, 54, 55, 56, 57, 58, 59, 60, 61, 62, 63, 64, 65, 66, 67, 68, 69, 70, 71, 72, 73, 74] (by decide +kernel) (by decide +kernel)
set_option maxRecDepth 20000 in
theorem gX12_suspects_X12_isSet : GoodIn wsX12_suspects (wsV RX12 198 RX12 yX12_isSet wsX12_isSet) := goodIn_app (goodIn_of _ (by decide +kernel)) ggX12_suspects_X12_isSet
set_option maxRecDepth 20000 in
theorem ggX12_suspects_X12_isRoom : GoodIn wsX12_suspects wsX12_isRoom := goodIn_r _ [15, 1, 9, 10, 7, 11, 48, 49, 50, 51, 52, 53, 54, 55, 56, 57, 58, 59, 60, 61, 62, 63, 64, 65, 66, 67, 68, 69, 70, 71, 72, 73, 74] (by decide +kernel) (by decide +kernel)
set_option maxRecDepth 20000 in
theorem gX12_suspects_X12_isRoom : GoodIn wsX12_suspects (wsV RX12 144 RX12 yX12_isRoom wsX12_isRoom) := goodIn_app (goodIn_of _ (by decide +kernel)) ggX12_suspects_X12_isRoom
set_option maxRecDepth 20000 in
theorem ggX12_suspects_X12_in : GoodIn wsX12_suspects wsX12_in := goodIn_r _ [11] (by decide +kernel) (by decide +kernel)
set_option maxRecDepth 20000 in
theorem gX12_suspects_X12_in : GoodIn wsX12_suspects (va_wsS RX12 52 yX12_in wsX12_in) := goodIn_app (goodIn_of _ (by decide +kernel)) ggX12_suspects_X12_in
set_option maxRecDepth 20000 in
theorem ggX12_suspects_X12_suspectsOf : GoodIn wsX12_suspects wsX12_suspectsOf := goodIn_r _ [19, 1, 20, 21, 7, 22, 23, 24, 25, 26, 27, 28, 29, 30, 31, 32, 33, 34, 35, 36, 37, 38, 39, 40, 41, 42, 43, 44, 45, 46, 47, 48, 49, 50, 51, 52, 53, 54, 55, 56, 57, 58, 59, 60, 61, 62, 63, 64, 65, 66, 67, 68, 69, 70, 71, 72, 73, 74] (by decide +kernel) (by decide +kernel)
set_option maxRecDepth 20000 in
theorem gX12_suspects_X12_suspectsOf : GoodIn wsX12_suspects (wsV RX12 212 RX12 yX12_suspectsOf wsX12_suspectsOf) := goodIn_app (goodIn_of _ (by decide +kernel)) ggX12_suspects_X12_suspectsOf
theorem dX12_suspects_0 : decode cX12_suspects 0 = .ok (.aload_n 0, 1) := by decide +kernel
theorem dX12_suspects_1 : decode cX12_suspects 1 = .ok (.getfield 31, 3) := by decide +kernel
theorem dX12_suspects_4 : decode cX12_suspects 4 = .ok (.iconst 0, 1) := by decide +kernel
theorem dX12_suspects_5 : decode cX12_suspects 5 = .ok (.iaload, 1) := by decide +kernel
theorem dX12_suspects_6 : decode cX12_suspects 6 = .ok (.ifCond .ne 6, 3) := by decide +kernel
theorem dX12_suspects_9 : decode cX12_suspects 9 = .ok (.ldc 166, 2) := by decide +kernel
theorem dX12_suspects_11 : decode cX12_suspects 11 = .ok (.ireturn, 1) := by decide +kernel
theorem dX12_suspects_12 : decode cX12_suspects 12 = .ok (.aload_n 0, 1) := by decide +kernel
theorem dX12_suspects_13 : decode cX12_suspects 13 = .ok (.iload_n 1, 1) := by decide +kernel
theorem dX12_suspects_14 : decode cX12_suspects 14 = .ok (.invokevirtual 198, 3) := by decide +kernel
theorem dX12_suspects_17 : decode cX12_suspects 17 = .ok (.ifCond .eq 32, 3) := by decide +kernel
theorem dX12_suspects_20 : decode cX12_suspects 20 = .ok (.aload_n 0, 1) := by decide +kernel
theorem dX12_suspects_21 : decode cX12_suspects 21 = .ok (.iload_n 2, 1) := by decide +kernel
theorem dX12_suspects_22 : decode cX12_suspects 22 = .ok (.invokevirtual 144, 3) := by decide +kernel
theorem dX12_suspects_25 : decode cX12_suspects 25 = .ok (.ifCond .eq 24, 3) := by decide +kernel
theorem dX12_suspects_28 : decode cX12_suspects 28 = .ok (.iload_n 3, 1) := by decide +kernel
theorem dX12_suspects_29 : decode cX12_suspects 29 = .ok (.iconst 0, 1) := by decide +kernel
theorem dX12_suspects_30 : decode cX12_suspects 30 = .ok (.sipush 255, 3) := by decide +kernel
theorem dX12_suspects_33 : decode cX12_suspects 33 = .ok (.invokestatic 52, 3) := by decide +kernel
theorem dX12_suspects_36 : decode cX12_suspects 36 = .ok (.ifCond .eq 13, 3) := by decide +kernel
theorem dX12_suspects_39 : decode cX12_suspects 39 = .ok (.aload_n 0, 1) := by decide +kernel
theorem dX12_suspects_40 : decode cX12_suspects 40 = .ok (.iload_n 1, 1) := by decide +kernel
theorem dX12_suspects_41 : decode cX12_suspects 41 = .ok (.iload_n 2, 1) := by decide +kernel
theorem dX12_suspects_42 : decode cX12_suspects 42 = .ok (.iload_n 3, 1) := by decide +kernel
theorem dX12_suspects_43 : decode cX12_suspects 43 = .ok (.invokevirtual 212, 3) := by decide +kernel
theorem dX12_suspects_46 : decode cX12_suspects 46 = .ok (.goto 5, 3) := by decide +kernel
theorem dX12_suspects_49 : decode cX12_suspects 49 = .ok (.ldc 60, 2) := by decide +kernel
theorem dX12_suspects_51 : decode cX12_suspects 51 = .ok (.ireturn, 1) := by decide +kernel
set_option maxRecDepth 20000 in
theorem ggX12_settles_X12_has : GoodIn wsX12_settles wsX12_has := goodIn_r _ [5] (by decide +kernel) (by decide +kernel)
set_option maxRecDepth 20000 in
theorem gX12_settles_X12_has : GoodIn wsX12_settles (va_wsS RX12 157 yX12_has wsX12_has) := goodIn_app (goodIn_of _ (by decide +kernel)) ggX12_settles_X12_has
set_option maxRecDepth 20000 in
theorem ggX12_settles_X12_viewOf : GoodIn wsX12_settles wsX12_viewOf := goodIn_r _ [9, 1, 13, 14, 15, 16, 17, 18, 19, 20, 21, 22, 23, 24, 25, 26, 27, 28, 29, 30, 31, 32, 33, 34, 35, 36, 37, 38, 39] (by decide +kernel) (by decide +kernel)
set_option maxRecDepth 20000 in
theorem gX12_settles_X12_viewOf : GoodIn wsX12_settles (wsV RX12 189 RX12 yX12_viewOf wsX12_viewOf) := goodIn_app (goodIn_of _ (by decide +kernel)) ggX12_settles_X12_viewOf
set_option maxRecDepth 20000 in
theorem ggX12_settles_X12_bits : GoodIn wsX12_settles wsX12_bits := goodIn_r _ [12] (by decide +kernel) (by decide +kernel)
set_option maxRecDepth 20000 in
theorem gX12_settles_X12_bits : GoodIn wsX12_settles (va_wsS RX12 150 yX12_bits wsX12_bits) := goodIn_app (goodIn_of _ (by decide +kernel)) ggX12_settles_X12_bits
theorem dX12_settles_0 : decode cX12_settles 0 = .ok (.iconst 0, 1) := by decide +kernel
theorem dX12_settles_1 : decode cX12_settles 1 = .ok (.istore_n 3, 1) := by decide +kernel
theorem dX12_settles_2 : decode cX12_settles 2 = .ok (.iconst 0, 1) := by decide +kernel
theorem dX12_settles_3 : decode cX12_settles 3 = .ok (.istore 4, 2) := by decide +kernel
theorem dX12_settles_5 : decode cX12_settles 5 = .ok (.iload 4, 2) := by decide +kernel
theorem dX12_settles_7 : decode cX12_settles 7 = .ok (.aload_n 0, 1) := by decide +kernel
theorem dX12_settles_8 : decode cX12_settles 8 = .ok (.getfield 31, 3) := by decide +kernel
theorem dX12_settles_11 : decode cX12_settles 11 = .ok (.iconst 0, 1) := by decide +kernel
theorem dX12_settles_12 : decode cX12_settles 12 = .ok (.iaload, 1) := by decide +kernel
theorem dX12_settles_13 : decode cX12_settles 13 = .ok (.if_icmp .ge 32, 3) := by decide +kernel
theorem dX12_settles_16 : decode cX12_settles 16 = .ok (.iload_n 3, 1) := by decide +kernel
theorem dX12_settles_17 : decode cX12_settles 17 = .ok (.iload_n 1, 1) := by decide +kernel
theorem dX12_settles_18 : decode cX12_settles 18 = .ok (.iload 4, 2) := by decide +kernel
theorem dX12_settles_20 : decode cX12_settles 20 = .ok (.invokestatic 157, 3) := by decide +kernel
theorem dX12_settles_23 : decode cX12_settles 23 = .ok (.ifCond .eq 13, 3) := by decide +kernel
theorem dX12_settles_26 : decode cX12_settles 26 = .ok (.aload_n 0, 1) := by decide +kernel
theorem dX12_settles_27 : decode cX12_settles 27 = .ok (.iload 4, 2) := by decide +kernel
theorem dX12_settles_29 : decode cX12_settles 29 = .ok (.iload_n 2, 1) := by decide +kernel
theorem dX12_settles_30 : decode cX12_settles 30 = .ok (.invokevirtual 189, 3) := by decide +kernel
theorem dX12_settles_33 : decode cX12_settles 33 = .ok (.goto 4, 3) := by decide +kernel
theorem dX12_settles_36 : decode cX12_settles 36 = .ok (.iconst 0, 1) := by decide +kernel
theorem dX12_settles_37 : decode cX12_settles 37 = .ok (.ior, 1) := by decide +kernel
theorem dX12_settles_38 : decode cX12_settles 38 = .ok (.istore_n 3, 1) := by decide +kernel
theorem dX12_settles_39 : decode cX12_settles 39 = .ok (.iinc 4 1, 3) := by decide +kernel
theorem dX12_settles_42 : decode cX12_settles 42 = .ok (.goto (-37), 3) := by decide +kernel
theorem dX12_settles_45 : decode cX12_settles 45 = .ok (.iload_n 3, 1) := by decide +kernel
theorem dX12_settles_46 : decode cX12_settles 46 = .ok (.invokestatic 150, 3) := by decide +kernel
theorem dX12_settles_49 : decode cX12_settles 49 = .ok (.aload_n 0, 1) := by decide +kernel
theorem dX12_settles_50 : decode cX12_settles 50 = .ok (.getfield 31, 3) := by decide +kernel
theorem dX12_settles_53 : decode cX12_settles 53 = .ok (.iconst 0, 1) := by decide +kernel
theorem dX12_settles_54 : decode cX12_settles 54 = .ok (.iaload, 1) := by decide +kernel
theorem dX12_settles_55 : decode cX12_settles 55 = .ok (.iconst 1, 1) := by decide +kernel
theorem dX12_settles_56 : decode cX12_settles 56 = .ok (.isub, 1) := by decide +kernel
theorem dX12_settles_57 : decode cX12_settles 57 = .ok (.if_icmp .lt 7, 3) := by decide +kernel
theorem dX12_settles_60 : decode cX12_settles 60 = .ok (.iconst 1, 1) := by decide +kernel
theorem dX12_settles_61 : decode cX12_settles 61 = .ok (.goto 4, 3) := by decide +kernel
theorem dX12_settles_64 : decode cX12_settles 64 = .ok (.iconst 0, 1) := by decide +kernel
theorem dX12_settles_65 : decode cX12_settles 65 = .ok (.ireturn, 1) := by decide +kernel
set_option maxRecDepth 20000 in
theorem ggX12_settled_X12_isMinute : GoodIn wsX12_settled wsX12_isMinute := goodIn_r _ [8, 9, 10, 7, 11] (by decide +kernel) (by decide +kernel)
set_option maxRecDepth 20000 in
theorem gX12_settled_X12_isMinute : GoodIn wsX12_settled (va_wsS RX12 147 yX12_isMinute wsX12_isMinute) := goodIn_app (goodIn_of _ (by decide +kernel)) ggX12_settled_X12_isMinute
set_option maxRecDepth 20000 in
theorem ggX12_settled_X12_bits : GoodIn wsX12_settled wsX12_bits := goodIn_r _ [14] (by decide +kernel) (by decide +kernel)
set_option maxRecDepth 20000 in
theorem gX12_settled_X12_bits : GoodIn wsX12_settled (va_wsS RX12 150 yX12_bits wsX12_bits) := goodIn_app (goodIn_of _ (by decide +kernel)) ggX12_settled_X12_bits
set_option maxRecDepth 20000 in
theorem ggX12_settled_X12_settles : GoodIn wsX12_settled wsX12_settles := goodIn_r _ [18, 1, 19, 20, 7, 21, 22, 23, 24, 25, 12, 13, 14, 26, 27, 28, 29, 30, 31, 32, 33, 34, 35, 36, 37, 38, 39, 40, 41, 42, 43, 44, 45, 46, 47, 48, 49, 50, 51, 52] (by decide +kernel) (by decide +kernel)
set_option maxRecDepth 20000 in
theorem gX12_settled_X12_settles : GoodIn wsX12_settled (wsV RX12 215 RX12 yX12_settles wsX12_settles) := goodIn_app (goodIn_of _ (by decide +kernel)) ggX12_settled_X12_settles
theorem dX12_settled_0 : decode cX12_settled 0 = .ok (.aload_n 0, 1) := by decide +kernel
theorem dX12_settled_1 : decode cX12_settled 1 = .ok (.getfield 31, 3) := by decide +kernel
theorem dX12_settled_4 : decode cX12_settled 4 = .ok (.iconst 0, 1) := by decide +kernel
theorem dX12_settled_5 : decode cX12_settled 5 = .ok (.iaload, 1) := by decide +kernel
theorem dX12_settled_6 : decode cX12_settled 6 = .ok (.ifCond .ne 6, 3) := by decide +kernel
theorem dX12_settled_9 : decode cX12_settled 9 = .ok (.ldc 166, 2) := by decide +kernel
theorem dX12_settled_11 : decode cX12_settled 11 = .ok (.ireturn, 1) := by decide +kernel
theorem dX12_settled_12 : decode cX12_settled 12 = .ok (.iload_n 1, 1) := by decide +kernel
theorem dX12_settled_13 : decode cX12_settled 13 = .ok (.invokestatic 147, 3) := by decide +kernel
theorem dX12_settled_16 : decode cX12_settled 16 = .ok (.ifCond .ne 6, 3) := by decide +kernel
theorem dX12_settled_19 : decode cX12_settled 19 = .ok (.ldc 60, 2) := by decide +kernel
theorem dX12_settled_21 : decode cX12_settled 21 = .ok (.ireturn, 1) := by decide +kernel
theorem dX12_settled_22 : decode cX12_settled 22 = .ok (.ldc 201, 2) := by decide +kernel
theorem dX12_settled_24 : decode cX12_settled 24 = .ok (.istore_n 2, 1) := by decide +kernel
theorem dX12_settled_25 : decode cX12_settled 25 = .ok (.iconst 1, 1) := by decide +kernel
theorem dX12_settled_26 : decode cX12_settled 26 = .ok (.istore_n 3, 1) := by decide +kernel
theorem dX12_settled_27 : decode cX12_settled 27 = .ok (.iload_n 3, 1) := by decide +kernel
theorem dX12_settled_28 : decode cX12_settled 28 = .ok (.iconst 1, 1) := by decide +kernel
theorem dX12_settled_29 : decode cX12_settled 29 = .ok (.aload_n 0, 1) := by decide +kernel
theorem dX12_settled_30 : decode cX12_settled 30 = .ok (.getfield 31, 3) := by decide +kernel
theorem dX12_settled_33 : decode cX12_settled 33 = .ok (.iconst 0, 1) := by decide +kernel
theorem dX12_settled_34 : decode cX12_settled 34 = .ok (.iaload, 1) := by decide +kernel
theorem dX12_settled_35 : decode cX12_settled 35 = .ok (.ishl, 1) := by decide +kernel
theorem dX12_settled_36 : decode cX12_settled 36 = .ok (.if_icmp .ge 53, 3) := by decide +kernel
theorem dX12_settled_39 : decode cX12_settled 39 = .ok (.iload_n 2, 1) := by decide +kernel
theorem dX12_settled_40 : decode cX12_settled 40 = .ok (.ldc 201, 2) := by decide +kernel
theorem dX12_settled_42 : decode cX12_settled 42 = .ok (.if_icmp .eq 14, 3) := by decide +kernel
theorem dX12_settled_45 : decode cX12_settled 45 = .ok (.iload_n 3, 1) := by decide +kernel
theorem dX12_settled_46 : decode cX12_settled 46 = .ok (.invokestatic 150, 3) := by decide +kernel
theorem dX12_settled_49 : decode cX12_settled 49 = .ok (.iload_n 2, 1) := by decide +kernel
theorem dX12_settled_50 : decode cX12_settled 50 = .ok (.invokestatic 150, 3) := by decide +kernel
theorem dX12_settled_53 : decode cX12_settled 53 = .ok (.if_icmp .ge 7, 3) := by decide +kernel
theorem dX12_settled_56 : decode cX12_settled 56 = .ok (.iconst 1, 1) := by decide +kernel
theorem dX12_settled_57 : decode cX12_settled 57 = .ok (.goto 4, 3) := by decide +kernel
theorem dX12_settled_60 : decode cX12_settled 60 = .ok (.iconst 0, 1) := by decide +kernel
theorem dX12_settled_61 : decode cX12_settled 61 = .ok (.istore 4, 2) := by decide +kernel
theorem dX12_settled_63 : decode cX12_settled 63 = .ok (.iload 4, 2) := by decide +kernel
theorem dX12_settled_65 : decode cX12_settled 65 = .ok (.ifCond .eq 16, 3) := by decide +kernel
theorem dX12_settled_68 : decode cX12_settled 68 = .ok (.aload_n 0, 1) := by decide +kernel
theorem dX12_settled_69 : decode cX12_settled 69 = .ok (.iload_n 3, 1) := by decide +kernel
theorem dX12_settled_70 : decode cX12_settled 70 = .ok (.iload_n 1, 1) := by decide +kernel
theorem dX12_settled_71 : decode cX12_settled 71 = .ok (.invokevirtual 215, 3) := by decide +kernel
theorem dX12_settled_74 : decode cX12_settled 74 = .ok (.ifCond .eq 7, 3) := by decide +kernel
theorem dX12_settled_77 : decode cX12_settled 77 = .ok (.iload_n 3, 1) := by decide +kernel
theorem dX12_settled_78 : decode cX12_settled 78 = .ok (.goto 4, 3) := by decide +kernel
theorem dX12_settled_81 : decode cX12_settled 81 = .ok (.iload_n 2, 1) := by decide +kernel
theorem dX12_settled_82 : decode cX12_settled 82 = .ok (.istore_n 2, 1) := by decide +kernel
theorem dX12_settled_83 : decode cX12_settled 83 = .ok (.iinc 3 1, 3) := by decide +kernel
theorem dX12_settled_86 : decode cX12_settled 86 = .ok (.goto (-59), 3) := by decide +kernel
theorem dX12_settled_89 : decode cX12_settled 89 = .ok (.iload_n 2, 1) := by decide +kernel
theorem dX12_settled_90 : decode cX12_settled 90 = .ok (.ireturn, 1) := by decide +kernel
set_option maxRecDepth 20000 in
theorem ggX12_cheapest_X12_isGuest : GoodIn wsX12_cheapest wsX12_isGuest := goodIn_r _ [8, 3, 9, 10, 7, 11, 45, 46, 47, 48, 49, 50, 51, 52, 53, 54, 55, 56, 57, 58, 59, 60, 61, 62, 63, 64, 65, 66, 67, 68, 69, 70, 71] (by decide +kernel) (by decide +kernel)
set_option maxRecDepth 20000 in
theorem gX12_cheapest_X12_isGuest : GoodIn wsX12_cheapest (wsV RX12 141 RX12 yX12_isGuest wsX12_isGuest) := goodIn_app (goodIn_of _ (by decide +kernel)) ggX12_cheapest_X12_isGuest
set_option maxRecDepth 20000 in
theorem ggX12_cheapest_X12_isMinute : GoodIn wsX12_cheapest wsX12_isMinute := goodIn_r _ [14, 9, 10, 7, 11] (by decide +kernel) (by decide +kernel)
set_option maxRecDepth 20000 in
theorem gX12_cheapest_X12_isMinute : GoodIn wsX12_cheapest (va_wsS RX12 147 yX12_isMinute wsX12_isMinute) := goodIn_app (goodIn_of _ (by decide +kernel)) ggX12_cheapest_X12_isMinute
set_option maxRecDepth 20000 in
theorem ggX12_cheapest_X12_in : GoodIn wsX12_cheapest wsX12_in := goodIn_r _ [11] (by decide +kernel) (by decide +kernel)
set_option maxRecDepth 20000 in
theorem gX12_cheapest_X12_in : GoodIn wsX12_cheapest (va_wsS RX12 52 yX12_in wsX12_in) := goodIn_app (goodIn_of _ (by decide +kernel)) ggX12_cheapest_X12_in
set_option maxRecDepth 20000 in
theorem ggX12_cheapest_X12_settles : GoodIn wsX12_cheapest wsX12_settles := goodIn_r _ [18, 3, 19, 20, 7, 21, 22, 23, 24, 25, 26, 27, 28, 45, 46, 47, 48, 49, 50, 51, 52, 53, 54, 55, 56, 57, 58, 59, 60, 61, 62, 63, 64, 65, 66, 67, 68, 69, 70, 71] (by decide +kernel) (by decide +kernel)
set_option maxRecDepth 20000 in
theorem gX12_cheapest_X12_settles : GoodIn wsX12_cheapest (wsV RX12 215 RX12 yX12_settles wsX12_settles) := goodIn_app (goodIn_of _ (by decide +kernel)) ggX12_cheapest_X12_settles
set_option maxRecDepth 20000 in
theorem ggX12_cheapest_X12_has : GoodIn wsX12_cheapest wsX12_has := goodIn_r _ [21] (by decide +kernel) (by decide +kernel)
set_option maxRecDepth 20000 in
theorem gX12_cheapest_X12_has : GoodIn wsX12_cheapest (va_wsS RX12 157 yX12_has wsX12_has) := goodIn_app (goodIn_of _ (by decide +kernel)) ggX12_cheapest_X12_has
set_option maxRecDepth 20000 in
theorem ggX12_cheapest_X12_heldAt : GoodIn wsX12_cheapest wsX12_heldAt := goodIn_r _ [32, 3, 45, 46, 47, 48, 49, 50, 51, 52, 53, 54, 55, 56, 57, 58, 59, 60, 61, 62, 63, 64, 65, 66, 67, 68, 69, 70, 71] (by decide +kernel) (by decide +kernel)
set_option maxRecDepth 20000 in
theorem gX12_cheapest_X12_heldAt : GoodIn wsX12_cheapest (wsV RX12 153 RX12 yX12_heldAt wsX12_heldAt) := goodIn_app (goodIn_of _ (by decide +kernel)) ggX12_cheapest_X12_heldAt
set_option maxRecDepth 20000 in
theorem ggX12_cheapest_X12_isLeft : GoodIn wsX12_cheapest wsX12_isLeft := goodIn_r _ [36, 3, 29, 30, 31, 7, 32, 26, 27, 28, 45, 46, 47, 48, 49, 50, 51, 52, 53, 54, 55, 56, 57, 58, 59, 60, 61, 62, 63, 64, 65, 66, 67, 68, 69, 70, 71] (by decide +kernel) (by decide +kernel)
set_option maxRecDepth 20000 in
theorem gX12_cheapest_X12_isLeft : GoodIn wsX12_cheapest (wsV RX12 171 RX12 yX12_isLeft wsX12_isLeft) := goodIn_app (goodIn_of _ (by decide +kernel)) ggX12_cheapest_X12_isLeft
set_option maxRecDepth 20000 in
theorem ggX12_cheapest_X12_priceOf : GoodIn wsX12_cheapest wsX12_priceOf := goodIn_r _ [40, 3, 29, 30, 31, 7, 32, 26, 27, 28, 19, 20, 21, 41, 42, 43, 44, 45, 46, 47, 48, 49, 50, 51, 52, 53, 54, 55, 56, 57, 58, 59, 60, 61, 62, 63, 64, 65, 66, 67, 68, 69, 70, 71] (by decide +kernel) (by decide +kernel)
set_option maxRecDepth 20000 in
theorem gX12_cheapest_X12_priceOf : GoodIn wsX12_cheapest (wsV RX12 167 RX12 yX12_priceOf wsX12_priceOf) := goodIn_app (goodIn_of _ (by decide +kernel)) ggX12_cheapest_X12_priceOf
theorem dX12_cheapest_0 : decode cX12_cheapest 0 = .ok (.aload_n 0, 1) := by decide +kernel
theorem dX12_cheapest_1 : decode cX12_cheapest 1 = .ok (.iload_n 1, 1) := by decide +kernel
theorem dX12_cheapest_2 : decode cX12_cheapest 2 = .ok (.invokevirtual 141, 3) := by decide +kernel
theorem dX12_cheapest_5 : decode cX12_cheapest 5 = .ok (.ifCond .eq 19, 3) := by decide +kernel
theorem dX12_cheapest_8 : decode cX12_cheapest 8 = .ok (.iload_n 2, 1) := by decide +kernel
theorem dX12_cheapest_9 : decode cX12_cheapest 9 = .ok (.invokestatic 147, 3) := by decide +kernel
theorem dX12_cheapest_12 : decode cX12_cheapest 12 = .ok (.ifCond .eq 12, 3) := by decide +kernel
theorem dX12_cheapest_15 : decode cX12_cheapest 15 = .ok (.iload_n 3, 1) := by decide +kernel
theorem dX12_cheapest_16 : decode cX12_cheapest 16 = .ok (.iconst 0, 1) := by decide +kernel
theorem dX12_cheapest_17 : decode cX12_cheapest 17 = .ok (.iconst 1, 1) := by decide +kernel
theorem dX12_cheapest_18 : decode cX12_cheapest 18 = .ok (.invokestatic 52, 3) := by decide +kernel
theorem dX12_cheapest_21 : decode cX12_cheapest 21 = .ok (.ifCond .ne 6, 3) := by decide +kernel
theorem dX12_cheapest_24 : decode cX12_cheapest 24 = .ok (.ldc 60, 2) := by decide +kernel
theorem dX12_cheapest_26 : decode cX12_cheapest 26 = .ok (.ireturn, 1) := by decide +kernel
theorem dX12_cheapest_27 : decode cX12_cheapest 27 = .ok (.ldc 201, 2) := by decide +kernel
theorem dX12_cheapest_29 : decode cX12_cheapest 29 = .ok (.istore 4, 2) := by decide +kernel
theorem dX12_cheapest_31 : decode cX12_cheapest 31 = .ok (.ldc 201, 2) := by decide +kernel
theorem dX12_cheapest_33 : decode cX12_cheapest 33 = .ok (.istore 5, 2) := by decide +kernel
theorem dX12_cheapest_35 : decode cX12_cheapest 35 = .ok (.iconst 1, 1) := by decide +kernel
theorem dX12_cheapest_36 : decode cX12_cheapest 36 = .ok (.istore 6, 2) := by decide +kernel
theorem dX12_cheapest_38 : decode cX12_cheapest 38 = .ok (.iload 6, 2) := by decide +kernel
theorem dX12_cheapest_40 : decode cX12_cheapest 40 = .ok (.iconst 1, 1) := by decide +kernel
theorem dX12_cheapest_41 : decode cX12_cheapest 41 = .ok (.aload_n 0, 1) := by decide +kernel
theorem dX12_cheapest_42 : decode cX12_cheapest 42 = .ok (.getfield 31, 3) := by decide +kernel
theorem dX12_cheapest_45 : decode cX12_cheapest 45 = .ok (.iconst 0, 1) := by decide +kernel
theorem dX12_cheapest_46 : decode cX12_cheapest 46 = .ok (.iaload, 1) := by decide +kernel
theorem dX12_cheapest_47 : decode cX12_cheapest 47 = .ok (.ishl, 1) := by decide +kernel
theorem dX12_cheapest_48 : decode cX12_cheapest 48 = .ok (.if_icmp .ge 154, 3) := by decide +kernel
theorem dX12_cheapest_51 : decode cX12_cheapest 51 = .ok (.iconst 0, 1) := by decide +kernel
theorem dX12_cheapest_52 : decode cX12_cheapest 52 = .ok (.istore 7, 2) := by decide +kernel
theorem dX12_cheapest_54 : decode cX12_cheapest 54 = .ok (.aload_n 0, 1) := by decide +kernel
theorem dX12_cheapest_55 : decode cX12_cheapest 55 = .ok (.iload 6, 2) := by decide +kernel
theorem dX12_cheapest_57 : decode cX12_cheapest 57 = .ok (.iload_n 2, 1) := by decide +kernel
theorem dX12_cheapest_58 : decode cX12_cheapest 58 = .ok (.invokevirtual 215, 3) := by decide +kernel
theorem dX12_cheapest_61 : decode cX12_cheapest 61 = .ok (.istore 8, 2) := by decide +kernel
theorem dX12_cheapest_63 : decode cX12_cheapest 63 = .ok (.iconst 0, 1) := by decide +kernel
theorem dX12_cheapest_64 : decode cX12_cheapest 64 = .ok (.istore 9, 2) := by decide +kernel
theorem dX12_cheapest_66 : decode cX12_cheapest 66 = .ok (.iload 9, 2) := by decide +kernel
theorem dX12_cheapest_68 : decode cX12_cheapest 68 = .ok (.aload_n 0, 1) := by decide +kernel
theorem dX12_cheapest_69 : decode cX12_cheapest 69 = .ok (.getfield 31, 3) := by decide +kernel
theorem dX12_cheapest_72 : decode cX12_cheapest 72 = .ok (.iconst 0, 1) := by decide +kernel
theorem dX12_cheapest_73 : decode cX12_cheapest 73 = .ok (.iaload, 1) := by decide +kernel
theorem dX12_cheapest_74 : decode cX12_cheapest 74 = .ok (.if_icmp .ge 68, 3) := by decide +kernel
theorem dX12_cheapest_77 : decode cX12_cheapest 77 = .ok (.iload 6, 2) := by decide +kernel
theorem dX12_cheapest_79 : decode cX12_cheapest 79 = .ok (.iload 9, 2) := by decide +kernel
theorem dX12_cheapest_81 : decode cX12_cheapest 81 = .ok (.invokestatic 157, 3) := by decide +kernel
theorem dX12_cheapest_84 : decode cX12_cheapest 84 = .ok (.ifCond .eq 52, 3) := by decide +kernel
theorem dX12_cheapest_87 : decode cX12_cheapest 87 = .ok (.aload_n 0, 1) := by decide +kernel
theorem dX12_cheapest_88 : decode cX12_cheapest 88 = .ok (.iload 9, 2) := by decide +kernel
theorem dX12_cheapest_90 : decode cX12_cheapest 90 = .ok (.iload_n 2, 1) := by decide +kernel
theorem dX12_cheapest_91 : decode cX12_cheapest 91 = .ok (.invokevirtual 153, 3) := by decide +kernel
theorem dX12_cheapest_94 : decode cX12_cheapest 94 = .ok (.iload_n 1, 1) := by decide +kernel
theorem dX12_cheapest_95 : decode cX12_cheapest 95 = .ok (.invokestatic 157, 3) := by decide +kernel
theorem dX12_cheapest_98 : decode cX12_cheapest 98 = .ok (.ifCond .ne 38, 3) := by decide +kernel
theorem dX12_cheapest_101 : decode cX12_cheapest 101 = .ok (.iload 8, 2) := by decide +kernel
theorem dX12_cheapest_103 : decode cX12_cheapest 103 = .ok (.ifCond .eq 17, 3) := by decide +kernel
theorem dX12_cheapest_106 : decode cX12_cheapest 106 = .ok (.aload_n 0, 1) := by decide +kernel
theorem dX12_cheapest_107 : decode cX12_cheapest 107 = .ok (.iload 9, 2) := by decide +kernel
theorem dX12_cheapest_109 : decode cX12_cheapest 109 = .ok (.iload_n 2, 1) := by decide +kernel
theorem dX12_cheapest_110 : decode cX12_cheapest 110 = .ok (.invokevirtual 171, 3) := by decide +kernel
theorem dX12_cheapest_113 : decode cX12_cheapest 113 = .ok (.ifCond .eq 7, 3) := by decide +kernel
theorem dX12_cheapest_116 : decode cX12_cheapest 116 = .ok (.iconst 1, 1) := by decide +kernel
theorem dX12_cheapest_117 : decode cX12_cheapest 117 = .ok (.goto 4, 3) := by decide +kernel
theorem dX12_cheapest_120 : decode cX12_cheapest 120 = .ok (.iconst 0, 1) := by decide +kernel
theorem dX12_cheapest_121 : decode cX12_cheapest 121 = .ok (.istore 8, 2) := by decide +kernel
theorem dX12_cheapest_123 : decode cX12_cheapest 123 = .ok (.iload 7, 2) := by decide +kernel
theorem dX12_cheapest_125 : decode cX12_cheapest 125 = .ok (.aload_n 0, 1) := by decide +kernel
theorem dX12_cheapest_126 : decode cX12_cheapest 126 = .ok (.iload_n 1, 1) := by decide +kernel
theorem dX12_cheapest_127 : decode cX12_cheapest 127 = .ok (.iload 9, 2) := by decide +kernel
theorem dX12_cheapest_129 : decode cX12_cheapest 129 = .ok (.iload_n 2, 1) := by decide +kernel
theorem dX12_cheapest_130 : decode cX12_cheapest 130 = .ok (.invokevirtual 167, 3) := by decide +kernel
theorem dX12_cheapest_133 : decode cX12_cheapest 133 = .ok (.iadd, 1) := by decide +kernel
theorem dX12_cheapest_134 : decode cX12_cheapest 134 = .ok (.istore 7, 2) := by decide +kernel
theorem dX12_cheapest_136 : decode cX12_cheapest 136 = .ok (.iinc 9 1, 3) := by decide +kernel
theorem dX12_cheapest_139 : decode cX12_cheapest 139 = .ok (.goto (-73), 3) := by decide +kernel
theorem dX12_cheapest_142 : decode cX12_cheapest 142 = .ok (.iload 8, 2) := by decide +kernel
theorem dX12_cheapest_144 : decode cX12_cheapest 144 = .ok (.ifCond .eq 21, 3) := by decide +kernel
theorem dX12_cheapest_147 : decode cX12_cheapest 147 = .ok (.iload 4, 2) := by decide +kernel
theorem dX12_cheapest_149 : decode cX12_cheapest 149 = .ok (.ldc 201, 2) := by decide +kernel
theorem dX12_cheapest_151 : decode cX12_cheapest 151 = .ok (.if_icmp .eq 10, 3) := by decide +kernel
theorem dX12_cheapest_154 : decode cX12_cheapest 154 = .ok (.iload 7, 2) := by decide +kernel
theorem dX12_cheapest_156 : decode cX12_cheapest 156 = .ok (.iload 5, 2) := by decide +kernel
theorem dX12_cheapest_158 : decode cX12_cheapest 158 = .ok (.if_icmp .ge 7, 3) := by decide +kernel
theorem dX12_cheapest_161 : decode cX12_cheapest 161 = .ok (.iconst 1, 1) := by decide +kernel
theorem dX12_cheapest_162 : decode cX12_cheapest 162 = .ok (.goto 4, 3) := by decide +kernel
theorem dX12_cheapest_165 : decode cX12_cheapest 165 = .ok (.iconst 0, 1) := by decide +kernel
theorem dX12_cheapest_166 : decode cX12_cheapest 166 = .ok (.istore 9, 2) := by decide +kernel
theorem dX12_cheapest_168 : decode cX12_cheapest 168 = .ok (.iload 9, 2) := by decide +kernel
theorem dX12_cheapest_170 : decode cX12_cheapest 170 = .ok (.ifCond .eq 8, 3) := by decide +kernel
theorem dX12_cheapest_173 : decode cX12_cheapest 173 = .ok (.iload 6, 2) := by decide +kernel
theorem dX12_cheapest_175 : decode cX12_cheapest 175 = .ok (.goto 5, 3) := by decide +kernel
theorem dX12_cheapest_178 : decode cX12_cheapest 178 = .ok (.iload 4, 2) := by decide +kernel
theorem dX12_cheapest_180 : decode cX12_cheapest 180 = .ok (.istore 4, 2) := by decide +kernel
theorem dX12_cheapest_182 : decode cX12_cheapest 182 = .ok (.iload 9, 2) := by decide +kernel
theorem dX12_cheapest_184 : decode cX12_cheapest 184 = .ok (.ifCond .eq 8, 3) := by decide +kernel
theorem dX12_cheapest_187 : decode cX12_cheapest 187 = .ok (.iload 7, 2) := by decide +kernel
theorem dX12_cheapest_189 : decode cX12_cheapest 189 = .ok (.goto 5, 3) := by decide +kernel
theorem dX12_cheapest_192 : decode cX12_cheapest 192 = .ok (.iload 5, 2) := by decide +kernel
theorem dX12_cheapest_194 : decode cX12_cheapest 194 = .ok (.istore 5, 2) := by decide +kernel
theorem dX12_cheapest_196 : decode cX12_cheapest 196 = .ok (.iinc 6 1, 3) := by decide +kernel
theorem dX12_cheapest_199 : decode cX12_cheapest 199 = .ok (.goto (-161), 3) := by decide +kernel
theorem dX12_cheapest_202 : decode cX12_cheapest 202 = .ok (.iload_n 3, 1) := by decide +kernel
theorem dX12_cheapest_203 : decode cX12_cheapest 203 = .ok (.ifCond .ne 8, 3) := by decide +kernel
theorem dX12_cheapest_206 : decode cX12_cheapest 206 = .ok (.iload 4, 2) := by decide +kernel
theorem dX12_cheapest_208 : decode cX12_cheapest 208 = .ok (.goto 5, 3) := by decide +kernel
theorem dX12_cheapest_211 : decode cX12_cheapest 211 = .ok (.iload 5, 2) := by decide +kernel
theorem dX12_cheapest_213 : decode cX12_cheapest 213 = .ok (.ireturn, 1) := by decide +kernel
set_option maxRecDepth 20000 in
theorem ggX12_nextSeat_X12_isGuest : GoodIn wsX12_nextSeat wsX12_isGuest := goodIn_r _ [8, 3, 9, 10, 7, 11, 62, 63, 64, 65, 66, 67, 68, 69, 70, 71, 72, 73, 74, 75, 76, 77, 78, 79, 80, 81, 82, 83, 84, 85, 86, 87, 88] (by decide +kernel) (by decide +kernel)
set_option maxRecDepth 20000 in
theorem gX12_nextSeat_X12_isGuest : GoodIn wsX12_nextSeat (wsV RX12 141 RX12 yX12_isGuest wsX12_isGuest) := goodIn_app (goodIn_of _ (by decide +kernel)) ggX12_nextSeat_X12_isGuest
set_option maxRecDepth 20000 in
theorem ggX12_nextSeat_X12_isRoom : GoodIn wsX12_nextSeat wsX12_isRoom := goodIn_r _ [15, 3, 9, 10, 7, 11, 62, 63, 64, 65, 66, 67, 68, 69, 70, 71, 72, 73, 74, 75, 76, 77, 78, 79, 80, 81, 82, 83, 84, 85, 86, 87, 88] (by decide +kernel) (by decide +kernel)
set_option maxRecDepth 20000 in
theorem gX12_nextSeat_X12_isRoom : GoodIn wsX12_nextSeat (wsV RX12 144 RX12 yX12_isRoom wsX12_isRoom) := goodIn_app (goodIn_of _ (by decide +kernel)) ggX12_nextSeat_X12_isRoom
set_option maxRecDepth 20000 in
theorem ggX12_nextSeat_X12_in : GoodIn wsX12_nextSeat wsX12_in := goodIn_r _ [11] (by decide +kernel) (by decide +kernel)
set_option maxRecDepth 20000 in
theorem gX12_nextSeat_X12_in : GoodIn wsX12_nextSeat (va_wsS RX12 52 yX12_in wsX12_in) := goodIn_app (goodIn_of _ (by decide +kernel)) ggX12_nextSeat_X12_in
set_option maxRecDepth 20000 in
theorem ggX12_nextSeat_X12_soldOfAll : GoodIn wsX12_nextSeat wsX12_soldOfAll := goodIn_r _ [19, 3, 20, 21, 7, 22, 62, 63, 64, 65, 66, 67, 68, 69, 70, 71, 72, 73, 74, 75, 76, 77, 78, 79, 80, 81, 82, 83, 84, 85, 86, 87, 88] (by decide +kernel) (by decide +kernel)
set_option maxRecDepth 20000 in
theorem gX12_nextSeat_X12_soldOfAll : GoodIn wsX12_nextSeat (wsV RX12 174 RX12 yX12_soldOfAll wsX12_soldOfAll) := goodIn_app (goodIn_of _ (by decide +kernel)) ggX12_nextSeat_X12_soldOfAll
set_option maxRecDepth 20000 in
theorem ggX12_nextSeat_X12_heldAt : GoodIn wsX12_nextSeat wsX12_heldAt := goodIn_r _ [26, 3, 62, 63, 64, 65, 66, 67, 68, 69, 70, 71, 72, 73, 74, 75, 76, 77, 78, 79, 80, 81, 82, 83, 84, 85, 86, 87, 88] (by decide +kernel) (by decide +kernel)
set_option maxRecDepth 20000 in
theorem gX12_nextSeat_X12_heldAt : GoodIn wsX12_nextSeat (wsV RX12 153 RX12 yX12_heldAt wsX12_heldAt) := goodIn_app (goodIn_of _ (by decide +kernel)) ggX12_nextSeat_X12_heldAt
set_option maxRecDepth 20000 in
theorem ggX12_nextSeat_X12_has : GoodIn wsX12_nextSeat wsX12_has := goodIn_r _ [29] (by decide +kernel) (by decide +kernel)
set_option maxRecDepth 20000 in
theorem gX12_nextSeat_X12_has : GoodIn wsX12_nextSeat (va_wsS RX12 157 yX12_has wsX12_has) := goodIn_app (goodIn_of _ (by decide +kernel)) ggX12_nextSeat_X12_has
set_option maxRecDepth 20000 in
theorem ggX12_nextSeat_X12_isLeft : GoodIn wsX12_nextSeat wsX12_isLeft := goodIn_r _ [33, 3, 23, 24, 25, 7, 26, 20, 21, 22, 62, 63, 64, 65, 66, 67, 68, 69, 70, 71, 72, 73, 74, 75, 76, 77, 78, 79, 80, 81, 82, 83, 84, 85, 86, 87, 88] (by decide +kernel) (by decide +kernel)
set_option maxRecDepth 20000 in
theorem gX12_nextSeat_X12_isLeft : GoodIn wsX12_nextSeat (wsV RX12 171 RX12 yX12_isLeft wsX12_isLeft) := goodIn_app (goodIn_of _ (by decide +kernel)) ggX12_nextSeat_X12_isLeft
set_option maxRecDepth 20000 in
theorem ggX12_nextSeat_X12_priceOf : GoodIn wsX12_nextSeat wsX12_priceOf := goodIn_r _ [37, 3, 23, 24, 25, 7, 26, 20, 21, 22, 27, 28, 29, 38, 39, 40, 41, 62, 63, 64, 65, 66, 67, 68, 69, 70, 71, 72, 73, 74, 75, 76, 77, 78, 79, 80, 81, 82, 83, 84, 85, 86, 87, 88] (by decide +kernel) (by decide +kernel)
set_option maxRecDepth 20000 in
theorem gX12_nextSeat_X12_priceOf : GoodIn wsX12_nextSeat (wsV RX12 167 RX12 yX12_priceOf wsX12_priceOf) := goodIn_app (goodIn_of _ (by decide +kernel)) ggX12_nextSeat_X12_priceOf
set_option maxRecDepth 20000 in
theorem ggX12_nextSeat_X12_suspectsOf : GoodIn wsX12_nextSeat wsX12_suspectsOf := goodIn_r _ [45, 3, 27, 28, 7, 29, 46, 47, 48, 49, 2, 50, 51, 52, 53, 54, 55, 56, 57, 23, 24, 25, 26, 58, 59, 60, 61, 38, 39, 40, 41, 62, 63, 64, 65, 66, 67, 68, 69, 70, 71, 72, 73, 74, 75, 76, 77, 78, 79, 80, 81, 82, 83, 84, 85, 86, 87, 88] (by decide +kernel) (by decide +kernel)
set_option maxRecDepth 20000 in
theorem gX12_nextSeat_X12_suspectsOf : GoodIn wsX12_nextSeat (wsV RX12 212 RX12 yX12_suspectsOf wsX12_suspectsOf) := goodIn_app (goodIn_of _ (by decide +kernel)) ggX12_nextSeat_X12_suspectsOf
set_option maxRecDepth 20000 in
theorem ggX12_nextSeat_X12_bits : GoodIn wsX12_nextSeat wsX12_bits := goodIn_r _ [22] (by decide +kernel) (by decide +kernel)
set_option maxRecDepth 20000 in
theorem gX12_nextSeat_X12_bits : GoodIn wsX12_nextSeat (va_wsS RX12 150 yX12_bits wsX12_bits) := goodIn_app (goodIn_of _ (by decide +kernel)) ggX12_nextSeat_X12_bits
theorem dX12_nextSeat_0 : decode cX12_nextSeat 0 = .ok (.aload_n 0, 1) := by decide +kernel
theorem dX12_nextSeat_1 : decode cX12_nextSeat 1 = .ok (.iload_n 1, 1) := by decide +kernel
theorem dX12_nextSeat_2 : decode cX12_nextSeat 2 = .ok (.invokevirtual 141, 3) := by decide +kernel
theorem dX12_nextSeat_5 : decode cX12_nextSeat 5 = .ok (.ifCond .eq 22, 3) := by decide +kernel
theorem dX12_nextSeat_8 : decode cX12_nextSeat 8 = .ok (.aload_n 0, 1) := by decide +kernel
theorem dX12_nextSeat_9 : decode cX12_nextSeat 9 = .ok (.iload_n 2, 1) := by decide +kernel
theorem dX12_nextSeat_10 : decode cX12_nextSeat 10 = .ok (.invokevirtual 144, 3) := by decide +kernel
theorem dX12_nextSeat_13 : decode cX12_nextSeat 13 = .ok (.ifCond .eq 14, 3) := by decide +kernel
theorem dX12_nextSeat_16 : decode cX12_nextSeat 16 = .ok (.iload_n 3, 1) := by decide +kernel
theorem dX12_nextSeat_17 : decode cX12_nextSeat 17 = .ok (.iconst 0, 1) := by decide +kernel
theorem dX12_nextSeat_18 : decode cX12_nextSeat 18 = .ok (.sipush 255, 3) := by decide +kernel
theorem dX12_nextSeat_21 : decode cX12_nextSeat 21 = .ok (.invokestatic 52, 3) := by decide +kernel
theorem dX12_nextSeat_24 : decode cX12_nextSeat 24 = .ok (.ifCond .ne 6, 3) := by decide +kernel
theorem dX12_nextSeat_27 : decode cX12_nextSeat 27 = .ok (.ldc 60, 2) := by decide +kernel
theorem dX12_nextSeat_29 : decode cX12_nextSeat 29 = .ok (.ireturn, 1) := by decide +kernel
theorem dX12_nextSeat_30 : decode cX12_nextSeat 30 = .ok (.ldc 201, 2) := by decide +kernel
theorem dX12_nextSeat_32 : decode cX12_nextSeat 32 = .ok (.istore 4, 2) := by decide +kernel
theorem dX12_nextSeat_34 : decode cX12_nextSeat 34 = .ok (.bipush 9, 2) := by decide +kernel
theorem dX12_nextSeat_36 : decode cX12_nextSeat 36 = .ok (.istore 5, 2) := by decide +kernel
theorem dX12_nextSeat_38 : decode cX12_nextSeat 38 = .ok (.iconst 0, 1) := by decide +kernel
theorem dX12_nextSeat_39 : decode cX12_nextSeat 39 = .ok (.istore 6, 2) := by decide +kernel
theorem dX12_nextSeat_41 : decode cX12_nextSeat 41 = .ok (.iload 6, 2) := by decide +kernel
theorem dX12_nextSeat_43 : decode cX12_nextSeat 43 = .ok (.bipush 48, 2) := by decide +kernel
theorem dX12_nextSeat_45 : decode cX12_nextSeat 45 = .ok (.if_icmp .ge 182, 3) := by decide +kernel
theorem dX12_nextSeat_48 : decode cX12_nextSeat 48 = .ok (.aload_n 0, 1) := by decide +kernel
theorem dX12_nextSeat_49 : decode cX12_nextSeat 49 = .ok (.invokevirtual 174, 3) := by decide +kernel
theorem dX12_nextSeat_52 : decode cX12_nextSeat 52 = .ok (.bipush 24, 2) := by decide +kernel
theorem dX12_nextSeat_54 : decode cX12_nextSeat 54 = .ok (.if_icmp .ge 173, 3) := by decide +kernel
theorem dX12_nextSeat_57 : decode cX12_nextSeat 57 = .ok (.iload 6, 2) := by decide +kernel
theorem dX12_nextSeat_59 : decode cX12_nextSeat 59 = .ok (.bipush 6, 2) := by decide +kernel
theorem dX12_nextSeat_61 : decode cX12_nextSeat 61 = .ok (.idiv, 1) := by decide +kernel
theorem dX12_nextSeat_62 : decode cX12_nextSeat 62 = .ok (.istore 7, 2) := by decide +kernel
theorem dX12_nextSeat_64 : decode cX12_nextSeat 64 = .ok (.iload 6, 2) := by decide +kernel
theorem dX12_nextSeat_66 : decode cX12_nextSeat 66 = .ok (.bipush 6, 2) := by decide +kernel
theorem dX12_nextSeat_68 : decode cX12_nextSeat 68 = .ok (.irem, 1) := by decide +kernel
theorem dX12_nextSeat_69 : decode cX12_nextSeat 69 = .ok (.istore 8, 2) := by decide +kernel
theorem dX12_nextSeat_71 : decode cX12_nextSeat 71 = .ok (.aload_n 0, 1) := by decide +kernel
theorem dX12_nextSeat_72 : decode cX12_nextSeat 72 = .ok (.iload 8, 2) := by decide +kernel
theorem dX12_nextSeat_74 : decode cX12_nextSeat 74 = .ok (.invokevirtual 144, 3) := by decide +kernel
theorem dX12_nextSeat_77 : decode cX12_nextSeat 77 = .ok (.ifCond .eq 144, 3) := by decide +kernel
theorem dX12_nextSeat_80 : decode cX12_nextSeat 80 = .ok (.aload_n 0, 1) := by decide +kernel
theorem dX12_nextSeat_81 : decode cX12_nextSeat 81 = .ok (.iload 8, 2) := by decide +kernel
theorem dX12_nextSeat_83 : decode cX12_nextSeat 83 = .ok (.iload 7, 2) := by decide +kernel
theorem dX12_nextSeat_85 : decode cX12_nextSeat 85 = .ok (.invokevirtual 153, 3) := by decide +kernel
theorem dX12_nextSeat_88 : decode cX12_nextSeat 88 = .ok (.iload_n 1, 1) := by decide +kernel
theorem dX12_nextSeat_89 : decode cX12_nextSeat 89 = .ok (.invokestatic 157, 3) := by decide +kernel
theorem dX12_nextSeat_92 : decode cX12_nextSeat 92 = .ok (.ifCond .ne 129, 3) := by decide +kernel
theorem dX12_nextSeat_95 : decode cX12_nextSeat 95 = .ok (.aload_n 0, 1) := by decide +kernel
theorem dX12_nextSeat_96 : decode cX12_nextSeat 96 = .ok (.iload 8, 2) := by decide +kernel
theorem dX12_nextSeat_98 : decode cX12_nextSeat 98 = .ok (.iload 7, 2) := by decide +kernel
theorem dX12_nextSeat_100 : decode cX12_nextSeat 100 = .ok (.invokevirtual 171, 3) := by decide +kernel
theorem dX12_nextSeat_103 : decode cX12_nextSeat 103 = .ok (.ifCond .eq 118, 3) := by decide +kernel
theorem dX12_nextSeat_106 : decode cX12_nextSeat 106 = .ok (.aload_n 0, 1) := by decide +kernel
theorem dX12_nextSeat_107 : decode cX12_nextSeat 107 = .ok (.getfield 31, 3) := by decide +kernel
theorem dX12_nextSeat_110 : decode cX12_nextSeat 110 = .ok (.bipush 47, 2) := by decide +kernel
theorem dX12_nextSeat_112 : decode cX12_nextSeat 112 = .ok (.iload_n 1, 1) := by decide +kernel
theorem dX12_nextSeat_113 : decode cX12_nextSeat 113 = .ok (.iadd, 1) := by decide +kernel
theorem dX12_nextSeat_114 : decode cX12_nextSeat 114 = .ok (.iaload, 1) := by decide +kernel
theorem dX12_nextSeat_115 : decode cX12_nextSeat 115 = .ok (.aload_n 0, 1) := by decide +kernel
theorem dX12_nextSeat_116 : decode cX12_nextSeat 116 = .ok (.iload_n 1, 1) := by decide +kernel
theorem dX12_nextSeat_117 : decode cX12_nextSeat 117 = .ok (.iload 8, 2) := by decide +kernel
theorem dX12_nextSeat_119 : decode cX12_nextSeat 119 = .ok (.iload 7, 2) := by decide +kernel
theorem dX12_nextSeat_121 : decode cX12_nextSeat 121 = .ok (.invokevirtual 167, 3) := by decide +kernel
theorem dX12_nextSeat_124 : decode cX12_nextSeat 124 = .ok (.if_icmp .lt 97, 3) := by decide +kernel
theorem dX12_nextSeat_127 : decode cX12_nextSeat 127 = .ok (.aload_n 0, 1) := by decide +kernel
theorem dX12_nextSeat_128 : decode cX12_nextSeat 128 = .ok (.getfield 31, 3) := by decide +kernel
theorem dX12_nextSeat_131 : decode cX12_nextSeat 131 = .ok (.bipush 100, 2) := by decide +kernel
theorem dX12_nextSeat_133 : decode cX12_nextSeat 133 = .ok (.iload 6, 2) := by decide +kernel
theorem dX12_nextSeat_135 : decode cX12_nextSeat 135 = .ok (.iadd, 1) := by decide +kernel
theorem dX12_nextSeat_136 : decode cX12_nextSeat 136 = .ok (.aload_n 0, 1) := by decide +kernel
theorem dX12_nextSeat_137 : decode cX12_nextSeat 137 = .ok (.getfield 31, 3) := by decide +kernel
theorem dX12_nextSeat_140 : decode cX12_nextSeat 140 = .ok (.bipush 100, 2) := by decide +kernel
theorem dX12_nextSeat_142 : decode cX12_nextSeat 142 = .ok (.iload 6, 2) := by decide +kernel
theorem dX12_nextSeat_144 : decode cX12_nextSeat 144 = .ok (.iadd, 1) := by decide +kernel
theorem dX12_nextSeat_145 : decode cX12_nextSeat 145 = .ok (.iaload, 1) := by decide +kernel
theorem dX12_nextSeat_146 : decode cX12_nextSeat 146 = .ok (.iconst 1, 1) := by decide +kernel
theorem dX12_nextSeat_147 : decode cX12_nextSeat 147 = .ok (.iload_n 1, 1) := by decide +kernel
theorem dX12_nextSeat_148 : decode cX12_nextSeat 148 = .ok (.ishl, 1) := by decide +kernel
theorem dX12_nextSeat_149 : decode cX12_nextSeat 149 = .ok (.ixor, 1) := by decide +kernel
theorem dX12_nextSeat_150 : decode cX12_nextSeat 150 = .ok (.iastore, 1) := by decide +kernel
theorem dX12_nextSeat_151 : decode cX12_nextSeat 151 = .ok (.aload_n 0, 1) := by decide +kernel
theorem dX12_nextSeat_152 : decode cX12_nextSeat 152 = .ok (.iconst 1, 1) := by decide +kernel
theorem dX12_nextSeat_153 : decode cX12_nextSeat 153 = .ok (.iload_n 1, 1) := by decide +kernel
theorem dX12_nextSeat_154 : decode cX12_nextSeat 154 = .ok (.ishl, 1) := by decide +kernel
theorem dX12_nextSeat_155 : decode cX12_nextSeat 155 = .ok (.iload_n 2, 1) := by decide +kernel
theorem dX12_nextSeat_156 : decode cX12_nextSeat 156 = .ok (.iload_n 3, 1) := by decide +kernel
theorem dX12_nextSeat_157 : decode cX12_nextSeat 157 = .ok (.invokevirtual 212, 3) := by decide +kernel
theorem dX12_nextSeat_160 : decode cX12_nextSeat 160 = .ok (.invokestatic 150, 3) := by decide +kernel
theorem dX12_nextSeat_163 : decode cX12_nextSeat 163 = .ok (.istore 9, 2) := by decide +kernel
theorem dX12_nextSeat_165 : decode cX12_nextSeat 165 = .ok (.aload_n 0, 1) := by decide +kernel
theorem dX12_nextSeat_166 : decode cX12_nextSeat 166 = .ok (.getfield 31, 3) := by decide +kernel
theorem dX12_nextSeat_169 : decode cX12_nextSeat 169 = .ok (.bipush 100, 2) := by decide +kernel
theorem dX12_nextSeat_171 : decode cX12_nextSeat 171 = .ok (.iload 6, 2) := by decide +kernel
theorem dX12_nextSeat_173 : decode cX12_nextSeat 173 = .ok (.iadd, 1) := by decide +kernel
theorem dX12_nextSeat_174 : decode cX12_nextSeat 174 = .ok (.aload_n 0, 1) := by decide +kernel
theorem dX12_nextSeat_175 : decode cX12_nextSeat 175 = .ok (.getfield 31, 3) := by decide +kernel
theorem dX12_nextSeat_178 : decode cX12_nextSeat 178 = .ok (.bipush 100, 2) := by decide +kernel
theorem dX12_nextSeat_180 : decode cX12_nextSeat 180 = .ok (.iload 6, 2) := by decide +kernel
theorem dX12_nextSeat_182 : decode cX12_nextSeat 182 = .ok (.iadd, 1) := by decide +kernel
theorem dX12_nextSeat_183 : decode cX12_nextSeat 183 = .ok (.iaload, 1) := by decide +kernel
theorem dX12_nextSeat_184 : decode cX12_nextSeat 184 = .ok (.iconst 1, 1) := by decide +kernel
theorem dX12_nextSeat_185 : decode cX12_nextSeat 185 = .ok (.iload_n 1, 1) := by decide +kernel
theorem dX12_nextSeat_186 : decode cX12_nextSeat 186 = .ok (.ishl, 1) := by decide +kernel
theorem dX12_nextSeat_187 : decode cX12_nextSeat 187 = .ok (.ixor, 1) := by decide +kernel
theorem dX12_nextSeat_188 : decode cX12_nextSeat 188 = .ok (.iastore, 1) := by decide +kernel
theorem dX12_nextSeat_189 : decode cX12_nextSeat 189 = .ok (.iload 9, 2) := by decide +kernel
theorem dX12_nextSeat_191 : decode cX12_nextSeat 191 = .ok (.iload 5, 2) := by decide +kernel
theorem dX12_nextSeat_193 : decode cX12_nextSeat 193 = .ok (.if_icmp .ge 8, 3) := by decide +kernel
theorem dX12_nextSeat_196 : decode cX12_nextSeat 196 = .ok (.iload 6, 2) := by decide +kernel
theorem dX12_nextSeat_198 : decode cX12_nextSeat 198 = .ok (.goto 5, 3) := by decide +kernel
theorem dX12_nextSeat_201 : decode cX12_nextSeat 201 = .ok (.iload 4, 2) := by decide +kernel
theorem dX12_nextSeat_203 : decode cX12_nextSeat 203 = .ok (.istore 4, 2) := by decide +kernel
theorem dX12_nextSeat_205 : decode cX12_nextSeat 205 = .ok (.iload 9, 2) := by decide +kernel
theorem dX12_nextSeat_207 : decode cX12_nextSeat 207 = .ok (.iload 5, 2) := by decide +kernel
theorem dX12_nextSeat_209 : decode cX12_nextSeat 209 = .ok (.if_icmp .ge 8, 3) := by decide +kernel
theorem dX12_nextSeat_212 : decode cX12_nextSeat 212 = .ok (.iload 9, 2) := by decide +kernel
theorem dX12_nextSeat_214 : decode cX12_nextSeat 214 = .ok (.goto 5, 3) := by decide +kernel
theorem dX12_nextSeat_217 : decode cX12_nextSeat 217 = .ok (.iload 5, 2) := by decide +kernel
theorem dX12_nextSeat_219 : decode cX12_nextSeat 219 = .ok (.istore 5, 2) := by decide +kernel
theorem dX12_nextSeat_221 : decode cX12_nextSeat 221 = .ok (.iinc 6 1, 3) := by decide +kernel
theorem dX12_nextSeat_224 : decode cX12_nextSeat 224 = .ok (.goto (-183), 3) := by decide +kernel
theorem dX12_nextSeat_227 : decode cX12_nextSeat 227 = .ok (.iload 4, 2) := by decide +kernel
theorem dX12_nextSeat_229 : decode cX12_nextSeat 229 = .ok (.ireturn, 1) := by decide +kernel
set_option maxRecDepth 20000 in
theorem ggX12_costOf_X12_seenBy : GoodIn wsX12_costOf wsX12_seenBy := goodIn_r _ [7, 1, 8, 9, 10, 6, 11, 2, 12, 13, 14, 15, 16, 17, 18, 19, 20, 21, 22, 23, 24, 25, 26, 38, 39, 40, 41, 42, 43, 44, 45, 46, 47, 48, 49, 50, 51, 52, 53, 54, 55, 56, 57, 58, 59, 60, 61, 62, 63, 64] (by decide +kernel) (by decide +kernel)
set_option maxRecDepth 20000 in
theorem gX12_costOf_X12_seenBy : GoodIn wsX12_costOf (wsV RX12 205 RX12 yX12_seenBy wsX12_seenBy) := goodIn_app (goodIn_of _ (by decide +kernel)) ggX12_costOf_X12_seenBy
set_option maxRecDepth 20000 in
theorem ggX12_costOf_X12_isLeft : GoodIn wsX12_costOf wsX12_isLeft := goodIn_r _ [30, 2, 12, 13, 14, 6, 15, 31, 32, 33, 38, 39, 40, 41, 42, 43, 44, 45, 46, 47, 48, 49, 50, 51, 52, 53, 54, 55, 56, 57, 58, 59, 60, 61, 62, 63, 64] (by decide +kernel) (by decide +kernel)
set_option maxRecDepth 20000 in
theorem gX12_costOf_X12_isLeft : GoodIn wsX12_costOf (wsV RX12 171 RX12 yX12_isLeft wsX12_isLeft) := goodIn_app (goodIn_of _ (by decide +kernel)) ggX12_costOf_X12_isLeft
set_option maxRecDepth 20000 in
theorem ggX12_costOf_X12_viewOf : GoodIn wsX12_costOf wsX12_viewOf := goodIn_r _ [19, 2, 38, 39, 40, 41, 42, 43, 44, 45, 46, 47, 48, 49, 50, 51, 52, 53, 54, 55, 56, 57, 58, 59, 60, 61, 62, 63, 64] (by decide +kernel) (by decide +kernel)
set_option maxRecDepth 20000 in
theorem gX12_costOf_X12_viewOf : GoodIn wsX12_costOf (wsV RX12 189 RX12 yX12_viewOf wsX12_viewOf) := goodIn_app (goodIn_of _ (by decide +kernel)) ggX12_costOf_X12_viewOf
set_option maxRecDepth 20000 in
theorem ggX12_costOf_X12_was : GoodIn wsX12_costOf wsX12_was := goodIn_r _ [23, 2, 38, 39, 40, 41, 42, 43, 44, 45, 46, 47, 48, 49, 50, 51, 52, 53, 54, 55, 56, 57, 58, 59, 60, 61, 62, 63, 64] (by decide +kernel) (by decide +kernel)
set_option maxRecDepth 20000 in
theorem gX12_costOf_X12_was : GoodIn wsX12_costOf (wsV RX12 160 RX12 yX12_was wsX12_was) := goodIn_app (goodIn_of _ (by decide +kernel)) ggX12_costOf_X12_was
set_option maxRecDepth 20000 in
theorem ggX12_costOf_X12_has : GoodIn wsX12_costOf wsX12_has := goodIn_r _ [26] (by decide +kernel) (by decide +kernel)
set_option maxRecDepth 20000 in
theorem gX12_costOf_X12_has : GoodIn wsX12_costOf (va_wsS RX12 157 yX12_has wsX12_has) := goodIn_app (goodIn_of _ (by decide +kernel)) ggX12_costOf_X12_has
set_option maxRecDepth 20000 in
theorem ggX12_costOf_X12_priceOf : GoodIn wsX12_costOf wsX12_priceOf := goodIn_r _ [37, 2, 12, 13, 14, 6, 15, 31, 32, 33, 24, 25, 26, 20, 21, 22, 23, 38, 39, 40, 41, 42, 43, 44, 45, 46, 47, 48, 49, 50, 51, 52, 53, 54, 55, 56, 57, 58, 59, 60, 61, 62, 63, 64] (by decide +kernel) (by decide +kernel)
set_option maxRecDepth 20000 in
theorem gX12_costOf_X12_priceOf : GoodIn wsX12_costOf (wsV RX12 167 RX12 yX12_priceOf wsX12_priceOf) := goodIn_app (goodIn_of _ (by decide +kernel)) ggX12_costOf_X12_priceOf
theorem dX12_costOf_0 : decode cX12_costOf 0 = .ok (.aload_n 0, 1) := by decide +kernel
theorem dX12_costOf_1 : decode cX12_costOf 1 = .ok (.iconst 1, 1) := by decide +kernel
theorem dX12_costOf_2 : decode cX12_costOf 2 = .ok (.iload_n 1, 1) := by decide +kernel
theorem dX12_costOf_3 : decode cX12_costOf 3 = .ok (.ishl, 1) := by decide +kernel
theorem dX12_costOf_4 : decode cX12_costOf 4 = .ok (.iload_n 2, 1) := by decide +kernel
theorem dX12_costOf_5 : decode cX12_costOf 5 = .ok (.iload_n 3, 1) := by decide +kernel
theorem dX12_costOf_6 : decode cX12_costOf 6 = .ok (.invokevirtual 205, 3) := by decide +kernel
theorem dX12_costOf_9 : decode cX12_costOf 9 = .ok (.ldc 201, 2) := by decide +kernel
theorem dX12_costOf_11 : decode cX12_costOf 11 = .ok (.if_icmp .eq 5, 3) := by decide +kernel
theorem dX12_costOf_14 : decode cX12_costOf 14 = .ok (.iconst 0, 1) := by decide +kernel
theorem dX12_costOf_15 : decode cX12_costOf 15 = .ok (.ireturn, 1) := by decide +kernel
theorem dX12_costOf_16 : decode cX12_costOf 16 = .ok (.sipush 10000, 3) := by decide +kernel
theorem dX12_costOf_19 : decode cX12_costOf 19 = .ok (.istore 4, 2) := by decide +kernel
theorem dX12_costOf_21 : decode cX12_costOf 21 = .ok (.iconst 0, 1) := by decide +kernel
theorem dX12_costOf_22 : decode cX12_costOf 22 = .ok (.istore 5, 2) := by decide +kernel
theorem dX12_costOf_24 : decode cX12_costOf 24 = .ok (.iload 5, 2) := by decide +kernel
theorem dX12_costOf_26 : decode cX12_costOf 26 = .ok (.aload_n 0, 1) := by decide +kernel
theorem dX12_costOf_27 : decode cX12_costOf 27 = .ok (.getfield 31, 3) := by decide +kernel
theorem dX12_costOf_30 : decode cX12_costOf 30 = .ok (.iconst 0, 1) := by decide +kernel
theorem dX12_costOf_31 : decode cX12_costOf 31 = .ok (.iaload, 1) := by decide +kernel
theorem dX12_costOf_32 : decode cX12_costOf 32 = .ok (.if_icmp .ge 64, 3) := by decide +kernel
theorem dX12_costOf_35 : decode cX12_costOf 35 = .ok (.aload_n 0, 1) := by decide +kernel
theorem dX12_costOf_36 : decode cX12_costOf 36 = .ok (.iload 5, 2) := by decide +kernel
theorem dX12_costOf_38 : decode cX12_costOf 38 = .ok (.iload_n 3, 1) := by decide +kernel
theorem dX12_costOf_39 : decode cX12_costOf 39 = .ok (.invokevirtual 171, 3) := by decide +kernel
theorem dX12_costOf_42 : decode cX12_costOf 42 = .ok (.ifCond .eq 48, 3) := by decide +kernel
theorem dX12_costOf_45 : decode cX12_costOf 45 = .ok (.aload_n 0, 1) := by decide +kernel
theorem dX12_costOf_46 : decode cX12_costOf 46 = .ok (.iload 5, 2) := by decide +kernel
theorem dX12_costOf_48 : decode cX12_costOf 48 = .ok (.iload_n 3, 1) := by decide +kernel
theorem dX12_costOf_49 : decode cX12_costOf 49 = .ok (.invokevirtual 189, 3) := by decide +kernel
theorem dX12_costOf_52 : decode cX12_costOf 52 = .ok (.aload_n 0, 1) := by decide +kernel
theorem dX12_costOf_53 : decode cX12_costOf 53 = .ok (.iload_n 2, 1) := by decide +kernel
theorem dX12_costOf_54 : decode cX12_costOf 54 = .ok (.iload_n 3, 1) := by decide +kernel
theorem dX12_costOf_55 : decode cX12_costOf 55 = .ok (.invokevirtual 160, 3) := by decide +kernel
theorem dX12_costOf_58 : decode cX12_costOf 58 = .ok (.invokestatic 157, 3) := by decide +kernel
theorem dX12_costOf_61 : decode cX12_costOf 61 = .ok (.ifCond .eq 29, 3) := by decide +kernel
theorem dX12_costOf_64 : decode cX12_costOf 64 = .ok (.aload_n 0, 1) := by decide +kernel
theorem dX12_costOf_65 : decode cX12_costOf 65 = .ok (.iload_n 1, 1) := by decide +kernel
theorem dX12_costOf_66 : decode cX12_costOf 66 = .ok (.iload 5, 2) := by decide +kernel
theorem dX12_costOf_68 : decode cX12_costOf 68 = .ok (.iload_n 3, 1) := by decide +kernel
theorem dX12_costOf_69 : decode cX12_costOf 69 = .ok (.invokevirtual 167, 3) := by decide +kernel
theorem dX12_costOf_72 : decode cX12_costOf 72 = .ok (.istore 6, 2) := by decide +kernel
theorem dX12_costOf_74 : decode cX12_costOf 74 = .ok (.iload 6, 2) := by decide +kernel
theorem dX12_costOf_76 : decode cX12_costOf 76 = .ok (.iload 4, 2) := by decide +kernel
theorem dX12_costOf_78 : decode cX12_costOf 78 = .ok (.if_icmp .ge 8, 3) := by decide +kernel
theorem dX12_costOf_81 : decode cX12_costOf 81 = .ok (.iload 6, 2) := by decide +kernel
theorem dX12_costOf_83 : decode cX12_costOf 83 = .ok (.goto 5, 3) := by decide +kernel
theorem dX12_costOf_86 : decode cX12_costOf 86 = .ok (.iload 4, 2) := by decide +kernel
theorem dX12_costOf_88 : decode cX12_costOf 88 = .ok (.istore 4, 2) := by decide +kernel
theorem dX12_costOf_90 : decode cX12_costOf 90 = .ok (.iinc 5 1, 3) := by decide +kernel
theorem dX12_costOf_93 : decode cX12_costOf 93 = .ok (.goto (-69), 3) := by decide +kernel
theorem dX12_costOf_96 : decode cX12_costOf 96 = .ok (.iload 4, 2) := by decide +kernel
theorem dX12_costOf_98 : decode cX12_costOf 98 = .ok (.ireturn, 1) := by decide +kernel
set_option maxRecDepth 20000 in
theorem ggX12_followed_X12_isGuest : GoodIn wsX12_followed wsX12_isGuest := goodIn_r _ [8, 3, 9, 10, 7, 11, 54, 55, 56, 57, 58, 59, 60, 61, 62, 63, 64, 65, 66, 67, 68, 69, 70, 71, 72, 73, 74, 75, 76, 77, 78, 79, 80] (by decide +kernel) (by decide +kernel)
set_option maxRecDepth 20000 in
theorem gX12_followed_X12_isGuest : GoodIn wsX12_followed (wsV RX12 141 RX12 yX12_isGuest wsX12_isGuest) := goodIn_app (goodIn_of _ (by decide +kernel)) ggX12_followed_X12_isGuest
set_option maxRecDepth 20000 in
theorem ggX12_followed_X12_isMan : GoodIn wsX12_followed wsX12_isMan := goodIn_r _ [15, 3, 9, 10, 7, 11, 54, 55, 56, 57, 58, 59, 60, 61, 62, 63, 64, 65, 66, 67, 68, 69, 70, 71, 72, 73, 74, 75, 76, 77, 78, 79, 80] (by decide +kernel) (by decide +kernel)
set_option maxRecDepth 20000 in
theorem gX12_followed_X12_isMan : GoodIn wsX12_followed (wsV RX12 202 RX12 yX12_isMan wsX12_isMan) := goodIn_app (goodIn_of _ (by decide +kernel)) ggX12_followed_X12_isMan
set_option maxRecDepth 20000 in
theorem ggX12_followed_X12_in : GoodIn wsX12_followed wsX12_in := goodIn_r _ [11] (by decide +kernel) (by decide +kernel)
set_option maxRecDepth 20000 in
theorem gX12_followed_X12_in : GoodIn wsX12_followed (va_wsS RX12 52 yX12_in wsX12_in) := goodIn_app (goodIn_of _ (by decide +kernel)) ggX12_followed_X12_in
set_option maxRecDepth 20000 in
theorem ggX12_followed_X12_costOf : GoodIn wsX12_followed wsX12_costOf := goodIn_r _ [19, 2, 3, 20, 21, 22, 7, 23, 24, 25, 26, 27, 28, 29, 30, 31, 32, 33, 34, 35, 36, 37, 38, 39, 40, 41, 42, 43, 44, 45, 46, 47, 48, 49, 50, 51, 52, 53, 54, 55, 56, 57, 58, 59, 60, 61, 62, 63, 64, 65, 66, 67, 68, 69, 70, 71, 72, 73, 74, 75, 76, 77, 78, 79, 80] (by decide +kernel) (by decide +kernel)
set_option maxRecDepth 20000 in
theorem gX12_followed_X12_costOf : GoodIn wsX12_followed (wsV RX12 218 RX12 yX12_costOf wsX12_costOf) := goodIn_app (goodIn_of _ (by decide +kernel)) ggX12_followed_X12_costOf
theorem dX12_followed_0 : decode cX12_followed 0 = .ok (.aload_n 0, 1) := by decide +kernel
theorem dX12_followed_1 : decode cX12_followed 1 = .ok (.iload_n 1, 1) := by decide +kernel
theorem dX12_followed_2 : decode cX12_followed 2 = .ok (.invokevirtual 141, 3) := by decide +kernel
theorem dX12_followed_5 : decode cX12_followed 5 = .ok (.ifCond .eq 20, 3) := by decide +kernel
theorem dX12_followed_8 : decode cX12_followed 8 = .ok (.aload_n 0, 1) := by decide +kernel
theorem dX12_followed_9 : decode cX12_followed 9 = .ok (.iload_n 2, 1) := by decide +kernel
theorem dX12_followed_10 : decode cX12_followed 10 = .ok (.invokevirtual 202, 3) := by decide +kernel
theorem dX12_followed_13 : decode cX12_followed 13 = .ok (.ifCond .eq 12, 3) := by decide +kernel
theorem dX12_followed_16 : decode cX12_followed 16 = .ok (.iload_n 3, 1) := by decide +kernel
theorem dX12_followed_17 : decode cX12_followed 17 = .ok (.iconst 0, 1) := by decide +kernel
theorem dX12_followed_18 : decode cX12_followed 18 = .ok (.iconst 1, 1) := by decide +kernel
theorem dX12_followed_19 : decode cX12_followed 19 = .ok (.invokestatic 52, 3) := by decide +kernel
theorem dX12_followed_22 : decode cX12_followed 22 = .ok (.ifCond .ne 6, 3) := by decide +kernel
theorem dX12_followed_25 : decode cX12_followed 25 = .ok (.ldc 60, 2) := by decide +kernel
theorem dX12_followed_27 : decode cX12_followed 27 = .ok (.ireturn, 1) := by decide +kernel
theorem dX12_followed_28 : decode cX12_followed 28 = .ok (.iconst 0, 1) := by decide +kernel
theorem dX12_followed_29 : decode cX12_followed 29 = .ok (.istore 4, 2) := by decide +kernel
theorem dX12_followed_31 : decode cX12_followed 31 = .ok (.ldc 201, 2) := by decide +kernel
theorem dX12_followed_33 : decode cX12_followed 33 = .ok (.istore 5, 2) := by decide +kernel
theorem dX12_followed_35 : decode cX12_followed 35 = .ok (.iconst 0, 1) := by decide +kernel
theorem dX12_followed_36 : decode cX12_followed 36 = .ok (.istore 6, 2) := by decide +kernel
theorem dX12_followed_38 : decode cX12_followed 38 = .ok (.iload 6, 2) := by decide +kernel
theorem dX12_followed_40 : decode cX12_followed 40 = .ok (.bipush 8, 2) := by decide +kernel
theorem dX12_followed_42 : decode cX12_followed 42 = .ok (.if_icmp .ge 120, 3) := by decide +kernel
theorem dX12_followed_45 : decode cX12_followed 45 = .ok (.iconst 0, 1) := by decide +kernel
theorem dX12_followed_46 : decode cX12_followed 46 = .ok (.istore 7, 2) := by decide +kernel
theorem dX12_followed_48 : decode cX12_followed 48 = .ok (.iconst 0, 1) := by decide +kernel
theorem dX12_followed_49 : decode cX12_followed 49 = .ok (.istore 8, 2) := by decide +kernel
theorem dX12_followed_51 : decode cX12_followed 51 = .ok (.iconst 1, 1) := by decide +kernel
theorem dX12_followed_52 : decode cX12_followed 52 = .ok (.istore 9, 2) := by decide +kernel
theorem dX12_followed_54 : decode cX12_followed 54 = .ok (.iload 9, 2) := by decide +kernel
theorem dX12_followed_56 : decode cX12_followed 56 = .ok (.ifCond .eq 68, 3) := by decide +kernel
theorem dX12_followed_59 : decode cX12_followed 59 = .ok (.iload 6, 2) := by decide +kernel
theorem dX12_followed_61 : decode cX12_followed 61 = .ok (.iload 8, 2) := by decide +kernel
theorem dX12_followed_63 : decode cX12_followed 63 = .ok (.iadd, 1) := by decide +kernel
theorem dX12_followed_64 : decode cX12_followed 64 = .ok (.bipush 8, 2) := by decide +kernel
theorem dX12_followed_66 : decode cX12_followed 66 = .ok (.if_icmp .ge 58, 3) := by decide +kernel
theorem dX12_followed_69 : decode cX12_followed 69 = .ok (.iload 7, 2) := by decide +kernel
theorem dX12_followed_71 : decode cX12_followed 71 = .ok (.aload_n 0, 1) := by decide +kernel
theorem dX12_followed_72 : decode cX12_followed 72 = .ok (.iload_n 1, 1) := by decide +kernel
theorem dX12_followed_73 : decode cX12_followed 73 = .ok (.iload_n 2, 1) := by decide +kernel
theorem dX12_followed_74 : decode cX12_followed 74 = .ok (.iload 6, 2) := by decide +kernel
theorem dX12_followed_76 : decode cX12_followed 76 = .ok (.iload 8, 2) := by decide +kernel
theorem dX12_followed_78 : decode cX12_followed 78 = .ok (.iadd, 1) := by decide +kernel
theorem dX12_followed_79 : decode cX12_followed 79 = .ok (.invokevirtual 218, 3) := by decide +kernel
theorem dX12_followed_82 : decode cX12_followed 82 = .ok (.iadd, 1) := by decide +kernel
theorem dX12_followed_83 : decode cX12_followed 83 = .ok (.istore 7, 2) := by decide +kernel
theorem dX12_followed_85 : decode cX12_followed 85 = .ok (.iload 7, 2) := by decide +kernel
theorem dX12_followed_87 : decode cX12_followed 87 = .ok (.aload_n 0, 1) := by decide +kernel
theorem dX12_followed_88 : decode cX12_followed 88 = .ok (.getfield 31, 3) := by decide +kernel
theorem dX12_followed_91 : decode cX12_followed 91 = .ok (.bipush 47, 2) := by decide +kernel
theorem dX12_followed_93 : decode cX12_followed 93 = .ok (.iload_n 1, 1) := by decide +kernel
theorem dX12_followed_94 : decode cX12_followed 94 = .ok (.iadd, 1) := by decide +kernel
theorem dX12_followed_95 : decode cX12_followed 95 = .ok (.iaload, 1) := by decide +kernel
theorem dX12_followed_96 : decode cX12_followed 96 = .ok (.if_icmp .gt 7, 3) := by decide +kernel
theorem dX12_followed_99 : decode cX12_followed 99 = .ok (.iconst 1, 1) := by decide +kernel
theorem dX12_followed_100 : decode cX12_followed 100 = .ok (.goto 4, 3) := by decide +kernel
theorem dX12_followed_103 : decode cX12_followed 103 = .ok (.iconst 0, 1) := by decide +kernel
theorem dX12_followed_104 : decode cX12_followed 104 = .ok (.istore 9, 2) := by decide +kernel
theorem dX12_followed_106 : decode cX12_followed 106 = .ok (.iload 8, 2) := by decide +kernel
theorem dX12_followed_108 : decode cX12_followed 108 = .ok (.iload 9, 2) := by decide +kernel
theorem dX12_followed_110 : decode cX12_followed 110 = .ok (.ifCond .eq 7, 3) := by decide +kernel
theorem dX12_followed_113 : decode cX12_followed 113 = .ok (.iconst 1, 1) := by decide +kernel
theorem dX12_followed_114 : decode cX12_followed 114 = .ok (.goto 4, 3) := by decide +kernel
theorem dX12_followed_117 : decode cX12_followed 117 = .ok (.iconst 0, 1) := by decide +kernel
theorem dX12_followed_118 : decode cX12_followed 118 = .ok (.iadd, 1) := by decide +kernel
theorem dX12_followed_119 : decode cX12_followed 119 = .ok (.istore 8, 2) := by decide +kernel
theorem dX12_followed_121 : decode cX12_followed 121 = .ok (.goto (-67), 3) := by decide +kernel
theorem dX12_followed_124 : decode cX12_followed 124 = .ok (.iload 8, 2) := by decide +kernel
theorem dX12_followed_126 : decode cX12_followed 126 = .ok (.iload 4, 2) := by decide +kernel
theorem dX12_followed_128 : decode cX12_followed 128 = .ok (.if_icmp .le 8, 3) := by decide +kernel
theorem dX12_followed_131 : decode cX12_followed 131 = .ok (.iload 6, 2) := by decide +kernel
theorem dX12_followed_133 : decode cX12_followed 133 = .ok (.goto 5, 3) := by decide +kernel
theorem dX12_followed_136 : decode cX12_followed 136 = .ok (.iload 5, 2) := by decide +kernel
theorem dX12_followed_138 : decode cX12_followed 138 = .ok (.istore 5, 2) := by decide +kernel
theorem dX12_followed_140 : decode cX12_followed 140 = .ok (.iload 8, 2) := by decide +kernel
theorem dX12_followed_142 : decode cX12_followed 142 = .ok (.iload 4, 2) := by decide +kernel
theorem dX12_followed_144 : decode cX12_followed 144 = .ok (.if_icmp .le 8, 3) := by decide +kernel
theorem dX12_followed_147 : decode cX12_followed 147 = .ok (.iload 8, 2) := by decide +kernel
theorem dX12_followed_149 : decode cX12_followed 149 = .ok (.goto 5, 3) := by decide +kernel
theorem dX12_followed_152 : decode cX12_followed 152 = .ok (.iload 4, 2) := by decide +kernel
theorem dX12_followed_154 : decode cX12_followed 154 = .ok (.istore 4, 2) := by decide +kernel
theorem dX12_followed_156 : decode cX12_followed 156 = .ok (.iinc 6 1, 3) := by decide +kernel
theorem dX12_followed_159 : decode cX12_followed 159 = .ok (.goto (-121), 3) := by decide +kernel
theorem dX12_followed_162 : decode cX12_followed 162 = .ok (.iload_n 3, 1) := by decide +kernel
theorem dX12_followed_163 : decode cX12_followed 163 = .ok (.ifCond .ne 8, 3) := by decide +kernel
theorem dX12_followed_166 : decode cX12_followed 166 = .ok (.iload 4, 2) := by decide +kernel
theorem dX12_followed_168 : decode cX12_followed 168 = .ok (.goto 5, 3) := by decide +kernel
theorem dX12_followed_171 : decode cX12_followed 171 = .ok (.iload 5, 2) := by decide +kernel
theorem dX12_followed_173 : decode cX12_followed 173 = .ok (.ireturn, 1) := by decide +kernel
set_option maxRecDepth 20000 in
theorem ggX12_crowd_X12_isGuest : GoodIn wsX12_crowd wsX12_isGuest := goodIn_r _ [7, 2, 8, 9, 6, 10, 29, 30, 31, 32, 33, 34, 35, 36, 37, 38, 39, 40, 41, 42, 43, 44, 45, 46, 47, 48, 49, 50, 51, 52, 53, 54, 55] (by decide +kernel) (by decide +kernel)
set_option maxRecDepth 20000 in
theorem gX12_crowd_X12_isGuest : GoodIn wsX12_crowd (wsV RX12 141 RX12 yX12_isGuest wsX12_isGuest) := goodIn_app (goodIn_of _ (by decide +kernel)) ggX12_crowd_X12_isGuest
set_option maxRecDepth 20000 in
theorem ggX12_crowd_X12_isMinute : GoodIn wsX12_crowd wsX12_isMinute := goodIn_r _ [13, 8, 9, 6, 10] (by decide +kernel) (by decide +kernel)
set_option maxRecDepth 20000 in
theorem gX12_crowd_X12_isMinute : GoodIn wsX12_crowd (va_wsS RX12 147 yX12_isMinute wsX12_isMinute) := goodIn_app (goodIn_of _ (by decide +kernel)) ggX12_crowd_X12_isMinute
set_option maxRecDepth 20000 in
theorem ggX12_crowd_X12_lookedBy : GoodIn wsX12_crowd wsX12_lookedBy := goodIn_r _ [17, 2, 18, 19, 20, 6, 21, 22, 23, 24, 25, 29, 30, 31, 32, 33, 34, 35, 36, 37, 38, 39, 40, 41, 42, 43, 44, 45, 46, 47, 48, 49, 50, 51, 52, 53, 54, 55] (by decide +kernel) (by decide +kernel)
set_option maxRecDepth 20000 in
theorem gX12_crowd_X12_lookedBy : GoodIn wsX12_crowd (wsV RX12 192 RX12 yX12_lookedBy wsX12_lookedBy) := goodIn_app (goodIn_of _ (by decide +kernel)) ggX12_crowd_X12_lookedBy
set_option maxRecDepth 20000 in
theorem ggX12_crowd_X12_has : GoodIn wsX12_crowd wsX12_has := goodIn_r _ [28] (by decide +kernel) (by decide +kernel)
set_option maxRecDepth 20000 in
theorem gX12_crowd_X12_has : GoodIn wsX12_crowd (va_wsS RX12 157 yX12_has wsX12_has) := goodIn_app (goodIn_of _ (by decide +kernel)) ggX12_crowd_X12_has
set_option maxRecDepth 20000 in
theorem ggX12_crowd_X12_heldAt : GoodIn wsX12_crowd wsX12_heldAt := goodIn_r _ [21, 2, 29, 30, 31, 32, 33, 34, 35, 36, 37, 38, 39, 40, 41, 42, 43, 44, 45, 46, 47, 48, 49, 50, 51, 52, 53, 54, 55] (by decide +kernel) (by decide +kernel)
set_option maxRecDepth 20000 in
theorem gX12_crowd_X12_heldAt : GoodIn wsX12_crowd (wsV RX12 153 RX12 yX12_heldAt wsX12_heldAt) := goodIn_app (goodIn_of _ (by decide +kernel)) ggX12_crowd_X12_heldAt
theorem dX12_crowd_0 : decode cX12_crowd 0 = .ok (.aload_n 0, 1) := by decide +kernel
theorem dX12_crowd_1 : decode cX12_crowd 1 = .ok (.iload_n 1, 1) := by decide +kernel
theorem dX12_crowd_2 : decode cX12_crowd 2 = .ok (.invokevirtual 141, 3) := by decide +kernel
theorem dX12_crowd_5 : decode cX12_crowd 5 = .ok (.ifCond .eq 10, 3) := by decide +kernel
theorem dX12_crowd_8 : decode cX12_crowd 8 = .ok (.iload_n 2, 1) := by decide +kernel
theorem dX12_crowd_9 : decode cX12_crowd 9 = .ok (.invokestatic 147, 3) := by decide +kernel
theorem dX12_crowd_12 : decode cX12_crowd 12 = .ok (.ifCond .ne 6, 3) := by decide +kernel
theorem dX12_crowd_15 : decode cX12_crowd 15 = .ok (.ldc 60, 2) := by decide +kernel
theorem dX12_crowd_17 : decode cX12_crowd 17 = .ok (.ireturn, 1) := by decide +kernel
theorem dX12_crowd_18 : decode cX12_crowd 18 = .ok (.aload_n 0, 1) := by decide +kernel
theorem dX12_crowd_19 : decode cX12_crowd 19 = .ok (.iconst 1, 1) := by decide +kernel
theorem dX12_crowd_20 : decode cX12_crowd 20 = .ok (.iload_n 1, 1) := by decide +kernel
theorem dX12_crowd_21 : decode cX12_crowd 21 = .ok (.ishl, 1) := by decide +kernel
theorem dX12_crowd_22 : decode cX12_crowd 22 = .ok (.iload_n 2, 1) := by decide +kernel
theorem dX12_crowd_23 : decode cX12_crowd 23 = .ok (.invokevirtual 192, 3) := by decide +kernel
theorem dX12_crowd_26 : decode cX12_crowd 26 = .ok (.istore_n 3, 1) := by decide +kernel
theorem dX12_crowd_27 : decode cX12_crowd 27 = .ok (.iconst 0, 1) := by decide +kernel
theorem dX12_crowd_28 : decode cX12_crowd 28 = .ok (.istore 4, 2) := by decide +kernel
theorem dX12_crowd_30 : decode cX12_crowd 30 = .ok (.iconst 0, 1) := by decide +kernel
theorem dX12_crowd_31 : decode cX12_crowd 31 = .ok (.istore 5, 2) := by decide +kernel
theorem dX12_crowd_33 : decode cX12_crowd 33 = .ok (.iload 5, 2) := by decide +kernel
theorem dX12_crowd_35 : decode cX12_crowd 35 = .ok (.aload_n 0, 1) := by decide +kernel
theorem dX12_crowd_36 : decode cX12_crowd 36 = .ok (.getfield 31, 3) := by decide +kernel
theorem dX12_crowd_39 : decode cX12_crowd 39 = .ok (.iconst 0, 1) := by decide +kernel
theorem dX12_crowd_40 : decode cX12_crowd 40 = .ok (.iaload, 1) := by decide +kernel
theorem dX12_crowd_41 : decode cX12_crowd 41 = .ok (.if_icmp .ge 34, 3) := by decide +kernel
theorem dX12_crowd_44 : decode cX12_crowd 44 = .ok (.iload 4, 2) := by decide +kernel
theorem dX12_crowd_46 : decode cX12_crowd 46 = .ok (.iload_n 3, 1) := by decide +kernel
theorem dX12_crowd_47 : decode cX12_crowd 47 = .ok (.iload 5, 2) := by decide +kernel
theorem dX12_crowd_49 : decode cX12_crowd 49 = .ok (.invokestatic 157, 3) := by decide +kernel
theorem dX12_crowd_52 : decode cX12_crowd 52 = .ok (.ifCond .eq 13, 3) := by decide +kernel
theorem dX12_crowd_55 : decode cX12_crowd 55 = .ok (.aload_n 0, 1) := by decide +kernel
theorem dX12_crowd_56 : decode cX12_crowd 56 = .ok (.iload 5, 2) := by decide +kernel
theorem dX12_crowd_58 : decode cX12_crowd 58 = .ok (.iload_n 2, 1) := by decide +kernel
theorem dX12_crowd_59 : decode cX12_crowd 59 = .ok (.invokevirtual 153, 3) := by decide +kernel
theorem dX12_crowd_62 : decode cX12_crowd 62 = .ok (.goto 4, 3) := by decide +kernel
theorem dX12_crowd_65 : decode cX12_crowd 65 = .ok (.iconst 0, 1) := by decide +kernel
theorem dX12_crowd_66 : decode cX12_crowd 66 = .ok (.ior, 1) := by decide +kernel
theorem dX12_crowd_67 : decode cX12_crowd 67 = .ok (.istore 4, 2) := by decide +kernel
theorem dX12_crowd_69 : decode cX12_crowd 69 = .ok (.iinc 5 1, 3) := by decide +kernel
theorem dX12_crowd_72 : decode cX12_crowd 72 = .ok (.goto (-39), 3) := by decide +kernel
theorem dX12_crowd_75 : decode cX12_crowd 75 = .ok (.iload 4, 2) := by decide +kernel
theorem dX12_crowd_77 : decode cX12_crowd 77 = .ok (.iconst 1, 1) := by decide +kernel
theorem dX12_crowd_78 : decode cX12_crowd 78 = .ok (.iload_n 1, 1) := by decide +kernel
theorem dX12_crowd_79 : decode cX12_crowd 79 = .ok (.ishl, 1) := by decide +kernel
theorem dX12_crowd_80 : decode cX12_crowd 80 = .ok (.iconst (-1), 1) := by decide +kernel
theorem dX12_crowd_81 : decode cX12_crowd 81 = .ok (.ixor, 1) := by decide +kernel
theorem dX12_crowd_82 : decode cX12_crowd 82 = .ok (.iand, 1) := by decide +kernel
theorem dX12_crowd_83 : decode cX12_crowd 83 = .ok (.ireturn, 1) := by decide +kernel
set_option maxRecDepth 20000 in
theorem ggX12_toldBy_X12_seenBy : GoodIn wsX12_toldBy wsX12_seenBy := goodIn_r _ [7, 1, 8, 9, 10, 6, 11, 2, 12, 13, 14, 15, 16, 17, 18, 19, 20, 21, 22, 23, 24, 25, 26, 27, 28, 29, 30, 31, 32, 33, 34, 35, 36, 37, 38, 39, 40, 41, 42, 43, 44, 45, 46, 47, 48, 49, 50, 51, 52, 53] (by decide +kernel) (by decide +kernel)
set_option maxRecDepth 20000 in
theorem gX12_toldBy_X12_seenBy : GoodIn wsX12_toldBy (wsV RX12 205 RX12 yX12_seenBy wsX12_seenBy) := goodIn_app (goodIn_of _ (by decide +kernel)) ggX12_toldBy_X12_seenBy
theorem dX12_toldBy_0 : decode cX12_toldBy 0 = .ok (.aload_n 0, 1) := by decide +kernel
theorem dX12_toldBy_1 : decode cX12_toldBy 1 = .ok (.iconst 1, 1) := by decide +kernel
theorem dX12_toldBy_2 : decode cX12_toldBy 2 = .ok (.iload_n 1, 1) := by decide +kernel
theorem dX12_toldBy_3 : decode cX12_toldBy 3 = .ok (.ishl, 1) := by decide +kernel
theorem dX12_toldBy_4 : decode cX12_toldBy 4 = .ok (.iload_n 2, 1) := by decide +kernel
theorem dX12_toldBy_5 : decode cX12_toldBy 5 = .ok (.iload_n 3, 1) := by decide +kernel
theorem dX12_toldBy_6 : decode cX12_toldBy 6 = .ok (.invokevirtual 205, 3) := by decide +kernel
theorem dX12_toldBy_9 : decode cX12_toldBy 9 = .ok (.istore 4, 2) := by decide +kernel
theorem dX12_toldBy_11 : decode cX12_toldBy 11 = .ok (.iload 4, 2) := by decide +kernel
theorem dX12_toldBy_13 : decode cX12_toldBy 13 = .ok (.ldc 201, 2) := by decide +kernel
theorem dX12_toldBy_15 : decode cX12_toldBy 15 = .ok (.if_icmp .eq 16, 3) := by decide +kernel
theorem dX12_toldBy_18 : decode cX12_toldBy 18 = .ok (.aload_n 0, 1) := by decide +kernel
theorem dX12_toldBy_19 : decode cX12_toldBy 19 = .ok (.getfield 31, 3) := by decide +kernel
theorem dX12_toldBy_22 : decode cX12_toldBy 22 = .ok (.bipush 43, 2) := by decide +kernel
theorem dX12_toldBy_24 : decode cX12_toldBy 24 = .ok (.iload_n 1, 1) := by decide +kernel
theorem dX12_toldBy_25 : decode cX12_toldBy 25 = .ok (.iadd, 1) := by decide +kernel
theorem dX12_toldBy_26 : decode cX12_toldBy 26 = .ok (.iaload, 1) := by decide +kernel
theorem dX12_toldBy_27 : decode cX12_toldBy 27 = .ok (.iconst 2, 1) := by decide +kernel
theorem dX12_toldBy_28 : decode cX12_toldBy 28 = .ok (.if_icmp .eq 8, 3) := by decide +kernel
theorem dX12_toldBy_31 : decode cX12_toldBy 31 = .ok (.iload 4, 2) := by decide +kernel
theorem dX12_toldBy_33 : decode cX12_toldBy 33 = .ok (.goto 14, 3) := by decide +kernel
theorem dX12_toldBy_36 : decode cX12_toldBy 36 = .ok (.iload 4, 2) := by decide +kernel
theorem dX12_toldBy_38 : decode cX12_toldBy 38 = .ok (.iconst 1, 1) := by decide +kernel
theorem dX12_toldBy_39 : decode cX12_toldBy 39 = .ok (.iadd, 1) := by decide +kernel
theorem dX12_toldBy_40 : decode cX12_toldBy 40 = .ok (.aload_n 0, 1) := by decide +kernel
theorem dX12_toldBy_41 : decode cX12_toldBy 41 = .ok (.getfield 31, 3) := by decide +kernel
theorem dX12_toldBy_44 : decode cX12_toldBy 44 = .ok (.iconst 0, 1) := by decide +kernel
theorem dX12_toldBy_45 : decode cX12_toldBy 45 = .ok (.iaload, 1) := by decide +kernel
theorem dX12_toldBy_46 : decode cX12_toldBy 46 = .ok (.irem, 1) := by decide +kernel
theorem dX12_toldBy_47 : decode cX12_toldBy 47 = .ok (.ireturn, 1) := by decide +kernel
set_option maxRecDepth 20000 in
theorem ggX12_told_X12_isGuest : GoodIn wsX12_told wsX12_isGuest := goodIn_r _ [6, 7, 8, 9, 5, 10, 46, 47, 48, 49, 50, 51, 52, 53, 54, 55, 56, 57, 58, 59, 60, 61, 62, 63, 64, 65, 66, 67, 68, 69, 70, 71, 72] (by decide +kernel) (by decide +kernel)
set_option maxRecDepth 20000 in
theorem gX12_told_X12_isGuest : GoodIn wsX12_told (wsV RX12 141 RX12 yX12_isGuest wsX12_isGuest) := goodIn_app (goodIn_of _ (by decide +kernel)) ggX12_told_X12_isGuest
set_option maxRecDepth 20000 in
theorem ggX12_told_X12_isMan : GoodIn wsX12_told wsX12_isMan := goodIn_r _ [14, 7, 8, 9, 5, 10, 46, 47, 48, 49, 50, 51, 52, 53, 54, 55, 56, 57, 58, 59, 60, 61, 62, 63, 64, 65, 66, 67, 68, 69, 70, 71, 72] (by decide +kernel) (by decide +kernel)
set_option maxRecDepth 20000 in
theorem gX12_told_X12_isMan : GoodIn wsX12_told (wsV RX12 202 RX12 yX12_isMan wsX12_isMan) := goodIn_app (goodIn_of _ (by decide +kernel)) ggX12_told_X12_isMan
set_option maxRecDepth 20000 in
theorem ggX12_told_X12_isMinute : GoodIn wsX12_told wsX12_isMinute := goodIn_r _ [17, 8, 9, 5, 10] (by decide +kernel) (by decide +kernel)
set_option maxRecDepth 20000 in
theorem gX12_told_X12_isMinute : GoodIn wsX12_told (va_wsS RX12 147 yX12_isMinute wsX12_isMinute) := goodIn_app (goodIn_of _ (by decide +kernel)) ggX12_told_X12_isMinute
set_option maxRecDepth 20000 in
theorem ggX12_told_X12_toldBy : GoodIn wsX12_told wsX12_toldBy := goodIn_r _ [21, 22, 7, 23, 24, 25, 5, 26, 27, 28, 29, 30, 31, 32, 33, 34, 35, 36, 37, 38, 39, 40, 41, 42, 43, 44, 45, 46, 47, 48, 49, 50, 51, 52, 53, 54, 55, 56, 57, 58, 59, 60, 61, 62, 63, 64, 65, 66, 67, 68, 69, 70, 71, 72] (by decide +kernel) (by decide +kernel)
set_option maxRecDepth 20000 in
theorem gX12_told_X12_toldBy : GoodIn wsX12_told (wsV RX12 221 RX12 yX12_toldBy wsX12_toldBy) := goodIn_app (goodIn_of _ (by decide +kernel)) ggX12_told_X12_toldBy
theorem dX12_told_0 : decode cX12_told 0 = .ok (.aload_n 0, 1) := by decide +kernel
theorem dX12_told_1 : decode cX12_told 1 = .ok (.iload_n 1, 1) := by decide +kernel
theorem dX12_told_2 : decode cX12_told 2 = .ok (.invokevirtual 141, 3) := by decide +kernel
theorem dX12_told_5 : decode cX12_told 5 = .ok (.ifCond .eq 28, 3) := by decide +kernel
theorem dX12_told_8 : decode cX12_told 8 = .ok (.aload_n 0, 1) := by decide +kernel
theorem dX12_told_9 : decode cX12_told 9 = .ok (.iload_n 2, 1) := by decide +kernel
theorem dX12_told_10 : decode cX12_told 10 = .ok (.invokevirtual 202, 3) := by decide +kernel
theorem dX12_told_13 : decode cX12_told 13 = .ok (.ifCond .eq 20, 3) := by decide +kernel
theorem dX12_told_16 : decode cX12_told 16 = .ok (.iload_n 3, 1) := by decide +kernel
theorem dX12_told_17 : decode cX12_told 17 = .ok (.invokestatic 147, 3) := by decide +kernel
theorem dX12_told_20 : decode cX12_told 20 = .ok (.ifCond .eq 13, 3) := by decide +kernel
theorem dX12_told_23 : decode cX12_told 23 = .ok (.aload_n 0, 1) := by decide +kernel
theorem dX12_told_24 : decode cX12_told 24 = .ok (.iload_n 1, 1) := by decide +kernel
theorem dX12_told_25 : decode cX12_told 25 = .ok (.iload_n 2, 1) := by decide +kernel
theorem dX12_told_26 : decode cX12_told 26 = .ok (.iload_n 3, 1) := by decide +kernel
theorem dX12_told_27 : decode cX12_told 27 = .ok (.invokevirtual 221, 3) := by decide +kernel
theorem dX12_told_30 : decode cX12_told 30 = .ok (.goto 5, 3) := by decide +kernel
theorem dX12_told_33 : decode cX12_told 33 = .ok (.ldc 60, 2) := by decide +kernel
theorem dX12_told_35 : decode cX12_told 35 = .ok (.ireturn, 1) := by decide +kernel
set_option maxRecDepth 20000 in
theorem ggX12_believed_X12_isMan : GoodIn wsX12_believed wsX12_isMan := goodIn_r _ [8, 3, 9, 10, 7, 11, 42, 43, 44, 45, 46, 47, 48, 49, 50, 51, 52, 53, 54, 55, 56, 57, 58, 59, 60, 61, 62, 63, 64, 65, 66, 67, 68] (by decide +kernel) (by decide +kernel)
set_option maxRecDepth 20000 in
theorem gX12_believed_X12_isMan : GoodIn wsX12_believed (wsV RX12 202 RX12 yX12_isMan wsX12_isMan) := goodIn_app (goodIn_of _ (by decide +kernel)) ggX12_believed_X12_isMan
set_option maxRecDepth 20000 in
theorem ggX12_believed_X12_isMinute : GoodIn wsX12_believed wsX12_isMinute := goodIn_r _ [14, 9, 10, 7, 11] (by decide +kernel) (by decide +kernel)
set_option maxRecDepth 20000 in
theorem gX12_believed_X12_isMinute : GoodIn wsX12_believed (va_wsS RX12 147 yX12_isMinute wsX12_isMinute) := goodIn_app (goodIn_of _ (by decide +kernel)) ggX12_believed_X12_isMinute
set_option maxRecDepth 20000 in
theorem ggX12_believed_X12_toldBy : GoodIn wsX12_believed wsX12_toldBy := goodIn_r _ [18, 2, 3, 19, 20, 21, 7, 22, 23, 24, 25, 26, 27, 28, 29, 30, 31, 32, 33, 34, 35, 36, 37, 38, 39, 40, 41, 42, 43, 44, 45, 46, 47, 48, 49, 50, 51, 52, 53, 54, 55, 56, 57, 58, 59, 60, 61, 62, 63, 64, 65, 66, 67, 68] (by decide +kernel) (by decide +kernel)
set_option maxRecDepth 20000 in
theorem gX12_believed_X12_toldBy : GoodIn wsX12_believed (wsV RX12 221 RX12 yX12_toldBy wsX12_toldBy) := goodIn_app (goodIn_of _ (by decide +kernel)) ggX12_believed_X12_toldBy
theorem dX12_believed_0 : decode cX12_believed 0 = .ok (.aload_n 0, 1) := by decide +kernel
theorem dX12_believed_1 : decode cX12_believed 1 = .ok (.iload_n 1, 1) := by decide +kernel
theorem dX12_believed_2 : decode cX12_believed 2 = .ok (.invokevirtual 202, 3) := by decide +kernel
theorem dX12_believed_5 : decode cX12_believed 5 = .ok (.ifCond .eq 10, 3) := by decide +kernel
theorem dX12_believed_8 : decode cX12_believed 8 = .ok (.iload_n 2, 1) := by decide +kernel
theorem dX12_believed_9 : decode cX12_believed 9 = .ok (.invokestatic 147, 3) := by decide +kernel
theorem dX12_believed_12 : decode cX12_believed 12 = .ok (.ifCond .ne 6, 3) := by decide +kernel
theorem dX12_believed_15 : decode cX12_believed 15 = .ok (.ldc 60, 2) := by decide +kernel
theorem dX12_believed_17 : decode cX12_believed 17 = .ok (.ireturn, 1) := by decide +kernel
theorem dX12_believed_18 : decode cX12_believed 18 = .ok (.ldc 201, 2) := by decide +kernel
theorem dX12_believed_20 : decode cX12_believed 20 = .ok (.istore_n 3, 1) := by decide +kernel
theorem dX12_believed_21 : decode cX12_believed 21 = .ok (.iconst 0, 1) := by decide +kernel
theorem dX12_believed_22 : decode cX12_believed 22 = .ok (.istore 4, 2) := by decide +kernel
theorem dX12_believed_24 : decode cX12_believed 24 = .ok (.iconst 0, 1) := by decide +kernel
theorem dX12_believed_25 : decode cX12_believed 25 = .ok (.istore 5, 2) := by decide +kernel
theorem dX12_believed_27 : decode cX12_believed 27 = .ok (.iload 5, 2) := by decide +kernel
theorem dX12_believed_29 : decode cX12_believed 29 = .ok (.aload_n 0, 1) := by decide +kernel
theorem dX12_believed_30 : decode cX12_believed 30 = .ok (.getfield 31, 3) := by decide +kernel
theorem dX12_believed_33 : decode cX12_believed 33 = .ok (.iconst 0, 1) := by decide +kernel
theorem dX12_believed_34 : decode cX12_believed 34 = .ok (.iaload, 1) := by decide +kernel
theorem dX12_believed_35 : decode cX12_believed 35 = .ok (.if_icmp .ge 85, 3) := by decide +kernel
theorem dX12_believed_38 : decode cX12_believed 38 = .ok (.iconst 0, 1) := by decide +kernel
theorem dX12_believed_39 : decode cX12_believed 39 = .ok (.istore 6, 2) := by decide +kernel
theorem dX12_believed_41 : decode cX12_believed 41 = .ok (.iconst 0, 1) := by decide +kernel
theorem dX12_believed_42 : decode cX12_believed 42 = .ok (.istore 7, 2) := by decide +kernel
theorem dX12_believed_44 : decode cX12_believed 44 = .ok (.iload 7, 2) := by decide +kernel
theorem dX12_believed_46 : decode cX12_believed 46 = .ok (.aload_n 0, 1) := by decide +kernel
theorem dX12_believed_47 : decode cX12_believed 47 = .ok (.getfield 31, 3) := by decide +kernel
theorem dX12_believed_50 : decode cX12_believed 50 = .ok (.iconst 4, 1) := by decide +kernel
theorem dX12_believed_51 : decode cX12_believed 51 = .ok (.iaload, 1) := by decide +kernel
theorem dX12_believed_52 : decode cX12_believed 52 = .ok (.if_icmp .ge 32, 3) := by decide +kernel
theorem dX12_believed_55 : decode cX12_believed 55 = .ok (.iload 6, 2) := by decide +kernel
theorem dX12_believed_57 : decode cX12_believed 57 = .ok (.aload_n 0, 1) := by decide +kernel
theorem dX12_believed_58 : decode cX12_believed 58 = .ok (.iload 7, 2) := by decide +kernel
theorem dX12_believed_60 : decode cX12_believed 60 = .ok (.iload_n 1, 1) := by decide +kernel
theorem dX12_believed_61 : decode cX12_believed 61 = .ok (.iload_n 2, 1) := by decide +kernel
theorem dX12_believed_62 : decode cX12_believed 62 = .ok (.invokevirtual 221, 3) := by decide +kernel
theorem dX12_believed_65 : decode cX12_believed 65 = .ok (.iload 5, 2) := by decide +kernel
theorem dX12_believed_67 : decode cX12_believed 67 = .ok (.if_icmp .ne 7, 3) := by decide +kernel
theorem dX12_believed_70 : decode cX12_believed 70 = .ok (.iconst 1, 1) := by decide +kernel
theorem dX12_believed_71 : decode cX12_believed 71 = .ok (.goto 4, 3) := by decide +kernel
theorem dX12_believed_74 : decode cX12_believed 74 = .ok (.iconst 0, 1) := by decide +kernel
theorem dX12_believed_75 : decode cX12_believed 75 = .ok (.iadd, 1) := by decide +kernel
theorem dX12_believed_76 : decode cX12_believed 76 = .ok (.istore 6, 2) := by decide +kernel
theorem dX12_believed_78 : decode cX12_believed 78 = .ok (.iinc 7 1, 3) := by decide +kernel
theorem dX12_believed_81 : decode cX12_believed 81 = .ok (.goto (-37), 3) := by decide +kernel
theorem dX12_believed_84 : decode cX12_believed 84 = .ok (.iload 6, 2) := by decide +kernel
theorem dX12_believed_86 : decode cX12_believed 86 = .ok (.iload 4, 2) := by decide +kernel
theorem dX12_believed_88 : decode cX12_believed 88 = .ok (.if_icmp .le 8, 3) := by decide +kernel
theorem dX12_believed_91 : decode cX12_believed 91 = .ok (.iload 5, 2) := by decide +kernel
theorem dX12_believed_93 : decode cX12_believed 93 = .ok (.goto 4, 3) := by decide +kernel
theorem dX12_believed_96 : decode cX12_believed 96 = .ok (.iload_n 3, 1) := by decide +kernel
theorem dX12_believed_97 : decode cX12_believed 97 = .ok (.istore_n 3, 1) := by decide +kernel
theorem dX12_believed_98 : decode cX12_believed 98 = .ok (.iload 6, 2) := by decide +kernel
theorem dX12_believed_100 : decode cX12_believed 100 = .ok (.iload 4, 2) := by decide +kernel
theorem dX12_believed_102 : decode cX12_believed 102 = .ok (.if_icmp .le 8, 3) := by decide +kernel
theorem dX12_believed_105 : decode cX12_believed 105 = .ok (.iload 6, 2) := by decide +kernel
theorem dX12_believed_107 : decode cX12_believed 107 = .ok (.goto 5, 3) := by decide +kernel
theorem dX12_believed_110 : decode cX12_believed 110 = .ok (.iload 4, 2) := by decide +kernel
theorem dX12_believed_112 : decode cX12_believed 112 = .ok (.istore 4, 2) := by decide +kernel
theorem dX12_believed_114 : decode cX12_believed 114 = .ok (.iinc 5 1, 3) := by decide +kernel
theorem dX12_believed_117 : decode cX12_believed 117 = .ok (.goto (-90), 3) := by decide +kernel
theorem dX12_believed_120 : decode cX12_believed 120 = .ok (.iload_n 3, 1) := by decide +kernel
theorem dX12_believed_121 : decode cX12_believed 121 = .ok (.ireturn, 1) := by decide +kernel
set_option maxRecDepth 20000 in
theorem ggX12_account_X12_isSet : GoodIn wsX12_account wsX12_isSet := goodIn_r _ [9, 4, 10, 11, 8, 12, 63, 64, 65, 66, 67, 68, 69, 70, 71, 72, 73, 74, 75, 76, 77, 78, 79, 80, 81, 82, 83, 84, 85, 86, 87, 88, 89] (by decide +kernel) (by decide +kernel)
set_option maxRecDepth 20000 in
theorem gX12_account_X12_isSet : GoodIn wsX12_account (wsV RX12 198 RX12 yX12_isSet wsX12_isSet) := goodIn_app (goodIn_of _ (by decide +kernel)) ggX12_account_X12_isSet
set_option maxRecDepth 20000 in
theorem ggX12_account_X12_isMan : GoodIn wsX12_account wsX12_isMan := goodIn_r _ [16, 4, 10, 11, 8, 12, 63, 64, 65, 66, 67, 68, 69, 70, 71, 72, 73, 74, 75, 76, 77, 78, 79, 80, 81, 82, 83, 84, 85, 86, 87, 88, 89] (by decide +kernel) (by decide +kernel)
set_option maxRecDepth 20000 in
theorem gX12_account_X12_isMan : GoodIn wsX12_account (wsV RX12 202 RX12 yX12_isMan wsX12_isMan) := goodIn_app (goodIn_of _ (by decide +kernel)) ggX12_account_X12_isMan
set_option maxRecDepth 20000 in
theorem ggX12_account_X12_isRow : GoodIn wsX12_account wsX12_isRow := goodIn_r _ [19, 10, 11, 8, 12] (by decide +kernel) (by decide +kernel)
set_option maxRecDepth 20000 in
theorem gX12_account_X12_isRow : GoodIn wsX12_account (va_wsS RX12 56 yX12_isRow wsX12_isRow) := goodIn_app (goodIn_of _ (by decide +kernel)) ggX12_account_X12_isRow
set_option maxRecDepth 20000 in
theorem ggX12_account_X12_isNull : GoodIn wsX12_account wsX12_isNull := goodIn_r _ [23, 24, 63, 64, 65, 66, 67, 68, 69, 70, 71, 72, 73, 74, 75, 76, 77, 78, 79, 80, 81, 82, 83, 84, 85, 86, 87, 88, 89] (by decide +kernel) (by decide +kernel)
set_option maxRecDepth 20000 in
theorem gX12_account_X12_isNull : GoodIn wsX12_account (wsV RX12 68 RX12 yX12_isNull wsX12_isNull) := goodIn_app (goodIn_of _ (by decide +kernel)) ggX12_account_X12_isNull
set_option maxRecDepth 20000 in
theorem ggX12_account_X12_finds : GoodIn wsX12_account wsX12_finds := goodIn_r _ [28, 29, 30, 63, 64, 65, 66, 67, 68, 69, 70, 71, 72, 73, 74, 75, 76, 77, 78, 79, 80, 81, 82, 83, 84, 85, 86, 87, 88, 89] (by decide +kernel) (by decide +kernel)
set_option maxRecDepth 20000 in
theorem gX12_account_X12_finds : GoodIn wsX12_account (wsV RX12 61 RX12 yX12_finds wsX12_finds) := goodIn_app (goodIn_of _ (by decide +kernel)) ggX12_account_X12_finds
set_option maxRecDepth 20000 in
theorem ggX12_account_X12_in : GoodIn wsX12_account wsX12_in := goodIn_r _ [12] (by decide +kernel) (by decide +kernel)
set_option maxRecDepth 20000 in
theorem gX12_account_X12_in : GoodIn wsX12_account (va_wsS RX12 52 yX12_in wsX12_in) := goodIn_app (goodIn_of _ (by decide +kernel)) ggX12_account_X12_in
set_option maxRecDepth 20000 in
theorem ggX12_account_X12_canBeAt : GoodIn wsX12_account wsX12_canBeAt := goodIn_r _ [34, 35, 36, 37, 38, 8, 39, 40, 41, 42, 43, 4, 44, 45, 46, 47, 48, 49, 50, 51, 52, 53, 54, 55, 56, 57, 58, 63, 64, 65, 66, 67, 68, 69, 70, 71, 72, 73, 74, 75, 76, 77, 78, 79, 80, 81, 82, 83, 84, 85, 86, 87, 88, 89] (by decide +kernel) (by decide +kernel)
set_option maxRecDepth 20000 in
theorem gX12_account_X12_canBeAt : GoodIn wsX12_account (wsV RX12 208 RX12 yX12_canBeAt wsX12_canBeAt) := goodIn_app (goodIn_of _ (by decide +kernel)) ggX12_account_X12_canBeAt
set_option maxRecDepth 20000 in
theorem ggX12_account_X12_did : GoodIn wsX12_account wsX12_did := goodIn_r _ [62, 29, 63, 64, 65, 66, 67, 68, 69, 70, 71, 72, 73, 74, 75, 76, 77, 78, 79, 80, 81, 82, 83, 84, 85, 86, 87, 88, 89] (by decide +kernel) (by decide +kernel)
set_option maxRecDepth 20000 in
theorem gX12_account_X12_did : GoodIn wsX12_account (wsV RX12 65 RX12 yX12_did wsX12_did) := goodIn_app (goodIn_of _ (by decide +kernel)) ggX12_account_X12_did
theorem dX12_account_0 : decode cX12_account 0 = .ok (.aload_n 0, 1) := by decide +kernel
theorem dX12_account_1 : decode cX12_account 1 = .ok (.iload_n 1, 1) := by decide +kernel
theorem dX12_account_2 : decode cX12_account 2 = .ok (.invokevirtual 198, 3) := by decide +kernel
theorem dX12_account_5 : decode cX12_account 5 = .ok (.ifCond .eq 18, 3) := by decide +kernel
theorem dX12_account_8 : decode cX12_account 8 = .ok (.aload_n 0, 1) := by decide +kernel
theorem dX12_account_9 : decode cX12_account 9 = .ok (.iload_n 2, 1) := by decide +kernel
theorem dX12_account_10 : decode cX12_account 10 = .ok (.invokevirtual 202, 3) := by decide +kernel
theorem dX12_account_13 : decode cX12_account 13 = .ok (.ifCond .eq 10, 3) := by decide +kernel
theorem dX12_account_16 : decode cX12_account 16 = .ok (.iload_n 3, 1) := by decide +kernel
theorem dX12_account_17 : decode cX12_account 17 = .ok (.invokestatic 56, 3) := by decide +kernel
theorem dX12_account_20 : decode cX12_account 20 = .ok (.ifCond .ne 6, 3) := by decide +kernel
theorem dX12_account_23 : decode cX12_account 23 = .ok (.ldc 60, 2) := by decide +kernel
theorem dX12_account_25 : decode cX12_account 25 = .ok (.ireturn, 1) := by decide +kernel
theorem dX12_account_26 : decode cX12_account 26 = .ok (.aload_n 0, 1) := by decide +kernel
theorem dX12_account_27 : decode cX12_account 27 = .ok (.iload_n 3, 1) := by decide +kernel
theorem dX12_account_28 : decode cX12_account 28 = .ok (.invokevirtual 68, 3) := by decide +kernel
theorem dX12_account_31 : decode cX12_account 31 = .ok (.ifCond .eq 9, 3) := by decide +kernel
theorem dX12_account_34 : decode cX12_account 34 = .ok (.aload_n 0, 1) := by decide +kernel
theorem dX12_account_35 : decode cX12_account 35 = .ok (.iconst 1, 1) := by decide +kernel
theorem dX12_account_36 : decode cX12_account 36 = .ok (.invokevirtual 61, 3) := by decide +kernel
theorem dX12_account_39 : decode cX12_account 39 = .ok (.ireturn, 1) := by decide +kernel
theorem dX12_account_40 : decode cX12_account 40 = .ok (.iload 4, 2) := by decide +kernel
theorem dX12_account_42 : decode cX12_account 42 = .ok (.ifCond .lt 17, 3) := by decide +kernel
theorem dX12_account_45 : decode cX12_account 45 = .ok (.iload 4, 2) := by decide +kernel
theorem dX12_account_47 : decode cX12_account 47 = .ok (.aload_n 0, 1) := by decide +kernel
theorem dX12_account_48 : decode cX12_account 48 = .ok (.getfield 13, 3) := by decide +kernel
theorem dX12_account_51 : decode cX12_account 51 = .ok (.iload_n 3, 1) := by decide +kernel
theorem dX12_account_52 : decode cX12_account 52 = .ok (.iaload, 1) := by decide +kernel
theorem dX12_account_53 : decode cX12_account 53 = .ok (.bipush 8, 2) := by decide +kernel
theorem dX12_account_55 : decode cX12_account 55 = .ok (.isub, 1) := by decide +kernel
theorem dX12_account_56 : decode cX12_account 56 = .ok (.if_icmp .le 9, 3) := by decide +kernel
theorem dX12_account_59 : decode cX12_account 59 = .ok (.aload_n 0, 1) := by decide +kernel
theorem dX12_account_60 : decode cX12_account 60 = .ok (.iconst 2, 1) := by decide +kernel
theorem dX12_account_61 : decode cX12_account 61 = .ok (.invokevirtual 61, 3) := by decide +kernel
theorem dX12_account_64 : decode cX12_account 64 = .ok (.ireturn, 1) := by decide +kernel
theorem dX12_account_65 : decode cX12_account 65 = .ok (.iconst 0, 1) := by decide +kernel
theorem dX12_account_66 : decode cX12_account 66 = .ok (.istore 5, 2) := by decide +kernel
theorem dX12_account_68 : decode cX12_account 68 = .ok (.iconst 0, 1) := by decide +kernel
theorem dX12_account_69 : decode cX12_account 69 = .ok (.istore 6, 2) := by decide +kernel
theorem dX12_account_71 : decode cX12_account 71 = .ok (.iload 6, 2) := by decide +kernel
theorem dX12_account_73 : decode cX12_account 73 = .ok (.bipush 8, 2) := by decide +kernel
theorem dX12_account_75 : decode cX12_account 75 = .ok (.if_icmp .ge 77, 3) := by decide +kernel
theorem dX12_account_78 : decode cX12_account 78 = .ok (.aload_n 0, 1) := by decide +kernel
theorem dX12_account_79 : decode cX12_account 79 = .ok (.getfield 16, 3) := by decide +kernel
theorem dX12_account_82 : decode cX12_account 82 = .ok (.bipush 40, 2) := by decide +kernel
theorem dX12_account_84 : decode cX12_account 84 = .ok (.iload_n 3, 1) := by decide +kernel
theorem dX12_account_85 : decode cX12_account 85 = .ok (.imul, 1) := by decide +kernel
theorem dX12_account_86 : decode cX12_account 86 = .ok (.iload 4, 2) := by decide +kernel
theorem dX12_account_88 : decode cX12_account 88 = .ok (.iadd, 1) := by decide +kernel
theorem dX12_account_89 : decode cX12_account 89 = .ok (.iload 6, 2) := by decide +kernel
theorem dX12_account_91 : decode cX12_account 91 = .ok (.iadd, 1) := by decide +kernel
theorem dX12_account_92 : decode cX12_account 92 = .ok (.iaload, 1) := by decide +kernel
theorem dX12_account_93 : decode cX12_account 93 = .ok (.istore 7, 2) := by decide +kernel
theorem dX12_account_95 : decode cX12_account 95 = .ok (.iload 7, 2) := by decide +kernel
theorem dX12_account_97 : decode cX12_account 97 = .ok (.iconst (-1), 1) := by decide +kernel
theorem dX12_account_98 : decode cX12_account 98 = .ok (.aload_n 0, 1) := by decide +kernel
theorem dX12_account_99 : decode cX12_account 99 = .ok (.getfield 31, 3) := by decide +kernel
theorem dX12_account_102 : decode cX12_account 102 = .ok (.iconst 0, 1) := by decide +kernel
theorem dX12_account_103 : decode cX12_account 103 = .ok (.iaload, 1) := by decide +kernel
theorem dX12_account_104 : decode cX12_account 104 = .ok (.iconst 1, 1) := by decide +kernel
theorem dX12_account_105 : decode cX12_account 105 = .ok (.isub, 1) := by decide +kernel
theorem dX12_account_106 : decode cX12_account 106 = .ok (.invokestatic 52, 3) := by decide +kernel
theorem dX12_account_109 : decode cX12_account 109 = .ok (.ifCond .ne 6, 3) := by decide +kernel
theorem dX12_account_112 : decode cX12_account 112 = .ok (.ldc 60, 2) := by decide +kernel
theorem dX12_account_114 : decode cX12_account 114 = .ok (.ireturn, 1) := by decide +kernel
theorem dX12_account_115 : decode cX12_account 115 = .ok (.iload 5, 2) := by decide +kernel
theorem dX12_account_117 : decode cX12_account 117 = .ok (.iload 7, 2) := by decide +kernel
theorem dX12_account_119 : decode cX12_account 119 = .ok (.ifCond .lt 23, 3) := by decide +kernel
theorem dX12_account_122 : decode cX12_account 122 = .ok (.aload_n 0, 1) := by decide +kernel
theorem dX12_account_123 : decode cX12_account 123 = .ok (.iload_n 1, 1) := by decide +kernel
theorem dX12_account_124 : decode cX12_account 124 = .ok (.iload_n 2, 1) := by decide +kernel
theorem dX12_account_125 : decode cX12_account 125 = .ok (.iload 7, 2) := by decide +kernel
theorem dX12_account_127 : decode cX12_account 127 = .ok (.iload 6, 2) := by decide +kernel
theorem dX12_account_129 : decode cX12_account 129 = .ok (.invokevirtual 208, 3) := by decide +kernel
theorem dX12_account_132 : decode cX12_account 132 = .ok (.ifCond .ne 10, 3) := by decide +kernel
theorem dX12_account_135 : decode cX12_account 135 = .ok (.iconst 1, 1) := by decide +kernel
theorem dX12_account_136 : decode cX12_account 136 = .ok (.iload 6, 2) := by decide +kernel
theorem dX12_account_138 : decode cX12_account 138 = .ok (.ishl, 1) := by decide +kernel
theorem dX12_account_139 : decode cX12_account 139 = .ok (.goto 4, 3) := by decide +kernel
theorem dX12_account_142 : decode cX12_account 142 = .ok (.iconst 0, 1) := by decide +kernel
theorem dX12_account_143 : decode cX12_account 143 = .ok (.ior, 1) := by decide +kernel
theorem dX12_account_144 : decode cX12_account 144 = .ok (.istore 5, 2) := by decide +kernel
theorem dX12_account_146 : decode cX12_account 146 = .ok (.iinc 6 1, 3) := by decide +kernel
theorem dX12_account_149 : decode cX12_account 149 = .ok (.goto (-78), 3) := by decide +kernel
theorem dX12_account_152 : decode cX12_account 152 = .ok (.aload_n 0, 1) := by decide +kernel
theorem dX12_account_153 : decode cX12_account 153 = .ok (.iload 5, 2) := by decide +kernel
theorem dX12_account_155 : decode cX12_account 155 = .ok (.invokevirtual 65, 3) := by decide +kernel
theorem dX12_account_158 : decode cX12_account 158 = .ok (.ireturn, 1) := by decide +kernel
set_option maxRecDepth 20000 in
theorem ggX12_met_X12_isMan : GoodIn wsX12_met wsX12_isMan := goodIn_r _ [6, 7, 8, 9, 5, 10, 15, 16, 17, 18, 19, 20, 21, 22, 23, 24, 25, 26, 27, 28, 29, 30, 31, 32, 33, 34, 35, 36, 37, 38, 39, 40, 41] (by decide +kernel) (by decide +kernel)
set_option maxRecDepth 20000 in
theorem gX12_met_X12_isMan : GoodIn wsX12_met (wsV RX12 202 RX12 yX12_isMan wsX12_isMan) := goodIn_app (goodIn_of _ (by decide +kernel)) ggX12_met_X12_isMan
set_option maxRecDepth 20000 in
theorem ggX12_met_X12_was : GoodIn wsX12_met wsX12_was := goodIn_r _ [14, 7, 15, 16, 17, 18, 19, 20, 21, 22, 23, 24, 25, 26, 27, 28, 29, 30, 31, 32, 33, 34, 35, 36, 37, 38, 39, 40, 41] (by decide +kernel) (by decide +kernel)
set_option maxRecDepth 20000 in
theorem gX12_met_X12_was : GoodIn wsX12_met (wsV RX12 160 RX12 yX12_was wsX12_was) := goodIn_app (goodIn_of _ (by decide +kernel)) ggX12_met_X12_was
theorem dX12_met_0 : decode cX12_met 0 = .ok (.aload_n 0, 1) := by decide +kernel
theorem dX12_met_1 : decode cX12_met 1 = .ok (.iload_n 1, 1) := by decide +kernel
theorem dX12_met_2 : decode cX12_met 2 = .ok (.invokevirtual 202, 3) := by decide +kernel
theorem dX12_met_5 : decode cX12_met 5 = .ok (.ifCond .eq 16, 3) := by decide +kernel
theorem dX12_met_8 : decode cX12_met 8 = .ok (.aload_n 0, 1) := by decide +kernel
theorem dX12_met_9 : decode cX12_met 9 = .ok (.iload_n 2, 1) := by decide +kernel
theorem dX12_met_10 : decode cX12_met 10 = .ok (.invokevirtual 202, 3) := by decide +kernel
theorem dX12_met_13 : decode cX12_met 13 = .ok (.ifCond .eq 8, 3) := by decide +kernel
theorem dX12_met_16 : decode cX12_met 16 = .ok (.iload_n 1, 1) := by decide +kernel
theorem dX12_met_17 : decode cX12_met 17 = .ok (.iload_n 2, 1) := by decide +kernel
theorem dX12_met_18 : decode cX12_met 18 = .ok (.if_icmp .ne 6, 3) := by decide +kernel
theorem dX12_met_21 : decode cX12_met 21 = .ok (.ldc 60, 2) := by decide +kernel
theorem dX12_met_23 : decode cX12_met 23 = .ok (.ireturn, 1) := by decide +kernel
theorem dX12_met_24 : decode cX12_met 24 = .ok (.iconst 0, 1) := by decide +kernel
theorem dX12_met_25 : decode cX12_met 25 = .ok (.istore_n 3, 1) := by decide +kernel
theorem dX12_met_26 : decode cX12_met 26 = .ok (.iconst 0, 1) := by decide +kernel
theorem dX12_met_27 : decode cX12_met 27 = .ok (.istore 4, 2) := by decide +kernel
theorem dX12_met_29 : decode cX12_met 29 = .ok (.iload 4, 2) := by decide +kernel
theorem dX12_met_31 : decode cX12_met 31 = .ok (.bipush 8, 2) := by decide +kernel
theorem dX12_met_33 : decode cX12_met 33 = .ok (.if_icmp .ge 37, 3) := by decide +kernel
theorem dX12_met_36 : decode cX12_met 36 = .ok (.iload_n 3, 1) := by decide +kernel
theorem dX12_met_37 : decode cX12_met 37 = .ok (.aload_n 0, 1) := by decide +kernel
theorem dX12_met_38 : decode cX12_met 38 = .ok (.iload_n 1, 1) := by decide +kernel
theorem dX12_met_39 : decode cX12_met 39 = .ok (.iload 4, 2) := by decide +kernel
theorem dX12_met_41 : decode cX12_met 41 = .ok (.invokevirtual 160, 3) := by decide +kernel
theorem dX12_met_44 : decode cX12_met 44 = .ok (.aload_n 0, 1) := by decide +kernel
theorem dX12_met_45 : decode cX12_met 45 = .ok (.iload_n 2, 1) := by decide +kernel
theorem dX12_met_46 : decode cX12_met 46 = .ok (.iload 4, 2) := by decide +kernel
theorem dX12_met_48 : decode cX12_met 48 = .ok (.invokevirtual 160, 3) := by decide +kernel
theorem dX12_met_51 : decode cX12_met 51 = .ok (.if_icmp .ne 10, 3) := by decide +kernel
theorem dX12_met_54 : decode cX12_met 54 = .ok (.iconst 1, 1) := by decide +kernel
theorem dX12_met_55 : decode cX12_met 55 = .ok (.iload 4, 2) := by decide +kernel
theorem dX12_met_57 : decode cX12_met 57 = .ok (.ishl, 1) := by decide +kernel
theorem dX12_met_58 : decode cX12_met 58 = .ok (.goto 4, 3) := by decide +kernel
theorem dX12_met_61 : decode cX12_met 61 = .ok (.iconst 0, 1) := by decide +kernel
theorem dX12_met_62 : decode cX12_met 62 = .ok (.ior, 1) := by decide +kernel
theorem dX12_met_63 : decode cX12_met 63 = .ok (.istore_n 3, 1) := by decide +kernel
theorem dX12_met_64 : decode cX12_met 64 = .ok (.iinc 4 1, 3) := by decide +kernel
theorem dX12_met_67 : decode cX12_met 67 = .ok (.goto (-38), 3) := by decide +kernel
theorem dX12_met_70 : decode cX12_met 70 = .ok (.iload_n 3, 1) := by decide +kernel
theorem dX12_met_71 : decode cX12_met 71 = .ok (.ireturn, 1) := by decide +kernel
set_option maxRecDepth 20000 in
theorem ggX12_soldOut_X12_isRoom : GoodIn wsX12_soldOut wsX12_isRoom := goodIn_r _ [9, 1, 10, 11, 8, 12, 24, 25, 26, 27, 28, 29, 30, 31, 32, 33, 34, 35, 36, 37, 38, 39, 40, 41, 42, 43, 44, 45, 46, 47, 48, 49, 50] (by decide +kernel) (by decide +kernel)
set_option maxRecDepth 20000 in
theorem gX12_soldOut_X12_isRoom : GoodIn wsX12_soldOut (wsV RX12 144 RX12 yX12_isRoom wsX12_isRoom) := goodIn_app (goodIn_of _ (by decide +kernel)) ggX12_soldOut_X12_isRoom
set_option maxRecDepth 20000 in
theorem ggX12_soldOut_X12_isLeft : GoodIn wsX12_soldOut wsX12_isLeft := goodIn_r _ [16, 1, 17, 18, 19, 8, 20, 21, 22, 23, 24, 25, 26, 27, 28, 29, 30, 31, 32, 33, 34, 35, 36, 37, 38, 39, 40, 41, 42, 43, 44, 45, 46, 47, 48, 49, 50] (by decide +kernel) (by decide +kernel)
set_option maxRecDepth 20000 in
theorem gX12_soldOut_X12_isLeft : GoodIn wsX12_soldOut (wsV RX12 171 RX12 yX12_isLeft wsX12_isLeft) := goodIn_app (goodIn_of _ (by decide +kernel)) ggX12_soldOut_X12_isLeft
theorem dX12_soldOut_0 : decode cX12_soldOut 0 = .ok (.aload_n 0, 1) := by decide +kernel
theorem dX12_soldOut_1 : decode cX12_soldOut 1 = .ok (.getfield 31, 3) := by decide +kernel
theorem dX12_soldOut_4 : decode cX12_soldOut 4 = .ok (.iconst 0, 1) := by decide +kernel
theorem dX12_soldOut_5 : decode cX12_soldOut 5 = .ok (.iaload, 1) := by decide +kernel
