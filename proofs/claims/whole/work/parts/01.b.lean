theorem dX0_init_0 : decode cX0_init 0 = .ok (.aload_n 0, 1) := by decide +kernel
theorem dX0_init_1 : decode cX0_init 1 = .ok (.invokespecial 1, 3) := by decide +kernel
theorem dX0_init_4 : decode cX0_init 4 = .ok (.aload_n 0, 1) := by decide +kernel
theorem dX0_init_5 : decode cX0_init 5 = .ok (.bipush 24, 2) := by decide +kernel
theorem dX0_init_7 : decode cX0_init 7 = .ok (.newarray .int, 2) := by decide +kernel
theorem dX0_init_9 : decode cX0_init 9 = .ok (.putfield 9, 3) := by decide +kernel
theorem dX0_init_12 : decode cX0_init 12 = .ok (.aload_n 0, 1) := by decide +kernel
theorem dX0_init_13 : decode cX0_init 13 = .ok (.bipush 24, 2) := by decide +kernel
theorem dX0_init_15 : decode cX0_init 15 = .ok (.newarray .int, 2) := by decide +kernel
theorem dX0_init_17 : decode cX0_init 17 = .ok (.putfield 13, 3) := by decide +kernel
theorem dX0_init_20 : decode cX0_init 20 = .ok (.aload_n 0, 1) := by decide +kernel
theorem dX0_init_21 : decode cX0_init 21 = .ok (.bipush 24, 2) := by decide +kernel
theorem dX0_init_23 : decode cX0_init 23 = .ok (.newarray .int, 2) := by decide +kernel
theorem dX0_init_25 : decode cX0_init 25 = .ok (.putfield 16, 3) := by decide +kernel
theorem dX0_init_28 : decode cX0_init 28 = .ok (.aload_n 0, 1) := by decide +kernel
theorem dX0_init_29 : decode cX0_init 29 = .ok (.bipush 24, 2) := by decide +kernel
theorem dX0_init_31 : decode cX0_init 31 = .ok (.newarray .int, 2) := by decide +kernel
theorem dX0_init_33 : decode cX0_init 33 = .ok (.putfield 19, 3) := by decide +kernel
theorem dX0_init_36 : decode cX0_init 36 = .ok (.aload_n 0, 1) := by decide +kernel
theorem dX0_init_37 : decode cX0_init 37 = .ok (.bipush 24, 2) := by decide +kernel
theorem dX0_init_39 : decode cX0_init 39 = .ok (.newarray .int, 2) := by decide +kernel
theorem dX0_init_41 : decode cX0_init 41 = .ok (.putfield 22, 3) := by decide +kernel
theorem dX0_init_44 : decode cX0_init 44 = .ok (.return_, 1) := by decide +kernel
theorem dX0_forgetAll_0 : decode cX0_forgetAll 0 = .ok (.aload_n 0, 1) := by decide +kernel
theorem dX0_forgetAll_1 : decode cX0_forgetAll 1 = .ok (.iconst 0, 1) := by decide +kernel
theorem dX0_forgetAll_2 : decode cX0_forgetAll 2 = .ok (.putfield 25, 3) := by decide +kernel
theorem dX0_forgetAll_5 : decode cX0_forgetAll 5 = .ok (.return_, 1) := by decide +kernel
theorem dX0_keep_0 : decode cX0_keep 0 = .ok (.aload_n 0, 1) := by decide +kernel
theorem dX0_keep_1 : decode cX0_keep 1 = .ok (.getfield 9, 3) := by decide +kernel
theorem dX0_keep_4 : decode cX0_keep 4 = .ok (.aload_n 0, 1) := by decide +kernel
theorem dX0_keep_5 : decode cX0_keep 5 = .ok (.getfield 29, 3) := by decide +kernel
theorem dX0_keep_8 : decode cX0_keep 8 = .ok (.iload_n 1, 1) := by decide +kernel
theorem dX0_keep_9 : decode cX0_keep 9 = .ok (.iastore, 1) := by decide +kernel
theorem dX0_keep_10 : decode cX0_keep 10 = .ok (.aload_n 0, 1) := by decide +kernel
theorem dX0_keep_11 : decode cX0_keep 11 = .ok (.getfield 13, 3) := by decide +kernel
theorem dX0_keep_14 : decode cX0_keep 14 = .ok (.aload_n 0, 1) := by decide +kernel
theorem dX0_keep_15 : decode cX0_keep 15 = .ok (.getfield 29, 3) := by decide +kernel
theorem dX0_keep_18 : decode cX0_keep 18 = .ok (.iload_n 2, 1) := by decide +kernel
theorem dX0_keep_19 : decode cX0_keep 19 = .ok (.iastore, 1) := by decide +kernel
theorem dX0_keep_20 : decode cX0_keep 20 = .ok (.aload_n 0, 1) := by decide +kernel
theorem dX0_keep_21 : decode cX0_keep 21 = .ok (.getfield 16, 3) := by decide +kernel
theorem dX0_keep_24 : decode cX0_keep 24 = .ok (.aload_n 0, 1) := by decide +kernel
theorem dX0_keep_25 : decode cX0_keep 25 = .ok (.getfield 29, 3) := by decide +kernel
theorem dX0_keep_28 : decode cX0_keep 28 = .ok (.iload_n 3, 1) := by decide +kernel
theorem dX0_keep_29 : decode cX0_keep 29 = .ok (.iastore, 1) := by decide +kernel
theorem dX0_keep_30 : decode cX0_keep 30 = .ok (.aload_n 0, 1) := by decide +kernel
theorem dX0_keep_31 : decode cX0_keep 31 = .ok (.getfield 19, 3) := by decide +kernel
theorem dX0_keep_34 : decode cX0_keep 34 = .ok (.aload_n 0, 1) := by decide +kernel
theorem dX0_keep_35 : decode cX0_keep 35 = .ok (.getfield 29, 3) := by decide +kernel
theorem dX0_keep_38 : decode cX0_keep 38 = .ok (.iload 4, 2) := by decide +kernel
theorem dX0_keep_40 : decode cX0_keep 40 = .ok (.iastore, 1) := by decide +kernel
theorem dX0_keep_41 : decode cX0_keep 41 = .ok (.aload_n 0, 1) := by decide +kernel
theorem dX0_keep_42 : decode cX0_keep 42 = .ok (.getfield 22, 3) := by decide +kernel
theorem dX0_keep_45 : decode cX0_keep 45 = .ok (.aload_n 0, 1) := by decide +kernel
theorem dX0_keep_46 : decode cX0_keep 46 = .ok (.getfield 29, 3) := by decide +kernel
theorem dX0_keep_49 : decode cX0_keep 49 = .ok (.iload 5, 2) := by decide +kernel
theorem dX0_keep_51 : decode cX0_keep 51 = .ok (.iastore, 1) := by decide +kernel
theorem dX0_keep_52 : decode cX0_keep 52 = .ok (.aload_n 0, 1) := by decide +kernel
theorem dX0_keep_53 : decode cX0_keep 53 = .ok (.aload_n 0, 1) := by decide +kernel
theorem dX0_keep_54 : decode cX0_keep 54 = .ok (.getfield 29, 3) := by decide +kernel
theorem dX0_keep_57 : decode cX0_keep 57 = .ok (.bipush 23, 2) := by decide +kernel
theorem dX0_keep_59 : decode cX0_keep 59 = .ok (.if_icmp .ne 7, 3) := by decide +kernel
theorem dX0_keep_62 : decode cX0_keep 62 = .ok (.iconst 0, 1) := by decide +kernel
theorem dX0_keep_63 : decode cX0_keep 63 = .ok (.goto 9, 3) := by decide +kernel
theorem dX0_keep_66 : decode cX0_keep 66 = .ok (.aload_n 0, 1) := by decide +kernel
theorem dX0_keep_67 : decode cX0_keep 67 = .ok (.getfield 29, 3) := by decide +kernel
theorem dX0_keep_70 : decode cX0_keep 70 = .ok (.iconst 1, 1) := by decide +kernel
theorem dX0_keep_71 : decode cX0_keep 71 = .ok (.iadd, 1) := by decide +kernel
theorem dX0_keep_72 : decode cX0_keep 72 = .ok (.putfield 29, 3) := by decide +kernel
theorem dX0_keep_75 : decode cX0_keep 75 = .ok (.aload_n 0, 1) := by decide +kernel
theorem dX0_keep_76 : decode cX0_keep 76 = .ok (.bipush 24, 2) := by decide +kernel
theorem dX0_keep_78 : decode cX0_keep 78 = .ok (.aload_n 0, 1) := by decide +kernel
theorem dX0_keep_79 : decode cX0_keep 79 = .ok (.getfield 25, 3) := by decide +kernel
theorem dX0_keep_82 : decode cX0_keep 82 = .ok (.iconst 1, 1) := by decide +kernel
theorem dX0_keep_83 : decode cX0_keep 83 = .ok (.iadd, 1) := by decide +kernel
theorem dX0_keep_84 : decode cX0_keep 84 = .ok (.invokestatic 32, 3) := by decide +kernel
theorem dX0_keep_87 : decode cX0_keep 87 = .ok (.putfield 25, 3) := by decide +kernel
theorem dX0_keep_90 : decode cX0_keep 90 = .ok (.return_, 1) := by decide +kernel
set_option maxRecDepth 20000 in
theorem ggX0_undoLatest_X3_leaveSeat : GoodIn wsX0_undoLatest wsX3_leaveSeat := goodIn_r _ [13, 14, 15, 16, 17, 18, 19, 37, 38, 39, 40, 41, 42, 43, 44, 45, 46, 47, 48, 49, 50, 51] (by decide +kernel) (by decide +kernel)
set_option maxRecDepth 20000 in
theorem gX0_undoLatest_X3_leaveSeat : GoodIn wsX0_undoLatest (wsV RX0 38 RX3 yX3_leaveSeat wsX3_leaveSeat) := goodIn_app (goodIn_of _ (by decide +kernel)) ggX0_undoLatest_X3_leaveSeat
set_option maxRecDepth 20000 in
theorem ggX0_undoLatest_X3_takeSeat : GoodIn wsX0_undoLatest wsX3_takeSeat := goodIn_r _ [23, 14, 15, 16, 17, 18, 19, 37, 38, 39, 40, 41, 42, 43, 44, 45, 46, 47, 48, 49, 50, 51] (by decide +kernel) (by decide +kernel)
set_option maxRecDepth 20000 in
theorem gX0_undoLatest_X3_takeSeat : GoodIn wsX0_undoLatest (wsV RX0 44 RX3 yX3_takeSeat wsX3_takeSeat) := goodIn_app (goodIn_of _ (by decide +kernel)) ggX0_undoLatest_X3_takeSeat
set_option maxRecDepth 20000 in
theorem ggX0_undoLatest_X3_openCurtain : GoodIn wsX0_undoLatest wsX3_openCurtain := goodIn_r _ [27, 28, 29, 17, 18, 19, 37, 38, 39, 40, 41, 42, 43, 44, 45, 46, 47, 48, 49, 50, 51] (by decide +kernel) (by decide +kernel)
set_option maxRecDepth 20000 in
theorem gX0_undoLatest_X3_openCurtain : GoodIn wsX0_undoLatest (wsV RX0 47 RX3 yX3_openCurtain wsX3_openCurtain) := goodIn_app (goodIn_of _ (by decide +kernel)) ggX0_undoLatest_X3_openCurtain
theorem dX0_undoLatest_0 : decode cX0_undoLatest 0 = .ok (.aload_n 0, 1) := by decide +kernel
theorem dX0_undoLatest_1 : decode cX0_undoLatest 1 = .ok (.aload_n 0, 1) := by decide +kernel
theorem dX0_undoLatest_2 : decode cX0_undoLatest 2 = .ok (.getfield 29, 3) := by decide +kernel
theorem dX0_undoLatest_5 : decode cX0_undoLatest 5 = .ok (.ifCond .ne 8, 3) := by decide +kernel
theorem dX0_undoLatest_8 : decode cX0_undoLatest 8 = .ok (.bipush 23, 2) := by decide +kernel
theorem dX0_undoLatest_10 : decode cX0_undoLatest 10 = .ok (.goto 9, 3) := by decide +kernel
theorem dX0_undoLatest_13 : decode cX0_undoLatest 13 = .ok (.aload_n 0, 1) := by decide +kernel
theorem dX0_undoLatest_14 : decode cX0_undoLatest 14 = .ok (.getfield 29, 3) := by decide +kernel
theorem dX0_undoLatest_17 : decode cX0_undoLatest 17 = .ok (.iconst 1, 1) := by decide +kernel
theorem dX0_undoLatest_18 : decode cX0_undoLatest 18 = .ok (.isub, 1) := by decide +kernel
theorem dX0_undoLatest_19 : decode cX0_undoLatest 19 = .ok (.putfield 29, 3) := by decide +kernel
theorem dX0_undoLatest_22 : decode cX0_undoLatest 22 = .ok (.aload_n 0, 1) := by decide +kernel
theorem dX0_undoLatest_23 : decode cX0_undoLatest 23 = .ok (.dup, 1) := by decide +kernel
theorem dX0_undoLatest_24 : decode cX0_undoLatest 24 = .ok (.getfield 25, 3) := by decide +kernel
theorem dX0_undoLatest_27 : decode cX0_undoLatest 27 = .ok (.iconst 1, 1) := by decide +kernel
theorem dX0_undoLatest_28 : decode cX0_undoLatest 28 = .ok (.isub, 1) := by decide +kernel
theorem dX0_undoLatest_29 : decode cX0_undoLatest 29 = .ok (.putfield 25, 3) := by decide +kernel
theorem dX0_undoLatest_32 : decode cX0_undoLatest 32 = .ok (.aload_n 0, 1) := by decide +kernel
theorem dX0_undoLatest_33 : decode cX0_undoLatest 33 = .ok (.getfield 19, 3) := by decide +kernel
theorem dX0_undoLatest_36 : decode cX0_undoLatest 36 = .ok (.aload_n 0, 1) := by decide +kernel
theorem dX0_undoLatest_37 : decode cX0_undoLatest 37 = .ok (.getfield 29, 3) := by decide +kernel
theorem dX0_undoLatest_40 : decode cX0_undoLatest 40 = .ok (.iaload, 1) := by decide +kernel
theorem dX0_undoLatest_41 : decode cX0_undoLatest 41 = .ok (.istore_n 2, 1) := by decide +kernel
theorem dX0_undoLatest_42 : decode cX0_undoLatest 42 = .ok (.aload_n 0, 1) := by decide +kernel
theorem dX0_undoLatest_43 : decode cX0_undoLatest 43 = .ok (.getfield 9, 3) := by decide +kernel
theorem dX0_undoLatest_46 : decode cX0_undoLatest 46 = .ok (.aload_n 0, 1) := by decide +kernel
theorem dX0_undoLatest_47 : decode cX0_undoLatest 47 = .ok (.getfield 29, 3) := by decide +kernel
theorem dX0_undoLatest_50 : decode cX0_undoLatest 50 = .ok (.iaload, 1) := by decide +kernel
theorem dX0_undoLatest_51 : decode cX0_undoLatest 51 = .ok (.tableswitch 121 0 2 #[25, 60, 95], 25) := by decide +kernel
theorem dX0_undoLatest_76 : decode cX0_undoLatest 76 = .ok (.aload_n 1, 1) := by decide +kernel
theorem dX0_undoLatest_77 : decode cX0_undoLatest 77 = .ok (.aload_n 0, 1) := by decide +kernel
theorem dX0_undoLatest_78 : decode cX0_undoLatest 78 = .ok (.getfield 13, 3) := by decide +kernel
theorem dX0_undoLatest_81 : decode cX0_undoLatest 81 = .ok (.aload_n 0, 1) := by decide +kernel
theorem dX0_undoLatest_82 : decode cX0_undoLatest 82 = .ok (.getfield 29, 3) := by decide +kernel
theorem dX0_undoLatest_85 : decode cX0_undoLatest 85 = .ok (.iaload, 1) := by decide +kernel
theorem dX0_undoLatest_86 : decode cX0_undoLatest 86 = .ok (.aload_n 0, 1) := by decide +kernel
theorem dX0_undoLatest_87 : decode cX0_undoLatest 87 = .ok (.getfield 16, 3) := by decide +kernel
theorem dX0_undoLatest_90 : decode cX0_undoLatest 90 = .ok (.aload_n 0, 1) := by decide +kernel
theorem dX0_undoLatest_91 : decode cX0_undoLatest 91 = .ok (.getfield 29, 3) := by decide +kernel
theorem dX0_undoLatest_94 : decode cX0_undoLatest 94 = .ok (.iaload, 1) := by decide +kernel
theorem dX0_undoLatest_95 : decode cX0_undoLatest 95 = .ok (.iload_n 2, 1) := by decide +kernel
theorem dX0_undoLatest_96 : decode cX0_undoLatest 96 = .ok (.aload_n 0, 1) := by decide +kernel
theorem dX0_undoLatest_97 : decode cX0_undoLatest 97 = .ok (.getfield 22, 3) := by decide +kernel
theorem dX0_undoLatest_100 : decode cX0_undoLatest 100 = .ok (.aload_n 0, 1) := by decide +kernel
theorem dX0_undoLatest_101 : decode cX0_undoLatest 101 = .ok (.getfield 29, 3) := by decide +kernel
theorem dX0_undoLatest_104 : decode cX0_undoLatest 104 = .ok (.iaload, 1) := by decide +kernel
theorem dX0_undoLatest_105 : decode cX0_undoLatest 105 = .ok (.invokevirtual 38, 3) := by decide +kernel
theorem dX0_undoLatest_108 : decode cX0_undoLatest 108 = .ok (.goto 78, 3) := by decide +kernel
theorem dX0_undoLatest_111 : decode cX0_undoLatest 111 = .ok (.aload_n 1, 1) := by decide +kernel
theorem dX0_undoLatest_112 : decode cX0_undoLatest 112 = .ok (.aload_n 0, 1) := by decide +kernel
theorem dX0_undoLatest_113 : decode cX0_undoLatest 113 = .ok (.getfield 13, 3) := by decide +kernel
theorem dX0_undoLatest_116 : decode cX0_undoLatest 116 = .ok (.aload_n 0, 1) := by decide +kernel
theorem dX0_undoLatest_117 : decode cX0_undoLatest 117 = .ok (.getfield 29, 3) := by decide +kernel
theorem dX0_undoLatest_120 : decode cX0_undoLatest 120 = .ok (.iaload, 1) := by decide +kernel
theorem dX0_undoLatest_121 : decode cX0_undoLatest 121 = .ok (.aload_n 0, 1) := by decide +kernel
theorem dX0_undoLatest_122 : decode cX0_undoLatest 122 = .ok (.getfield 16, 3) := by decide +kernel
theorem dX0_undoLatest_125 : decode cX0_undoLatest 125 = .ok (.aload_n 0, 1) := by decide +kernel
theorem dX0_undoLatest_126 : decode cX0_undoLatest 126 = .ok (.getfield 29, 3) := by decide +kernel
theorem dX0_undoLatest_129 : decode cX0_undoLatest 129 = .ok (.iaload, 1) := by decide +kernel
theorem dX0_undoLatest_130 : decode cX0_undoLatest 130 = .ok (.iload_n 2, 1) := by decide +kernel
theorem dX0_undoLatest_131 : decode cX0_undoLatest 131 = .ok (.aload_n 0, 1) := by decide +kernel
theorem dX0_undoLatest_132 : decode cX0_undoLatest 132 = .ok (.getfield 22, 3) := by decide +kernel
theorem dX0_undoLatest_135 : decode cX0_undoLatest 135 = .ok (.aload_n 0, 1) := by decide +kernel
theorem dX0_undoLatest_136 : decode cX0_undoLatest 136 = .ok (.getfield 29, 3) := by decide +kernel
theorem dX0_undoLatest_139 : decode cX0_undoLatest 139 = .ok (.iaload, 1) := by decide +kernel
theorem dX0_undoLatest_140 : decode cX0_undoLatest 140 = .ok (.invokevirtual 44, 3) := by decide +kernel
theorem dX0_undoLatest_143 : decode cX0_undoLatest 143 = .ok (.goto 43, 3) := by decide +kernel
theorem dX0_undoLatest_146 : decode cX0_undoLatest 146 = .ok (.aload_n 1, 1) := by decide +kernel
theorem dX0_undoLatest_147 : decode cX0_undoLatest 147 = .ok (.aload_n 0, 1) := by decide +kernel
theorem dX0_undoLatest_148 : decode cX0_undoLatest 148 = .ok (.getfield 13, 3) := by decide +kernel
theorem dX0_undoLatest_151 : decode cX0_undoLatest 151 = .ok (.aload_n 0, 1) := by decide +kernel
theorem dX0_undoLatest_152 : decode cX0_undoLatest 152 = .ok (.getfield 29, 3) := by decide +kernel
theorem dX0_undoLatest_155 : decode cX0_undoLatest 155 = .ok (.iaload, 1) := by decide +kernel
theorem dX0_undoLatest_156 : decode cX0_undoLatest 156 = .ok (.aload_n 0, 1) := by decide +kernel
theorem dX0_undoLatest_157 : decode cX0_undoLatest 157 = .ok (.getfield 16, 3) := by decide +kernel
theorem dX0_undoLatest_160 : decode cX0_undoLatest 160 = .ok (.aload_n 0, 1) := by decide +kernel
theorem dX0_undoLatest_161 : decode cX0_undoLatest 161 = .ok (.getfield 29, 3) := by decide +kernel
theorem dX0_undoLatest_164 : decode cX0_undoLatest 164 = .ok (.iaload, 1) := by decide +kernel
theorem dX0_undoLatest_165 : decode cX0_undoLatest 165 = .ok (.iload_n 2, 1) := by decide +kernel
theorem dX0_undoLatest_166 : decode cX0_undoLatest 166 = .ok (.invokevirtual 47, 3) := by decide +kernel
theorem dX0_undoLatest_169 : decode cX0_undoLatest 169 = .ok (.goto 17, 3) := by decide +kernel
theorem dX0_undoLatest_172 : decode cX0_undoLatest 172 = .ok (.aload_n 1, 1) := by decide +kernel
theorem dX0_undoLatest_173 : decode cX0_undoLatest 173 = .ok (.dup, 1) := by decide +kernel
theorem dX0_undoLatest_174 : decode cX0_undoLatest 174 = .ok (.getfield 51, 3) := by decide +kernel
theorem dX0_undoLatest_177 : decode cX0_undoLatest 177 = .ok (.iconst 1, 1) := by decide +kernel
theorem dX0_undoLatest_178 : decode cX0_undoLatest 178 = .ok (.iload_n 2, 1) := by decide +kernel
theorem dX0_undoLatest_179 : decode cX0_undoLatest 179 = .ok (.ishl, 1) := by decide +kernel
theorem dX0_undoLatest_180 : decode cX0_undoLatest 180 = .ok (.iconst (-1), 1) := by decide +kernel
theorem dX0_undoLatest_181 : decode cX0_undoLatest 181 = .ok (.ixor, 1) := by decide +kernel
theorem dX0_undoLatest_182 : decode cX0_undoLatest 182 = .ok (.iand, 1) := by decide +kernel
theorem dX0_undoLatest_183 : decode cX0_undoLatest 183 = .ok (.putfield 51, 3) := by decide +kernel
theorem dX0_undoLatest_186 : decode cX0_undoLatest 186 = .ok (.return_, 1) := by decide +kernel
set_option maxRecDepth 20000 in
theorem ggX1_init_X7_init : GoodIn wsX1_init wsX7_init := goodIn_r _ [4, 5, 6, 7, 8, 9, 10, 11, 12, 13, 14, 15, 16, 17] (by decide +kernel) (by decide +kernel)
set_option maxRecDepth 20000 in
theorem gX1_init_X7_init : GoodIn wsX1_init (wsX7_init) := ggX1_init_X7_init
theorem dX1_init_0 : decode cX1_init 0 = .ok (.aload_n 0, 1) := by decide +kernel
theorem dX1_init_1 : decode cX1_init 1 = .ok (.iload_n 1, 1) := by decide +kernel
theorem dX1_init_2 : decode cX1_init 2 = .ok (.invokespecial 1, 3) := by decide +kernel
theorem dX1_init_5 : decode cX1_init 5 = .ok (.return_, 1) := by decide +kernel
theorem dX1_kindNumber_0 : decode cX1_kindNumber 0 = .ok (.iconst 3, 1) := by decide +kernel
theorem dX1_kindNumber_1 : decode cX1_kindNumber 1 = .ok (.ireturn, 1) := by decide +kernel
theorem dX1_priceFrom_0 : decode cX1_priceFrom 0 = .ok (.iload_n 1, 1) := by decide +kernel
theorem dX1_priceFrom_1 : decode cX1_priceFrom 1 = .ok (.iconst 2, 1) := by decide +kernel
theorem dX1_priceFrom_2 : decode cX1_priceFrom 2 = .ok (.idiv, 1) := by decide +kernel
theorem dX1_priceFrom_3 : decode cX1_priceFrom 3 = .ok (.ireturn, 1) := by decide +kernel
set_option maxRecDepth 20000 in
theorem ggX1_mark_X8_begin : GoodIn wsX1_mark wsX8_begin := goodIn_r _ [5, 6, 7, 31, 32] (by decide +kernel) (by decide +kernel)
set_option maxRecDepth 20000 in
theorem gX1_mark_X8_begin : GoodIn wsX1_mark (wsV RX1 9 RX8 yX8_begin wsX8_begin) := goodIn_app (goodIn_of _ (by decide +kernel)) ggX1_mark_X8_begin
set_option maxRecDepth 20000 in
theorem ggX1_mark_X7_mark : GoodIn wsX1_mark wsX7_mark := goodIn_r _ [13, 14, 15, 16, 2, 3, 4, 5, 6, 7, 17, 18, 19, 20, 21, 22, 23, 24, 25, 26, 27, 28, 29, 30, 33, 34, 35, 36, 37, 31, 32, 38, 39, 40, 41, 42, 43, 44, 45, 46, 47, 48, 49, 50, 51, 52] (by decide +kernel) (by decide +kernel)
set_option maxRecDepth 20000 in
theorem gX1_mark_X7_mark_s14 : GoodIn wsX1_mark (va_wsSU RX1 14 yX7_mark wsX7_mark) := goodIn_app (goodIn_of _ (by decide +kernel)) ggX1_mark_X7_mark
theorem dX1_mark_0 : decode cX1_mark 0 = .ok (.aload_n 2, 1) := by decide +kernel
theorem dX1_mark_1 : decode cX1_mark 1 = .ok (.bipush 22, 2) := by decide +kernel
theorem dX1_mark_3 : decode cX1_mark 3 = .ok (.invokevirtual 9, 3) := by decide +kernel
theorem dX1_mark_6 : decode cX1_mark 6 = .ok (.aload_n 0, 1) := by decide +kernel
theorem dX1_mark_7 : decode cX1_mark 7 = .ok (.aload_n 1, 1) := by decide +kernel
theorem dX1_mark_8 : decode cX1_mark 8 = .ok (.aload_n 2, 1) := by decide +kernel
theorem dX1_mark_9 : decode cX1_mark 9 = .ok (.invokespecial 14, 3) := by decide +kernel
theorem dX1_mark_12 : decode cX1_mark 12 = .ok (.sipush 1000, 3) := by decide +kernel
theorem dX1_mark_15 : decode cX1_mark 15 = .ok (.isub, 1) := by decide +kernel
theorem dX1_mark_16 : decode cX1_mark 16 = .ok (.ireturn, 1) := by decide +kernel
set_option maxRecDepth 20000 in
theorem ggX2_init_X10_init : GoodIn wsX2_init wsX10_init := goodIn_r _ [4, 5, 6, 7, 8, 9, 10, 11, 12, 13, 14, 15, 16, 17] (by decide +kernel) (by decide +kernel)
set_option maxRecDepth 20000 in
theorem gX2_init_X10_init : GoodIn wsX2_init (wsX10_init) := ggX2_init_X10_init
theorem dX2_init_0 : decode cX2_init 0 = .ok (.aload_n 0, 1) := by decide +kernel
theorem dX2_init_1 : decode cX2_init 1 = .ok (.iload_n 1, 1) := by decide +kernel
theorem dX2_init_2 : decode cX2_init 2 = .ok (.invokespecial 1, 3) := by decide +kernel
theorem dX2_init_5 : decode cX2_init 5 = .ok (.return_, 1) := by decide +kernel
theorem dX2_kindNumber_0 : decode cX2_kindNumber 0 = .ok (.iconst 5, 1) := by decide +kernel
theorem dX2_kindNumber_1 : decode cX2_kindNumber 1 = .ok (.ireturn, 1) := by decide +kernel
set_option maxRecDepth 20000 in
theorem ggX2_priceFrom_X10_priceFrom : GoodIn wsX2_priceFrom wsX10_priceFrom := goodIn_r _ [6, 7, 8, 9, 10] (by decide +kernel) (by decide +kernel)
set_option maxRecDepth 20000 in
theorem gX2_priceFrom_X10_priceFrom_s9 : GoodIn wsX2_priceFrom (va_wsSU RX2 9 yX10_priceFrom wsX10_priceFrom) := goodIn_app (goodIn_of _ (by decide +kernel)) ggX2_priceFrom_X10_priceFrom
theorem dX2_priceFrom_0 : decode cX2_priceFrom 0 = .ok (.iload_n 2, 1) := by decide +kernel
theorem dX2_priceFrom_1 : decode cX2_priceFrom 1 = .ok (.ifCond .eq 7, 3) := by decide +kernel
theorem dX2_priceFrom_4 : decode cX2_priceFrom 4 = .ok (.iconst 0, 1) := by decide +kernel
theorem dX2_priceFrom_5 : decode cX2_priceFrom 5 = .ok (.goto 9, 3) := by decide +kernel
theorem dX2_priceFrom_8 : decode cX2_priceFrom 8 = .ok (.aload_n 0, 1) := by decide +kernel
theorem dX2_priceFrom_9 : decode cX2_priceFrom 9 = .ok (.iload_n 1, 1) := by decide +kernel
theorem dX2_priceFrom_10 : decode cX2_priceFrom 10 = .ok (.iload_n 2, 1) := by decide +kernel
theorem dX2_priceFrom_11 : decode cX2_priceFrom 11 = .ok (.invokespecial 9, 3) := by decide +kernel
theorem dX2_priceFrom_14 : decode cX2_priceFrom 14 = .ok (.ireturn, 1) := by decide +kernel
set_option maxRecDepth 20000 in
theorem ggX2_size_X8_begin : GoodIn wsX2_size wsX8_begin := goodIn_r _ [5, 6, 7, 24, 25] (by decide +kernel) (by decide +kernel)
set_option maxRecDepth 20000 in
theorem gX2_size_X8_begin : GoodIn wsX2_size (wsV RX2 13 RX8 yX8_begin wsX8_begin) := goodIn_app (goodIn_of _ (by decide +kernel)) ggX2_size_X8_begin
set_option maxRecDepth 20000 in
theorem ggX2_size_X10_size : GoodIn wsX2_size wsX10_size := goodIn_r _ [13, 14, 2, 3, 4, 5, 6, 7, 15, 16, 17, 18, 19, 20, 21, 22, 23, 24, 25, 26, 27, 28, 29, 30, 31, 32, 33, 34, 35, 36, 37, 38, 39, 40, 41, 42, 43, 44, 45] (by decide +kernel) (by decide +kernel)
set_option maxRecDepth 20000 in
theorem gX2_size_X10_size_s18 : GoodIn wsX2_size (va_wsSU RX2 18 yX10_size wsX10_size) := goodIn_app (goodIn_of _ (by decide +kernel)) ggX2_size_X10_size
theorem dX2_size_0 : decode cX2_size 0 = .ok (.aload_n 2, 1) := by decide +kernel
theorem dX2_size_1 : decode cX2_size 1 = .ok (.bipush 14, 2) := by decide +kernel
theorem dX2_size_3 : decode cX2_size 3 = .ok (.invokevirtual 13, 3) := by decide +kernel
theorem dX2_size_6 : decode cX2_size 6 = .ok (.iconst 2, 1) := by decide +kernel
theorem dX2_size_7 : decode cX2_size 7 = .ok (.aload_n 0, 1) := by decide +kernel
theorem dX2_size_8 : decode cX2_size 8 = .ok (.aload_n 1, 1) := by decide +kernel
theorem dX2_size_9 : decode cX2_size 9 = .ok (.aload_n 2, 1) := by decide +kernel
theorem dX2_size_10 : decode cX2_size 10 = .ok (.invokespecial 18, 3) := by decide +kernel
theorem dX2_size_13 : decode cX2_size 13 = .ok (.imul, 1) := by decide +kernel
theorem dX2_size_14 : decode cX2_size 14 = .ok (.ireturn, 1) := by decide +kernel
set_option maxRecDepth 20000 in
theorem ggX3_init_X7_init : GoodIn wsX3_init wsX7_init := goodIn_r _ [17, 18, 19, 20, 21, 22, 2, 3, 23, 40, 41, 42, 39, 43] (by decide +kernel) (by decide +kernel)
set_option maxRecDepth 20000 in
theorem gX3_init_X7_init : GoodIn wsX3_init (wsX7_init) := ggX3_init_X7_init
theorem dX3_init_0 : decode cX3_init 0 = .ok (.aload_n 0, 1) := by decide +kernel
theorem dX3_init_1 : decode cX3_init 1 = .ok (.invokespecial 3, 3) := by decide +kernel
theorem dX3_init_4 : decode cX3_init 4 = .ok (.aload_n 0, 1) := by decide +kernel
theorem dX3_init_5 : decode cX3_init 5 = .ok (.bipush 6, 2) := by decide +kernel
theorem dX3_init_7 : decode cX3_init 7 = .ok (.newarray .int, 2) := by decide +kernel
theorem dX3_init_9 : decode cX3_init 9 = .ok (.putfield 9, 3) := by decide +kernel
theorem dX3_init_12 : decode cX3_init 12 = .ok (.aload_n 0, 1) := by decide +kernel
theorem dX3_init_13 : decode cX3_init 13 = .ok (.bipush 48, 2) := by decide +kernel
theorem dX3_init_15 : decode cX3_init 15 = .ok (.newarray .int, 2) := by decide +kernel
theorem dX3_init_17 : decode cX3_init 17 = .ok (.putfield 15, 3) := by decide +kernel
theorem dX3_init_20 : decode cX3_init 20 = .ok (.aload_n 0, 1) := by decide +kernel
theorem dX3_init_21 : decode cX3_init 21 = .ok (.bipush 48, 2) := by decide +kernel
theorem dX3_init_23 : decode cX3_init 23 = .ok (.newarray .int, 2) := by decide +kernel
theorem dX3_init_25 : decode cX3_init 25 = .ok (.putfield 18, 3) := by decide +kernel
theorem dX3_init_28 : decode cX3_init 28 = .ok (.aload_n 0, 1) := by decide +kernel
theorem dX3_init_29 : decode cX3_init 29 = .ok (.bipush 32, 2) := by decide +kernel
theorem dX3_init_31 : decode cX3_init 31 = .ok (.newarray .int, 2) := by decide +kernel
theorem dX3_init_33 : decode cX3_init 33 = .ok (.putfield 21, 3) := by decide +kernel
theorem dX3_init_36 : decode cX3_init 36 = .ok (.aload_n 0, 1) := by decide +kernel
theorem dX3_init_37 : decode cX3_init 37 = .ok (.iconst 4, 1) := by decide +kernel
theorem dX3_init_38 : decode cX3_init 38 = .ok (.newarray .int, 2) := by decide +kernel
theorem dX3_init_40 : decode cX3_init 40 = .ok (.putfield 24, 3) := by decide +kernel
theorem dX3_init_43 : decode cX3_init 43 = .ok (.aload_n 0, 1) := by decide +kernel
theorem dX3_init_44 : decode cX3_init 44 = .ok (.iconst 4, 1) := by decide +kernel
theorem dX3_init_45 : decode cX3_init 45 = .ok (.anewarray 27, 3) := by decide +kernel
theorem dX3_init_48 : decode cX3_init 48 = .ok (.putfield 29, 3) := by decide +kernel
theorem dX3_init_51 : decode cX3_init 51 = .ok (.iconst 0, 1) := by decide +kernel
theorem dX3_init_52 : decode cX3_init 52 = .ok (.istore_n 1, 1) := by decide +kernel
theorem dX3_init_53 : decode cX3_init 53 = .ok (.iload_n 1, 1) := by decide +kernel
theorem dX3_init_54 : decode cX3_init 54 = .ok (.iconst 4, 1) := by decide +kernel
theorem dX3_init_55 : decode cX3_init 55 = .ok (.if_icmp .ge 23, 3) := by decide +kernel
theorem dX3_init_58 : decode cX3_init 58 = .ok (.aload_n 0, 1) := by decide +kernel
theorem dX3_init_59 : decode cX3_init 59 = .ok (.getfield 29, 3) := by decide +kernel
theorem dX3_init_62 : decode cX3_init 62 = .ok (.iload_n 1, 1) := by decide +kernel
theorem dX3_init_63 : decode cX3_init 63 = .ok (.new 33, 3) := by decide +kernel
theorem dX3_init_66 : decode cX3_init 66 = .ok (.dup, 1) := by decide +kernel
theorem dX3_init_67 : decode cX3_init 67 = .ok (.iload_n 1, 1) := by decide +kernel
theorem dX3_init_68 : decode cX3_init 68 = .ok (.invokespecial 35, 3) := by decide +kernel
theorem dX3_init_71 : decode cX3_init 71 = .ok (.aastore, 1) := by decide +kernel
theorem dX3_init_72 : decode cX3_init 72 = .ok (.iinc 1 1, 3) := by decide +kernel
theorem dX3_init_75 : decode cX3_init 75 = .ok (.goto (-22), 3) := by decide +kernel
theorem dX3_init_78 : decode cX3_init 78 = .ok (.return_, 1) := by decide +kernel
set_option maxRecDepth 20000 in
theorem ggX3_forgetTold_J7_fill_53178 : GoodIn wsX3_forgetTold wsJ7_fill_53178 := goodIn_r _ [8] (by decide +kernel) (by decide +kernel)
set_option maxRecDepth 20000 in
theorem gX3_forgetTold_J7_fill_53178 : GoodIn wsX3_forgetTold (va_wsS RX3 48 yJ7_fill_53178 wsJ7_fill_53178) := goodIn_app (goodIn_of _ (by decide +kernel)) ggX3_forgetTold_J7_fill_53178
theorem dX3_forgetTold_0 : decode cX3_forgetTold 0 = .ok (.aload_n 0, 1) := by decide +kernel
theorem dX3_forgetTold_1 : decode cX3_forgetTold 1 = .ok (.iconst 0, 1) := by decide +kernel
theorem dX3_forgetTold_2 : decode cX3_forgetTold 2 = .ok (.putfield 38, 3) := by decide +kernel
theorem dX3_forgetTold_5 : decode cX3_forgetTold 5 = .ok (.aload_n 0, 1) := by decide +kernel
theorem dX3_forgetTold_6 : decode cX3_forgetTold 6 = .ok (.iconst 0, 1) := by decide +kernel
theorem dX3_forgetTold_7 : decode cX3_forgetTold 7 = .ok (.putfield 42, 3) := by decide +kernel
theorem dX3_forgetTold_10 : decode cX3_forgetTold 10 = .ok (.aload_n 0, 1) := by decide +kernel
theorem dX3_forgetTold_11 : decode cX3_forgetTold 11 = .ok (.iconst 0, 1) := by decide +kernel
theorem dX3_forgetTold_12 : decode cX3_forgetTold 12 = .ok (.putfield 45, 3) := by decide +kernel
theorem dX3_forgetTold_15 : decode cX3_forgetTold 15 = .ok (.aload_n 0, 1) := by decide +kernel
theorem dX3_forgetTold_16 : decode cX3_forgetTold 16 = .ok (.getfield 9, 3) := by decide +kernel
theorem dX3_forgetTold_19 : decode cX3_forgetTold 19 = .ok (.iconst 0, 1) := by decide +kernel
theorem dX3_forgetTold_20 : decode cX3_forgetTold 20 = .ok (.invokestatic 48, 3) := by decide +kernel
theorem dX3_forgetTold_23 : decode cX3_forgetTold 23 = .ok (.return_, 1) := by decide +kernel
theorem dX3_becomes_0 : decode cX3_becomes 0 = .ok (.aload_n 0, 1) := by decide +kernel
theorem dX3_becomes_1 : decode cX3_becomes 1 = .ok (.aload_n 1, 1) := by decide +kernel
theorem dX3_becomes_2 : decode cX3_becomes 2 = .ok (.getfield 54, 3) := by decide +kernel
theorem dX3_becomes_5 : decode cX3_becomes 5 = .ok (.putfield 54, 3) := by decide +kernel
theorem dX3_becomes_8 : decode cX3_becomes 8 = .ok (.aload_n 0, 1) := by decide +kernel
theorem dX3_becomes_9 : decode cX3_becomes 9 = .ok (.aload_n 1, 1) := by decide +kernel
theorem dX3_becomes_10 : decode cX3_becomes 10 = .ok (.getfield 57, 3) := by decide +kernel
theorem dX3_becomes_13 : decode cX3_becomes 13 = .ok (.putfield 57, 3) := by decide +kernel
theorem dX3_becomes_16 : decode cX3_becomes 16 = .ok (.aload_n 0, 1) := by decide +kernel
theorem dX3_becomes_17 : decode cX3_becomes 17 = .ok (.aload_n 1, 1) := by decide +kernel
theorem dX3_becomes_18 : decode cX3_becomes 18 = .ok (.getfield 60, 3) := by decide +kernel
theorem dX3_becomes_21 : decode cX3_becomes 21 = .ok (.putfield 60, 3) := by decide +kernel
theorem dX3_becomes_24 : decode cX3_becomes 24 = .ok (.aload_n 0, 1) := by decide +kernel
theorem dX3_becomes_25 : decode cX3_becomes 25 = .ok (.aload_n 1, 1) := by decide +kernel
theorem dX3_becomes_26 : decode cX3_becomes 26 = .ok (.getfield 38, 3) := by decide +kernel
theorem dX3_becomes_29 : decode cX3_becomes 29 = .ok (.putfield 38, 3) := by decide +kernel
theorem dX3_becomes_32 : decode cX3_becomes 32 = .ok (.aload_n 0, 1) := by decide +kernel
theorem dX3_becomes_33 : decode cX3_becomes 33 = .ok (.aload_n 1, 1) := by decide +kernel
theorem dX3_becomes_34 : decode cX3_becomes 34 = .ok (.getfield 42, 3) := by decide +kernel
theorem dX3_becomes_37 : decode cX3_becomes 37 = .ok (.putfield 42, 3) := by decide +kernel
theorem dX3_becomes_40 : decode cX3_becomes 40 = .ok (.aload_n 0, 1) := by decide +kernel
theorem dX3_becomes_41 : decode cX3_becomes 41 = .ok (.aload_n 1, 1) := by decide +kernel
theorem dX3_becomes_42 : decode cX3_becomes 42 = .ok (.getfield 45, 3) := by decide +kernel
theorem dX3_becomes_45 : decode cX3_becomes 45 = .ok (.putfield 45, 3) := by decide +kernel
theorem dX3_becomes_48 : decode cX3_becomes 48 = .ok (.aload_n 0, 1) := by decide +kernel
theorem dX3_becomes_49 : decode cX3_becomes 49 = .ok (.aload_n 1, 1) := by decide +kernel
theorem dX3_becomes_50 : decode cX3_becomes 50 = .ok (.getfield 63, 3) := by decide +kernel
theorem dX3_becomes_53 : decode cX3_becomes 53 = .ok (.putfield 63, 3) := by decide +kernel
theorem dX3_becomes_56 : decode cX3_becomes 56 = .ok (.aload_n 0, 1) := by decide +kernel
theorem dX3_becomes_57 : decode cX3_becomes 57 = .ok (.aload_n 1, 1) := by decide +kernel
theorem dX3_becomes_58 : decode cX3_becomes 58 = .ok (.getfield 66, 3) := by decide +kernel
theorem dX3_becomes_61 : decode cX3_becomes 61 = .ok (.putfield 66, 3) := by decide +kernel
theorem dX3_becomes_64 : decode cX3_becomes 64 = .ok (.aload_n 0, 1) := by decide +kernel
theorem dX3_becomes_65 : decode cX3_becomes 65 = .ok (.aload_n 1, 1) := by decide +kernel
theorem dX3_becomes_66 : decode cX3_becomes 66 = .ok (.getfield 69, 3) := by decide +kernel
theorem dX3_becomes_69 : decode cX3_becomes 69 = .ok (.putfield 69, 3) := by decide +kernel
theorem dX3_becomes_72 : decode cX3_becomes 72 = .ok (.aload_n 1, 1) := by decide +kernel
theorem dX3_becomes_73 : decode cX3_becomes 73 = .ok (.getfield 9, 3) := by decide +kernel
theorem dX3_becomes_76 : decode cX3_becomes 76 = .ok (.iconst 0, 1) := by decide +kernel
theorem dX3_becomes_77 : decode cX3_becomes 77 = .ok (.aload_n 0, 1) := by decide +kernel
theorem dX3_becomes_78 : decode cX3_becomes 78 = .ok (.getfield 9, 3) := by decide +kernel
theorem dX3_becomes_81 : decode cX3_becomes 81 = .ok (.iconst 0, 1) := by decide +kernel
theorem dX3_becomes_82 : decode cX3_becomes 82 = .ok (.bipush 6, 2) := by decide +kernel
theorem dX3_becomes_84 : decode cX3_becomes 84 = .ok (.invokestatic 72, 3) := by decide +kernel
theorem dX3_becomes_87 : decode cX3_becomes 87 = .ok (.aload_n 1, 1) := by decide +kernel
theorem dX3_becomes_88 : decode cX3_becomes 88 = .ok (.getfield 15, 3) := by decide +kernel
theorem dX3_becomes_91 : decode cX3_becomes 91 = .ok (.iconst 0, 1) := by decide +kernel
theorem dX3_becomes_92 : decode cX3_becomes 92 = .ok (.aload_n 0, 1) := by decide +kernel
theorem dX3_becomes_93 : decode cX3_becomes 93 = .ok (.getfield 15, 3) := by decide +kernel
theorem dX3_becomes_96 : decode cX3_becomes 96 = .ok (.iconst 0, 1) := by decide +kernel
theorem dX3_becomes_97 : decode cX3_becomes 97 = .ok (.bipush 48, 2) := by decide +kernel
theorem dX3_becomes_99 : decode cX3_becomes 99 = .ok (.invokestatic 72, 3) := by decide +kernel
theorem dX3_becomes_102 : decode cX3_becomes 102 = .ok (.aload_n 1, 1) := by decide +kernel
theorem dX3_becomes_103 : decode cX3_becomes 103 = .ok (.getfield 18, 3) := by decide +kernel
theorem dX3_becomes_106 : decode cX3_becomes 106 = .ok (.iconst 0, 1) := by decide +kernel
theorem dX3_becomes_107 : decode cX3_becomes 107 = .ok (.aload_n 0, 1) := by decide +kernel
theorem dX3_becomes_108 : decode cX3_becomes 108 = .ok (.getfield 18, 3) := by decide +kernel
theorem dX3_becomes_111 : decode cX3_becomes 111 = .ok (.iconst 0, 1) := by decide +kernel
theorem dX3_becomes_112 : decode cX3_becomes 112 = .ok (.bipush 48, 2) := by decide +kernel
theorem dX3_becomes_114 : decode cX3_becomes 114 = .ok (.invokestatic 72, 3) := by decide +kernel
theorem dX3_becomes_117 : decode cX3_becomes 117 = .ok (.aload_n 1, 1) := by decide +kernel
theorem dX3_becomes_118 : decode cX3_becomes 118 = .ok (.getfield 21, 3) := by decide +kernel
theorem dX3_becomes_121 : decode cX3_becomes 121 = .ok (.iconst 0, 1) := by decide +kernel
theorem dX3_becomes_122 : decode cX3_becomes 122 = .ok (.aload_n 0, 1) := by decide +kernel
theorem dX3_becomes_123 : decode cX3_becomes 123 = .ok (.getfield 21, 3) := by decide +kernel
theorem dX3_becomes_126 : decode cX3_becomes 126 = .ok (.iconst 0, 1) := by decide +kernel
theorem dX3_becomes_127 : decode cX3_becomes 127 = .ok (.bipush 32, 2) := by decide +kernel
theorem dX3_becomes_129 : decode cX3_becomes 129 = .ok (.invokestatic 72, 3) := by decide +kernel
theorem dX3_becomes_132 : decode cX3_becomes 132 = .ok (.aload_n 1, 1) := by decide +kernel
theorem dX3_becomes_133 : decode cX3_becomes 133 = .ok (.getfield 24, 3) := by decide +kernel
theorem dX3_becomes_136 : decode cX3_becomes 136 = .ok (.iconst 0, 1) := by decide +kernel
theorem dX3_becomes_137 : decode cX3_becomes 137 = .ok (.aload_n 0, 1) := by decide +kernel
theorem dX3_becomes_138 : decode cX3_becomes 138 = .ok (.getfield 24, 3) := by decide +kernel
theorem dX3_becomes_141 : decode cX3_becomes 141 = .ok (.iconst 0, 1) := by decide +kernel
theorem dX3_becomes_142 : decode cX3_becomes 142 = .ok (.iconst 4, 1) := by decide +kernel
theorem dX3_becomes_143 : decode cX3_becomes 143 = .ok (.invokestatic 72, 3) := by decide +kernel
theorem dX3_becomes_146 : decode cX3_becomes 146 = .ok (.iconst 0, 1) := by decide +kernel
theorem dX3_becomes_147 : decode cX3_becomes 147 = .ok (.istore_n 2, 1) := by decide +kernel
theorem dX3_becomes_148 : decode cX3_becomes 148 = .ok (.iload_n 2, 1) := by decide +kernel
theorem dX3_becomes_149 : decode cX3_becomes 149 = .ok (.iconst 4, 1) := by decide +kernel
theorem dX3_becomes_150 : decode cX3_becomes 150 = .ok (.if_icmp .ge 21, 3) := by decide +kernel
theorem dX3_becomes_153 : decode cX3_becomes 153 = .ok (.aload_n 0, 1) := by decide +kernel
theorem dX3_becomes_154 : decode cX3_becomes 154 = .ok (.getfield 29, 3) := by decide +kernel
theorem dX3_becomes_157 : decode cX3_becomes 157 = .ok (.iload_n 2, 1) := by decide +kernel
theorem dX3_becomes_158 : decode cX3_becomes 158 = .ok (.aload_n 1, 1) := by decide +kernel
theorem dX3_becomes_159 : decode cX3_becomes 159 = .ok (.getfield 29, 3) := by decide +kernel
theorem dX3_becomes_162 : decode cX3_becomes 162 = .ok (.iload_n 2, 1) := by decide +kernel
theorem dX3_becomes_163 : decode cX3_becomes 163 = .ok (.aaload, 1) := by decide +kernel
theorem dX3_becomes_164 : decode cX3_becomes 164 = .ok (.aastore, 1) := by decide +kernel
theorem dX3_becomes_165 : decode cX3_becomes 165 = .ok (.iinc 2 1, 3) := by decide +kernel
theorem dX3_becomes_168 : decode cX3_becomes 168 = .ok (.goto (-20), 3) := by decide +kernel
theorem dX3_becomes_171 : decode cX3_becomes 171 = .ok (.return_, 1) := by decide +kernel
theorem dX3_stands_0 : decode cX3_stands 0 = .ok (.aload_n 0, 1) := by decide +kernel
theorem dX3_stands_1 : decode cX3_stands 1 = .ok (.getfield 54, 3) := by decide +kernel
theorem dX3_stands_4 : decode cX3_stands 4 = .ok (.ifCond .le 7, 3) := by decide +kernel
theorem dX3_stands_7 : decode cX3_stands 7 = .ok (.iconst 1, 1) := by decide +kernel
theorem dX3_stands_8 : decode cX3_stands 8 = .ok (.goto 4, 3) := by decide +kernel
theorem dX3_stands_11 : decode cX3_stands 11 = .ok (.iconst 0, 1) := by decide +kernel
theorem dX3_stands_12 : decode cX3_stands 12 = .ok (.ireturn, 1) := by decide +kernel
theorem dX3_isRoom_0 : decode cX3_isRoom 0 = .ok (.iload_n 1, 1) := by decide +kernel
theorem dX3_isRoom_1 : decode cX3_isRoom 1 = .ok (.ifCond .lt 15, 3) := by decide +kernel
theorem dX3_isRoom_4 : decode cX3_isRoom 4 = .ok (.iload_n 1, 1) := by decide +kernel
theorem dX3_isRoom_5 : decode cX3_isRoom 5 = .ok (.aload_n 0, 1) := by decide +kernel
theorem dX3_isRoom_6 : decode cX3_isRoom 6 = .ok (.getfield 54, 3) := by decide +kernel
theorem dX3_isRoom_9 : decode cX3_isRoom 9 = .ok (.if_icmp .ge 7, 3) := by decide +kernel
theorem dX3_isRoom_12 : decode cX3_isRoom 12 = .ok (.iconst 1, 1) := by decide +kernel
theorem dX3_isRoom_13 : decode cX3_isRoom 13 = .ok (.goto 4, 3) := by decide +kernel
theorem dX3_isRoom_16 : decode cX3_isRoom 16 = .ok (.iconst 0, 1) := by decide +kernel
theorem dX3_isRoom_17 : decode cX3_isRoom 17 = .ok (.ireturn, 1) := by decide +kernel
theorem dX3_isPerson_0 : decode cX3_isPerson 0 = .ok (.iload_n 1, 1) := by decide +kernel
theorem dX3_isPerson_1 : decode cX3_isPerson 1 = .ok (.ifCond .lt 15, 3) := by decide +kernel
theorem dX3_isPerson_4 : decode cX3_isPerson 4 = .ok (.iload_n 1, 1) := by decide +kernel
theorem dX3_isPerson_5 : decode cX3_isPerson 5 = .ok (.aload_n 0, 1) := by decide +kernel
theorem dX3_isPerson_6 : decode cX3_isPerson 6 = .ok (.getfield 42, 3) := by decide +kernel
theorem dX3_isPerson_9 : decode cX3_isPerson 9 = .ok (.if_icmp .ge 7, 3) := by decide +kernel
theorem dX3_isPerson_12 : decode cX3_isPerson 12 = .ok (.iconst 1, 1) := by decide +kernel
theorem dX3_isPerson_13 : decode cX3_isPerson 13 = .ok (.goto 4, 3) := by decide +kernel
theorem dX3_isPerson_16 : decode cX3_isPerson 16 = .ok (.iconst 0, 1) := by decide +kernel
theorem dX3_isPerson_17 : decode cX3_isPerson 17 = .ok (.ireturn, 1) := by decide +kernel
theorem dX3_isVisitor_0 : decode cX3_isVisitor 0 = .ok (.iload_n 1, 1) := by decide +kernel
theorem dX3_isVisitor_1 : decode cX3_isVisitor 1 = .ok (.ifCond .lt 15, 3) := by decide +kernel
theorem dX3_isVisitor_4 : decode cX3_isVisitor 4 = .ok (.iload_n 1, 1) := by decide +kernel
theorem dX3_isVisitor_5 : decode cX3_isVisitor 5 = .ok (.aload_n 0, 1) := by decide +kernel
theorem dX3_isVisitor_6 : decode cX3_isVisitor 6 = .ok (.getfield 45, 3) := by decide +kernel
theorem dX3_isVisitor_9 : decode cX3_isVisitor 9 = .ok (.if_icmp .ge 7, 3) := by decide +kernel
theorem dX3_isVisitor_12 : decode cX3_isVisitor 12 = .ok (.iconst 1, 1) := by decide +kernel
theorem dX3_isVisitor_13 : decode cX3_isVisitor 13 = .ok (.goto 4, 3) := by decide +kernel
theorem dX3_isVisitor_16 : decode cX3_isVisitor 16 = .ok (.iconst 0, 1) := by decide +kernel
theorem dX3_isVisitor_17 : decode cX3_isVisitor 17 = .ok (.ireturn, 1) := by decide +kernel
theorem dX3_isVisitorSet_0 : decode cX3_isVisitorSet 0 = .ok (.iload_n 1, 1) := by decide +kernel
theorem dX3_isVisitorSet_1 : decode cX3_isVisitorSet 1 = .ok (.ifCond .lt 17, 3) := by decide +kernel
theorem dX3_isVisitorSet_4 : decode cX3_isVisitorSet 4 = .ok (.iload_n 1, 1) := by decide +kernel
theorem dX3_isVisitorSet_5 : decode cX3_isVisitorSet 5 = .ok (.iconst 1, 1) := by decide +kernel
theorem dX3_isVisitorSet_6 : decode cX3_isVisitorSet 6 = .ok (.aload_n 0, 1) := by decide +kernel
theorem dX3_isVisitorSet_7 : decode cX3_isVisitorSet 7 = .ok (.getfield 45, 3) := by decide +kernel
theorem dX3_isVisitorSet_10 : decode cX3_isVisitorSet 10 = .ok (.ishl, 1) := by decide +kernel
theorem dX3_isVisitorSet_11 : decode cX3_isVisitorSet 11 = .ok (.if_icmp .ge 7, 3) := by decide +kernel
theorem dX3_isVisitorSet_14 : decode cX3_isVisitorSet 14 = .ok (.iconst 1, 1) := by decide +kernel
theorem dX3_isVisitorSet_15 : decode cX3_isVisitorSet 15 = .ok (.goto 4, 3) := by decide +kernel
theorem dX3_isVisitorSet_18 : decode cX3_isVisitorSet 18 = .ok (.iconst 0, 1) := by decide +kernel
theorem dX3_isVisitorSet_19 : decode cX3_isVisitorSet 19 = .ok (.ireturn, 1) := by decide +kernel
theorem dX3_addWall_0 : decode cX3_addWall 0 = .ok (.aload_n 0, 1) := by decide +kernel
theorem dX3_addWall_1 : decode cX3_addWall 1 = .ok (.getfield 9, 3) := by decide +kernel
theorem dX3_addWall_4 : decode cX3_addWall 4 = .ok (.iload_n 1, 1) := by decide +kernel
theorem dX3_addWall_5 : decode cX3_addWall 5 = .ok (.dup2, 1) := by decide +kernel
theorem dX3_addWall_6 : decode cX3_addWall 6 = .ok (.iaload, 1) := by decide +kernel
theorem dX3_addWall_7 : decode cX3_addWall 7 = .ok (.iconst 1, 1) := by decide +kernel
theorem dX3_addWall_8 : decode cX3_addWall 8 = .ok (.iload_n 2, 1) := by decide +kernel
theorem dX3_addWall_9 : decode cX3_addWall 9 = .ok (.ishl, 1) := by decide +kernel
theorem dX3_addWall_10 : decode cX3_addWall 10 = .ok (.ior, 1) := by decide +kernel
theorem dX3_addWall_11 : decode cX3_addWall 11 = .ok (.iastore, 1) := by decide +kernel
theorem dX3_addWall_12 : decode cX3_addWall 12 = .ok (.aload_n 0, 1) := by decide +kernel
theorem dX3_addWall_13 : decode cX3_addWall 13 = .ok (.getfield 9, 3) := by decide +kernel
theorem dX3_addWall_16 : decode cX3_addWall 16 = .ok (.iload_n 2, 1) := by decide +kernel
theorem dX3_addWall_17 : decode cX3_addWall 17 = .ok (.dup2, 1) := by decide +kernel
theorem dX3_addWall_18 : decode cX3_addWall 18 = .ok (.iaload, 1) := by decide +kernel
theorem dX3_addWall_19 : decode cX3_addWall 19 = .ok (.iconst 1, 1) := by decide +kernel
theorem dX3_addWall_20 : decode cX3_addWall 20 = .ok (.iload_n 1, 1) := by decide +kernel
theorem dX3_addWall_21 : decode cX3_addWall 21 = .ok (.ishl, 1) := by decide +kernel
theorem dX3_addWall_22 : decode cX3_addWall 22 = .ok (.ior, 1) := by decide +kernel
theorem dX3_addWall_23 : decode cX3_addWall 23 = .ok (.iastore, 1) := by decide +kernel
theorem dX3_addWall_24 : decode cX3_addWall 24 = .ok (.aload_n 0, 1) := by decide +kernel
theorem dX3_addWall_25 : decode cX3_addWall 25 = .ok (.dup, 1) := by decide +kernel
theorem dX3_addWall_26 : decode cX3_addWall 26 = .ok (.getfield 38, 3) := by decide +kernel
theorem dX3_addWall_29 : decode cX3_addWall 29 = .ok (.iconst 1, 1) := by decide +kernel
theorem dX3_addWall_30 : decode cX3_addWall 30 = .ok (.iadd, 1) := by decide +kernel
theorem dX3_addWall_31 : decode cX3_addWall 31 = .ok (.putfield 38, 3) := by decide +kernel
theorem dX3_addWall_34 : decode cX3_addWall 34 = .ok (.return_, 1) := by decide +kernel
set_option maxRecDepth 20000 in
theorem ggX3_hasWindow_X11_has : GoodIn wsX3_hasWindow wsX11_has := goodIn_r _ [4] (by decide +kernel) (by decide +kernel)
set_option maxRecDepth 20000 in
theorem gX3_hasWindow_X11_has_n78 : GoodIn wsX3_hasWindow (wsX11_has) := ggX3_hasWindow_X11_has
theorem dX3_hasWindow_0 : decode cX3_hasWindow 0 = .ok (.aload_n 0, 1) := by decide +kernel
theorem dX3_hasWindow_1 : decode cX3_hasWindow 1 = .ok (.getfield 9, 3) := by decide +kernel
theorem dX3_hasWindow_4 : decode cX3_hasWindow 4 = .ok (.iload_n 1, 1) := by decide +kernel
theorem dX3_hasWindow_5 : decode cX3_hasWindow 5 = .ok (.iaload, 1) := by decide +kernel
theorem dX3_hasWindow_6 : decode cX3_hasWindow 6 = .ok (.iload_n 2, 1) := by decide +kernel
theorem dX3_hasWindow_7 : decode cX3_hasWindow 7 = .ok (.invokestatic 78, 3) := by decide +kernel
theorem dX3_hasWindow_10 : decode cX3_hasWindow 10 = .ok (.ireturn, 1) := by decide +kernel
set_option maxRecDepth 20000 in
theorem ggX3_isDrawn_X11_seatNumber : GoodIn wsX3_isDrawn wsX11_seatNumber := goodIn_r _ [4] (by decide +kernel) (by decide +kernel)
set_option maxRecDepth 20000 in
theorem gX3_isDrawn_X11_seatNumber_n82 : GoodIn wsX3_isDrawn (wsX11_seatNumber) := ggX3_isDrawn_X11_seatNumber
set_option maxRecDepth 20000 in
theorem ggX3_isDrawn_X11_has : GoodIn wsX3_isDrawn wsX11_has := goodIn_r _ [6] (by decide +kernel) (by decide +kernel)
set_option maxRecDepth 20000 in
theorem gX3_isDrawn_X11_has_n78 : GoodIn wsX3_isDrawn (wsX11_has) := ggX3_isDrawn_X11_has
theorem dX3_isDrawn_0 : decode cX3_isDrawn 0 = .ok (.aload_n 0, 1) := by decide +kernel
theorem dX3_isDrawn_1 : decode cX3_isDrawn 1 = .ok (.getfield 15, 3) := by decide +kernel
theorem dX3_isDrawn_4 : decode cX3_isDrawn 4 = .ok (.iload_n 1, 1) := by decide +kernel
theorem dX3_isDrawn_5 : decode cX3_isDrawn 5 = .ok (.iload_n 3, 1) := by decide +kernel
theorem dX3_isDrawn_6 : decode cX3_isDrawn 6 = .ok (.invokestatic 82, 3) := by decide +kernel
theorem dX3_isDrawn_9 : decode cX3_isDrawn 9 = .ok (.iaload, 1) := by decide +kernel
theorem dX3_isDrawn_10 : decode cX3_isDrawn 10 = .ok (.iload_n 2, 1) := by decide +kernel
theorem dX3_isDrawn_11 : decode cX3_isDrawn 11 = .ok (.invokestatic 78, 3) := by decide +kernel
theorem dX3_isDrawn_14 : decode cX3_isDrawn 14 = .ok (.ireturn, 1) := by decide +kernel
set_option maxRecDepth 20000 in
theorem ggX3_drawCurtain_X11_seatNumber : GoodIn wsX3_drawCurtain wsX11_seatNumber := goodIn_r _ [5] (by decide +kernel) (by decide +kernel)
set_option maxRecDepth 20000 in
theorem gX3_drawCurtain_X11_seatNumber_n82 : GoodIn wsX3_drawCurtain (wsX11_seatNumber) := ggX3_drawCurtain_X11_seatNumber
theorem dX3_drawCurtain_0 : decode cX3_drawCurtain 0 = .ok (.aload_n 0, 1) := by decide +kernel
theorem dX3_drawCurtain_1 : decode cX3_drawCurtain 1 = .ok (.getfield 15, 3) := by decide +kernel
theorem dX3_drawCurtain_4 : decode cX3_drawCurtain 4 = .ok (.iload_n 1, 1) := by decide +kernel
theorem dX3_drawCurtain_5 : decode cX3_drawCurtain 5 = .ok (.iload_n 3, 1) := by decide +kernel
theorem dX3_drawCurtain_6 : decode cX3_drawCurtain 6 = .ok (.invokestatic 82, 3) := by decide +kernel
theorem dX3_drawCurtain_9 : decode cX3_drawCurtain 9 = .ok (.dup2, 1) := by decide +kernel
theorem dX3_drawCurtain_10 : decode cX3_drawCurtain 10 = .ok (.iaload, 1) := by decide +kernel
theorem dX3_drawCurtain_11 : decode cX3_drawCurtain 11 = .ok (.iconst 1, 1) := by decide +kernel
theorem dX3_drawCurtain_12 : decode cX3_drawCurtain 12 = .ok (.iload_n 2, 1) := by decide +kernel
theorem dX3_drawCurtain_13 : decode cX3_drawCurtain 13 = .ok (.ishl, 1) := by decide +kernel
theorem dX3_drawCurtain_14 : decode cX3_drawCurtain 14 = .ok (.ior, 1) := by decide +kernel
theorem dX3_drawCurtain_15 : decode cX3_drawCurtain 15 = .ok (.iastore, 1) := by decide +kernel
theorem dX3_drawCurtain_16 : decode cX3_drawCurtain 16 = .ok (.aload_n 0, 1) := by decide +kernel
theorem dX3_drawCurtain_17 : decode cX3_drawCurtain 17 = .ok (.getfield 15, 3) := by decide +kernel
theorem dX3_drawCurtain_20 : decode cX3_drawCurtain 20 = .ok (.iload_n 2, 1) := by decide +kernel
theorem dX3_drawCurtain_21 : decode cX3_drawCurtain 21 = .ok (.iload_n 3, 1) := by decide +kernel
theorem dX3_drawCurtain_22 : decode cX3_drawCurtain 22 = .ok (.invokestatic 82, 3) := by decide +kernel
theorem dX3_drawCurtain_25 : decode cX3_drawCurtain 25 = .ok (.dup2, 1) := by decide +kernel
theorem dX3_drawCurtain_26 : decode cX3_drawCurtain 26 = .ok (.iaload, 1) := by decide +kernel
theorem dX3_drawCurtain_27 : decode cX3_drawCurtain 27 = .ok (.iconst 1, 1) := by decide +kernel
theorem dX3_drawCurtain_28 : decode cX3_drawCurtain 28 = .ok (.iload_n 1, 1) := by decide +kernel
theorem dX3_drawCurtain_29 : decode cX3_drawCurtain 29 = .ok (.ishl, 1) := by decide +kernel
theorem dX3_drawCurtain_30 : decode cX3_drawCurtain 30 = .ok (.ior, 1) := by decide +kernel
theorem dX3_drawCurtain_31 : decode cX3_drawCurtain 31 = .ok (.iastore, 1) := by decide +kernel
theorem dX3_drawCurtain_32 : decode cX3_drawCurtain 32 = .ok (.aload_n 0, 1) := by decide +kernel
theorem dX3_drawCurtain_33 : decode cX3_drawCurtain 33 = .ok (.dup, 1) := by decide +kernel
theorem dX3_drawCurtain_34 : decode cX3_drawCurtain 34 = .ok (.getfield 66, 3) := by decide +kernel
theorem dX3_drawCurtain_37 : decode cX3_drawCurtain 37 = .ok (.iconst 1, 1) := by decide +kernel
theorem dX3_drawCurtain_38 : decode cX3_drawCurtain 38 = .ok (.iadd, 1) := by decide +kernel
theorem dX3_drawCurtain_39 : decode cX3_drawCurtain 39 = .ok (.putfield 66, 3) := by decide +kernel
theorem dX3_drawCurtain_42 : decode cX3_drawCurtain 42 = .ok (.return_, 1) := by decide +kernel
set_option maxRecDepth 20000 in
theorem ggX3_openCurtain_X11_seatNumber : GoodIn wsX3_openCurtain wsX11_seatNumber := goodIn_r _ [5] (by decide +kernel) (by decide +kernel)
set_option maxRecDepth 20000 in
theorem gX3_openCurtain_X11_seatNumber_n82 : GoodIn wsX3_openCurtain (wsX11_seatNumber) := ggX3_openCurtain_X11_seatNumber
theorem dX3_openCurtain_0 : decode cX3_openCurtain 0 = .ok (.aload_n 0, 1) := by decide +kernel
theorem dX3_openCurtain_1 : decode cX3_openCurtain 1 = .ok (.getfield 15, 3) := by decide +kernel
theorem dX3_openCurtain_4 : decode cX3_openCurtain 4 = .ok (.iload_n 1, 1) := by decide +kernel
theorem dX3_openCurtain_5 : decode cX3_openCurtain 5 = .ok (.iload_n 3, 1) := by decide +kernel
theorem dX3_openCurtain_6 : decode cX3_openCurtain 6 = .ok (.invokestatic 82, 3) := by decide +kernel
theorem dX3_openCurtain_9 : decode cX3_openCurtain 9 = .ok (.dup2, 1) := by decide +kernel
theorem dX3_openCurtain_10 : decode cX3_openCurtain 10 = .ok (.iaload, 1) := by decide +kernel
theorem dX3_openCurtain_11 : decode cX3_openCurtain 11 = .ok (.iconst 1, 1) := by decide +kernel
theorem dX3_openCurtain_12 : decode cX3_openCurtain 12 = .ok (.iload_n 2, 1) := by decide +kernel
theorem dX3_openCurtain_13 : decode cX3_openCurtain 13 = .ok (.ishl, 1) := by decide +kernel
theorem dX3_openCurtain_14 : decode cX3_openCurtain 14 = .ok (.iconst (-1), 1) := by decide +kernel
theorem dX3_openCurtain_15 : decode cX3_openCurtain 15 = .ok (.ixor, 1) := by decide +kernel
theorem dX3_openCurtain_16 : decode cX3_openCurtain 16 = .ok (.iand, 1) := by decide +kernel
theorem dX3_openCurtain_17 : decode cX3_openCurtain 17 = .ok (.iastore, 1) := by decide +kernel
theorem dX3_openCurtain_18 : decode cX3_openCurtain 18 = .ok (.aload_n 0, 1) := by decide +kernel
theorem dX3_openCurtain_19 : decode cX3_openCurtain 19 = .ok (.getfield 15, 3) := by decide +kernel
theorem dX3_openCurtain_22 : decode cX3_openCurtain 22 = .ok (.iload_n 2, 1) := by decide +kernel
theorem dX3_openCurtain_23 : decode cX3_openCurtain 23 = .ok (.iload_n 3, 1) := by decide +kernel
theorem dX3_openCurtain_24 : decode cX3_openCurtain 24 = .ok (.invokestatic 82, 3) := by decide +kernel
theorem dX3_openCurtain_27 : decode cX3_openCurtain 27 = .ok (.dup2, 1) := by decide +kernel
theorem dX3_openCurtain_28 : decode cX3_openCurtain 28 = .ok (.iaload, 1) := by decide +kernel
theorem dX3_openCurtain_29 : decode cX3_openCurtain 29 = .ok (.iconst 1, 1) := by decide +kernel
theorem dX3_openCurtain_30 : decode cX3_openCurtain 30 = .ok (.iload_n 1, 1) := by decide +kernel
theorem dX3_openCurtain_31 : decode cX3_openCurtain 31 = .ok (.ishl, 1) := by decide +kernel
theorem dX3_openCurtain_32 : decode cX3_openCurtain 32 = .ok (.iconst (-1), 1) := by decide +kernel
theorem dX3_openCurtain_33 : decode cX3_openCurtain 33 = .ok (.ixor, 1) := by decide +kernel
theorem dX3_openCurtain_34 : decode cX3_openCurtain 34 = .ok (.iand, 1) := by decide +kernel
theorem dX3_openCurtain_35 : decode cX3_openCurtain 35 = .ok (.iastore, 1) := by decide +kernel
theorem dX3_openCurtain_36 : decode cX3_openCurtain 36 = .ok (.aload_n 0, 1) := by decide +kernel
theorem dX3_openCurtain_37 : decode cX3_openCurtain 37 = .ok (.dup, 1) := by decide +kernel
theorem dX3_openCurtain_38 : decode cX3_openCurtain 38 = .ok (.getfield 66, 3) := by decide +kernel
theorem dX3_openCurtain_41 : decode cX3_openCurtain 41 = .ok (.iconst 1, 1) := by decide +kernel
theorem dX3_openCurtain_42 : decode cX3_openCurtain 42 = .ok (.isub, 1) := by decide +kernel
theorem dX3_openCurtain_43 : decode cX3_openCurtain 43 = .ok (.putfield 66, 3) := by decide +kernel
theorem dX3_openCurtain_46 : decode cX3_openCurtain 46 = .ok (.return_, 1) := by decide +kernel
set_option maxRecDepth 20000 in
theorem ggX3_viewOf_X11_seatNumber : GoodIn wsX3_viewOf wsX11_seatNumber := goodIn_r _ [5] (by decide +kernel) (by decide +kernel)
set_option maxRecDepth 20000 in
theorem gX3_viewOf_X11_seatNumber_n82 : GoodIn wsX3_viewOf (wsX11_seatNumber) := ggX3_viewOf_X11_seatNumber
theorem dX3_viewOf_0 : decode cX3_viewOf 0 = .ok (.iconst 1, 1) := by decide +kernel
theorem dX3_viewOf_1 : decode cX3_viewOf 1 = .ok (.iload_n 1, 1) := by decide +kernel
theorem dX3_viewOf_2 : decode cX3_viewOf 2 = .ok (.ishl, 1) := by decide +kernel
theorem dX3_viewOf_3 : decode cX3_viewOf 3 = .ok (.aload_n 0, 1) := by decide +kernel
theorem dX3_viewOf_4 : decode cX3_viewOf 4 = .ok (.getfield 9, 3) := by decide +kernel
theorem dX3_viewOf_7 : decode cX3_viewOf 7 = .ok (.iload_n 1, 1) := by decide +kernel
theorem dX3_viewOf_8 : decode cX3_viewOf 8 = .ok (.iaload, 1) := by decide +kernel
theorem dX3_viewOf_9 : decode cX3_viewOf 9 = .ok (.aload_n 0, 1) := by decide +kernel
theorem dX3_viewOf_10 : decode cX3_viewOf 10 = .ok (.getfield 15, 3) := by decide +kernel
theorem dX3_viewOf_13 : decode cX3_viewOf 13 = .ok (.iload_n 1, 1) := by decide +kernel
theorem dX3_viewOf_14 : decode cX3_viewOf 14 = .ok (.iload_n 2, 1) := by decide +kernel
theorem dX3_viewOf_15 : decode cX3_viewOf 15 = .ok (.invokestatic 82, 3) := by decide +kernel
theorem dX3_viewOf_18 : decode cX3_viewOf 18 = .ok (.iaload, 1) := by decide +kernel
theorem dX3_viewOf_19 : decode cX3_viewOf 19 = .ok (.iconst (-1), 1) := by decide +kernel
theorem dX3_viewOf_20 : decode cX3_viewOf 20 = .ok (.ixor, 1) := by decide +kernel
theorem dX3_viewOf_21 : decode cX3_viewOf 21 = .ok (.iand, 1) := by decide +kernel
theorem dX3_viewOf_22 : decode cX3_viewOf 22 = .ok (.ior, 1) := by decide +kernel
theorem dX3_viewOf_23 : decode cX3_viewOf 23 = .ok (.ireturn, 1) := by decide +kernel
set_option maxRecDepth 20000 in
theorem ggX3_holds_X11_seatNumber : GoodIn wsX3_holds wsX11_seatNumber := goodIn_r _ [4] (by decide +kernel) (by decide +kernel)
set_option maxRecDepth 20000 in
theorem gX3_holds_X11_seatNumber_n82 : GoodIn wsX3_holds (wsX11_seatNumber) := ggX3_holds_X11_seatNumber
set_option maxRecDepth 20000 in
theorem ggX3_holds_X11_has : GoodIn wsX3_holds wsX11_has := goodIn_r _ [6] (by decide +kernel) (by decide +kernel)
set_option maxRecDepth 20000 in
theorem gX3_holds_X11_has_n78 : GoodIn wsX3_holds (wsX11_has) := ggX3_holds_X11_has
theorem dX3_holds_0 : decode cX3_holds 0 = .ok (.aload_n 0, 1) := by decide +kernel
theorem dX3_holds_1 : decode cX3_holds 1 = .ok (.getfield 18, 3) := by decide +kernel
theorem dX3_holds_4 : decode cX3_holds 4 = .ok (.iload_n 2, 1) := by decide +kernel
theorem dX3_holds_5 : decode cX3_holds 5 = .ok (.iload_n 3, 1) := by decide +kernel
theorem dX3_holds_6 : decode cX3_holds 6 = .ok (.invokestatic 82, 3) := by decide +kernel
theorem dX3_holds_9 : decode cX3_holds 9 = .ok (.iaload, 1) := by decide +kernel
theorem dX3_holds_10 : decode cX3_holds 10 = .ok (.iload_n 1, 1) := by decide +kernel
theorem dX3_holds_11 : decode cX3_holds 11 = .ok (.invokestatic 78, 3) := by decide +kernel
theorem dX3_holds_14 : decode cX3_holds 14 = .ok (.ireturn, 1) := by decide +kernel
set_option maxRecDepth 20000 in
theorem ggX3_heldOf_X11_seatNumber : GoodIn wsX3_heldOf wsX11_seatNumber := goodIn_r _ [4] (by decide +kernel) (by decide +kernel)
set_option maxRecDepth 20000 in
theorem gX3_heldOf_X11_seatNumber_n82 : GoodIn wsX3_heldOf (wsX11_seatNumber) := ggX3_heldOf_X11_seatNumber
set_option maxRecDepth 20000 in
theorem ggX3_heldOf_J6_bitCount_0f7a4 : GoodIn wsX3_heldOf wsJ6_bitCount_0f7a4 := goodIn_r _ [8, 9, 10, 11] (by decide +kernel) (by decide +kernel)
set_option maxRecDepth 20000 in
theorem gX3_heldOf_J6_bitCount_0f7a4 : GoodIn wsX3_heldOf (va_wsS RX3 86 yJ6_bitCount_0f7a4 wsJ6_bitCount_0f7a4) := goodIn_app (goodIn_of _ (by decide +kernel)) ggX3_heldOf_J6_bitCount_0f7a4
theorem dX3_heldOf_0 : decode cX3_heldOf 0 = .ok (.aload_n 0, 1) := by decide +kernel
theorem dX3_heldOf_1 : decode cX3_heldOf 1 = .ok (.getfield 18, 3) := by decide +kernel
theorem dX3_heldOf_4 : decode cX3_heldOf 4 = .ok (.iload_n 1, 1) := by decide +kernel
theorem dX3_heldOf_5 : decode cX3_heldOf 5 = .ok (.iload_n 2, 1) := by decide +kernel
theorem dX3_heldOf_6 : decode cX3_heldOf 6 = .ok (.invokestatic 82, 3) := by decide +kernel
theorem dX3_heldOf_9 : decode cX3_heldOf 9 = .ok (.iaload, 1) := by decide +kernel
theorem dX3_heldOf_10 : decode cX3_heldOf 10 = .ok (.invokestatic 86, 3) := by decide +kernel
theorem dX3_heldOf_13 : decode cX3_heldOf 13 = .ok (.ireturn, 1) := by decide +kernel
set_option maxRecDepth 20000 in
theorem ggX3_isLeft_X3_heldOf : GoodIn wsX3_isLeft wsX3_heldOf := goodIn_r _ [6, 7, 8, 9, 10, 11, 12, 13, 14, 15, 16, 17, 18, 19, 20, 21, 22, 23, 24, 25, 26, 27, 28, 29, 30, 31, 32] (by decide +kernel) (by decide +kernel)
set_option maxRecDepth 20000 in
theorem gX3_isLeft_X3_heldOf : GoodIn wsX3_isLeft (wsV RX3 92 RX3 yX3_heldOf wsX3_heldOf) := goodIn_app (goodIn_of _ (by decide +kernel)) ggX3_isLeft_X3_heldOf
theorem dX3_isLeft_0 : decode cX3_isLeft 0 = .ok (.aload_n 0, 1) := by decide +kernel
theorem dX3_isLeft_1 : decode cX3_isLeft 1 = .ok (.iload_n 1, 1) := by decide +kernel
theorem dX3_isLeft_2 : decode cX3_isLeft 2 = .ok (.iload_n 2, 1) := by decide +kernel
theorem dX3_isLeft_3 : decode cX3_isLeft 3 = .ok (.invokevirtual 92, 3) := by decide +kernel
theorem dX3_isLeft_6 : decode cX3_isLeft 6 = .ok (.aload_n 0, 1) := by decide +kernel
theorem dX3_isLeft_7 : decode cX3_isLeft 7 = .ok (.getfield 57, 3) := by decide +kernel
theorem dX3_isLeft_10 : decode cX3_isLeft 10 = .ok (.if_icmp .ge 7, 3) := by decide +kernel
theorem dX3_isLeft_13 : decode cX3_isLeft 13 = .ok (.iconst 1, 1) := by decide +kernel
theorem dX3_isLeft_14 : decode cX3_isLeft 14 = .ok (.goto 4, 3) := by decide +kernel
theorem dX3_isLeft_17 : decode cX3_isLeft 17 = .ok (.iconst 0, 1) := by decide +kernel
theorem dX3_isLeft_18 : decode cX3_isLeft 18 = .ok (.ireturn, 1) := by decide +kernel
set_option maxRecDepth 20000 in
theorem ggX3_priceFor_X11_has : GoodIn wsX3_priceFor wsX11_has := goodIn_r _ [12] (by decide +kernel) (by decide +kernel)
set_option maxRecDepth 20000 in
theorem gX3_priceFor_X11_has_n78 : GoodIn wsX3_priceFor (wsX11_has) := ggX3_priceFor_X11_has
set_option maxRecDepth 20000 in
theorem ggX3_priceFor_X3_heldOf : GoodIn wsX3_priceFor wsX3_heldOf := goodIn_r _ [17, 18, 19, 11, 20, 21, 22, 23, 24, 25, 26, 27, 55, 56, 57, 58, 59, 60, 61, 62, 63, 64, 65, 66, 67, 68, 69] (by decide +kernel) (by decide +kernel)
set_option maxRecDepth 20000 in
theorem gX3_priceFor_X3_heldOf : GoodIn wsX3_priceFor (wsV RX3 92 RX3 yX3_heldOf wsX3_heldOf) := goodIn_app (goodIn_of _ (by decide +kernel)) ggX3_priceFor_X3_heldOf
set_option maxRecDepth 20000 in
theorem ggX3_priceFor_X1_priceFrom : GoodIn wsX3_priceFor wsX1_priceFrom := goodIn_r _ [34] (by decide +kernel) (by decide +kernel)
set_option maxRecDepth 20000 in
theorem gX3_priceFor_X1_priceFrom_u100X1 : GoodIn wsX3_priceFor (va_wsO RX3 100 RX1 "SeenAgain$Visitor" ⟨"SeenAgain$Visitor", "priceFrom", "(IZ)I"⟩ yX1_priceFrom wsX1_priceFrom) := goodIn_app (goodIn_of _ (by decide +kernel)) ggX3_priceFor_X1_priceFrom
set_option maxRecDepth 20000 in
theorem ggX3_priceFor_X2_priceFrom : GoodIn wsX3_priceFor wsX2_priceFrom := goodIn_r _ [39, 40, 41, 42, 43, 44, 45, 46, 4, 5, 6] (by decide +kernel) (by decide +kernel)
set_option maxRecDepth 20000 in
theorem gX3_priceFor_X2_priceFrom_u100X2 : GoodIn wsX3_priceFor (va_wsO RX3 100 RX2 "SeenAgain$Visitor" ⟨"SeenAgain$Visitor", "priceFrom", "(IZ)I"⟩ yX2_priceFrom wsX2_priceFrom) := goodIn_app (goodIn_of _ (by decide +kernel)) ggX3_priceFor_X2_priceFrom
set_option maxRecDepth 20000 in
theorem ggX3_priceFor_X4_priceFrom : GoodIn wsX3_priceFor wsX4_priceFrom := goodIn_r _ [50] (by decide +kernel) (by decide +kernel)
set_option maxRecDepth 20000 in
theorem gX3_priceFor_X4_priceFrom_u100X4 : GoodIn wsX3_priceFor (va_wsO RX3 100 RX4 "SeenAgain$Visitor" ⟨"SeenAgain$Visitor", "priceFrom", "(IZ)I"⟩ yX4_priceFrom wsX4_priceFrom) := goodIn_app (goodIn_of _ (by decide +kernel)) ggX3_priceFor_X4_priceFrom
set_option maxRecDepth 20000 in
theorem ggX3_priceFor_X9_priceFrom : GoodIn wsX3_priceFor wsX9_priceFrom := goodIn_r _ [35] (by decide +kernel) (by decide +kernel)
set_option maxRecDepth 20000 in
theorem gX3_priceFor_X9_priceFrom_u100X7 : GoodIn wsX3_priceFor (va_wsU RX3 100 RX7 "SeenAgain$Visitor" ⟨"SeenAgain$Visitor", "priceFrom", "(IZ)I"⟩ yX9_priceFrom wsX9_priceFrom) := goodIn_app (goodIn_of _ (by decide +kernel)) ggX3_priceFor_X9_priceFrom
set_option maxRecDepth 20000 in
theorem ggX3_priceFor_X10_priceFrom : GoodIn wsX3_priceFor wsX10_priceFrom := goodIn_r _ [45, 46, 4, 5, 6] (by decide +kernel) (by decide +kernel)
set_option maxRecDepth 20000 in
theorem gX3_priceFor_X10_priceFrom_u100X10 : GoodIn wsX3_priceFor (va_wsO RX3 100 RX10 "SeenAgain$Visitor" ⟨"SeenAgain$Visitor", "priceFrom", "(IZ)I"⟩ yX10_priceFrom wsX10_priceFrom) := goodIn_app (goodIn_of _ (by decide +kernel)) ggX3_priceFor_X10_priceFrom
theorem dX3_priceFor_0 : decode cX3_priceFor 0 = .ok (.aload_n 0, 1) := by decide +kernel
theorem dX3_priceFor_1 : decode cX3_priceFor 1 = .ok (.getfield 69, 3) := by decide +kernel
theorem dX3_priceFor_4 : decode cX3_priceFor 4 = .ok (.iload_n 3, 1) := by decide +kernel
theorem dX3_priceFor_5 : decode cX3_priceFor 5 = .ok (.invokestatic 78, 3) := by decide +kernel
theorem dX3_priceFor_8 : decode cX3_priceFor 8 = .ok (.ifCond .eq 7, 3) := by decide +kernel
theorem dX3_priceFor_11 : decode cX3_priceFor 11 = .ok (.iconst 2, 1) := by decide +kernel
theorem dX3_priceFor_12 : decode cX3_priceFor 12 = .ok (.goto 4, 3) := by decide +kernel
theorem dX3_priceFor_15 : decode cX3_priceFor 15 = .ok (.iconst 0, 1) := by decide +kernel
theorem dX3_priceFor_16 : decode cX3_priceFor 16 = .ok (.istore 4, 2) := by decide +kernel
theorem dX3_priceFor_18 : decode cX3_priceFor 18 = .ok (.iconst 0, 1) := by decide +kernel
theorem dX3_priceFor_19 : decode cX3_priceFor 19 = .ok (.aload_n 0, 1) := by decide +kernel
theorem dX3_priceFor_20 : decode cX3_priceFor 20 = .ok (.getfield 60, 3) := by decide +kernel
theorem dX3_priceFor_23 : decode cX3_priceFor 23 = .ok (.aload_n 0, 1) := by decide +kernel
theorem dX3_priceFor_24 : decode cX3_priceFor 24 = .ok (.iload_n 2, 1) := by decide +kernel
theorem dX3_priceFor_25 : decode cX3_priceFor 25 = .ok (.iload_n 3, 1) := by decide +kernel
theorem dX3_priceFor_26 : decode cX3_priceFor 26 = .ok (.invokevirtual 92, 3) := by decide +kernel
theorem dX3_priceFor_29 : decode cX3_priceFor 29 = .ok (.iadd, 1) := by decide +kernel
theorem dX3_priceFor_30 : decode cX3_priceFor 30 = .ok (.iload 4, 2) := by decide +kernel
theorem dX3_priceFor_32 : decode cX3_priceFor 32 = .ok (.isub, 1) := by decide +kernel
theorem dX3_priceFor_33 : decode cX3_priceFor 33 = .ok (.invokestatic 95, 3) := by decide +kernel
theorem dX3_priceFor_36 : decode cX3_priceFor 36 = .ok (.istore 5, 2) := by decide +kernel
theorem dX3_priceFor_38 : decode cX3_priceFor 38 = .ok (.aload_n 0, 1) := by decide +kernel
theorem dX3_priceFor_39 : decode cX3_priceFor 39 = .ok (.getfield 42, 3) := by decide +kernel
theorem dX3_priceFor_42 : decode cX3_priceFor 42 = .ok (.ifCond .le 17, 3) := by decide +kernel
theorem dX3_priceFor_45 : decode cX3_priceFor 45 = .ok (.aload_n 0, 1) := by decide +kernel
theorem dX3_priceFor_46 : decode cX3_priceFor 46 = .ok (.getfield 21, 3) := by decide +kernel
theorem dX3_priceFor_49 : decode cX3_priceFor 49 = .ok (.iload_n 3, 1) := by decide +kernel
theorem dX3_priceFor_50 : decode cX3_priceFor 50 = .ok (.iaload, 1) := by decide +kernel
theorem dX3_priceFor_51 : decode cX3_priceFor 51 = .ok (.iload_n 2, 1) := by decide +kernel
theorem dX3_priceFor_52 : decode cX3_priceFor 52 = .ok (.if_icmp .ne 7, 3) := by decide +kernel
theorem dX3_priceFor_55 : decode cX3_priceFor 55 = .ok (.iconst 1, 1) := by decide +kernel
theorem dX3_priceFor_56 : decode cX3_priceFor 56 = .ok (.goto 4, 3) := by decide +kernel
theorem dX3_priceFor_59 : decode cX3_priceFor 59 = .ok (.iconst 0, 1) := by decide +kernel
theorem dX3_priceFor_60 : decode cX3_priceFor 60 = .ok (.istore 6, 2) := by decide +kernel
theorem dX3_priceFor_62 : decode cX3_priceFor 62 = .ok (.aload_n 0, 1) := by decide +kernel
theorem dX3_priceFor_63 : decode cX3_priceFor 63 = .ok (.getfield 29, 3) := by decide +kernel
theorem dX3_priceFor_66 : decode cX3_priceFor 66 = .ok (.iload_n 1, 1) := by decide +kernel
theorem dX3_priceFor_67 : decode cX3_priceFor 67 = .ok (.aaload, 1) := by decide +kernel
theorem dX3_priceFor_68 : decode cX3_priceFor 68 = .ok (.iload 5, 2) := by decide +kernel
theorem dX3_priceFor_70 : decode cX3_priceFor 70 = .ok (.iload 6, 2) := by decide +kernel
theorem dX3_priceFor_72 : decode cX3_priceFor 72 = .ok (.invokevirtual 100, 3) := by decide +kernel
theorem dX3_priceFor_75 : decode cX3_priceFor 75 = .ok (.ireturn, 1) := by decide +kernel
set_option maxRecDepth 20000 in
theorem ggX3_canBuy_X3_isLeft : GoodIn wsX3_canBuy wsX3_isLeft := goodIn_r _ [7, 8, 9, 10, 11, 6, 12, 13, 14, 15, 16, 17, 18, 19, 20, 21, 22, 23, 66, 67, 68, 69, 70, 71, 72, 73, 74, 75, 76, 77, 78, 79, 80] (by decide +kernel) (by decide +kernel)
set_option maxRecDepth 20000 in
theorem gX3_canBuy_X3_isLeft : GoodIn wsX3_canBuy (wsV RX3 104 RX3 yX3_isLeft wsX3_isLeft) := goodIn_app (goodIn_of _ (by decide +kernel)) ggX3_canBuy_X3_isLeft
set_option maxRecDepth 20000 in
theorem ggX3_canBuy_X3_priceFor : GoodIn wsX3_canBuy wsX3_priceFor := goodIn_r _ [27, 28, 29, 30, 31, 32, 33, 34, 35, 36, 37, 15, 38, 9, 10, 11, 6, 12, 13, 14, 16, 17, 18, 19, 20, 21, 22, 23, 39, 40, 41, 42, 43, 44, 45, 46, 47, 48, 49, 50, 51, 52, 53, 54, 55, 56, 57, 58, 59, 60, 61, 62, 63, 64, 65, 66, 67, 68, 69, 70, 71, 72, 73, 74, 75, 76, 77, 78, 79, 80] (by decide +kernel) (by decide +kernel)
set_option maxRecDepth 20000 in
theorem gX3_canBuy_X3_priceFor : GoodIn wsX3_canBuy (wsV RX3 107 RX3 yX3_priceFor wsX3_priceFor) := goodIn_app (goodIn_of _ (by decide +kernel)) ggX3_canBuy_X3_priceFor
theorem dX3_canBuy_0 : decode cX3_canBuy 0 = .ok (.aload_n 0, 1) := by decide +kernel
theorem dX3_canBuy_1 : decode cX3_canBuy 1 = .ok (.iload_n 2, 1) := by decide +kernel
theorem dX3_canBuy_2 : decode cX3_canBuy 2 = .ok (.iload_n 3, 1) := by decide +kernel
theorem dX3_canBuy_3 : decode cX3_canBuy 3 = .ok (.invokevirtual 104, 3) := by decide +kernel
theorem dX3_canBuy_6 : decode cX3_canBuy 6 = .ok (.ifCond .eq 32, 3) := by decide +kernel
theorem dX3_canBuy_9 : decode cX3_canBuy 9 = .ok (.aload_n 0, 1) := by decide +kernel
theorem dX3_canBuy_10 : decode cX3_canBuy 10 = .ok (.getfield 63, 3) := by decide +kernel
theorem dX3_canBuy_13 : decode cX3_canBuy 13 = .ok (.bipush 24, 2) := by decide +kernel
theorem dX3_canBuy_15 : decode cX3_canBuy 15 = .ok (.if_icmp .ge 23, 3) := by decide +kernel
theorem dX3_canBuy_18 : decode cX3_canBuy 18 = .ok (.aload_n 0, 1) := by decide +kernel
theorem dX3_canBuy_19 : decode cX3_canBuy 19 = .ok (.iload_n 1, 1) := by decide +kernel
theorem dX3_canBuy_20 : decode cX3_canBuy 20 = .ok (.iload_n 2, 1) := by decide +kernel
theorem dX3_canBuy_21 : decode cX3_canBuy 21 = .ok (.iload_n 3, 1) := by decide +kernel
theorem dX3_canBuy_22 : decode cX3_canBuy 22 = .ok (.invokevirtual 107, 3) := by decide +kernel
theorem dX3_canBuy_25 : decode cX3_canBuy 25 = .ok (.aload_n 0, 1) := by decide +kernel
theorem dX3_canBuy_26 : decode cX3_canBuy 26 = .ok (.getfield 24, 3) := by decide +kernel
theorem dX3_canBuy_29 : decode cX3_canBuy 29 = .ok (.iload_n 1, 1) := by decide +kernel
theorem dX3_canBuy_30 : decode cX3_canBuy 30 = .ok (.iaload, 1) := by decide +kernel
theorem dX3_canBuy_31 : decode cX3_canBuy 31 = .ok (.if_icmp .gt 7, 3) := by decide +kernel
theorem dX3_canBuy_34 : decode cX3_canBuy 34 = .ok (.iconst 1, 1) := by decide +kernel
theorem dX3_canBuy_35 : decode cX3_canBuy 35 = .ok (.goto 4, 3) := by decide +kernel
theorem dX3_canBuy_38 : decode cX3_canBuy 38 = .ok (.iconst 0, 1) := by decide +kernel
theorem dX3_canBuy_39 : decode cX3_canBuy 39 = .ok (.ireturn, 1) := by decide +kernel
set_option maxRecDepth 20000 in
theorem ggX3_takeSeat_X11_seatNumber : GoodIn wsX3_takeSeat wsX11_seatNumber := goodIn_r _ [6] (by decide +kernel) (by decide +kernel)
set_option maxRecDepth 20000 in
theorem gX3_takeSeat_X11_seatNumber_n82 : GoodIn wsX3_takeSeat (wsX11_seatNumber) := ggX3_takeSeat_X11_seatNumber
theorem dX3_takeSeat_0 : decode cX3_takeSeat 0 = .ok (.aload_n 0, 1) := by decide +kernel
theorem dX3_takeSeat_1 : decode cX3_takeSeat 1 = .ok (.getfield 18, 3) := by decide +kernel
theorem dX3_takeSeat_4 : decode cX3_takeSeat 4 = .ok (.iload_n 2, 1) := by decide +kernel
theorem dX3_takeSeat_5 : decode cX3_takeSeat 5 = .ok (.iload_n 3, 1) := by decide +kernel
theorem dX3_takeSeat_6 : decode cX3_takeSeat 6 = .ok (.invokestatic 82, 3) := by decide +kernel
theorem dX3_takeSeat_9 : decode cX3_takeSeat 9 = .ok (.dup2, 1) := by decide +kernel
theorem dX3_takeSeat_10 : decode cX3_takeSeat 10 = .ok (.iaload, 1) := by decide +kernel
theorem dX3_takeSeat_11 : decode cX3_takeSeat 11 = .ok (.iconst 1, 1) := by decide +kernel
theorem dX3_takeSeat_12 : decode cX3_takeSeat 12 = .ok (.iload_n 1, 1) := by decide +kernel
theorem dX3_takeSeat_13 : decode cX3_takeSeat 13 = .ok (.ishl, 1) := by decide +kernel
theorem dX3_takeSeat_14 : decode cX3_takeSeat 14 = .ok (.ior, 1) := by decide +kernel
theorem dX3_takeSeat_15 : decode cX3_takeSeat 15 = .ok (.iastore, 1) := by decide +kernel
theorem dX3_takeSeat_16 : decode cX3_takeSeat 16 = .ok (.aload_n 0, 1) := by decide +kernel
theorem dX3_takeSeat_17 : decode cX3_takeSeat 17 = .ok (.dup, 1) := by decide +kernel
theorem dX3_takeSeat_18 : decode cX3_takeSeat 18 = .ok (.getfield 63, 3) := by decide +kernel
theorem dX3_takeSeat_21 : decode cX3_takeSeat 21 = .ok (.iconst 1, 1) := by decide +kernel
theorem dX3_takeSeat_22 : decode cX3_takeSeat 22 = .ok (.iadd, 1) := by decide +kernel
theorem dX3_takeSeat_23 : decode cX3_takeSeat 23 = .ok (.putfield 63, 3) := by decide +kernel
theorem dX3_takeSeat_26 : decode cX3_takeSeat 26 = .ok (.aload_n 0, 1) := by decide +kernel
theorem dX3_takeSeat_27 : decode cX3_takeSeat 27 = .ok (.getfield 24, 3) := by decide +kernel
theorem dX3_takeSeat_30 : decode cX3_takeSeat 30 = .ok (.iload_n 1, 1) := by decide +kernel
theorem dX3_takeSeat_31 : decode cX3_takeSeat 31 = .ok (.dup2, 1) := by decide +kernel
theorem dX3_takeSeat_32 : decode cX3_takeSeat 32 = .ok (.iaload, 1) := by decide +kernel
theorem dX3_takeSeat_33 : decode cX3_takeSeat 33 = .ok (.iload 4, 2) := by decide +kernel
theorem dX3_takeSeat_35 : decode cX3_takeSeat 35 = .ok (.isub, 1) := by decide +kernel
theorem dX3_takeSeat_36 : decode cX3_takeSeat 36 = .ok (.iastore, 1) := by decide +kernel
theorem dX3_takeSeat_37 : decode cX3_takeSeat 37 = .ok (.return_, 1) := by decide +kernel
set_option maxRecDepth 20000 in
theorem ggX3_leaveSeat_X11_seatNumber : GoodIn wsX3_leaveSeat wsX11_seatNumber := goodIn_r _ [6] (by decide +kernel) (by decide +kernel)
set_option maxRecDepth 20000 in
theorem gX3_leaveSeat_X11_seatNumber_n82 : GoodIn wsX3_leaveSeat (wsX11_seatNumber) := ggX3_leaveSeat_X11_seatNumber
theorem dX3_leaveSeat_0 : decode cX3_leaveSeat 0 = .ok (.aload_n 0, 1) := by decide +kernel
theorem dX3_leaveSeat_1 : decode cX3_leaveSeat 1 = .ok (.getfield 18, 3) := by decide +kernel
theorem dX3_leaveSeat_4 : decode cX3_leaveSeat 4 = .ok (.iload_n 2, 1) := by decide +kernel
theorem dX3_leaveSeat_5 : decode cX3_leaveSeat 5 = .ok (.iload_n 3, 1) := by decide +kernel
theorem dX3_leaveSeat_6 : decode cX3_leaveSeat 6 = .ok (.invokestatic 82, 3) := by decide +kernel
theorem dX3_leaveSeat_9 : decode cX3_leaveSeat 9 = .ok (.dup2, 1) := by decide +kernel
theorem dX3_leaveSeat_10 : decode cX3_leaveSeat 10 = .ok (.iaload, 1) := by decide +kernel
theorem dX3_leaveSeat_11 : decode cX3_leaveSeat 11 = .ok (.iconst 1, 1) := by decide +kernel
theorem dX3_leaveSeat_12 : decode cX3_leaveSeat 12 = .ok (.iload_n 1, 1) := by decide +kernel
theorem dX3_leaveSeat_13 : decode cX3_leaveSeat 13 = .ok (.ishl, 1) := by decide +kernel
theorem dX3_leaveSeat_14 : decode cX3_leaveSeat 14 = .ok (.iconst (-1), 1) := by decide +kernel
theorem dX3_leaveSeat_15 : decode cX3_leaveSeat 15 = .ok (.ixor, 1) := by decide +kernel
theorem dX3_leaveSeat_16 : decode cX3_leaveSeat 16 = .ok (.iand, 1) := by decide +kernel
theorem dX3_leaveSeat_17 : decode cX3_leaveSeat 17 = .ok (.iastore, 1) := by decide +kernel
theorem dX3_leaveSeat_18 : decode cX3_leaveSeat 18 = .ok (.aload_n 0, 1) := by decide +kernel
theorem dX3_leaveSeat_19 : decode cX3_leaveSeat 19 = .ok (.dup, 1) := by decide +kernel
theorem dX3_leaveSeat_20 : decode cX3_leaveSeat 20 = .ok (.getfield 63, 3) := by decide +kernel
theorem dX3_leaveSeat_23 : decode cX3_leaveSeat 23 = .ok (.iconst 1, 1) := by decide +kernel
theorem dX3_leaveSeat_24 : decode cX3_leaveSeat 24 = .ok (.isub, 1) := by decide +kernel
theorem dX3_leaveSeat_25 : decode cX3_leaveSeat 25 = .ok (.putfield 63, 3) := by decide +kernel
theorem dX3_leaveSeat_28 : decode cX3_leaveSeat 28 = .ok (.aload_n 0, 1) := by decide +kernel
theorem dX3_leaveSeat_29 : decode cX3_leaveSeat 29 = .ok (.getfield 24, 3) := by decide +kernel
theorem dX3_leaveSeat_32 : decode cX3_leaveSeat 32 = .ok (.iload_n 1, 1) := by decide +kernel
theorem dX3_leaveSeat_33 : decode cX3_leaveSeat 33 = .ok (.dup2, 1) := by decide +kernel
theorem dX3_leaveSeat_34 : decode cX3_leaveSeat 34 = .ok (.iaload, 1) := by decide +kernel
theorem dX3_leaveSeat_35 : decode cX3_leaveSeat 35 = .ok (.iload 4, 2) := by decide +kernel
theorem dX3_leaveSeat_37 : decode cX3_leaveSeat 37 = .ok (.iadd, 1) := by decide +kernel
theorem dX3_leaveSeat_38 : decode cX3_leaveSeat 38 = .ok (.iastore, 1) := by decide +kernel
theorem dX3_leaveSeat_39 : decode cX3_leaveSeat 39 = .ok (.return_, 1) := by decide +kernel
theorem dX3_seatsOf_0 : decode cX3_seatsOf 0 = .ok (.iconst 0, 1) := by decide +kernel
theorem dX3_seatsOf_1 : decode cX3_seatsOf 1 = .ok (.istore_n 2, 1) := by decide +kernel
theorem dX3_seatsOf_2 : decode cX3_seatsOf 2 = .ok (.aload_n 0, 1) := by decide +kernel
theorem dX3_seatsOf_3 : decode cX3_seatsOf 3 = .ok (.getfield 18, 3) := by decide +kernel
theorem dX3_seatsOf_6 : decode cX3_seatsOf 6 = .ok (.astore_n 3, 1) := by decide +kernel
theorem dX3_seatsOf_7 : decode cX3_seatsOf 7 = .ok (.aload_n 3, 1) := by decide +kernel
theorem dX3_seatsOf_8 : decode cX3_seatsOf 8 = .ok (.arraylength, 1) := by decide +kernel
theorem dX3_seatsOf_9 : decode cX3_seatsOf 9 = .ok (.istore 4, 2) := by decide +kernel
theorem dX3_seatsOf_11 : decode cX3_seatsOf 11 = .ok (.iconst 0, 1) := by decide +kernel
theorem dX3_seatsOf_12 : decode cX3_seatsOf 12 = .ok (.istore 5, 2) := by decide +kernel
theorem dX3_seatsOf_14 : decode cX3_seatsOf 14 = .ok (.iload 5, 2) := by decide +kernel
theorem dX3_seatsOf_16 : decode cX3_seatsOf 16 = .ok (.iload 4, 2) := by decide +kernel
theorem dX3_seatsOf_18 : decode cX3_seatsOf 18 = .ok (.if_icmp .ge 24, 3) := by decide +kernel
theorem dX3_seatsOf_21 : decode cX3_seatsOf 21 = .ok (.aload_n 3, 1) := by decide +kernel
theorem dX3_seatsOf_22 : decode cX3_seatsOf 22 = .ok (.iload 5, 2) := by decide +kernel
theorem dX3_seatsOf_24 : decode cX3_seatsOf 24 = .ok (.iaload, 1) := by decide +kernel
theorem dX3_seatsOf_25 : decode cX3_seatsOf 25 = .ok (.istore 6, 2) := by decide +kernel
theorem dX3_seatsOf_27 : decode cX3_seatsOf 27 = .ok (.iload_n 2, 1) := by decide +kernel
theorem dX3_seatsOf_28 : decode cX3_seatsOf 28 = .ok (.iload 6, 2) := by decide +kernel
theorem dX3_seatsOf_30 : decode cX3_seatsOf 30 = .ok (.iload_n 1, 1) := by decide +kernel
theorem dX3_seatsOf_31 : decode cX3_seatsOf 31 = .ok (.ishr, 1) := by decide +kernel
theorem dX3_seatsOf_32 : decode cX3_seatsOf 32 = .ok (.iconst 1, 1) := by decide +kernel
theorem dX3_seatsOf_33 : decode cX3_seatsOf 33 = .ok (.iand, 1) := by decide +kernel
theorem dX3_seatsOf_34 : decode cX3_seatsOf 34 = .ok (.iadd, 1) := by decide +kernel
theorem dX3_seatsOf_35 : decode cX3_seatsOf 35 = .ok (.istore_n 2, 1) := by decide +kernel
theorem dX3_seatsOf_36 : decode cX3_seatsOf 36 = .ok (.iinc 5 1, 3) := by decide +kernel
theorem dX3_seatsOf_39 : decode cX3_seatsOf 39 = .ok (.goto (-25), 3) := by decide +kernel
theorem dX3_seatsOf_42 : decode cX3_seatsOf 42 = .ok (.iload_n 2, 1) := by decide +kernel
theorem dX3_seatsOf_43 : decode cX3_seatsOf 43 = .ok (.ireturn, 1) := by decide +kernel
set_option maxRecDepth 20000 in
theorem ggX3_soldOutAt_X3_isLeft : GoodIn wsX3_soldOutAt wsX3_isLeft := goodIn_r _ [7, 8, 9, 10, 11, 6, 12, 13, 14, 15, 16, 17, 18, 19, 20, 21, 22, 23, 24, 25, 26, 27, 28, 29, 30, 31, 32, 33, 34, 35, 36, 37, 38] (by decide +kernel) (by decide +kernel)
set_option maxRecDepth 20000 in
theorem gX3_soldOutAt_X3_isLeft : GoodIn wsX3_soldOutAt (wsV RX3 104 RX3 yX3_isLeft wsX3_isLeft) := goodIn_app (goodIn_of _ (by decide +kernel)) ggX3_soldOutAt_X3_isLeft
set_option maxRecDepth 20000 in
theorem ggX3_soldOutAt_X11_seatNumber : GoodIn wsX3_soldOutAt wsX11_seatNumber := goodIn_r _ [16] (by decide +kernel) (by decide +kernel)
set_option maxRecDepth 20000 in
theorem gX3_soldOutAt_X11_seatNumber_n82 : GoodIn wsX3_soldOutAt (wsX11_seatNumber) := ggX3_soldOutAt_X11_seatNumber
theorem dX3_soldOutAt_0 : decode cX3_soldOutAt 0 = .ok (.iconst 0, 1) := by decide +kernel
theorem dX3_soldOutAt_1 : decode cX3_soldOutAt 1 = .ok (.istore_n 2, 1) := by decide +kernel
theorem dX3_soldOutAt_2 : decode cX3_soldOutAt 2 = .ok (.iconst 0, 1) := by decide +kernel
theorem dX3_soldOutAt_3 : decode cX3_soldOutAt 3 = .ok (.istore_n 3, 1) := by decide +kernel
theorem dX3_soldOutAt_4 : decode cX3_soldOutAt 4 = .ok (.iload_n 3, 1) := by decide +kernel
theorem dX3_soldOutAt_5 : decode cX3_soldOutAt 5 = .ok (.bipush 8, 2) := by decide +kernel
theorem dX3_soldOutAt_7 : decode cX3_soldOutAt 7 = .ok (.if_icmp .ge 52, 3) := by decide +kernel
theorem dX3_soldOutAt_10 : decode cX3_soldOutAt 10 = .ok (.iconst 0, 1) := by decide +kernel
theorem dX3_soldOutAt_11 : decode cX3_soldOutAt 11 = .ok (.istore 4, 2) := by decide +kernel
theorem dX3_soldOutAt_13 : decode cX3_soldOutAt 13 = .ok (.iload 4, 2) := by decide +kernel
theorem dX3_soldOutAt_15 : decode cX3_soldOutAt 15 = .ok (.aload_n 0, 1) := by decide +kernel
theorem dX3_soldOutAt_16 : decode cX3_soldOutAt 16 = .ok (.getfield 54, 3) := by decide +kernel
theorem dX3_soldOutAt_19 : decode cX3_soldOutAt 19 = .ok (.if_icmp .ge 34, 3) := by decide +kernel
theorem dX3_soldOutAt_22 : decode cX3_soldOutAt 22 = .ok (.aload_n 0, 1) := by decide +kernel
theorem dX3_soldOutAt_23 : decode cX3_soldOutAt 23 = .ok (.iload 4, 2) := by decide +kernel
theorem dX3_soldOutAt_25 : decode cX3_soldOutAt 25 = .ok (.iload_n 3, 1) := by decide +kernel
theorem dX3_soldOutAt_26 : decode cX3_soldOutAt 26 = .ok (.invokevirtual 104, 3) := by decide +kernel
theorem dX3_soldOutAt_29 : decode cX3_soldOutAt 29 = .ok (.ifCond .ne 18, 3) := by decide +kernel
theorem dX3_soldOutAt_32 : decode cX3_soldOutAt 32 = .ok (.iload_n 2, 1) := by decide +kernel
theorem dX3_soldOutAt_33 : decode cX3_soldOutAt 33 = .ok (.iload_n 1, 1) := by decide +kernel
theorem dX3_soldOutAt_34 : decode cX3_soldOutAt 34 = .ok (.if_icmp .ne 10, 3) := by decide +kernel
theorem dX3_soldOutAt_37 : decode cX3_soldOutAt 37 = .ok (.iload 4, 2) := by decide +kernel
theorem dX3_soldOutAt_39 : decode cX3_soldOutAt 39 = .ok (.iload_n 3, 1) := by decide +kernel
theorem dX3_soldOutAt_40 : decode cX3_soldOutAt 40 = .ok (.invokestatic 82, 3) := by decide +kernel
theorem dX3_soldOutAt_43 : decode cX3_soldOutAt 43 = .ok (.ireturn, 1) := by decide +kernel
theorem dX3_soldOutAt_44 : decode cX3_soldOutAt 44 = .ok (.iinc 2 1, 3) := by decide +kernel
theorem dX3_soldOutAt_47 : decode cX3_soldOutAt 47 = .ok (.iinc 4 1, 3) := by decide +kernel
theorem dX3_soldOutAt_50 : decode cX3_soldOutAt 50 = .ok (.goto (-37), 3) := by decide +kernel
theorem dX3_soldOutAt_53 : decode cX3_soldOutAt 53 = .ok (.iinc 3 1, 3) := by decide +kernel
theorem dX3_soldOutAt_56 : decode cX3_soldOutAt 56 = .ok (.goto (-52), 3) := by decide +kernel
theorem dX3_soldOutAt_59 : decode cX3_soldOutAt 59 = .ok (.iload_n 1, 1) := by decide +kernel
theorem dX3_soldOutAt_60 : decode cX3_soldOutAt 60 = .ok (.iconst (-1), 1) := by decide +kernel
theorem dX3_soldOutAt_61 : decode cX3_soldOutAt 61 = .ok (.if_icmp .ne 7, 3) := by decide +kernel
theorem dX3_soldOutAt_64 : decode cX3_soldOutAt 64 = .ok (.iload_n 2, 1) := by decide +kernel
theorem dX3_soldOutAt_65 : decode cX3_soldOutAt 65 = .ok (.goto 5, 3) := by decide +kernel
theorem dX3_soldOutAt_68 : decode cX3_soldOutAt 68 = .ok (.ldc 111, 2) := by decide +kernel
theorem dX3_soldOutAt_70 : decode cX3_soldOutAt 70 = .ok (.ireturn, 1) := by decide +kernel
set_option maxRecDepth 20000 in
theorem ggX3_mostHeld_X3_heldOf : GoodIn wsX3_mostHeld wsX3_heldOf := goodIn_r _ [6, 7, 8, 9, 10, 11, 12, 13, 14, 15, 16, 17, 18, 19, 20, 21, 22, 23, 24, 25, 26, 27, 28, 29, 30, 31, 32] (by decide +kernel) (by decide +kernel)
set_option maxRecDepth 20000 in
theorem gX3_mostHeld_X3_heldOf : GoodIn wsX3_mostHeld (wsV RX3 92 RX3 yX3_heldOf wsX3_heldOf) := goodIn_app (goodIn_of _ (by decide +kernel)) ggX3_mostHeld_X3_heldOf
set_option maxRecDepth 20000 in
theorem ggX3_mostHeld_X11_seatNumber : GoodIn wsX3_mostHeld wsX11_seatNumber := goodIn_r _ [10] (by decide +kernel) (by decide +kernel)
set_option maxRecDepth 20000 in
theorem gX3_mostHeld_X11_seatNumber_n82 : GoodIn wsX3_mostHeld (wsX11_seatNumber) := ggX3_mostHeld_X11_seatNumber
theorem dX3_mostHeld_0 : decode cX3_mostHeld 0 = .ok (.iconst 0, 1) := by decide +kernel
theorem dX3_mostHeld_1 : decode cX3_mostHeld 1 = .ok (.istore_n 1, 1) := by decide +kernel
theorem dX3_mostHeld_2 : decode cX3_mostHeld 2 = .ok (.iconst 0, 1) := by decide +kernel
theorem dX3_mostHeld_3 : decode cX3_mostHeld 3 = .ok (.istore_n 2, 1) := by decide +kernel
theorem dX3_mostHeld_4 : decode cX3_mostHeld 4 = .ok (.iconst 0, 1) := by decide +kernel
theorem dX3_mostHeld_5 : decode cX3_mostHeld 5 = .ok (.istore_n 3, 1) := by decide +kernel
theorem dX3_mostHeld_6 : decode cX3_mostHeld 6 = .ok (.iload_n 3, 1) := by decide +kernel
theorem dX3_mostHeld_7 : decode cX3_mostHeld 7 = .ok (.bipush 8, 2) := by decide +kernel
theorem dX3_mostHeld_9 : decode cX3_mostHeld 9 = .ok (.if_icmp .ge 53, 3) := by decide +kernel
theorem dX3_mostHeld_12 : decode cX3_mostHeld 12 = .ok (.iconst 0, 1) := by decide +kernel
theorem dX3_mostHeld_13 : decode cX3_mostHeld 13 = .ok (.istore 4, 2) := by decide +kernel
theorem dX3_mostHeld_15 : decode cX3_mostHeld 15 = .ok (.iload 4, 2) := by decide +kernel
theorem dX3_mostHeld_17 : decode cX3_mostHeld 17 = .ok (.aload_n 0, 1) := by decide +kernel
theorem dX3_mostHeld_18 : decode cX3_mostHeld 18 = .ok (.getfield 54, 3) := by decide +kernel
theorem dX3_mostHeld_21 : decode cX3_mostHeld 21 = .ok (.if_icmp .ge 35, 3) := by decide +kernel
theorem dX3_mostHeld_24 : decode cX3_mostHeld 24 = .ok (.aload_n 0, 1) := by decide +kernel
theorem dX3_mostHeld_25 : decode cX3_mostHeld 25 = .ok (.iload 4, 2) := by decide +kernel
theorem dX3_mostHeld_27 : decode cX3_mostHeld 27 = .ok (.iload_n 3, 1) := by decide +kernel
theorem dX3_mostHeld_28 : decode cX3_mostHeld 28 = .ok (.invokevirtual 92, 3) := by decide +kernel
theorem dX3_mostHeld_31 : decode cX3_mostHeld 31 = .ok (.iload_n 1, 1) := by decide +kernel
theorem dX3_mostHeld_32 : decode cX3_mostHeld 32 = .ok (.if_icmp .le 18, 3) := by decide +kernel
theorem dX3_mostHeld_35 : decode cX3_mostHeld 35 = .ok (.aload_n 0, 1) := by decide +kernel
theorem dX3_mostHeld_36 : decode cX3_mostHeld 36 = .ok (.iload 4, 2) := by decide +kernel
theorem dX3_mostHeld_38 : decode cX3_mostHeld 38 = .ok (.iload_n 3, 1) := by decide +kernel
theorem dX3_mostHeld_39 : decode cX3_mostHeld 39 = .ok (.invokevirtual 92, 3) := by decide +kernel
theorem dX3_mostHeld_42 : decode cX3_mostHeld 42 = .ok (.istore_n 1, 1) := by decide +kernel
theorem dX3_mostHeld_43 : decode cX3_mostHeld 43 = .ok (.iload 4, 2) := by decide +kernel
theorem dX3_mostHeld_45 : decode cX3_mostHeld 45 = .ok (.iload_n 3, 1) := by decide +kernel
theorem dX3_mostHeld_46 : decode cX3_mostHeld 46 = .ok (.invokestatic 82, 3) := by decide +kernel
theorem dX3_mostHeld_49 : decode cX3_mostHeld 49 = .ok (.istore_n 2, 1) := by decide +kernel
theorem dX3_mostHeld_50 : decode cX3_mostHeld 50 = .ok (.iinc 4 1, 3) := by decide +kernel
theorem dX3_mostHeld_53 : decode cX3_mostHeld 53 = .ok (.goto (-38), 3) := by decide +kernel
theorem dX3_mostHeld_56 : decode cX3_mostHeld 56 = .ok (.iinc 3 1, 3) := by decide +kernel
theorem dX3_mostHeld_59 : decode cX3_mostHeld 59 = .ok (.goto (-53), 3) := by decide +kernel
theorem dX3_mostHeld_62 : decode cX3_mostHeld 62 = .ok (.iload_n 2, 1) := by decide +kernel
theorem dX3_mostHeld_63 : decode cX3_mostHeld 63 = .ok (.ireturn, 1) := by decide +kernel
set_option maxRecDepth 20000 in
theorem ggX3_lookedBy_X11_seatNumber : GoodIn wsX3_lookedBy wsX11_seatNumber := goodIn_r _ [5] (by decide +kernel) (by decide +kernel)
set_option maxRecDepth 20000 in
theorem gX3_lookedBy_X11_seatNumber_n82 : GoodIn wsX3_lookedBy (wsX11_seatNumber) := ggX3_lookedBy_X11_seatNumber
set_option maxRecDepth 20000 in
theorem ggX3_lookedBy_X3_viewOf : GoodIn wsX3_lookedBy wsX3_viewOf := goodIn_r _ [10, 11, 12, 3, 4, 5, 13, 14, 15, 16, 17, 18, 19, 20, 21, 22, 23, 24, 25, 26, 27] (by decide +kernel) (by decide +kernel)
set_option maxRecDepth 20000 in
theorem gX3_lookedBy_X3_viewOf : GoodIn wsX3_lookedBy (wsV RX3 112 RX3 yX3_viewOf wsX3_viewOf) := goodIn_app (goodIn_of _ (by decide +kernel)) ggX3_lookedBy_X3_viewOf
theorem dX3_lookedBy_0 : decode cX3_lookedBy 0 = .ok (.iconst 0, 1) := by decide +kernel
theorem dX3_lookedBy_1 : decode cX3_lookedBy 1 = .ok (.istore_n 3, 1) := by decide +kernel
theorem dX3_lookedBy_2 : decode cX3_lookedBy 2 = .ok (.iconst 0, 1) := by decide +kernel
theorem dX3_lookedBy_3 : decode cX3_lookedBy 3 = .ok (.istore 4, 2) := by decide +kernel
theorem dX3_lookedBy_5 : decode cX3_lookedBy 5 = .ok (.iload 4, 2) := by decide +kernel
theorem dX3_lookedBy_7 : decode cX3_lookedBy 7 = .ok (.aload_n 0, 1) := by decide +kernel
theorem dX3_lookedBy_8 : decode cX3_lookedBy 8 = .ok (.getfield 54, 3) := by decide +kernel
theorem dX3_lookedBy_11 : decode cX3_lookedBy 11 = .ok (.if_icmp .ge 35, 3) := by decide +kernel
theorem dX3_lookedBy_14 : decode cX3_lookedBy 14 = .ok (.aload_n 0, 1) := by decide +kernel
theorem dX3_lookedBy_15 : decode cX3_lookedBy 15 = .ok (.getfield 18, 3) := by decide +kernel
theorem dX3_lookedBy_18 : decode cX3_lookedBy 18 = .ok (.iload 4, 2) := by decide +kernel
theorem dX3_lookedBy_20 : decode cX3_lookedBy 20 = .ok (.iload_n 2, 1) := by decide +kernel
theorem dX3_lookedBy_21 : decode cX3_lookedBy 21 = .ok (.invokestatic 82, 3) := by decide +kernel
theorem dX3_lookedBy_24 : decode cX3_lookedBy 24 = .ok (.iaload, 1) := by decide +kernel
theorem dX3_lookedBy_25 : decode cX3_lookedBy 25 = .ok (.iload_n 1, 1) := by decide +kernel
theorem dX3_lookedBy_26 : decode cX3_lookedBy 26 = .ok (.iand, 1) := by decide +kernel
theorem dX3_lookedBy_27 : decode cX3_lookedBy 27 = .ok (.ifCond .eq 13, 3) := by decide +kernel
theorem dX3_lookedBy_30 : decode cX3_lookedBy 30 = .ok (.iload_n 3, 1) := by decide +kernel
theorem dX3_lookedBy_31 : decode cX3_lookedBy 31 = .ok (.aload_n 0, 1) := by decide +kernel
theorem dX3_lookedBy_32 : decode cX3_lookedBy 32 = .ok (.iload 4, 2) := by decide +kernel
theorem dX3_lookedBy_34 : decode cX3_lookedBy 34 = .ok (.iload_n 2, 1) := by decide +kernel
theorem dX3_lookedBy_35 : decode cX3_lookedBy 35 = .ok (.invokevirtual 112, 3) := by decide +kernel
theorem dX3_lookedBy_38 : decode cX3_lookedBy 38 = .ok (.ior, 1) := by decide +kernel
theorem dX3_lookedBy_39 : decode cX3_lookedBy 39 = .ok (.istore_n 3, 1) := by decide +kernel
theorem dX3_lookedBy_40 : decode cX3_lookedBy 40 = .ok (.iinc 4 1, 3) := by decide +kernel
theorem dX3_lookedBy_43 : decode cX3_lookedBy 43 = .ok (.goto (-38), 3) := by decide +kernel
theorem dX3_lookedBy_46 : decode cX3_lookedBy 46 = .ok (.iload_n 3, 1) := by decide +kernel
theorem dX3_lookedBy_47 : decode cX3_lookedBy 47 = .ok (.ireturn, 1) := by decide +kernel
set_option maxRecDepth 20000 in
theorem ggX3_everLookedBy_X3_lookedBy : GoodIn wsX3_everLookedBy wsX3_lookedBy := goodIn_r _ [5, 6, 7, 8, 9, 10, 11, 12, 13, 4, 14, 15, 16, 17, 18, 19, 20, 21, 22, 23, 24, 25, 26, 27, 28, 29, 30, 31] (by decide +kernel) (by decide +kernel)
set_option maxRecDepth 20000 in
theorem gX3_everLookedBy_X3_lookedBy : GoodIn wsX3_everLookedBy (wsV RX3 115 RX3 yX3_lookedBy wsX3_lookedBy) := goodIn_app (goodIn_of _ (by decide +kernel)) ggX3_everLookedBy_X3_lookedBy
theorem dX3_everLookedBy_0 : decode cX3_everLookedBy 0 = .ok (.iconst 0, 1) := by decide +kernel
theorem dX3_everLookedBy_1 : decode cX3_everLookedBy 1 = .ok (.istore_n 2, 1) := by decide +kernel
theorem dX3_everLookedBy_2 : decode cX3_everLookedBy 2 = .ok (.iconst 0, 1) := by decide +kernel
theorem dX3_everLookedBy_3 : decode cX3_everLookedBy 3 = .ok (.istore_n 3, 1) := by decide +kernel
theorem dX3_everLookedBy_4 : decode cX3_everLookedBy 4 = .ok (.iload_n 3, 1) := by decide +kernel
theorem dX3_everLookedBy_5 : decode cX3_everLookedBy 5 = .ok (.bipush 8, 2) := by decide +kernel
theorem dX3_everLookedBy_7 : decode cX3_everLookedBy 7 = .ok (.if_icmp .ge 20, 3) := by decide +kernel
theorem dX3_everLookedBy_10 : decode cX3_everLookedBy 10 = .ok (.iload_n 2, 1) := by decide +kernel
theorem dX3_everLookedBy_11 : decode cX3_everLookedBy 11 = .ok (.aload_n 0, 1) := by decide +kernel
theorem dX3_everLookedBy_12 : decode cX3_everLookedBy 12 = .ok (.iconst 1, 1) := by decide +kernel
theorem dX3_everLookedBy_13 : decode cX3_everLookedBy 13 = .ok (.iload_n 1, 1) := by decide +kernel
theorem dX3_everLookedBy_14 : decode cX3_everLookedBy 14 = .ok (.ishl, 1) := by decide +kernel
theorem dX3_everLookedBy_15 : decode cX3_everLookedBy 15 = .ok (.iload_n 3, 1) := by decide +kernel
theorem dX3_everLookedBy_16 : decode cX3_everLookedBy 16 = .ok (.invokevirtual 115, 3) := by decide +kernel
theorem dX3_everLookedBy_19 : decode cX3_everLookedBy 19 = .ok (.ior, 1) := by decide +kernel
theorem dX3_everLookedBy_20 : decode cX3_everLookedBy 20 = .ok (.istore_n 2, 1) := by decide +kernel
theorem dX3_everLookedBy_21 : decode cX3_everLookedBy 21 = .ok (.iinc 3 1, 3) := by decide +kernel
theorem dX3_everLookedBy_24 : decode cX3_everLookedBy 24 = .ok (.goto (-20), 3) := by decide +kernel
theorem dX3_everLookedBy_27 : decode cX3_everLookedBy 27 = .ok (.iload_n 2, 1) := by decide +kernel
theorem dX3_everLookedBy_28 : decode cX3_everLookedBy 28 = .ok (.ireturn, 1) := by decide +kernel
theorem dX3_roomOf_0 : decode cX3_roomOf 0 = .ok (.aload_n 0, 1) := by decide +kernel
theorem dX3_roomOf_1 : decode cX3_roomOf 1 = .ok (.getfield 21, 3) := by decide +kernel
theorem dX3_roomOf_4 : decode cX3_roomOf 4 = .ok (.bipush 8, 2) := by decide +kernel
theorem dX3_roomOf_6 : decode cX3_roomOf 6 = .ok (.iload_n 1, 1) := by decide +kernel
theorem dX3_roomOf_7 : decode cX3_roomOf 7 = .ok (.imul, 1) := by decide +kernel
theorem dX3_roomOf_8 : decode cX3_roomOf 8 = .ok (.iload_n 2, 1) := by decide +kernel
theorem dX3_roomOf_9 : decode cX3_roomOf 9 = .ok (.iadd, 1) := by decide +kernel
theorem dX3_roomOf_10 : decode cX3_roomOf 10 = .ok (.iaload, 1) := by decide +kernel
theorem dX3_roomOf_11 : decode cX3_roomOf 11 = .ok (.ireturn, 1) := by decide +kernel
set_option maxRecDepth 20000 in
theorem ggX3_peopleIn_X3_roomOf : GoodIn wsX3_peopleIn wsX3_roomOf := goodIn_r _ [6, 7, 8, 9, 10, 11, 12, 13, 14, 15, 16, 17, 18, 19, 20, 21, 22] (by decide +kernel) (by decide +kernel)
set_option maxRecDepth 20000 in
theorem gX3_peopleIn_X3_roomOf : GoodIn wsX3_peopleIn (wsV RX3 118 RX3 yX3_roomOf wsX3_roomOf) := goodIn_app (goodIn_of _ (by decide +kernel)) ggX3_peopleIn_X3_roomOf
theorem dX3_peopleIn_0 : decode cX3_peopleIn 0 = .ok (.iconst 0, 1) := by decide +kernel
theorem dX3_peopleIn_1 : decode cX3_peopleIn 1 = .ok (.istore_n 3, 1) := by decide +kernel
theorem dX3_peopleIn_2 : decode cX3_peopleIn 2 = .ok (.iconst 0, 1) := by decide +kernel
theorem dX3_peopleIn_3 : decode cX3_peopleIn 3 = .ok (.istore 4, 2) := by decide +kernel
theorem dX3_peopleIn_5 : decode cX3_peopleIn 5 = .ok (.iload 4, 2) := by decide +kernel
theorem dX3_peopleIn_7 : decode cX3_peopleIn 7 = .ok (.aload_n 0, 1) := by decide +kernel
theorem dX3_peopleIn_8 : decode cX3_peopleIn 8 = .ok (.getfield 42, 3) := by decide +kernel
theorem dX3_peopleIn_11 : decode cX3_peopleIn 11 = .ok (.if_icmp .ge 27, 3) := by decide +kernel
theorem dX3_peopleIn_14 : decode cX3_peopleIn 14 = .ok (.aload_n 0, 1) := by decide +kernel
theorem dX3_peopleIn_15 : decode cX3_peopleIn 15 = .ok (.iload 4, 2) := by decide +kernel
theorem dX3_peopleIn_17 : decode cX3_peopleIn 17 = .ok (.iload_n 2, 1) := by decide +kernel
theorem dX3_peopleIn_18 : decode cX3_peopleIn 18 = .ok (.invokevirtual 118, 3) := by decide +kernel
theorem dX3_peopleIn_21 : decode cX3_peopleIn 21 = .ok (.iload_n 1, 1) := by decide +kernel
theorem dX3_peopleIn_22 : decode cX3_peopleIn 22 = .ok (.if_icmp .ne 10, 3) := by decide +kernel
theorem dX3_peopleIn_25 : decode cX3_peopleIn 25 = .ok (.iload_n 3, 1) := by decide +kernel
theorem dX3_peopleIn_26 : decode cX3_peopleIn 26 = .ok (.iconst 1, 1) := by decide +kernel
theorem dX3_peopleIn_27 : decode cX3_peopleIn 27 = .ok (.iload 4, 2) := by decide +kernel
theorem dX3_peopleIn_29 : decode cX3_peopleIn 29 = .ok (.ishl, 1) := by decide +kernel
theorem dX3_peopleIn_30 : decode cX3_peopleIn 30 = .ok (.ior, 1) := by decide +kernel
theorem dX3_peopleIn_31 : decode cX3_peopleIn 31 = .ok (.istore_n 3, 1) := by decide +kernel
theorem dX3_peopleIn_32 : decode cX3_peopleIn 32 = .ok (.iinc 4 1, 3) := by decide +kernel
theorem dX3_peopleIn_35 : decode cX3_peopleIn 35 = .ok (.goto (-30), 3) := by decide +kernel
theorem dX3_peopleIn_38 : decode cX3_peopleIn 38 = .ok (.iload_n 3, 1) := by decide +kernel
theorem dX3_peopleIn_39 : decode cX3_peopleIn 39 = .ok (.ireturn, 1) := by decide +kernel
set_option maxRecDepth 20000 in
theorem ggX3_seenBy_X3_roomOf : GoodIn wsX3_seenBy wsX3_roomOf := goodIn_r _ [6, 7, 25, 26, 27, 28, 29, 30, 31, 32, 33, 34, 35, 36, 37, 38, 39] (by decide +kernel) (by decide +kernel)
set_option maxRecDepth 20000 in
theorem gX3_seenBy_X3_roomOf : GoodIn wsX3_seenBy (wsV RX3 118 RX3 yX3_roomOf wsX3_roomOf) := goodIn_app (goodIn_of _ (by decide +kernel)) ggX3_seenBy_X3_roomOf
set_option maxRecDepth 20000 in
theorem ggX3_seenBy_X3_lookedBy : GoodIn wsX3_seenBy wsX3_lookedBy := goodIn_r _ [11, 12, 13, 14, 15, 16, 17, 18, 19, 5, 20, 21, 22, 25, 26, 27, 28, 29, 30, 31, 32, 33, 34, 35, 36, 37, 38, 39] (by decide +kernel) (by decide +kernel)
set_option maxRecDepth 20000 in
theorem gX3_seenBy_X3_lookedBy : GoodIn wsX3_seenBy (wsV RX3 115 RX3 yX3_lookedBy wsX3_lookedBy) := goodIn_app (goodIn_of _ (by decide +kernel)) ggX3_seenBy_X3_lookedBy
set_option maxRecDepth 20000 in
theorem ggX3_seenBy_X11_has : GoodIn wsX3_seenBy wsX11_has := goodIn_r _ [24] (by decide +kernel) (by decide +kernel)
set_option maxRecDepth 20000 in
theorem gX3_seenBy_X11_has_n78 : GoodIn wsX3_seenBy (wsX11_has) := ggX3_seenBy_X11_has
theorem dX3_seenBy_0 : decode cX3_seenBy 0 = .ok (.aload_n 0, 1) := by decide +kernel
theorem dX3_seenBy_1 : decode cX3_seenBy 1 = .ok (.iload_n 2, 1) := by decide +kernel
theorem dX3_seenBy_2 : decode cX3_seenBy 2 = .ok (.iload_n 3, 1) := by decide +kernel
theorem dX3_seenBy_3 : decode cX3_seenBy 3 = .ok (.invokevirtual 118, 3) := by decide +kernel
theorem dX3_seenBy_6 : decode cX3_seenBy 6 = .ok (.istore 4, 2) := by decide +kernel
theorem dX3_seenBy_8 : decode cX3_seenBy 8 = .ok (.aload_n 0, 1) := by decide +kernel
theorem dX3_seenBy_9 : decode cX3_seenBy 9 = .ok (.iload_n 1, 1) := by decide +kernel
theorem dX3_seenBy_10 : decode cX3_seenBy 10 = .ok (.iload_n 3, 1) := by decide +kernel
theorem dX3_seenBy_11 : decode cX3_seenBy 11 = .ok (.invokevirtual 115, 3) := by decide +kernel
theorem dX3_seenBy_14 : decode cX3_seenBy 14 = .ok (.iload 4, 2) := by decide +kernel
theorem dX3_seenBy_16 : decode cX3_seenBy 16 = .ok (.invokestatic 78, 3) := by decide +kernel
theorem dX3_seenBy_19 : decode cX3_seenBy 19 = .ok (.ifCond .eq 8, 3) := by decide +kernel
theorem dX3_seenBy_22 : decode cX3_seenBy 22 = .ok (.iload 4, 2) := by decide +kernel
theorem dX3_seenBy_24 : decode cX3_seenBy 24 = .ok (.goto 5, 3) := by decide +kernel
theorem dX3_seenBy_27 : decode cX3_seenBy 27 = .ok (.ldc 111, 2) := by decide +kernel
theorem dX3_seenBy_29 : decode cX3_seenBy 29 = .ok (.ireturn, 1) := by decide +kernel
set_option maxRecDepth 20000 in
theorem ggX3_minutesSeen_X3_seenBy : GoodIn wsX3_minutesSeen wsX3_seenBy := goodIn_r _ [6, 1, 7, 8, 9, 5, 10, 11, 12, 13, 14, 15, 16, 17, 18, 19, 20, 21, 22, 23, 24, 25, 26, 27, 28, 29, 30, 31, 32, 33, 34, 35, 36, 37, 38, 39, 40, 41, 42, 43] (by decide +kernel) (by decide +kernel)
set_option maxRecDepth 20000 in
theorem gX3_minutesSeen_X3_seenBy : GoodIn wsX3_minutesSeen (wsV RX3 121 RX3 yX3_seenBy wsX3_seenBy) := goodIn_app (goodIn_of _ (by decide +kernel)) ggX3_minutesSeen_X3_seenBy
theorem dX3_minutesSeen_0 : decode cX3_minutesSeen 0 = .ok (.iconst 0, 1) := by decide +kernel
theorem dX3_minutesSeen_1 : decode cX3_minutesSeen 1 = .ok (.istore_n 3, 1) := by decide +kernel
theorem dX3_minutesSeen_2 : decode cX3_minutesSeen 2 = .ok (.iconst 0, 1) := by decide +kernel
theorem dX3_minutesSeen_3 : decode cX3_minutesSeen 3 = .ok (.istore 4, 2) := by decide +kernel
theorem dX3_minutesSeen_5 : decode cX3_minutesSeen 5 = .ok (.iload 4, 2) := by decide +kernel
theorem dX3_minutesSeen_7 : decode cX3_minutesSeen 7 = .ok (.bipush 8, 2) := by decide +kernel
theorem dX3_minutesSeen_9 : decode cX3_minutesSeen 9 = .ok (.if_icmp .ge 29, 3) := by decide +kernel
theorem dX3_minutesSeen_12 : decode cX3_minutesSeen 12 = .ok (.aload_n 0, 1) := by decide +kernel
theorem dX3_minutesSeen_13 : decode cX3_minutesSeen 13 = .ok (.iload_n 1, 1) := by decide +kernel
theorem dX3_minutesSeen_14 : decode cX3_minutesSeen 14 = .ok (.iload_n 2, 1) := by decide +kernel
theorem dX3_minutesSeen_15 : decode cX3_minutesSeen 15 = .ok (.iload 4, 2) := by decide +kernel
theorem dX3_minutesSeen_17 : decode cX3_minutesSeen 17 = .ok (.invokevirtual 121, 3) := by decide +kernel
theorem dX3_minutesSeen_20 : decode cX3_minutesSeen 20 = .ok (.ldc 111, 2) := by decide +kernel
theorem dX3_minutesSeen_22 : decode cX3_minutesSeen 22 = .ok (.if_icmp .eq 10, 3) := by decide +kernel
theorem dX3_minutesSeen_25 : decode cX3_minutesSeen 25 = .ok (.iload_n 3, 1) := by decide +kernel
theorem dX3_minutesSeen_26 : decode cX3_minutesSeen 26 = .ok (.iconst 1, 1) := by decide +kernel
theorem dX3_minutesSeen_27 : decode cX3_minutesSeen 27 = .ok (.iload 4, 2) := by decide +kernel
theorem dX3_minutesSeen_29 : decode cX3_minutesSeen 29 = .ok (.ishl, 1) := by decide +kernel
theorem dX3_minutesSeen_30 : decode cX3_minutesSeen 30 = .ok (.ior, 1) := by decide +kernel
theorem dX3_minutesSeen_31 : decode cX3_minutesSeen 31 = .ok (.istore_n 3, 1) := by decide +kernel
theorem dX3_minutesSeen_32 : decode cX3_minutesSeen 32 = .ok (.iinc 4 1, 3) := by decide +kernel
theorem dX3_minutesSeen_35 : decode cX3_minutesSeen 35 = .ok (.goto (-30), 3) := by decide +kernel
theorem dX3_minutesSeen_38 : decode cX3_minutesSeen 38 = .ok (.iload_n 3, 1) := by decide +kernel
theorem dX3_minutesSeen_39 : decode cX3_minutesSeen 39 = .ok (.ireturn, 1) := by decide +kernel
set_option maxRecDepth 20000 in
theorem ggX3_minutesTogether_X3_roomOf : GoodIn wsX3_minutesTogether wsX3_roomOf := goodIn_r _ [5, 6, 7, 8, 9, 10, 11, 12, 13, 14, 15, 16, 17, 18, 19, 20, 21] (by decide +kernel) (by decide +kernel)
set_option maxRecDepth 20000 in
theorem gX3_minutesTogether_X3_roomOf : GoodIn wsX3_minutesTogether (wsV RX3 118 RX3 yX3_roomOf wsX3_roomOf) := goodIn_app (goodIn_of _ (by decide +kernel)) ggX3_minutesTogether_X3_roomOf
theorem dX3_minutesTogether_0 : decode cX3_minutesTogether 0 = .ok (.iconst 0, 1) := by decide +kernel
theorem dX3_minutesTogether_1 : decode cX3_minutesTogether 1 = .ok (.istore_n 3, 1) := by decide +kernel
theorem dX3_minutesTogether_2 : decode cX3_minutesTogether 2 = .ok (.iconst 0, 1) := by decide +kernel
theorem dX3_minutesTogether_3 : decode cX3_minutesTogether 3 = .ok (.istore 4, 2) := by decide +kernel
theorem dX3_minutesTogether_5 : decode cX3_minutesTogether 5 = .ok (.iload 4, 2) := by decide +kernel
theorem dX3_minutesTogether_7 : decode cX3_minutesTogether 7 = .ok (.bipush 8, 2) := by decide +kernel
theorem dX3_minutesTogether_9 : decode cX3_minutesTogether 9 = .ok (.if_icmp .ge 33, 3) := by decide +kernel
theorem dX3_minutesTogether_12 : decode cX3_minutesTogether 12 = .ok (.aload_n 0, 1) := by decide +kernel
theorem dX3_minutesTogether_13 : decode cX3_minutesTogether 13 = .ok (.iload_n 1, 1) := by decide +kernel
theorem dX3_minutesTogether_14 : decode cX3_minutesTogether 14 = .ok (.iload 4, 2) := by decide +kernel
theorem dX3_minutesTogether_16 : decode cX3_minutesTogether 16 = .ok (.invokevirtual 118, 3) := by decide +kernel
theorem dX3_minutesTogether_19 : decode cX3_minutesTogether 19 = .ok (.aload_n 0, 1) := by decide +kernel
theorem dX3_minutesTogether_20 : decode cX3_minutesTogether 20 = .ok (.iload_n 2, 1) := by decide +kernel
theorem dX3_minutesTogether_21 : decode cX3_minutesTogether 21 = .ok (.iload 4, 2) := by decide +kernel
theorem dX3_minutesTogether_23 : decode cX3_minutesTogether 23 = .ok (.invokevirtual 118, 3) := by decide +kernel
theorem dX3_minutesTogether_26 : decode cX3_minutesTogether 26 = .ok (.if_icmp .ne 10, 3) := by decide +kernel
theorem dX3_minutesTogether_29 : decode cX3_minutesTogether 29 = .ok (.iload_n 3, 1) := by decide +kernel
theorem dX3_minutesTogether_30 : decode cX3_minutesTogether 30 = .ok (.iconst 1, 1) := by decide +kernel
theorem dX3_minutesTogether_31 : decode cX3_minutesTogether 31 = .ok (.iload 4, 2) := by decide +kernel
theorem dX3_minutesTogether_33 : decode cX3_minutesTogether 33 = .ok (.ishl, 1) := by decide +kernel
theorem dX3_minutesTogether_34 : decode cX3_minutesTogether 34 = .ok (.ior, 1) := by decide +kernel
theorem dX3_minutesTogether_35 : decode cX3_minutesTogether 35 = .ok (.istore_n 3, 1) := by decide +kernel
theorem dX3_minutesTogether_36 : decode cX3_minutesTogether 36 = .ok (.iinc 4 1, 3) := by decide +kernel
theorem dX3_minutesTogether_39 : decode cX3_minutesTogether 39 = .ok (.goto (-34), 3) := by decide +kernel
theorem dX3_minutesTogether_42 : decode cX3_minutesTogether 42 = .ok (.iload_n 3, 1) := by decide +kernel
theorem dX3_minutesTogether_43 : decode cX3_minutesTogether 43 = .ok (.ireturn, 1) := by decide +kernel
set_option maxRecDepth 20000 in
theorem ggX3_canBeIn_X3_lookedBy : GoodIn wsX3_canBeIn wsX3_lookedBy := goodIn_r _ [5, 6, 7, 8, 9, 10, 11, 12, 13, 4, 14, 15, 16, 24, 25, 26, 27, 28, 29, 30, 31, 32, 33, 34, 35, 36, 37, 38] (by decide +kernel) (by decide +kernel)
set_option maxRecDepth 20000 in
theorem gX3_canBeIn_X3_lookedBy : GoodIn wsX3_canBeIn (wsV RX3 115 RX3 yX3_lookedBy wsX3_lookedBy) := goodIn_app (goodIn_of _ (by decide +kernel)) ggX3_canBeIn_X3_lookedBy
set_option maxRecDepth 20000 in
theorem ggX3_canBeIn_X3_roomOf : GoodIn wsX3_canBeIn wsX3_roomOf := goodIn_r _ [20, 21, 24, 25, 26, 27, 28, 29, 30, 31, 32, 33, 34, 35, 36, 37, 38] (by decide +kernel) (by decide +kernel)
set_option maxRecDepth 20000 in
theorem gX3_canBeIn_X3_roomOf : GoodIn wsX3_canBeIn (wsV RX3 118 RX3 yX3_roomOf wsX3_roomOf) := goodIn_app (goodIn_of _ (by decide +kernel)) ggX3_canBeIn_X3_roomOf
set_option maxRecDepth 20000 in
theorem ggX3_canBeIn_X11_has : GoodIn wsX3_canBeIn wsX11_has := goodIn_r _ [23] (by decide +kernel) (by decide +kernel)
set_option maxRecDepth 20000 in
theorem gX3_canBeIn_X11_has_n78 : GoodIn wsX3_canBeIn (wsX11_has) := ggX3_canBeIn_X11_has
theorem dX3_canBeIn_0 : decode cX3_canBeIn 0 = .ok (.aload_n 0, 1) := by decide +kernel
theorem dX3_canBeIn_1 : decode cX3_canBeIn 1 = .ok (.iload_n 1, 1) := by decide +kernel
theorem dX3_canBeIn_2 : decode cX3_canBeIn 2 = .ok (.iload 4, 2) := by decide +kernel
theorem dX3_canBeIn_4 : decode cX3_canBeIn 4 = .ok (.invokevirtual 115, 3) := by decide +kernel
theorem dX3_canBeIn_7 : decode cX3_canBeIn 7 = .ok (.istore 5, 2) := by decide +kernel
theorem dX3_canBeIn_9 : decode cX3_canBeIn 9 = .ok (.aload_n 0, 1) := by decide +kernel
theorem dX3_canBeIn_10 : decode cX3_canBeIn 10 = .ok (.iload_n 2, 1) := by decide +kernel
theorem dX3_canBeIn_11 : decode cX3_canBeIn 11 = .ok (.iload 4, 2) := by decide +kernel
theorem dX3_canBeIn_13 : decode cX3_canBeIn 13 = .ok (.invokevirtual 118, 3) := by decide +kernel
theorem dX3_canBeIn_16 : decode cX3_canBeIn 16 = .ok (.istore 6, 2) := by decide +kernel
theorem dX3_canBeIn_18 : decode cX3_canBeIn 18 = .ok (.iload 5, 2) := by decide +kernel
theorem dX3_canBeIn_20 : decode cX3_canBeIn 20 = .ok (.iload 6, 2) := by decide +kernel
theorem dX3_canBeIn_22 : decode cX3_canBeIn 22 = .ok (.invokestatic 78, 3) := by decide +kernel
theorem dX3_canBeIn_25 : decode cX3_canBeIn 25 = .ok (.ifCond .eq 15, 3) := by decide +kernel
theorem dX3_canBeIn_28 : decode cX3_canBeIn 28 = .ok (.iload 6, 2) := by decide +kernel
theorem dX3_canBeIn_30 : decode cX3_canBeIn 30 = .ok (.iload_n 3, 1) := by decide +kernel
theorem dX3_canBeIn_31 : decode cX3_canBeIn 31 = .ok (.if_icmp .ne 7, 3) := by decide +kernel
theorem dX3_canBeIn_34 : decode cX3_canBeIn 34 = .ok (.iconst 1, 1) := by decide +kernel
theorem dX3_canBeIn_35 : decode cX3_canBeIn 35 = .ok (.goto 4, 3) := by decide +kernel
theorem dX3_canBeIn_38 : decode cX3_canBeIn 38 = .ok (.iconst 0, 1) := by decide +kernel
theorem dX3_canBeIn_39 : decode cX3_canBeIn 39 = .ok (.ireturn, 1) := by decide +kernel
theorem dX3_canBeIn_40 : decode cX3_canBeIn 40 = .ok (.iload 5, 2) := by decide +kernel
theorem dX3_canBeIn_42 : decode cX3_canBeIn 42 = .ok (.iload_n 3, 1) := by decide +kernel
theorem dX3_canBeIn_43 : decode cX3_canBeIn 43 = .ok (.invokestatic 78, 3) := by decide +kernel
theorem dX3_canBeIn_46 : decode cX3_canBeIn 46 = .ok (.ifCond .ne 7, 3) := by decide +kernel
theorem dX3_canBeIn_49 : decode cX3_canBeIn 49 = .ok (.iconst 1, 1) := by decide +kernel
theorem dX3_canBeIn_50 : decode cX3_canBeIn 50 = .ok (.goto 4, 3) := by decide +kernel
theorem dX3_canBeIn_53 : decode cX3_canBeIn 53 = .ok (.iconst 0, 1) := by decide +kernel
theorem dX3_canBeIn_54 : decode cX3_canBeIn 54 = .ok (.ireturn, 1) := by decide +kernel
set_option maxRecDepth 20000 in
theorem ggX3_suspectsBy_X11_has : GoodIn wsX3_suspectsBy wsX11_has := goodIn_r _ [4] (by decide +kernel) (by decide +kernel)
set_option maxRecDepth 20000 in
theorem gX3_suspectsBy_X11_has_n78 : GoodIn wsX3_suspectsBy (wsX11_has) := ggX3_suspectsBy_X11_has
set_option maxRecDepth 20000 in
theorem ggX3_suspectsBy_X3_canBeIn : GoodIn wsX3_suspectsBy wsX3_canBeIn := goodIn_r _ [9, 10, 11, 12, 8, 13, 14, 15, 16, 3, 17, 18, 19, 20, 21, 22, 23, 24, 25, 26, 27, 28, 2, 4, 29, 30, 31, 32, 33, 34, 35, 36, 37, 38, 39, 40, 41, 42, 43] (by decide +kernel) (by decide +kernel)
set_option maxRecDepth 20000 in
theorem gX3_suspectsBy_X3_canBeIn : GoodIn wsX3_suspectsBy (wsV RX3 124 RX3 yX3_canBeIn wsX3_canBeIn) := goodIn_app (goodIn_of _ (by decide +kernel)) ggX3_suspectsBy_X3_canBeIn
theorem dX3_suspectsBy_0 : decode cX3_suspectsBy 0 = .ok (.iconst 0, 1) := by decide +kernel
theorem dX3_suspectsBy_1 : decode cX3_suspectsBy 1 = .ok (.istore 4, 2) := by decide +kernel
theorem dX3_suspectsBy_3 : decode cX3_suspectsBy 3 = .ok (.iconst 0, 1) := by decide +kernel
theorem dX3_suspectsBy_4 : decode cX3_suspectsBy 4 = .ok (.istore 5, 2) := by decide +kernel
theorem dX3_suspectsBy_6 : decode cX3_suspectsBy 6 = .ok (.iload 5, 2) := by decide +kernel
theorem dX3_suspectsBy_8 : decode cX3_suspectsBy 8 = .ok (.bipush 8, 2) := by decide +kernel
theorem dX3_suspectsBy_10 : decode cX3_suspectsBy 10 = .ok (.if_icmp .ge 58, 3) := by decide +kernel
theorem dX3_suspectsBy_13 : decode cX3_suspectsBy 13 = .ok (.iconst 0, 1) := by decide +kernel
theorem dX3_suspectsBy_14 : decode cX3_suspectsBy 14 = .ok (.istore 6, 2) := by decide +kernel
theorem dX3_suspectsBy_16 : decode cX3_suspectsBy 16 = .ok (.iload 6, 2) := by decide +kernel
theorem dX3_suspectsBy_18 : decode cX3_suspectsBy 18 = .ok (.aload_n 0, 1) := by decide +kernel
theorem dX3_suspectsBy_19 : decode cX3_suspectsBy 19 = .ok (.getfield 42, 3) := by decide +kernel
theorem dX3_suspectsBy_22 : decode cX3_suspectsBy 22 = .ok (.if_icmp .ge 40, 3) := by decide +kernel
theorem dX3_suspectsBy_25 : decode cX3_suspectsBy 25 = .ok (.iload_n 3, 1) := by decide +kernel
theorem dX3_suspectsBy_26 : decode cX3_suspectsBy 26 = .ok (.iload 5, 2) := by decide +kernel
theorem dX3_suspectsBy_28 : decode cX3_suspectsBy 28 = .ok (.invokestatic 78, 3) := by decide +kernel
theorem dX3_suspectsBy_31 : decode cX3_suspectsBy 31 = .ok (.ifCond .eq 25, 3) := by decide +kernel
theorem dX3_suspectsBy_34 : decode cX3_suspectsBy 34 = .ok (.aload_n 0, 1) := by decide +kernel
theorem dX3_suspectsBy_35 : decode cX3_suspectsBy 35 = .ok (.iload_n 1, 1) := by decide +kernel
theorem dX3_suspectsBy_36 : decode cX3_suspectsBy 36 = .ok (.iload 6, 2) := by decide +kernel
theorem dX3_suspectsBy_38 : decode cX3_suspectsBy 38 = .ok (.iload_n 2, 1) := by decide +kernel
theorem dX3_suspectsBy_39 : decode cX3_suspectsBy 39 = .ok (.iload 5, 2) := by decide +kernel
theorem dX3_suspectsBy_41 : decode cX3_suspectsBy 41 = .ok (.invokevirtual 124, 3) := by decide +kernel
theorem dX3_suspectsBy_44 : decode cX3_suspectsBy 44 = .ok (.ifCond .eq 12, 3) := by decide +kernel
theorem dX3_suspectsBy_47 : decode cX3_suspectsBy 47 = .ok (.iload 4, 2) := by decide +kernel
theorem dX3_suspectsBy_49 : decode cX3_suspectsBy 49 = .ok (.iconst 1, 1) := by decide +kernel
theorem dX3_suspectsBy_50 : decode cX3_suspectsBy 50 = .ok (.iload 6, 2) := by decide +kernel
theorem dX3_suspectsBy_52 : decode cX3_suspectsBy 52 = .ok (.ishl, 1) := by decide +kernel
theorem dX3_suspectsBy_53 : decode cX3_suspectsBy 53 = .ok (.ior, 1) := by decide +kernel
theorem dX3_suspectsBy_54 : decode cX3_suspectsBy 54 = .ok (.istore 4, 2) := by decide +kernel
theorem dX3_suspectsBy_56 : decode cX3_suspectsBy 56 = .ok (.iinc 6 1, 3) := by decide +kernel
theorem dX3_suspectsBy_59 : decode cX3_suspectsBy 59 = .ok (.goto (-43), 3) := by decide +kernel
theorem dX3_suspectsBy_62 : decode cX3_suspectsBy 62 = .ok (.iinc 5 1, 3) := by decide +kernel
theorem dX3_suspectsBy_65 : decode cX3_suspectsBy 65 = .ok (.goto (-59), 3) := by decide +kernel
theorem dX3_suspectsBy_68 : decode cX3_suspectsBy 68 = .ok (.iload 4, 2) := by decide +kernel
theorem dX3_suspectsBy_70 : decode cX3_suspectsBy 70 = .ok (.ireturn, 1) := by decide +kernel
set_option maxRecDepth 20000 in
theorem ggX3_crowdOf_X3_lookedBy : GoodIn wsX3_crowdOf wsX3_lookedBy := goodIn_r _ [7, 1, 2, 8, 9, 10, 11, 12, 13, 6, 14, 15, 16, 19, 20, 21, 22, 23, 24, 25, 26, 27, 28, 29, 30, 31, 32, 33] (by decide +kernel) (by decide +kernel)
set_option maxRecDepth 20000 in
theorem gX3_crowdOf_X3_lookedBy : GoodIn wsX3_crowdOf (wsV RX3 115 RX3 yX3_lookedBy wsX3_lookedBy) := goodIn_app (goodIn_of _ (by decide +kernel)) ggX3_crowdOf_X3_lookedBy
set_option maxRecDepth 20000 in
theorem ggX3_crowdOf_X11_has : GoodIn wsX3_crowdOf wsX11_has := goodIn_r _ [18] (by decide +kernel) (by decide +kernel)
set_option maxRecDepth 20000 in
theorem gX3_crowdOf_X11_has_n78 : GoodIn wsX3_crowdOf (wsX11_has) := ggX3_crowdOf_X11_has
set_option maxRecDepth 20000 in
theorem ggX3_crowdOf_X11_seatNumber : GoodIn wsX3_crowdOf wsX11_seatNumber := goodIn_r _ [10] (by decide +kernel) (by decide +kernel)
set_option maxRecDepth 20000 in
theorem gX3_crowdOf_X11_seatNumber_n82 : GoodIn wsX3_crowdOf (wsX11_seatNumber) := ggX3_crowdOf_X11_seatNumber
theorem dX3_crowdOf_0 : decode cX3_crowdOf 0 = .ok (.aload_n 0, 1) := by decide +kernel
theorem dX3_crowdOf_1 : decode cX3_crowdOf 1 = .ok (.iconst 1, 1) := by decide +kernel
theorem dX3_crowdOf_2 : decode cX3_crowdOf 2 = .ok (.iload_n 1, 1) := by decide +kernel
theorem dX3_crowdOf_3 : decode cX3_crowdOf 3 = .ok (.ishl, 1) := by decide +kernel
theorem dX3_crowdOf_4 : decode cX3_crowdOf 4 = .ok (.iload_n 2, 1) := by decide +kernel
theorem dX3_crowdOf_5 : decode cX3_crowdOf 5 = .ok (.invokevirtual 115, 3) := by decide +kernel
theorem dX3_crowdOf_8 : decode cX3_crowdOf 8 = .ok (.istore_n 3, 1) := by decide +kernel
theorem dX3_crowdOf_9 : decode cX3_crowdOf 9 = .ok (.iconst 0, 1) := by decide +kernel
theorem dX3_crowdOf_10 : decode cX3_crowdOf 10 = .ok (.istore 4, 2) := by decide +kernel
theorem dX3_crowdOf_12 : decode cX3_crowdOf 12 = .ok (.iconst 0, 1) := by decide +kernel
theorem dX3_crowdOf_13 : decode cX3_crowdOf 13 = .ok (.istore 5, 2) := by decide +kernel
theorem dX3_crowdOf_15 : decode cX3_crowdOf 15 = .ok (.iload 5, 2) := by decide +kernel
theorem dX3_crowdOf_17 : decode cX3_crowdOf 17 = .ok (.aload_n 0, 1) := by decide +kernel
theorem dX3_crowdOf_18 : decode cX3_crowdOf 18 = .ok (.getfield 54, 3) := by decide +kernel
theorem dX3_crowdOf_21 : decode cX3_crowdOf 21 = .ok (.if_icmp .ge 34, 3) := by decide +kernel
theorem dX3_crowdOf_24 : decode cX3_crowdOf 24 = .ok (.iload_n 3, 1) := by decide +kernel
theorem dX3_crowdOf_25 : decode cX3_crowdOf 25 = .ok (.iload 5, 2) := by decide +kernel
theorem dX3_crowdOf_27 : decode cX3_crowdOf 27 = .ok (.invokestatic 78, 3) := by decide +kernel
theorem dX3_crowdOf_30 : decode cX3_crowdOf 30 = .ok (.ifCond .eq 19, 3) := by decide +kernel
theorem dX3_crowdOf_33 : decode cX3_crowdOf 33 = .ok (.iload 4, 2) := by decide +kernel
theorem dX3_crowdOf_35 : decode cX3_crowdOf 35 = .ok (.aload_n 0, 1) := by decide +kernel
theorem dX3_crowdOf_36 : decode cX3_crowdOf 36 = .ok (.getfield 18, 3) := by decide +kernel
theorem dX3_crowdOf_39 : decode cX3_crowdOf 39 = .ok (.iload 5, 2) := by decide +kernel
theorem dX3_crowdOf_41 : decode cX3_crowdOf 41 = .ok (.iload_n 2, 1) := by decide +kernel
theorem dX3_crowdOf_42 : decode cX3_crowdOf 42 = .ok (.invokestatic 82, 3) := by decide +kernel
theorem dX3_crowdOf_45 : decode cX3_crowdOf 45 = .ok (.iaload, 1) := by decide +kernel
theorem dX3_crowdOf_46 : decode cX3_crowdOf 46 = .ok (.ior, 1) := by decide +kernel
theorem dX3_crowdOf_47 : decode cX3_crowdOf 47 = .ok (.istore 4, 2) := by decide +kernel
theorem dX3_crowdOf_49 : decode cX3_crowdOf 49 = .ok (.iinc 5 1, 3) := by decide +kernel
theorem dX3_crowdOf_52 : decode cX3_crowdOf 52 = .ok (.goto (-37), 3) := by decide +kernel
theorem dX3_crowdOf_55 : decode cX3_crowdOf 55 = .ok (.iload 4, 2) := by decide +kernel
theorem dX3_crowdOf_57 : decode cX3_crowdOf 57 = .ok (.iconst 1, 1) := by decide +kernel
theorem dX3_crowdOf_58 : decode cX3_crowdOf 58 = .ok (.iload_n 1, 1) := by decide +kernel
theorem dX3_crowdOf_59 : decode cX3_crowdOf 59 = .ok (.ishl, 1) := by decide +kernel
theorem dX3_crowdOf_60 : decode cX3_crowdOf 60 = .ok (.iconst (-1), 1) := by decide +kernel
theorem dX3_crowdOf_61 : decode cX3_crowdOf 61 = .ok (.ixor, 1) := by decide +kernel
theorem dX3_crowdOf_62 : decode cX3_crowdOf 62 = .ok (.iand, 1) := by decide +kernel
theorem dX3_crowdOf_63 : decode cX3_crowdOf 63 = .ok (.ireturn, 1) := by decide +kernel
set_option maxRecDepth 20000 in
theorem ggX3_toldBy_X3_seenBy : GoodIn wsX3_toldBy wsX3_seenBy := goodIn_r _ [8, 1, 9, 10, 11, 7, 12, 13, 14, 15, 16, 17, 3, 18, 19, 20, 21, 22, 23, 24, 25, 26, 27, 28, 29, 44, 45, 46, 47, 48, 49, 50, 51, 52, 53, 54, 55, 56, 57, 58] (by decide +kernel) (by decide +kernel)
set_option maxRecDepth 20000 in
theorem gX3_toldBy_X3_seenBy : GoodIn wsX3_toldBy (wsV RX3 121 RX3 yX3_seenBy wsX3_seenBy) := goodIn_app (goodIn_of _ (by decide +kernel)) ggX3_toldBy_X3_seenBy
set_option maxRecDepth 20000 in
theorem ggX3_toldBy_X9_tells : GoodIn wsX3_toldBy wsX9_tells := goodIn_r _ [35] (by decide +kernel) (by decide +kernel)
set_option maxRecDepth 20000 in
theorem gX3_toldBy_X9_tells_u128X1 : GoodIn wsX3_toldBy (va_wsU RX3 128 RX1 "SeenAgain$Visitor" ⟨"SeenAgain$Visitor", "tells", "(II)I"⟩ yX9_tells wsX9_tells) := goodIn_app (goodIn_of _ (by decide +kernel)) ggX3_toldBy_X9_tells
set_option maxRecDepth 20000 in
theorem gX3_toldBy_X9_tells_u128X2 : GoodIn wsX3_toldBy (va_wsU RX3 128 RX2 "SeenAgain$Visitor" ⟨"SeenAgain$Visitor", "tells", "(II)I"⟩ yX9_tells wsX9_tells) := goodIn_app (goodIn_of _ (by decide +kernel)) ggX3_toldBy_X9_tells
set_option maxRecDepth 20000 in
theorem ggX3_toldBy_X4_tells : GoodIn wsX3_toldBy wsX4_tells := goodIn_r _ [41] (by decide +kernel) (by decide +kernel)
set_option maxRecDepth 20000 in
theorem gX3_toldBy_X4_tells_u128X4 : GoodIn wsX3_toldBy (va_wsO RX3 128 RX4 "SeenAgain$Visitor" ⟨"SeenAgain$Visitor", "tells", "(II)I"⟩ yX4_tells wsX4_tells) := goodIn_app (goodIn_of _ (by decide +kernel)) ggX3_toldBy_X4_tells
set_option maxRecDepth 20000 in
theorem gX3_toldBy_X9_tells_u128X7 : GoodIn wsX3_toldBy (va_wsU RX3 128 RX7 "SeenAgain$Visitor" ⟨"SeenAgain$Visitor", "tells", "(II)I"⟩ yX9_tells wsX9_tells) := goodIn_app (goodIn_of _ (by decide +kernel)) ggX3_toldBy_X9_tells
set_option maxRecDepth 20000 in
theorem gX3_toldBy_X9_tells_u128X10 : GoodIn wsX3_toldBy (va_wsU RX3 128 RX10 "SeenAgain$Visitor" ⟨"SeenAgain$Visitor", "tells", "(II)I"⟩ yX9_tells wsX9_tells) := goodIn_app (goodIn_of _ (by decide +kernel)) ggX3_toldBy_X9_tells
theorem dX3_toldBy_0 : decode cX3_toldBy 0 = .ok (.aload_n 0, 1) := by decide +kernel
theorem dX3_toldBy_1 : decode cX3_toldBy 1 = .ok (.iconst 1, 1) := by decide +kernel
theorem dX3_toldBy_2 : decode cX3_toldBy 2 = .ok (.iload_n 1, 1) := by decide +kernel
theorem dX3_toldBy_3 : decode cX3_toldBy 3 = .ok (.ishl, 1) := by decide +kernel
theorem dX3_toldBy_4 : decode cX3_toldBy 4 = .ok (.iload_n 2, 1) := by decide +kernel
theorem dX3_toldBy_5 : decode cX3_toldBy 5 = .ok (.iload_n 3, 1) := by decide +kernel
theorem dX3_toldBy_6 : decode cX3_toldBy 6 = .ok (.invokevirtual 121, 3) := by decide +kernel
theorem dX3_toldBy_9 : decode cX3_toldBy 9 = .ok (.istore 4, 2) := by decide +kernel
theorem dX3_toldBy_11 : decode cX3_toldBy 11 = .ok (.iload 4, 2) := by decide +kernel
theorem dX3_toldBy_13 : decode cX3_toldBy 13 = .ok (.ldc 111, 2) := by decide +kernel
theorem dX3_toldBy_15 : decode cX3_toldBy 15 = .ok (.if_icmp .ne 8, 3) := by decide +kernel
theorem dX3_toldBy_18 : decode cX3_toldBy 18 = .ok (.ldc 111, 2) := by decide +kernel
theorem dX3_toldBy_20 : decode cX3_toldBy 20 = .ok (.goto 18, 3) := by decide +kernel
theorem dX3_toldBy_23 : decode cX3_toldBy 23 = .ok (.aload_n 0, 1) := by decide +kernel
theorem dX3_toldBy_24 : decode cX3_toldBy 24 = .ok (.getfield 29, 3) := by decide +kernel
theorem dX3_toldBy_27 : decode cX3_toldBy 27 = .ok (.iload_n 1, 1) := by decide +kernel
theorem dX3_toldBy_28 : decode cX3_toldBy 28 = .ok (.aaload, 1) := by decide +kernel
theorem dX3_toldBy_29 : decode cX3_toldBy 29 = .ok (.iload 4, 2) := by decide +kernel
theorem dX3_toldBy_31 : decode cX3_toldBy 31 = .ok (.aload_n 0, 1) := by decide +kernel
theorem dX3_toldBy_32 : decode cX3_toldBy 32 = .ok (.getfield 54, 3) := by decide +kernel
theorem dX3_toldBy_35 : decode cX3_toldBy 35 = .ok (.invokevirtual 128, 3) := by decide +kernel
theorem dX3_toldBy_38 : decode cX3_toldBy 38 = .ok (.ireturn, 1) := by decide +kernel
set_option maxRecDepth 20000 in
theorem ggX3_mostTold_X3_toldBy : GoodIn wsX3_mostTold wsX3_toldBy := goodIn_r _ [8, 1, 9, 2, 10, 11, 12, 7, 13, 14, 15, 16, 17, 18, 19, 20, 21, 22, 23, 24, 25, 26, 27, 28, 29, 30, 31, 32, 33, 34, 35, 36, 37, 38, 39, 40, 41, 42, 43, 44, 45, 46, 47, 48, 49, 50, 51, 52, 53, 54, 55, 56, 57, 58, 59, 60, 61, 62, 63] (by decide +kernel) (by decide +kernel)
set_option maxRecDepth 20000 in
theorem gX3_mostTold_X3_toldBy : GoodIn wsX3_mostTold (wsV RX3 131 RX3 yX3_toldBy wsX3_toldBy) := goodIn_app (goodIn_of _ (by decide +kernel)) ggX3_mostTold_X3_toldBy
theorem dX3_mostTold_0 : decode cX3_mostTold 0 = .ok (.iconst 0, 1) := by decide +kernel
theorem dX3_mostTold_1 : decode cX3_mostTold 1 = .ok (.istore_n 3, 1) := by decide +kernel
theorem dX3_mostTold_2 : decode cX3_mostTold 2 = .ok (.ldc 111, 2) := by decide +kernel
theorem dX3_mostTold_4 : decode cX3_mostTold 4 = .ok (.istore 4, 2) := by decide +kernel
theorem dX3_mostTold_6 : decode cX3_mostTold 6 = .ok (.iconst 0, 1) := by decide +kernel
theorem dX3_mostTold_7 : decode cX3_mostTold 7 = .ok (.istore 5, 2) := by decide +kernel
theorem dX3_mostTold_9 : decode cX3_mostTold 9 = .ok (.iload 5, 2) := by decide +kernel
theorem dX3_mostTold_11 : decode cX3_mostTold 11 = .ok (.aload_n 0, 1) := by decide +kernel
theorem dX3_mostTold_12 : decode cX3_mostTold 12 = .ok (.getfield 54, 3) := by decide +kernel
theorem dX3_mostTold_15 : decode cX3_mostTold 15 = .ok (.if_icmp .ge 59, 3) := by decide +kernel
theorem dX3_mostTold_18 : decode cX3_mostTold 18 = .ok (.iconst 0, 1) := by decide +kernel
theorem dX3_mostTold_19 : decode cX3_mostTold 19 = .ok (.istore 6, 2) := by decide +kernel
theorem dX3_mostTold_21 : decode cX3_mostTold 21 = .ok (.iconst 0, 1) := by decide +kernel
theorem dX3_mostTold_22 : decode cX3_mostTold 22 = .ok (.istore 7, 2) := by decide +kernel
theorem dX3_mostTold_24 : decode cX3_mostTold 24 = .ok (.iload 7, 2) := by decide +kernel
theorem dX3_mostTold_26 : decode cX3_mostTold 26 = .ok (.aload_n 0, 1) := by decide +kernel
theorem dX3_mostTold_27 : decode cX3_mostTold 27 = .ok (.getfield 45, 3) := by decide +kernel
theorem dX3_mostTold_30 : decode cX3_mostTold 30 = .ok (.if_icmp .ge 25, 3) := by decide +kernel
theorem dX3_mostTold_33 : decode cX3_mostTold 33 = .ok (.aload_n 0, 1) := by decide +kernel
theorem dX3_mostTold_34 : decode cX3_mostTold 34 = .ok (.iload 7, 2) := by decide +kernel
theorem dX3_mostTold_36 : decode cX3_mostTold 36 = .ok (.iload_n 1, 1) := by decide +kernel
theorem dX3_mostTold_37 : decode cX3_mostTold 37 = .ok (.iload_n 2, 1) := by decide +kernel
theorem dX3_mostTold_38 : decode cX3_mostTold 38 = .ok (.invokevirtual 131, 3) := by decide +kernel
theorem dX3_mostTold_41 : decode cX3_mostTold 41 = .ok (.iload 5, 2) := by decide +kernel
theorem dX3_mostTold_43 : decode cX3_mostTold 43 = .ok (.if_icmp .ne 6, 3) := by decide +kernel
theorem dX3_mostTold_46 : decode cX3_mostTold 46 = .ok (.iinc 6 1, 3) := by decide +kernel
theorem dX3_mostTold_49 : decode cX3_mostTold 49 = .ok (.iinc 7 1, 3) := by decide +kernel
theorem dX3_mostTold_52 : decode cX3_mostTold 52 = .ok (.goto (-28), 3) := by decide +kernel
theorem dX3_mostTold_55 : decode cX3_mostTold 55 = .ok (.iload 6, 2) := by decide +kernel
theorem dX3_mostTold_57 : decode cX3_mostTold 57 = .ok (.iload_n 3, 1) := by decide +kernel
theorem dX3_mostTold_58 : decode cX3_mostTold 58 = .ok (.if_icmp .le 10, 3) := by decide +kernel
theorem dX3_mostTold_61 : decode cX3_mostTold 61 = .ok (.iload 6, 2) := by decide +kernel
theorem dX3_mostTold_63 : decode cX3_mostTold 63 = .ok (.istore_n 3, 1) := by decide +kernel
theorem dX3_mostTold_64 : decode cX3_mostTold 64 = .ok (.iload 5, 2) := by decide +kernel
theorem dX3_mostTold_66 : decode cX3_mostTold 66 = .ok (.istore 4, 2) := by decide +kernel
theorem dX3_mostTold_68 : decode cX3_mostTold 68 = .ok (.iinc 5 1, 3) := by decide +kernel
theorem dX3_mostTold_71 : decode cX3_mostTold 71 = .ok (.goto (-62), 3) := by decide +kernel
theorem dX3_mostTold_74 : decode cX3_mostTold 74 = .ok (.iload 4, 2) := by decide +kernel
theorem dX3_mostTold_76 : decode cX3_mostTold 76 = .ok (.ireturn, 1) := by decide +kernel
set_option maxRecDepth 20000 in
theorem ggX3_settles_X11_has : GoodIn wsX3_settles wsX11_has := goodIn_r _ [4] (by decide +kernel) (by decide +kernel)
set_option maxRecDepth 20000 in
theorem gX3_settles_X11_has_n78 : GoodIn wsX3_settles (wsX11_has) := ggX3_settles_X11_has
set_option maxRecDepth 20000 in
theorem ggX3_settles_X3_viewOf : GoodIn wsX3_settles wsX3_viewOf := goodIn_r _ [9, 10, 11, 12, 3, 13, 21, 22, 23, 24, 25, 26, 27, 28, 29, 30, 31, 32, 33, 34, 35] (by decide +kernel) (by decide +kernel)
set_option maxRecDepth 20000 in
theorem gX3_settles_X3_viewOf : GoodIn wsX3_settles (wsV RX3 112 RX3 yX3_viewOf wsX3_viewOf) := goodIn_app (goodIn_of _ (by decide +kernel)) ggX3_settles_X3_viewOf
set_option maxRecDepth 20000 in
theorem ggX3_settles_J6_bitCount_0f7a4 : GoodIn wsX3_settles wsJ6_bitCount_0f7a4 := goodIn_r _ [17, 18, 19, 20] (by decide +kernel) (by decide +kernel)
set_option maxRecDepth 20000 in
theorem gX3_settles_J6_bitCount_0f7a4 : GoodIn wsX3_settles (va_wsS RX3 86 yJ6_bitCount_0f7a4 wsJ6_bitCount_0f7a4) := goodIn_app (goodIn_of _ (by decide +kernel)) ggX3_settles_J6_bitCount_0f7a4
theorem dX3_settles_0 : decode cX3_settles 0 = .ok (.iconst 0, 1) := by decide +kernel
theorem dX3_settles_1 : decode cX3_settles 1 = .ok (.istore_n 3, 1) := by decide +kernel
theorem dX3_settles_2 : decode cX3_settles 2 = .ok (.iconst 0, 1) := by decide +kernel
theorem dX3_settles_3 : decode cX3_settles 3 = .ok (.istore 4, 2) := by decide +kernel
theorem dX3_settles_5 : decode cX3_settles 5 = .ok (.iload 4, 2) := by decide +kernel
theorem dX3_settles_7 : decode cX3_settles 7 = .ok (.aload_n 0, 1) := by decide +kernel
theorem dX3_settles_8 : decode cX3_settles 8 = .ok (.getfield 54, 3) := by decide +kernel
theorem dX3_settles_11 : decode cX3_settles 11 = .ok (.if_icmp .ge 28, 3) := by decide +kernel
theorem dX3_settles_14 : decode cX3_settles 14 = .ok (.iload_n 1, 1) := by decide +kernel
theorem dX3_settles_15 : decode cX3_settles 15 = .ok (.iload 4, 2) := by decide +kernel
theorem dX3_settles_17 : decode cX3_settles 17 = .ok (.invokestatic 78, 3) := by decide +kernel
theorem dX3_settles_20 : decode cX3_settles 20 = .ok (.ifCond .eq 13, 3) := by decide +kernel
theorem dX3_settles_23 : decode cX3_settles 23 = .ok (.iload_n 3, 1) := by decide +kernel
theorem dX3_settles_24 : decode cX3_settles 24 = .ok (.aload_n 0, 1) := by decide +kernel
theorem dX3_settles_25 : decode cX3_settles 25 = .ok (.iload 4, 2) := by decide +kernel
theorem dX3_settles_27 : decode cX3_settles 27 = .ok (.iload_n 2, 1) := by decide +kernel
theorem dX3_settles_28 : decode cX3_settles 28 = .ok (.invokevirtual 112, 3) := by decide +kernel
theorem dX3_settles_31 : decode cX3_settles 31 = .ok (.ior, 1) := by decide +kernel
theorem dX3_settles_32 : decode cX3_settles 32 = .ok (.istore_n 3, 1) := by decide +kernel
theorem dX3_settles_33 : decode cX3_settles 33 = .ok (.iinc 4 1, 3) := by decide +kernel
theorem dX3_settles_36 : decode cX3_settles 36 = .ok (.goto (-31), 3) := by decide +kernel
theorem dX3_settles_39 : decode cX3_settles 39 = .ok (.iload_n 3, 1) := by decide +kernel
theorem dX3_settles_40 : decode cX3_settles 40 = .ok (.invokestatic 86, 3) := by decide +kernel
theorem dX3_settles_43 : decode cX3_settles 43 = .ok (.aload_n 0, 1) := by decide +kernel
theorem dX3_settles_44 : decode cX3_settles 44 = .ok (.getfield 54, 3) := by decide +kernel
theorem dX3_settles_47 : decode cX3_settles 47 = .ok (.iconst 1, 1) := by decide +kernel
theorem dX3_settles_48 : decode cX3_settles 48 = .ok (.isub, 1) := by decide +kernel
theorem dX3_settles_49 : decode cX3_settles 49 = .ok (.if_icmp .lt 7, 3) := by decide +kernel
theorem dX3_settles_52 : decode cX3_settles 52 = .ok (.iconst 1, 1) := by decide +kernel
theorem dX3_settles_53 : decode cX3_settles 53 = .ok (.goto 4, 3) := by decide +kernel
theorem dX3_settles_56 : decode cX3_settles 56 = .ok (.iconst 0, 1) := by decide +kernel
theorem dX3_settles_57 : decode cX3_settles 57 = .ok (.ireturn, 1) := by decide +kernel
set_option maxRecDepth 20000 in
theorem ggX3_fewestSettling_J6_bitCount_0f7a4 : GoodIn wsX3_fewestSettling wsJ6_bitCount_0f7a4 := goodIn_r _ [6, 7, 8, 9] (by decide +kernel) (by decide +kernel)
set_option maxRecDepth 20000 in
theorem gX3_fewestSettling_J6_bitCount_0f7a4 : GoodIn wsX3_fewestSettling (va_wsS RX3 86 yJ6_bitCount_0f7a4 wsJ6_bitCount_0f7a4) := goodIn_app (goodIn_of _ (by decide +kernel)) ggX3_fewestSettling_J6_bitCount_0f7a4
set_option maxRecDepth 20000 in
theorem ggX3_fewestSettling_X3_settles : GoodIn wsX3_fewestSettling wsX3_settles := goodIn_r _ [14, 2, 15, 16, 17, 18, 19, 20, 13, 21, 22, 23, 24, 25, 3, 4, 5, 6, 7, 8, 9, 26, 27, 28, 29, 30, 31, 32, 33, 34, 35, 36, 37, 38, 39, 40] (by decide +kernel) (by decide +kernel)
set_option maxRecDepth 20000 in
theorem gX3_fewestSettling_X3_settles : GoodIn wsX3_fewestSettling (wsV RX3 134 RX3 yX3_settles wsX3_settles) := goodIn_app (goodIn_of _ (by decide +kernel)) ggX3_fewestSettling_X3_settles
theorem dX3_fewestSettling_0 : decode cX3_fewestSettling 0 = .ok (.ldc 111, 2) := by decide +kernel
theorem dX3_fewestSettling_2 : decode cX3_fewestSettling 2 = .ok (.istore_n 2, 1) := by decide +kernel
theorem dX3_fewestSettling_3 : decode cX3_fewestSettling 3 = .ok (.bipush 7, 2) := by decide +kernel
theorem dX3_fewestSettling_5 : decode cX3_fewestSettling 5 = .ok (.istore_n 3, 1) := by decide +kernel
theorem dX3_fewestSettling_6 : decode cX3_fewestSettling 6 = .ok (.iconst 0, 1) := by decide +kernel
theorem dX3_fewestSettling_7 : decode cX3_fewestSettling 7 = .ok (.istore 4, 2) := by decide +kernel
theorem dX3_fewestSettling_9 : decode cX3_fewestSettling 9 = .ok (.iload 4, 2) := by decide +kernel
theorem dX3_fewestSettling_11 : decode cX3_fewestSettling 11 = .ok (.iconst 1, 1) := by decide +kernel
theorem dX3_fewestSettling_12 : decode cX3_fewestSettling 12 = .ok (.aload_n 0, 1) := by decide +kernel
theorem dX3_fewestSettling_13 : decode cX3_fewestSettling 13 = .ok (.getfield 54, 3) := by decide +kernel
theorem dX3_fewestSettling_16 : decode cX3_fewestSettling 16 = .ok (.ishl, 1) := by decide +kernel
theorem dX3_fewestSettling_17 : decode cX3_fewestSettling 17 = .ok (.if_icmp .ge 37, 3) := by decide +kernel
theorem dX3_fewestSettling_20 : decode cX3_fewestSettling 20 = .ok (.iload 4, 2) := by decide +kernel
theorem dX3_fewestSettling_22 : decode cX3_fewestSettling 22 = .ok (.invokestatic 86, 3) := by decide +kernel
theorem dX3_fewestSettling_25 : decode cX3_fewestSettling 25 = .ok (.iload_n 3, 1) := by decide +kernel
theorem dX3_fewestSettling_26 : decode cX3_fewestSettling 26 = .ok (.if_icmp .ge 22, 3) := by decide +kernel
theorem dX3_fewestSettling_29 : decode cX3_fewestSettling 29 = .ok (.aload_n 0, 1) := by decide +kernel
theorem dX3_fewestSettling_30 : decode cX3_fewestSettling 30 = .ok (.iload 4, 2) := by decide +kernel
theorem dX3_fewestSettling_32 : decode cX3_fewestSettling 32 = .ok (.iload_n 1, 1) := by decide +kernel
theorem dX3_fewestSettling_33 : decode cX3_fewestSettling 33 = .ok (.invokevirtual 134, 3) := by decide +kernel
theorem dX3_fewestSettling_36 : decode cX3_fewestSettling 36 = .ok (.ifCond .eq 12, 3) := by decide +kernel
theorem dX3_fewestSettling_39 : decode cX3_fewestSettling 39 = .ok (.iload 4, 2) := by decide +kernel
theorem dX3_fewestSettling_41 : decode cX3_fewestSettling 41 = .ok (.invokestatic 86, 3) := by decide +kernel
theorem dX3_fewestSettling_44 : decode cX3_fewestSettling 44 = .ok (.istore_n 3, 1) := by decide +kernel
theorem dX3_fewestSettling_45 : decode cX3_fewestSettling 45 = .ok (.iload 4, 2) := by decide +kernel
theorem dX3_fewestSettling_47 : decode cX3_fewestSettling 47 = .ok (.istore_n 2, 1) := by decide +kernel
theorem dX3_fewestSettling_48 : decode cX3_fewestSettling 48 = .ok (.iinc 4 1, 3) := by decide +kernel
theorem dX3_fewestSettling_51 : decode cX3_fewestSettling 51 = .ok (.goto (-42), 3) := by decide +kernel
theorem dX3_fewestSettling_54 : decode cX3_fewestSettling 54 = .ok (.iload_n 2, 1) := by decide +kernel
theorem dX3_fewestSettling_55 : decode cX3_fewestSettling 55 = .ok (.ireturn, 1) := by decide +kernel
set_option maxRecDepth 20000 in
theorem ggX3_cheapestSettling_X3_costOf : GoodIn wsX3_cheapestSettling wsX3_costOf := goodIn_r _ [7, 2, 1, 8, 9, 10, 11, 12, 13, 6, 14, 15, 16, 17, 18, 19, 20, 21, 22, 23, 24, 25, 26, 27, 28, 29, 30, 31, 32, 33, 34, 35, 36, 37, 38, 39, 40, 41, 42, 43, 44, 45, 46, 47, 48, 49, 50, 51, 52, 53, 54, 55, 56, 57, 58, 59, 60, 61, 62, 63, 64, 65, 66, 67, 68, 69, 70, 71, 72, 73, 84, 85, 86, 87, 88, 89, 90, 91, 92, 93, 94, 95, 96, 97, 98] (by decide +kernel) (by decide +kernel)
set_option maxRecDepth 20000 in
theorem gX3_cheapestSettling_X3_costOf : GoodIn wsX3_cheapestSettling (wsV RX3 137 RX3 yX3_costOf wsX3_costOf) := goodIn_app (goodIn_of _ (by decide +kernel)) ggX3_cheapestSettling_X3_costOf
set_option maxRecDepth 20000 in
theorem ggX3_cheapestSettling_X3_settles : GoodIn wsX3_cheapestSettling wsX3_settles := goodIn_r _ [77, 2, 8, 9, 10, 78, 79, 80, 6, 81, 82, 83, 16, 17, 27, 28, 29, 30, 31, 32, 33, 84, 85, 86, 87, 88, 89, 90, 91, 92, 93, 94, 95, 96, 97, 98] (by decide +kernel) (by decide +kernel)
set_option maxRecDepth 20000 in
theorem gX3_cheapestSettling_X3_settles : GoodIn wsX3_cheapestSettling (wsV RX3 134 RX3 yX3_settles wsX3_settles) := goodIn_app (goodIn_of _ (by decide +kernel)) ggX3_cheapestSettling_X3_settles
theorem dX3_cheapestSettling_0 : decode cX3_cheapestSettling 0 = .ok (.ldc 111, 2) := by decide +kernel
theorem dX3_cheapestSettling_2 : decode cX3_cheapestSettling 2 = .ok (.istore_n 3, 1) := by decide +kernel
theorem dX3_cheapestSettling_3 : decode cX3_cheapestSettling 3 = .ok (.iconst 0, 1) := by decide +kernel
theorem dX3_cheapestSettling_4 : decode cX3_cheapestSettling 4 = .ok (.istore 4, 2) := by decide +kernel
theorem dX3_cheapestSettling_6 : decode cX3_cheapestSettling 6 = .ok (.iconst 0, 1) := by decide +kernel
theorem dX3_cheapestSettling_7 : decode cX3_cheapestSettling 7 = .ok (.istore 5, 2) := by decide +kernel
theorem dX3_cheapestSettling_9 : decode cX3_cheapestSettling 9 = .ok (.iload 5, 2) := by decide +kernel
theorem dX3_cheapestSettling_11 : decode cX3_cheapestSettling 11 = .ok (.iconst 1, 1) := by decide +kernel
theorem dX3_cheapestSettling_12 : decode cX3_cheapestSettling 12 = .ok (.aload_n 0, 1) := by decide +kernel
theorem dX3_cheapestSettling_13 : decode cX3_cheapestSettling 13 = .ok (.getfield 54, 3) := by decide +kernel
theorem dX3_cheapestSettling_16 : decode cX3_cheapestSettling 16 = .ok (.ishl, 1) := by decide +kernel
theorem dX3_cheapestSettling_17 : decode cX3_cheapestSettling 17 = .ok (.if_icmp .ge 56, 3) := by decide +kernel
theorem dX3_cheapestSettling_20 : decode cX3_cheapestSettling 20 = .ok (.aload_n 0, 1) := by decide +kernel
theorem dX3_cheapestSettling_21 : decode cX3_cheapestSettling 21 = .ok (.iload_n 1, 1) := by decide +kernel
theorem dX3_cheapestSettling_22 : decode cX3_cheapestSettling 22 = .ok (.iload 5, 2) := by decide +kernel
theorem dX3_cheapestSettling_24 : decode cX3_cheapestSettling 24 = .ok (.iload_n 2, 1) := by decide +kernel
theorem dX3_cheapestSettling_25 : decode cX3_cheapestSettling 25 = .ok (.invokevirtual 137, 3) := by decide +kernel
theorem dX3_cheapestSettling_28 : decode cX3_cheapestSettling 28 = .ok (.istore 6, 2) := by decide +kernel
theorem dX3_cheapestSettling_30 : decode cX3_cheapestSettling 30 = .ok (.iload 6, 2) := by decide +kernel
theorem dX3_cheapestSettling_32 : decode cX3_cheapestSettling 32 = .ok (.ldc 111, 2) := by decide +kernel
theorem dX3_cheapestSettling_34 : decode cX3_cheapestSettling 34 = .ok (.if_icmp .eq 33, 3) := by decide +kernel
theorem dX3_cheapestSettling_37 : decode cX3_cheapestSettling 37 = .ok (.iload_n 3, 1) := by decide +kernel
theorem dX3_cheapestSettling_38 : decode cX3_cheapestSettling 38 = .ok (.ldc 111, 2) := by decide +kernel
theorem dX3_cheapestSettling_40 : decode cX3_cheapestSettling 40 = .ok (.if_icmp .eq 10, 3) := by decide +kernel
theorem dX3_cheapestSettling_43 : decode cX3_cheapestSettling 43 = .ok (.iload 6, 2) := by decide +kernel
theorem dX3_cheapestSettling_45 : decode cX3_cheapestSettling 45 = .ok (.iload 4, 2) := by decide +kernel
theorem dX3_cheapestSettling_47 : decode cX3_cheapestSettling 47 = .ok (.if_icmp .ge 20, 3) := by decide +kernel
theorem dX3_cheapestSettling_50 : decode cX3_cheapestSettling 50 = .ok (.aload_n 0, 1) := by decide +kernel
theorem dX3_cheapestSettling_51 : decode cX3_cheapestSettling 51 = .ok (.iload 5, 2) := by decide +kernel
theorem dX3_cheapestSettling_53 : decode cX3_cheapestSettling 53 = .ok (.iload_n 2, 1) := by decide +kernel
theorem dX3_cheapestSettling_54 : decode cX3_cheapestSettling 54 = .ok (.invokevirtual 134, 3) := by decide +kernel
theorem dX3_cheapestSettling_57 : decode cX3_cheapestSettling 57 = .ok (.ifCond .eq 10, 3) := by decide +kernel
theorem dX3_cheapestSettling_60 : decode cX3_cheapestSettling 60 = .ok (.iload 6, 2) := by decide +kernel
theorem dX3_cheapestSettling_62 : decode cX3_cheapestSettling 62 = .ok (.istore 4, 2) := by decide +kernel
theorem dX3_cheapestSettling_64 : decode cX3_cheapestSettling 64 = .ok (.iload 5, 2) := by decide +kernel
theorem dX3_cheapestSettling_66 : decode cX3_cheapestSettling 66 = .ok (.istore_n 3, 1) := by decide +kernel
theorem dX3_cheapestSettling_67 : decode cX3_cheapestSettling 67 = .ok (.iinc 5 1, 3) := by decide +kernel
theorem dX3_cheapestSettling_70 : decode cX3_cheapestSettling 70 = .ok (.goto (-61), 3) := by decide +kernel
theorem dX3_cheapestSettling_73 : decode cX3_cheapestSettling 73 = .ok (.iload_n 3, 1) := by decide +kernel
theorem dX3_cheapestSettling_74 : decode cX3_cheapestSettling 74 = .ok (.ireturn, 1) := by decide +kernel
set_option maxRecDepth 20000 in
theorem ggX3_costOf_X11_has : GoodIn wsX3_costOf wsX11_has := goodIn_r _ [5] (by decide +kernel) (by decide +kernel)
set_option maxRecDepth 20000 in
theorem gX3_costOf_X11_has_n78 : GoodIn wsX3_costOf (wsX11_has) := ggX3_costOf_X11_has
set_option maxRecDepth 20000 in
theorem ggX3_costOf_X3_holds : GoodIn wsX3_costOf wsX3_holds := goodIn_r _ [10, 11, 12, 4, 13, 3, 5, 70, 71, 72, 73, 74, 75, 76, 77, 78, 79, 80, 81, 82, 83, 84] (by decide +kernel) (by decide +kernel)
set_option maxRecDepth 20000 in
theorem gX3_costOf_X3_holds : GoodIn wsX3_costOf (wsV RX3 140 RX3 yX3_holds wsX3_holds) := goodIn_app (goodIn_of _ (by decide +kernel)) ggX3_costOf_X3_holds
set_option maxRecDepth 20000 in
theorem ggX3_costOf_X3_isLeft : GoodIn wsX3_costOf wsX3_isLeft := goodIn_r _ [17, 18, 19, 20, 21, 9, 22, 11, 12, 4, 13, 23, 24, 25, 26, 27, 28, 29, 70, 71, 72, 73, 74, 75, 76, 77, 78, 79, 80, 81, 82, 83, 84] (by decide +kernel) (by decide +kernel)
set_option maxRecDepth 20000 in
theorem gX3_costOf_X3_isLeft : GoodIn wsX3_costOf (wsV RX3 104 RX3 yX3_isLeft wsX3_isLeft) := goodIn_app (goodIn_of _ (by decide +kernel)) ggX3_costOf_X3_isLeft
set_option maxRecDepth 20000 in
theorem ggX3_costOf_X3_priceFor : GoodIn wsX3_costOf wsX3_priceFor := goodIn_r _ [33, 34, 35, 36, 37, 38, 39, 40, 41, 42, 3, 4, 5, 19, 20, 21, 9, 22, 11, 12, 13, 23, 24, 25, 26, 27, 28, 29, 43, 44, 45, 46, 47, 48, 49, 50, 51, 52, 53, 54, 55, 56, 57, 58, 59, 60, 61, 62, 63, 64, 65, 66, 67, 68, 69, 70, 71, 72, 73, 74, 75, 76, 77, 78, 79, 80, 81, 82, 83, 84] (by decide +kernel) (by decide +kernel)
set_option maxRecDepth 20000 in
theorem gX3_costOf_X3_priceFor : GoodIn wsX3_costOf (wsV RX3 107 RX3 yX3_priceFor wsX3_priceFor) := goodIn_app (goodIn_of _ (by decide +kernel)) ggX3_costOf_X3_priceFor
theorem dX3_costOf_0 : decode cX3_costOf 0 = .ok (.iconst 0, 1) := by decide +kernel
theorem dX3_costOf_1 : decode cX3_costOf 1 = .ok (.istore 4, 2) := by decide +kernel
theorem dX3_costOf_3 : decode cX3_costOf 3 = .ok (.iconst 0, 1) := by decide +kernel
theorem dX3_costOf_4 : decode cX3_costOf 4 = .ok (.istore 5, 2) := by decide +kernel
theorem dX3_costOf_6 : decode cX3_costOf 6 = .ok (.iload 5, 2) := by decide +kernel
theorem dX3_costOf_8 : decode cX3_costOf 8 = .ok (.aload_n 0, 1) := by decide +kernel
theorem dX3_costOf_9 : decode cX3_costOf 9 = .ok (.getfield 54, 3) := by decide +kernel
theorem dX3_costOf_12 : decode cX3_costOf 12 = .ok (.if_icmp .ge 55, 3) := by decide +kernel
theorem dX3_costOf_15 : decode cX3_costOf 15 = .ok (.iload_n 2, 1) := by decide +kernel
theorem dX3_costOf_16 : decode cX3_costOf 16 = .ok (.iload 5, 2) := by decide +kernel
theorem dX3_costOf_18 : decode cX3_costOf 18 = .ok (.invokestatic 78, 3) := by decide +kernel
theorem dX3_costOf_21 : decode cX3_costOf 21 = .ok (.ifCond .eq 40, 3) := by decide +kernel
theorem dX3_costOf_24 : decode cX3_costOf 24 = .ok (.aload_n 0, 1) := by decide +kernel
theorem dX3_costOf_25 : decode cX3_costOf 25 = .ok (.iload_n 1, 1) := by decide +kernel
theorem dX3_costOf_26 : decode cX3_costOf 26 = .ok (.iload 5, 2) := by decide +kernel
theorem dX3_costOf_28 : decode cX3_costOf 28 = .ok (.iload_n 3, 1) := by decide +kernel
theorem dX3_costOf_29 : decode cX3_costOf 29 = .ok (.invokevirtual 140, 3) := by decide +kernel
theorem dX3_costOf_32 : decode cX3_costOf 32 = .ok (.ifCond .ne 29, 3) := by decide +kernel
theorem dX3_costOf_35 : decode cX3_costOf 35 = .ok (.aload_n 0, 1) := by decide +kernel
theorem dX3_costOf_36 : decode cX3_costOf 36 = .ok (.iload 5, 2) := by decide +kernel
theorem dX3_costOf_38 : decode cX3_costOf 38 = .ok (.iload_n 3, 1) := by decide +kernel
theorem dX3_costOf_39 : decode cX3_costOf 39 = .ok (.invokevirtual 104, 3) := by decide +kernel
theorem dX3_costOf_42 : decode cX3_costOf 42 = .ok (.ifCond .ne 6, 3) := by decide +kernel
theorem dX3_costOf_45 : decode cX3_costOf 45 = .ok (.ldc 111, 2) := by decide +kernel
theorem dX3_costOf_47 : decode cX3_costOf 47 = .ok (.ireturn, 1) := by decide +kernel
theorem dX3_costOf_48 : decode cX3_costOf 48 = .ok (.iload 4, 2) := by decide +kernel
theorem dX3_costOf_50 : decode cX3_costOf 50 = .ok (.aload_n 0, 1) := by decide +kernel
theorem dX3_costOf_51 : decode cX3_costOf 51 = .ok (.iload_n 1, 1) := by decide +kernel
theorem dX3_costOf_52 : decode cX3_costOf 52 = .ok (.iload 5, 2) := by decide +kernel
theorem dX3_costOf_54 : decode cX3_costOf 54 = .ok (.iload_n 3, 1) := by decide +kernel
theorem dX3_costOf_55 : decode cX3_costOf 55 = .ok (.invokevirtual 107, 3) := by decide +kernel
theorem dX3_costOf_58 : decode cX3_costOf 58 = .ok (.iadd, 1) := by decide +kernel
theorem dX3_costOf_59 : decode cX3_costOf 59 = .ok (.istore 4, 2) := by decide +kernel
theorem dX3_costOf_61 : decode cX3_costOf 61 = .ok (.iinc 5 1, 3) := by decide +kernel
theorem dX3_costOf_64 : decode cX3_costOf 64 = .ok (.goto (-58), 3) := by decide +kernel
theorem dX3_costOf_67 : decode cX3_costOf 67 = .ok (.iload 4, 2) := by decide +kernel
theorem dX3_costOf_69 : decode cX3_costOf 69 = .ok (.ireturn, 1) := by decide +kernel
set_option maxRecDepth 20000 in
theorem ggX3_nextSeatFor_X3_holds : GoodIn wsX3_nextSeatFor wsX3_holds := goodIn_r _ [7, 8, 9, 10, 11, 12, 13, 106, 107, 108, 109, 110, 111, 112, 113, 114, 115, 116, 117, 118, 119, 120] (by decide +kernel) (by decide +kernel)
set_option maxRecDepth 20000 in
theorem gX3_nextSeatFor_X3_holds : GoodIn wsX3_nextSeatFor (wsV RX3 140 RX3 yX3_holds wsX3_holds) := goodIn_app (goodIn_of _ (by decide +kernel)) ggX3_nextSeatFor_X3_holds
set_option maxRecDepth 20000 in
theorem ggX3_nextSeatFor_X3_canBuy : GoodIn wsX3_nextSeatFor wsX3_canBuy := goodIn_r _ [17, 18, 19, 20, 21, 22, 6, 23, 24, 25, 26, 27, 28, 8, 9, 10, 11, 29, 30, 31, 32, 33, 34, 35, 36, 37, 38, 39, 40, 41, 42, 43, 44, 45, 46, 47, 48, 12, 13, 49, 50, 51, 52, 53, 54, 55, 56, 57, 58, 59, 60, 61, 62, 63, 64, 65, 66, 67, 68, 69, 70, 71, 72, 73, 74, 75, 106, 107, 108, 109, 110, 111, 112, 113, 114, 115, 116, 117, 118, 119, 120] (by decide +kernel) (by decide +kernel)
set_option maxRecDepth 20000 in
theorem gX3_nextSeatFor_X3_canBuy : GoodIn wsX3_nextSeatFor (wsV RX3 144 RX3 yX3_canBuy wsX3_canBuy) := goodIn_app (goodIn_of _ (by decide +kernel)) ggX3_nextSeatFor_X3_canBuy
set_option maxRecDepth 20000 in
theorem ggX3_nextSeatFor_X3_takeSeat : GoodIn wsX3_nextSeatFor wsX3_takeSeat := goodIn_r _ [79, 8, 18, 19, 9, 10, 11, 106, 107, 108, 109, 110, 111, 112, 113, 114, 115, 116, 117, 118, 119, 120] (by decide +kernel) (by decide +kernel)
set_option maxRecDepth 20000 in
theorem gX3_nextSeatFor_X3_takeSeat : GoodIn wsX3_nextSeatFor (wsV RX3 147 RX3 yX3_takeSeat wsX3_takeSeat) := goodIn_app (goodIn_of _ (by decide +kernel)) ggX3_nextSeatFor_X3_takeSeat
set_option maxRecDepth 20000 in
theorem ggX3_nextSeatFor_X3_suspectsBy : GoodIn wsX3_nextSeatFor wsX3_suspectsBy := goodIn_r _ [83, 46, 12, 10, 13, 84, 85, 86, 6, 87, 88, 89, 90, 91, 2, 8, 9, 11, 92, 93, 94, 95, 96, 97, 98, 99, 100, 101, 47, 106, 107, 108, 109, 110, 111, 112, 113, 114, 115, 116, 117, 118, 119, 120] (by decide +kernel) (by decide +kernel)
set_option maxRecDepth 20000 in
theorem gX3_nextSeatFor_X3_suspectsBy : GoodIn wsX3_nextSeatFor (wsV RX3 151 RX3 yX3_suspectsBy wsX3_suspectsBy) := goodIn_app (goodIn_of _ (by decide +kernel)) ggX3_nextSeatFor_X3_suspectsBy
set_option maxRecDepth 20000 in
theorem ggX3_nextSeatFor_J6_bitCount_0f7a4 : GoodIn wsX3_nextSeatFor wsJ6_bitCount_0f7a4 := goodIn_r _ [32, 33, 34, 35] (by decide +kernel) (by decide +kernel)
set_option maxRecDepth 20000 in
theorem gX3_nextSeatFor_J6_bitCount_0f7a4 : GoodIn wsX3_nextSeatFor (va_wsS RX3 86 yJ6_bitCount_0f7a4 wsJ6_bitCount_0f7a4) := goodIn_app (goodIn_of _ (by decide +kernel)) ggX3_nextSeatFor_J6_bitCount_0f7a4
set_option maxRecDepth 20000 in
theorem ggX3_nextSeatFor_X3_leaveSeat : GoodIn wsX3_nextSeatFor wsX3_leaveSeat := goodIn_r _ [105, 8, 18, 19, 9, 10, 11, 106, 107, 108, 109, 110, 111, 112, 113, 114, 115, 116, 117, 118, 119, 120] (by decide +kernel) (by decide +kernel)
set_option maxRecDepth 20000 in
theorem gX3_nextSeatFor_X3_leaveSeat : GoodIn wsX3_nextSeatFor (wsV RX3 154 RX3 yX3_leaveSeat wsX3_leaveSeat) := goodIn_app (goodIn_of _ (by decide +kernel)) ggX3_nextSeatFor_X3_leaveSeat
set_option maxRecDepth 20000 in
theorem ggX3_nextSeatFor_X11_seatNumber : GoodIn wsX3_nextSeatFor wsX11_seatNumber := goodIn_r _ [11] (by decide +kernel) (by decide +kernel)
set_option maxRecDepth 20000 in
theorem gX3_nextSeatFor_X11_seatNumber_n82 : GoodIn wsX3_nextSeatFor (wsX11_seatNumber) := ggX3_nextSeatFor_X11_seatNumber
theorem dX3_nextSeatFor_0 : decode cX3_nextSeatFor 0 = .ok (.ldc 111, 2) := by decide +kernel
theorem dX3_nextSeatFor_2 : decode cX3_nextSeatFor 2 = .ok (.istore 4, 2) := by decide +kernel
theorem dX3_nextSeatFor_4 : decode cX3_nextSeatFor 4 = .ok (.iconst 5, 1) := by decide +kernel
theorem dX3_nextSeatFor_5 : decode cX3_nextSeatFor 5 = .ok (.istore 5, 2) := by decide +kernel
theorem dX3_nextSeatFor_7 : decode cX3_nextSeatFor 7 = .ok (.iconst 0, 1) := by decide +kernel
theorem dX3_nextSeatFor_8 : decode cX3_nextSeatFor 8 = .ok (.istore 6, 2) := by decide +kernel
theorem dX3_nextSeatFor_10 : decode cX3_nextSeatFor 10 = .ok (.iload 6, 2) := by decide +kernel
theorem dX3_nextSeatFor_12 : decode cX3_nextSeatFor 12 = .ok (.bipush 8, 2) := by decide +kernel
theorem dX3_nextSeatFor_14 : decode cX3_nextSeatFor 14 = .ok (.if_icmp .ge 105, 3) := by decide +kernel
theorem dX3_nextSeatFor_17 : decode cX3_nextSeatFor 17 = .ok (.iconst 0, 1) := by decide +kernel
theorem dX3_nextSeatFor_18 : decode cX3_nextSeatFor 18 = .ok (.istore 7, 2) := by decide +kernel
theorem dX3_nextSeatFor_20 : decode cX3_nextSeatFor 20 = .ok (.iload 7, 2) := by decide +kernel
theorem dX3_nextSeatFor_22 : decode cX3_nextSeatFor 22 = .ok (.aload_n 0, 1) := by decide +kernel
theorem dX3_nextSeatFor_23 : decode cX3_nextSeatFor 23 = .ok (.getfield 54, 3) := by decide +kernel
theorem dX3_nextSeatFor_26 : decode cX3_nextSeatFor 26 = .ok (.if_icmp .ge 87, 3) := by decide +kernel
theorem dX3_nextSeatFor_29 : decode cX3_nextSeatFor 29 = .ok (.aload_n 0, 1) := by decide +kernel
theorem dX3_nextSeatFor_30 : decode cX3_nextSeatFor 30 = .ok (.iload_n 1, 1) := by decide +kernel
theorem dX3_nextSeatFor_31 : decode cX3_nextSeatFor 31 = .ok (.iload 7, 2) := by decide +kernel
theorem dX3_nextSeatFor_33 : decode cX3_nextSeatFor 33 = .ok (.iload 6, 2) := by decide +kernel
theorem dX3_nextSeatFor_35 : decode cX3_nextSeatFor 35 = .ok (.invokevirtual 140, 3) := by decide +kernel
theorem dX3_nextSeatFor_38 : decode cX3_nextSeatFor 38 = .ok (.ifCond .ne 69, 3) := by decide +kernel
theorem dX3_nextSeatFor_41 : decode cX3_nextSeatFor 41 = .ok (.aload_n 0, 1) := by decide +kernel
theorem dX3_nextSeatFor_42 : decode cX3_nextSeatFor 42 = .ok (.iload_n 1, 1) := by decide +kernel
theorem dX3_nextSeatFor_43 : decode cX3_nextSeatFor 43 = .ok (.iload 7, 2) := by decide +kernel
theorem dX3_nextSeatFor_45 : decode cX3_nextSeatFor 45 = .ok (.iload 6, 2) := by decide +kernel
theorem dX3_nextSeatFor_47 : decode cX3_nextSeatFor 47 = .ok (.invokevirtual 144, 3) := by decide +kernel
theorem dX3_nextSeatFor_50 : decode cX3_nextSeatFor 50 = .ok (.ifCond .eq 57, 3) := by decide +kernel
theorem dX3_nextSeatFor_53 : decode cX3_nextSeatFor 53 = .ok (.aload_n 0, 1) := by decide +kernel
theorem dX3_nextSeatFor_54 : decode cX3_nextSeatFor 54 = .ok (.iload_n 1, 1) := by decide +kernel
theorem dX3_nextSeatFor_55 : decode cX3_nextSeatFor 55 = .ok (.iload 7, 2) := by decide +kernel
theorem dX3_nextSeatFor_57 : decode cX3_nextSeatFor 57 = .ok (.iload 6, 2) := by decide +kernel
theorem dX3_nextSeatFor_59 : decode cX3_nextSeatFor 59 = .ok (.iconst 0, 1) := by decide +kernel
theorem dX3_nextSeatFor_60 : decode cX3_nextSeatFor 60 = .ok (.invokevirtual 147, 3) := by decide +kernel
theorem dX3_nextSeatFor_63 : decode cX3_nextSeatFor 63 = .ok (.aload_n 0, 1) := by decide +kernel
theorem dX3_nextSeatFor_64 : decode cX3_nextSeatFor 64 = .ok (.iconst 1, 1) := by decide +kernel
theorem dX3_nextSeatFor_65 : decode cX3_nextSeatFor 65 = .ok (.iload_n 1, 1) := by decide +kernel
theorem dX3_nextSeatFor_66 : decode cX3_nextSeatFor 66 = .ok (.ishl, 1) := by decide +kernel
theorem dX3_nextSeatFor_67 : decode cX3_nextSeatFor 67 = .ok (.iload_n 2, 1) := by decide +kernel
theorem dX3_nextSeatFor_68 : decode cX3_nextSeatFor 68 = .ok (.iload_n 3, 1) := by decide +kernel
theorem dX3_nextSeatFor_69 : decode cX3_nextSeatFor 69 = .ok (.invokevirtual 151, 3) := by decide +kernel
theorem dX3_nextSeatFor_72 : decode cX3_nextSeatFor 72 = .ok (.invokestatic 86, 3) := by decide +kernel
theorem dX3_nextSeatFor_75 : decode cX3_nextSeatFor 75 = .ok (.istore 8, 2) := by decide +kernel
theorem dX3_nextSeatFor_77 : decode cX3_nextSeatFor 77 = .ok (.aload_n 0, 1) := by decide +kernel
theorem dX3_nextSeatFor_78 : decode cX3_nextSeatFor 78 = .ok (.iload_n 1, 1) := by decide +kernel
theorem dX3_nextSeatFor_79 : decode cX3_nextSeatFor 79 = .ok (.iload 7, 2) := by decide +kernel
theorem dX3_nextSeatFor_81 : decode cX3_nextSeatFor 81 = .ok (.iload 6, 2) := by decide +kernel
theorem dX3_nextSeatFor_83 : decode cX3_nextSeatFor 83 = .ok (.iconst 0, 1) := by decide +kernel
theorem dX3_nextSeatFor_84 : decode cX3_nextSeatFor 84 = .ok (.invokevirtual 154, 3) := by decide +kernel
theorem dX3_nextSeatFor_87 : decode cX3_nextSeatFor 87 = .ok (.iload 8, 2) := by decide +kernel
theorem dX3_nextSeatFor_89 : decode cX3_nextSeatFor 89 = .ok (.iload 5, 2) := by decide +kernel
theorem dX3_nextSeatFor_91 : decode cX3_nextSeatFor 91 = .ok (.if_icmp .ge 16, 3) := by decide +kernel
theorem dX3_nextSeatFor_94 : decode cX3_nextSeatFor 94 = .ok (.iload 8, 2) := by decide +kernel
theorem dX3_nextSeatFor_96 : decode cX3_nextSeatFor 96 = .ok (.istore 5, 2) := by decide +kernel
theorem dX3_nextSeatFor_98 : decode cX3_nextSeatFor 98 = .ok (.iload 7, 2) := by decide +kernel
theorem dX3_nextSeatFor_100 : decode cX3_nextSeatFor 100 = .ok (.iload 6, 2) := by decide +kernel
theorem dX3_nextSeatFor_102 : decode cX3_nextSeatFor 102 = .ok (.invokestatic 82, 3) := by decide +kernel
theorem dX3_nextSeatFor_105 : decode cX3_nextSeatFor 105 = .ok (.istore 4, 2) := by decide +kernel
theorem dX3_nextSeatFor_107 : decode cX3_nextSeatFor 107 = .ok (.iinc 7 1, 3) := by decide +kernel
theorem dX3_nextSeatFor_110 : decode cX3_nextSeatFor 110 = .ok (.goto (-90), 3) := by decide +kernel
theorem dX3_nextSeatFor_113 : decode cX3_nextSeatFor 113 = .ok (.iinc 6 1, 3) := by decide +kernel
theorem dX3_nextSeatFor_116 : decode cX3_nextSeatFor 116 = .ok (.goto (-106), 3) := by decide +kernel
theorem dX3_nextSeatFor_119 : decode cX3_nextSeatFor 119 = .ok (.iload 4, 2) := by decide +kernel
theorem dX3_nextSeatFor_121 : decode cX3_nextSeatFor 121 = .ok (.ireturn, 1) := by decide +kernel
set_option maxRecDepth 20000 in
theorem ggX3_followedFrom_X3_costToSee : GoodIn wsX3_followedFrom wsX3_costToSee := goodIn_r _ [7, 2, 8, 9, 10, 11, 12, 13, 14, 15, 6, 16, 17, 18, 19, 20, 21, 22, 23, 24, 25, 26, 27, 28, 29, 30, 31, 32, 33, 34, 35, 36, 37, 38, 39, 40, 41, 42, 43, 44, 45, 46, 47, 48, 49, 50, 51, 52, 53, 54, 55, 56, 57, 58, 59, 60, 61, 62, 63, 64, 65, 66, 67, 68, 69, 70, 71, 72, 73, 74, 75, 76, 77, 78, 79, 80, 81, 82, 83, 84, 85, 86, 87, 88, 89, 90, 91, 92, 93, 94, 95, 96, 97, 98, 99, 100, 101, 102, 103, 104, 105, 106] (by decide +kernel) (by decide +kernel)
set_option maxRecDepth 20000 in
theorem gX3_followedFrom_X3_costToSee : GoodIn wsX3_followedFrom (wsV RX3 157 RX3 yX3_costToSee wsX3_costToSee) := goodIn_app (goodIn_of _ (by decide +kernel)) ggX3_followedFrom_X3_costToSee
theorem dX3_followedFrom_0 : decode cX3_followedFrom 0 = .ok (.aload_n 0, 1) := by decide +kernel
theorem dX3_followedFrom_1 : decode cX3_followedFrom 1 = .ok (.getfield 24, 3) := by decide +kernel
theorem dX3_followedFrom_4 : decode cX3_followedFrom 4 = .ok (.iload_n 1, 1) := by decide +kernel
theorem dX3_followedFrom_5 : decode cX3_followedFrom 5 = .ok (.iaload, 1) := by decide +kernel
theorem dX3_followedFrom_6 : decode cX3_followedFrom 6 = .ok (.istore 4, 2) := by decide +kernel
theorem dX3_followedFrom_8 : decode cX3_followedFrom 8 = .ok (.iload_n 3, 1) := by decide +kernel
theorem dX3_followedFrom_9 : decode cX3_followedFrom 9 = .ok (.istore 5, 2) := by decide +kernel
theorem dX3_followedFrom_11 : decode cX3_followedFrom 11 = .ok (.iload 5, 2) := by decide +kernel
theorem dX3_followedFrom_13 : decode cX3_followedFrom 13 = .ok (.bipush 8, 2) := by decide +kernel
theorem dX3_followedFrom_15 : decode cX3_followedFrom 15 = .ok (.if_icmp .ge 45, 3) := by decide +kernel
theorem dX3_followedFrom_18 : decode cX3_followedFrom 18 = .ok (.aload_n 0, 1) := by decide +kernel
theorem dX3_followedFrom_19 : decode cX3_followedFrom 19 = .ok (.iload_n 1, 1) := by decide +kernel
theorem dX3_followedFrom_20 : decode cX3_followedFrom 20 = .ok (.iload_n 2, 1) := by decide +kernel
theorem dX3_followedFrom_21 : decode cX3_followedFrom 21 = .ok (.iload 5, 2) := by decide +kernel
theorem dX3_followedFrom_23 : decode cX3_followedFrom 23 = .ok (.invokevirtual 157, 3) := by decide +kernel
theorem dX3_followedFrom_26 : decode cX3_followedFrom 26 = .ok (.istore 6, 2) := by decide +kernel
theorem dX3_followedFrom_28 : decode cX3_followedFrom 28 = .ok (.iload 6, 2) := by decide +kernel
theorem dX3_followedFrom_30 : decode cX3_followedFrom 30 = .ok (.ldc 111, 2) := by decide +kernel
theorem dX3_followedFrom_32 : decode cX3_followedFrom 32 = .ok (.if_icmp .eq 10, 3) := by decide +kernel
theorem dX3_followedFrom_35 : decode cX3_followedFrom 35 = .ok (.iload 6, 2) := by decide +kernel
theorem dX3_followedFrom_37 : decode cX3_followedFrom 37 = .ok (.iload 4, 2) := by decide +kernel
theorem dX3_followedFrom_39 : decode cX3_followedFrom 39 = .ok (.if_icmp .le 8, 3) := by decide +kernel
theorem dX3_followedFrom_42 : decode cX3_followedFrom 42 = .ok (.iload 5, 2) := by decide +kernel
theorem dX3_followedFrom_44 : decode cX3_followedFrom 44 = .ok (.iload_n 3, 1) := by decide +kernel
theorem dX3_followedFrom_45 : decode cX3_followedFrom 45 = .ok (.isub, 1) := by decide +kernel
theorem dX3_followedFrom_46 : decode cX3_followedFrom 46 = .ok (.ireturn, 1) := by decide +kernel
theorem dX3_followedFrom_47 : decode cX3_followedFrom 47 = .ok (.iload 4, 2) := by decide +kernel
theorem dX3_followedFrom_49 : decode cX3_followedFrom 49 = .ok (.iload 6, 2) := by decide +kernel
theorem dX3_followedFrom_51 : decode cX3_followedFrom 51 = .ok (.isub, 1) := by decide +kernel
theorem dX3_followedFrom_52 : decode cX3_followedFrom 52 = .ok (.istore 4, 2) := by decide +kernel
theorem dX3_followedFrom_54 : decode cX3_followedFrom 54 = .ok (.iinc 5 1, 3) := by decide +kernel
theorem dX3_followedFrom_57 : decode cX3_followedFrom 57 = .ok (.goto (-46), 3) := by decide +kernel
theorem dX3_followedFrom_60 : decode cX3_followedFrom 60 = .ok (.bipush 8, 2) := by decide +kernel
theorem dX3_followedFrom_62 : decode cX3_followedFrom 62 = .ok (.iload_n 3, 1) := by decide +kernel
theorem dX3_followedFrom_63 : decode cX3_followedFrom 63 = .ok (.isub, 1) := by decide +kernel
theorem dX3_followedFrom_64 : decode cX3_followedFrom 64 = .ok (.ireturn, 1) := by decide +kernel
set_option maxRecDepth 20000 in
theorem ggX3_costToSee_X3_seenBy : GoodIn wsX3_costToSee wsX3_seenBy := goodIn_r _ [11, 1, 12, 13, 14, 10, 15, 16, 17, 18, 19, 20, 2, 21, 22, 23, 24, 25, 26, 27, 28, 29, 30, 31, 32, 87, 88, 89, 90, 91, 92, 93, 94, 95, 96, 97, 98, 99, 100, 101] (by decide +kernel) (by decide +kernel)
set_option maxRecDepth 20000 in
theorem gX3_costToSee_X3_seenBy : GoodIn wsX3_costToSee (wsV RX3 121 RX3 yX3_seenBy wsX3_seenBy) := goodIn_app (goodIn_of _ (by decide +kernel)) ggX3_costToSee_X3_seenBy
set_option maxRecDepth 20000 in
theorem ggX3_costToSee_X3_viewOf : GoodIn wsX3_costToSee wsX3_viewOf := goodIn_r _ [28, 29, 30, 22, 23, 24, 87, 88, 89, 90, 91, 92, 93, 94, 95, 96, 97, 98, 99, 100, 101] (by decide +kernel) (by decide +kernel)
set_option maxRecDepth 20000 in
theorem gX3_costToSee_X3_viewOf : GoodIn wsX3_costToSee (wsV RX3 112 RX3 yX3_viewOf wsX3_viewOf) := goodIn_app (goodIn_of _ (by decide +kernel)) ggX3_costToSee_X3_viewOf
set_option maxRecDepth 20000 in
theorem ggX3_costToSee_X3_roomOf : GoodIn wsX3_costToSee wsX3_roomOf := goodIn_r _ [15, 16, 87, 88, 89, 90, 91, 92, 93, 94, 95, 96, 97, 98, 99, 100, 101] (by decide +kernel) (by decide +kernel)
set_option maxRecDepth 20000 in
theorem gX3_costToSee_X3_roomOf : GoodIn wsX3_costToSee (wsV RX3 118 RX3 yX3_roomOf wsX3_roomOf) := goodIn_app (goodIn_of _ (by decide +kernel)) ggX3_costToSee_X3_roomOf
set_option maxRecDepth 20000 in
theorem ggX3_costToSee_X11_has : GoodIn wsX3_costToSee wsX11_has := goodIn_r _ [32] (by decide +kernel) (by decide +kernel)
set_option maxRecDepth 20000 in
theorem gX3_costToSee_X11_has_n78 : GoodIn wsX3_costToSee (wsX11_has) := ggX3_costToSee_X11_has
set_option maxRecDepth 20000 in
theorem ggX3_costToSee_X3_isLeft : GoodIn wsX3_costToSee wsX3_isLeft := goodIn_r _ [36, 37, 38, 39, 40, 10, 41, 21, 22, 23, 24, 42, 43, 44, 45, 46, 47, 48, 87, 88, 89, 90, 91, 92, 93, 94, 95, 96, 97, 98, 99, 100, 101] (by decide +kernel) (by decide +kernel)
set_option maxRecDepth 20000 in
theorem gX3_costToSee_X3_isLeft : GoodIn wsX3_costToSee (wsV RX3 104 RX3 yX3_isLeft wsX3_isLeft) := goodIn_app (goodIn_of _ (by decide +kernel)) ggX3_costToSee_X3_isLeft
set_option maxRecDepth 20000 in
theorem ggX3_costToSee_X3_priceFor : GoodIn wsX3_costToSee wsX3_priceFor := goodIn_r _ [52, 53, 54, 55, 56, 5, 57, 58, 16, 59, 31, 23, 32, 38, 39, 40, 10, 41, 21, 22, 24, 42, 43, 44, 45, 46, 47, 48, 60, 61, 62, 63, 64, 65, 66, 67, 68, 69, 70, 71, 72, 73, 74, 75, 76, 77, 78, 79, 80, 81, 82, 83, 84, 85, 86, 87, 88, 89, 90, 91, 92, 93, 94, 95, 96, 97, 98, 99, 100, 101] (by decide +kernel) (by decide +kernel)
set_option maxRecDepth 20000 in
theorem gX3_costToSee_X3_priceFor : GoodIn wsX3_costToSee (wsV RX3 107 RX3 yX3_priceFor wsX3_priceFor) := goodIn_app (goodIn_of _ (by decide +kernel)) ggX3_costToSee_X3_priceFor
theorem dX3_costToSee_0 : decode cX3_costToSee 0 = .ok (.aload_n 0, 1) := by decide +kernel
theorem dX3_costToSee_1 : decode cX3_costToSee 1 = .ok (.iconst 1, 1) := by decide +kernel
theorem dX3_costToSee_2 : decode cX3_costToSee 2 = .ok (.iload_n 1, 1) := by decide +kernel
theorem dX3_costToSee_3 : decode cX3_costToSee 3 = .ok (.ishl, 1) := by decide +kernel
theorem dX3_costToSee_4 : decode cX3_costToSee 4 = .ok (.iload_n 2, 1) := by decide +kernel
theorem dX3_costToSee_5 : decode cX3_costToSee 5 = .ok (.iload_n 3, 1) := by decide +kernel
theorem dX3_costToSee_6 : decode cX3_costToSee 6 = .ok (.invokevirtual 121, 3) := by decide +kernel
theorem dX3_costToSee_9 : decode cX3_costToSee 9 = .ok (.ldc 111, 2) := by decide +kernel
theorem dX3_costToSee_11 : decode cX3_costToSee 11 = .ok (.if_icmp .eq 5, 3) := by decide +kernel
theorem dX3_costToSee_14 : decode cX3_costToSee 14 = .ok (.iconst 0, 1) := by decide +kernel
theorem dX3_costToSee_15 : decode cX3_costToSee 15 = .ok (.ireturn, 1) := by decide +kernel
theorem dX3_costToSee_16 : decode cX3_costToSee 16 = .ok (.ldc 111, 2) := by decide +kernel
theorem dX3_costToSee_18 : decode cX3_costToSee 18 = .ok (.istore 4, 2) := by decide +kernel
theorem dX3_costToSee_20 : decode cX3_costToSee 20 = .ok (.iconst 0, 1) := by decide +kernel
theorem dX3_costToSee_21 : decode cX3_costToSee 21 = .ok (.istore 5, 2) := by decide +kernel
theorem dX3_costToSee_23 : decode cX3_costToSee 23 = .ok (.iload 5, 2) := by decide +kernel
theorem dX3_costToSee_25 : decode cX3_costToSee 25 = .ok (.aload_n 0, 1) := by decide +kernel
theorem dX3_costToSee_26 : decode cX3_costToSee 26 = .ok (.getfield 54, 3) := by decide +kernel
theorem dX3_costToSee_29 : decode cX3_costToSee 29 = .ok (.if_icmp .ge 73, 3) := by decide +kernel
theorem dX3_costToSee_32 : decode cX3_costToSee 32 = .ok (.aload_n 0, 1) := by decide +kernel
theorem dX3_costToSee_33 : decode cX3_costToSee 33 = .ok (.iload 5, 2) := by decide +kernel
theorem dX3_costToSee_35 : decode cX3_costToSee 35 = .ok (.iload_n 3, 1) := by decide +kernel
theorem dX3_costToSee_36 : decode cX3_costToSee 36 = .ok (.invokevirtual 112, 3) := by decide +kernel
theorem dX3_costToSee_39 : decode cX3_costToSee 39 = .ok (.aload_n 0, 1) := by decide +kernel
theorem dX3_costToSee_40 : decode cX3_costToSee 40 = .ok (.iload_n 2, 1) := by decide +kernel
theorem dX3_costToSee_41 : decode cX3_costToSee 41 = .ok (.iload_n 3, 1) := by decide +kernel
theorem dX3_costToSee_42 : decode cX3_costToSee 42 = .ok (.invokevirtual 118, 3) := by decide +kernel
theorem dX3_costToSee_45 : decode cX3_costToSee 45 = .ok (.invokestatic 78, 3) := by decide +kernel
theorem dX3_costToSee_48 : decode cX3_costToSee 48 = .ok (.istore 6, 2) := by decide +kernel
theorem dX3_costToSee_50 : decode cX3_costToSee 50 = .ok (.iload 6, 2) := by decide +kernel
theorem dX3_costToSee_52 : decode cX3_costToSee 52 = .ok (.ifCond .eq 44, 3) := by decide +kernel
theorem dX3_costToSee_55 : decode cX3_costToSee 55 = .ok (.aload_n 0, 1) := by decide +kernel
theorem dX3_costToSee_56 : decode cX3_costToSee 56 = .ok (.iload 5, 2) := by decide +kernel
theorem dX3_costToSee_58 : decode cX3_costToSee 58 = .ok (.iload_n 3, 1) := by decide +kernel
theorem dX3_costToSee_59 : decode cX3_costToSee 59 = .ok (.invokevirtual 104, 3) := by decide +kernel
theorem dX3_costToSee_62 : decode cX3_costToSee 62 = .ok (.ifCond .eq 34, 3) := by decide +kernel
theorem dX3_costToSee_65 : decode cX3_costToSee 65 = .ok (.aload_n 0, 1) := by decide +kernel
theorem dX3_costToSee_66 : decode cX3_costToSee 66 = .ok (.iload_n 1, 1) := by decide +kernel
theorem dX3_costToSee_67 : decode cX3_costToSee 67 = .ok (.iload 5, 2) := by decide +kernel
theorem dX3_costToSee_69 : decode cX3_costToSee 69 = .ok (.iload_n 3, 1) := by decide +kernel
theorem dX3_costToSee_70 : decode cX3_costToSee 70 = .ok (.invokevirtual 107, 3) := by decide +kernel
theorem dX3_costToSee_73 : decode cX3_costToSee 73 = .ok (.istore 7, 2) := by decide +kernel
theorem dX3_costToSee_75 : decode cX3_costToSee 75 = .ok (.iload 4, 2) := by decide +kernel
theorem dX3_costToSee_77 : decode cX3_costToSee 77 = .ok (.ldc 111, 2) := by decide +kernel
theorem dX3_costToSee_79 : decode cX3_costToSee 79 = .ok (.if_icmp .ne 8, 3) := by decide +kernel
theorem dX3_costToSee_82 : decode cX3_costToSee 82 = .ok (.iload 7, 2) := by decide +kernel
theorem dX3_costToSee_84 : decode cX3_costToSee 84 = .ok (.goto 10, 3) := by decide +kernel
theorem dX3_costToSee_87 : decode cX3_costToSee 87 = .ok (.iload 4, 2) := by decide +kernel
theorem dX3_costToSee_89 : decode cX3_costToSee 89 = .ok (.iload 7, 2) := by decide +kernel
theorem dX3_costToSee_91 : decode cX3_costToSee 91 = .ok (.invokestatic 160, 3) := by decide +kernel
theorem dX3_costToSee_94 : decode cX3_costToSee 94 = .ok (.istore 4, 2) := by decide +kernel
theorem dX3_costToSee_96 : decode cX3_costToSee 96 = .ok (.iinc 5 1, 3) := by decide +kernel
theorem dX3_costToSee_99 : decode cX3_costToSee 99 = .ok (.goto (-76), 3) := by decide +kernel
theorem dX3_costToSee_102 : decode cX3_costToSee 102 = .ok (.iload 4, 2) := by decide +kernel
theorem dX3_costToSee_104 : decode cX3_costToSee 104 = .ok (.ireturn, 1) := by decide +kernel
set_option maxRecDepth 20000 in
theorem ggX4_init_X7_init : GoodIn wsX4_init wsX7_init := goodIn_r _ [4, 5, 6, 7, 8, 9, 10, 11, 12, 13, 14, 15, 16, 17] (by decide +kernel) (by decide +kernel)
set_option maxRecDepth 20000 in
theorem gX4_init_X7_init : GoodIn wsX4_init (wsX7_init) := ggX4_init_X7_init
theorem dX4_init_0 : decode cX4_init 0 = .ok (.aload_n 0, 1) := by decide +kernel
theorem dX4_init_1 : decode cX4_init 1 = .ok (.iload_n 1, 1) := by decide +kernel
theorem dX4_init_2 : decode cX4_init 2 = .ok (.invokespecial 1, 3) := by decide +kernel
theorem dX4_init_5 : decode cX4_init 5 = .ok (.return_, 1) := by decide +kernel
theorem dX4_kindNumber_0 : decode cX4_kindNumber 0 = .ok (.iconst 2, 1) := by decide +kernel
theorem dX4_kindNumber_1 : decode cX4_kindNumber 1 = .ok (.ireturn, 1) := by decide +kernel
theorem dX4_priceFrom_0 : decode cX4_priceFrom 0 = .ok (.iload_n 1, 1) := by decide +kernel
theorem dX4_priceFrom_1 : decode cX4_priceFrom 1 = .ok (.iconst 1, 1) := by decide +kernel
theorem dX4_priceFrom_2 : decode cX4_priceFrom 2 = .ok (.iadd, 1) := by decide +kernel
theorem dX4_priceFrom_3 : decode cX4_priceFrom 3 = .ok (.ireturn, 1) := by decide +kernel
theorem dX4_tells_0 : decode cX4_tells 0 = .ok (.iload_n 1, 1) := by decide +kernel
theorem dX4_tells_1 : decode cX4_tells 1 = .ok (.iconst 1, 1) := by decide +kernel
theorem dX4_tells_2 : decode cX4_tells 2 = .ok (.iadd, 1) := by decide +kernel
theorem dX4_tells_3 : decode cX4_tells 3 = .ok (.iload_n 2, 1) := by decide +kernel
theorem dX4_tells_4 : decode cX4_tells 4 = .ok (.if_icmp .ge 9, 3) := by decide +kernel
theorem dX4_tells_7 : decode cX4_tells 7 = .ok (.iload_n 1, 1) := by decide +kernel
theorem dX4_tells_8 : decode cX4_tells 8 = .ok (.iconst 1, 1) := by decide +kernel
theorem dX4_tells_9 : decode cX4_tells 9 = .ok (.iadd, 1) := by decide +kernel
theorem dX4_tells_10 : decode cX4_tells 10 = .ok (.goto 4, 3) := by decide +kernel
theorem dX4_tells_13 : decode cX4_tells 13 = .ok (.iconst 0, 1) := by decide +kernel
theorem dX4_tells_14 : decode cX4_tells 14 = .ok (.ireturn, 1) := by decide +kernel
set_option maxRecDepth 20000 in
theorem ggX4_size_X8_begin : GoodIn wsX4_size wsX8_begin := goodIn_r _ [5, 6, 7, 55, 56] (by decide +kernel) (by decide +kernel)
set_option maxRecDepth 20000 in
theorem gX4_size_X8_begin : GoodIn wsX4_size (wsV RX4 9 RX8 yX8_begin wsX8_begin) := goodIn_app (goodIn_of _ (by decide +kernel)) ggX4_size_X8_begin
set_option maxRecDepth 20000 in
theorem ggX4_size_X7_size : GoodIn wsX4_size wsX7_size := goodIn_r _ [13, 14, 2, 3, 4, 5, 6, 7, 15, 16, 17, 18, 19, 20, 21, 22, 23, 24, 25, 26, 27, 28, 29, 30, 31, 32, 33, 34, 12, 35, 36, 37, 38, 39, 40, 41, 42, 43, 44, 45, 46, 47, 48, 49, 50, 51, 1, 52, 10, 53, 54, 55, 56, 57, 58, 59, 60, 61, 62, 63, 64, 65, 66, 67, 68, 69, 70, 71, 72, 73, 74, 75, 76] (by decide +kernel) (by decide +kernel)
set_option maxRecDepth 20000 in
theorem gX4_size_X7_size_s14 : GoodIn wsX4_size (va_wsSU RX4 14 yX7_size wsX7_size) := goodIn_app (goodIn_of _ (by decide +kernel)) ggX4_size_X7_size
theorem dX4_size_0 : decode cX4_size 0 = .ok (.aload_n 2, 1) := by decide +kernel
theorem dX4_size_1 : decode cX4_size 1 = .ok (.bipush 12, 2) := by decide +kernel
theorem dX4_size_3 : decode cX4_size 3 = .ok (.invokevirtual 9, 3) := by decide +kernel
theorem dX4_size_6 : decode cX4_size 6 = .ok (.aload_n 0, 1) := by decide +kernel
theorem dX4_size_7 : decode cX4_size 7 = .ok (.aload_n 1, 1) := by decide +kernel
theorem dX4_size_8 : decode cX4_size 8 = .ok (.aload_n 2, 1) := by decide +kernel
theorem dX4_size_9 : decode cX4_size 9 = .ok (.invokespecial 14, 3) := by decide +kernel
theorem dX4_size_12 : decode cX4_size 12 = .ok (.ineg, 1) := by decide +kernel
theorem dX4_size_13 : decode cX4_size 13 = .ok (.ireturn, 1) := by decide +kernel
set_option maxRecDepth 20000 in
theorem ggX4_mark_X8_begin : GoodIn wsX4_mark wsX8_begin := goodIn_r _ [5, 6, 7, 31, 32] (by decide +kernel) (by decide +kernel)
set_option maxRecDepth 20000 in
theorem gX4_mark_X8_begin : GoodIn wsX4_mark (wsV RX4 9 RX8 yX8_begin wsX8_begin) := goodIn_app (goodIn_of _ (by decide +kernel)) ggX4_mark_X8_begin
set_option maxRecDepth 20000 in
theorem ggX4_mark_X7_mark : GoodIn wsX4_mark wsX7_mark := goodIn_r _ [13, 14, 15, 16, 2, 3, 4, 5, 6, 7, 17, 18, 19, 20, 21, 22, 23, 24, 25, 26, 27, 28, 29, 30, 33, 34, 35, 36, 37, 31, 32, 38, 39, 40, 41, 42, 43, 44, 45, 46, 47, 48, 49, 50, 51, 52] (by decide +kernel) (by decide +kernel)
set_option maxRecDepth 20000 in
theorem gX4_mark_X7_mark_s18 : GoodIn wsX4_mark (va_wsSU RX4 18 yX7_mark wsX7_mark) := goodIn_app (goodIn_of _ (by decide +kernel)) ggX4_mark_X7_mark
theorem dX4_mark_0 : decode cX4_mark 0 = .ok (.aload_n 2, 1) := by decide +kernel
theorem dX4_mark_1 : decode cX4_mark 1 = .ok (.bipush 24, 2) := by decide +kernel
theorem dX4_mark_3 : decode cX4_mark 3 = .ok (.invokevirtual 9, 3) := by decide +kernel
theorem dX4_mark_6 : decode cX4_mark 6 = .ok (.iconst 2, 1) := by decide +kernel
theorem dX4_mark_7 : decode cX4_mark 7 = .ok (.aload_n 0, 1) := by decide +kernel
theorem dX4_mark_8 : decode cX4_mark 8 = .ok (.aload_n 1, 1) := by decide +kernel
theorem dX4_mark_9 : decode cX4_mark 9 = .ok (.aload_n 2, 1) := by decide +kernel
theorem dX4_mark_10 : decode cX4_mark 10 = .ok (.invokespecial 18, 3) := by decide +kernel
theorem dX4_mark_13 : decode cX4_mark 13 = .ok (.imul, 1) := by decide +kernel
theorem dX4_mark_14 : decode cX4_mark 14 = .ok (.ireturn, 1) := by decide +kernel
theorem dX5_init_0 : decode cX5_init 0 = .ok (.aload_n 0, 1) := by decide +kernel
theorem dX5_init_1 : decode cX5_init 1 = .ok (.invokespecial 3, 3) := by decide +kernel
theorem dX5_init_4 : decode cX5_init 4 = .ok (.aload_n 0, 1) := by decide +kernel
theorem dX5_init_5 : decode cX5_init 5 = .ok (.bipush 40, 2) := by decide +kernel
theorem dX5_init_7 : decode cX5_init 7 = .ok (.newarray .int, 2) := by decide +kernel
theorem dX5_init_9 : decode cX5_init 9 = .ok (.putfield 9, 3) := by decide +kernel
theorem dX5_init_12 : decode cX5_init 12 = .ok (.aload_n 0, 1) := by decide +kernel
theorem dX5_init_13 : decode cX5_init 13 = .ok (.iconst 1, 1) := by decide +kernel
theorem dX5_init_14 : decode cX5_init 14 = .ok (.putfield 15, 3) := by decide +kernel
theorem dX5_init_17 : decode cX5_init 17 = .ok (.return_, 1) := by decide +kernel
set_option maxRecDepth 20000 in
theorem ggX5_begin_J7_fill_53178 : GoodIn wsX5_begin wsJ7_fill_53178 := goodIn_r _ [8] (by decide +kernel) (by decide +kernel)
set_option maxRecDepth 20000 in
theorem gX5_begin_J7_fill_53178 : GoodIn wsX5_begin (va_wsS RX5 19 yJ7_fill_53178 wsJ7_fill_53178) := goodIn_app (goodIn_of _ (by decide +kernel)) ggX5_begin_J7_fill_53178
theorem dX5_begin_0 : decode cX5_begin 0 = .ok (.aload_n 0, 1) := by decide +kernel
theorem dX5_begin_1 : decode cX5_begin 1 = .ok (.getfield 9, 3) := by decide +kernel
theorem dX5_begin_4 : decode cX5_begin 4 = .ok (.iconst 0, 1) := by decide +kernel
theorem dX5_begin_5 : decode cX5_begin 5 = .ok (.invokestatic 19, 3) := by decide +kernel
theorem dX5_begin_8 : decode cX5_begin 8 = .ok (.aload_n 0, 1) := by decide +kernel
theorem dX5_begin_9 : decode cX5_begin 9 = .ok (.iload_n 1, 1) := by decide +kernel
theorem dX5_begin_10 : decode cX5_begin 10 = .ok (.putfield 25, 3) := by decide +kernel
theorem dX5_begin_13 : decode cX5_begin 13 = .ok (.aload_n 0, 1) := by decide +kernel
theorem dX5_begin_14 : decode cX5_begin 14 = .ok (.iload_n 2, 1) := by decide +kernel
theorem dX5_begin_15 : decode cX5_begin 15 = .ok (.putfield 29, 3) := by decide +kernel
theorem dX5_begin_18 : decode cX5_begin 18 = .ok (.aload_n 0, 1) := by decide +kernel
theorem dX5_begin_19 : decode cX5_begin 19 = .ok (.iconst 0, 1) := by decide +kernel
theorem dX5_begin_20 : decode cX5_begin 20 = .ok (.putfield 15, 3) := by decide +kernel
theorem dX5_begin_23 : decode cX5_begin 23 = .ok (.return_, 1) := by decide +kernel
theorem dX5_hasItems_0 : decode cX5_hasItems 0 = .ok (.iload_n 1, 1) := by decide +kernel
theorem dX5_hasItems_1 : decode cX5_hasItems 1 = .ok (.ifCond .lt 29, 3) := by decide +kernel
theorem dX5_hasItems_4 : decode cX5_hasItems 4 = .ok (.iload_n 2, 1) := by decide +kernel
theorem dX5_hasItems_5 : decode cX5_hasItems 5 = .ok (.ifCond .lt 25, 3) := by decide +kernel
theorem dX5_hasItems_8 : decode cX5_hasItems 8 = .ok (.iload_n 1, 1) := by decide +kernel
theorem dX5_hasItems_9 : decode cX5_hasItems 9 = .ok (.aload_n 0, 1) := by decide +kernel
theorem dX5_hasItems_10 : decode cX5_hasItems 10 = .ok (.getfield 29, 3) := by decide +kernel
theorem dX5_hasItems_13 : decode cX5_hasItems 13 = .ok (.if_icmp .gt 17, 3) := by decide +kernel
theorem dX5_hasItems_16 : decode cX5_hasItems 16 = .ok (.iload_n 2, 1) := by decide +kernel
theorem dX5_hasItems_17 : decode cX5_hasItems 17 = .ok (.aload_n 0, 1) := by decide +kernel
theorem dX5_hasItems_18 : decode cX5_hasItems 18 = .ok (.getfield 29, 3) := by decide +kernel
theorem dX5_hasItems_21 : decode cX5_hasItems 21 = .ok (.iload_n 1, 1) := by decide +kernel
theorem dX5_hasItems_22 : decode cX5_hasItems 22 = .ok (.isub, 1) := by decide +kernel
theorem dX5_hasItems_23 : decode cX5_hasItems 23 = .ok (.if_icmp .gt 7, 3) := by decide +kernel
theorem dX5_hasItems_26 : decode cX5_hasItems 26 = .ok (.iconst 1, 1) := by decide +kernel
theorem dX5_hasItems_27 : decode cX5_hasItems 27 = .ok (.goto 4, 3) := by decide +kernel
theorem dX5_hasItems_30 : decode cX5_hasItems 30 = .ok (.iconst 0, 1) := by decide +kernel
theorem dX5_hasItems_31 : decode cX5_hasItems 31 = .ok (.ireturn, 1) := by decide +kernel
theorem dX5_cutToLane_0 : decode cX5_cutToLane 0 = .ok (.aload_n 0, 1) := by decide +kernel
theorem dX5_cutToLane_1 : decode cX5_cutToLane 1 = .ok (.getfield 25, 3) := by decide +kernel
theorem dX5_cutToLane_4 : decode cX5_cutToLane 4 = .ok (.lookupswitch 34 #[(0, 28), (1, 31)], 28) := by decide +kernel
theorem dX5_cutToLane_32 : decode cX5_cutToLane 32 = .ok (.iload_n 1, 1) := by decide +kernel
theorem dX5_cutToLane_33 : decode cX5_cutToLane 33 = .ok (.i2b, 1) := by decide +kernel
theorem dX5_cutToLane_34 : decode cX5_cutToLane 34 = .ok (.ireturn, 1) := by decide +kernel
theorem dX5_cutToLane_35 : decode cX5_cutToLane 35 = .ok (.iload_n 1, 1) := by decide +kernel
theorem dX5_cutToLane_36 : decode cX5_cutToLane 36 = .ok (.i2s, 1) := by decide +kernel
theorem dX5_cutToLane_37 : decode cX5_cutToLane 37 = .ok (.ireturn, 1) := by decide +kernel
theorem dX5_cutToLane_38 : decode cX5_cutToLane 38 = .ok (.iload_n 1, 1) := by decide +kernel
theorem dX5_cutToLane_39 : decode cX5_cutToLane 39 = .ok (.ireturn, 1) := by decide +kernel
theorem dX6_init_0 : decode cX6_init 0 = .ok (.aload_n 0, 1) := by decide +kernel
theorem dX6_init_1 : decode cX6_init 1 = .ok (.invokespecial 3, 3) := by decide +kernel
theorem dX6_init_4 : decode cX6_init 4 = .ok (.aload_n 0, 1) := by decide +kernel
theorem dX6_init_5 : decode cX6_init 5 = .ok (.sipush 140, 3) := by decide +kernel
theorem dX6_init_8 : decode cX6_init 8 = .ok (.newarray .int, 2) := by decide +kernel
theorem dX6_init_10 : decode cX6_init 10 = .ok (.putfield 11, 3) := by decide +kernel
theorem dX6_init_13 : decode cX6_init 13 = .ok (.return_, 1) := by decide +kernel
set_option maxRecDepth 20000 in
theorem ggX6_readInto_X3_forgetTold : GoodIn wsX6_readInto wsX3_forgetTold := goodIn_r _ [6, 7, 8, 9, 10, 11, 12, 13, 14, 130, 131, 132, 133, 134, 135, 136, 137, 138, 139, 140, 141, 142, 143, 144] (by decide +kernel) (by decide +kernel)
set_option maxRecDepth 20000 in
theorem gX6_readInto_X3_forgetTold : GoodIn wsX6_readInto (wsV RX6 15 RX3 yX3_forgetTold wsX3_forgetTold) := goodIn_app (goodIn_of _ (by decide +kernel)) ggX6_readInto_X3_forgetTold
set_option maxRecDepth 20000 in
theorem ggX6_readInto_X6_step : GoodIn wsX6_readInto wsX6_step := goodIn_r _ [19, 1, 20, 21, 22, 23, 24, 25, 18, 26, 27, 28, 29, 30, 31, 122, 123, 124, 125, 126, 127, 128, 129] (by decide +kernel) (by decide +kernel)
set_option maxRecDepth 20000 in
theorem gX6_readInto_X6_step : GoodIn wsX6_readInto (wsV RX6 24 RX6 yX6_step wsX6_step) := goodIn_app (goodIn_of _ (by decide +kernel)) ggX6_readInto_X6_step
set_option maxRecDepth 20000 in
theorem ggX6_readInto_X6_readLaw : GoodIn wsX6_readInto wsX6_readLaw := goodIn_r _ [35, 31, 36, 37, 38, 39, 40, 41, 18, 42, 22, 43, 44, 45, 46, 47, 20, 48, 15, 16, 17, 19, 1, 21, 23, 24, 25, 26, 27, 28, 29, 30, 49, 50, 51, 52, 122, 123, 124, 125, 126, 127, 128, 129, 130, 131, 132, 133, 134, 135, 136, 137, 138, 139, 140, 141, 142, 143, 144] (by decide +kernel) (by decide +kernel)
set_option maxRecDepth 20000 in
theorem gX6_readInto_X6_readLaw : GoodIn wsX6_readInto (wsV RX6 27 RX6 yX6_readLaw wsX6_readLaw) := goodIn_app (goodIn_of _ (by decide +kernel)) ggX6_readInto_X6_readLaw
set_option maxRecDepth 20000 in
theorem ggX6_readInto_X6_readWalls : GoodIn wsX6_readInto wsX6_readWalls := goodIn_r _ [56, 22, 36, 31, 43, 44, 45, 18, 46, 47, 20, 48, 15, 16, 17, 19, 1, 21, 23, 24, 25, 26, 27, 28, 29, 30, 49, 50, 51, 52, 39, 40, 41, 42, 57, 58, 59, 5, 60, 10, 7, 122, 123, 124, 125, 126, 127, 128, 129, 130, 131, 132, 133, 134, 135, 136, 137, 138, 139, 140, 141, 142, 143, 144] (by decide +kernel) (by decide +kernel)
set_option maxRecDepth 20000 in
theorem gX6_readInto_X6_readWalls : GoodIn wsX6_readInto (wsV RX6 31 RX6 yX6_readWalls wsX6_readWalls) := goodIn_app (goodIn_of _ (by decide +kernel)) ggX6_readInto_X6_readWalls
set_option maxRecDepth 20000 in
theorem ggX6_readInto_X6_readPeople : GoodIn wsX6_readInto wsX6_readPeople := goodIn_r _ [64, 22, 36, 65, 31, 66, 43, 44, 45, 18, 46, 47, 20, 48, 15, 16, 17, 19, 1, 21, 23, 24, 25, 26, 27, 28, 29, 30, 39, 40, 41, 42, 49, 50, 51, 52, 122, 123, 124, 125, 126, 127, 128, 129, 130, 131, 132, 133, 134, 135, 136, 137, 138, 139, 140, 141, 142, 143, 144] (by decide +kernel) (by decide +kernel)
set_option maxRecDepth 20000 in
theorem gX6_readInto_X6_readPeople : GoodIn wsX6_readInto (wsV RX6 34 RX6 yX6_readPeople wsX6_readPeople) := goodIn_app (goodIn_of _ (by decide +kernel)) ggX6_readInto_X6_readPeople
set_option maxRecDepth 20000 in
theorem ggX6_readInto_X6_readVisitors : GoodIn wsX6_readInto wsX6_readVisitors := goodIn_r _ [70, 22, 71, 72, 31, 73, 74, 75, 18, 76, 43, 44, 45, 46, 47, 20, 48, 77, 78, 79, 80, 81, 82, 83, 84, 85, 86, 87, 88, 89, 90, 91, 92, 93, 94, 95, 96, 97, 98, 99, 100, 101, 102, 103, 104, 105, 106, 107, 108, 109, 110, 111, 112, 113, 114, 115, 116, 117, 118, 119, 120, 121, 15, 16, 17, 19, 1, 21, 23, 24, 25, 26, 27, 28, 29, 30, 49, 50, 51, 52, 39, 40, 41, 42, 122, 123, 124, 125, 126, 127, 128, 129, 130, 131, 132, 133, 134, 135, 136, 137, 138, 139, 140, 141, 142, 143, 144, 145, 146, 147, 148, 149] (by decide +kernel) (by decide +kernel)
set_option maxRecDepth 20000 in
theorem gX6_readInto_X6_readVisitors : GoodIn wsX6_readInto (wsV RX6 37 RX6 yX6_readVisitors wsX6_readVisitors) := goodIn_app (goodIn_of _ (by decide +kernel)) ggX6_readInto_X6_readVisitors
set_option maxRecDepth 20000 in
theorem ggX6_readInto_X6_take : GoodIn wsX6_readInto wsX6_take := goodIn_r _ [42, 22, 43, 44, 45, 18, 46, 47, 20, 48, 15, 16, 17, 19, 1, 21, 23, 24, 25, 26, 27, 28, 29, 30, 31, 122, 123, 124, 125, 126, 127, 128, 129] (by decide +kernel) (by decide +kernel)
set_option maxRecDepth 20000 in
theorem gX6_readInto_X6_take : GoodIn wsX6_readInto (wsV RX6 40 RX6 yX6_take wsX6_take) := goodIn_app (goodIn_of _ (by decide +kernel)) ggX6_readInto_X6_take
theorem dX6_readInto_0 : decode cX6_readInto 0 = .ok (.aload_n 1, 1) := by decide +kernel
theorem dX6_readInto_1 : decode cX6_readInto 1 = .ok (.invokevirtual 15, 3) := by decide +kernel
theorem dX6_readInto_4 : decode cX6_readInto 4 = .ok (.aload_n 0, 1) := by decide +kernel
theorem dX6_readInto_5 : decode cX6_readInto 5 = .ok (.iconst 0, 1) := by decide +kernel
theorem dX6_readInto_6 : decode cX6_readInto 6 = .ok (.putfield 20, 3) := by decide +kernel
theorem dX6_readInto_9 : decode cX6_readInto 9 = .ok (.aload_n 0, 1) := by decide +kernel
theorem dX6_readInto_10 : decode cX6_readInto 10 = .ok (.invokevirtual 24, 3) := by decide +kernel
theorem dX6_readInto_13 : decode cX6_readInto 13 = .ok (.aload_n 0, 1) := by decide +kernel
theorem dX6_readInto_14 : decode cX6_readInto 14 = .ok (.aload_n 1, 1) := by decide +kernel
theorem dX6_readInto_15 : decode cX6_readInto 15 = .ok (.invokevirtual 27, 3) := by decide +kernel
theorem dX6_readInto_18 : decode cX6_readInto 18 = .ok (.ifCond .eq 39, 3) := by decide +kernel
theorem dX6_readInto_21 : decode cX6_readInto 21 = .ok (.aload_n 0, 1) := by decide +kernel
theorem dX6_readInto_22 : decode cX6_readInto 22 = .ok (.aload_n 1, 1) := by decide +kernel
theorem dX6_readInto_23 : decode cX6_readInto 23 = .ok (.invokevirtual 31, 3) := by decide +kernel
theorem dX6_readInto_26 : decode cX6_readInto 26 = .ok (.ifCond .eq 31, 3) := by decide +kernel
theorem dX6_readInto_29 : decode cX6_readInto 29 = .ok (.aload_n 0, 1) := by decide +kernel
theorem dX6_readInto_30 : decode cX6_readInto 30 = .ok (.aload_n 1, 1) := by decide +kernel
theorem dX6_readInto_31 : decode cX6_readInto 31 = .ok (.invokevirtual 34, 3) := by decide +kernel
theorem dX6_readInto_34 : decode cX6_readInto 34 = .ok (.ifCond .eq 23, 3) := by decide +kernel
theorem dX6_readInto_37 : decode cX6_readInto 37 = .ok (.aload_n 0, 1) := by decide +kernel
theorem dX6_readInto_38 : decode cX6_readInto 38 = .ok (.aload_n 1, 1) := by decide +kernel
theorem dX6_readInto_39 : decode cX6_readInto 39 = .ok (.invokevirtual 37, 3) := by decide +kernel
theorem dX6_readInto_42 : decode cX6_readInto 42 = .ok (.ifCond .eq 15, 3) := by decide +kernel
theorem dX6_readInto_45 : decode cX6_readInto 45 = .ok (.aload_n 0, 1) := by decide +kernel
theorem dX6_readInto_46 : decode cX6_readInto 46 = .ok (.iconst (-1), 1) := by decide +kernel
theorem dX6_readInto_47 : decode cX6_readInto 47 = .ok (.invokevirtual 40, 3) := by decide +kernel
theorem dX6_readInto_50 : decode cX6_readInto 50 = .ok (.ifCond .eq 7, 3) := by decide +kernel
theorem dX6_readInto_53 : decode cX6_readInto 53 = .ok (.iconst 1, 1) := by decide +kernel
theorem dX6_readInto_54 : decode cX6_readInto 54 = .ok (.goto 4, 3) := by decide +kernel
theorem dX6_readInto_57 : decode cX6_readInto 57 = .ok (.iconst 0, 1) := by decide +kernel
theorem dX6_readInto_58 : decode cX6_readInto 58 = .ok (.ireturn, 1) := by decide +kernel
set_option maxRecDepth 20000 in
theorem ggX6_readLaw_X6_take : GoodIn wsX6_readLaw wsX6_take := goodIn_r _ [9, 10, 11, 12, 13, 8, 14, 15, 16, 17, 18, 19, 20, 21, 22, 23, 24, 25, 26, 27, 28, 29, 30, 31, 1, 36, 37, 38, 39, 40, 41, 42, 43] (by decide +kernel) (by decide +kernel)
set_option maxRecDepth 20000 in
theorem gX6_readLaw_X6_take : GoodIn wsX6_readLaw (wsV RX6 40 RX6 yX6_take wsX6_take) := goodIn_app (goodIn_of _ (by decide +kernel)) ggX6_readLaw_X6_take
set_option maxRecDepth 20000 in
theorem ggX6_readLaw_X6_numberStands : GoodIn wsX6_readLaw wsX6_numberStands := goodIn_r _ [35, 10, 1, 11, 12, 13, 8, 14, 15, 16, 17, 36, 37, 38, 39, 40, 41, 42, 43] (by decide +kernel) (by decide +kernel)
set_option maxRecDepth 20000 in
theorem gX6_readLaw_X6_numberStands : GoodIn wsX6_readLaw (wsV RX6 44 RX6 yX6_numberStands wsX6_numberStands) := goodIn_app (goodIn_of _ (by decide +kernel)) ggX6_readLaw_X6_numberStands
set_option maxRecDepth 20000 in
theorem ggX6_readLaw_X6_step : GoodIn wsX6_readLaw wsX6_step := goodIn_r _ [21, 22, 16, 23, 10, 24, 25, 26, 8, 27, 28, 29, 30, 31, 1, 36, 37, 38, 39, 40, 41, 42, 43] (by decide +kernel) (by decide +kernel)
set_option maxRecDepth 20000 in
theorem gX6_readLaw_X6_step : GoodIn wsX6_readLaw (wsV RX6 24 RX6 yX6_step wsX6_step) := goodIn_app (goodIn_of _ (by decide +kernel)) ggX6_readLaw_X6_step
theorem dX6_readLaw_0 : decode cX6_readLaw 0 = .ok (.aload_n 0, 1) := by decide +kernel
theorem dX6_readLaw_1 : decode cX6_readLaw 1 = .ok (.bipush 104, 2) := by decide +kernel
theorem dX6_readLaw_3 : decode cX6_readLaw 3 = .ok (.invokevirtual 40, 3) := by decide +kernel
theorem dX6_readLaw_6 : decode cX6_readLaw 6 = .ok (.ifCond .eq 13, 3) := by decide +kernel
theorem dX6_readLaw_9 : decode cX6_readLaw 9 = .ok (.aload_n 0, 1) := by decide +kernel
theorem dX6_readLaw_10 : decode cX6_readLaw 10 = .ok (.iconst 2, 1) := by decide +kernel
theorem dX6_readLaw_11 : decode cX6_readLaw 11 = .ok (.bipush 6, 2) := by decide +kernel
theorem dX6_readLaw_13 : decode cX6_readLaw 13 = .ok (.invokevirtual 44, 3) := by decide +kernel
theorem dX6_readLaw_16 : decode cX6_readLaw 16 = .ok (.ifCond .ne 5, 3) := by decide +kernel
theorem dX6_readLaw_19 : decode cX6_readLaw 19 = .ok (.iconst 0, 1) := by decide +kernel
theorem dX6_readLaw_20 : decode cX6_readLaw 20 = .ok (.ireturn, 1) := by decide +kernel
theorem dX6_readLaw_21 : decode cX6_readLaw 21 = .ok (.aload_n 1, 1) := by decide +kernel
theorem dX6_readLaw_22 : decode cX6_readLaw 22 = .ok (.aload_n 0, 1) := by decide +kernel
theorem dX6_readLaw_23 : decode cX6_readLaw 23 = .ok (.getfield 48, 3) := by decide +kernel
theorem dX6_readLaw_26 : decode cX6_readLaw 26 = .ok (.putfield 51, 3) := by decide +kernel
theorem dX6_readLaw_29 : decode cX6_readLaw 29 = .ok (.aload_n 0, 1) := by decide +kernel
theorem dX6_readLaw_30 : decode cX6_readLaw 30 = .ok (.invokevirtual 24, 3) := by decide +kernel
theorem dX6_readLaw_33 : decode cX6_readLaw 33 = .ok (.aload_n 0, 1) := by decide +kernel
theorem dX6_readLaw_34 : decode cX6_readLaw 34 = .ok (.bipush 44, 2) := by decide +kernel
theorem dX6_readLaw_36 : decode cX6_readLaw 36 = .ok (.invokevirtual 40, 3) := by decide +kernel
theorem dX6_readLaw_39 : decode cX6_readLaw 39 = .ok (.ifCond .eq 12, 3) := by decide +kernel
theorem dX6_readLaw_42 : decode cX6_readLaw 42 = .ok (.aload_n 0, 1) := by decide +kernel
theorem dX6_readLaw_43 : decode cX6_readLaw 43 = .ok (.iconst 1, 1) := by decide +kernel
theorem dX6_readLaw_44 : decode cX6_readLaw 44 = .ok (.iconst 5, 1) := by decide +kernel
theorem dX6_readLaw_45 : decode cX6_readLaw 45 = .ok (.invokevirtual 44, 3) := by decide +kernel
theorem dX6_readLaw_48 : decode cX6_readLaw 48 = .ok (.ifCond .ne 5, 3) := by decide +kernel
theorem dX6_readLaw_51 : decode cX6_readLaw 51 = .ok (.iconst 0, 1) := by decide +kernel
theorem dX6_readLaw_52 : decode cX6_readLaw 52 = .ok (.ireturn, 1) := by decide +kernel
theorem dX6_readLaw_53 : decode cX6_readLaw 53 = .ok (.aload_n 1, 1) := by decide +kernel
theorem dX6_readLaw_54 : decode cX6_readLaw 54 = .ok (.aload_n 0, 1) := by decide +kernel
theorem dX6_readLaw_55 : decode cX6_readLaw 55 = .ok (.getfield 48, 3) := by decide +kernel
theorem dX6_readLaw_58 : decode cX6_readLaw 58 = .ok (.putfield 54, 3) := by decide +kernel
theorem dX6_readLaw_61 : decode cX6_readLaw 61 = .ok (.aload_n 0, 1) := by decide +kernel
theorem dX6_readLaw_62 : decode cX6_readLaw 62 = .ok (.invokevirtual 24, 3) := by decide +kernel
theorem dX6_readLaw_65 : decode cX6_readLaw 65 = .ok (.aload_n 0, 1) := by decide +kernel
theorem dX6_readLaw_66 : decode cX6_readLaw 66 = .ok (.bipush 44, 2) := by decide +kernel
theorem dX6_readLaw_68 : decode cX6_readLaw 68 = .ok (.invokevirtual 40, 3) := by decide +kernel
theorem dX6_readLaw_71 : decode cX6_readLaw 71 = .ok (.ifCond .eq 13, 3) := by decide +kernel
theorem dX6_readLaw_74 : decode cX6_readLaw 74 = .ok (.aload_n 0, 1) := by decide +kernel
theorem dX6_readLaw_75 : decode cX6_readLaw 75 = .ok (.iconst 0, 1) := by decide +kernel
theorem dX6_readLaw_76 : decode cX6_readLaw 76 = .ok (.bipush 20, 2) := by decide +kernel
theorem dX6_readLaw_78 : decode cX6_readLaw 78 = .ok (.invokevirtual 44, 3) := by decide +kernel
theorem dX6_readLaw_81 : decode cX6_readLaw 81 = .ok (.ifCond .ne 5, 3) := by decide +kernel
theorem dX6_readLaw_84 : decode cX6_readLaw 84 = .ok (.iconst 0, 1) := by decide +kernel
theorem dX6_readLaw_85 : decode cX6_readLaw 85 = .ok (.ireturn, 1) := by decide +kernel
theorem dX6_readLaw_86 : decode cX6_readLaw 86 = .ok (.aload_n 1, 1) := by decide +kernel
theorem dX6_readLaw_87 : decode cX6_readLaw 87 = .ok (.aload_n 0, 1) := by decide +kernel
theorem dX6_readLaw_88 : decode cX6_readLaw 88 = .ok (.getfield 48, 3) := by decide +kernel
theorem dX6_readLaw_91 : decode cX6_readLaw 91 = .ok (.putfield 57, 3) := by decide +kernel
theorem dX6_readLaw_94 : decode cX6_readLaw 94 = .ok (.aload_n 0, 1) := by decide +kernel
theorem dX6_readLaw_95 : decode cX6_readLaw 95 = .ok (.invokevirtual 24, 3) := by decide +kernel
theorem dX6_readLaw_98 : decode cX6_readLaw 98 = .ok (.aload_n 0, 1) := by decide +kernel
theorem dX6_readLaw_99 : decode cX6_readLaw 99 = .ok (.bipush 59, 2) := by decide +kernel
theorem dX6_readLaw_101 : decode cX6_readLaw 101 = .ok (.invokevirtual 40, 3) := by decide +kernel
theorem dX6_readLaw_104 : decode cX6_readLaw 104 = .ok (.ireturn, 1) := by decide +kernel
set_option maxRecDepth 20000 in
theorem ggX6_readWalls_X6_faulty : GoodIn wsX6_readWalls wsX6_faulty := goodIn_r _ [8, 9, 10, 11, 41, 42, 43, 44, 45, 46, 47, 48] (by decide +kernel) (by decide +kernel)
set_option maxRecDepth 20000 in
theorem gX6_readWalls_X6_faulty : GoodIn wsX6_readWalls (wsV RX6 63 RX6 yX6_faulty wsX6_faulty) := goodIn_app (goodIn_of _ (by decide +kernel)) ggX6_readWalls_X6_faulty
set_option maxRecDepth 20000 in
theorem ggX6_readWalls_X6_step : GoodIn wsX6_readWalls wsX6_step := goodIn_r _ [15, 16, 10, 17, 1, 18, 19, 20, 7, 21, 22, 23, 24, 25, 3, 41, 42, 43, 44, 45, 46, 47, 48] (by decide +kernel) (by decide +kernel)
set_option maxRecDepth 20000 in
theorem gX6_readWalls_X6_step : GoodIn wsX6_readWalls (wsV RX6 24 RX6 yX6_step wsX6_step) := goodIn_app (goodIn_of _ (by decide +kernel)) ggX6_readWalls_X6_step
set_option maxRecDepth 20000 in
theorem ggX6_readWalls_X6_numberStands : GoodIn wsX6_readWalls wsX6_numberStands := goodIn_r _ [29, 1, 3, 4, 5, 6, 7, 8, 9, 10, 11, 41, 42, 43, 44, 45, 46, 47, 48] (by decide +kernel) (by decide +kernel)
set_option maxRecDepth 20000 in
theorem gX6_readWalls_X6_numberStands : GoodIn wsX6_readWalls (wsV RX6 44 RX6 yX6_numberStands wsX6_numberStands) := goodIn_app (goodIn_of _ (by decide +kernel)) ggX6_readWalls_X6_numberStands
set_option maxRecDepth 20000 in
theorem ggX6_readWalls_X6_take : GoodIn wsX6_readWalls wsX6_take := goodIn_r _ [33, 1, 4, 5, 6, 7, 8, 9, 10, 11, 12, 13, 14, 15, 16, 17, 18, 19, 20, 21, 22, 23, 24, 25, 3, 41, 42, 43, 44, 45, 46, 47, 48] (by decide +kernel) (by decide +kernel)
set_option maxRecDepth 20000 in
theorem gX6_readWalls_X6_take : GoodIn wsX6_readWalls (wsV RX6 40 RX6 yX6_take wsX6_take) := goodIn_app (goodIn_of _ (by decide +kernel)) ggX6_readWalls_X6_take
set_option maxRecDepth 20000 in
theorem ggX6_readWalls_X3_addWall : GoodIn wsX6_readWalls wsX3_addWall := goodIn_r _ [38, 39, 40, 49, 50, 51, 52, 53, 54, 55, 56, 57, 58, 59, 60, 61, 62, 63] (by decide +kernel) (by decide +kernel)
set_option maxRecDepth 20000 in
theorem gX6_readWalls_X3_addWall : GoodIn wsX6_readWalls (wsV RX6 66 RX3 yX3_addWall wsX3_addWall) := goodIn_app (goodIn_of _ (by decide +kernel)) ggX6_readWalls_X3_addWall
theorem dX6_readWalls_0 : decode cX6_readWalls 0 = .ok (.iconst 0, 1) := by decide +kernel
theorem dX6_readWalls_1 : decode cX6_readWalls 1 = .ok (.istore_n 2, 1) := by decide +kernel
theorem dX6_readWalls_2 : decode cX6_readWalls 2 = .ok (.iload_n 2, 1) := by decide +kernel
theorem dX6_readWalls_3 : decode cX6_readWalls 3 = .ok (.bipush 9, 2) := by decide +kernel
theorem dX6_readWalls_5 : decode cX6_readWalls 5 = .ok (.if_icmp .gt 124, 3) := by decide +kernel
theorem dX6_readWalls_8 : decode cX6_readWalls 8 = .ok (.aload_n 0, 1) := by decide +kernel
theorem dX6_readWalls_9 : decode cX6_readWalls 9 = .ok (.getfield 60, 3) := by decide +kernel
theorem dX6_readWalls_12 : decode cX6_readWalls 12 = .ok (.bipush 103, 2) := by decide +kernel
theorem dX6_readWalls_14 : decode cX6_readWalls 14 = .ok (.if_icmp .ne 115, 3) := by decide +kernel
theorem dX6_readWalls_17 : decode cX6_readWalls 17 = .ok (.iload_n 2, 1) := by decide +kernel
theorem dX6_readWalls_18 : decode cX6_readWalls 18 = .ok (.bipush 9, 2) := by decide +kernel
theorem dX6_readWalls_20 : decode cX6_readWalls 20 = .ok (.if_icmp .ne 9, 3) := by decide +kernel
theorem dX6_readWalls_23 : decode cX6_readWalls 23 = .ok (.aload_n 0, 1) := by decide +kernel
theorem dX6_readWalls_24 : decode cX6_readWalls 24 = .ok (.iconst 3, 1) := by decide +kernel
theorem dX6_readWalls_25 : decode cX6_readWalls 25 = .ok (.invokevirtual 63, 3) := by decide +kernel
theorem dX6_readWalls_28 : decode cX6_readWalls 28 = .ok (.ireturn, 1) := by decide +kernel
theorem dX6_readWalls_29 : decode cX6_readWalls 29 = .ok (.aload_n 0, 1) := by decide +kernel
theorem dX6_readWalls_30 : decode cX6_readWalls 30 = .ok (.invokevirtual 24, 3) := by decide +kernel
theorem dX6_readWalls_33 : decode cX6_readWalls 33 = .ok (.aload_n 0, 1) := by decide +kernel
theorem dX6_readWalls_34 : decode cX6_readWalls 34 = .ok (.iconst 0, 1) := by decide +kernel
theorem dX6_readWalls_35 : decode cX6_readWalls 35 = .ok (.aload_n 1, 1) := by decide +kernel
theorem dX6_readWalls_36 : decode cX6_readWalls 36 = .ok (.getfield 51, 3) := by decide +kernel
theorem dX6_readWalls_39 : decode cX6_readWalls 39 = .ok (.iconst 1, 1) := by decide +kernel
theorem dX6_readWalls_40 : decode cX6_readWalls 40 = .ok (.isub, 1) := by decide +kernel
theorem dX6_readWalls_41 : decode cX6_readWalls 41 = .ok (.invokevirtual 44, 3) := by decide +kernel
theorem dX6_readWalls_44 : decode cX6_readWalls 44 = .ok (.ifCond .ne 5, 3) := by decide +kernel
theorem dX6_readWalls_47 : decode cX6_readWalls 47 = .ok (.iconst 0, 1) := by decide +kernel
theorem dX6_readWalls_48 : decode cX6_readWalls 48 = .ok (.ireturn, 1) := by decide +kernel
theorem dX6_readWalls_49 : decode cX6_readWalls 49 = .ok (.aload_n 0, 1) := by decide +kernel
theorem dX6_readWalls_50 : decode cX6_readWalls 50 = .ok (.getfield 48, 3) := by decide +kernel
theorem dX6_readWalls_53 : decode cX6_readWalls 53 = .ok (.istore_n 3, 1) := by decide +kernel
theorem dX6_readWalls_54 : decode cX6_readWalls 54 = .ok (.aload_n 0, 1) := by decide +kernel
theorem dX6_readWalls_55 : decode cX6_readWalls 55 = .ok (.invokevirtual 24, 3) := by decide +kernel
theorem dX6_readWalls_58 : decode cX6_readWalls 58 = .ok (.aload_n 0, 1) := by decide +kernel
theorem dX6_readWalls_59 : decode cX6_readWalls 59 = .ok (.bipush 44, 2) := by decide +kernel
theorem dX6_readWalls_61 : decode cX6_readWalls 61 = .ok (.invokevirtual 40, 3) := by decide +kernel
theorem dX6_readWalls_64 : decode cX6_readWalls 64 = .ok (.ifCond .eq 17, 3) := by decide +kernel
theorem dX6_readWalls_67 : decode cX6_readWalls 67 = .ok (.aload_n 0, 1) := by decide +kernel
theorem dX6_readWalls_68 : decode cX6_readWalls 68 = .ok (.iconst 0, 1) := by decide +kernel
theorem dX6_readWalls_69 : decode cX6_readWalls 69 = .ok (.aload_n 1, 1) := by decide +kernel
theorem dX6_readWalls_70 : decode cX6_readWalls 70 = .ok (.getfield 51, 3) := by decide +kernel
theorem dX6_readWalls_73 : decode cX6_readWalls 73 = .ok (.iconst 1, 1) := by decide +kernel
theorem dX6_readWalls_74 : decode cX6_readWalls 74 = .ok (.isub, 1) := by decide +kernel
theorem dX6_readWalls_75 : decode cX6_readWalls 75 = .ok (.invokevirtual 44, 3) := by decide +kernel
theorem dX6_readWalls_78 : decode cX6_readWalls 78 = .ok (.ifCond .ne 5, 3) := by decide +kernel
theorem dX6_readWalls_81 : decode cX6_readWalls 81 = .ok (.iconst 0, 1) := by decide +kernel
theorem dX6_readWalls_82 : decode cX6_readWalls 82 = .ok (.ireturn, 1) := by decide +kernel
theorem dX6_readWalls_83 : decode cX6_readWalls 83 = .ok (.aload_n 0, 1) := by decide +kernel
theorem dX6_readWalls_84 : decode cX6_readWalls 84 = .ok (.getfield 48, 3) := by decide +kernel
