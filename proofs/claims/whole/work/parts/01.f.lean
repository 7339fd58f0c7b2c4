theorem dX12_soldOut_6 : decode cX12_soldOut 6 = .ok (.ifCond .ne 6, 3) := by decide +kernel
theorem dX12_soldOut_9 : decode cX12_soldOut 9 = .ok (.ldc 166, 2) := by decide +kernel
theorem dX12_soldOut_11 : decode cX12_soldOut 11 = .ok (.ireturn, 1) := by decide +kernel
theorem dX12_soldOut_12 : decode cX12_soldOut 12 = .ok (.iload_n 1, 1) := by decide +kernel
theorem dX12_soldOut_13 : decode cX12_soldOut 13 = .ok (.iconst (-1), 1) := by decide +kernel
theorem dX12_soldOut_14 : decode cX12_soldOut 14 = .ok (.if_icmp .ge 6, 3) := by decide +kernel
theorem dX12_soldOut_17 : decode cX12_soldOut 17 = .ok (.ldc 60, 2) := by decide +kernel
theorem dX12_soldOut_19 : decode cX12_soldOut 19 = .ok (.ireturn, 1) := by decide +kernel
theorem dX12_soldOut_20 : decode cX12_soldOut 20 = .ok (.iconst 0, 1) := by decide +kernel
theorem dX12_soldOut_21 : decode cX12_soldOut 21 = .ok (.istore_n 2, 1) := by decide +kernel
theorem dX12_soldOut_22 : decode cX12_soldOut 22 = .ok (.iconst 0, 1) := by decide +kernel
theorem dX12_soldOut_23 : decode cX12_soldOut 23 = .ok (.istore_n 3, 1) := by decide +kernel
theorem dX12_soldOut_24 : decode cX12_soldOut 24 = .ok (.iload_n 3, 1) := by decide +kernel
theorem dX12_soldOut_25 : decode cX12_soldOut 25 = .ok (.bipush 48, 2) := by decide +kernel
theorem dX12_soldOut_27 : decode cX12_soldOut 27 = .ok (.if_icmp .ge 45, 3) := by decide +kernel
theorem dX12_soldOut_30 : decode cX12_soldOut 30 = .ok (.aload_n 0, 1) := by decide +kernel
theorem dX12_soldOut_31 : decode cX12_soldOut 31 = .ok (.iload_n 3, 1) := by decide +kernel
theorem dX12_soldOut_32 : decode cX12_soldOut 32 = .ok (.bipush 6, 2) := by decide +kernel
theorem dX12_soldOut_34 : decode cX12_soldOut 34 = .ok (.irem, 1) := by decide +kernel
theorem dX12_soldOut_35 : decode cX12_soldOut 35 = .ok (.invokevirtual 144, 3) := by decide +kernel
theorem dX12_soldOut_38 : decode cX12_soldOut 38 = .ok (.ifCond .eq 28, 3) := by decide +kernel
theorem dX12_soldOut_41 : decode cX12_soldOut 41 = .ok (.aload_n 0, 1) := by decide +kernel
theorem dX12_soldOut_42 : decode cX12_soldOut 42 = .ok (.iload_n 3, 1) := by decide +kernel
theorem dX12_soldOut_43 : decode cX12_soldOut 43 = .ok (.bipush 6, 2) := by decide +kernel
theorem dX12_soldOut_45 : decode cX12_soldOut 45 = .ok (.irem, 1) := by decide +kernel
theorem dX12_soldOut_46 : decode cX12_soldOut 46 = .ok (.iload_n 3, 1) := by decide +kernel
theorem dX12_soldOut_47 : decode cX12_soldOut 47 = .ok (.bipush 6, 2) := by decide +kernel
theorem dX12_soldOut_49 : decode cX12_soldOut 49 = .ok (.idiv, 1) := by decide +kernel
theorem dX12_soldOut_50 : decode cX12_soldOut 50 = .ok (.invokevirtual 171, 3) := by decide +kernel
theorem dX12_soldOut_53 : decode cX12_soldOut 53 = .ok (.ifCond .ne 13, 3) := by decide +kernel
theorem dX12_soldOut_56 : decode cX12_soldOut 56 = .ok (.iload_n 2, 1) := by decide +kernel
theorem dX12_soldOut_57 : decode cX12_soldOut 57 = .ok (.iload_n 1, 1) := by decide +kernel
theorem dX12_soldOut_58 : decode cX12_soldOut 58 = .ok (.if_icmp .ne 5, 3) := by decide +kernel
theorem dX12_soldOut_61 : decode cX12_soldOut 61 = .ok (.iload_n 3, 1) := by decide +kernel
theorem dX12_soldOut_62 : decode cX12_soldOut 62 = .ok (.ireturn, 1) := by decide +kernel
theorem dX12_soldOut_63 : decode cX12_soldOut 63 = .ok (.iinc 2 1, 3) := by decide +kernel
theorem dX12_soldOut_66 : decode cX12_soldOut 66 = .ok (.iinc 3 1, 3) := by decide +kernel
theorem dX12_soldOut_69 : decode cX12_soldOut 69 = .ok (.goto (-45), 3) := by decide +kernel
theorem dX12_soldOut_72 : decode cX12_soldOut 72 = .ok (.iload_n 1, 1) := by decide +kernel
theorem dX12_soldOut_73 : decode cX12_soldOut 73 = .ok (.iconst (-1), 1) := by decide +kernel
theorem dX12_soldOut_74 : decode cX12_soldOut 74 = .ok (.if_icmp .ne 7, 3) := by decide +kernel
theorem dX12_soldOut_77 : decode cX12_soldOut 77 = .ok (.iload_n 2, 1) := by decide +kernel
theorem dX12_soldOut_78 : decode cX12_soldOut 78 = .ok (.goto 5, 3) := by decide +kernel
theorem dX12_soldOut_81 : decode cX12_soldOut 81 = .ok (.ldc 201, 2) := by decide +kernel
theorem dX12_soldOut_83 : decode cX12_soldOut 83 = .ok (.ireturn, 1) := by decide +kernel
set_option maxRecDepth 20000 in
theorem ggX12_haunted_X12_bits : GoodIn wsX12_haunted wsX12_bits := goodIn_r _ [6] (by decide +kernel) (by decide +kernel)
set_option maxRecDepth 20000 in
theorem gX12_haunted_X12_bits : GoodIn wsX12_haunted (va_wsS RX12 150 yX12_bits wsX12_bits) := goodIn_app (goodIn_of _ (by decide +kernel)) ggX12_haunted_X12_bits
theorem dX12_haunted_0 : decode cX12_haunted 0 = .ok (.aload_n 0, 1) := by decide +kernel
theorem dX12_haunted_1 : decode cX12_haunted 1 = .ok (.getfield 31, 3) := by decide +kernel
theorem dX12_haunted_4 : decode cX12_haunted 4 = .ok (.iconst 0, 1) := by decide +kernel
theorem dX12_haunted_5 : decode cX12_haunted 5 = .ok (.iaload, 1) := by decide +kernel
theorem dX12_haunted_6 : decode cX12_haunted 6 = .ok (.ifCond .ne 6, 3) := by decide +kernel
theorem dX12_haunted_9 : decode cX12_haunted 9 = .ok (.ldc 166, 2) := by decide +kernel
theorem dX12_haunted_11 : decode cX12_haunted 11 = .ok (.ireturn, 1) := by decide +kernel
theorem dX12_haunted_12 : decode cX12_haunted 12 = .ok (.iconst 0, 1) := by decide +kernel
theorem dX12_haunted_13 : decode cX12_haunted 13 = .ok (.istore_n 1, 1) := by decide +kernel
theorem dX12_haunted_14 : decode cX12_haunted 14 = .ok (.iconst 0, 1) := by decide +kernel
theorem dX12_haunted_15 : decode cX12_haunted 15 = .ok (.istore_n 2, 1) := by decide +kernel
theorem dX12_haunted_16 : decode cX12_haunted 16 = .ok (.iload_n 2, 1) := by decide +kernel
theorem dX12_haunted_17 : decode cX12_haunted 17 = .ok (.bipush 48, 2) := by decide +kernel
theorem dX12_haunted_19 : decode cX12_haunted 19 = .ok (.if_icmp .ge 42, 3) := by decide +kernel
theorem dX12_haunted_22 : decode cX12_haunted 22 = .ok (.aload_n 0, 1) := by decide +kernel
theorem dX12_haunted_23 : decode cX12_haunted 23 = .ok (.getfield 31, 3) := by decide +kernel
theorem dX12_haunted_26 : decode cX12_haunted 26 = .ok (.bipush 100, 2) := by decide +kernel
theorem dX12_haunted_28 : decode cX12_haunted 28 = .ok (.iload_n 2, 1) := by decide +kernel
theorem dX12_haunted_29 : decode cX12_haunted 29 = .ok (.iadd, 1) := by decide +kernel
theorem dX12_haunted_30 : decode cX12_haunted 30 = .ok (.iaload, 1) := by decide +kernel
theorem dX12_haunted_31 : decode cX12_haunted 31 = .ok (.invokestatic 150, 3) := by decide +kernel
theorem dX12_haunted_34 : decode cX12_haunted 34 = .ok (.aload_n 0, 1) := by decide +kernel
theorem dX12_haunted_35 : decode cX12_haunted 35 = .ok (.getfield 31, 3) := by decide +kernel
theorem dX12_haunted_38 : decode cX12_haunted 38 = .ok (.bipush 100, 2) := by decide +kernel
theorem dX12_haunted_40 : decode cX12_haunted 40 = .ok (.iload_n 1, 1) := by decide +kernel
theorem dX12_haunted_41 : decode cX12_haunted 41 = .ok (.iadd, 1) := by decide +kernel
theorem dX12_haunted_42 : decode cX12_haunted 42 = .ok (.iaload, 1) := by decide +kernel
theorem dX12_haunted_43 : decode cX12_haunted 43 = .ok (.invokestatic 150, 3) := by decide +kernel
theorem dX12_haunted_46 : decode cX12_haunted 46 = .ok (.if_icmp .le 7, 3) := by decide +kernel
theorem dX12_haunted_49 : decode cX12_haunted 49 = .ok (.iload_n 2, 1) := by decide +kernel
theorem dX12_haunted_50 : decode cX12_haunted 50 = .ok (.goto 4, 3) := by decide +kernel
theorem dX12_haunted_53 : decode cX12_haunted 53 = .ok (.iload_n 1, 1) := by decide +kernel
theorem dX12_haunted_54 : decode cX12_haunted 54 = .ok (.istore_n 1, 1) := by decide +kernel
theorem dX12_haunted_55 : decode cX12_haunted 55 = .ok (.iinc 2 1, 3) := by decide +kernel
theorem dX12_haunted_58 : decode cX12_haunted 58 = .ok (.goto (-42), 3) := by decide +kernel
theorem dX12_haunted_61 : decode cX12_haunted 61 = .ok (.iload_n 1, 1) := by decide +kernel
theorem dX12_haunted_62 : decode cX12_haunted 62 = .ok (.ireturn, 1) := by decide +kernel
set_option maxRecDepth 20000 in
theorem ggX12_image_X12_in : GoodIn wsX12_image wsX12_in := goodIn_r _ [9] (by decide +kernel) (by decide +kernel)
set_option maxRecDepth 20000 in
theorem gX12_image_X12_in : GoodIn wsX12_image (va_wsS RX12 52 yX12_in wsX12_in) := goodIn_app (goodIn_of _ (by decide +kernel)) ggX12_image_X12_in
theorem dX12_image_0 : decode cX12_image 0 = .ok (.iload_n 1, 1) := by decide +kernel
theorem dX12_image_1 : decode cX12_image 1 = .ok (.iconst 0, 1) := by decide +kernel
theorem dX12_image_2 : decode cX12_image 2 = .ok (.iconst 1, 1) := by decide +kernel
theorem dX12_image_3 : decode cX12_image 3 = .ok (.invokestatic 52, 3) := by decide +kernel
theorem dX12_image_6 : decode cX12_image 6 = .ok (.ifCond .ne 6, 3) := by decide +kernel
theorem dX12_image_9 : decode cX12_image 9 = .ok (.ldc 60, 2) := by decide +kernel
theorem dX12_image_11 : decode cX12_image 11 = .ok (.ireturn, 1) := by decide +kernel
theorem dX12_image_12 : decode cX12_image 12 = .ok (.aload_n 0, 1) := by decide +kernel
theorem dX12_image_13 : decode cX12_image 13 = .ok (.getfield 31, 3) := by decide +kernel
theorem dX12_image_16 : decode cX12_image 16 = .ok (.iconst 0, 1) := by decide +kernel
theorem dX12_image_17 : decode cX12_image 17 = .ok (.iaload, 1) := by decide +kernel
theorem dX12_image_18 : decode cX12_image 18 = .ok (.ifCond .ne 6, 3) := by decide +kernel
theorem dX12_image_21 : decode cX12_image 21 = .ok (.ldc 166, 2) := by decide +kernel
theorem dX12_image_23 : decode cX12_image 23 = .ok (.ireturn, 1) := by decide +kernel
theorem dX12_image_24 : decode cX12_image 24 = .ok (.iconst 0, 1) := by decide +kernel
theorem dX12_image_25 : decode cX12_image 25 = .ok (.istore_n 2, 1) := by decide +kernel
theorem dX12_image_26 : decode cX12_image 26 = .ok (.iload_n 2, 1) := by decide +kernel
theorem dX12_image_27 : decode cX12_image 27 = .ok (.sipush 149, 3) := by decide +kernel
theorem dX12_image_30 : decode cX12_image 30 = .ok (.if_icmp .ge 27, 3) := by decide +kernel
theorem dX12_image_33 : decode cX12_image 33 = .ok (.aload_n 0, 1) := by decide +kernel
theorem dX12_image_34 : decode cX12_image 34 = .ok (.getfield 34, 3) := by decide +kernel
theorem dX12_image_37 : decode cX12_image 37 = .ok (.sipush 149, 3) := by decide +kernel
theorem dX12_image_40 : decode cX12_image 40 = .ok (.iload_n 1, 1) := by decide +kernel
theorem dX12_image_41 : decode cX12_image 41 = .ok (.imul, 1) := by decide +kernel
theorem dX12_image_42 : decode cX12_image 42 = .ok (.iload_n 2, 1) := by decide +kernel
theorem dX12_image_43 : decode cX12_image 43 = .ok (.iadd, 1) := by decide +kernel
theorem dX12_image_44 : decode cX12_image 44 = .ok (.aload_n 0, 1) := by decide +kernel
theorem dX12_image_45 : decode cX12_image 45 = .ok (.getfield 31, 3) := by decide +kernel
theorem dX12_image_48 : decode cX12_image 48 = .ok (.iload_n 2, 1) := by decide +kernel
theorem dX12_image_49 : decode cX12_image 49 = .ok (.iaload, 1) := by decide +kernel
theorem dX12_image_50 : decode cX12_image 50 = .ok (.iastore, 1) := by decide +kernel
theorem dX12_image_51 : decode cX12_image 51 = .ok (.iinc 2 1, 3) := by decide +kernel
theorem dX12_image_54 : decode cX12_image 54 = .ok (.goto (-28), 3) := by decide +kernel
theorem dX12_image_57 : decode cX12_image 57 = .ok (.aload_n 0, 1) := by decide +kernel
theorem dX12_image_58 : decode cX12_image 58 = .ok (.getfield 37, 3) := by decide +kernel
theorem dX12_image_61 : decode cX12_image 61 = .ok (.iload_n 1, 1) := by decide +kernel
theorem dX12_image_62 : decode cX12_image 62 = .ok (.iconst 1, 1) := by decide +kernel
theorem dX12_image_63 : decode cX12_image 63 = .ok (.bastore, 1) := by decide +kernel
theorem dX12_image_64 : decode cX12_image 64 = .ok (.iconst 1, 1) := by decide +kernel
theorem dX12_image_65 : decode cX12_image 65 = .ok (.ireturn, 1) := by decide +kernel
set_option maxRecDepth 20000 in
theorem ggX12_restore_X12_in : GoodIn wsX12_restore wsX12_in := goodIn_r _ [10] (by decide +kernel) (by decide +kernel)
set_option maxRecDepth 20000 in
theorem gX12_restore_X12_in : GoodIn wsX12_restore (va_wsS RX12 52 yX12_in wsX12_in) := goodIn_app (goodIn_of _ (by decide +kernel)) ggX12_restore_X12_in
theorem dX12_restore_0 : decode cX12_restore 0 = .ok (.iload_n 1, 1) := by decide +kernel
theorem dX12_restore_1 : decode cX12_restore 1 = .ok (.iconst 0, 1) := by decide +kernel
theorem dX12_restore_2 : decode cX12_restore 2 = .ok (.iconst 1, 1) := by decide +kernel
theorem dX12_restore_3 : decode cX12_restore 3 = .ok (.invokestatic 52, 3) := by decide +kernel
theorem dX12_restore_6 : decode cX12_restore 6 = .ok (.ifCond .ne 6, 3) := by decide +kernel
theorem dX12_restore_9 : decode cX12_restore 9 = .ok (.ldc 60, 2) := by decide +kernel
theorem dX12_restore_11 : decode cX12_restore 11 = .ok (.ireturn, 1) := by decide +kernel
theorem dX12_restore_12 : decode cX12_restore 12 = .ok (.aload_n 0, 1) := by decide +kernel
theorem dX12_restore_13 : decode cX12_restore 13 = .ok (.getfield 37, 3) := by decide +kernel
theorem dX12_restore_16 : decode cX12_restore 16 = .ok (.iload_n 1, 1) := by decide +kernel
theorem dX12_restore_17 : decode cX12_restore 17 = .ok (.baload, 1) := by decide +kernel
theorem dX12_restore_18 : decode cX12_restore 18 = .ok (.ifCond .ne 6, 3) := by decide +kernel
theorem dX12_restore_21 : decode cX12_restore 21 = .ok (.ldc 166, 2) := by decide +kernel
theorem dX12_restore_23 : decode cX12_restore 23 = .ok (.ireturn, 1) := by decide +kernel
theorem dX12_restore_24 : decode cX12_restore 24 = .ok (.iconst 0, 1) := by decide +kernel
theorem dX12_restore_25 : decode cX12_restore 25 = .ok (.istore_n 2, 1) := by decide +kernel
theorem dX12_restore_26 : decode cX12_restore 26 = .ok (.iload_n 2, 1) := by decide +kernel
theorem dX12_restore_27 : decode cX12_restore 27 = .ok (.sipush 149, 3) := by decide +kernel
theorem dX12_restore_30 : decode cX12_restore 30 = .ok (.if_icmp .ge 27, 3) := by decide +kernel
theorem dX12_restore_33 : decode cX12_restore 33 = .ok (.aload_n 0, 1) := by decide +kernel
theorem dX12_restore_34 : decode cX12_restore 34 = .ok (.getfield 31, 3) := by decide +kernel
theorem dX12_restore_37 : decode cX12_restore 37 = .ok (.iload_n 2, 1) := by decide +kernel
theorem dX12_restore_38 : decode cX12_restore 38 = .ok (.aload_n 0, 1) := by decide +kernel
theorem dX12_restore_39 : decode cX12_restore 39 = .ok (.getfield 34, 3) := by decide +kernel
theorem dX12_restore_42 : decode cX12_restore 42 = .ok (.sipush 149, 3) := by decide +kernel
theorem dX12_restore_45 : decode cX12_restore 45 = .ok (.iload_n 1, 1) := by decide +kernel
theorem dX12_restore_46 : decode cX12_restore 46 = .ok (.imul, 1) := by decide +kernel
theorem dX12_restore_47 : decode cX12_restore 47 = .ok (.iload_n 2, 1) := by decide +kernel
theorem dX12_restore_48 : decode cX12_restore 48 = .ok (.iadd, 1) := by decide +kernel
theorem dX12_restore_49 : decode cX12_restore 49 = .ok (.iaload, 1) := by decide +kernel
theorem dX12_restore_50 : decode cX12_restore 50 = .ok (.iastore, 1) := by decide +kernel
theorem dX12_restore_51 : decode cX12_restore 51 = .ok (.iinc 2 1, 3) := by decide +kernel
theorem dX12_restore_54 : decode cX12_restore 54 = .ok (.goto (-28), 3) := by decide +kernel
theorem dX12_restore_57 : decode cX12_restore 57 = .ok (.aload_n 0, 1) := by decide +kernel
theorem dX12_restore_58 : decode cX12_restore 58 = .ok (.iconst 0, 1) := by decide +kernel
theorem dX12_restore_59 : decode cX12_restore 59 = .ok (.putfield 138, 3) := by decide +kernel
theorem dX12_restore_62 : decode cX12_restore 62 = .ok (.iconst 1, 1) := by decide +kernel
theorem dX12_restore_63 : decode cX12_restore 63 = .ok (.ireturn, 1) := by decide +kernel
set_option maxRecDepth 20000 in
theorem ggX12_kind_X12_isGuest : GoodIn wsX12_kind wsX12_isGuest := goodIn_r _ [7, 1, 8, 9, 6, 10, 11, 12, 13, 14, 15, 16, 17, 18, 19, 20, 21, 22, 23, 24, 25, 26, 27, 28, 29, 30, 31, 32, 33, 34, 35, 36, 37] (by decide +kernel) (by decide +kernel)
set_option maxRecDepth 20000 in
theorem gX12_kind_X12_isGuest : GoodIn wsX12_kind (wsV RX12 141 RX12 yX12_isGuest wsX12_isGuest) := goodIn_app (goodIn_of _ (by decide +kernel)) ggX12_kind_X12_isGuest
theorem dX12_kind_0 : decode cX12_kind 0 = .ok (.aload_n 0, 1) := by decide +kernel
theorem dX12_kind_1 : decode cX12_kind 1 = .ok (.iload_n 1, 1) := by decide +kernel
theorem dX12_kind_2 : decode cX12_kind 2 = .ok (.invokevirtual 141, 3) := by decide +kernel
theorem dX12_kind_5 : decode cX12_kind 5 = .ok (.ifCond .eq 15, 3) := by decide +kernel
theorem dX12_kind_8 : decode cX12_kind 8 = .ok (.aload_n 0, 1) := by decide +kernel
theorem dX12_kind_9 : decode cX12_kind 9 = .ok (.getfield 31, 3) := by decide +kernel
theorem dX12_kind_12 : decode cX12_kind 12 = .ok (.bipush 43, 2) := by decide +kernel
theorem dX12_kind_14 : decode cX12_kind 14 = .ok (.iload_n 1, 1) := by decide +kernel
theorem dX12_kind_15 : decode cX12_kind 15 = .ok (.iadd, 1) := by decide +kernel
theorem dX12_kind_16 : decode cX12_kind 16 = .ok (.iaload, 1) := by decide +kernel
theorem dX12_kind_17 : decode cX12_kind 17 = .ok (.goto 5, 3) := by decide +kernel
theorem dX12_kind_20 : decode cX12_kind 20 = .ok (.ldc 60, 2) := by decide +kernel
theorem dX12_kind_22 : decode cX12_kind 22 = .ok (.ireturn, 1) := by decide +kernel
set_option maxRecDepth 20000 in
theorem ggX12_as_X12_isGuest : GoodIn wsX12_as wsX12_isGuest := goodIn_r _ [7, 2, 8, 9, 6, 10, 21, 22, 23, 24, 25, 26, 27, 28, 29, 30, 31, 32, 33, 34, 35, 36, 37, 38, 39, 40, 41, 42, 43, 44, 45, 46, 47] (by decide +kernel) (by decide +kernel)
set_option maxRecDepth 20000 in
theorem gX12_as_X12_isGuest : GoodIn wsX12_as (wsV RX12 141 RX12 yX12_isGuest wsX12_isGuest) := goodIn_app (goodIn_of _ (by decide +kernel)) ggX12_as_X12_isGuest
set_option maxRecDepth 20000 in
theorem ggX12_as_X12_in : GoodIn wsX12_as wsX12_in := goodIn_r _ [10] (by decide +kernel) (by decide +kernel)
set_option maxRecDepth 20000 in
theorem gX12_as_X12_in : GoodIn wsX12_as (va_wsS RX12 52 yX12_in wsX12_in) := goodIn_app (goodIn_of _ (by decide +kernel)) ggX12_as_X12_in
set_option maxRecDepth 20000 in
theorem ggX12_as_X12_did : GoodIn wsX12_as wsX12_did := goodIn_r _ [14, 15, 21, 22, 23, 24, 25, 26, 27, 28, 29, 30, 31, 32, 33, 34, 35, 36, 37, 38, 39, 40, 41, 42, 43, 44, 45, 46, 47] (by decide +kernel) (by decide +kernel)
set_option maxRecDepth 20000 in
theorem gX12_as_X12_did : GoodIn wsX12_as (wsV RX12 65 RX12 yX12_did wsX12_did) := goodIn_app (goodIn_of _ (by decide +kernel)) ggX12_as_X12_did
set_option maxRecDepth 20000 in
theorem ggX12_as_X12_finds : GoodIn wsX12_as wsX12_finds := goodIn_r _ [19, 15, 20, 21, 22, 23, 24, 25, 26, 27, 28, 29, 30, 31, 32, 33, 34, 35, 36, 37, 38, 39, 40, 41, 42, 43, 44, 45, 46, 47] (by decide +kernel) (by decide +kernel)
set_option maxRecDepth 20000 in
theorem gX12_as_X12_finds : GoodIn wsX12_as (wsV RX12 61 RX12 yX12_finds wsX12_finds) := goodIn_app (goodIn_of _ (by decide +kernel)) ggX12_as_X12_finds
theorem dX12_as_0 : decode cX12_as 0 = .ok (.aload_n 0, 1) := by decide +kernel
theorem dX12_as_1 : decode cX12_as 1 = .ok (.iload_n 1, 1) := by decide +kernel
theorem dX12_as_2 : decode cX12_as 2 = .ok (.invokevirtual 141, 3) := by decide +kernel
theorem dX12_as_5 : decode cX12_as 5 = .ok (.ifCond .eq 12, 3) := by decide +kernel
theorem dX12_as_8 : decode cX12_as 8 = .ok (.iload_n 2, 1) := by decide +kernel
theorem dX12_as_9 : decode cX12_as 9 = .ok (.iconst 0, 1) := by decide +kernel
theorem dX12_as_10 : decode cX12_as 10 = .ok (.iconst 5, 1) := by decide +kernel
theorem dX12_as_11 : decode cX12_as 11 = .ok (.invokestatic 52, 3) := by decide +kernel
theorem dX12_as_14 : decode cX12_as 14 = .ok (.ifCond .ne 6, 3) := by decide +kernel
theorem dX12_as_17 : decode cX12_as 17 = .ok (.ldc 60, 2) := by decide +kernel
theorem dX12_as_19 : decode cX12_as 19 = .ok (.ireturn, 1) := by decide +kernel
theorem dX12_as_20 : decode cX12_as 20 = .ok (.aload_n 0, 1) := by decide +kernel
theorem dX12_as_21 : decode cX12_as 21 = .ok (.getfield 31, 3) := by decide +kernel
theorem dX12_as_24 : decode cX12_as 24 = .ok (.bipush 43, 2) := by decide +kernel
theorem dX12_as_26 : decode cX12_as 26 = .ok (.iload_n 1, 1) := by decide +kernel
theorem dX12_as_27 : decode cX12_as 27 = .ok (.iadd, 1) := by decide +kernel
theorem dX12_as_28 : decode cX12_as 28 = .ok (.iaload, 1) := by decide +kernel
theorem dX12_as_29 : decode cX12_as 29 = .ok (.istore_n 3, 1) := by decide +kernel
theorem dX12_as_30 : decode cX12_as 30 = .ok (.iload_n 2, 1) := by decide +kernel
theorem dX12_as_31 : decode cX12_as 31 = .ok (.ifCond .eq 28, 3) := by decide +kernel
theorem dX12_as_34 : decode cX12_as 34 = .ok (.iload_n 2, 1) := by decide +kernel
theorem dX12_as_35 : decode cX12_as 35 = .ok (.iload_n 3, 1) := by decide +kernel
theorem dX12_as_36 : decode cX12_as 36 = .ok (.if_icmp .eq 23, 3) := by decide +kernel
theorem dX12_as_39 : decode cX12_as 39 = .ok (.iload_n 2, 1) := by decide +kernel
theorem dX12_as_40 : decode cX12_as 40 = .ok (.iconst 1, 1) := by decide +kernel
theorem dX12_as_41 : decode cX12_as 41 = .ok (.if_icmp .ne 8, 3) := by decide +kernel
theorem dX12_as_44 : decode cX12_as 44 = .ok (.iload_n 3, 1) := by decide +kernel
theorem dX12_as_45 : decode cX12_as 45 = .ok (.iconst 4, 1) := by decide +kernel
theorem dX12_as_46 : decode cX12_as 46 = .ok (.if_icmp .lt 13, 3) := by decide +kernel
theorem dX12_as_49 : decode cX12_as 49 = .ok (.iload_n 2, 1) := by decide +kernel
theorem dX12_as_50 : decode cX12_as 50 = .ok (.iconst 4, 1) := by decide +kernel
theorem dX12_as_51 : decode cX12_as 51 = .ok (.if_icmp .ne 12, 3) := by decide +kernel
theorem dX12_as_54 : decode cX12_as 54 = .ok (.iload_n 3, 1) := by decide +kernel
theorem dX12_as_55 : decode cX12_as 55 = .ok (.iconst 5, 1) := by decide +kernel
theorem dX12_as_56 : decode cX12_as 56 = .ok (.if_icmp .ne 7, 3) := by decide +kernel
theorem dX12_as_59 : decode cX12_as 59 = .ok (.iconst 1, 1) := by decide +kernel
theorem dX12_as_60 : decode cX12_as 60 = .ok (.goto 4, 3) := by decide +kernel
theorem dX12_as_63 : decode cX12_as 63 = .ok (.iconst 0, 1) := by decide +kernel
theorem dX12_as_64 : decode cX12_as 64 = .ok (.istore 4, 2) := by decide +kernel
theorem dX12_as_66 : decode cX12_as 66 = .ok (.iload 4, 2) := by decide +kernel
theorem dX12_as_68 : decode cX12_as 68 = .ok (.ifCond .eq 11, 3) := by decide +kernel
theorem dX12_as_71 : decode cX12_as 71 = .ok (.aload_n 0, 1) := by decide +kernel
theorem dX12_as_72 : decode cX12_as 72 = .ok (.iload_n 1, 1) := by decide +kernel
theorem dX12_as_73 : decode cX12_as 73 = .ok (.invokevirtual 65, 3) := by decide +kernel
theorem dX12_as_76 : decode cX12_as 76 = .ok (.goto 8, 3) := by decide +kernel
theorem dX12_as_79 : decode cX12_as 79 = .ok (.aload_n 0, 1) := by decide +kernel
theorem dX12_as_80 : decode cX12_as 80 = .ok (.iconst 3, 1) := by decide +kernel
theorem dX12_as_81 : decode cX12_as 81 = .ok (.invokevirtual 61, 3) := by decide +kernel
theorem dX12_as_84 : decode cX12_as 84 = .ok (.ireturn, 1) := by decide +kernel
theorem dX12_leave_0 : decode cX12_leave 0 = .ok (.aload_n 0, 1) := by decide +kernel
theorem dX12_leave_1 : decode cX12_leave 1 = .ok (.getfield 224, 3) := by decide +kernel
theorem dX12_leave_4 : decode cX12_leave 4 = .ok (.bipush 16, 2) := by decide +kernel
theorem dX12_leave_6 : decode cX12_leave 6 = .ok (.if_icmp .ge 23, 3) := by decide +kernel
theorem dX12_leave_9 : decode cX12_leave 9 = .ok (.aload_n 0, 1) := by decide +kernel
theorem dX12_leave_10 : decode cX12_leave 10 = .ok (.getfield 44, 3) := by decide +kernel
theorem dX12_leave_13 : decode cX12_leave 13 = .ok (.aload_n 0, 1) := by decide +kernel
theorem dX12_leave_14 : decode cX12_leave 14 = .ok (.getfield 224, 3) := by decide +kernel
theorem dX12_leave_17 : decode cX12_leave 17 = .ok (.iload_n 1, 1) := by decide +kernel
theorem dX12_leave_18 : decode cX12_leave 18 = .ok (.iastore, 1) := by decide +kernel
theorem dX12_leave_19 : decode cX12_leave 19 = .ok (.aload_n 0, 1) := by decide +kernel
theorem dX12_leave_20 : decode cX12_leave 20 = .ok (.dup, 1) := by decide +kernel
theorem dX12_leave_21 : decode cX12_leave 21 = .ok (.getfield 224, 3) := by decide +kernel
theorem dX12_leave_24 : decode cX12_leave 24 = .ok (.iconst 1, 1) := by decide +kernel
theorem dX12_leave_25 : decode cX12_leave 25 = .ok (.iadd, 1) := by decide +kernel
theorem dX12_leave_26 : decode cX12_leave 26 = .ok (.putfield 224, 3) := by decide +kernel
theorem dX12_leave_29 : decode cX12_leave 29 = .ok (.return_, 1) := by decide +kernel
set_option maxRecDepth 20000 in
theorem ggX12_tourMark_X12_leave : GoodIn wsX12_tourMark wsX12_leave := goodIn_r _ [6, 7, 8, 13, 14, 15, 16, 17, 18, 19, 20, 21, 22, 23, 24, 25, 26, 27, 28, 29, 30, 31, 32, 33, 34, 35, 36, 37, 38, 39] (by decide +kernel) (by decide +kernel)
set_option maxRecDepth 20000 in
theorem gX12_tourMark_X12_leave : GoodIn wsX12_tourMark (wsV RX12 227 RX12 yX12_leave wsX12_leave) := goodIn_app (goodIn_of _ (by decide +kernel)) ggX12_tourMark_X12_leave
set_option maxRecDepth 20000 in
theorem ggX12_tourMark_X12_heldBy : GoodIn wsX12_tourMark wsX12_heldBy := goodIn_r _ [12, 1, 13, 14, 15, 16, 17, 18, 19, 20, 21, 22, 23, 24, 25, 26, 27, 28, 29, 30, 31, 32, 33, 34, 35, 36, 37, 38, 39] (by decide +kernel) (by decide +kernel)
set_option maxRecDepth 20000 in
theorem gX12_tourMark_X12_heldBy : GoodIn wsX12_tourMark (wsV RX12 195 RX12 yX12_heldBy wsX12_heldBy) := goodIn_app (goodIn_of _ (by decide +kernel)) ggX12_tourMark_X12_heldBy
theorem dX12_tourMark_0 : decode cX12_tourMark 0 = .ok (.aload_n 0, 1) := by decide +kernel
theorem dX12_tourMark_1 : decode cX12_tourMark 1 = .ok (.getfield 31, 3) := by decide +kernel
theorem dX12_tourMark_4 : decode cX12_tourMark 4 = .ok (.bipush 43, 2) := by decide +kernel
theorem dX12_tourMark_6 : decode cX12_tourMark 6 = .ok (.iload_n 1, 1) := by decide +kernel
theorem dX12_tourMark_7 : decode cX12_tourMark 7 = .ok (.iadd, 1) := by decide +kernel
theorem dX12_tourMark_8 : decode cX12_tourMark 8 = .ok (.iaload, 1) := by decide +kernel
theorem dX12_tourMark_9 : decode cX12_tourMark 9 = .ok (.istore_n 2, 1) := by decide +kernel
theorem dX12_tourMark_10 : decode cX12_tourMark 10 = .ok (.iload_n 2, 1) := by decide +kernel
theorem dX12_tourMark_11 : decode cX12_tourMark 11 = .ok (.iconst 1, 1) := by decide +kernel
theorem dX12_tourMark_12 : decode cX12_tourMark 12 = .ok (.if_icmp .le 19, 3) := by decide +kernel
theorem dX12_tourMark_15 : decode cX12_tourMark 15 = .ok (.aload_n 0, 1) := by decide +kernel
theorem dX12_tourMark_16 : decode cX12_tourMark 16 = .ok (.iload_n 2, 1) := by decide +kernel
theorem dX12_tourMark_17 : decode cX12_tourMark 17 = .ok (.iconst 2, 1) := by decide +kernel
theorem dX12_tourMark_18 : decode cX12_tourMark 18 = .ok (.if_icmp .ne 8, 3) := by decide +kernel
theorem dX12_tourMark_21 : decode cX12_tourMark 21 = .ok (.bipush 24, 2) := by decide +kernel
theorem dX12_tourMark_23 : decode cX12_tourMark 23 = .ok (.goto 5, 3) := by decide +kernel
theorem dX12_tourMark_26 : decode cX12_tourMark 26 = .ok (.bipush 22, 2) := by decide +kernel
theorem dX12_tourMark_28 : decode cX12_tourMark 28 = .ok (.invokevirtual 227, 3) := by decide +kernel
theorem dX12_tourMark_31 : decode cX12_tourMark 31 = .ok (.aload_n 0, 1) := by decide +kernel
theorem dX12_tourMark_32 : decode cX12_tourMark 32 = .ok (.bipush 21, 2) := by decide +kernel
theorem dX12_tourMark_34 : decode cX12_tourMark 34 = .ok (.invokevirtual 227, 3) := by decide +kernel
theorem dX12_tourMark_37 : decode cX12_tourMark 37 = .ok (.aload_n 0, 1) := by decide +kernel
theorem dX12_tourMark_38 : decode cX12_tourMark 38 = .ok (.bipush 20, 2) := by decide +kernel
theorem dX12_tourMark_40 : decode cX12_tourMark 40 = .ok (.invokevirtual 227, 3) := by decide +kernel
theorem dX12_tourMark_43 : decode cX12_tourMark 43 = .ok (.iload_n 1, 1) := by decide +kernel
theorem dX12_tourMark_44 : decode cX12_tourMark 44 = .ok (.aload_n 0, 1) := by decide +kernel
theorem dX12_tourMark_45 : decode cX12_tourMark 45 = .ok (.iload_n 1, 1) := by decide +kernel
theorem dX12_tourMark_46 : decode cX12_tourMark 46 = .ok (.invokevirtual 195, 3) := by decide +kernel
theorem dX12_tourMark_49 : decode cX12_tourMark 49 = .ok (.iadd, 1) := by decide +kernel
theorem dX12_tourMark_50 : decode cX12_tourMark 50 = .ok (.istore_n 3, 1) := by decide +kernel
theorem dX12_tourMark_51 : decode cX12_tourMark 51 = .ok (.iload_n 2, 1) := by decide +kernel
theorem dX12_tourMark_52 : decode cX12_tourMark 52 = .ok (.iconst 2, 1) := by decide +kernel
theorem dX12_tourMark_53 : decode cX12_tourMark 53 = .ok (.if_icmp .ne 9, 3) := by decide +kernel
theorem dX12_tourMark_56 : decode cX12_tourMark 56 = .ok (.iconst 2, 1) := by decide +kernel
theorem dX12_tourMark_57 : decode cX12_tourMark 57 = .ok (.iload_n 3, 1) := by decide +kernel
theorem dX12_tourMark_58 : decode cX12_tourMark 58 = .ok (.imul, 1) := by decide +kernel
theorem dX12_tourMark_59 : decode cX12_tourMark 59 = .ok (.goto 17, 3) := by decide +kernel
theorem dX12_tourMark_62 : decode cX12_tourMark 62 = .ok (.iload_n 2, 1) := by decide +kernel
theorem dX12_tourMark_63 : decode cX12_tourMark 63 = .ok (.iconst 3, 1) := by decide +kernel
theorem dX12_tourMark_64 : decode cX12_tourMark 64 = .ok (.if_icmp .ne 11, 3) := by decide +kernel
theorem dX12_tourMark_67 : decode cX12_tourMark 67 = .ok (.iload_n 3, 1) := by decide +kernel
theorem dX12_tourMark_68 : decode cX12_tourMark 68 = .ok (.sipush 1000, 3) := by decide +kernel
theorem dX12_tourMark_71 : decode cX12_tourMark 71 = .ok (.isub, 1) := by decide +kernel
theorem dX12_tourMark_72 : decode cX12_tourMark 72 = .ok (.goto 4, 3) := by decide +kernel
theorem dX12_tourMark_75 : decode cX12_tourMark 75 = .ok (.iload_n 3, 1) := by decide +kernel
theorem dX12_tourMark_76 : decode cX12_tourMark 76 = .ok (.ireturn, 1) := by decide +kernel
set_option maxRecDepth 20000 in
theorem ggX12_sizeOf_X12_leave : GoodIn wsX12_sizeOf wsX12_leave := goodIn_r _ [6, 7, 8, 17, 18, 19, 20, 21, 22, 23, 24, 25, 26, 27, 28, 29, 30, 31, 32, 33, 34, 35, 36, 37, 38, 39, 40, 41, 42, 43] (by decide +kernel) (by decide +kernel)
set_option maxRecDepth 20000 in
theorem gX12_sizeOf_X12_leave : GoodIn wsX12_sizeOf (wsV RX12 227 RX12 yX12_leave wsX12_leave) := goodIn_app (goodIn_of _ (by decide +kernel)) ggX12_sizeOf_X12_leave
set_option maxRecDepth 20000 in
theorem ggX12_sizeOf_X12_tourMark : GoodIn wsX12_sizeOf wsX12_tourMark := goodIn_r _ [12, 1, 2, 3, 4, 5, 6, 7, 8, 13, 14, 15, 16, 17, 18, 19, 20, 21, 22, 23, 24, 25, 26, 27, 28, 29, 30, 31, 32, 33, 34, 35, 36, 37, 38, 39, 40, 41, 42, 43] (by decide +kernel) (by decide +kernel)
set_option maxRecDepth 20000 in
theorem gX12_sizeOf_X12_tourMark : GoodIn wsX12_sizeOf (wsV RX12 231 RX12 yX12_tourMark wsX12_tourMark) := goodIn_app (goodIn_of _ (by decide +kernel)) ggX12_sizeOf_X12_tourMark
theorem dX12_sizeOf_0 : decode cX12_sizeOf 0 = .ok (.aload_n 0, 1) := by decide +kernel
theorem dX12_sizeOf_1 : decode cX12_sizeOf 1 = .ok (.getfield 31, 3) := by decide +kernel
theorem dX12_sizeOf_4 : decode cX12_sizeOf 4 = .ok (.bipush 43, 2) := by decide +kernel
theorem dX12_sizeOf_6 : decode cX12_sizeOf 6 = .ok (.iload_n 1, 1) := by decide +kernel
theorem dX12_sizeOf_7 : decode cX12_sizeOf 7 = .ok (.iadd, 1) := by decide +kernel
theorem dX12_sizeOf_8 : decode cX12_sizeOf 8 = .ok (.iaload, 1) := by decide +kernel
theorem dX12_sizeOf_9 : decode cX12_sizeOf 9 = .ok (.istore_n 2, 1) := by decide +kernel
theorem dX12_sizeOf_10 : decode cX12_sizeOf 10 = .ok (.aload_n 0, 1) := by decide +kernel
theorem dX12_sizeOf_11 : decode cX12_sizeOf 11 = .ok (.getfield 31, 3) := by decide +kernel
theorem dX12_sizeOf_14 : decode cX12_sizeOf 14 = .ok (.bipush 47, 2) := by decide +kernel
theorem dX12_sizeOf_16 : decode cX12_sizeOf 16 = .ok (.iload_n 1, 1) := by decide +kernel
theorem dX12_sizeOf_17 : decode cX12_sizeOf 17 = .ok (.iadd, 1) := by decide +kernel
theorem dX12_sizeOf_18 : decode cX12_sizeOf 18 = .ok (.iaload, 1) := by decide +kernel
theorem dX12_sizeOf_19 : decode cX12_sizeOf 19 = .ok (.istore_n 3, 1) := by decide +kernel
theorem dX12_sizeOf_20 : decode cX12_sizeOf 20 = .ok (.iload_n 2, 1) := by decide +kernel
theorem dX12_sizeOf_21 : decode cX12_sizeOf 21 = .ok (.iconst 3, 1) := by decide +kernel
theorem dX12_sizeOf_22 : decode cX12_sizeOf 22 = .ok (.if_icmp .le 45, 3) := by decide +kernel
theorem dX12_sizeOf_25 : decode cX12_sizeOf 25 = .ok (.iload_n 2, 1) := by decide +kernel
theorem dX12_sizeOf_26 : decode cX12_sizeOf 26 = .ok (.iconst 5, 1) := by decide +kernel
theorem dX12_sizeOf_27 : decode cX12_sizeOf 27 = .ok (.if_icmp .ne 9, 3) := by decide +kernel
theorem dX12_sizeOf_30 : decode cX12_sizeOf 30 = .ok (.aload_n 0, 1) := by decide +kernel
theorem dX12_sizeOf_31 : decode cX12_sizeOf 31 = .ok (.bipush 14, 2) := by decide +kernel
theorem dX12_sizeOf_33 : decode cX12_sizeOf 33 = .ok (.invokevirtual 227, 3) := by decide +kernel
theorem dX12_sizeOf_36 : decode cX12_sizeOf 36 = .ok (.aload_n 0, 1) := by decide +kernel
theorem dX12_sizeOf_37 : decode cX12_sizeOf 37 = .ok (.bipush 13, 2) := by decide +kernel
theorem dX12_sizeOf_39 : decode cX12_sizeOf 39 = .ok (.invokevirtual 227, 3) := by decide +kernel
theorem dX12_sizeOf_42 : decode cX12_sizeOf 42 = .ok (.aload_n 0, 1) := by decide +kernel
theorem dX12_sizeOf_43 : decode cX12_sizeOf 43 = .ok (.bipush 10, 2) := by decide +kernel
theorem dX12_sizeOf_45 : decode cX12_sizeOf 45 = .ok (.invokevirtual 227, 3) := by decide +kernel
theorem dX12_sizeOf_48 : decode cX12_sizeOf 48 = .ok (.iload_n 2, 1) := by decide +kernel
theorem dX12_sizeOf_49 : decode cX12_sizeOf 49 = .ok (.iconst 5, 1) := by decide +kernel
theorem dX12_sizeOf_50 : decode cX12_sizeOf 50 = .ok (.if_icmp .ne 12, 3) := by decide +kernel
theorem dX12_sizeOf_53 : decode cX12_sizeOf 53 = .ok (.iconst 2, 1) := by decide +kernel
theorem dX12_sizeOf_54 : decode cX12_sizeOf 54 = .ok (.iload_n 3, 1) := by decide +kernel
theorem dX12_sizeOf_55 : decode cX12_sizeOf 55 = .ok (.bipush 100, 2) := by decide +kernel
theorem dX12_sizeOf_57 : decode cX12_sizeOf 57 = .ok (.isub, 1) := by decide +kernel
theorem dX12_sizeOf_58 : decode cX12_sizeOf 58 = .ok (.imul, 1) := by decide +kernel
theorem dX12_sizeOf_59 : decode cX12_sizeOf 59 = .ok (.goto 7, 3) := by decide +kernel
theorem dX12_sizeOf_62 : decode cX12_sizeOf 62 = .ok (.iload_n 3, 1) := by decide +kernel
theorem dX12_sizeOf_63 : decode cX12_sizeOf 63 = .ok (.bipush 100, 2) := by decide +kernel
theorem dX12_sizeOf_65 : decode cX12_sizeOf 65 = .ok (.isub, 1) := by decide +kernel
theorem dX12_sizeOf_66 : decode cX12_sizeOf 66 = .ok (.ireturn, 1) := by decide +kernel
theorem dX12_sizeOf_67 : decode cX12_sizeOf 67 = .ok (.iload_n 2, 1) := by decide +kernel
theorem dX12_sizeOf_68 : decode cX12_sizeOf 68 = .ok (.iconst 2, 1) := by decide +kernel
theorem dX12_sizeOf_69 : decode cX12_sizeOf 69 = .ok (.if_icmp .ne 9, 3) := by decide +kernel
theorem dX12_sizeOf_72 : decode cX12_sizeOf 72 = .ok (.aload_n 0, 1) := by decide +kernel
theorem dX12_sizeOf_73 : decode cX12_sizeOf 73 = .ok (.bipush 12, 2) := by decide +kernel
theorem dX12_sizeOf_75 : decode cX12_sizeOf 75 = .ok (.invokevirtual 227, 3) := by decide +kernel
theorem dX12_sizeOf_78 : decode cX12_sizeOf 78 = .ok (.aload_n 0, 1) := by decide +kernel
theorem dX12_sizeOf_79 : decode cX12_sizeOf 79 = .ok (.bipush 11, 2) := by decide +kernel
theorem dX12_sizeOf_81 : decode cX12_sizeOf 81 = .ok (.invokevirtual 227, 3) := by decide +kernel
theorem dX12_sizeOf_84 : decode cX12_sizeOf 84 = .ok (.aload_n 0, 1) := by decide +kernel
theorem dX12_sizeOf_85 : decode cX12_sizeOf 85 = .ok (.bipush 10, 2) := by decide +kernel
theorem dX12_sizeOf_87 : decode cX12_sizeOf 87 = .ok (.invokevirtual 227, 3) := by decide +kernel
theorem dX12_sizeOf_90 : decode cX12_sizeOf 90 = .ok (.iload_n 3, 1) := by decide +kernel
theorem dX12_sizeOf_91 : decode cX12_sizeOf 91 = .ok (.aload_n 0, 1) := by decide +kernel
theorem dX12_sizeOf_92 : decode cX12_sizeOf 92 = .ok (.iload_n 1, 1) := by decide +kernel
theorem dX12_sizeOf_93 : decode cX12_sizeOf 93 = .ok (.invokevirtual 231, 3) := by decide +kernel
theorem dX12_sizeOf_96 : decode cX12_sizeOf 96 = .ok (.iadd, 1) := by decide +kernel
theorem dX12_sizeOf_97 : decode cX12_sizeOf 97 = .ok (.istore 4, 2) := by decide +kernel
theorem dX12_sizeOf_99 : decode cX12_sizeOf 99 = .ok (.iload_n 2, 1) := by decide +kernel
theorem dX12_sizeOf_100 : decode cX12_sizeOf 100 = .ok (.iconst 2, 1) := by decide +kernel
theorem dX12_sizeOf_101 : decode cX12_sizeOf 101 = .ok (.if_icmp .ne 9, 3) := by decide +kernel
theorem dX12_sizeOf_104 : decode cX12_sizeOf 104 = .ok (.iload 4, 2) := by decide +kernel
theorem dX12_sizeOf_106 : decode cX12_sizeOf 106 = .ok (.ineg, 1) := by decide +kernel
theorem dX12_sizeOf_107 : decode cX12_sizeOf 107 = .ok (.goto 5, 3) := by decide +kernel
theorem dX12_sizeOf_110 : decode cX12_sizeOf 110 = .ok (.iload 4, 2) := by decide +kernel
theorem dX12_sizeOf_112 : decode cX12_sizeOf 112 = .ok (.ireturn, 1) := by decide +kernel
set_option maxRecDepth 20000 in
theorem ggX12_ask_X12_isGuest : GoodIn wsX12_ask wsX12_isGuest := goodIn_r _ [8, 3, 9, 10, 7, 11, 29, 30, 31, 32, 33, 34, 35, 36, 37, 38, 39, 40, 41, 42, 43, 44, 45, 46, 47, 48, 49, 50, 51, 52, 53, 54, 55] (by decide +kernel) (by decide +kernel)
set_option maxRecDepth 20000 in
theorem gX12_ask_X12_isGuest : GoodIn wsX12_ask (wsV RX12 141 RX12 yX12_isGuest wsX12_isGuest) := goodIn_app (goodIn_of _ (by decide +kernel)) ggX12_ask_X12_isGuest
set_option maxRecDepth 20000 in
theorem ggX12_ask_X12_in : GoodIn wsX12_ask wsX12_in := goodIn_r _ [11] (by decide +kernel) (by decide +kernel)
set_option maxRecDepth 20000 in
theorem gX12_ask_X12_in : GoodIn wsX12_ask (va_wsS RX12 52 yX12_in wsX12_in) := goodIn_app (goodIn_of _ (by decide +kernel)) ggX12_ask_X12_in
set_option maxRecDepth 20000 in
theorem ggX12_ask_X12_sizeOf : GoodIn wsX12_ask wsX12_sizeOf := goodIn_r _ [15, 3, 16, 17, 18, 7, 19, 2, 20, 21, 22, 23, 24, 25, 26, 27, 28, 29, 30, 31, 32, 33, 34, 35, 36, 37, 38, 39, 40, 41, 42, 43, 44, 45, 46, 47, 48, 49, 50, 51, 52, 53, 54, 55] (by decide +kernel) (by decide +kernel)
set_option maxRecDepth 20000 in
theorem gX12_ask_X12_sizeOf : GoodIn wsX12_ask (wsV RX12 234 RX12 yX12_sizeOf wsX12_sizeOf) := goodIn_app (goodIn_of _ (by decide +kernel)) ggX12_ask_X12_sizeOf
set_option maxRecDepth 20000 in
theorem ggX12_ask_X12_tourMark : GoodIn wsX12_ask wsX12_tourMark := goodIn_r _ [24, 3, 16, 17, 18, 7, 19, 2, 20, 25, 26, 27, 28, 29, 30, 31, 32, 33, 34, 35, 36, 37, 38, 39, 40, 41, 42, 43, 44, 45, 46, 47, 48, 49, 50, 51, 52, 53, 54, 55] (by decide +kernel) (by decide +kernel)
set_option maxRecDepth 20000 in
theorem gX12_ask_X12_tourMark : GoodIn wsX12_ask (wsV RX12 231 RX12 yX12_tourMark wsX12_tourMark) := goodIn_app (goodIn_of _ (by decide +kernel)) ggX12_ask_X12_tourMark
set_option maxRecDepth 20000 in
theorem ggX12_ask_X12_leave : GoodIn wsX12_ask wsX12_leave := goodIn_r _ [19, 2, 20, 29, 30, 31, 32, 33, 34, 35, 36, 37, 38, 39, 40, 41, 42, 43, 44, 45, 46, 47, 48, 49, 50, 51, 52, 53, 54, 55] (by decide +kernel) (by decide +kernel)
set_option maxRecDepth 20000 in
theorem gX12_ask_X12_leave : GoodIn wsX12_ask (wsV RX12 227 RX12 yX12_leave wsX12_leave) := goodIn_app (goodIn_of _ (by decide +kernel)) ggX12_ask_X12_leave
theorem dX12_ask_0 : decode cX12_ask 0 = .ok (.aload_n 0, 1) := by decide +kernel
theorem dX12_ask_1 : decode cX12_ask 1 = .ok (.iload_n 1, 1) := by decide +kernel
theorem dX12_ask_2 : decode cX12_ask 2 = .ok (.invokevirtual 141, 3) := by decide +kernel
theorem dX12_ask_5 : decode cX12_ask 5 = .ok (.ifCond .eq 12, 3) := by decide +kernel
theorem dX12_ask_8 : decode cX12_ask 8 = .ok (.iload_n 2, 1) := by decide +kernel
theorem dX12_ask_9 : decode cX12_ask 9 = .ok (.iconst 0, 1) := by decide +kernel
theorem dX12_ask_10 : decode cX12_ask 10 = .ok (.iconst 1, 1) := by decide +kernel
theorem dX12_ask_11 : decode cX12_ask 11 = .ok (.invokestatic 52, 3) := by decide +kernel
theorem dX12_ask_14 : decode cX12_ask 14 = .ok (.ifCond .ne 6, 3) := by decide +kernel
theorem dX12_ask_17 : decode cX12_ask 17 = .ok (.ldc 60, 2) := by decide +kernel
theorem dX12_ask_19 : decode cX12_ask 19 = .ok (.ireturn, 1) := by decide +kernel
theorem dX12_ask_20 : decode cX12_ask 20 = .ok (.aload_n 0, 1) := by decide +kernel
theorem dX12_ask_21 : decode cX12_ask 21 = .ok (.iconst 0, 1) := by decide +kernel
theorem dX12_ask_22 : decode cX12_ask 22 = .ok (.putfield 224, 3) := by decide +kernel
theorem dX12_ask_25 : decode cX12_ask 25 = .ok (.iload_n 2, 1) := by decide +kernel
theorem dX12_ask_26 : decode cX12_ask 26 = .ok (.ifCond .ne 9, 3) := by decide +kernel
theorem dX12_ask_29 : decode cX12_ask 29 = .ok (.aload_n 0, 1) := by decide +kernel
theorem dX12_ask_30 : decode cX12_ask 30 = .ok (.iload_n 1, 1) := by decide +kernel
theorem dX12_ask_31 : decode cX12_ask 31 = .ok (.invokevirtual 234, 3) := by decide +kernel
theorem dX12_ask_34 : decode cX12_ask 34 = .ok (.ireturn, 1) := by decide +kernel
theorem dX12_ask_35 : decode cX12_ask 35 = .ok (.aload_n 0, 1) := by decide +kernel
theorem dX12_ask_36 : decode cX12_ask 36 = .ok (.getfield 31, 3) := by decide +kernel
theorem dX12_ask_39 : decode cX12_ask 39 = .ok (.bipush 43, 2) := by decide +kernel
theorem dX12_ask_41 : decode cX12_ask 41 = .ok (.iload_n 1, 1) := by decide +kernel
theorem dX12_ask_42 : decode cX12_ask 42 = .ok (.iadd, 1) := by decide +kernel
theorem dX12_ask_43 : decode cX12_ask 43 = .ok (.iaload, 1) := by decide +kernel
theorem dX12_ask_44 : decode cX12_ask 44 = .ok (.iconst 4, 1) := by decide +kernel
theorem dX12_ask_45 : decode cX12_ask 45 = .ok (.if_icmp .ge 9, 3) := by decide +kernel
theorem dX12_ask_48 : decode cX12_ask 48 = .ok (.aload_n 0, 1) := by decide +kernel
theorem dX12_ask_49 : decode cX12_ask 49 = .ok (.iload_n 1, 1) := by decide +kernel
theorem dX12_ask_50 : decode cX12_ask 50 = .ok (.invokevirtual 231, 3) := by decide +kernel
theorem dX12_ask_53 : decode cX12_ask 53 = .ok (.ireturn, 1) := by decide +kernel
theorem dX12_ask_54 : decode cX12_ask 54 = .ok (.aload_n 0, 1) := by decide +kernel
theorem dX12_ask_55 : decode cX12_ask 55 = .ok (.bipush 23, 2) := by decide +kernel
theorem dX12_ask_57 : decode cX12_ask 57 = .ok (.invokevirtual 227, 3) := by decide +kernel
theorem dX12_ask_60 : decode cX12_ask 60 = .ok (.aload_n 0, 1) := by decide +kernel
theorem dX12_ask_61 : decode cX12_ask 61 = .ok (.bipush 20, 2) := by decide +kernel
theorem dX12_ask_63 : decode cX12_ask 63 = .ok (.invokevirtual 227, 3) := by decide +kernel
theorem dX12_ask_66 : decode cX12_ask 66 = .ok (.iload_n 1, 1) := by decide +kernel
theorem dX12_ask_67 : decode cX12_ask 67 = .ok (.aload_n 0, 1) := by decide +kernel
theorem dX12_ask_68 : decode cX12_ask 68 = .ok (.iload_n 1, 1) := by decide +kernel
theorem dX12_ask_69 : decode cX12_ask 69 = .ok (.invokevirtual 234, 3) := by decide +kernel
theorem dX12_ask_72 : decode cX12_ask 72 = .ok (.isub, 1) := by decide +kernel
theorem dX12_ask_73 : decode cX12_ask 73 = .ok (.ireturn, 1) := by decide +kernel
set_option maxRecDepth 20000 in
theorem ggX12_trace_X12_in : GoodIn wsX12_trace wsX12_in := goodIn_r _ [7] (by decide +kernel) (by decide +kernel)
set_option maxRecDepth 20000 in
theorem gX12_trace_X12_in : GoodIn wsX12_trace (va_wsS RX12 52 yX12_in wsX12_in) := goodIn_app (goodIn_of _ (by decide +kernel)) ggX12_trace_X12_in
theorem dX12_trace_0 : decode cX12_trace 0 = .ok (.iload_n 1, 1) := by decide +kernel
theorem dX12_trace_1 : decode cX12_trace 1 = .ok (.iconst 0, 1) := by decide +kernel
theorem dX12_trace_2 : decode cX12_trace 2 = .ok (.aload_n 0, 1) := by decide +kernel
theorem dX12_trace_3 : decode cX12_trace 3 = .ok (.getfield 224, 3) := by decide +kernel
theorem dX12_trace_6 : decode cX12_trace 6 = .ok (.iconst 1, 1) := by decide +kernel
theorem dX12_trace_7 : decode cX12_trace 7 = .ok (.isub, 1) := by decide +kernel
theorem dX12_trace_8 : decode cX12_trace 8 = .ok (.invokestatic 52, 3) := by decide +kernel
theorem dX12_trace_11 : decode cX12_trace 11 = .ok (.ifCond .eq 12, 3) := by decide +kernel
theorem dX12_trace_14 : decode cX12_trace 14 = .ok (.aload_n 0, 1) := by decide +kernel
theorem dX12_trace_15 : decode cX12_trace 15 = .ok (.getfield 44, 3) := by decide +kernel
theorem dX12_trace_18 : decode cX12_trace 18 = .ok (.iload_n 1, 1) := by decide +kernel
theorem dX12_trace_19 : decode cX12_trace 19 = .ok (.iaload, 1) := by decide +kernel
theorem dX12_trace_20 : decode cX12_trace 20 = .ok (.goto 5, 3) := by decide +kernel
theorem dX12_trace_23 : decode cX12_trace 23 = .ok (.ldc 201, 2) := by decide +kernel
theorem dX12_trace_25 : decode cX12_trace 25 = .ok (.ireturn, 1) := by decide +kernel
set_option maxRecDepth 20000 in
theorem ggX12_count_X12_isNull : GoodIn wsX12_count wsX12_isNull := goodIn_r _ [9, 10, 22, 23, 24, 25, 26, 27, 28, 29, 30, 31, 32, 33, 34, 35, 36, 37, 38, 39, 40, 41, 42, 43, 44, 45, 46, 47, 48] (by decide +kernel) (by decide +kernel)
set_option maxRecDepth 20000 in
theorem gX12_count_X12_isNull : GoodIn wsX12_count (wsV RX12 68 RX12 yX12_isNull wsX12_isNull) := goodIn_app (goodIn_of _ (by decide +kernel)) ggX12_count_X12_isNull
set_option maxRecDepth 20000 in
theorem ggX12_count_X12_soldOfAll : GoodIn wsX12_count wsX12_soldOfAll := goodIn_r _ [14, 1, 15, 16, 8, 17, 22, 23, 24, 25, 26, 27, 28, 29, 30, 31, 32, 33, 34, 35, 36, 37, 38, 39, 40, 41, 42, 43, 44, 45, 46, 47, 48] (by decide +kernel) (by decide +kernel)
set_option maxRecDepth 20000 in
theorem gX12_count_X12_soldOfAll : GoodIn wsX12_count (wsV RX12 174 RX12 yX12_soldOfAll wsX12_soldOfAll) := goodIn_app (goodIn_of _ (by decide +kernel)) ggX12_count_X12_soldOfAll
set_option maxRecDepth 20000 in
theorem ggX12_count_X12_drawnOfAll : GoodIn wsX12_count wsX12_drawnOfAll := goodIn_r _ [21, 1, 15, 16, 8, 17, 22, 23, 24, 25, 26, 27, 28, 29, 30, 31, 32, 33, 34, 35, 36, 37, 38, 39, 40, 41, 42, 43, 44, 45, 46, 47, 48] (by decide +kernel) (by decide +kernel)
set_option maxRecDepth 20000 in
theorem gX12_count_X12_drawnOfAll : GoodIn wsX12_count (wsV RX12 186 RX12 yX12_drawnOfAll wsX12_drawnOfAll) := goodIn_app (goodIn_of _ (by decide +kernel)) ggX12_count_X12_drawnOfAll
theorem dX12_count_0 : decode cX12_count 0 = .ok (.iconst 0, 1) := by decide +kernel
theorem dX12_count_1 : decode cX12_count 1 = .ok (.istore_n 2, 1) := by decide +kernel
theorem dX12_count_2 : decode cX12_count 2 = .ok (.iload_n 1, 1) := by decide +kernel
theorem dX12_count_3 : decode cX12_count 3 = .ok (.tableswitch 131 0 8 #[49, 81, 88, 97, 104, 111, 116, 121, 126], 49) := by decide +kernel
theorem dX12_count_52 : decode cX12_count 52 = .ok (.iconst 0, 1) := by decide +kernel
theorem dX12_count_53 : decode cX12_count 53 = .ok (.istore_n 3, 1) := by decide +kernel
theorem dX12_count_54 : decode cX12_count 54 = .ok (.iload_n 3, 1) := by decide +kernel
theorem dX12_count_55 : decode cX12_count 55 = .ok (.bipush 8, 2) := by decide +kernel
theorem dX12_count_57 : decode cX12_count 57 = .ok (.if_icmp .ge 25, 3) := by decide +kernel
theorem dX12_count_60 : decode cX12_count 60 = .ok (.iload_n 2, 1) := by decide +kernel
theorem dX12_count_61 : decode cX12_count 61 = .ok (.aload_n 0, 1) := by decide +kernel
theorem dX12_count_62 : decode cX12_count 62 = .ok (.iload_n 3, 1) := by decide +kernel
theorem dX12_count_63 : decode cX12_count 63 = .ok (.invokevirtual 68, 3) := by decide +kernel
theorem dX12_count_66 : decode cX12_count 66 = .ok (.ifCond .eq 7, 3) := by decide +kernel
theorem dX12_count_69 : decode cX12_count 69 = .ok (.iconst 0, 1) := by decide +kernel
theorem dX12_count_70 : decode cX12_count 70 = .ok (.goto 4, 3) := by decide +kernel
theorem dX12_count_73 : decode cX12_count 73 = .ok (.iconst 1, 1) := by decide +kernel
theorem dX12_count_74 : decode cX12_count 74 = .ok (.iadd, 1) := by decide +kernel
theorem dX12_count_75 : decode cX12_count 75 = .ok (.istore_n 2, 1) := by decide +kernel
theorem dX12_count_76 : decode cX12_count 76 = .ok (.iinc 3 1, 3) := by decide +kernel
theorem dX12_count_79 : decode cX12_count 79 = .ok (.goto (-25), 3) := by decide +kernel
theorem dX12_count_82 : decode cX12_count 82 = .ok (.iload_n 2, 1) := by decide +kernel
theorem dX12_count_83 : decode cX12_count 83 = .ok (.ireturn, 1) := by decide +kernel
theorem dX12_count_84 : decode cX12_count 84 = .ok (.aload_n 0, 1) := by decide +kernel
theorem dX12_count_85 : decode cX12_count 85 = .ok (.getfield 31, 3) := by decide +kernel
theorem dX12_count_88 : decode cX12_count 88 = .ok (.iconst 0, 1) := by decide +kernel
theorem dX12_count_89 : decode cX12_count 89 = .ok (.iaload, 1) := by decide +kernel
theorem dX12_count_90 : decode cX12_count 90 = .ok (.ireturn, 1) := by decide +kernel
theorem dX12_count_91 : decode cX12_count 91 = .ok (.aload_n 0, 1) := by decide +kernel
theorem dX12_count_92 : decode cX12_count 92 = .ok (.getfield 31, 3) := by decide +kernel
theorem dX12_count_95 : decode cX12_count 95 = .ok (.sipush 148, 3) := by decide +kernel
theorem dX12_count_98 : decode cX12_count 98 = .ok (.iaload, 1) := by decide +kernel
theorem dX12_count_99 : decode cX12_count 99 = .ok (.ireturn, 1) := by decide +kernel
theorem dX12_count_100 : decode cX12_count 100 = .ok (.aload_n 0, 1) := by decide +kernel
theorem dX12_count_101 : decode cX12_count 101 = .ok (.getfield 31, 3) := by decide +kernel
theorem dX12_count_104 : decode cX12_count 104 = .ok (.iconst 3, 1) := by decide +kernel
theorem dX12_count_105 : decode cX12_count 105 = .ok (.iaload, 1) := by decide +kernel
theorem dX12_count_106 : decode cX12_count 106 = .ok (.ireturn, 1) := by decide +kernel
theorem dX12_count_107 : decode cX12_count 107 = .ok (.aload_n 0, 1) := by decide +kernel
theorem dX12_count_108 : decode cX12_count 108 = .ok (.getfield 31, 3) := by decide +kernel
theorem dX12_count_111 : decode cX12_count 111 = .ok (.iconst 4, 1) := by decide +kernel
theorem dX12_count_112 : decode cX12_count 112 = .ok (.iaload, 1) := by decide +kernel
theorem dX12_count_113 : decode cX12_count 113 = .ok (.ireturn, 1) := by decide +kernel
theorem dX12_count_114 : decode cX12_count 114 = .ok (.aload_n 0, 1) := by decide +kernel
theorem dX12_count_115 : decode cX12_count 115 = .ok (.invokevirtual 174, 3) := by decide +kernel
theorem dX12_count_118 : decode cX12_count 118 = .ok (.ireturn, 1) := by decide +kernel
theorem dX12_count_119 : decode cX12_count 119 = .ok (.aload_n 0, 1) := by decide +kernel
theorem dX12_count_120 : decode cX12_count 120 = .ok (.invokevirtual 186, 3) := by decide +kernel
theorem dX12_count_123 : decode cX12_count 123 = .ok (.ireturn, 1) := by decide +kernel
theorem dX12_count_124 : decode cX12_count 124 = .ok (.aload_n 0, 1) := by decide +kernel
theorem dX12_count_125 : decode cX12_count 125 = .ok (.getfield 138, 3) := by decide +kernel
theorem dX12_count_128 : decode cX12_count 128 = .ok (.ireturn, 1) := by decide +kernel
theorem dX12_count_129 : decode cX12_count 129 = .ok (.aload_n 0, 1) := by decide +kernel
theorem dX12_count_130 : decode cX12_count 130 = .ok (.getfield 71, 3) := by decide +kernel
theorem dX12_count_133 : decode cX12_count 133 = .ok (.ireturn, 1) := by decide +kernel
theorem dX12_count_134 : decode cX12_count 134 = .ok (.ldc 60, 2) := by decide +kernel
theorem dX12_count_136 : decode cX12_count 136 = .ok (.ireturn, 1) := by decide +kernel
theorem dX12_status_0 : decode cX12_status 0 = .ok (.aload_n 0, 1) := by decide +kernel
theorem dX12_status_1 : decode cX12_status 1 = .ok (.getfield 47, 3) := by decide +kernel
theorem dX12_status_4 : decode cX12_status 4 = .ok (.ireturn, 1) := by decide +kernel
theorem dJ6_bitCount_0f7a4_0 : decode cJ6_bitCount_0f7a4 0 = .ok (.iload_n 0, 1) := by decide +kernel
theorem dJ6_bitCount_0f7a4_1 : decode cJ6_bitCount_0f7a4 1 = .ok (.iload_n 0, 1) := by decide +kernel
theorem dJ6_bitCount_0f7a4_2 : decode cJ6_bitCount_0f7a4 2 = .ok (.iconst 1, 1) := by decide +kernel
theorem dJ6_bitCount_0f7a4_3 : decode cJ6_bitCount_0f7a4 3 = .ok (.iushr, 1) := by decide +kernel
theorem dJ6_bitCount_0f7a4_4 : decode cJ6_bitCount_0f7a4 4 = .ok (.ldc_w 265, 3) := by decide +kernel
theorem dJ6_bitCount_0f7a4_7 : decode cJ6_bitCount_0f7a4 7 = .ok (.iand, 1) := by decide +kernel
theorem dJ6_bitCount_0f7a4_8 : decode cJ6_bitCount_0f7a4 8 = .ok (.isub, 1) := by decide +kernel
theorem dJ6_bitCount_0f7a4_9 : decode cJ6_bitCount_0f7a4 9 = .ok (.istore_n 0, 1) := by decide +kernel
theorem dJ6_bitCount_0f7a4_10 : decode cJ6_bitCount_0f7a4 10 = .ok (.iload_n 0, 1) := by decide +kernel
theorem dJ6_bitCount_0f7a4_11 : decode cJ6_bitCount_0f7a4 11 = .ok (.ldc_w 266, 3) := by decide +kernel
theorem dJ6_bitCount_0f7a4_14 : decode cJ6_bitCount_0f7a4 14 = .ok (.iand, 1) := by decide +kernel
theorem dJ6_bitCount_0f7a4_15 : decode cJ6_bitCount_0f7a4 15 = .ok (.iload_n 0, 1) := by decide +kernel
theorem dJ6_bitCount_0f7a4_16 : decode cJ6_bitCount_0f7a4 16 = .ok (.iconst 2, 1) := by decide +kernel
theorem dJ6_bitCount_0f7a4_17 : decode cJ6_bitCount_0f7a4 17 = .ok (.iushr, 1) := by decide +kernel
theorem dJ6_bitCount_0f7a4_18 : decode cJ6_bitCount_0f7a4 18 = .ok (.ldc_w 266, 3) := by decide +kernel
theorem dJ6_bitCount_0f7a4_21 : decode cJ6_bitCount_0f7a4 21 = .ok (.iand, 1) := by decide +kernel
theorem dJ6_bitCount_0f7a4_22 : decode cJ6_bitCount_0f7a4 22 = .ok (.iadd, 1) := by decide +kernel
theorem dJ6_bitCount_0f7a4_23 : decode cJ6_bitCount_0f7a4 23 = .ok (.istore_n 0, 1) := by decide +kernel
theorem dJ6_bitCount_0f7a4_24 : decode cJ6_bitCount_0f7a4 24 = .ok (.iload_n 0, 1) := by decide +kernel
theorem dJ6_bitCount_0f7a4_25 : decode cJ6_bitCount_0f7a4 25 = .ok (.iload_n 0, 1) := by decide +kernel
theorem dJ6_bitCount_0f7a4_26 : decode cJ6_bitCount_0f7a4 26 = .ok (.iconst 4, 1) := by decide +kernel
theorem dJ6_bitCount_0f7a4_27 : decode cJ6_bitCount_0f7a4 27 = .ok (.iushr, 1) := by decide +kernel
theorem dJ6_bitCount_0f7a4_28 : decode cJ6_bitCount_0f7a4 28 = .ok (.iadd, 1) := by decide +kernel
theorem dJ6_bitCount_0f7a4_29 : decode cJ6_bitCount_0f7a4 29 = .ok (.ldc_w 267, 3) := by decide +kernel
theorem dJ6_bitCount_0f7a4_32 : decode cJ6_bitCount_0f7a4 32 = .ok (.iand, 1) := by decide +kernel
theorem dJ6_bitCount_0f7a4_33 : decode cJ6_bitCount_0f7a4 33 = .ok (.istore_n 0, 1) := by decide +kernel
theorem dJ6_bitCount_0f7a4_34 : decode cJ6_bitCount_0f7a4 34 = .ok (.iload_n 0, 1) := by decide +kernel
theorem dJ6_bitCount_0f7a4_35 : decode cJ6_bitCount_0f7a4 35 = .ok (.iload_n 0, 1) := by decide +kernel
theorem dJ6_bitCount_0f7a4_36 : decode cJ6_bitCount_0f7a4 36 = .ok (.bipush 8, 2) := by decide +kernel
theorem dJ6_bitCount_0f7a4_38 : decode cJ6_bitCount_0f7a4 38 = .ok (.iushr, 1) := by decide +kernel
theorem dJ6_bitCount_0f7a4_39 : decode cJ6_bitCount_0f7a4 39 = .ok (.iadd, 1) := by decide +kernel
theorem dJ6_bitCount_0f7a4_40 : decode cJ6_bitCount_0f7a4 40 = .ok (.istore_n 0, 1) := by decide +kernel
theorem dJ6_bitCount_0f7a4_41 : decode cJ6_bitCount_0f7a4 41 = .ok (.iload_n 0, 1) := by decide +kernel
theorem dJ6_bitCount_0f7a4_42 : decode cJ6_bitCount_0f7a4 42 = .ok (.iload_n 0, 1) := by decide +kernel
theorem dJ6_bitCount_0f7a4_43 : decode cJ6_bitCount_0f7a4 43 = .ok (.bipush 16, 2) := by decide +kernel
theorem dJ6_bitCount_0f7a4_45 : decode cJ6_bitCount_0f7a4 45 = .ok (.iushr, 1) := by decide +kernel
theorem dJ6_bitCount_0f7a4_46 : decode cJ6_bitCount_0f7a4 46 = .ok (.iadd, 1) := by decide +kernel
theorem dJ6_bitCount_0f7a4_47 : decode cJ6_bitCount_0f7a4 47 = .ok (.istore_n 0, 1) := by decide +kernel
theorem dJ6_bitCount_0f7a4_48 : decode cJ6_bitCount_0f7a4 48 = .ok (.iload_n 0, 1) := by decide +kernel
theorem dJ6_bitCount_0f7a4_49 : decode cJ6_bitCount_0f7a4 49 = .ok (.bipush 63, 2) := by decide +kernel
theorem dJ6_bitCount_0f7a4_51 : decode cJ6_bitCount_0f7a4 51 = .ok (.iand, 1) := by decide +kernel
theorem dJ6_bitCount_0f7a4_52 : decode cJ6_bitCount_0f7a4 52 = .ok (.ireturn, 1) := by decide +kernel
theorem dJ9_max_7cf53_0 : decode cJ9_max_7cf53 0 = .ok (.iload_n 0, 1) := by decide +kernel
theorem dJ9_max_7cf53_1 : decode cJ9_max_7cf53 1 = .ok (.iload_n 1, 1) := by decide +kernel
theorem dJ9_max_7cf53_2 : decode cJ9_max_7cf53 2 = .ok (.if_icmp .lt 7, 3) := by decide +kernel
theorem dJ9_max_7cf53_5 : decode cJ9_max_7cf53 5 = .ok (.iload_n 0, 1) := by decide +kernel
theorem dJ9_max_7cf53_6 : decode cJ9_max_7cf53 6 = .ok (.goto 4, 3) := by decide +kernel
theorem dJ9_max_7cf53_9 : decode cJ9_max_7cf53 9 = .ok (.iload_n 1, 1) := by decide +kernel
theorem dJ9_max_7cf53_10 : decode cJ9_max_7cf53 10 = .ok (.ireturn, 1) := by decide +kernel
theorem dJ9_min_7cf53_0 : decode cJ9_min_7cf53 0 = .ok (.iload_n 0, 1) := by decide +kernel
theorem dJ9_min_7cf53_1 : decode cJ9_min_7cf53 1 = .ok (.iload_n 1, 1) := by decide +kernel
theorem dJ9_min_7cf53_2 : decode cJ9_min_7cf53 2 = .ok (.if_icmp .gt 7, 3) := by decide +kernel
theorem dJ9_min_7cf53_5 : decode cJ9_min_7cf53 5 = .ok (.iload_n 0, 1) := by decide +kernel
theorem dJ9_min_7cf53_6 : decode cJ9_min_7cf53 6 = .ok (.goto 4, 3) := by decide +kernel
theorem dJ9_min_7cf53_9 : decode cJ9_min_7cf53 9 = .ok (.iload_n 1, 1) := by decide +kernel
theorem dJ9_min_7cf53_10 : decode cJ9_min_7cf53 10 = .ok (.ireturn, 1) := by decide +kernel
theorem dJ7_fill_53178_0 : decode cJ7_fill_53178 0 = .ok (.iconst 0, 1) := by decide +kernel
theorem dJ7_fill_53178_1 : decode cJ7_fill_53178 1 = .ok (.istore_n 2, 1) := by decide +kernel
theorem dJ7_fill_53178_2 : decode cJ7_fill_53178 2 = .ok (.aload_n 0, 1) := by decide +kernel
theorem dJ7_fill_53178_3 : decode cJ7_fill_53178 3 = .ok (.arraylength, 1) := by decide +kernel
theorem dJ7_fill_53178_4 : decode cJ7_fill_53178 4 = .ok (.istore_n 3, 1) := by decide +kernel
theorem dJ7_fill_53178_5 : decode cJ7_fill_53178 5 = .ok (.iload_n 2, 1) := by decide +kernel
theorem dJ7_fill_53178_6 : decode cJ7_fill_53178 6 = .ok (.iload_n 3, 1) := by decide +kernel
theorem dJ7_fill_53178_7 : decode cJ7_fill_53178 7 = .ok (.if_icmp .ge 13, 3) := by decide +kernel
theorem dJ7_fill_53178_10 : decode cJ7_fill_53178 10 = .ok (.aload_n 0, 1) := by decide +kernel
theorem dJ7_fill_53178_11 : decode cJ7_fill_53178 11 = .ok (.iload_n 2, 1) := by decide +kernel
theorem dJ7_fill_53178_12 : decode cJ7_fill_53178 12 = .ok (.iload_n 1, 1) := by decide +kernel
theorem dJ7_fill_53178_13 : decode cJ7_fill_53178 13 = .ok (.iastore, 1) := by decide +kernel
theorem dJ7_fill_53178_14 : decode cJ7_fill_53178 14 = .ok (.iinc 2 1, 3) := by decide +kernel
theorem dJ7_fill_53178_17 : decode cJ7_fill_53178 17 = .ok (.goto (-12), 3) := by decide +kernel
theorem dJ7_fill_53178_20 : decode cJ7_fill_53178 20 = .ok (.return_, 1) := by decide +kernel
