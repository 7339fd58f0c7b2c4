theorem dX11_met_30 : decode cX11_met 30 = .ok (.aload_n 0, 1) := by decide +kernel
theorem dX11_met_31 : decode cX11_met 31 = .ok (.getfield 25, 3) := by decide +kernel
theorem dX11_met_34 : decode cX11_met 34 = .ok (.iload_n 1, 1) := by decide +kernel
theorem dX11_met_35 : decode cX11_met 35 = .ok (.iload_n 2, 1) := by decide +kernel
theorem dX11_met_36 : decode cX11_met 36 = .ok (.invokevirtual 264, 3) := by decide +kernel
theorem dX11_met_39 : decode cX11_met 39 = .ok (.ireturn, 1) := by decide +kernel
set_option maxRecDepth 20000 in
theorem ggX11_soldOut_X3_stands : GoodIn wsX11_soldOut wsX3_stands := goodIn_r _ [8, 9, 43, 44, 45, 46, 47, 48, 49, 50, 51, 52, 53, 54, 55, 56, 57] (by decide +kernel) (by decide +kernel)
set_option maxRecDepth 20000 in
theorem gX11_soldOut_X3_stands : GoodIn wsX11_soldOut (wsV RX11 180 RX3 yX3_stands wsX3_stands) := goodIn_app (goodIn_of _ (by decide +kernel)) ggX11_soldOut_X3_stands
set_option maxRecDepth 20000 in
theorem ggX11_soldOut_X3_soldOutAt : GoodIn wsX11_soldOut wsX3_soldOutAt := goodIn_r _ [13, 9, 14, 15, 16, 17, 7, 18, 19, 20, 21, 22, 23, 24, 25, 26, 27, 28, 29, 30, 31, 32, 33, 34, 43, 44, 45, 46, 47, 48, 49, 50, 51, 52, 53, 54, 55, 56, 57] (by decide +kernel) (by decide +kernel)
set_option maxRecDepth 20000 in
theorem gX11_soldOut_X3_soldOutAt : GoodIn wsX11_soldOut (wsV RX11 267 RX3 yX3_soldOutAt wsX3_soldOutAt) := goodIn_app (goodIn_of _ (by decide +kernel)) ggX11_soldOut_X3_soldOutAt
theorem dX11_soldOut_0 : decode cX11_soldOut 0 = .ok (.aload_n 0, 1) := by decide +kernel
theorem dX11_soldOut_1 : decode cX11_soldOut 1 = .ok (.getfield 25, 3) := by decide +kernel
theorem dX11_soldOut_4 : decode cX11_soldOut 4 = .ok (.invokevirtual 180, 3) := by decide +kernel
theorem dX11_soldOut_7 : decode cX11_soldOut 7 = .ok (.ifCond .ne 6, 3) := by decide +kernel
theorem dX11_soldOut_10 : decode cX11_soldOut 10 = .ok (.ldc 126, 2) := by decide +kernel
theorem dX11_soldOut_12 : decode cX11_soldOut 12 = .ok (.ireturn, 1) := by decide +kernel
theorem dX11_soldOut_13 : decode cX11_soldOut 13 = .ok (.iload_n 1, 1) := by decide +kernel
theorem dX11_soldOut_14 : decode cX11_soldOut 14 = .ok (.iconst (-1), 1) := by decide +kernel
theorem dX11_soldOut_15 : decode cX11_soldOut 15 = .ok (.if_icmp .ge 6, 3) := by decide +kernel
theorem dX11_soldOut_18 : decode cX11_soldOut 18 = .ok (.ldc 55, 2) := by decide +kernel
theorem dX11_soldOut_20 : decode cX11_soldOut 20 = .ok (.ireturn, 1) := by decide +kernel
theorem dX11_soldOut_21 : decode cX11_soldOut 21 = .ok (.aload_n 0, 1) := by decide +kernel
theorem dX11_soldOut_22 : decode cX11_soldOut 22 = .ok (.getfield 25, 3) := by decide +kernel
theorem dX11_soldOut_25 : decode cX11_soldOut 25 = .ok (.iload_n 1, 1) := by decide +kernel
theorem dX11_soldOut_26 : decode cX11_soldOut 26 = .ok (.invokevirtual 267, 3) := by decide +kernel
theorem dX11_soldOut_29 : decode cX11_soldOut 29 = .ok (.ireturn, 1) := by decide +kernel
set_option maxRecDepth 20000 in
theorem ggX11_haunted_X3_stands : GoodIn wsX11_haunted wsX3_stands := goodIn_r _ [7, 8, 36, 37, 38, 39, 40, 41, 42, 43, 44, 45, 46, 47, 48, 49, 50] (by decide +kernel) (by decide +kernel)
set_option maxRecDepth 20000 in
theorem gX11_haunted_X3_stands : GoodIn wsX11_haunted (wsV RX11 180 RX3 yX3_stands wsX3_stands) := goodIn_app (goodIn_of _ (by decide +kernel)) ggX11_haunted_X3_stands
set_option maxRecDepth 20000 in
theorem ggX11_haunted_X3_mostHeld : GoodIn wsX11_haunted wsX3_mostHeld := goodIn_r _ [12, 8, 13, 14, 15, 6, 16, 17, 18, 19, 20, 21, 22, 23, 24, 25, 26, 27, 36, 37, 38, 39, 40, 41, 42, 43, 44, 45, 46, 47, 48, 49, 50] (by decide +kernel) (by decide +kernel)
set_option maxRecDepth 20000 in
theorem gX11_haunted_X3_mostHeld : GoodIn wsX11_haunted (wsV RX11 270 RX3 yX3_mostHeld wsX3_mostHeld) := goodIn_app (goodIn_of _ (by decide +kernel)) ggX11_haunted_X3_mostHeld
theorem dX11_haunted_0 : decode cX11_haunted 0 = .ok (.aload_n 0, 1) := by decide +kernel
theorem dX11_haunted_1 : decode cX11_haunted 1 = .ok (.getfield 25, 3) := by decide +kernel
theorem dX11_haunted_4 : decode cX11_haunted 4 = .ok (.invokevirtual 180, 3) := by decide +kernel
theorem dX11_haunted_7 : decode cX11_haunted 7 = .ok (.ifCond .eq 13, 3) := by decide +kernel
theorem dX11_haunted_10 : decode cX11_haunted 10 = .ok (.aload_n 0, 1) := by decide +kernel
theorem dX11_haunted_11 : decode cX11_haunted 11 = .ok (.getfield 25, 3) := by decide +kernel
theorem dX11_haunted_14 : decode cX11_haunted 14 = .ok (.invokevirtual 270, 3) := by decide +kernel
theorem dX11_haunted_17 : decode cX11_haunted 17 = .ok (.goto 5, 3) := by decide +kernel
theorem dX11_haunted_20 : decode cX11_haunted 20 = .ok (.ldc 126, 2) := by decide +kernel
theorem dX11_haunted_22 : decode cX11_haunted 22 = .ok (.ireturn, 1) := by decide +kernel
set_option maxRecDepth 20000 in
theorem ggX11_image_X3_stands : GoodIn wsX11_image wsX3_stands := goodIn_r _ [9, 10, 41, 42, 43, 44, 45, 46, 47, 48, 49, 50, 51, 52, 53, 54, 55] (by decide +kernel) (by decide +kernel)
set_option maxRecDepth 20000 in
theorem gX11_image_X3_stands : GoodIn wsX11_image (wsV RX11 180 RX3 yX3_stands wsX3_stands) := goodIn_app (goodIn_of _ (by decide +kernel)) ggX11_image_X3_stands
set_option maxRecDepth 20000 in
theorem ggX11_image_X3_becomes : GoodIn wsX11_image wsX3_becomes := goodIn_r _ [14, 10, 15, 16, 17, 18, 19, 20, 21, 22, 23, 24, 25, 26, 27, 28, 29, 30, 31, 32, 41, 42, 43, 44, 45, 46, 47, 48, 49, 50, 51, 52, 53, 54, 55] (by decide +kernel) (by decide +kernel)
set_option maxRecDepth 20000 in
theorem gX11_image_X3_becomes : GoodIn wsX11_image (wsV RX11 110 RX3 yX3_becomes wsX3_becomes) := goodIn_app (goodIn_of _ (by decide +kernel)) ggX11_image_X3_becomes
theorem dX11_image_0 : decode cX11_image 0 = .ok (.iload_n 1, 1) := by decide +kernel
theorem dX11_image_1 : decode cX11_image 1 = .ok (.ifCond .lt 8, 3) := by decide +kernel
theorem dX11_image_4 : decode cX11_image 4 = .ok (.iload_n 1, 1) := by decide +kernel
theorem dX11_image_5 : decode cX11_image 5 = .ok (.iconst 2, 1) := by decide +kernel
theorem dX11_image_6 : decode cX11_image 6 = .ok (.if_icmp .lt 6, 3) := by decide +kernel
theorem dX11_image_9 : decode cX11_image 9 = .ok (.ldc 55, 2) := by decide +kernel
theorem dX11_image_11 : decode cX11_image 11 = .ok (.ireturn, 1) := by decide +kernel
theorem dX11_image_12 : decode cX11_image 12 = .ok (.aload_n 0, 1) := by decide +kernel
theorem dX11_image_13 : decode cX11_image 13 = .ok (.getfield 25, 3) := by decide +kernel
theorem dX11_image_16 : decode cX11_image 16 = .ok (.invokevirtual 180, 3) := by decide +kernel
theorem dX11_image_19 : decode cX11_image 19 = .ok (.ifCond .ne 6, 3) := by decide +kernel
theorem dX11_image_22 : decode cX11_image 22 = .ok (.ldc 126, 2) := by decide +kernel
theorem dX11_image_24 : decode cX11_image 24 = .ok (.ireturn, 1) := by decide +kernel
theorem dX11_image_25 : decode cX11_image 25 = .ok (.aload_n 0, 1) := by decide +kernel
theorem dX11_image_26 : decode cX11_image 26 = .ok (.getfield 32, 3) := by decide +kernel
theorem dX11_image_29 : decode cX11_image 29 = .ok (.iload_n 1, 1) := by decide +kernel
theorem dX11_image_30 : decode cX11_image 30 = .ok (.aaload, 1) := by decide +kernel
theorem dX11_image_31 : decode cX11_image 31 = .ok (.aload_n 0, 1) := by decide +kernel
theorem dX11_image_32 : decode cX11_image 32 = .ok (.getfield 25, 3) := by decide +kernel
theorem dX11_image_35 : decode cX11_image 35 = .ok (.invokevirtual 110, 3) := by decide +kernel
theorem dX11_image_38 : decode cX11_image 38 = .ok (.iconst 1, 1) := by decide +kernel
theorem dX11_image_39 : decode cX11_image 39 = .ok (.ireturn, 1) := by decide +kernel
set_option maxRecDepth 20000 in
theorem ggX11_restore_X3_stands : GoodIn wsX11_restore wsX3_stands := goodIn_r _ [10, 11, 48, 49, 50, 51, 52, 53, 54, 55, 56, 57, 58, 59, 60, 61, 62] (by decide +kernel) (by decide +kernel)
set_option maxRecDepth 20000 in
theorem gX11_restore_X3_stands : GoodIn wsX11_restore (wsV RX11 180 RX3 yX3_stands wsX3_stands) := goodIn_app (goodIn_of _ (by decide +kernel)) ggX11_restore_X3_stands
set_option maxRecDepth 20000 in
theorem ggX11_restore_X3_becomes : GoodIn wsX11_restore wsX3_becomes := goodIn_r _ [15, 11, 16, 17, 18, 19, 20, 21, 22, 23, 24, 25, 26, 27, 28, 29, 30, 31, 32, 33, 48, 49, 50, 51, 52, 53, 54, 55, 56, 57, 58, 59, 60, 61, 62] (by decide +kernel) (by decide +kernel)
set_option maxRecDepth 20000 in
theorem gX11_restore_X3_becomes : GoodIn wsX11_restore (wsV RX11 110 RX3 yX3_becomes wsX3_becomes) := goodIn_app (goodIn_of _ (by decide +kernel)) ggX11_restore_X3_becomes
set_option maxRecDepth 20000 in
theorem ggX11_restore_X0_forgetAll : GoodIn wsX11_restore wsX0_forgetAll := goodIn_r _ [38, 39, 63, 64, 65, 66, 67, 68, 69] (by decide +kernel) (by decide +kernel)
set_option maxRecDepth 20000 in
theorem gX11_restore_X0_forgetAll : GoodIn wsX11_restore (wsV RX11 114 RX0 yX0_forgetAll wsX0_forgetAll) := goodIn_app (goodIn_of _ (by decide +kernel)) ggX11_restore_X0_forgetAll
theorem dX11_restore_0 : decode cX11_restore 0 = .ok (.iload_n 1, 1) := by decide +kernel
theorem dX11_restore_1 : decode cX11_restore 1 = .ok (.ifCond .lt 8, 3) := by decide +kernel
theorem dX11_restore_4 : decode cX11_restore 4 = .ok (.iload_n 1, 1) := by decide +kernel
theorem dX11_restore_5 : decode cX11_restore 5 = .ok (.iconst 2, 1) := by decide +kernel
theorem dX11_restore_6 : decode cX11_restore 6 = .ok (.if_icmp .lt 6, 3) := by decide +kernel
theorem dX11_restore_9 : decode cX11_restore 9 = .ok (.ldc 55, 2) := by decide +kernel
theorem dX11_restore_11 : decode cX11_restore 11 = .ok (.ireturn, 1) := by decide +kernel
theorem dX11_restore_12 : decode cX11_restore 12 = .ok (.aload_n 0, 1) := by decide +kernel
theorem dX11_restore_13 : decode cX11_restore 13 = .ok (.getfield 32, 3) := by decide +kernel
theorem dX11_restore_16 : decode cX11_restore 16 = .ok (.iload_n 1, 1) := by decide +kernel
theorem dX11_restore_17 : decode cX11_restore 17 = .ok (.aaload, 1) := by decide +kernel
theorem dX11_restore_18 : decode cX11_restore 18 = .ok (.invokevirtual 180, 3) := by decide +kernel
theorem dX11_restore_21 : decode cX11_restore 21 = .ok (.ifCond .ne 6, 3) := by decide +kernel
theorem dX11_restore_24 : decode cX11_restore 24 = .ok (.ldc 126, 2) := by decide +kernel
theorem dX11_restore_26 : decode cX11_restore 26 = .ok (.ireturn, 1) := by decide +kernel
theorem dX11_restore_27 : decode cX11_restore 27 = .ok (.aload_n 0, 1) := by decide +kernel
theorem dX11_restore_28 : decode cX11_restore 28 = .ok (.getfield 25, 3) := by decide +kernel
theorem dX11_restore_31 : decode cX11_restore 31 = .ok (.aload_n 0, 1) := by decide +kernel
theorem dX11_restore_32 : decode cX11_restore 32 = .ok (.getfield 32, 3) := by decide +kernel
theorem dX11_restore_35 : decode cX11_restore 35 = .ok (.iload_n 1, 1) := by decide +kernel
theorem dX11_restore_36 : decode cX11_restore 36 = .ok (.aaload, 1) := by decide +kernel
theorem dX11_restore_37 : decode cX11_restore 37 = .ok (.invokevirtual 110, 3) := by decide +kernel
theorem dX11_restore_40 : decode cX11_restore 40 = .ok (.aload_n 0, 1) := by decide +kernel
theorem dX11_restore_41 : decode cX11_restore 41 = .ok (.getfield 39, 3) := by decide +kernel
theorem dX11_restore_44 : decode cX11_restore 44 = .ok (.invokevirtual 114, 3) := by decide +kernel
theorem dX11_restore_47 : decode cX11_restore 47 = .ok (.iconst 1, 1) := by decide +kernel
theorem dX11_restore_48 : decode cX11_restore 48 = .ok (.ireturn, 1) := by decide +kernel
set_option maxRecDepth 20000 in
theorem ggX11_kind_X3_isVisitor : GoodIn wsX11_kind wsX3_isVisitor := goodIn_r _ [8, 9, 40, 41, 42, 43, 44, 45, 46, 47, 48, 49, 50, 51, 52, 53, 54] (by decide +kernel) (by decide +kernel)
set_option maxRecDepth 20000 in
theorem gX11_kind_X3_isVisitor : GoodIn wsX11_kind (wsV RX11 130 RX3 yX3_isVisitor wsX3_isVisitor) := goodIn_app (goodIn_of _ (by decide +kernel)) ggX11_kind_X3_isVisitor
set_option maxRecDepth 20000 in
theorem ggX11_kind_X1_kindNumber : GoodIn wsX11_kind wsX1_kindNumber := goodIn_r _ [15] (by decide +kernel) (by decide +kernel)
set_option maxRecDepth 20000 in
theorem gX11_kind_X1_kindNumber_u278X1 : GoodIn wsX11_kind (va_wsU RX11 278 RX1 "SeenAgain$Visitor" ⟨"SeenAgain$Visitor", "kindNumber", "()I"⟩ yX1_kindNumber wsX1_kindNumber) := goodIn_app (goodIn_of _ (by decide +kernel)) ggX11_kind_X1_kindNumber
set_option maxRecDepth 20000 in
theorem ggX11_kind_X2_kindNumber : GoodIn wsX11_kind wsX2_kindNumber := goodIn_r _ [19] (by decide +kernel) (by decide +kernel)
set_option maxRecDepth 20000 in
theorem gX11_kind_X2_kindNumber_u278X2 : GoodIn wsX11_kind (va_wsU RX11 278 RX2 "SeenAgain$Visitor" ⟨"SeenAgain$Visitor", "kindNumber", "()I"⟩ yX2_kindNumber wsX2_kindNumber) := goodIn_app (goodIn_of _ (by decide +kernel)) ggX11_kind_X2_kindNumber
set_option maxRecDepth 20000 in
theorem ggX11_kind_X4_kindNumber : GoodIn wsX11_kind wsX4_kindNumber := goodIn_r _ [23] (by decide +kernel) (by decide +kernel)
set_option maxRecDepth 20000 in
theorem gX11_kind_X4_kindNumber_u278X4 : GoodIn wsX11_kind (va_wsU RX11 278 RX4 "SeenAgain$Visitor" ⟨"SeenAgain$Visitor", "kindNumber", "()I"⟩ yX4_kindNumber wsX4_kindNumber) := goodIn_app (goodIn_of _ (by decide +kernel)) ggX11_kind_X4_kindNumber
set_option maxRecDepth 20000 in
theorem ggX11_kind_X7_kindNumber : GoodIn wsX11_kind wsX7_kindNumber := goodIn_r _ [27] (by decide +kernel) (by decide +kernel)
set_option maxRecDepth 20000 in
theorem gX11_kind_X7_kindNumber_u278X7 : GoodIn wsX11_kind (va_wsU RX11 278 RX7 "SeenAgain$Visitor" ⟨"SeenAgain$Visitor", "kindNumber", "()I"⟩ yX7_kindNumber wsX7_kindNumber) := goodIn_app (goodIn_of _ (by decide +kernel)) ggX11_kind_X7_kindNumber
set_option maxRecDepth 20000 in
theorem ggX11_kind_X10_kindNumber : GoodIn wsX11_kind wsX10_kindNumber := goodIn_r _ [31] (by decide +kernel) (by decide +kernel)
set_option maxRecDepth 20000 in
theorem gX11_kind_X10_kindNumber_u278X10 : GoodIn wsX11_kind (va_wsU RX11 278 RX10 "SeenAgain$Visitor" ⟨"SeenAgain$Visitor", "kindNumber", "()I"⟩ yX10_kindNumber wsX10_kindNumber) := goodIn_app (goodIn_of _ (by decide +kernel)) ggX11_kind_X10_kindNumber
theorem dX11_kind_0 : decode cX11_kind 0 = .ok (.aload_n 0, 1) := by decide +kernel
theorem dX11_kind_1 : decode cX11_kind 1 = .ok (.getfield 25, 3) := by decide +kernel
theorem dX11_kind_4 : decode cX11_kind 4 = .ok (.iload_n 1, 1) := by decide +kernel
theorem dX11_kind_5 : decode cX11_kind 5 = .ok (.invokevirtual 130, 3) := by decide +kernel
theorem dX11_kind_8 : decode cX11_kind 8 = .ok (.ifCond .eq 18, 3) := by decide +kernel
theorem dX11_kind_11 : decode cX11_kind 11 = .ok (.aload_n 0, 1) := by decide +kernel
theorem dX11_kind_12 : decode cX11_kind 12 = .ok (.getfield 25, 3) := by decide +kernel
theorem dX11_kind_15 : decode cX11_kind 15 = .ok (.getfield 274, 3) := by decide +kernel
theorem dX11_kind_18 : decode cX11_kind 18 = .ok (.iload_n 1, 1) := by decide +kernel
theorem dX11_kind_19 : decode cX11_kind 19 = .ok (.aaload, 1) := by decide +kernel
theorem dX11_kind_20 : decode cX11_kind 20 = .ok (.invokevirtual 278, 3) := by decide +kernel
theorem dX11_kind_23 : decode cX11_kind 23 = .ok (.goto 5, 3) := by decide +kernel
theorem dX11_kind_26 : decode cX11_kind 26 = .ok (.ldc 55, 2) := by decide +kernel
theorem dX11_kind_28 : decode cX11_kind 28 = .ok (.ireturn, 1) := by decide +kernel
set_option maxRecDepth 20000 in
theorem ggX11_as_X3_isVisitor : GoodIn wsX11_as wsX3_isVisitor := goodIn_r _ [8, 9, 37, 38, 39, 40, 41, 42, 43, 44, 45, 46, 47, 48, 49, 50, 51] (by decide +kernel) (by decide +kernel)
set_option maxRecDepth 20000 in
theorem gX11_as_X3_isVisitor : GoodIn wsX11_as (wsV RX11 130 RX3 yX3_isVisitor wsX3_isVisitor) := goodIn_app (goodIn_of _ (by decide +kernel)) ggX11_as_X3_isVisitor
set_option maxRecDepth 20000 in
theorem ggX11_as_X11_isOfKind : GoodIn wsX11_as wsX11_isOfKind := goodIn_r _ [13, 14, 15, 16, 17, 18] (by decide +kernel) (by decide +kernel)
set_option maxRecDepth 20000 in
theorem gX11_as_X11_isOfKind : GoodIn wsX11_as (va_wsS RX11 283 yX11_isOfKind wsX11_isOfKind) := goodIn_app (goodIn_of _ (by decide +kernel)) ggX11_as_X11_isOfKind
set_option maxRecDepth 20000 in
theorem ggX11_as_X11_found : GoodIn wsX11_as wsX11_found := goodIn_r _ [22, 23, 24, 29, 30, 31, 32, 33, 34, 35, 36] (by decide +kernel) (by decide +kernel)
set_option maxRecDepth 20000 in
theorem gX11_as_X11_found : GoodIn wsX11_as (wsV RX11 56 RX11 yX11_found wsX11_found) := goodIn_app (goodIn_of _ (by decide +kernel)) ggX11_as_X11_found
set_option maxRecDepth 20000 in
theorem ggX11_as_X11_answered : GoodIn wsX11_as wsX11_answered := goodIn_r _ [28, 23, 29, 30, 31, 32, 33, 34, 35, 36] (by decide +kernel) (by decide +kernel)
set_option maxRecDepth 20000 in
theorem gX11_as_X11_answered : GoodIn wsX11_as (wsV RX11 64 RX11 yX11_answered wsX11_answered) := goodIn_app (goodIn_of _ (by decide +kernel)) ggX11_as_X11_answered
theorem dX11_as_0 : decode cX11_as 0 = .ok (.aload_n 0, 1) := by decide +kernel
theorem dX11_as_1 : decode cX11_as 1 = .ok (.getfield 25, 3) := by decide +kernel
theorem dX11_as_4 : decode cX11_as 4 = .ok (.iload_n 1, 1) := by decide +kernel
theorem dX11_as_5 : decode cX11_as 5 = .ok (.invokevirtual 130, 3) := by decide +kernel
theorem dX11_as_8 : decode cX11_as 8 = .ok (.ifCond .eq 13, 3) := by decide +kernel
theorem dX11_as_11 : decode cX11_as 11 = .ok (.iload_n 2, 1) := by decide +kernel
theorem dX11_as_12 : decode cX11_as 12 = .ok (.ifCond .lt 9, 3) := by decide +kernel
theorem dX11_as_15 : decode cX11_as 15 = .ok (.iload_n 2, 1) := by decide +kernel
theorem dX11_as_16 : decode cX11_as 16 = .ok (.bipush 6, 2) := by decide +kernel
theorem dX11_as_18 : decode cX11_as 18 = .ok (.if_icmp .lt 6, 3) := by decide +kernel
theorem dX11_as_21 : decode cX11_as 21 = .ok (.ldc 55, 2) := by decide +kernel
theorem dX11_as_23 : decode cX11_as 23 = .ok (.ireturn, 1) := by decide +kernel
theorem dX11_as_24 : decode cX11_as 24 = .ok (.aload_n 0, 1) := by decide +kernel
theorem dX11_as_25 : decode cX11_as 25 = .ok (.getfield 25, 3) := by decide +kernel
theorem dX11_as_28 : decode cX11_as 28 = .ok (.getfield 274, 3) := by decide +kernel
theorem dX11_as_31 : decode cX11_as 31 = .ok (.iload_n 1, 1) := by decide +kernel
theorem dX11_as_32 : decode cX11_as 32 = .ok (.aaload, 1) := by decide +kernel
theorem dX11_as_33 : decode cX11_as 33 = .ok (.iload_n 2, 1) := by decide +kernel
theorem dX11_as_34 : decode cX11_as 34 = .ok (.invokestatic 283, 3) := by decide +kernel
theorem dX11_as_37 : decode cX11_as 37 = .ok (.ifCond .ne 9, 3) := by decide +kernel
theorem dX11_as_40 : decode cX11_as 40 = .ok (.aload_n 0, 1) := by decide +kernel
theorem dX11_as_41 : decode cX11_as 41 = .ok (.iconst 3, 1) := by decide +kernel
theorem dX11_as_42 : decode cX11_as 42 = .ok (.invokevirtual 56, 3) := by decide +kernel
theorem dX11_as_45 : decode cX11_as 45 = .ok (.ireturn, 1) := by decide +kernel
theorem dX11_as_46 : decode cX11_as 46 = .ok (.aload_n 0, 1) := by decide +kernel
theorem dX11_as_47 : decode cX11_as 47 = .ok (.iload_n 1, 1) := by decide +kernel
theorem dX11_as_48 : decode cX11_as 48 = .ok (.invokevirtual 64, 3) := by decide +kernel
theorem dX11_as_51 : decode cX11_as 51 = .ok (.ireturn, 1) := by decide +kernel
set_option maxRecDepth 20000 in
theorem ggX11_ask_X3_isVisitor : GoodIn wsX11_ask wsX3_isVisitor := goodIn_r _ [10, 11, 112, 113, 114, 115, 116, 117, 118, 119, 120, 121, 122, 123, 124, 125, 126] (by decide +kernel) (by decide +kernel)
set_option maxRecDepth 20000 in
theorem gX11_ask_X3_isVisitor : GoodIn wsX11_ask (wsV RX11 130 RX3 yX3_isVisitor wsX3_isVisitor) := goodIn_app (goodIn_of _ (by decide +kernel)) ggX11_ask_X3_isVisitor
set_option maxRecDepth 20000 in
theorem ggX11_ask_X7_size : GoodIn wsX11_ask wsX7_size := goodIn_r _ [18, 19, 20, 21, 22, 23, 24, 25, 26, 13, 27, 28, 29, 30, 31, 32, 33, 34, 35, 36, 37, 38, 39, 40, 41, 42, 43, 44, 17, 45, 46, 47, 48, 49, 50, 51, 52, 53, 54, 9, 55, 56, 57, 58, 59, 60, 61, 62, 63, 64, 65, 110, 111, 112, 113, 114, 115, 116, 117, 118, 119, 120, 121, 122, 123, 124, 125, 126, 127, 128, 129, 130, 131] (by decide +kernel) (by decide +kernel)
set_option maxRecDepth 20000 in
theorem gX11_ask_X7_size_u288X1 : GoodIn wsX11_ask (va_wsO RX11 288 RX1 "SeenAgain$Visitor" ⟨"SeenAgain$Visitor", "size", "(LSeenAgain$House;LSeenAgain$Trace;)I"⟩ yX7_size wsX7_size) := goodIn_app (goodIn_of _ (by decide +kernel)) ggX11_ask_X7_size
set_option maxRecDepth 20000 in
theorem ggX11_ask_X2_size : GoodIn wsX11_ask wsX2_size := goodIn_r _ [69, 70, 20, 21, 22, 23, 24, 25, 71, 72, 73, 74, 75, 76, 77, 78, 13, 79, 28, 29, 30, 31, 32, 33, 110, 111, 112, 113, 114, 115, 116, 117, 118, 119, 120, 121, 122, 123, 124, 125, 126, 127, 128, 129, 130, 131] (by decide +kernel) (by decide +kernel)
set_option maxRecDepth 20000 in
theorem gX11_ask_X2_size_u288X2 : GoodIn wsX11_ask (va_wsO RX11 288 RX2 "SeenAgain$Visitor" ⟨"SeenAgain$Visitor", "size", "(LSeenAgain$House;LSeenAgain$Trace;)I"⟩ yX2_size wsX2_size) := goodIn_app (goodIn_of _ (by decide +kernel)) ggX11_ask_X2_size
set_option maxRecDepth 20000 in
theorem ggX11_ask_X4_size : GoodIn wsX11_ask wsX4_size := goodIn_r _ [82, 61, 20, 21, 22, 23, 24, 25, 83, 84, 63, 16, 17, 18, 19, 26, 13, 27, 28, 29, 30, 31, 32, 33, 34, 35, 36, 37, 38, 39, 40, 41, 42, 43, 44, 45, 46, 47, 48, 49, 50, 51, 52, 53, 54, 9, 55, 56, 57, 58, 59, 60, 62, 64, 65, 110, 111, 112, 113, 114, 115, 116, 117, 118, 119, 120, 121, 122, 123, 124, 125, 126, 127, 128, 129, 130, 131] (by decide +kernel) (by decide +kernel)
set_option maxRecDepth 20000 in
theorem gX11_ask_X4_size_u288X4 : GoodIn wsX11_ask (va_wsO RX11 288 RX4 "SeenAgain$Visitor" ⟨"SeenAgain$Visitor", "size", "(LSeenAgain$House;LSeenAgain$Trace;)I"⟩ yX4_size wsX4_size) := goodIn_app (goodIn_of _ (by decide +kernel)) ggX11_ask_X4_size
set_option maxRecDepth 20000 in
theorem gX11_ask_X7_size_u288X7 : GoodIn wsX11_ask (va_wsO RX11 288 RX7 "SeenAgain$Visitor" ⟨"SeenAgain$Visitor", "size", "(LSeenAgain$House;LSeenAgain$Trace;)I"⟩ yX7_size wsX7_size) := goodIn_app (goodIn_of _ (by decide +kernel)) ggX11_ask_X7_size
set_option maxRecDepth 20000 in
theorem ggX11_ask_X10_size : GoodIn wsX11_ask wsX10_size := goodIn_r _ [76, 77, 20, 21, 22, 23, 24, 25, 78, 13, 79, 28, 29, 30, 31, 32, 33, 110, 111, 112, 113, 114, 115, 116, 117, 118, 119, 120, 121, 122, 123, 124, 125, 126, 127, 128, 129, 130, 131] (by decide +kernel) (by decide +kernel)
set_option maxRecDepth 20000 in
theorem gX11_ask_X10_size_u288X10 : GoodIn wsX11_ask (va_wsO RX11 288 RX10 "SeenAgain$Visitor" ⟨"SeenAgain$Visitor", "size", "(LSeenAgain$House;LSeenAgain$Trace;)I"⟩ yX10_size wsX10_size) := goodIn_app (goodIn_of _ (by decide +kernel)) ggX11_ask_X10_size
set_option maxRecDepth 20000 in
theorem ggX11_ask_X1_mark : GoodIn wsX11_ask wsX1_mark := goodIn_r _ [40, 41, 20, 21, 22, 23, 24, 25, 42, 35, 43, 44, 17, 45, 46, 47, 19, 48, 49, 27, 50, 29, 51, 32, 33, 52, 53, 54, 9, 55, 56, 110, 111, 127, 128, 129, 130, 131, 112, 113, 114, 115, 116, 117, 118, 119, 120, 121, 122, 123, 124, 125, 126] (by decide +kernel) (by decide +kernel)
set_option maxRecDepth 20000 in
theorem gX11_ask_X1_mark_u291X1 : GoodIn wsX11_ask (va_wsO RX11 291 RX1 "SeenAgain$Visitor" ⟨"SeenAgain$Visitor", "mark", "(LSeenAgain$House;LSeenAgain$Trace;)I"⟩ yX1_mark wsX1_mark) := goodIn_app (goodIn_of _ (by decide +kernel)) ggX11_ask_X1_mark
set_option maxRecDepth 20000 in
theorem ggX11_ask_X10_mark : GoodIn wsX11_ask wsX10_mark := goodIn_r _ [92, 77, 20, 21, 22, 23, 24, 25, 93, 49, 79, 50, 29, 51, 32, 33, 94, 72, 95, 96, 67, 68, 69, 70, 71, 73, 74, 75, 76, 78, 13, 28, 30, 31, 97, 98, 110, 111, 127, 128, 129, 130, 131, 112, 113, 114, 115, 116, 117, 118, 119, 120, 121, 122, 123, 124, 125, 126] (by decide +kernel) (by decide +kernel)
set_option maxRecDepth 20000 in
theorem gX11_ask_X10_mark_u291X2 : GoodIn wsX11_ask (va_wsO RX11 291 RX2 "SeenAgain$Visitor" ⟨"SeenAgain$Visitor", "mark", "(LSeenAgain$House;LSeenAgain$Trace;)I"⟩ yX10_mark wsX10_mark) := goodIn_app (goodIn_of _ (by decide +kernel)) ggX11_ask_X10_mark
set_option maxRecDepth 20000 in
theorem ggX11_ask_X4_mark : GoodIn wsX11_ask wsX4_mark := goodIn_r _ [60, 61, 20, 21, 22, 23, 24, 25, 62, 35, 63, 44, 17, 45, 46, 47, 19, 48, 49, 27, 50, 29, 51, 32, 33, 52, 53, 54, 9, 55, 56, 110, 111, 127, 128, 129, 130, 131, 112, 113, 114, 115, 116, 117, 118, 119, 120, 121, 122, 123, 124, 125, 126] (by decide +kernel) (by decide +kernel)
set_option maxRecDepth 20000 in
theorem gX11_ask_X4_mark_u291X4 : GoodIn wsX11_ask (va_wsO RX11 291 RX4 "SeenAgain$Visitor" ⟨"SeenAgain$Visitor", "mark", "(LSeenAgain$House;LSeenAgain$Trace;)I"⟩ yX4_mark wsX4_mark) := goodIn_app (goodIn_of _ (by decide +kernel)) ggX11_ask_X4_mark
set_option maxRecDepth 20000 in
theorem ggX11_ask_X7_mark : GoodIn wsX11_ask wsX7_mark := goodIn_r _ [45, 46, 47, 19, 20, 21, 22, 23, 24, 25, 48, 49, 27, 50, 29, 51, 32, 33, 52, 53, 54, 9, 55, 56, 127, 128, 129, 130, 131, 110, 111, 112, 113, 114, 115, 116, 117, 118, 119, 120, 121, 122, 123, 124, 125, 126] (by decide +kernel) (by decide +kernel)
set_option maxRecDepth 20000 in
theorem gX11_ask_X7_mark_u291X7 : GoodIn wsX11_ask (va_wsO RX11 291 RX7 "SeenAgain$Visitor" ⟨"SeenAgain$Visitor", "mark", "(LSeenAgain$House;LSeenAgain$Trace;)I"⟩ yX7_mark wsX7_mark) := goodIn_app (goodIn_of _ (by decide +kernel)) ggX11_ask_X7_mark
set_option maxRecDepth 20000 in
theorem gX11_ask_X10_mark_u291X10 : GoodIn wsX11_ask (va_wsO RX11 291 RX10 "SeenAgain$Visitor" ⟨"SeenAgain$Visitor", "mark", "(LSeenAgain$House;LSeenAgain$Trace;)I"⟩ yX10_mark wsX10_mark) := goodIn_app (goodIn_of _ (by decide +kernel)) ggX11_ask_X10_mark
theorem dX11_ask_0 : decode cX11_ask 0 = .ok (.aload_n 0, 1) := by decide +kernel
theorem dX11_ask_1 : decode cX11_ask 1 = .ok (.getfield 25, 3) := by decide +kernel
theorem dX11_ask_4 : decode cX11_ask 4 = .ok (.iload_n 1, 1) := by decide +kernel
theorem dX11_ask_5 : decode cX11_ask 5 = .ok (.invokevirtual 130, 3) := by decide +kernel
theorem dX11_ask_8 : decode cX11_ask 8 = .ok (.ifCond .eq 12, 3) := by decide +kernel
theorem dX11_ask_11 : decode cX11_ask 11 = .ok (.iload_n 2, 1) := by decide +kernel
theorem dX11_ask_12 : decode cX11_ask 12 = .ok (.ifCond .lt 8, 3) := by decide +kernel
theorem dX11_ask_15 : decode cX11_ask 15 = .ok (.iload_n 2, 1) := by decide +kernel
theorem dX11_ask_16 : decode cX11_ask 16 = .ok (.iconst 1, 1) := by decide +kernel
theorem dX11_ask_17 : decode cX11_ask 17 = .ok (.if_icmp .le 6, 3) := by decide +kernel
theorem dX11_ask_20 : decode cX11_ask 20 = .ok (.ldc 55, 2) := by decide +kernel
theorem dX11_ask_22 : decode cX11_ask 22 = .ok (.ireturn, 1) := by decide +kernel
theorem dX11_ask_23 : decode cX11_ask 23 = .ok (.aload_n 0, 1) := by decide +kernel
theorem dX11_ask_24 : decode cX11_ask 24 = .ok (.getfield 46, 3) := by decide +kernel
theorem dX11_ask_27 : decode cX11_ask 27 = .ok (.iconst 0, 1) := by decide +kernel
theorem dX11_ask_28 : decode cX11_ask 28 = .ok (.putfield 287, 3) := by decide +kernel
theorem dX11_ask_31 : decode cX11_ask 31 = .ok (.aload_n 0, 1) := by decide +kernel
theorem dX11_ask_32 : decode cX11_ask 32 = .ok (.getfield 25, 3) := by decide +kernel
theorem dX11_ask_35 : decode cX11_ask 35 = .ok (.getfield 274, 3) := by decide +kernel
theorem dX11_ask_38 : decode cX11_ask 38 = .ok (.iload_n 1, 1) := by decide +kernel
theorem dX11_ask_39 : decode cX11_ask 39 = .ok (.aaload, 1) := by decide +kernel
theorem dX11_ask_40 : decode cX11_ask 40 = .ok (.astore_n 3, 1) := by decide +kernel
theorem dX11_ask_41 : decode cX11_ask 41 = .ok (.iload_n 2, 1) := by decide +kernel
theorem dX11_ask_42 : decode cX11_ask 42 = .ok (.ifCond .ne 18, 3) := by decide +kernel
theorem dX11_ask_45 : decode cX11_ask 45 = .ok (.aload_n 3, 1) := by decide +kernel
theorem dX11_ask_46 : decode cX11_ask 46 = .ok (.aload_n 0, 1) := by decide +kernel
theorem dX11_ask_47 : decode cX11_ask 47 = .ok (.getfield 25, 3) := by decide +kernel
theorem dX11_ask_50 : decode cX11_ask 50 = .ok (.aload_n 0, 1) := by decide +kernel
theorem dX11_ask_51 : decode cX11_ask 51 = .ok (.getfield 46, 3) := by decide +kernel
theorem dX11_ask_54 : decode cX11_ask 54 = .ok (.invokevirtual 288, 3) := by decide +kernel
theorem dX11_ask_57 : decode cX11_ask 57 = .ok (.goto 15, 3) := by decide +kernel
theorem dX11_ask_60 : decode cX11_ask 60 = .ok (.aload_n 3, 1) := by decide +kernel
theorem dX11_ask_61 : decode cX11_ask 61 = .ok (.aload_n 0, 1) := by decide +kernel
theorem dX11_ask_62 : decode cX11_ask 62 = .ok (.getfield 25, 3) := by decide +kernel
theorem dX11_ask_65 : decode cX11_ask 65 = .ok (.aload_n 0, 1) := by decide +kernel
theorem dX11_ask_66 : decode cX11_ask 66 = .ok (.getfield 46, 3) := by decide +kernel
theorem dX11_ask_69 : decode cX11_ask 69 = .ok (.invokevirtual 291, 3) := by decide +kernel
theorem dX11_ask_72 : decode cX11_ask 72 = .ok (.ireturn, 1) := by decide +kernel
theorem dX11_trace_0 : decode cX11_trace 0 = .ok (.iload_n 1, 1) := by decide +kernel
theorem dX11_trace_1 : decode cX11_trace 1 = .ok (.ifCond .lt 26, 3) := by decide +kernel
theorem dX11_trace_4 : decode cX11_trace 4 = .ok (.iload_n 1, 1) := by decide +kernel
theorem dX11_trace_5 : decode cX11_trace 5 = .ok (.aload_n 0, 1) := by decide +kernel
theorem dX11_trace_6 : decode cX11_trace 6 = .ok (.getfield 46, 3) := by decide +kernel
theorem dX11_trace_9 : decode cX11_trace 9 = .ok (.getfield 287, 3) := by decide +kernel
theorem dX11_trace_12 : decode cX11_trace 12 = .ok (.if_icmp .ge 15, 3) := by decide +kernel
theorem dX11_trace_15 : decode cX11_trace 15 = .ok (.aload_n 0, 1) := by decide +kernel
theorem dX11_trace_16 : decode cX11_trace 16 = .ok (.getfield 46, 3) := by decide +kernel
theorem dX11_trace_19 : decode cX11_trace 19 = .ok (.getfield 294, 3) := by decide +kernel
theorem dX11_trace_22 : decode cX11_trace 22 = .ok (.iload_n 1, 1) := by decide +kernel
theorem dX11_trace_23 : decode cX11_trace 23 = .ok (.iaload, 1) := by decide +kernel
theorem dX11_trace_24 : decode cX11_trace 24 = .ok (.goto 5, 3) := by decide +kernel
theorem dX11_trace_27 : decode cX11_trace 27 = .ok (.ldc 245, 2) := by decide +kernel
theorem dX11_trace_29 : decode cX11_trace 29 = .ok (.ireturn, 1) := by decide +kernel
set_option maxRecDepth 20000 in
theorem ggX11_count_X11_standingRows : GoodIn wsX11_count wsX11_standingRows := goodIn_r _ [17, 18, 19, 20, 21, 22, 23, 24, 25, 26, 27, 58, 59, 60, 61] (by decide +kernel) (by decide +kernel)
set_option maxRecDepth 20000 in
theorem gX11_count_X11_standingRows : GoodIn wsX11_count (wsV RX11 297 RX11 yX11_standingRows wsX11_standingRows) := goodIn_app (goodIn_of _ (by decide +kernel)) ggX11_count_X11_standingRows
theorem dX11_count_0 : decode cX11_count 0 = .ok (.iload_n 1, 1) := by decide +kernel
theorem dX11_count_1 : decode cX11_count 1 = .ok (.tableswitch 120 0 8 #[51, 56, 64, 72, 80, 88, 96, 104, 112], 51) := by decide +kernel
theorem dX11_count_52 : decode cX11_count 52 = .ok (.aload_n 0, 1) := by decide +kernel
theorem dX11_count_53 : decode cX11_count 53 = .ok (.invokevirtual 297, 3) := by decide +kernel
theorem dX11_count_56 : decode cX11_count 56 = .ok (.ireturn, 1) := by decide +kernel
theorem dX11_count_57 : decode cX11_count 57 = .ok (.aload_n 0, 1) := by decide +kernel
theorem dX11_count_58 : decode cX11_count 58 = .ok (.getfield 25, 3) := by decide +kernel
theorem dX11_count_61 : decode cX11_count 61 = .ok (.getfield 117, 3) := by decide +kernel
theorem dX11_count_64 : decode cX11_count 64 = .ok (.ireturn, 1) := by decide +kernel
theorem dX11_count_65 : decode cX11_count 65 = .ok (.aload_n 0, 1) := by decide +kernel
theorem dX11_count_66 : decode cX11_count 66 = .ok (.getfield 25, 3) := by decide +kernel
theorem dX11_count_69 : decode cX11_count 69 = .ok (.getfield 300, 3) := by decide +kernel
theorem dX11_count_72 : decode cX11_count 72 = .ok (.ireturn, 1) := by decide +kernel
theorem dX11_count_73 : decode cX11_count 73 = .ok (.aload_n 0, 1) := by decide +kernel
theorem dX11_count_74 : decode cX11_count 74 = .ok (.getfield 25, 3) := by decide +kernel
theorem dX11_count_77 : decode cX11_count 77 = .ok (.getfield 303, 3) := by decide +kernel
theorem dX11_count_80 : decode cX11_count 80 = .ok (.ireturn, 1) := by decide +kernel
theorem dX11_count_81 : decode cX11_count 81 = .ok (.aload_n 0, 1) := by decide +kernel
theorem dX11_count_82 : decode cX11_count 82 = .ok (.getfield 25, 3) := by decide +kernel
theorem dX11_count_85 : decode cX11_count 85 = .ok (.getfield 306, 3) := by decide +kernel
theorem dX11_count_88 : decode cX11_count 88 = .ok (.ireturn, 1) := by decide +kernel
theorem dX11_count_89 : decode cX11_count 89 = .ok (.aload_n 0, 1) := by decide +kernel
theorem dX11_count_90 : decode cX11_count 90 = .ok (.getfield 25, 3) := by decide +kernel
theorem dX11_count_93 : decode cX11_count 93 = .ok (.getfield 309, 3) := by decide +kernel
theorem dX11_count_96 : decode cX11_count 96 = .ok (.ireturn, 1) := by decide +kernel
theorem dX11_count_97 : decode cX11_count 97 = .ok (.aload_n 0, 1) := by decide +kernel
theorem dX11_count_98 : decode cX11_count 98 = .ok (.getfield 25, 3) := by decide +kernel
theorem dX11_count_101 : decode cX11_count 101 = .ok (.getfield 177, 3) := by decide +kernel
theorem dX11_count_104 : decode cX11_count 104 = .ok (.ireturn, 1) := by decide +kernel
theorem dX11_count_105 : decode cX11_count 105 = .ok (.aload_n 0, 1) := by decide +kernel
theorem dX11_count_106 : decode cX11_count 106 = .ok (.getfield 39, 3) := by decide +kernel
theorem dX11_count_109 : decode cX11_count 109 = .ok (.getfield 123, 3) := by decide +kernel
theorem dX11_count_112 : decode cX11_count 112 = .ok (.ireturn, 1) := by decide +kernel
theorem dX11_count_113 : decode cX11_count 113 = .ok (.aload_n 0, 1) := by decide +kernel
theorem dX11_count_114 : decode cX11_count 114 = .ok (.getfield 18, 3) := by decide +kernel
theorem dX11_count_117 : decode cX11_count 117 = .ok (.getfield 95, 3) := by decide +kernel
theorem dX11_count_120 : decode cX11_count 120 = .ok (.ireturn, 1) := by decide +kernel
theorem dX11_count_121 : decode cX11_count 121 = .ok (.ldc 55, 2) := by decide +kernel
theorem dX11_count_123 : decode cX11_count 123 = .ok (.ireturn, 1) := by decide +kernel
theorem dX11_status_0 : decode cX11_status 0 = .ok (.aload_n 0, 1) := by decide +kernel
theorem dX11_status_1 : decode cX11_status 1 = .ok (.getfield 312, 3) := by decide +kernel
theorem dX11_status_4 : decode cX11_status 4 = .ok (.ireturn, 1) := by decide +kernel
theorem dX11_found_0 : decode cX11_found 0 = .ok (.aload_n 0, 1) := by decide +kernel
theorem dX11_found_1 : decode cX11_found 1 = .ok (.iload_n 1, 1) := by decide +kernel
theorem dX11_found_2 : decode cX11_found 2 = .ok (.putfield 312, 3) := by decide +kernel
theorem dX11_found_5 : decode cX11_found 5 = .ok (.ldc_w 315, 3) := by decide +kernel
theorem dX11_found_8 : decode cX11_found 8 = .ok (.iload_n 1, 1) := by decide +kernel
theorem dX11_found_9 : decode cX11_found 9 = .ok (.isub, 1) := by decide +kernel
theorem dX11_found_10 : decode cX11_found 10 = .ok (.ireturn, 1) := by decide +kernel
theorem dX11_answered_0 : decode cX11_answered 0 = .ok (.aload_n 0, 1) := by decide +kernel
theorem dX11_answered_1 : decode cX11_answered 1 = .ok (.iconst 0, 1) := by decide +kernel
theorem dX11_answered_2 : decode cX11_answered 2 = .ok (.putfield 312, 3) := by decide +kernel
theorem dX11_answered_5 : decode cX11_answered 5 = .ok (.iload_n 1, 1) := by decide +kernel
theorem dX11_answered_6 : decode cX11_answered 6 = .ok (.ireturn, 1) := by decide +kernel
theorem dX11_standingRows_0 : decode cX11_standingRows 0 = .ok (.iconst 0, 1) := by decide +kernel
theorem dX11_standingRows_1 : decode cX11_standingRows 1 = .ok (.istore_n 1, 1) := by decide +kernel
theorem dX11_standingRows_2 : decode cX11_standingRows 2 = .ok (.iconst 0, 1) := by decide +kernel
theorem dX11_standingRows_3 : decode cX11_standingRows 3 = .ok (.istore_n 2, 1) := by decide +kernel
theorem dX11_standingRows_4 : decode cX11_standingRows 4 = .ok (.iload_n 2, 1) := by decide +kernel
theorem dX11_standingRows_5 : decode cX11_standingRows 5 = .ok (.bipush 8, 2) := by decide +kernel
theorem dX11_standingRows_7 : decode cX11_standingRows 7 = .ok (.if_icmp .ge 24, 3) := by decide +kernel
theorem dX11_standingRows_10 : decode cX11_standingRows 10 = .ok (.aload_n 0, 1) := by decide +kernel
theorem dX11_standingRows_11 : decode cX11_standingRows 11 = .ok (.getfield 11, 3) := by decide +kernel
theorem dX11_standingRows_14 : decode cX11_standingRows 14 = .ok (.iload_n 2, 1) := by decide +kernel
theorem dX11_standingRows_15 : decode cX11_standingRows 15 = .ok (.aaload, 1) := by decide +kernel
theorem dX11_standingRows_16 : decode cX11_standingRows 16 = .ok (.getfield 67, 3) := by decide +kernel
theorem dX11_standingRows_19 : decode cX11_standingRows 19 = .ok (.ifCond .ne 6, 3) := by decide +kernel
theorem dX11_standingRows_22 : decode cX11_standingRows 22 = .ok (.iinc 1 1, 3) := by decide +kernel
theorem dX11_standingRows_25 : decode cX11_standingRows 25 = .ok (.iinc 2 1, 3) := by decide +kernel
theorem dX11_standingRows_28 : decode cX11_standingRows 28 = .ok (.goto (-24), 3) := by decide +kernel
theorem dX11_standingRows_31 : decode cX11_standingRows 31 = .ok (.iload_n 1, 1) := by decide +kernel
theorem dX11_standingRows_32 : decode cX11_standingRows 32 = .ok (.ireturn, 1) := by decide +kernel
theorem dX11_isRow_0 : decode cX11_isRow 0 = .ok (.iload_n 0, 1) := by decide +kernel
theorem dX11_isRow_1 : decode cX11_isRow 1 = .ok (.ifCond .lt 13, 3) := by decide +kernel
theorem dX11_isRow_4 : decode cX11_isRow 4 = .ok (.iload_n 0, 1) := by decide +kernel
theorem dX11_isRow_5 : decode cX11_isRow 5 = .ok (.bipush 8, 2) := by decide +kernel
theorem dX11_isRow_7 : decode cX11_isRow 7 = .ok (.if_icmp .ge 7, 3) := by decide +kernel
theorem dX11_isRow_10 : decode cX11_isRow 10 = .ok (.iconst 1, 1) := by decide +kernel
theorem dX11_isRow_11 : decode cX11_isRow 11 = .ok (.goto 4, 3) := by decide +kernel
theorem dX11_isRow_14 : decode cX11_isRow 14 = .ok (.iconst 0, 1) := by decide +kernel
theorem dX11_isRow_15 : decode cX11_isRow 15 = .ok (.ireturn, 1) := by decide +kernel
theorem dX11_isMinute_0 : decode cX11_isMinute 0 = .ok (.iload_n 0, 1) := by decide +kernel
theorem dX11_isMinute_1 : decode cX11_isMinute 1 = .ok (.ifCond .lt 13, 3) := by decide +kernel
theorem dX11_isMinute_4 : decode cX11_isMinute 4 = .ok (.iload_n 0, 1) := by decide +kernel
theorem dX11_isMinute_5 : decode cX11_isMinute 5 = .ok (.bipush 8, 2) := by decide +kernel
theorem dX11_isMinute_7 : decode cX11_isMinute 7 = .ok (.if_icmp .ge 7, 3) := by decide +kernel
theorem dX11_isMinute_10 : decode cX11_isMinute 10 = .ok (.iconst 1, 1) := by decide +kernel
theorem dX11_isMinute_11 : decode cX11_isMinute 11 = .ok (.goto 4, 3) := by decide +kernel
theorem dX11_isMinute_14 : decode cX11_isMinute 14 = .ok (.iconst 0, 1) := by decide +kernel
theorem dX11_isMinute_15 : decode cX11_isMinute 15 = .ok (.ireturn, 1) := by decide +kernel
theorem dX11_isMinuteSet_0 : decode cX11_isMinuteSet 0 = .ok (.iload_n 0, 1) := by decide +kernel
theorem dX11_isMinuteSet_1 : decode cX11_isMinuteSet 1 = .ok (.ifCond .lt 14, 3) := by decide +kernel
theorem dX11_isMinuteSet_4 : decode cX11_isMinuteSet 4 = .ok (.iload_n 0, 1) := by decide +kernel
theorem dX11_isMinuteSet_5 : decode cX11_isMinuteSet 5 = .ok (.sipush 255, 3) := by decide +kernel
theorem dX11_isMinuteSet_8 : decode cX11_isMinuteSet 8 = .ok (.if_icmp .gt 7, 3) := by decide +kernel
theorem dX11_isMinuteSet_11 : decode cX11_isMinuteSet 11 = .ok (.iconst 1, 1) := by decide +kernel
theorem dX11_isMinuteSet_12 : decode cX11_isMinuteSet 12 = .ok (.goto 4, 3) := by decide +kernel
theorem dX11_isMinuteSet_15 : decode cX11_isMinuteSet 15 = .ok (.iconst 0, 1) := by decide +kernel
theorem dX11_isMinuteSet_16 : decode cX11_isMinuteSet 16 = .ok (.ireturn, 1) := by decide +kernel
theorem dX11_isOfKind_0 : decode cX11_isOfKind 0 = .ok (.iload_n 1, 1) := by decide +kernel
theorem dX11_isOfKind_1 : decode cX11_isOfKind 1 = .ok (.tableswitch 66 0 5 #[39, 41, 46, 51, 56, 61], 39) := by decide +kernel
theorem dX11_isOfKind_40 : decode cX11_isOfKind 40 = .ok (.iconst 1, 1) := by decide +kernel
theorem dX11_isOfKind_41 : decode cX11_isOfKind 41 = .ok (.ireturn, 1) := by decide +kernel
theorem dX11_isOfKind_42 : decode cX11_isOfKind 42 = .ok (.aload_n 0, 1) := by decide +kernel
theorem dX11_isOfKind_43 : decode cX11_isOfKind 43 = .ok (.instanceof 316, 3) := by decide +kernel
theorem dX11_isOfKind_46 : decode cX11_isOfKind 46 = .ok (.ireturn, 1) := by decide +kernel
theorem dX11_isOfKind_47 : decode cX11_isOfKind 47 = .ok (.aload_n 0, 1) := by decide +kernel
theorem dX11_isOfKind_48 : decode cX11_isOfKind 48 = .ok (.instanceof 318, 3) := by decide +kernel
theorem dX11_isOfKind_51 : decode cX11_isOfKind 51 = .ok (.ireturn, 1) := by decide +kernel
theorem dX11_isOfKind_52 : decode cX11_isOfKind 52 = .ok (.aload_n 0, 1) := by decide +kernel
theorem dX11_isOfKind_53 : decode cX11_isOfKind 53 = .ok (.instanceof 320, 3) := by decide +kernel
theorem dX11_isOfKind_56 : decode cX11_isOfKind 56 = .ok (.ireturn, 1) := by decide +kernel
theorem dX11_isOfKind_57 : decode cX11_isOfKind 57 = .ok (.aload_n 0, 1) := by decide +kernel
theorem dX11_isOfKind_58 : decode cX11_isOfKind 58 = .ok (.instanceof 322, 3) := by decide +kernel
theorem dX11_isOfKind_61 : decode cX11_isOfKind 61 = .ok (.ireturn, 1) := by decide +kernel
theorem dX11_isOfKind_62 : decode cX11_isOfKind 62 = .ok (.aload_n 0, 1) := by decide +kernel
theorem dX11_isOfKind_63 : decode cX11_isOfKind 63 = .ok (.instanceof 324, 3) := by decide +kernel
theorem dX11_isOfKind_66 : decode cX11_isOfKind 66 = .ok (.ireturn, 1) := by decide +kernel
theorem dX11_isOfKind_67 : decode cX11_isOfKind 67 = .ok (.iconst 0, 1) := by decide +kernel
theorem dX11_isOfKind_68 : decode cX11_isOfKind 68 = .ok (.ireturn, 1) := by decide +kernel
theorem dX11_has_0 : decode cX11_has 0 = .ok (.iload_n 0, 1) := by decide +kernel
theorem dX11_has_1 : decode cX11_has 1 = .ok (.iload_n 1, 1) := by decide +kernel
theorem dX11_has_2 : decode cX11_has 2 = .ok (.ishr, 1) := by decide +kernel
theorem dX11_has_3 : decode cX11_has 3 = .ok (.iconst 1, 1) := by decide +kernel
theorem dX11_has_4 : decode cX11_has 4 = .ok (.iand, 1) := by decide +kernel
theorem dX11_has_5 : decode cX11_has 5 = .ok (.iconst 1, 1) := by decide +kernel
theorem dX11_has_6 : decode cX11_has 6 = .ok (.if_icmp .ne 7, 3) := by decide +kernel
theorem dX11_has_9 : decode cX11_has 9 = .ok (.iconst 1, 1) := by decide +kernel
theorem dX11_has_10 : decode cX11_has 10 = .ok (.goto 4, 3) := by decide +kernel
theorem dX11_has_13 : decode cX11_has 13 = .ok (.iconst 0, 1) := by decide +kernel
theorem dX11_has_14 : decode cX11_has 14 = .ok (.ireturn, 1) := by decide +kernel
theorem dX11_seatNumber_0 : decode cX11_seatNumber 0 = .ok (.bipush 6, 2) := by decide +kernel
theorem dX11_seatNumber_2 : decode cX11_seatNumber 2 = .ok (.iload_n 1, 1) := by decide +kernel
theorem dX11_seatNumber_3 : decode cX11_seatNumber 3 = .ok (.imul, 1) := by decide +kernel
theorem dX11_seatNumber_4 : decode cX11_seatNumber 4 = .ok (.iload_n 0, 1) := by decide +kernel
theorem dX11_seatNumber_5 : decode cX11_seatNumber 5 = .ok (.iadd, 1) := by decide +kernel
theorem dX11_seatNumber_6 : decode cX11_seatNumber 6 = .ok (.ireturn, 1) := by decide +kernel
theorem dX12_init_0 : decode cX12_init 0 = .ok (.aload_n 0, 1) := by decide +kernel
theorem dX12_init_1 : decode cX12_init 1 = .ok (.invokespecial 1, 3) := by decide +kernel
theorem dX12_init_4 : decode cX12_init 4 = .ok (.aload_n 0, 1) := by decide +kernel
theorem dX12_init_5 : decode cX12_init 5 = .ok (.bipush 8, 2) := by decide +kernel
theorem dX12_init_7 : decode cX12_init 7 = .ok (.newarray .int, 2) := by decide +kernel
theorem dX12_init_9 : decode cX12_init 9 = .ok (.putfield 7, 3) := by decide +kernel
theorem dX12_init_12 : decode cX12_init 12 = .ok (.aload_n 0, 1) := by decide +kernel
theorem dX12_init_13 : decode cX12_init 13 = .ok (.bipush 8, 2) := by decide +kernel
theorem dX12_init_15 : decode cX12_init 15 = .ok (.newarray .int, 2) := by decide +kernel
theorem dX12_init_17 : decode cX12_init 17 = .ok (.putfield 13, 3) := by decide +kernel
theorem dX12_init_20 : decode cX12_init 20 = .ok (.aload_n 0, 1) := by decide +kernel
theorem dX12_init_21 : decode cX12_init 21 = .ok (.sipush 320, 3) := by decide +kernel
theorem dX12_init_24 : decode cX12_init 24 = .ok (.newarray .int, 2) := by decide +kernel
theorem dX12_init_26 : decode cX12_init 26 = .ok (.putfield 16, 3) := by decide +kernel
theorem dX12_init_29 : decode cX12_init 29 = .ok (.aload_n 0, 1) := by decide +kernel
theorem dX12_init_30 : decode cX12_init 30 = .ok (.sipush 140, 3) := by decide +kernel
theorem dX12_init_33 : decode cX12_init 33 = .ok (.newarray .int, 2) := by decide +kernel
theorem dX12_init_35 : decode cX12_init 35 = .ok (.putfield 19, 3) := by decide +kernel
theorem dX12_init_38 : decode cX12_init 38 = .ok (.aload_n 0, 1) := by decide +kernel
theorem dX12_init_39 : decode cX12_init 39 = .ok (.bipush 18, 2) := by decide +kernel
theorem dX12_init_41 : decode cX12_init 41 = .ok (.newarray .int, 2) := by decide +kernel
theorem dX12_init_43 : decode cX12_init 43 = .ok (.putfield 22, 3) := by decide +kernel
theorem dX12_init_46 : decode cX12_init 46 = .ok (.aload_n 0, 1) := by decide +kernel
theorem dX12_init_47 : decode cX12_init 47 = .ok (.bipush 32, 2) := by decide +kernel
theorem dX12_init_49 : decode cX12_init 49 = .ok (.newarray .int, 2) := by decide +kernel
theorem dX12_init_51 : decode cX12_init 51 = .ok (.putfield 25, 3) := by decide +kernel
theorem dX12_init_54 : decode cX12_init 54 = .ok (.aload_n 0, 1) := by decide +kernel
theorem dX12_init_55 : decode cX12_init 55 = .ok (.bipush 8, 2) := by decide +kernel
theorem dX12_init_57 : decode cX12_init 57 = .ok (.newarray .int, 2) := by decide +kernel
theorem dX12_init_59 : decode cX12_init 59 = .ok (.putfield 28, 3) := by decide +kernel
theorem dX12_init_62 : decode cX12_init 62 = .ok (.aload_n 0, 1) := by decide +kernel
theorem dX12_init_63 : decode cX12_init 63 = .ok (.sipush 149, 3) := by decide +kernel
theorem dX12_init_66 : decode cX12_init 66 = .ok (.newarray .int, 2) := by decide +kernel
theorem dX12_init_68 : decode cX12_init 68 = .ok (.putfield 31, 3) := by decide +kernel
theorem dX12_init_71 : decode cX12_init 71 = .ok (.aload_n 0, 1) := by decide +kernel
theorem dX12_init_72 : decode cX12_init 72 = .ok (.sipush 298, 3) := by decide +kernel
theorem dX12_init_75 : decode cX12_init 75 = .ok (.newarray .int, 2) := by decide +kernel
theorem dX12_init_77 : decode cX12_init 77 = .ok (.putfield 34, 3) := by decide +kernel
theorem dX12_init_80 : decode cX12_init 80 = .ok (.aload_n 0, 1) := by decide +kernel
theorem dX12_init_81 : decode cX12_init 81 = .ok (.iconst 2, 1) := by decide +kernel
theorem dX12_init_82 : decode cX12_init 82 = .ok (.newarray .boolean, 2) := by decide +kernel
theorem dX12_init_84 : decode cX12_init 84 = .ok (.putfield 37, 3) := by decide +kernel
theorem dX12_init_87 : decode cX12_init 87 = .ok (.aload_n 0, 1) := by decide +kernel
theorem dX12_init_88 : decode cX12_init 88 = .ok (.bipush 120, 2) := by decide +kernel
theorem dX12_init_90 : decode cX12_init 90 = .ok (.newarray .int, 2) := by decide +kernel
theorem dX12_init_92 : decode cX12_init 92 = .ok (.putfield 41, 3) := by decide +kernel
theorem dX12_init_95 : decode cX12_init 95 = .ok (.aload_n 0, 1) := by decide +kernel
theorem dX12_init_96 : decode cX12_init 96 = .ok (.bipush 16, 2) := by decide +kernel
theorem dX12_init_98 : decode cX12_init 98 = .ok (.newarray .int, 2) := by decide +kernel
theorem dX12_init_100 : decode cX12_init 100 = .ok (.putfield 44, 3) := by decide +kernel
theorem dX12_init_103 : decode cX12_init 103 = .ok (.iconst 0, 1) := by decide +kernel
theorem dX12_init_104 : decode cX12_init 104 = .ok (.istore_n 1, 1) := by decide +kernel
theorem dX12_init_105 : decode cX12_init 105 = .ok (.iload_n 1, 1) := by decide +kernel
theorem dX12_init_106 : decode cX12_init 106 = .ok (.bipush 8, 2) := by decide +kernel
theorem dX12_init_108 : decode cX12_init 108 = .ok (.if_icmp .ge 16, 3) := by decide +kernel
theorem dX12_init_111 : decode cX12_init 111 = .ok (.aload_n 0, 1) := by decide +kernel
theorem dX12_init_112 : decode cX12_init 112 = .ok (.getfield 7, 3) := by decide +kernel
theorem dX12_init_115 : decode cX12_init 115 = .ok (.iload_n 1, 1) := by decide +kernel
theorem dX12_init_116 : decode cX12_init 116 = .ok (.iconst (-1), 1) := by decide +kernel
theorem dX12_init_117 : decode cX12_init 117 = .ok (.iastore, 1) := by decide +kernel
theorem dX12_init_118 : decode cX12_init 118 = .ok (.iinc 1 1, 3) := by decide +kernel
theorem dX12_init_121 : decode cX12_init 121 = .ok (.goto (-16), 3) := by decide +kernel
theorem dX12_init_124 : decode cX12_init 124 = .ok (.return_, 1) := by decide +kernel
theorem dX12_in_0 : decode cX12_in 0 = .ok (.iload_n 0, 1) := by decide +kernel
theorem dX12_in_1 : decode cX12_in 1 = .ok (.iload_n 1, 1) := by decide +kernel
theorem dX12_in_2 : decode cX12_in 2 = .ok (.if_icmp .lt 12, 3) := by decide +kernel
theorem dX12_in_5 : decode cX12_in 5 = .ok (.iload_n 0, 1) := by decide +kernel
theorem dX12_in_6 : decode cX12_in 6 = .ok (.iload_n 2, 1) := by decide +kernel
theorem dX12_in_7 : decode cX12_in 7 = .ok (.if_icmp .gt 7, 3) := by decide +kernel
theorem dX12_in_10 : decode cX12_in 10 = .ok (.iconst 1, 1) := by decide +kernel
theorem dX12_in_11 : decode cX12_in 11 = .ok (.goto 4, 3) := by decide +kernel
theorem dX12_in_14 : decode cX12_in 14 = .ok (.iconst 0, 1) := by decide +kernel
theorem dX12_in_15 : decode cX12_in 15 = .ok (.ireturn, 1) := by decide +kernel
theorem dX12_has_0 : decode cX12_has 0 = .ok (.iload_n 0, 1) := by decide +kernel
theorem dX12_has_1 : decode cX12_has 1 = .ok (.iload_n 1, 1) := by decide +kernel
theorem dX12_has_2 : decode cX12_has 2 = .ok (.ishr, 1) := by decide +kernel
theorem dX12_has_3 : decode cX12_has 3 = .ok (.iconst 1, 1) := by decide +kernel
theorem dX12_has_4 : decode cX12_has 4 = .ok (.iand, 1) := by decide +kernel
theorem dX12_has_5 : decode cX12_has 5 = .ok (.iconst 1, 1) := by decide +kernel
theorem dX12_has_6 : decode cX12_has 6 = .ok (.if_icmp .ne 7, 3) := by decide +kernel
theorem dX12_has_9 : decode cX12_has 9 = .ok (.iconst 1, 1) := by decide +kernel
theorem dX12_has_10 : decode cX12_has 10 = .ok (.goto 4, 3) := by decide +kernel
theorem dX12_has_13 : decode cX12_has 13 = .ok (.iconst 0, 1) := by decide +kernel
theorem dX12_has_14 : decode cX12_has 14 = .ok (.ireturn, 1) := by decide +kernel
theorem dX12_bits_0 : decode cX12_bits 0 = .ok (.iconst 0, 1) := by decide +kernel
theorem dX12_bits_1 : decode cX12_bits 1 = .ok (.istore_n 1, 1) := by decide +kernel
theorem dX12_bits_2 : decode cX12_bits 2 = .ok (.iconst 0, 1) := by decide +kernel
theorem dX12_bits_3 : decode cX12_bits 3 = .ok (.istore_n 2, 1) := by decide +kernel
theorem dX12_bits_4 : decode cX12_bits 4 = .ok (.iload_n 2, 1) := by decide +kernel
theorem dX12_bits_5 : decode cX12_bits 5 = .ok (.bipush 8, 2) := by decide +kernel
theorem dX12_bits_7 : decode cX12_bits 7 = .ok (.if_icmp .ge 17, 3) := by decide +kernel
theorem dX12_bits_10 : decode cX12_bits 10 = .ok (.iload_n 1, 1) := by decide +kernel
theorem dX12_bits_11 : decode cX12_bits 11 = .ok (.iload_n 0, 1) := by decide +kernel
theorem dX12_bits_12 : decode cX12_bits 12 = .ok (.iload_n 2, 1) := by decide +kernel
theorem dX12_bits_13 : decode cX12_bits 13 = .ok (.ishr, 1) := by decide +kernel
theorem dX12_bits_14 : decode cX12_bits 14 = .ok (.iconst 1, 1) := by decide +kernel
theorem dX12_bits_15 : decode cX12_bits 15 = .ok (.iand, 1) := by decide +kernel
theorem dX12_bits_16 : decode cX12_bits 16 = .ok (.iadd, 1) := by decide +kernel
theorem dX12_bits_17 : decode cX12_bits 17 = .ok (.istore_n 1, 1) := by decide +kernel
theorem dX12_bits_18 : decode cX12_bits 18 = .ok (.iinc 2 1, 3) := by decide +kernel
theorem dX12_bits_21 : decode cX12_bits 21 = .ok (.goto (-17), 3) := by decide +kernel
theorem dX12_bits_24 : decode cX12_bits 24 = .ok (.iload_n 1, 1) := by decide +kernel
theorem dX12_bits_25 : decode cX12_bits 25 = .ok (.ireturn, 1) := by decide +kernel
theorem dX12_finds_0 : decode cX12_finds 0 = .ok (.aload_n 0, 1) := by decide +kernel
theorem dX12_finds_1 : decode cX12_finds 1 = .ok (.iload_n 1, 1) := by decide +kernel
theorem dX12_finds_2 : decode cX12_finds 2 = .ok (.putfield 47, 3) := by decide +kernel
theorem dX12_finds_5 : decode cX12_finds 5 = .ok (.ldc 51, 2) := by decide +kernel
theorem dX12_finds_7 : decode cX12_finds 7 = .ok (.iload_n 1, 1) := by decide +kernel
theorem dX12_finds_8 : decode cX12_finds 8 = .ok (.isub, 1) := by decide +kernel
theorem dX12_finds_9 : decode cX12_finds 9 = .ok (.ireturn, 1) := by decide +kernel
theorem dX12_did_0 : decode cX12_did 0 = .ok (.aload_n 0, 1) := by decide +kernel
theorem dX12_did_1 : decode cX12_did 1 = .ok (.iconst 0, 1) := by decide +kernel
theorem dX12_did_2 : decode cX12_did 2 = .ok (.putfield 47, 3) := by decide +kernel
theorem dX12_did_5 : decode cX12_did 5 = .ok (.iload_n 1, 1) := by decide +kernel
theorem dX12_did_6 : decode cX12_did 6 = .ok (.ireturn, 1) := by decide +kernel
set_option maxRecDepth 20000 in
theorem ggX12_isRow_X12_in : GoodIn wsX12_isRow wsX12_in := goodIn_r _ [4] (by decide +kernel) (by decide +kernel)
set_option maxRecDepth 20000 in
theorem gX12_isRow_X12_in : GoodIn wsX12_isRow (va_wsS RX12 52 yX12_in wsX12_in) := goodIn_app (goodIn_of _ (by decide +kernel)) ggX12_isRow_X12_in
theorem dX12_isRow_0 : decode cX12_isRow 0 = .ok (.iload_n 0, 1) := by decide +kernel
theorem dX12_isRow_1 : decode cX12_isRow 1 = .ok (.iconst 0, 1) := by decide +kernel
theorem dX12_isRow_2 : decode cX12_isRow 2 = .ok (.bipush 7, 2) := by decide +kernel
theorem dX12_isRow_4 : decode cX12_isRow 4 = .ok (.invokestatic 52, 3) := by decide +kernel
theorem dX12_isRow_7 : decode cX12_isRow 7 = .ok (.ireturn, 1) := by decide +kernel
theorem dX12_isNull_0 : decode cX12_isNull 0 = .ok (.aload_n 0, 1) := by decide +kernel
theorem dX12_isNull_1 : decode cX12_isNull 1 = .ok (.getfield 7, 3) := by decide +kernel
theorem dX12_isNull_4 : decode cX12_isNull 4 = .ok (.iload_n 1, 1) := by decide +kernel
theorem dX12_isNull_5 : decode cX12_isNull 5 = .ok (.iaload, 1) := by decide +kernel
theorem dX12_isNull_6 : decode cX12_isNull 6 = .ok (.ifCond .ge 7, 3) := by decide +kernel
theorem dX12_isNull_9 : decode cX12_isNull 9 = .ok (.iconst 1, 1) := by decide +kernel
theorem dX12_isNull_10 : decode cX12_isNull 10 = .ok (.goto 4, 3) := by decide +kernel
theorem dX12_isNull_13 : decode cX12_isNull 13 = .ok (.iconst 0, 1) := by decide +kernel
theorem dX12_isNull_14 : decode cX12_isNull 14 = .ok (.ireturn, 1) := by decide +kernel
set_option maxRecDepth 20000 in
theorem ggX12_row_X12_isRow : GoodIn wsX12_row wsX12_isRow := goodIn_r _ [8, 9, 10, 7, 11] (by decide +kernel) (by decide +kernel)
set_option maxRecDepth 20000 in
theorem gX12_row_X12_isRow : GoodIn wsX12_row (va_wsS RX12 56 yX12_isRow wsX12_isRow) := goodIn_app (goodIn_of _ (by decide +kernel)) ggX12_row_X12_isRow
set_option maxRecDepth 20000 in
theorem ggX12_row_X12_in : GoodIn wsX12_row wsX12_in := goodIn_r _ [11] (by decide +kernel) (by decide +kernel)
set_option maxRecDepth 20000 in
theorem gX12_row_X12_in : GoodIn wsX12_row (va_wsS RX12 52 yX12_in wsX12_in) := goodIn_app (goodIn_of _ (by decide +kernel)) ggX12_row_X12_in
set_option maxRecDepth 20000 in
theorem ggX12_row_X12_finds : GoodIn wsX12_row wsX12_finds := goodIn_r _ [15, 16, 17, 22, 23, 24, 25, 26, 27, 28, 29, 30, 31, 32, 33, 34, 35, 36, 37, 38, 39, 40, 41, 42, 43, 44, 45, 46, 47, 48] (by decide +kernel) (by decide +kernel)
set_option maxRecDepth 20000 in
theorem gX12_row_X12_finds : GoodIn wsX12_row (wsV RX12 61 RX12 yX12_finds wsX12_finds) := goodIn_app (goodIn_of _ (by decide +kernel)) ggX12_row_X12_finds
set_option maxRecDepth 20000 in
theorem ggX12_row_X12_did : GoodIn wsX12_row wsX12_did := goodIn_r _ [21, 16, 22, 23, 24, 25, 26, 27, 28, 29, 30, 31, 32, 33, 34, 35, 36, 37, 38, 39, 40, 41, 42, 43, 44, 45, 46, 47, 48] (by decide +kernel) (by decide +kernel)
set_option maxRecDepth 20000 in
theorem gX12_row_X12_did : GoodIn wsX12_row (wsV RX12 65 RX12 yX12_did wsX12_did) := goodIn_app (goodIn_of _ (by decide +kernel)) ggX12_row_X12_did
theorem dX12_row_0 : decode cX12_row 0 = .ok (.iload_n 1, 1) := by decide +kernel
theorem dX12_row_1 : decode cX12_row 1 = .ok (.invokestatic 56, 3) := by decide +kernel
theorem dX12_row_4 : decode cX12_row 4 = .ok (.ifCond .eq 18, 3) := by decide +kernel
theorem dX12_row_7 : decode cX12_row 7 = .ok (.iload_n 2, 1) := by decide +kernel
theorem dX12_row_8 : decode cX12_row 8 = .ok (.iconst 0, 1) := by decide +kernel
theorem dX12_row_9 : decode cX12_row 9 = .ok (.iconst 2, 1) := by decide +kernel
theorem dX12_row_10 : decode cX12_row 10 = .ok (.invokestatic 52, 3) := by decide +kernel
theorem dX12_row_13 : decode cX12_row 13 = .ok (.ifCond .eq 9, 3) := by decide +kernel
theorem dX12_row_16 : decode cX12_row 16 = .ok (.iload_n 3, 1) := by decide +kernel
theorem dX12_row_17 : decode cX12_row 17 = .ok (.bipush 40, 2) := by decide +kernel
theorem dX12_row_19 : decode cX12_row 19 = .ok (.if_icmp .le 6, 3) := by decide +kernel
theorem dX12_row_22 : decode cX12_row 22 = .ok (.ldc 60, 2) := by decide +kernel
theorem dX12_row_24 : decode cX12_row 24 = .ok (.ireturn, 1) := by decide +kernel
theorem dX12_row_25 : decode cX12_row 25 = .ok (.iload_n 3, 1) := by decide +kernel
theorem dX12_row_26 : decode cX12_row 26 = .ok (.ifCond .ge 9, 3) := by decide +kernel
theorem dX12_row_29 : decode cX12_row 29 = .ok (.aload_n 0, 1) := by decide +kernel
theorem dX12_row_30 : decode cX12_row 30 = .ok (.iconst 4, 1) := by decide +kernel
theorem dX12_row_31 : decode cX12_row 31 = .ok (.invokevirtual 61, 3) := by decide +kernel
theorem dX12_row_34 : decode cX12_row 34 = .ok (.ireturn, 1) := by decide +kernel
theorem dX12_row_35 : decode cX12_row 35 = .ok (.aload_n 0, 1) := by decide +kernel
theorem dX12_row_36 : decode cX12_row 36 = .ok (.getfield 7, 3) := by decide +kernel
theorem dX12_row_39 : decode cX12_row 39 = .ok (.iload_n 1, 1) := by decide +kernel
theorem dX12_row_40 : decode cX12_row 40 = .ok (.iload_n 2, 1) := by decide +kernel
theorem dX12_row_41 : decode cX12_row 41 = .ok (.iastore, 1) := by decide +kernel
theorem dX12_row_42 : decode cX12_row 42 = .ok (.aload_n 0, 1) := by decide +kernel
theorem dX12_row_43 : decode cX12_row 43 = .ok (.getfield 13, 3) := by decide +kernel
theorem dX12_row_46 : decode cX12_row 46 = .ok (.iload_n 1, 1) := by decide +kernel
theorem dX12_row_47 : decode cX12_row 47 = .ok (.iload_n 3, 1) := by decide +kernel
theorem dX12_row_48 : decode cX12_row 48 = .ok (.iastore, 1) := by decide +kernel
theorem dX12_row_49 : decode cX12_row 49 = .ok (.iconst 0, 1) := by decide +kernel
theorem dX12_row_50 : decode cX12_row 50 = .ok (.istore 4, 2) := by decide +kernel
theorem dX12_row_52 : decode cX12_row 52 = .ok (.iload 4, 2) := by decide +kernel
theorem dX12_row_54 : decode cX12_row 54 = .ok (.iload_n 3, 1) := by decide +kernel
theorem dX12_row_55 : decode cX12_row 55 = .ok (.if_icmp .ge 22, 3) := by decide +kernel
theorem dX12_row_58 : decode cX12_row 58 = .ok (.aload_n 0, 1) := by decide +kernel
theorem dX12_row_59 : decode cX12_row 59 = .ok (.getfield 16, 3) := by decide +kernel
theorem dX12_row_62 : decode cX12_row 62 = .ok (.bipush 40, 2) := by decide +kernel
theorem dX12_row_64 : decode cX12_row 64 = .ok (.iload_n 1, 1) := by decide +kernel
theorem dX12_row_65 : decode cX12_row 65 = .ok (.imul, 1) := by decide +kernel
theorem dX12_row_66 : decode cX12_row 66 = .ok (.iload 4, 2) := by decide +kernel
theorem dX12_row_68 : decode cX12_row 68 = .ok (.iadd, 1) := by decide +kernel
theorem dX12_row_69 : decode cX12_row 69 = .ok (.iconst 0, 1) := by decide +kernel
theorem dX12_row_70 : decode cX12_row 70 = .ok (.iastore, 1) := by decide +kernel
theorem dX12_row_71 : decode cX12_row 71 = .ok (.iinc 4 1, 3) := by decide +kernel
theorem dX12_row_74 : decode cX12_row 74 = .ok (.goto (-22), 3) := by decide +kernel
theorem dX12_row_77 : decode cX12_row 77 = .ok (.aload_n 0, 1) := by decide +kernel
theorem dX12_row_78 : decode cX12_row 78 = .ok (.iload_n 3, 1) := by decide +kernel
theorem dX12_row_79 : decode cX12_row 79 = .ok (.invokevirtual 65, 3) := by decide +kernel
theorem dX12_row_82 : decode cX12_row 82 = .ok (.ireturn, 1) := by decide +kernel
set_option maxRecDepth 20000 in
theorem ggX12_set_X12_isRow : GoodIn wsX12_set wsX12_isRow := goodIn_r _ [8, 9, 10, 7, 11] (by decide +kernel) (by decide +kernel)
set_option maxRecDepth 20000 in
theorem gX12_set_X12_isRow : GoodIn wsX12_set (va_wsS RX12 56 yX12_isRow wsX12_isRow) := goodIn_app (goodIn_of _ (by decide +kernel)) ggX12_set_X12_isRow
set_option maxRecDepth 20000 in
theorem ggX12_set_X12_isNull : GoodIn wsX12_set wsX12_isNull := goodIn_r _ [15, 4, 26, 27, 28, 29, 30, 31, 32, 33, 34, 35, 36, 37, 38, 39, 40, 41, 42, 43, 44, 45, 46, 47, 48, 49, 50, 51, 52] (by decide +kernel) (by decide +kernel)
set_option maxRecDepth 20000 in
theorem gX12_set_X12_isNull : GoodIn wsX12_set (wsV RX12 68 RX12 yX12_isNull wsX12_isNull) := goodIn_app (goodIn_of _ (by decide +kernel)) ggX12_set_X12_isNull
set_option maxRecDepth 20000 in
theorem ggX12_set_X12_finds : GoodIn wsX12_set wsX12_finds := goodIn_r _ [19, 20, 21, 26, 27, 28, 29, 30, 31, 32, 33, 34, 35, 36, 37, 38, 39, 40, 41, 42, 43, 44, 45, 46, 47, 48, 49, 50, 51, 52] (by decide +kernel) (by decide +kernel)
set_option maxRecDepth 20000 in
theorem gX12_set_X12_finds : GoodIn wsX12_set (wsV RX12 61 RX12 yX12_finds wsX12_finds) := goodIn_app (goodIn_of _ (by decide +kernel)) ggX12_set_X12_finds
set_option maxRecDepth 20000 in
theorem ggX12_set_X12_in : GoodIn wsX12_set wsX12_in := goodIn_r _ [11] (by decide +kernel) (by decide +kernel)
set_option maxRecDepth 20000 in
theorem gX12_set_X12_in : GoodIn wsX12_set (va_wsS RX12 52 yX12_in wsX12_in) := goodIn_app (goodIn_of _ (by decide +kernel)) ggX12_set_X12_in
set_option maxRecDepth 20000 in
theorem ggX12_set_X12_did : GoodIn wsX12_set wsX12_did := goodIn_r _ [25, 20, 26, 27, 28, 29, 30, 31, 32, 33, 34, 35, 36, 37, 38, 39, 40, 41, 42, 43, 44, 45, 46, 47, 48, 49, 50, 51, 52] (by decide +kernel) (by decide +kernel)
set_option maxRecDepth 20000 in
theorem gX12_set_X12_did : GoodIn wsX12_set (wsV RX12 65 RX12 yX12_did wsX12_did) := goodIn_app (goodIn_of _ (by decide +kernel)) ggX12_set_X12_did
theorem dX12_set_0 : decode cX12_set 0 = .ok (.iload_n 1, 1) := by decide +kernel
theorem dX12_set_1 : decode cX12_set 1 = .ok (.invokestatic 56, 3) := by decide +kernel
theorem dX12_set_4 : decode cX12_set 4 = .ok (.ifCond .ne 6, 3) := by decide +kernel
theorem dX12_set_7 : decode cX12_set 7 = .ok (.ldc 60, 2) := by decide +kernel
theorem dX12_set_9 : decode cX12_set 9 = .ok (.ireturn, 1) := by decide +kernel
theorem dX12_set_10 : decode cX12_set 10 = .ok (.aload_n 0, 1) := by decide +kernel
theorem dX12_set_11 : decode cX12_set 11 = .ok (.iload_n 1, 1) := by decide +kernel
theorem dX12_set_12 : decode cX12_set 12 = .ok (.invokevirtual 68, 3) := by decide +kernel
theorem dX12_set_15 : decode cX12_set 15 = .ok (.ifCond .eq 9, 3) := by decide +kernel
theorem dX12_set_18 : decode cX12_set 18 = .ok (.aload_n 0, 1) := by decide +kernel
theorem dX12_set_19 : decode cX12_set 19 = .ok (.iconst 1, 1) := by decide +kernel
theorem dX12_set_20 : decode cX12_set 20 = .ok (.invokevirtual 61, 3) := by decide +kernel
theorem dX12_set_23 : decode cX12_set 23 = .ok (.ireturn, 1) := by decide +kernel
theorem dX12_set_24 : decode cX12_set 24 = .ok (.iload_n 2, 1) := by decide +kernel
theorem dX12_set_25 : decode cX12_set 25 = .ok (.iconst 0, 1) := by decide +kernel
theorem dX12_set_26 : decode cX12_set 26 = .ok (.aload_n 0, 1) := by decide +kernel
theorem dX12_set_27 : decode cX12_set 27 = .ok (.getfield 13, 3) := by decide +kernel
theorem dX12_set_30 : decode cX12_set 30 = .ok (.iload_n 1, 1) := by decide +kernel
theorem dX12_set_31 : decode cX12_set 31 = .ok (.iaload, 1) := by decide +kernel
theorem dX12_set_32 : decode cX12_set 32 = .ok (.iconst 1, 1) := by decide +kernel
theorem dX12_set_33 : decode cX12_set 33 = .ok (.isub, 1) := by decide +kernel
theorem dX12_set_34 : decode cX12_set 34 = .ok (.invokestatic 52, 3) := by decide +kernel
theorem dX12_set_37 : decode cX12_set 37 = .ok (.ifCond .ne 9, 3) := by decide +kernel
theorem dX12_set_40 : decode cX12_set 40 = .ok (.aload_n 0, 1) := by decide +kernel
theorem dX12_set_41 : decode cX12_set 41 = .ok (.iconst 2, 1) := by decide +kernel
theorem dX12_set_42 : decode cX12_set 42 = .ok (.invokevirtual 61, 3) := by decide +kernel
theorem dX12_set_45 : decode cX12_set 45 = .ok (.ireturn, 1) := by decide +kernel
theorem dX12_set_46 : decode cX12_set 46 = .ok (.aload_n 0, 1) := by decide +kernel
theorem dX12_set_47 : decode cX12_set 47 = .ok (.getfield 16, 3) := by decide +kernel
theorem dX12_set_50 : decode cX12_set 50 = .ok (.bipush 40, 2) := by decide +kernel
theorem dX12_set_52 : decode cX12_set 52 = .ok (.iload_n 1, 1) := by decide +kernel
theorem dX12_set_53 : decode cX12_set 53 = .ok (.imul, 1) := by decide +kernel
theorem dX12_set_54 : decode cX12_set 54 = .ok (.iload_n 2, 1) := by decide +kernel
theorem dX12_set_55 : decode cX12_set 55 = .ok (.iadd, 1) := by decide +kernel
theorem dX12_set_56 : decode cX12_set 56 = .ok (.aload_n 0, 1) := by decide +kernel
theorem dX12_set_57 : decode cX12_set 57 = .ok (.getfield 7, 3) := by decide +kernel
theorem dX12_set_60 : decode cX12_set 60 = .ok (.iload_n 1, 1) := by decide +kernel
theorem dX12_set_61 : decode cX12_set 61 = .ok (.iaload, 1) := by decide +kernel
theorem dX12_set_62 : decode cX12_set 62 = .ok (.ifCond .ne 8, 3) := by decide +kernel
theorem dX12_set_65 : decode cX12_set 65 = .ok (.iload_n 3, 1) := by decide +kernel
theorem dX12_set_66 : decode cX12_set 66 = .ok (.i2b, 1) := by decide +kernel
theorem dX12_set_67 : decode cX12_set 67 = .ok (.goto 19, 3) := by decide +kernel
theorem dX12_set_70 : decode cX12_set 70 = .ok (.aload_n 0, 1) := by decide +kernel
theorem dX12_set_71 : decode cX12_set 71 = .ok (.getfield 7, 3) := by decide +kernel
theorem dX12_set_74 : decode cX12_set 74 = .ok (.iload_n 1, 1) := by decide +kernel
theorem dX12_set_75 : decode cX12_set 75 = .ok (.iaload, 1) := by decide +kernel
theorem dX12_set_76 : decode cX12_set 76 = .ok (.iconst 1, 1) := by decide +kernel
theorem dX12_set_77 : decode cX12_set 77 = .ok (.if_icmp .ne 8, 3) := by decide +kernel
theorem dX12_set_80 : decode cX12_set 80 = .ok (.iload_n 3, 1) := by decide +kernel
theorem dX12_set_81 : decode cX12_set 81 = .ok (.i2s, 1) := by decide +kernel
theorem dX12_set_82 : decode cX12_set 82 = .ok (.goto 4, 3) := by decide +kernel
theorem dX12_set_85 : decode cX12_set 85 = .ok (.iload_n 3, 1) := by decide +kernel
theorem dX12_set_86 : decode cX12_set 86 = .ok (.iastore, 1) := by decide +kernel
theorem dX12_set_87 : decode cX12_set 87 = .ok (.aload_n 0, 1) := by decide +kernel
theorem dX12_set_88 : decode cX12_set 88 = .ok (.aload_n 0, 1) := by decide +kernel
theorem dX12_set_89 : decode cX12_set 89 = .ok (.getfield 16, 3) := by decide +kernel
theorem dX12_set_92 : decode cX12_set 92 = .ok (.bipush 40, 2) := by decide +kernel
theorem dX12_set_94 : decode cX12_set 94 = .ok (.iload_n 1, 1) := by decide +kernel
theorem dX12_set_95 : decode cX12_set 95 = .ok (.imul, 1) := by decide +kernel
theorem dX12_set_96 : decode cX12_set 96 = .ok (.iload_n 2, 1) := by decide +kernel
theorem dX12_set_97 : decode cX12_set 97 = .ok (.iadd, 1) := by decide +kernel
theorem dX12_set_98 : decode cX12_set 98 = .ok (.iaload, 1) := by decide +kernel
theorem dX12_set_99 : decode cX12_set 99 = .ok (.invokevirtual 65, 3) := by decide +kernel
theorem dX12_set_102 : decode cX12_set 102 = .ok (.ireturn, 1) := by decide +kernel
set_option maxRecDepth 20000 in
theorem ggX12_copy_X12_isRow : GoodIn wsX12_copy wsX12_isRow := goodIn_r _ [8, 9, 10, 7, 11] (by decide +kernel) (by decide +kernel)
set_option maxRecDepth 20000 in
theorem gX12_copy_X12_isRow : GoodIn wsX12_copy (va_wsS RX12 56 yX12_isRow wsX12_isRow) := goodIn_app (goodIn_of _ (by decide +kernel)) ggX12_copy_X12_isRow
set_option maxRecDepth 20000 in
theorem ggX12_copy_X12_isNull : GoodIn wsX12_copy wsX12_isNull := goodIn_r _ [15, 2, 26, 27, 28, 29, 30, 31, 32, 33, 34, 35, 36, 37, 38, 39, 40, 41, 42, 43, 44, 45, 46, 47, 48, 49, 50, 51, 52] (by decide +kernel) (by decide +kernel)
set_option maxRecDepth 20000 in
theorem gX12_copy_X12_isNull : GoodIn wsX12_copy (wsV RX12 68 RX12 yX12_isNull wsX12_isNull) := goodIn_app (goodIn_of _ (by decide +kernel)) ggX12_copy_X12_isNull
set_option maxRecDepth 20000 in
theorem ggX12_copy_X12_finds : GoodIn wsX12_copy wsX12_finds := goodIn_r _ [19, 20, 21, 26, 27, 28, 29, 30, 31, 32, 33, 34, 35, 36, 37, 38, 39, 40, 41, 42, 43, 44, 45, 46, 47, 48, 49, 50, 51, 52] (by decide +kernel) (by decide +kernel)
set_option maxRecDepth 20000 in
theorem gX12_copy_X12_finds : GoodIn wsX12_copy (wsV RX12 61 RX12 yX12_finds wsX12_finds) := goodIn_app (goodIn_of _ (by decide +kernel)) ggX12_copy_X12_finds
set_option maxRecDepth 20000 in
theorem ggX12_copy_X12_did : GoodIn wsX12_copy wsX12_did := goodIn_r _ [25, 20, 26, 27, 28, 29, 30, 31, 32, 33, 34, 35, 36, 37, 38, 39, 40, 41, 42, 43, 44, 45, 46, 47, 48, 49, 50, 51, 52] (by decide +kernel) (by decide +kernel)
set_option maxRecDepth 20000 in
theorem gX12_copy_X12_did : GoodIn wsX12_copy (wsV RX12 65 RX12 yX12_did wsX12_did) := goodIn_app (goodIn_of _ (by decide +kernel)) ggX12_copy_X12_did
theorem dX12_copy_0 : decode cX12_copy 0 = .ok (.iload_n 1, 1) := by decide +kernel
theorem dX12_copy_1 : decode cX12_copy 1 = .ok (.invokestatic 56, 3) := by decide +kernel
theorem dX12_copy_4 : decode cX12_copy 4 = .ok (.ifCond .eq 10, 3) := by decide +kernel
theorem dX12_copy_7 : decode cX12_copy 7 = .ok (.iload_n 3, 1) := by decide +kernel
theorem dX12_copy_8 : decode cX12_copy 8 = .ok (.invokestatic 56, 3) := by decide +kernel
theorem dX12_copy_11 : decode cX12_copy 11 = .ok (.ifCond .ne 6, 3) := by decide +kernel
theorem dX12_copy_14 : decode cX12_copy 14 = .ok (.ldc 60, 2) := by decide +kernel
theorem dX12_copy_16 : decode cX12_copy 16 = .ok (.ireturn, 1) := by decide +kernel
theorem dX12_copy_17 : decode cX12_copy 17 = .ok (.aload_n 0, 1) := by decide +kernel
theorem dX12_copy_18 : decode cX12_copy 18 = .ok (.iload_n 1, 1) := by decide +kernel
theorem dX12_copy_19 : decode cX12_copy 19 = .ok (.invokevirtual 68, 3) := by decide +kernel
theorem dX12_copy_22 : decode cX12_copy 22 = .ok (.ifCond .ne 11, 3) := by decide +kernel
theorem dX12_copy_25 : decode cX12_copy 25 = .ok (.aload_n 0, 1) := by decide +kernel
theorem dX12_copy_26 : decode cX12_copy 26 = .ok (.iload_n 3, 1) := by decide +kernel
theorem dX12_copy_27 : decode cX12_copy 27 = .ok (.invokevirtual 68, 3) := by decide +kernel
theorem dX12_copy_30 : decode cX12_copy 30 = .ok (.ifCond .eq 9, 3) := by decide +kernel
theorem dX12_copy_33 : decode cX12_copy 33 = .ok (.aload_n 0, 1) := by decide +kernel
theorem dX12_copy_34 : decode cX12_copy 34 = .ok (.iconst 1, 1) := by decide +kernel
theorem dX12_copy_35 : decode cX12_copy 35 = .ok (.invokevirtual 61, 3) := by decide +kernel
theorem dX12_copy_38 : decode cX12_copy 38 = .ok (.ireturn, 1) := by decide +kernel
theorem dX12_copy_39 : decode cX12_copy 39 = .ok (.aload_n 0, 1) := by decide +kernel
theorem dX12_copy_40 : decode cX12_copy 40 = .ok (.getfield 7, 3) := by decide +kernel
theorem dX12_copy_43 : decode cX12_copy 43 = .ok (.iload_n 1, 1) := by decide +kernel
theorem dX12_copy_44 : decode cX12_copy 44 = .ok (.iaload, 1) := by decide +kernel
theorem dX12_copy_45 : decode cX12_copy 45 = .ok (.aload_n 0, 1) := by decide +kernel
theorem dX12_copy_46 : decode cX12_copy 46 = .ok (.getfield 7, 3) := by decide +kernel
theorem dX12_copy_49 : decode cX12_copy 49 = .ok (.iload_n 3, 1) := by decide +kernel
theorem dX12_copy_50 : decode cX12_copy 50 = .ok (.iaload, 1) := by decide +kernel
theorem dX12_copy_51 : decode cX12_copy 51 = .ok (.if_icmp .eq 9, 3) := by decide +kernel
theorem dX12_copy_54 : decode cX12_copy 54 = .ok (.aload_n 0, 1) := by decide +kernel
theorem dX12_copy_55 : decode cX12_copy 55 = .ok (.iconst 5, 1) := by decide +kernel
theorem dX12_copy_56 : decode cX12_copy 56 = .ok (.invokevirtual 61, 3) := by decide +kernel
theorem dX12_copy_59 : decode cX12_copy 59 = .ok (.ireturn, 1) := by decide +kernel
theorem dX12_copy_60 : decode cX12_copy 60 = .ok (.iload_n 2, 1) := by decide +kernel
theorem dX12_copy_61 : decode cX12_copy 61 = .ok (.ifCond .lt 40, 3) := by decide +kernel
theorem dX12_copy_64 : decode cX12_copy 64 = .ok (.iload 4, 2) := by decide +kernel
theorem dX12_copy_66 : decode cX12_copy 66 = .ok (.ifCond .lt 35, 3) := by decide +kernel
theorem dX12_copy_69 : decode cX12_copy 69 = .ok (.iload 5, 2) := by decide +kernel
theorem dX12_copy_71 : decode cX12_copy 71 = .ok (.ifCond .lt 30, 3) := by decide +kernel
theorem dX12_copy_74 : decode cX12_copy 74 = .ok (.iload 5, 2) := by decide +kernel
theorem dX12_copy_76 : decode cX12_copy 76 = .ok (.aload_n 0, 1) := by decide +kernel
theorem dX12_copy_77 : decode cX12_copy 77 = .ok (.getfield 13, 3) := by decide +kernel
theorem dX12_copy_80 : decode cX12_copy 80 = .ok (.iload_n 1, 1) := by decide +kernel
theorem dX12_copy_81 : decode cX12_copy 81 = .ok (.iaload, 1) := by decide +kernel
theorem dX12_copy_82 : decode cX12_copy 82 = .ok (.iload_n 2, 1) := by decide +kernel
theorem dX12_copy_83 : decode cX12_copy 83 = .ok (.isub, 1) := by decide +kernel
theorem dX12_copy_84 : decode cX12_copy 84 = .ok (.if_icmp .gt 17, 3) := by decide +kernel
theorem dX12_copy_87 : decode cX12_copy 87 = .ok (.iload 5, 2) := by decide +kernel
theorem dX12_copy_89 : decode cX12_copy 89 = .ok (.aload_n 0, 1) := by decide +kernel
theorem dX12_copy_90 : decode cX12_copy 90 = .ok (.getfield 13, 3) := by decide +kernel
theorem dX12_copy_93 : decode cX12_copy 93 = .ok (.iload_n 3, 1) := by decide +kernel
theorem dX12_copy_94 : decode cX12_copy 94 = .ok (.iaload, 1) := by decide +kernel
theorem dX12_copy_95 : decode cX12_copy 95 = .ok (.iload 4, 2) := by decide +kernel
theorem dX12_copy_97 : decode cX12_copy 97 = .ok (.isub, 1) := by decide +kernel
theorem dX12_copy_98 : decode cX12_copy 98 = .ok (.if_icmp .le 9, 3) := by decide +kernel
theorem dX12_copy_101 : decode cX12_copy 101 = .ok (.aload_n 0, 1) := by decide +kernel
theorem dX12_copy_102 : decode cX12_copy 102 = .ok (.iconst 2, 1) := by decide +kernel
theorem dX12_copy_103 : decode cX12_copy 103 = .ok (.invokevirtual 61, 3) := by decide +kernel
theorem dX12_copy_106 : decode cX12_copy 106 = .ok (.ireturn, 1) := by decide +kernel
theorem dX12_copy_107 : decode cX12_copy 107 = .ok (.bipush 40, 2) := by decide +kernel
theorem dX12_copy_109 : decode cX12_copy 109 = .ok (.iload_n 1, 1) := by decide +kernel
theorem dX12_copy_110 : decode cX12_copy 110 = .ok (.imul, 1) := by decide +kernel
theorem dX12_copy_111 : decode cX12_copy 111 = .ok (.iload_n 2, 1) := by decide +kernel
theorem dX12_copy_112 : decode cX12_copy 112 = .ok (.iadd, 1) := by decide +kernel
theorem dX12_copy_113 : decode cX12_copy 113 = .ok (.bipush 40, 2) := by decide +kernel
theorem dX12_copy_115 : decode cX12_copy 115 = .ok (.iload_n 3, 1) := by decide +kernel
theorem dX12_copy_116 : decode cX12_copy 116 = .ok (.imul, 1) := by decide +kernel
theorem dX12_copy_117 : decode cX12_copy 117 = .ok (.iload 4, 2) := by decide +kernel
theorem dX12_copy_119 : decode cX12_copy 119 = .ok (.iadd, 1) := by decide +kernel
theorem dX12_copy_120 : decode cX12_copy 120 = .ok (.if_icmp .ge 52, 3) := by decide +kernel
theorem dX12_copy_123 : decode cX12_copy 123 = .ok (.iload 5, 2) := by decide +kernel
theorem dX12_copy_125 : decode cX12_copy 125 = .ok (.iconst 1, 1) := by decide +kernel
theorem dX12_copy_126 : decode cX12_copy 126 = .ok (.isub, 1) := by decide +kernel
theorem dX12_copy_127 : decode cX12_copy 127 = .ok (.istore 6, 2) := by decide +kernel
theorem dX12_copy_129 : decode cX12_copy 129 = .ok (.iload 6, 2) := by decide +kernel
theorem dX12_copy_131 : decode cX12_copy 131 = .ok (.ifCond .lt 38, 3) := by decide +kernel
theorem dX12_copy_134 : decode cX12_copy 134 = .ok (.aload_n 0, 1) := by decide +kernel
theorem dX12_copy_135 : decode cX12_copy 135 = .ok (.getfield 16, 3) := by decide +kernel
theorem dX12_copy_138 : decode cX12_copy 138 = .ok (.bipush 40, 2) := by decide +kernel
theorem dX12_copy_140 : decode cX12_copy 140 = .ok (.iload_n 3, 1) := by decide +kernel
theorem dX12_copy_141 : decode cX12_copy 141 = .ok (.imul, 1) := by decide +kernel
theorem dX12_copy_142 : decode cX12_copy 142 = .ok (.iload 4, 2) := by decide +kernel
theorem dX12_copy_144 : decode cX12_copy 144 = .ok (.iadd, 1) := by decide +kernel
theorem dX12_copy_145 : decode cX12_copy 145 = .ok (.iload 6, 2) := by decide +kernel
theorem dX12_copy_147 : decode cX12_copy 147 = .ok (.iadd, 1) := by decide +kernel
theorem dX12_copy_148 : decode cX12_copy 148 = .ok (.aload_n 0, 1) := by decide +kernel
theorem dX12_copy_149 : decode cX12_copy 149 = .ok (.getfield 16, 3) := by decide +kernel
theorem dX12_copy_152 : decode cX12_copy 152 = .ok (.bipush 40, 2) := by decide +kernel
theorem dX12_copy_154 : decode cX12_copy 154 = .ok (.iload_n 1, 1) := by decide +kernel
theorem dX12_copy_155 : decode cX12_copy 155 = .ok (.imul, 1) := by decide +kernel
theorem dX12_copy_156 : decode cX12_copy 156 = .ok (.iload_n 2, 1) := by decide +kernel
theorem dX12_copy_157 : decode cX12_copy 157 = .ok (.iadd, 1) := by decide +kernel
theorem dX12_copy_158 : decode cX12_copy 158 = .ok (.iload 6, 2) := by decide +kernel
theorem dX12_copy_160 : decode cX12_copy 160 = .ok (.iadd, 1) := by decide +kernel
theorem dX12_copy_161 : decode cX12_copy 161 = .ok (.iaload, 1) := by decide +kernel
theorem dX12_copy_162 : decode cX12_copy 162 = .ok (.iastore, 1) := by decide +kernel
theorem dX12_copy_163 : decode cX12_copy 163 = .ok (.iinc 6 (-1), 3) := by decide +kernel
theorem dX12_copy_166 : decode cX12_copy 166 = .ok (.goto (-37), 3) := by decide +kernel
theorem dX12_copy_169 : decode cX12_copy 169 = .ok (.goto 48, 3) := by decide +kernel
theorem dX12_copy_172 : decode cX12_copy 172 = .ok (.iconst 0, 1) := by decide +kernel
theorem dX12_copy_173 : decode cX12_copy 173 = .ok (.istore 6, 2) := by decide +kernel
theorem dX12_copy_175 : decode cX12_copy 175 = .ok (.iload 6, 2) := by decide +kernel
theorem dX12_copy_177 : decode cX12_copy 177 = .ok (.iload 5, 2) := by decide +kernel
theorem dX12_copy_179 : decode cX12_copy 179 = .ok (.if_icmp .ge 38, 3) := by decide +kernel
theorem dX12_copy_182 : decode cX12_copy 182 = .ok (.aload_n 0, 1) := by decide +kernel
theorem dX12_copy_183 : decode cX12_copy 183 = .ok (.getfield 16, 3) := by decide +kernel
theorem dX12_copy_186 : decode cX12_copy 186 = .ok (.bipush 40, 2) := by decide +kernel
theorem dX12_copy_188 : decode cX12_copy 188 = .ok (.iload_n 3, 1) := by decide +kernel
theorem dX12_copy_189 : decode cX12_copy 189 = .ok (.imul, 1) := by decide +kernel
theorem dX12_copy_190 : decode cX12_copy 190 = .ok (.iload 4, 2) := by decide +kernel
theorem dX12_copy_192 : decode cX12_copy 192 = .ok (.iadd, 1) := by decide +kernel
theorem dX12_copy_193 : decode cX12_copy 193 = .ok (.iload 6, 2) := by decide +kernel
theorem dX12_copy_195 : decode cX12_copy 195 = .ok (.iadd, 1) := by decide +kernel
theorem dX12_copy_196 : decode cX12_copy 196 = .ok (.aload_n 0, 1) := by decide +kernel
theorem dX12_copy_197 : decode cX12_copy 197 = .ok (.getfield 16, 3) := by decide +kernel
theorem dX12_copy_200 : decode cX12_copy 200 = .ok (.bipush 40, 2) := by decide +kernel
theorem dX12_copy_202 : decode cX12_copy 202 = .ok (.iload_n 1, 1) := by decide +kernel
theorem dX12_copy_203 : decode cX12_copy 203 = .ok (.imul, 1) := by decide +kernel
theorem dX12_copy_204 : decode cX12_copy 204 = .ok (.iload_n 2, 1) := by decide +kernel
theorem dX12_copy_205 : decode cX12_copy 205 = .ok (.iadd, 1) := by decide +kernel
theorem dX12_copy_206 : decode cX12_copy 206 = .ok (.iload 6, 2) := by decide +kernel
theorem dX12_copy_208 : decode cX12_copy 208 = .ok (.iadd, 1) := by decide +kernel
theorem dX12_copy_209 : decode cX12_copy 209 = .ok (.iaload, 1) := by decide +kernel
theorem dX12_copy_210 : decode cX12_copy 210 = .ok (.iastore, 1) := by decide +kernel
theorem dX12_copy_211 : decode cX12_copy 211 = .ok (.iinc 6 1, 3) := by decide +kernel
theorem dX12_copy_214 : decode cX12_copy 214 = .ok (.goto (-39), 3) := by decide +kernel
theorem dX12_copy_217 : decode cX12_copy 217 = .ok (.aload_n 0, 1) := by decide +kernel
theorem dX12_copy_218 : decode cX12_copy 218 = .ok (.iload 5, 2) := by decide +kernel
theorem dX12_copy_220 : decode cX12_copy 220 = .ok (.invokevirtual 65, 3) := by decide +kernel
theorem dX12_copy_223 : decode cX12_copy 223 = .ok (.ireturn, 1) := by decide +kernel
set_option maxRecDepth 20000 in
theorem ggX12_drop_X12_isRow : GoodIn wsX12_drop wsX12_isRow := goodIn_r _ [7, 8, 9, 6, 10] (by decide +kernel) (by decide +kernel)
set_option maxRecDepth 20000 in
theorem gX12_drop_X12_isRow : GoodIn wsX12_drop (va_wsS RX12 56 yX12_isRow wsX12_isRow) := goodIn_app (goodIn_of _ (by decide +kernel)) ggX12_drop_X12_isRow
set_option maxRecDepth 20000 in
theorem ggX12_drop_X12_isNull : GoodIn wsX12_drop wsX12_isNull := goodIn_r _ [14, 2, 25, 26, 27, 28, 29, 30, 31, 32, 33, 34, 35, 36, 37, 38, 39, 40, 41, 42, 43, 44, 45, 46, 47, 48, 49, 50, 51] (by decide +kernel) (by decide +kernel)
set_option maxRecDepth 20000 in
theorem gX12_drop_X12_isNull : GoodIn wsX12_drop (wsV RX12 68 RX12 yX12_isNull wsX12_isNull) := goodIn_app (goodIn_of _ (by decide +kernel)) ggX12_drop_X12_isNull
set_option maxRecDepth 20000 in
theorem ggX12_drop_X12_finds : GoodIn wsX12_drop wsX12_finds := goodIn_r _ [18, 19, 20, 25, 26, 27, 28, 29, 30, 31, 32, 33, 34, 35, 36, 37, 38, 39, 40, 41, 42, 43, 44, 45, 46, 47, 48, 49, 50, 51] (by decide +kernel) (by decide +kernel)
set_option maxRecDepth 20000 in
theorem gX12_drop_X12_finds : GoodIn wsX12_drop (wsV RX12 61 RX12 yX12_finds wsX12_finds) := goodIn_app (goodIn_of _ (by decide +kernel)) ggX12_drop_X12_finds
set_option maxRecDepth 20000 in
theorem ggX12_drop_X12_did : GoodIn wsX12_drop wsX12_did := goodIn_r _ [24, 19, 25, 26, 27, 28, 29, 30, 31, 32, 33, 34, 35, 36, 37, 38, 39, 40, 41, 42, 43, 44, 45, 46, 47, 48, 49, 50, 51] (by decide +kernel) (by decide +kernel)
set_option maxRecDepth 20000 in
theorem gX12_drop_X12_did : GoodIn wsX12_drop (wsV RX12 65 RX12 yX12_did wsX12_did) := goodIn_app (goodIn_of _ (by decide +kernel)) ggX12_drop_X12_did
theorem dX12_drop_0 : decode cX12_drop 0 = .ok (.iload_n 1, 1) := by decide +kernel
theorem dX12_drop_1 : decode cX12_drop 1 = .ok (.invokestatic 56, 3) := by decide +kernel
theorem dX12_drop_4 : decode cX12_drop 4 = .ok (.ifCond .ne 6, 3) := by decide +kernel
theorem dX12_drop_7 : decode cX12_drop 7 = .ok (.ldc 60, 2) := by decide +kernel
theorem dX12_drop_9 : decode cX12_drop 9 = .ok (.ireturn, 1) := by decide +kernel
theorem dX12_drop_10 : decode cX12_drop 10 = .ok (.aload_n 0, 1) := by decide +kernel
theorem dX12_drop_11 : decode cX12_drop 11 = .ok (.iload_n 1, 1) := by decide +kernel
theorem dX12_drop_12 : decode cX12_drop 12 = .ok (.invokevirtual 68, 3) := by decide +kernel
theorem dX12_drop_15 : decode cX12_drop 15 = .ok (.ifCond .eq 9, 3) := by decide +kernel
theorem dX12_drop_18 : decode cX12_drop 18 = .ok (.aload_n 0, 1) := by decide +kernel
theorem dX12_drop_19 : decode cX12_drop 19 = .ok (.iconst 1, 1) := by decide +kernel
theorem dX12_drop_20 : decode cX12_drop 20 = .ok (.invokevirtual 61, 3) := by decide +kernel
theorem dX12_drop_23 : decode cX12_drop 23 = .ok (.ireturn, 1) := by decide +kernel
theorem dX12_drop_24 : decode cX12_drop 24 = .ok (.aload_n 0, 1) := by decide +kernel
theorem dX12_drop_25 : decode cX12_drop 25 = .ok (.getfield 7, 3) := by decide +kernel
theorem dX12_drop_28 : decode cX12_drop 28 = .ok (.iload_n 1, 1) := by decide +kernel
theorem dX12_drop_29 : decode cX12_drop 29 = .ok (.iconst (-1), 1) := by decide +kernel
theorem dX12_drop_30 : decode cX12_drop 30 = .ok (.iastore, 1) := by decide +kernel
theorem dX12_drop_31 : decode cX12_drop 31 = .ok (.aload_n 0, 1) := by decide +kernel
theorem dX12_drop_32 : decode cX12_drop 32 = .ok (.aload_n 0, 1) := by decide +kernel
theorem dX12_drop_33 : decode cX12_drop 33 = .ok (.getfield 13, 3) := by decide +kernel
theorem dX12_drop_36 : decode cX12_drop 36 = .ok (.iload_n 1, 1) := by decide +kernel
theorem dX12_drop_37 : decode cX12_drop 37 = .ok (.iaload, 1) := by decide +kernel
theorem dX12_drop_38 : decode cX12_drop 38 = .ok (.invokevirtual 65, 3) := by decide +kernel
theorem dX12_drop_41 : decode cX12_drop 41 = .ok (.ireturn, 1) := by decide +kernel
set_option maxRecDepth 20000 in
theorem ggX12_feed_X12_in : GoodIn wsX12_feed wsX12_in := goodIn_r _ [8] (by decide +kernel) (by decide +kernel)
set_option maxRecDepth 20000 in
theorem gX12_feed_X12_in : GoodIn wsX12_feed (va_wsS RX12 52 yX12_in wsX12_in) := goodIn_app (goodIn_of _ (by decide +kernel)) ggX12_feed_X12_in
theorem dX12_feed_0 : decode cX12_feed 0 = .ok (.iload_n 1, 1) := by decide +kernel
theorem dX12_feed_1 : decode cX12_feed 1 = .ok (.iconst 0, 1) := by decide +kernel
theorem dX12_feed_2 : decode cX12_feed 2 = .ok (.sipush 255, 3) := by decide +kernel
theorem dX12_feed_5 : decode cX12_feed 5 = .ok (.invokestatic 52, 3) := by decide +kernel
theorem dX12_feed_8 : decode cX12_feed 8 = .ok (.ifCond .ne 6, 3) := by decide +kernel
theorem dX12_feed_11 : decode cX12_feed 11 = .ok (.ldc 60, 2) := by decide +kernel
theorem dX12_feed_13 : decode cX12_feed 13 = .ok (.ireturn, 1) := by decide +kernel
theorem dX12_feed_14 : decode cX12_feed 14 = .ok (.aload_n 0, 1) := by decide +kernel
theorem dX12_feed_15 : decode cX12_feed 15 = .ok (.getfield 71, 3) := by decide +kernel
theorem dX12_feed_18 : decode cX12_feed 18 = .ok (.sipush 140, 3) := by decide +kernel
theorem dX12_feed_21 : decode cX12_feed 21 = .ok (.if_icmp .ne 6, 3) := by decide +kernel
theorem dX12_feed_24 : decode cX12_feed 24 = .ok (.ldc 74, 2) := by decide +kernel
theorem dX12_feed_26 : decode cX12_feed 26 = .ok (.ireturn, 1) := by decide +kernel
theorem dX12_feed_27 : decode cX12_feed 27 = .ok (.aload_n 0, 1) := by decide +kernel
theorem dX12_feed_28 : decode cX12_feed 28 = .ok (.getfield 19, 3) := by decide +kernel
theorem dX12_feed_31 : decode cX12_feed 31 = .ok (.aload_n 0, 1) := by decide +kernel
theorem dX12_feed_32 : decode cX12_feed 32 = .ok (.getfield 71, 3) := by decide +kernel
theorem dX12_feed_35 : decode cX12_feed 35 = .ok (.iload_n 1, 1) := by decide +kernel
theorem dX12_feed_36 : decode cX12_feed 36 = .ok (.iastore, 1) := by decide +kernel
theorem dX12_feed_37 : decode cX12_feed 37 = .ok (.aload_n 0, 1) := by decide +kernel
theorem dX12_feed_38 : decode cX12_feed 38 = .ok (.dup, 1) := by decide +kernel
theorem dX12_feed_39 : decode cX12_feed 39 = .ok (.getfield 71, 3) := by decide +kernel
theorem dX12_feed_42 : decode cX12_feed 42 = .ok (.iconst 1, 1) := by decide +kernel
theorem dX12_feed_43 : decode cX12_feed 43 = .ok (.iadd, 1) := by decide +kernel
theorem dX12_feed_44 : decode cX12_feed 44 = .ok (.putfield 71, 3) := by decide +kernel
theorem dX12_feed_47 : decode cX12_feed 47 = .ok (.aload_n 0, 1) := by decide +kernel
theorem dX12_feed_48 : decode cX12_feed 48 = .ok (.getfield 71, 3) := by decide +kernel
theorem dX12_feed_51 : decode cX12_feed 51 = .ok (.ireturn, 1) := by decide +kernel
set_option maxRecDepth 20000 in
theorem ggX12_nextToken_X12_in : GoodIn wsX12_nextToken wsX12_in := goodIn_r _ [10] (by decide +kernel) (by decide +kernel)
set_option maxRecDepth 20000 in
theorem gX12_nextToken_X12_in : GoodIn wsX12_nextToken (va_wsS RX12 52 yX12_in wsX12_in) := goodIn_app (goodIn_of _ (by decide +kernel)) ggX12_nextToken_X12_in
theorem dX12_nextToken_0 : decode cX12_nextToken 0 = .ok (.aload_n 0, 1) := by decide +kernel
theorem dX12_nextToken_1 : decode cX12_nextToken 1 = .ok (.aload_n 0, 1) := by decide +kernel
theorem dX12_nextToken_2 : decode cX12_nextToken 2 = .ok (.getfield 75, 3) := by decide +kernel
theorem dX12_nextToken_5 : decode cX12_nextToken 5 = .ok (.putfield 78, 3) := by decide +kernel
theorem dX12_nextToken_8 : decode cX12_nextToken 8 = .ok (.aload_n 0, 1) := by decide +kernel
theorem dX12_nextToken_9 : decode cX12_nextToken 9 = .ok (.iconst 0, 1) := by decide +kernel
theorem dX12_nextToken_10 : decode cX12_nextToken 10 = .ok (.putfield 81, 3) := by decide +kernel
theorem dX12_nextToken_13 : decode cX12_nextToken 13 = .ok (.aload_n 0, 1) := by decide +kernel
theorem dX12_nextToken_14 : decode cX12_nextToken 14 = .ok (.getfield 75, 3) := by decide +kernel
theorem dX12_nextToken_17 : decode cX12_nextToken 17 = .ok (.aload_n 0, 1) := by decide +kernel
theorem dX12_nextToken_18 : decode cX12_nextToken 18 = .ok (.getfield 71, 3) := by decide +kernel
theorem dX12_nextToken_21 : decode cX12_nextToken 21 = .ok (.if_icmp .ne 12, 3) := by decide +kernel
theorem dX12_nextToken_24 : decode cX12_nextToken 24 = .ok (.aload_n 0, 1) := by decide +kernel
theorem dX12_nextToken_25 : decode cX12_nextToken 25 = .ok (.bipush (-2), 2) := by decide +kernel
theorem dX12_nextToken_27 : decode cX12_nextToken 27 = .ok (.putfield 84, 3) := by decide +kernel
theorem dX12_nextToken_30 : decode cX12_nextToken 30 = .ok (.goto 188, 3) := by decide +kernel
theorem dX12_nextToken_33 : decode cX12_nextToken 33 = .ok (.aload_n 0, 1) := by decide +kernel
theorem dX12_nextToken_34 : decode cX12_nextToken 34 = .ok (.getfield 19, 3) := by decide +kernel
theorem dX12_nextToken_37 : decode cX12_nextToken 37 = .ok (.aload_n 0, 1) := by decide +kernel
theorem dX12_nextToken_38 : decode cX12_nextToken 38 = .ok (.getfield 75, 3) := by decide +kernel
theorem dX12_nextToken_41 : decode cX12_nextToken 41 = .ok (.iaload, 1) := by decide +kernel
theorem dX12_nextToken_42 : decode cX12_nextToken 42 = .ok (.bipush 48, 2) := by decide +kernel
theorem dX12_nextToken_44 : decode cX12_nextToken 44 = .ok (.bipush 57, 2) := by decide +kernel
theorem dX12_nextToken_46 : decode cX12_nextToken 46 = .ok (.invokestatic 52, 3) := by decide +kernel
theorem dX12_nextToken_49 : decode cX12_nextToken 49 = .ok (.ifCond .eq 116, 3) := by decide +kernel
theorem dX12_nextToken_52 : decode cX12_nextToken 52 = .ok (.aload_n 0, 1) := by decide +kernel
theorem dX12_nextToken_53 : decode cX12_nextToken 53 = .ok (.getfield 75, 3) := by decide +kernel
theorem dX12_nextToken_56 : decode cX12_nextToken 56 = .ok (.aload_n 0, 1) := by decide +kernel
theorem dX12_nextToken_57 : decode cX12_nextToken 57 = .ok (.getfield 71, 3) := by decide +kernel
theorem dX12_nextToken_60 : decode cX12_nextToken 60 = .ok (.if_icmp .ge 79, 3) := by decide +kernel
theorem dX12_nextToken_63 : decode cX12_nextToken 63 = .ok (.aload_n 0, 1) := by decide +kernel
theorem dX12_nextToken_64 : decode cX12_nextToken 64 = .ok (.getfield 19, 3) := by decide +kernel
theorem dX12_nextToken_67 : decode cX12_nextToken 67 = .ok (.aload_n 0, 1) := by decide +kernel
theorem dX12_nextToken_68 : decode cX12_nextToken 68 = .ok (.getfield 75, 3) := by decide +kernel
theorem dX12_nextToken_71 : decode cX12_nextToken 71 = .ok (.iaload, 1) := by decide +kernel
theorem dX12_nextToken_72 : decode cX12_nextToken 72 = .ok (.bipush 48, 2) := by decide +kernel
theorem dX12_nextToken_74 : decode cX12_nextToken 74 = .ok (.bipush 57, 2) := by decide +kernel
theorem dX12_nextToken_76 : decode cX12_nextToken 76 = .ok (.invokestatic 52, 3) := by decide +kernel
theorem dX12_nextToken_79 : decode cX12_nextToken 79 = .ok (.ifCond .eq 60, 3) := by decide +kernel
theorem dX12_nextToken_82 : decode cX12_nextToken 82 = .ok (.aload_n 0, 1) := by decide +kernel
theorem dX12_nextToken_83 : decode cX12_nextToken 83 = .ok (.aload_n 0, 1) := by decide +kernel
theorem dX12_nextToken_84 : decode cX12_nextToken 84 = .ok (.getfield 75, 3) := by decide +kernel
theorem dX12_nextToken_87 : decode cX12_nextToken 87 = .ok (.aload_n 0, 1) := by decide +kernel
theorem dX12_nextToken_88 : decode cX12_nextToken 88 = .ok (.getfield 78, 3) := by decide +kernel
theorem dX12_nextToken_91 : decode cX12_nextToken 91 = .ok (.isub, 1) := by decide +kernel
theorem dX12_nextToken_92 : decode cX12_nextToken 92 = .ok (.iconst 2, 1) := by decide +kernel
theorem dX12_nextToken_93 : decode cX12_nextToken 93 = .ok (.if_icmp .ge 26, 3) := by decide +kernel
theorem dX12_nextToken_96 : decode cX12_nextToken 96 = .ok (.bipush 10, 2) := by decide +kernel
theorem dX12_nextToken_98 : decode cX12_nextToken 98 = .ok (.aload_n 0, 1) := by decide +kernel
theorem dX12_nextToken_99 : decode cX12_nextToken 99 = .ok (.getfield 81, 3) := by decide +kernel
theorem dX12_nextToken_102 : decode cX12_nextToken 102 = .ok (.imul, 1) := by decide +kernel
theorem dX12_nextToken_103 : decode cX12_nextToken 103 = .ok (.aload_n 0, 1) := by decide +kernel
theorem dX12_nextToken_104 : decode cX12_nextToken 104 = .ok (.getfield 19, 3) := by decide +kernel
theorem dX12_nextToken_107 : decode cX12_nextToken 107 = .ok (.aload_n 0, 1) := by decide +kernel
theorem dX12_nextToken_108 : decode cX12_nextToken 108 = .ok (.getfield 75, 3) := by decide +kernel
theorem dX12_nextToken_111 : decode cX12_nextToken 111 = .ok (.iaload, 1) := by decide +kernel
theorem dX12_nextToken_112 : decode cX12_nextToken 112 = .ok (.iadd, 1) := by decide +kernel
theorem dX12_nextToken_113 : decode cX12_nextToken 113 = .ok (.bipush 48, 2) := by decide +kernel
theorem dX12_nextToken_115 : decode cX12_nextToken 115 = .ok (.isub, 1) := by decide +kernel
theorem dX12_nextToken_116 : decode cX12_nextToken 116 = .ok (.goto 7, 3) := by decide +kernel
theorem dX12_nextToken_119 : decode cX12_nextToken 119 = .ok (.aload_n 0, 1) := by decide +kernel
theorem dX12_nextToken_120 : decode cX12_nextToken 120 = .ok (.getfield 81, 3) := by decide +kernel
theorem dX12_nextToken_123 : decode cX12_nextToken 123 = .ok (.putfield 81, 3) := by decide +kernel
theorem dX12_nextToken_126 : decode cX12_nextToken 126 = .ok (.aload_n 0, 1) := by decide +kernel
theorem dX12_nextToken_127 : decode cX12_nextToken 127 = .ok (.dup, 1) := by decide +kernel
theorem dX12_nextToken_128 : decode cX12_nextToken 128 = .ok (.getfield 75, 3) := by decide +kernel
theorem dX12_nextToken_131 : decode cX12_nextToken 131 = .ok (.iconst 1, 1) := by decide +kernel
theorem dX12_nextToken_132 : decode cX12_nextToken 132 = .ok (.iadd, 1) := by decide +kernel
theorem dX12_nextToken_133 : decode cX12_nextToken 133 = .ok (.putfield 75, 3) := by decide +kernel
theorem dX12_nextToken_136 : decode cX12_nextToken 136 = .ok (.goto (-84), 3) := by decide +kernel
theorem dX12_nextToken_139 : decode cX12_nextToken 139 = .ok (.aload_n 0, 1) := by decide +kernel
theorem dX12_nextToken_140 : decode cX12_nextToken 140 = .ok (.aload_n 0, 1) := by decide +kernel
theorem dX12_nextToken_141 : decode cX12_nextToken 141 = .ok (.getfield 75, 3) := by decide +kernel
theorem dX12_nextToken_144 : decode cX12_nextToken 144 = .ok (.aload_n 0, 1) := by decide +kernel
theorem dX12_nextToken_145 : decode cX12_nextToken 145 = .ok (.getfield 78, 3) := by decide +kernel
theorem dX12_nextToken_148 : decode cX12_nextToken 148 = .ok (.isub, 1) := by decide +kernel
theorem dX12_nextToken_149 : decode cX12_nextToken 149 = .ok (.iconst 2, 1) := by decide +kernel
theorem dX12_nextToken_150 : decode cX12_nextToken 150 = .ok (.if_icmp .le 8, 3) := by decide +kernel
theorem dX12_nextToken_153 : decode cX12_nextToken 153 = .ok (.bipush (-4), 2) := by decide +kernel
theorem dX12_nextToken_155 : decode cX12_nextToken 155 = .ok (.goto 4, 3) := by decide +kernel
theorem dX12_nextToken_158 : decode cX12_nextToken 158 = .ok (.iconst (-1), 1) := by decide +kernel
theorem dX12_nextToken_159 : decode cX12_nextToken 159 = .ok (.putfield 84, 3) := by decide +kernel
theorem dX12_nextToken_162 : decode cX12_nextToken 162 = .ok (.goto 56, 3) := by decide +kernel
theorem dX12_nextToken_165 : decode cX12_nextToken 165 = .ok (.aload_n 0, 1) := by decide +kernel
theorem dX12_nextToken_166 : decode cX12_nextToken 166 = .ok (.getfield 19, 3) := by decide +kernel
theorem dX12_nextToken_169 : decode cX12_nextToken 169 = .ok (.aload_n 0, 1) := by decide +kernel
theorem dX12_nextToken_170 : decode cX12_nextToken 170 = .ok (.getfield 75, 3) := by decide +kernel
theorem dX12_nextToken_173 : decode cX12_nextToken 173 = .ok (.iaload, 1) := by decide +kernel
theorem dX12_nextToken_174 : decode cX12_nextToken 174 = .ok (.istore_n 1, 1) := by decide +kernel
theorem dX12_nextToken_175 : decode cX12_nextToken 175 = .ok (.aload_n 0, 1) := by decide +kernel
theorem dX12_nextToken_176 : decode cX12_nextToken 176 = .ok (.iload_n 1, 1) := by decide +kernel
theorem dX12_nextToken_177 : decode cX12_nextToken 177 = .ok (.bipush 97, 2) := by decide +kernel
theorem dX12_nextToken_179 : decode cX12_nextToken 179 = .ok (.bipush 122, 2) := by decide +kernel
theorem dX12_nextToken_181 : decode cX12_nextToken 181 = .ok (.invokestatic 52, 3) := by decide +kernel
theorem dX12_nextToken_184 : decode cX12_nextToken 184 = .ok (.ifCond .ne 15, 3) := by decide +kernel
theorem dX12_nextToken_187 : decode cX12_nextToken 187 = .ok (.iload_n 1, 1) := by decide +kernel
theorem dX12_nextToken_188 : decode cX12_nextToken 188 = .ok (.bipush 44, 2) := by decide +kernel
theorem dX12_nextToken_190 : decode cX12_nextToken 190 = .ok (.if_icmp .eq 9, 3) := by decide +kernel
theorem dX12_nextToken_193 : decode cX12_nextToken 193 = .ok (.iload_n 1, 1) := by decide +kernel
theorem dX12_nextToken_194 : decode cX12_nextToken 194 = .ok (.bipush 59, 2) := by decide +kernel
theorem dX12_nextToken_196 : decode cX12_nextToken 196 = .ok (.if_icmp .ne 7, 3) := by decide +kernel
theorem dX12_nextToken_199 : decode cX12_nextToken 199 = .ok (.iload_n 1, 1) := by decide +kernel
theorem dX12_nextToken_200 : decode cX12_nextToken 200 = .ok (.goto 5, 3) := by decide +kernel
theorem dX12_nextToken_203 : decode cX12_nextToken 203 = .ok (.bipush (-4), 2) := by decide +kernel
theorem dX12_nextToken_205 : decode cX12_nextToken 205 = .ok (.putfield 84, 3) := by decide +kernel
theorem dX12_nextToken_208 : decode cX12_nextToken 208 = .ok (.aload_n 0, 1) := by decide +kernel
theorem dX12_nextToken_209 : decode cX12_nextToken 209 = .ok (.dup, 1) := by decide +kernel
theorem dX12_nextToken_210 : decode cX12_nextToken 210 = .ok (.getfield 75, 3) := by decide +kernel
theorem dX12_nextToken_213 : decode cX12_nextToken 213 = .ok (.iconst 1, 1) := by decide +kernel
theorem dX12_nextToken_214 : decode cX12_nextToken 214 = .ok (.iadd, 1) := by decide +kernel
theorem dX12_nextToken_215 : decode cX12_nextToken 215 = .ok (.putfield 75, 3) := by decide +kernel
theorem dX12_nextToken_218 : decode cX12_nextToken 218 = .ok (.return_, 1) := by decide +kernel
theorem dX12_fails_0 : decode cX12_fails 0 = .ok (.aload_n 0, 1) := by decide +kernel
theorem dX12_fails_1 : decode cX12_fails 1 = .ok (.iload_n 1, 1) := by decide +kernel
theorem dX12_fails_2 : decode cX12_fails 2 = .ok (.putfield 87, 3) := by decide +kernel
theorem dX12_fails_5 : decode cX12_fails 5 = .ok (.iconst 0, 1) := by decide +kernel
theorem dX12_fails_6 : decode cX12_fails 6 = .ok (.ireturn, 1) := by decide +kernel
set_option maxRecDepth 20000 in
theorem ggX12_isNext_X12_nextToken : GoodIn wsX12_isNext wsX12_nextToken := goodIn_r _ [7, 8, 9, 2, 10, 1, 11, 12, 13, 6, 14, 20, 21, 22, 23, 24, 25, 26, 27, 28, 29, 30, 31, 32, 33, 34, 35, 36, 37, 38, 39, 40, 41, 42, 43, 44, 45, 46] (by decide +kernel) (by decide +kernel)
set_option maxRecDepth 20000 in
theorem gX12_isNext_X12_nextToken : GoodIn wsX12_isNext (wsV RX12 90 RX12 yX12_nextToken wsX12_nextToken) := goodIn_app (goodIn_of _ (by decide +kernel)) ggX12_isNext_X12_nextToken
set_option maxRecDepth 20000 in
theorem ggX12_isNext_X12_fails : GoodIn wsX12_isNext wsX12_fails := goodIn_r _ [18, 19, 20, 21, 22, 23, 24, 25, 26, 27, 28, 29, 30, 31, 32, 33, 34, 35, 36, 37, 38, 39, 40, 41, 42, 43, 44, 45, 46] (by decide +kernel) (by decide +kernel)
set_option maxRecDepth 20000 in
theorem gX12_isNext_X12_fails : GoodIn wsX12_isNext (wsV RX12 93 RX12 yX12_fails wsX12_fails) := goodIn_app (goodIn_of _ (by decide +kernel)) ggX12_isNext_X12_fails
set_option maxRecDepth 20000 in
theorem ggX12_isNext_X12_in : GoodIn wsX12_isNext wsX12_in := goodIn_r _ [14] (by decide +kernel) (by decide +kernel)
set_option maxRecDepth 20000 in
theorem gX12_isNext_X12_in : GoodIn wsX12_isNext (va_wsS RX12 52 yX12_in wsX12_in) := goodIn_app (goodIn_of _ (by decide +kernel)) ggX12_isNext_X12_in
theorem dX12_isNext_0 : decode cX12_isNext 0 = .ok (.aload_n 0, 1) := by decide +kernel
theorem dX12_isNext_1 : decode cX12_isNext 1 = .ok (.invokevirtual 90, 3) := by decide +kernel
theorem dX12_isNext_4 : decode cX12_isNext 4 = .ok (.aload_n 0, 1) := by decide +kernel
theorem dX12_isNext_5 : decode cX12_isNext 5 = .ok (.getfield 84, 3) := by decide +kernel
theorem dX12_isNext_8 : decode cX12_isNext 8 = .ok (.iconst (-1), 1) := by decide +kernel
theorem dX12_isNext_9 : decode cX12_isNext 9 = .ok (.if_icmp .eq 9, 3) := by decide +kernel
theorem dX12_isNext_12 : decode cX12_isNext 12 = .ok (.aload_n 0, 1) := by decide +kernel
theorem dX12_isNext_13 : decode cX12_isNext 13 = .ok (.iconst 1, 1) := by decide +kernel
theorem dX12_isNext_14 : decode cX12_isNext 14 = .ok (.invokevirtual 93, 3) := by decide +kernel
theorem dX12_isNext_17 : decode cX12_isNext 17 = .ok (.ireturn, 1) := by decide +kernel
theorem dX12_isNext_18 : decode cX12_isNext 18 = .ok (.aload_n 0, 1) := by decide +kernel
theorem dX12_isNext_19 : decode cX12_isNext 19 = .ok (.getfield 81, 3) := by decide +kernel
theorem dX12_isNext_22 : decode cX12_isNext 22 = .ok (.iload_n 1, 1) := by decide +kernel
theorem dX12_isNext_23 : decode cX12_isNext 23 = .ok (.iload_n 2, 1) := by decide +kernel
theorem dX12_isNext_24 : decode cX12_isNext 24 = .ok (.invokestatic 52, 3) := by decide +kernel
theorem dX12_isNext_27 : decode cX12_isNext 27 = .ok (.ifCond .ne 11, 3) := by decide +kernel
theorem dX12_isNext_30 : decode cX12_isNext 30 = .ok (.aload_n 0, 1) := by decide +kernel
theorem dX12_isNext_31 : decode cX12_isNext 31 = .ok (.iconst 2, 1) := by decide +kernel
theorem dX12_isNext_32 : decode cX12_isNext 32 = .ok (.invokevirtual 93, 3) := by decide +kernel
theorem dX12_isNext_35 : decode cX12_isNext 35 = .ok (.ifCond .eq 7, 3) := by decide +kernel
theorem dX12_isNext_38 : decode cX12_isNext 38 = .ok (.iconst 1, 1) := by decide +kernel
theorem dX12_isNext_39 : decode cX12_isNext 39 = .ok (.goto 4, 3) := by decide +kernel
theorem dX12_isNext_42 : decode cX12_isNext 42 = .ok (.iconst 0, 1) := by decide +kernel
theorem dX12_isNext_43 : decode cX12_isNext 43 = .ok (.ireturn, 1) := by decide +kernel
set_option maxRecDepth 20000 in
theorem ggX12_isSign_X12_nextToken : GoodIn wsX12_isSign wsX12_nextToken := goodIn_r _ [6, 7, 8, 9, 10, 1, 11, 12, 13, 5, 14, 20, 21, 22, 23, 24, 25, 26, 27, 28, 29, 30, 31, 32, 33, 34, 35, 36, 37, 38, 39, 40, 41, 42, 43, 44, 45, 46] (by decide +kernel) (by decide +kernel)
set_option maxRecDepth 20000 in
theorem gX12_isSign_X12_nextToken : GoodIn wsX12_isSign (wsV RX12 90 RX12 yX12_nextToken wsX12_nextToken) := goodIn_app (goodIn_of _ (by decide +kernel)) ggX12_isSign_X12_nextToken
set_option maxRecDepth 20000 in
theorem ggX12_isSign_X12_fails : GoodIn wsX12_isSign wsX12_fails := goodIn_r _ [18, 19, 20, 21, 22, 23, 24, 25, 26, 27, 28, 29, 30, 31, 32, 33, 34, 35, 36, 37, 38, 39, 40, 41, 42, 43, 44, 45, 46] (by decide +kernel) (by decide +kernel)
set_option maxRecDepth 20000 in
theorem gX12_isSign_X12_fails : GoodIn wsX12_isSign (wsV RX12 93 RX12 yX12_fails wsX12_fails) := goodIn_app (goodIn_of _ (by decide +kernel)) ggX12_isSign_X12_fails
theorem dX12_isSign_0 : decode cX12_isSign 0 = .ok (.aload_n 0, 1) := by decide +kernel
theorem dX12_isSign_1 : decode cX12_isSign 1 = .ok (.invokevirtual 90, 3) := by decide +kernel
theorem dX12_isSign_4 : decode cX12_isSign 4 = .ok (.aload_n 0, 1) := by decide +kernel
theorem dX12_isSign_5 : decode cX12_isSign 5 = .ok (.getfield 84, 3) := by decide +kernel
theorem dX12_isSign_8 : decode cX12_isSign 8 = .ok (.iload_n 1, 1) := by decide +kernel
theorem dX12_isSign_9 : decode cX12_isSign 9 = .ok (.if_icmp .eq 11, 3) := by decide +kernel
theorem dX12_isSign_12 : decode cX12_isSign 12 = .ok (.aload_n 0, 1) := by decide +kernel
theorem dX12_isSign_13 : decode cX12_isSign 13 = .ok (.iconst 1, 1) := by decide +kernel
theorem dX12_isSign_14 : decode cX12_isSign 14 = .ok (.invokevirtual 93, 3) := by decide +kernel
theorem dX12_isSign_17 : decode cX12_isSign 17 = .ok (.ifCond .eq 7, 3) := by decide +kernel
theorem dX12_isSign_20 : decode cX12_isSign 20 = .ok (.iconst 1, 1) := by decide +kernel
theorem dX12_isSign_21 : decode cX12_isSign 21 = .ok (.goto 4, 3) := by decide +kernel
theorem dX12_isSign_24 : decode cX12_isSign 24 = .ok (.iconst 0, 1) := by decide +kernel
theorem dX12_isSign_25 : decode cX12_isSign 25 = .ok (.ireturn, 1) := by decide +kernel
set_option maxRecDepth 20000 in
theorem ggX12_isLaw_X12_nextToken : GoodIn wsX12_isLaw wsX12_nextToken := goodIn_r _ [10, 11, 12, 2, 13, 1, 14, 15, 16, 9, 17, 31, 32, 33, 34, 35, 36, 37, 38, 39, 40, 41, 42, 43, 44, 45, 46, 47, 48, 49, 50, 51, 52, 53, 54, 55, 56, 57] (by decide +kernel) (by decide +kernel)
set_option maxRecDepth 20000 in
theorem gX12_isLaw_X12_nextToken : GoodIn wsX12_isLaw (wsV RX12 90 RX12 yX12_nextToken wsX12_nextToken) := goodIn_app (goodIn_of _ (by decide +kernel)) ggX12_isLaw_X12_nextToken
set_option maxRecDepth 20000 in
theorem ggX12_isLaw_X12_fails : GoodIn wsX12_isLaw wsX12_fails := goodIn_r _ [21, 22, 31, 32, 33, 34, 35, 36, 37, 38, 39, 40, 41, 42, 43, 44, 45, 46, 47, 48, 49, 50, 51, 52, 53, 54, 55, 56, 57] (by decide +kernel) (by decide +kernel)
set_option maxRecDepth 20000 in
theorem gX12_isLaw_X12_fails : GoodIn wsX12_isLaw (wsV RX12 93 RX12 yX12_fails wsX12_fails) := goodIn_app (goodIn_of _ (by decide +kernel)) ggX12_isLaw_X12_fails
set_option maxRecDepth 20000 in
theorem ggX12_isLaw_X12_isNext : GoodIn wsX12_isLaw wsX12_isNext := goodIn_r _ [26, 1, 2, 6, 7, 8, 9, 10, 11, 12, 13, 14, 15, 16, 17, 18, 19, 20, 21, 22, 31, 32, 33, 34, 35, 36, 37, 38, 39, 40, 41, 42, 43, 44, 45, 46, 47, 48, 49, 50, 51, 52, 53, 54, 55, 56, 57] (by decide +kernel) (by decide +kernel)
set_option maxRecDepth 20000 in
theorem gX12_isLaw_X12_isNext : GoodIn wsX12_isLaw (wsV RX12 96 RX12 yX12_isNext wsX12_isNext) := goodIn_app (goodIn_of _ (by decide +kernel)) ggX12_isLaw_X12_isNext
set_option maxRecDepth 20000 in
theorem ggX12_isLaw_X12_isSign : GoodIn wsX12_isLaw wsX12_isSign := goodIn_r _ [30, 1, 6, 7, 8, 9, 10, 11, 12, 2, 13, 14, 15, 16, 17, 18, 19, 20, 21, 22, 31, 32, 33, 34, 35, 36, 37, 38, 39, 40, 41, 42, 43, 44, 45, 46, 47, 48, 49, 50, 51, 52, 53, 54, 55, 56, 57] (by decide +kernel) (by decide +kernel)
set_option maxRecDepth 20000 in
theorem gX12_isLaw_X12_isSign : GoodIn wsX12_isLaw (wsV RX12 103 RX12 yX12_isSign wsX12_isSign) := goodIn_app (goodIn_of _ (by decide +kernel)) ggX12_isLaw_X12_isSign
theorem dX12_isLaw_0 : decode cX12_isLaw 0 = .ok (.aload_n 0, 1) := by decide +kernel
theorem dX12_isLaw_1 : decode cX12_isLaw 1 = .ok (.invokevirtual 90, 3) := by decide +kernel
theorem dX12_isLaw_4 : decode cX12_isLaw 4 = .ok (.aload_n 0, 1) := by decide +kernel
theorem dX12_isLaw_5 : decode cX12_isLaw 5 = .ok (.getfield 84, 3) := by decide +kernel
theorem dX12_isLaw_8 : decode cX12_isLaw 8 = .ok (.bipush 104, 2) := by decide +kernel
theorem dX12_isLaw_10 : decode cX12_isLaw 10 = .ok (.if_icmp .eq 9, 3) := by decide +kernel
theorem dX12_isLaw_13 : decode cX12_isLaw 13 = .ok (.aload_n 0, 1) := by decide +kernel
theorem dX12_isLaw_14 : decode cX12_isLaw 14 = .ok (.iconst 1, 1) := by decide +kernel
theorem dX12_isLaw_15 : decode cX12_isLaw 15 = .ok (.invokevirtual 93, 3) := by decide +kernel
theorem dX12_isLaw_18 : decode cX12_isLaw 18 = .ok (.ireturn, 1) := by decide +kernel
theorem dX12_isLaw_19 : decode cX12_isLaw 19 = .ok (.aload_n 0, 1) := by decide +kernel
theorem dX12_isLaw_20 : decode cX12_isLaw 20 = .ok (.iconst 2, 1) := by decide +kernel
theorem dX12_isLaw_21 : decode cX12_isLaw 21 = .ok (.bipush 6, 2) := by decide +kernel
theorem dX12_isLaw_23 : decode cX12_isLaw 23 = .ok (.invokevirtual 96, 3) := by decide +kernel
theorem dX12_isLaw_26 : decode cX12_isLaw 26 = .ok (.ifCond .ne 5, 3) := by decide +kernel
theorem dX12_isLaw_29 : decode cX12_isLaw 29 = .ok (.iconst 0, 1) := by decide +kernel
theorem dX12_isLaw_30 : decode cX12_isLaw 30 = .ok (.ireturn, 1) := by decide +kernel
theorem dX12_isLaw_31 : decode cX12_isLaw 31 = .ok (.aload_n 0, 1) := by decide +kernel
theorem dX12_isLaw_32 : decode cX12_isLaw 32 = .ok (.aload_n 0, 1) := by decide +kernel
theorem dX12_isLaw_33 : decode cX12_isLaw 33 = .ok (.getfield 81, 3) := by decide +kernel
theorem dX12_isLaw_36 : decode cX12_isLaw 36 = .ok (.putfield 100, 3) := by decide +kernel
theorem dX12_isLaw_39 : decode cX12_isLaw 39 = .ok (.aload_n 0, 1) := by decide +kernel
theorem dX12_isLaw_40 : decode cX12_isLaw 40 = .ok (.bipush 44, 2) := by decide +kernel
theorem dX12_isLaw_42 : decode cX12_isLaw 42 = .ok (.invokevirtual 103, 3) := by decide +kernel
theorem dX12_isLaw_45 : decode cX12_isLaw 45 = .ok (.ifCond .eq 12, 3) := by decide +kernel
theorem dX12_isLaw_48 : decode cX12_isLaw 48 = .ok (.aload_n 0, 1) := by decide +kernel
theorem dX12_isLaw_49 : decode cX12_isLaw 49 = .ok (.iconst 1, 1) := by decide +kernel
theorem dX12_isLaw_50 : decode cX12_isLaw 50 = .ok (.iconst 5, 1) := by decide +kernel
theorem dX12_isLaw_51 : decode cX12_isLaw 51 = .ok (.invokevirtual 96, 3) := by decide +kernel
theorem dX12_isLaw_54 : decode cX12_isLaw 54 = .ok (.ifCond .ne 5, 3) := by decide +kernel
theorem dX12_isLaw_57 : decode cX12_isLaw 57 = .ok (.iconst 0, 1) := by decide +kernel
theorem dX12_isLaw_58 : decode cX12_isLaw 58 = .ok (.ireturn, 1) := by decide +kernel
theorem dX12_isLaw_59 : decode cX12_isLaw 59 = .ok (.aload_n 0, 1) := by decide +kernel
theorem dX12_isLaw_60 : decode cX12_isLaw 60 = .ok (.aload_n 0, 1) := by decide +kernel
theorem dX12_isLaw_61 : decode cX12_isLaw 61 = .ok (.getfield 81, 3) := by decide +kernel
theorem dX12_isLaw_64 : decode cX12_isLaw 64 = .ok (.putfield 106, 3) := by decide +kernel
theorem dX12_isLaw_67 : decode cX12_isLaw 67 = .ok (.aload_n 0, 1) := by decide +kernel
theorem dX12_isLaw_68 : decode cX12_isLaw 68 = .ok (.bipush 44, 2) := by decide +kernel
theorem dX12_isLaw_70 : decode cX12_isLaw 70 = .ok (.invokevirtual 103, 3) := by decide +kernel
theorem dX12_isLaw_73 : decode cX12_isLaw 73 = .ok (.ifCond .eq 13, 3) := by decide +kernel
theorem dX12_isLaw_76 : decode cX12_isLaw 76 = .ok (.aload_n 0, 1) := by decide +kernel
theorem dX12_isLaw_77 : decode cX12_isLaw 77 = .ok (.iconst 0, 1) := by decide +kernel
theorem dX12_isLaw_78 : decode cX12_isLaw 78 = .ok (.bipush 20, 2) := by decide +kernel
theorem dX12_isLaw_80 : decode cX12_isLaw 80 = .ok (.invokevirtual 96, 3) := by decide +kernel
theorem dX12_isLaw_83 : decode cX12_isLaw 83 = .ok (.ifCond .ne 5, 3) := by decide +kernel
theorem dX12_isLaw_86 : decode cX12_isLaw 86 = .ok (.iconst 0, 1) := by decide +kernel
theorem dX12_isLaw_87 : decode cX12_isLaw 87 = .ok (.ireturn, 1) := by decide +kernel
theorem dX12_isLaw_88 : decode cX12_isLaw 88 = .ok (.aload_n 0, 1) := by decide +kernel
theorem dX12_isLaw_89 : decode cX12_isLaw 89 = .ok (.aload_n 0, 1) := by decide +kernel
theorem dX12_isLaw_90 : decode cX12_isLaw 90 = .ok (.getfield 81, 3) := by decide +kernel
theorem dX12_isLaw_93 : decode cX12_isLaw 93 = .ok (.putfield 109, 3) := by decide +kernel
theorem dX12_isLaw_96 : decode cX12_isLaw 96 = .ok (.aload_n 0, 1) := by decide +kernel
theorem dX12_isLaw_97 : decode cX12_isLaw 97 = .ok (.bipush 59, 2) := by decide +kernel
theorem dX12_isLaw_99 : decode cX12_isLaw 99 = .ok (.invokevirtual 103, 3) := by decide +kernel
theorem dX12_isLaw_102 : decode cX12_isLaw 102 = .ok (.ireturn, 1) := by decide +kernel
set_option maxRecDepth 20000 in
theorem ggX12_isWall_X12_fails : GoodIn wsX12_isWall wsX12_fails := goodIn_r _ [9, 10, 31, 32, 33, 34, 35, 36, 37, 38, 39, 40, 41, 42, 43, 44, 45, 46, 47, 48, 49, 50, 51, 52, 53, 54, 55, 56, 57] (by decide +kernel) (by decide +kernel)
set_option maxRecDepth 20000 in
theorem gX12_isWall_X12_fails : GoodIn wsX12_isWall (wsV RX12 93 RX12 yX12_fails wsX12_fails) := goodIn_app (goodIn_of _ (by decide +kernel)) ggX12_isWall_X12_fails
set_option maxRecDepth 20000 in
theorem ggX12_isWall_X12_isNext : GoodIn wsX12_isWall wsX12_isNext := goodIn_r _ [14, 15, 4, 16, 17, 18, 8, 19, 20, 21, 22, 23, 24, 25, 26, 5, 6, 7, 9, 10, 31, 32, 33, 34, 35, 36, 37, 38, 39, 40, 41, 42, 43, 44, 45, 46, 47, 48, 49, 50, 51, 52, 53, 54, 55, 56, 57] (by decide +kernel) (by decide +kernel)
set_option maxRecDepth 20000 in
theorem gX12_isWall_X12_isNext : GoodIn wsX12_isWall (wsV RX12 96 RX12 yX12_isNext wsX12_isNext) := goodIn_app (goodIn_of _ (by decide +kernel)) ggX12_isWall_X12_isNext
set_option maxRecDepth 20000 in
theorem ggX12_isWall_X12_isSign : GoodIn wsX12_isWall wsX12_isSign := goodIn_r _ [30, 15, 16, 17, 18, 8, 19, 20, 21, 4, 22, 23, 24, 25, 26, 5, 6, 7, 9, 10, 31, 32, 33, 34, 35, 36, 37, 38, 39, 40, 41, 42, 43, 44, 45, 46, 47, 48, 49, 50, 51, 52, 53, 54, 55, 56, 57] (by decide +kernel) (by decide +kernel)
set_option maxRecDepth 20000 in
theorem gX12_isWall_X12_isSign : GoodIn wsX12_isWall (wsV RX12 103 RX12 yX12_isSign wsX12_isSign) := goodIn_app (goodIn_of _ (by decide +kernel)) ggX12_isWall_X12_isSign
theorem dX12_isWall_0 : decode cX12_isWall 0 = .ok (.aload_n 0, 1) := by decide +kernel
theorem dX12_isWall_1 : decode cX12_isWall 1 = .ok (.getfield 112, 3) := by decide +kernel
theorem dX12_isWall_4 : decode cX12_isWall 4 = .ok (.bipush 9, 2) := by decide +kernel
theorem dX12_isWall_6 : decode cX12_isWall 6 = .ok (.if_icmp .ne 9, 3) := by decide +kernel
theorem dX12_isWall_9 : decode cX12_isWall 9 = .ok (.aload_n 0, 1) := by decide +kernel
theorem dX12_isWall_10 : decode cX12_isWall 10 = .ok (.iconst 3, 1) := by decide +kernel
theorem dX12_isWall_11 : decode cX12_isWall 11 = .ok (.invokevirtual 93, 3) := by decide +kernel
theorem dX12_isWall_14 : decode cX12_isWall 14 = .ok (.ireturn, 1) := by decide +kernel
theorem dX12_isWall_15 : decode cX12_isWall 15 = .ok (.aload_n 0, 1) := by decide +kernel
theorem dX12_isWall_16 : decode cX12_isWall 16 = .ok (.iconst 0, 1) := by decide +kernel
theorem dX12_isWall_17 : decode cX12_isWall 17 = .ok (.aload_n 0, 1) := by decide +kernel
theorem dX12_isWall_18 : decode cX12_isWall 18 = .ok (.getfield 100, 3) := by decide +kernel
theorem dX12_isWall_21 : decode cX12_isWall 21 = .ok (.iconst 1, 1) := by decide +kernel
theorem dX12_isWall_22 : decode cX12_isWall 22 = .ok (.isub, 1) := by decide +kernel
theorem dX12_isWall_23 : decode cX12_isWall 23 = .ok (.invokevirtual 96, 3) := by decide +kernel
theorem dX12_isWall_26 : decode cX12_isWall 26 = .ok (.ifCond .ne 5, 3) := by decide +kernel
theorem dX12_isWall_29 : decode cX12_isWall 29 = .ok (.iconst 0, 1) := by decide +kernel
theorem dX12_isWall_30 : decode cX12_isWall 30 = .ok (.ireturn, 1) := by decide +kernel
theorem dX12_isWall_31 : decode cX12_isWall 31 = .ok (.aload_n 0, 1) := by decide +kernel
theorem dX12_isWall_32 : decode cX12_isWall 32 = .ok (.getfield 22, 3) := by decide +kernel
theorem dX12_isWall_35 : decode cX12_isWall 35 = .ok (.iconst 2, 1) := by decide +kernel
theorem dX12_isWall_36 : decode cX12_isWall 36 = .ok (.aload_n 0, 1) := by decide +kernel
theorem dX12_isWall_37 : decode cX12_isWall 37 = .ok (.getfield 112, 3) := by decide +kernel
theorem dX12_isWall_40 : decode cX12_isWall 40 = .ok (.imul, 1) := by decide +kernel
theorem dX12_isWall_41 : decode cX12_isWall 41 = .ok (.aload_n 0, 1) := by decide +kernel
theorem dX12_isWall_42 : decode cX12_isWall 42 = .ok (.getfield 81, 3) := by decide +kernel
theorem dX12_isWall_45 : decode cX12_isWall 45 = .ok (.iastore, 1) := by decide +kernel
theorem dX12_isWall_46 : decode cX12_isWall 46 = .ok (.aload_n 0, 1) := by decide +kernel
theorem dX12_isWall_47 : decode cX12_isWall 47 = .ok (.bipush 44, 2) := by decide +kernel
theorem dX12_isWall_49 : decode cX12_isWall 49 = .ok (.invokevirtual 103, 3) := by decide +kernel
theorem dX12_isWall_52 : decode cX12_isWall 52 = .ok (.ifCond .eq 17, 3) := by decide +kernel
theorem dX12_isWall_55 : decode cX12_isWall 55 = .ok (.aload_n 0, 1) := by decide +kernel
theorem dX12_isWall_56 : decode cX12_isWall 56 = .ok (.iconst 0, 1) := by decide +kernel
theorem dX12_isWall_57 : decode cX12_isWall 57 = .ok (.aload_n 0, 1) := by decide +kernel
theorem dX12_isWall_58 : decode cX12_isWall 58 = .ok (.getfield 100, 3) := by decide +kernel
theorem dX12_isWall_61 : decode cX12_isWall 61 = .ok (.iconst 1, 1) := by decide +kernel
theorem dX12_isWall_62 : decode cX12_isWall 62 = .ok (.isub, 1) := by decide +kernel
theorem dX12_isWall_63 : decode cX12_isWall 63 = .ok (.invokevirtual 96, 3) := by decide +kernel
theorem dX12_isWall_66 : decode cX12_isWall 66 = .ok (.ifCond .ne 5, 3) := by decide +kernel
theorem dX12_isWall_69 : decode cX12_isWall 69 = .ok (.iconst 0, 1) := by decide +kernel
theorem dX12_isWall_70 : decode cX12_isWall 70 = .ok (.ireturn, 1) := by decide +kernel
theorem dX12_isWall_71 : decode cX12_isWall 71 = .ok (.aload_n 0, 1) := by decide +kernel
theorem dX12_isWall_72 : decode cX12_isWall 72 = .ok (.getfield 81, 3) := by decide +kernel
theorem dX12_isWall_75 : decode cX12_isWall 75 = .ok (.aload_n 0, 1) := by decide +kernel
theorem dX12_isWall_76 : decode cX12_isWall 76 = .ok (.getfield 22, 3) := by decide +kernel
theorem dX12_isWall_79 : decode cX12_isWall 79 = .ok (.iconst 2, 1) := by decide +kernel
theorem dX12_isWall_80 : decode cX12_isWall 80 = .ok (.aload_n 0, 1) := by decide +kernel
theorem dX12_isWall_81 : decode cX12_isWall 81 = .ok (.getfield 112, 3) := by decide +kernel
theorem dX12_isWall_84 : decode cX12_isWall 84 = .ok (.imul, 1) := by decide +kernel
theorem dX12_isWall_85 : decode cX12_isWall 85 = .ok (.iaload, 1) := by decide +kernel
theorem dX12_isWall_86 : decode cX12_isWall 86 = .ok (.if_icmp .ne 9, 3) := by decide +kernel
theorem dX12_isWall_89 : decode cX12_isWall 89 = .ok (.aload_n 0, 1) := by decide +kernel
theorem dX12_isWall_90 : decode cX12_isWall 90 = .ok (.iconst 2, 1) := by decide +kernel
theorem dX12_isWall_91 : decode cX12_isWall 91 = .ok (.invokevirtual 93, 3) := by decide +kernel
theorem dX12_isWall_94 : decode cX12_isWall 94 = .ok (.ireturn, 1) := by decide +kernel
theorem dX12_isWall_95 : decode cX12_isWall 95 = .ok (.aload_n 0, 1) := by decide +kernel
theorem dX12_isWall_96 : decode cX12_isWall 96 = .ok (.getfield 22, 3) := by decide +kernel
theorem dX12_isWall_99 : decode cX12_isWall 99 = .ok (.iconst 2, 1) := by decide +kernel
theorem dX12_isWall_100 : decode cX12_isWall 100 = .ok (.aload_n 0, 1) := by decide +kernel
theorem dX12_isWall_101 : decode cX12_isWall 101 = .ok (.getfield 112, 3) := by decide +kernel
theorem dX12_isWall_104 : decode cX12_isWall 104 = .ok (.imul, 1) := by decide +kernel
theorem dX12_isWall_105 : decode cX12_isWall 105 = .ok (.iconst 1, 1) := by decide +kernel
theorem dX12_isWall_106 : decode cX12_isWall 106 = .ok (.iadd, 1) := by decide +kernel
theorem dX12_isWall_107 : decode cX12_isWall 107 = .ok (.aload_n 0, 1) := by decide +kernel
theorem dX12_isWall_108 : decode cX12_isWall 108 = .ok (.getfield 81, 3) := by decide +kernel
theorem dX12_isWall_111 : decode cX12_isWall 111 = .ok (.iastore, 1) := by decide +kernel
theorem dX12_isWall_112 : decode cX12_isWall 112 = .ok (.aload_n 0, 1) := by decide +kernel
theorem dX12_isWall_113 : decode cX12_isWall 113 = .ok (.dup, 1) := by decide +kernel
theorem dX12_isWall_114 : decode cX12_isWall 114 = .ok (.getfield 112, 3) := by decide +kernel
theorem dX12_isWall_117 : decode cX12_isWall 117 = .ok (.iconst 1, 1) := by decide +kernel
theorem dX12_isWall_118 : decode cX12_isWall 118 = .ok (.iadd, 1) := by decide +kernel
theorem dX12_isWall_119 : decode cX12_isWall 119 = .ok (.putfield 112, 3) := by decide +kernel
theorem dX12_isWall_122 : decode cX12_isWall 122 = .ok (.aload_n 0, 1) := by decide +kernel
theorem dX12_isWall_123 : decode cX12_isWall 123 = .ok (.bipush 59, 2) := by decide +kernel
theorem dX12_isWall_125 : decode cX12_isWall 125 = .ok (.invokevirtual 103, 3) := by decide +kernel
theorem dX12_isWall_128 : decode cX12_isWall 128 = .ok (.ireturn, 1) := by decide +kernel
set_option maxRecDepth 20000 in
theorem ggX12_isPerson_X12_fails : GoodIn wsX12_isPerson wsX12_fails := goodIn_r _ [9, 10, 31, 32, 33, 34, 35, 36, 37, 38, 39, 40, 41, 42, 43, 44, 45, 46, 47, 48, 49, 50, 51, 52, 53, 54, 55, 56, 57] (by decide +kernel) (by decide +kernel)
set_option maxRecDepth 20000 in
theorem gX12_isPerson_X12_fails : GoodIn wsX12_isPerson (wsV RX12 93 RX12 yX12_fails wsX12_fails) := goodIn_app (goodIn_of _ (by decide +kernel)) ggX12_isPerson_X12_fails
set_option maxRecDepth 20000 in
theorem ggX12_isPerson_X12_isNext : GoodIn wsX12_isPerson wsX12_isNext := goodIn_r _ [14, 15, 4, 16, 17, 18, 8, 19, 20, 21, 22, 23, 24, 25, 26, 5, 6, 7, 9, 10, 31, 32, 33, 34, 35, 36, 37, 38, 39, 40, 41, 42, 43, 44, 45, 46, 47, 48, 49, 50, 51, 52, 53, 54, 55, 56, 57] (by decide +kernel) (by decide +kernel)
set_option maxRecDepth 20000 in
theorem gX12_isPerson_X12_isNext : GoodIn wsX12_isPerson (wsV RX12 96 RX12 yX12_isNext wsX12_isNext) := goodIn_app (goodIn_of _ (by decide +kernel)) ggX12_isPerson_X12_isNext
set_option maxRecDepth 20000 in
theorem ggX12_isPerson_X12_isSign : GoodIn wsX12_isPerson wsX12_isSign := goodIn_r _ [30, 15, 16, 17, 18, 8, 19, 20, 21, 4, 22, 23, 24, 25, 26, 5, 6, 7, 9, 10, 31, 32, 33, 34, 35, 36, 37, 38, 39, 40, 41, 42, 43, 44, 45, 46, 47, 48, 49, 50, 51, 52, 53, 54, 55, 56, 57] (by decide +kernel) (by decide +kernel)
set_option maxRecDepth 20000 in
theorem gX12_isPerson_X12_isSign : GoodIn wsX12_isPerson (wsV RX12 103 RX12 yX12_isSign wsX12_isSign) := goodIn_app (goodIn_of _ (by decide +kernel)) ggX12_isPerson_X12_isSign
theorem dX12_isPerson_0 : decode cX12_isPerson 0 = .ok (.aload_n 0, 1) := by decide +kernel
theorem dX12_isPerson_1 : decode cX12_isPerson 1 = .ok (.getfield 115, 3) := by decide +kernel
theorem dX12_isPerson_4 : decode cX12_isPerson 4 = .ok (.iconst 4, 1) := by decide +kernel
theorem dX12_isPerson_5 : decode cX12_isPerson 5 = .ok (.if_icmp .ne 9, 3) := by decide +kernel
theorem dX12_isPerson_8 : decode cX12_isPerson 8 = .ok (.aload_n 0, 1) := by decide +kernel
theorem dX12_isPerson_9 : decode cX12_isPerson 9 = .ok (.iconst 3, 1) := by decide +kernel
theorem dX12_isPerson_10 : decode cX12_isPerson 10 = .ok (.invokevirtual 93, 3) := by decide +kernel
theorem dX12_isPerson_13 : decode cX12_isPerson 13 = .ok (.ireturn, 1) := by decide +kernel
theorem dX12_isPerson_14 : decode cX12_isPerson 14 = .ok (.iconst 0, 1) := by decide +kernel
theorem dX12_isPerson_15 : decode cX12_isPerson 15 = .ok (.istore_n 1, 1) := by decide +kernel
theorem dX12_isPerson_16 : decode cX12_isPerson 16 = .ok (.iload_n 1, 1) := by decide +kernel
theorem dX12_isPerson_17 : decode cX12_isPerson 17 = .ok (.bipush 8, 2) := by decide +kernel
theorem dX12_isPerson_19 : decode cX12_isPerson 19 = .ok (.if_icmp .ge 65, 3) := by decide +kernel
theorem dX12_isPerson_22 : decode cX12_isPerson 22 = .ok (.aload_n 0, 1) := by decide +kernel
theorem dX12_isPerson_23 : decode cX12_isPerson 23 = .ok (.iconst 0, 1) := by decide +kernel
theorem dX12_isPerson_24 : decode cX12_isPerson 24 = .ok (.aload_n 0, 1) := by decide +kernel
theorem dX12_isPerson_25 : decode cX12_isPerson 25 = .ok (.getfield 100, 3) := by decide +kernel
theorem dX12_isPerson_28 : decode cX12_isPerson 28 = .ok (.iconst 1, 1) := by decide +kernel
theorem dX12_isPerson_29 : decode cX12_isPerson 29 = .ok (.isub, 1) := by decide +kernel
theorem dX12_isPerson_30 : decode cX12_isPerson 30 = .ok (.invokevirtual 96, 3) := by decide +kernel
theorem dX12_isPerson_33 : decode cX12_isPerson 33 = .ok (.ifCond .ne 5, 3) := by decide +kernel
theorem dX12_isPerson_36 : decode cX12_isPerson 36 = .ok (.iconst 0, 1) := by decide +kernel
theorem dX12_isPerson_37 : decode cX12_isPerson 37 = .ok (.ireturn, 1) := by decide +kernel
theorem dX12_isPerson_38 : decode cX12_isPerson 38 = .ok (.aload_n 0, 1) := by decide +kernel
theorem dX12_isPerson_39 : decode cX12_isPerson 39 = .ok (.getfield 25, 3) := by decide +kernel
theorem dX12_isPerson_42 : decode cX12_isPerson 42 = .ok (.bipush 8, 2) := by decide +kernel
theorem dX12_isPerson_44 : decode cX12_isPerson 44 = .ok (.aload_n 0, 1) := by decide +kernel
theorem dX12_isPerson_45 : decode cX12_isPerson 45 = .ok (.getfield 115, 3) := by decide +kernel
theorem dX12_isPerson_48 : decode cX12_isPerson 48 = .ok (.imul, 1) := by decide +kernel
theorem dX12_isPerson_49 : decode cX12_isPerson 49 = .ok (.iload_n 1, 1) := by decide +kernel
theorem dX12_isPerson_50 : decode cX12_isPerson 50 = .ok (.iadd, 1) := by decide +kernel
theorem dX12_isPerson_51 : decode cX12_isPerson 51 = .ok (.aload_n 0, 1) := by decide +kernel
theorem dX12_isPerson_52 : decode cX12_isPerson 52 = .ok (.getfield 81, 3) := by decide +kernel
theorem dX12_isPerson_55 : decode cX12_isPerson 55 = .ok (.iastore, 1) := by decide +kernel
theorem dX12_isPerson_56 : decode cX12_isPerson 56 = .ok (.aload_n 0, 1) := by decide +kernel
theorem dX12_isPerson_57 : decode cX12_isPerson 57 = .ok (.iload_n 1, 1) := by decide +kernel
theorem dX12_isPerson_58 : decode cX12_isPerson 58 = .ok (.bipush 7, 2) := by decide +kernel
theorem dX12_isPerson_60 : decode cX12_isPerson 60 = .ok (.if_icmp .ge 8, 3) := by decide +kernel
theorem dX12_isPerson_63 : decode cX12_isPerson 63 = .ok (.bipush 44, 2) := by decide +kernel
theorem dX12_isPerson_65 : decode cX12_isPerson 65 = .ok (.goto 5, 3) := by decide +kernel
theorem dX12_isPerson_68 : decode cX12_isPerson 68 = .ok (.bipush 59, 2) := by decide +kernel
theorem dX12_isPerson_70 : decode cX12_isPerson 70 = .ok (.invokevirtual 103, 3) := by decide +kernel
theorem dX12_isPerson_73 : decode cX12_isPerson 73 = .ok (.ifCond .ne 5, 3) := by decide +kernel
theorem dX12_isPerson_76 : decode cX12_isPerson 76 = .ok (.iconst 0, 1) := by decide +kernel
theorem dX12_isPerson_77 : decode cX12_isPerson 77 = .ok (.ireturn, 1) := by decide +kernel
theorem dX12_isPerson_78 : decode cX12_isPerson 78 = .ok (.iinc 1 1, 3) := by decide +kernel
theorem dX12_isPerson_81 : decode cX12_isPerson 81 = .ok (.goto (-65), 3) := by decide +kernel
theorem dX12_isPerson_84 : decode cX12_isPerson 84 = .ok (.aload_n 0, 1) := by decide +kernel
theorem dX12_isPerson_85 : decode cX12_isPerson 85 = .ok (.dup, 1) := by decide +kernel
theorem dX12_isPerson_86 : decode cX12_isPerson 86 = .ok (.getfield 115, 3) := by decide +kernel
theorem dX12_isPerson_89 : decode cX12_isPerson 89 = .ok (.iconst 1, 1) := by decide +kernel
theorem dX12_isPerson_90 : decode cX12_isPerson 90 = .ok (.iadd, 1) := by decide +kernel
theorem dX12_isPerson_91 : decode cX12_isPerson 91 = .ok (.putfield 115, 3) := by decide +kernel
theorem dX12_isPerson_94 : decode cX12_isPerson 94 = .ok (.iconst 1, 1) := by decide +kernel
theorem dX12_isPerson_95 : decode cX12_isPerson 95 = .ok (.ireturn, 1) := by decide +kernel
set_option maxRecDepth 20000 in
theorem ggX12_isVisitor_X12_fails : GoodIn wsX12_isVisitor wsX12_fails := goodIn_r _ [8, 9, 30, 31, 32, 33, 34, 35, 36, 37, 38, 39, 40, 41, 42, 43, 44, 45, 46, 47, 48, 49, 50, 51, 52, 53, 54, 55, 56] (by decide +kernel) (by decide +kernel)
set_option maxRecDepth 20000 in
theorem gX12_isVisitor_X12_fails : GoodIn wsX12_isVisitor (wsV RX12 93 RX12 yX12_fails wsX12_fails) := goodIn_app (goodIn_of _ (by decide +kernel)) ggX12_isVisitor_X12_fails
set_option maxRecDepth 20000 in
theorem ggX12_isVisitor_X12_isNext : GoodIn wsX12_isVisitor wsX12_isNext := goodIn_r _ [13, 14, 3, 15, 16, 17, 7, 18, 19, 20, 21, 22, 23, 24, 25, 4, 5, 6, 8, 9, 30, 31, 32, 33, 34, 35, 36, 37, 38, 39, 40, 41, 42, 43, 44, 45, 46, 47, 48, 49, 50, 51, 52, 53, 54, 55, 56] (by decide +kernel) (by decide +kernel)
set_option maxRecDepth 20000 in
theorem gX12_isVisitor_X12_isNext : GoodIn wsX12_isVisitor (wsV RX12 96 RX12 yX12_isNext wsX12_isNext) := goodIn_app (goodIn_of _ (by decide +kernel)) ggX12_isVisitor_X12_isNext
set_option maxRecDepth 20000 in
theorem ggX12_isVisitor_X12_isSign : GoodIn wsX12_isVisitor wsX12_isSign := goodIn_r _ [29, 14, 15, 16, 17, 7, 18, 19, 20, 3, 21, 22, 23, 24, 25, 4, 5, 6, 8, 9, 30, 31, 32, 33, 34, 35, 36, 37, 38, 39, 40, 41, 42, 43, 44, 45, 46, 47, 48, 49, 50, 51, 52, 53, 54, 55, 56] (by decide +kernel) (by decide +kernel)
set_option maxRecDepth 20000 in
theorem gX12_isVisitor_X12_isSign : GoodIn wsX12_isVisitor (wsV RX12 103 RX12 yX12_isSign wsX12_isSign) := goodIn_app (goodIn_of _ (by decide +kernel)) ggX12_isVisitor_X12_isSign
theorem dX12_isVisitor_0 : decode cX12_isVisitor 0 = .ok (.aload_n 0, 1) := by decide +kernel
theorem dX12_isVisitor_1 : decode cX12_isVisitor 1 = .ok (.getfield 118, 3) := by decide +kernel
theorem dX12_isVisitor_4 : decode cX12_isVisitor 4 = .ok (.iconst 4, 1) := by decide +kernel
theorem dX12_isVisitor_5 : decode cX12_isVisitor 5 = .ok (.if_icmp .ne 9, 3) := by decide +kernel
theorem dX12_isVisitor_8 : decode cX12_isVisitor 8 = .ok (.aload_n 0, 1) := by decide +kernel
theorem dX12_isVisitor_9 : decode cX12_isVisitor 9 = .ok (.iconst 3, 1) := by decide +kernel
theorem dX12_isVisitor_10 : decode cX12_isVisitor 10 = .ok (.invokevirtual 93, 3) := by decide +kernel
theorem dX12_isVisitor_13 : decode cX12_isVisitor 13 = .ok (.ireturn, 1) := by decide +kernel
theorem dX12_isVisitor_14 : decode cX12_isVisitor 14 = .ok (.aload_n 0, 1) := by decide +kernel
theorem dX12_isVisitor_15 : decode cX12_isVisitor 15 = .ok (.getfield 28, 3) := by decide +kernel
theorem dX12_isVisitor_18 : decode cX12_isVisitor 18 = .ok (.iconst 2, 1) := by decide +kernel
theorem dX12_isVisitor_19 : decode cX12_isVisitor 19 = .ok (.aload_n 0, 1) := by decide +kernel
theorem dX12_isVisitor_20 : decode cX12_isVisitor 20 = .ok (.getfield 118, 3) := by decide +kernel
theorem dX12_isVisitor_23 : decode cX12_isVisitor 23 = .ok (.imul, 1) := by decide +kernel
theorem dX12_isVisitor_24 : decode cX12_isVisitor 24 = .ok (.iload_n 1, 1) := by decide +kernel
theorem dX12_isVisitor_25 : decode cX12_isVisitor 25 = .ok (.iastore, 1) := by decide +kernel
theorem dX12_isVisitor_26 : decode cX12_isVisitor 26 = .ok (.aload_n 0, 1) := by decide +kernel
theorem dX12_isVisitor_27 : decode cX12_isVisitor 27 = .ok (.iconst 0, 1) := by decide +kernel
theorem dX12_isVisitor_28 : decode cX12_isVisitor 28 = .ok (.bipush 99, 2) := by decide +kernel
theorem dX12_isVisitor_30 : decode cX12_isVisitor 30 = .ok (.invokevirtual 96, 3) := by decide +kernel
theorem dX12_isVisitor_33 : decode cX12_isVisitor 33 = .ok (.ifCond .ne 5, 3) := by decide +kernel
theorem dX12_isVisitor_36 : decode cX12_isVisitor 36 = .ok (.iconst 0, 1) := by decide +kernel
theorem dX12_isVisitor_37 : decode cX12_isVisitor 37 = .ok (.ireturn, 1) := by decide +kernel
theorem dX12_isVisitor_38 : decode cX12_isVisitor 38 = .ok (.aload_n 0, 1) := by decide +kernel
theorem dX12_isVisitor_39 : decode cX12_isVisitor 39 = .ok (.getfield 28, 3) := by decide +kernel
theorem dX12_isVisitor_42 : decode cX12_isVisitor 42 = .ok (.iconst 2, 1) := by decide +kernel
theorem dX12_isVisitor_43 : decode cX12_isVisitor 43 = .ok (.aload_n 0, 1) := by decide +kernel
theorem dX12_isVisitor_44 : decode cX12_isVisitor 44 = .ok (.getfield 118, 3) := by decide +kernel
theorem dX12_isVisitor_47 : decode cX12_isVisitor 47 = .ok (.imul, 1) := by decide +kernel
theorem dX12_isVisitor_48 : decode cX12_isVisitor 48 = .ok (.iconst 1, 1) := by decide +kernel
theorem dX12_isVisitor_49 : decode cX12_isVisitor 49 = .ok (.iadd, 1) := by decide +kernel
theorem dX12_isVisitor_50 : decode cX12_isVisitor 50 = .ok (.aload_n 0, 1) := by decide +kernel
theorem dX12_isVisitor_51 : decode cX12_isVisitor 51 = .ok (.getfield 81, 3) := by decide +kernel
theorem dX12_isVisitor_54 : decode cX12_isVisitor 54 = .ok (.iastore, 1) := by decide +kernel
theorem dX12_isVisitor_55 : decode cX12_isVisitor 55 = .ok (.aload_n 0, 1) := by decide +kernel
theorem dX12_isVisitor_56 : decode cX12_isVisitor 56 = .ok (.dup, 1) := by decide +kernel
theorem dX12_isVisitor_57 : decode cX12_isVisitor 57 = .ok (.getfield 118, 3) := by decide +kernel
theorem dX12_isVisitor_60 : decode cX12_isVisitor 60 = .ok (.iconst 1, 1) := by decide +kernel
theorem dX12_isVisitor_61 : decode cX12_isVisitor 61 = .ok (.iadd, 1) := by decide +kernel
theorem dX12_isVisitor_62 : decode cX12_isVisitor 62 = .ok (.putfield 118, 3) := by decide +kernel
theorem dX12_isVisitor_65 : decode cX12_isVisitor 65 = .ok (.aload_n 0, 1) := by decide +kernel
theorem dX12_isVisitor_66 : decode cX12_isVisitor 66 = .ok (.bipush 59, 2) := by decide +kernel
theorem dX12_isVisitor_68 : decode cX12_isVisitor 68 = .ok (.invokevirtual 103, 3) := by decide +kernel
theorem dX12_isVisitor_71 : decode cX12_isVisitor 71 = .ok (.ireturn, 1) := by decide +kernel
set_option maxRecDepth 20000 in
theorem ggX12_isRead_X12_isLaw : GoodIn wsX12_isRead wsX12_isLaw := goodIn_r _ [10, 5, 11, 12, 13, 14, 15, 16, 17, 9, 18, 1, 19, 20, 21, 22, 23, 24, 25, 26, 27, 28, 29, 30, 31, 32, 33, 34, 35, 36, 37, 53, 54, 55, 56, 57, 58, 59, 60, 61, 62, 63, 64, 65, 66, 67, 68, 69, 70, 71, 72, 73, 74, 75, 76, 77, 78, 79] (by decide +kernel) (by decide +kernel)
set_option maxRecDepth 20000 in
theorem gX12_isRead_X12_isLaw : GoodIn wsX12_isRead (wsV RX12 121 RX12 yX12_isLaw wsX12_isLaw) := goodIn_app (goodIn_of _ (by decide +kernel)) ggX12_isRead_X12_isLaw
set_option maxRecDepth 20000 in
theorem ggX12_isRead_X12_nextToken : GoodIn wsX12_isRead wsX12_nextToken := goodIn_r _ [18, 1, 19, 11, 20, 5, 21, 22, 23, 9, 24, 53, 54, 55, 56, 57, 58, 59, 60, 61, 62, 63, 64, 65, 66, 67, 68, 69, 70, 71, 72, 73, 74, 75, 76, 77, 78, 79] (by decide +kernel) (by decide +kernel)
set_option maxRecDepth 20000 in
theorem gX12_isRead_X12_nextToken : GoodIn wsX12_isRead (wsV RX12 90 RX12 yX12_nextToken wsX12_nextToken) := goodIn_app (goodIn_of _ (by decide +kernel)) ggX12_isRead_X12_nextToken
set_option maxRecDepth 20000 in
theorem ggX12_isRead_X12_isWall : GoodIn wsX12_isRead wsX12_isWall := goodIn_r _ [41, 2, 12, 42, 11, 25, 26, 27, 9, 28, 29, 30, 31, 32, 33, 5, 15, 16, 17, 18, 1, 19, 20, 21, 22, 23, 24, 34, 35, 36, 37, 53, 54, 55, 56, 57, 58, 59, 60, 61, 62, 63, 64, 65, 66, 67, 68, 69, 70, 71, 72, 73, 74, 75, 76, 77, 78, 79] (by decide +kernel) (by decide +kernel)
set_option maxRecDepth 20000 in
theorem gX12_isRead_X12_isWall : GoodIn wsX12_isRead (wsV RX12 125 RX12 yX12_isWall wsX12_isWall) := goodIn_app (goodIn_of _ (by decide +kernel)) ggX12_isRead_X12_isWall
set_option maxRecDepth 20000 in
theorem ggX12_isRead_X12_isPerson : GoodIn wsX12_isRead wsX12_isPerson := goodIn_r _ [46, 3, 12, 47, 11, 25, 26, 27, 9, 28, 29, 30, 31, 32, 33, 5, 15, 16, 17, 18, 1, 19, 20, 21, 22, 23, 24, 34, 35, 36, 37, 53, 54, 55, 56, 57, 58, 59, 60, 61, 62, 63, 64, 65, 66, 67, 68, 69, 70, 71, 72, 73, 74, 75, 76, 77, 78, 79] (by decide +kernel) (by decide +kernel)
set_option maxRecDepth 20000 in
theorem gX12_isRead_X12_isPerson : GoodIn wsX12_isRead (wsV RX12 128 RX12 yX12_isPerson wsX12_isPerson) := goodIn_app (goodIn_of _ (by decide +kernel)) ggX12_isRead_X12_isPerson
set_option maxRecDepth 20000 in
theorem ggX12_isRead_X12_isVisitor : GoodIn wsX12_isRead wsX12_isVisitor := goodIn_r _ [51, 4, 52, 11, 25, 26, 27, 9, 28, 29, 30, 31, 32, 33, 5, 15, 16, 17, 18, 1, 19, 20, 21, 22, 23, 24, 34, 35, 36, 37, 53, 54, 55, 56, 57, 58, 59, 60, 61, 62, 63, 64, 65, 66, 67, 68, 69, 70, 71, 72, 73, 74, 75, 76, 77, 78, 79] (by decide +kernel) (by decide +kernel)
set_option maxRecDepth 20000 in
theorem gX12_isRead_X12_isVisitor : GoodIn wsX12_isRead (wsV RX12 131 RX12 yX12_isVisitor wsX12_isVisitor) := goodIn_app (goodIn_of _ (by decide +kernel)) ggX12_isRead_X12_isVisitor
set_option maxRecDepth 20000 in
theorem ggX12_isRead_X12_fails : GoodIn wsX12_isRead wsX12_fails := goodIn_r _ [28, 29, 53, 54, 55, 56, 57, 58, 59, 60, 61, 62, 63, 64, 65, 66, 67, 68, 69, 70, 71, 72, 73, 74, 75, 76, 77, 78, 79] (by decide +kernel) (by decide +kernel)
set_option maxRecDepth 20000 in
theorem gX12_isRead_X12_fails : GoodIn wsX12_isRead (wsV RX12 93 RX12 yX12_fails wsX12_fails) := goodIn_app (goodIn_of _ (by decide +kernel)) ggX12_isRead_X12_fails
theorem dX12_isRead_0 : decode cX12_isRead 0 = .ok (.aload_n 0, 1) := by decide +kernel
theorem dX12_isRead_1 : decode cX12_isRead 1 = .ok (.iconst 0, 1) := by decide +kernel
theorem dX12_isRead_2 : decode cX12_isRead 2 = .ok (.putfield 75, 3) := by decide +kernel
theorem dX12_isRead_5 : decode cX12_isRead 5 = .ok (.aload_n 0, 1) := by decide +kernel
theorem dX12_isRead_6 : decode cX12_isRead 6 = .ok (.iconst 0, 1) := by decide +kernel
theorem dX12_isRead_7 : decode cX12_isRead 7 = .ok (.putfield 112, 3) := by decide +kernel
theorem dX12_isRead_10 : decode cX12_isRead 10 = .ok (.aload_n 0, 1) := by decide +kernel
theorem dX12_isRead_11 : decode cX12_isRead 11 = .ok (.iconst 0, 1) := by decide +kernel
theorem dX12_isRead_12 : decode cX12_isRead 12 = .ok (.putfield 115, 3) := by decide +kernel
theorem dX12_isRead_15 : decode cX12_isRead 15 = .ok (.aload_n 0, 1) := by decide +kernel
theorem dX12_isRead_16 : decode cX12_isRead 16 = .ok (.iconst 0, 1) := by decide +kernel
theorem dX12_isRead_17 : decode cX12_isRead 17 = .ok (.putfield 118, 3) := by decide +kernel
theorem dX12_isRead_20 : decode cX12_isRead 20 = .ok (.aload_n 0, 1) := by decide +kernel
theorem dX12_isRead_21 : decode cX12_isRead 21 = .ok (.invokevirtual 121, 3) := by decide +kernel
theorem dX12_isRead_24 : decode cX12_isRead 24 = .ok (.istore_n 1, 1) := by decide +kernel
theorem dX12_isRead_25 : decode cX12_isRead 25 = .ok (.iload_n 1, 1) := by decide +kernel
theorem dX12_isRead_26 : decode cX12_isRead 26 = .ok (.ifCond .eq 161, 3) := by decide +kernel
theorem dX12_isRead_29 : decode cX12_isRead 29 = .ok (.aload_n 0, 1) := by decide +kernel
theorem dX12_isRead_30 : decode cX12_isRead 30 = .ok (.invokevirtual 90, 3) := by decide +kernel
theorem dX12_isRead_33 : decode cX12_isRead 33 = .ok (.aload_n 0, 1) := by decide +kernel
theorem dX12_isRead_34 : decode cX12_isRead 34 = .ok (.getfield 84, 3) := by decide +kernel
theorem dX12_isRead_37 : decode cX12_isRead 37 = .ok (.bipush 116, 2) := by decide +kernel
theorem dX12_isRead_39 : decode cX12_isRead 39 = .ok (.if_icmp .ne 7, 3) := by decide +kernel
theorem dX12_isRead_42 : decode cX12_isRead 42 = .ok (.iconst 1, 1) := by decide +kernel
theorem dX12_isRead_43 : decode cX12_isRead 43 = .ok (.goto 56, 3) := by decide +kernel
theorem dX12_isRead_46 : decode cX12_isRead 46 = .ok (.aload_n 0, 1) := by decide +kernel
theorem dX12_isRead_47 : decode cX12_isRead 47 = .ok (.getfield 84, 3) := by decide +kernel
theorem dX12_isRead_50 : decode cX12_isRead 50 = .ok (.bipush 108, 2) := by decide +kernel
theorem dX12_isRead_52 : decode cX12_isRead 52 = .ok (.if_icmp .ne 7, 3) := by decide +kernel
theorem dX12_isRead_55 : decode cX12_isRead 55 = .ok (.iconst 2, 1) := by decide +kernel
theorem dX12_isRead_56 : decode cX12_isRead 56 = .ok (.goto 43, 3) := by decide +kernel
theorem dX12_isRead_59 : decode cX12_isRead 59 = .ok (.aload_n 0, 1) := by decide +kernel
theorem dX12_isRead_60 : decode cX12_isRead 60 = .ok (.getfield 84, 3) := by decide +kernel
theorem dX12_isRead_63 : decode cX12_isRead 63 = .ok (.bipush 100, 2) := by decide +kernel
theorem dX12_isRead_65 : decode cX12_isRead 65 = .ok (.if_icmp .ne 7, 3) := by decide +kernel
theorem dX12_isRead_68 : decode cX12_isRead 68 = .ok (.iconst 3, 1) := by decide +kernel
theorem dX12_isRead_69 : decode cX12_isRead 69 = .ok (.goto 30, 3) := by decide +kernel
theorem dX12_isRead_72 : decode cX12_isRead 72 = .ok (.aload_n 0, 1) := by decide +kernel
theorem dX12_isRead_73 : decode cX12_isRead 73 = .ok (.getfield 84, 3) := by decide +kernel
theorem dX12_isRead_76 : decode cX12_isRead 76 = .ok (.bipush 119, 2) := by decide +kernel
theorem dX12_isRead_78 : decode cX12_isRead 78 = .ok (.if_icmp .ne 7, 3) := by decide +kernel
theorem dX12_isRead_81 : decode cX12_isRead 81 = .ok (.iconst 4, 1) := by decide +kernel
theorem dX12_isRead_82 : decode cX12_isRead 82 = .ok (.goto 17, 3) := by decide +kernel
theorem dX12_isRead_85 : decode cX12_isRead 85 = .ok (.aload_n 0, 1) := by decide +kernel
theorem dX12_isRead_86 : decode cX12_isRead 86 = .ok (.getfield 84, 3) := by decide +kernel
theorem dX12_isRead_89 : decode cX12_isRead 89 = .ok (.bipush 97, 2) := by decide +kernel
theorem dX12_isRead_91 : decode cX12_isRead 91 = .ok (.if_icmp .ne 7, 3) := by decide +kernel
theorem dX12_isRead_94 : decode cX12_isRead 94 = .ok (.iconst 5, 1) := by decide +kernel
theorem dX12_isRead_95 : decode cX12_isRead 95 = .ok (.goto 4, 3) := by decide +kernel
theorem dX12_isRead_98 : decode cX12_isRead 98 = .ok (.iconst 0, 1) := by decide +kernel
theorem dX12_isRead_99 : decode cX12_isRead 99 = .ok (.istore_n 2, 1) := by decide +kernel
theorem dX12_isRead_100 : decode cX12_isRead 100 = .ok (.aload_n 0, 1) := by decide +kernel
theorem dX12_isRead_101 : decode cX12_isRead 101 = .ok (.getfield 84, 3) := by decide +kernel
theorem dX12_isRead_104 : decode cX12_isRead 104 = .ok (.bipush (-2), 2) := by decide +kernel
theorem dX12_isRead_106 : decode cX12_isRead 106 = .ok (.if_icmp .ne 5, 3) := by decide +kernel
theorem dX12_isRead_109 : decode cX12_isRead 109 = .ok (.iconst 1, 1) := by decide +kernel
theorem dX12_isRead_110 : decode cX12_isRead 110 = .ok (.ireturn, 1) := by decide +kernel
theorem dX12_isRead_111 : decode cX12_isRead 111 = .ok (.aload_n 0, 1) := by decide +kernel
theorem dX12_isRead_112 : decode cX12_isRead 112 = .ok (.getfield 84, 3) := by decide +kernel
theorem dX12_isRead_115 : decode cX12_isRead 115 = .ok (.bipush 103, 2) := by decide +kernel
theorem dX12_isRead_117 : decode cX12_isRead 117 = .ok (.if_icmp .ne 25, 3) := by decide +kernel
theorem dX12_isRead_120 : decode cX12_isRead 120 = .ok (.aload_n 0, 1) := by decide +kernel
theorem dX12_isRead_121 : decode cX12_isRead 121 = .ok (.getfield 115, 3) := by decide +kernel
theorem dX12_isRead_124 : decode cX12_isRead 124 = .ok (.ifCond .ne 18, 3) := by decide +kernel
theorem dX12_isRead_127 : decode cX12_isRead 127 = .ok (.aload_n 0, 1) := by decide +kernel
theorem dX12_isRead_128 : decode cX12_isRead 128 = .ok (.getfield 118, 3) := by decide +kernel
theorem dX12_isRead_131 : decode cX12_isRead 131 = .ok (.ifCond .ne 11, 3) := by decide +kernel
theorem dX12_isRead_134 : decode cX12_isRead 134 = .ok (.aload_n 0, 1) := by decide +kernel
theorem dX12_isRead_135 : decode cX12_isRead 135 = .ok (.invokevirtual 125, 3) := by decide +kernel
theorem dX12_isRead_138 : decode cX12_isRead 138 = .ok (.istore_n 1, 1) := by decide +kernel
theorem dX12_isRead_139 : decode cX12_isRead 139 = .ok (.goto 45, 3) := by decide +kernel
theorem dX12_isRead_142 : decode cX12_isRead 142 = .ok (.aload_n 0, 1) := by decide +kernel
theorem dX12_isRead_143 : decode cX12_isRead 143 = .ok (.getfield 84, 3) := by decide +kernel
theorem dX12_isRead_146 : decode cX12_isRead 146 = .ok (.bipush 114, 2) := by decide +kernel
theorem dX12_isRead_148 : decode cX12_isRead 148 = .ok (.if_icmp .ne 18, 3) := by decide +kernel
theorem dX12_isRead_151 : decode cX12_isRead 151 = .ok (.aload_n 0, 1) := by decide +kernel
theorem dX12_isRead_152 : decode cX12_isRead 152 = .ok (.getfield 118, 3) := by decide +kernel
theorem dX12_isRead_155 : decode cX12_isRead 155 = .ok (.ifCond .ne 11, 3) := by decide +kernel
theorem dX12_isRead_158 : decode cX12_isRead 158 = .ok (.aload_n 0, 1) := by decide +kernel
theorem dX12_isRead_159 : decode cX12_isRead 159 = .ok (.invokevirtual 128, 3) := by decide +kernel
theorem dX12_isRead_162 : decode cX12_isRead 162 = .ok (.istore_n 1, 1) := by decide +kernel
theorem dX12_isRead_163 : decode cX12_isRead 163 = .ok (.goto 21, 3) := by decide +kernel
theorem dX12_isRead_166 : decode cX12_isRead 166 = .ok (.iload_n 2, 1) := by decide +kernel
theorem dX12_isRead_167 : decode cX12_isRead 167 = .ok (.ifCond .le 11, 3) := by decide +kernel
theorem dX12_isRead_170 : decode cX12_isRead 170 = .ok (.aload_n 0, 1) := by decide +kernel
theorem dX12_isRead_171 : decode cX12_isRead 171 = .ok (.iload_n 2, 1) := by decide +kernel
theorem dX12_isRead_172 : decode cX12_isRead 172 = .ok (.invokevirtual 131, 3) := by decide +kernel
theorem dX12_isRead_175 : decode cX12_isRead 175 = .ok (.goto 8, 3) := by decide +kernel
theorem dX12_isRead_178 : decode cX12_isRead 178 = .ok (.aload_n 0, 1) := by decide +kernel
theorem dX12_isRead_179 : decode cX12_isRead 179 = .ok (.iconst 1, 1) := by decide +kernel
theorem dX12_isRead_180 : decode cX12_isRead 180 = .ok (.invokevirtual 93, 3) := by decide +kernel
theorem dX12_isRead_183 : decode cX12_isRead 183 = .ok (.istore_n 1, 1) := by decide +kernel
theorem dX12_isRead_184 : decode cX12_isRead 184 = .ok (.goto (-159), 3) := by decide +kernel
theorem dX12_isRead_187 : decode cX12_isRead 187 = .ok (.iconst 0, 1) := by decide +kernel
theorem dX12_isRead_188 : decode cX12_isRead 188 = .ok (.ireturn, 1) := by decide +kernel
set_option maxRecDepth 20000 in
theorem ggX12_house_X12_isRead : GoodIn wsX12_house wsX12_isRead := goodIn_r _ [19, 20, 10, 8, 9, 21, 22, 23, 24, 18, 25, 26, 5, 6, 7, 27, 28, 29, 30, 3, 1, 31, 32, 33, 34, 35, 36, 37, 38, 39, 40, 41, 42, 43, 44, 45, 46, 47, 48, 49, 50, 51, 11, 52, 53, 54, 55, 12, 56, 57, 58, 59, 13, 60, 61, 62, 63, 64, 65, 66, 67, 68, 69, 70, 71, 72, 73, 74, 75, 76, 77, 78, 79, 80, 81, 82, 83, 84, 85, 86] (by decide +kernel) (by decide +kernel)
set_option maxRecDepth 20000 in
theorem gX12_house_X12_isRead : GoodIn wsX12_house (wsV RX12 134 RX12 yX12_isRead wsX12_isRead) := goodIn_app (goodIn_of _ (by decide +kernel)) ggX12_house_X12_isRead
theorem dX12_house_0 : decode cX12_house 0 = .ok (.aload_n 0, 1) := by decide +kernel
theorem dX12_house_1 : decode cX12_house 1 = .ok (.invokevirtual 134, 3) := by decide +kernel
theorem dX12_house_4 : decode cX12_house 4 = .ok (.istore_n 1, 1) := by decide +kernel
theorem dX12_house_5 : decode cX12_house 5 = .ok (.aload_n 0, 1) := by decide +kernel
theorem dX12_house_6 : decode cX12_house 6 = .ok (.iconst 0, 1) := by decide +kernel
theorem dX12_house_7 : decode cX12_house 7 = .ok (.putfield 71, 3) := by decide +kernel
theorem dX12_house_10 : decode cX12_house 10 = .ok (.iload_n 1, 1) := by decide +kernel
theorem dX12_house_11 : decode cX12_house 11 = .ok (.ifCond .ne 11, 3) := by decide +kernel
theorem dX12_house_14 : decode cX12_house 14 = .ok (.ldc 137, 2) := by decide +kernel
theorem dX12_house_16 : decode cX12_house 16 = .ok (.aload_n 0, 1) := by decide +kernel
theorem dX12_house_17 : decode cX12_house 17 = .ok (.getfield 78, 3) := by decide +kernel
theorem dX12_house_20 : decode cX12_house 20 = .ok (.isub, 1) := by decide +kernel
theorem dX12_house_21 : decode cX12_house 21 = .ok (.ireturn, 1) := by decide +kernel
theorem dX12_house_22 : decode cX12_house 22 = .ok (.iconst 0, 1) := by decide +kernel
theorem dX12_house_23 : decode cX12_house 23 = .ok (.istore_n 2, 1) := by decide +kernel
theorem dX12_house_24 : decode cX12_house 24 = .ok (.iload_n 2, 1) := by decide +kernel
theorem dX12_house_25 : decode cX12_house 25 = .ok (.sipush 149, 3) := by decide +kernel
theorem dX12_house_28 : decode cX12_house 28 = .ok (.if_icmp .ge 16, 3) := by decide +kernel
theorem dX12_house_31 : decode cX12_house 31 = .ok (.aload_n 0, 1) := by decide +kernel
theorem dX12_house_32 : decode cX12_house 32 = .ok (.getfield 31, 3) := by decide +kernel
theorem dX12_house_35 : decode cX12_house 35 = .ok (.iload_n 2, 1) := by decide +kernel
theorem dX12_house_36 : decode cX12_house 36 = .ok (.iconst 0, 1) := by decide +kernel
theorem dX12_house_37 : decode cX12_house 37 = .ok (.iastore, 1) := by decide +kernel
theorem dX12_house_38 : decode cX12_house 38 = .ok (.iinc 2 1, 3) := by decide +kernel
theorem dX12_house_41 : decode cX12_house 41 = .ok (.goto (-17), 3) := by decide +kernel
theorem dX12_house_44 : decode cX12_house 44 = .ok (.aload_n 0, 1) := by decide +kernel
theorem dX12_house_45 : decode cX12_house 45 = .ok (.getfield 31, 3) := by decide +kernel
theorem dX12_house_48 : decode cX12_house 48 = .ok (.iconst 0, 1) := by decide +kernel
theorem dX12_house_49 : decode cX12_house 49 = .ok (.aload_n 0, 1) := by decide +kernel
theorem dX12_house_50 : decode cX12_house 50 = .ok (.getfield 100, 3) := by decide +kernel
theorem dX12_house_53 : decode cX12_house 53 = .ok (.iastore, 1) := by decide +kernel
theorem dX12_house_54 : decode cX12_house 54 = .ok (.aload_n 0, 1) := by decide +kernel
theorem dX12_house_55 : decode cX12_house 55 = .ok (.getfield 31, 3) := by decide +kernel
theorem dX12_house_58 : decode cX12_house 58 = .ok (.iconst 1, 1) := by decide +kernel
theorem dX12_house_59 : decode cX12_house 59 = .ok (.aload_n 0, 1) := by decide +kernel
theorem dX12_house_60 : decode cX12_house 60 = .ok (.getfield 106, 3) := by decide +kernel
theorem dX12_house_63 : decode cX12_house 63 = .ok (.iastore, 1) := by decide +kernel
theorem dX12_house_64 : decode cX12_house 64 = .ok (.aload_n 0, 1) := by decide +kernel
theorem dX12_house_65 : decode cX12_house 65 = .ok (.getfield 31, 3) := by decide +kernel
theorem dX12_house_68 : decode cX12_house 68 = .ok (.iconst 2, 1) := by decide +kernel
theorem dX12_house_69 : decode cX12_house 69 = .ok (.aload_n 0, 1) := by decide +kernel
theorem dX12_house_70 : decode cX12_house 70 = .ok (.getfield 109, 3) := by decide +kernel
theorem dX12_house_73 : decode cX12_house 73 = .ok (.iastore, 1) := by decide +kernel
theorem dX12_house_74 : decode cX12_house 74 = .ok (.aload_n 0, 1) := by decide +kernel
theorem dX12_house_75 : decode cX12_house 75 = .ok (.getfield 31, 3) := by decide +kernel
theorem dX12_house_78 : decode cX12_house 78 = .ok (.iconst 3, 1) := by decide +kernel
theorem dX12_house_79 : decode cX12_house 79 = .ok (.aload_n 0, 1) := by decide +kernel
theorem dX12_house_80 : decode cX12_house 80 = .ok (.getfield 115, 3) := by decide +kernel
theorem dX12_house_83 : decode cX12_house 83 = .ok (.iastore, 1) := by decide +kernel
theorem dX12_house_84 : decode cX12_house 84 = .ok (.aload_n 0, 1) := by decide +kernel
theorem dX12_house_85 : decode cX12_house 85 = .ok (.getfield 31, 3) := by decide +kernel
theorem dX12_house_88 : decode cX12_house 88 = .ok (.iconst 4, 1) := by decide +kernel
theorem dX12_house_89 : decode cX12_house 89 = .ok (.aload_n 0, 1) := by decide +kernel
theorem dX12_house_90 : decode cX12_house 90 = .ok (.getfield 118, 3) := by decide +kernel
theorem dX12_house_93 : decode cX12_house 93 = .ok (.iastore, 1) := by decide +kernel
theorem dX12_house_94 : decode cX12_house 94 = .ok (.aload_n 0, 1) := by decide +kernel
theorem dX12_house_95 : decode cX12_house 95 = .ok (.getfield 31, 3) := by decide +kernel
theorem dX12_house_98 : decode cX12_house 98 = .ok (.sipush 148, 3) := by decide +kernel
theorem dX12_house_101 : decode cX12_house 101 = .ok (.aload_n 0, 1) := by decide +kernel
theorem dX12_house_102 : decode cX12_house 102 = .ok (.getfield 112, 3) := by decide +kernel
theorem dX12_house_105 : decode cX12_house 105 = .ok (.iastore, 1) := by decide +kernel
theorem dX12_house_106 : decode cX12_house 106 = .ok (.iconst 0, 1) := by decide +kernel
theorem dX12_house_107 : decode cX12_house 107 = .ok (.istore_n 2, 1) := by decide +kernel
theorem dX12_house_108 : decode cX12_house 108 = .ok (.iload_n 2, 1) := by decide +kernel
theorem dX12_house_109 : decode cX12_house 109 = .ok (.aload_n 0, 1) := by decide +kernel
theorem dX12_house_110 : decode cX12_house 110 = .ok (.getfield 112, 3) := by decide +kernel
theorem dX12_house_113 : decode cX12_house 113 = .ok (.if_icmp .ge 73, 3) := by decide +kernel
theorem dX12_house_116 : decode cX12_house 116 = .ok (.aload_n 0, 1) := by decide +kernel
theorem dX12_house_117 : decode cX12_house 117 = .ok (.getfield 22, 3) := by decide +kernel
theorem dX12_house_120 : decode cX12_house 120 = .ok (.iconst 2, 1) := by decide +kernel
theorem dX12_house_121 : decode cX12_house 121 = .ok (.iload_n 2, 1) := by decide +kernel
theorem dX12_house_122 : decode cX12_house 122 = .ok (.imul, 1) := by decide +kernel
theorem dX12_house_123 : decode cX12_house 123 = .ok (.iaload, 1) := by decide +kernel
theorem dX12_house_124 : decode cX12_house 124 = .ok (.istore_n 3, 1) := by decide +kernel
theorem dX12_house_125 : decode cX12_house 125 = .ok (.aload_n 0, 1) := by decide +kernel
theorem dX12_house_126 : decode cX12_house 126 = .ok (.getfield 22, 3) := by decide +kernel
theorem dX12_house_129 : decode cX12_house 129 = .ok (.iconst 2, 1) := by decide +kernel
theorem dX12_house_130 : decode cX12_house 130 = .ok (.iload_n 2, 1) := by decide +kernel
theorem dX12_house_131 : decode cX12_house 131 = .ok (.imul, 1) := by decide +kernel
theorem dX12_house_132 : decode cX12_house 132 = .ok (.iconst 1, 1) := by decide +kernel
theorem dX12_house_133 : decode cX12_house 133 = .ok (.iadd, 1) := by decide +kernel
theorem dX12_house_134 : decode cX12_house 134 = .ok (.iaload, 1) := by decide +kernel
theorem dX12_house_135 : decode cX12_house 135 = .ok (.istore 4, 2) := by decide +kernel
theorem dX12_house_137 : decode cX12_house 137 = .ok (.aload_n 0, 1) := by decide +kernel
theorem dX12_house_138 : decode cX12_house 138 = .ok (.getfield 31, 3) := by decide +kernel
theorem dX12_house_141 : decode cX12_house 141 = .ok (.iconst 5, 1) := by decide +kernel
theorem dX12_house_142 : decode cX12_house 142 = .ok (.iload_n 3, 1) := by decide +kernel
theorem dX12_house_143 : decode cX12_house 143 = .ok (.iadd, 1) := by decide +kernel
theorem dX12_house_144 : decode cX12_house 144 = .ok (.aload_n 0, 1) := by decide +kernel
theorem dX12_house_145 : decode cX12_house 145 = .ok (.getfield 31, 3) := by decide +kernel
theorem dX12_house_148 : decode cX12_house 148 = .ok (.iconst 5, 1) := by decide +kernel
theorem dX12_house_149 : decode cX12_house 149 = .ok (.iload_n 3, 1) := by decide +kernel
theorem dX12_house_150 : decode cX12_house 150 = .ok (.iadd, 1) := by decide +kernel
theorem dX12_house_151 : decode cX12_house 151 = .ok (.iaload, 1) := by decide +kernel
theorem dX12_house_152 : decode cX12_house 152 = .ok (.iconst 1, 1) := by decide +kernel
theorem dX12_house_153 : decode cX12_house 153 = .ok (.iload 4, 2) := by decide +kernel
theorem dX12_house_155 : decode cX12_house 155 = .ok (.ishl, 1) := by decide +kernel
theorem dX12_house_156 : decode cX12_house 156 = .ok (.ior, 1) := by decide +kernel
theorem dX12_house_157 : decode cX12_house 157 = .ok (.iastore, 1) := by decide +kernel
theorem dX12_house_158 : decode cX12_house 158 = .ok (.aload_n 0, 1) := by decide +kernel
theorem dX12_house_159 : decode cX12_house 159 = .ok (.getfield 31, 3) := by decide +kernel
theorem dX12_house_162 : decode cX12_house 162 = .ok (.iconst 5, 1) := by decide +kernel
theorem dX12_house_163 : decode cX12_house 163 = .ok (.iload 4, 2) := by decide +kernel
theorem dX12_house_165 : decode cX12_house 165 = .ok (.iadd, 1) := by decide +kernel
theorem dX12_house_166 : decode cX12_house 166 = .ok (.aload_n 0, 1) := by decide +kernel
theorem dX12_house_167 : decode cX12_house 167 = .ok (.getfield 31, 3) := by decide +kernel
theorem dX12_house_170 : decode cX12_house 170 = .ok (.iconst 5, 1) := by decide +kernel
theorem dX12_house_171 : decode cX12_house 171 = .ok (.iload 4, 2) := by decide +kernel
theorem dX12_house_173 : decode cX12_house 173 = .ok (.iadd, 1) := by decide +kernel
theorem dX12_house_174 : decode cX12_house 174 = .ok (.iaload, 1) := by decide +kernel
theorem dX12_house_175 : decode cX12_house 175 = .ok (.iconst 1, 1) := by decide +kernel
theorem dX12_house_176 : decode cX12_house 176 = .ok (.iload_n 3, 1) := by decide +kernel
theorem dX12_house_177 : decode cX12_house 177 = .ok (.ishl, 1) := by decide +kernel
theorem dX12_house_178 : decode cX12_house 178 = .ok (.ior, 1) := by decide +kernel
theorem dX12_house_179 : decode cX12_house 179 = .ok (.iastore, 1) := by decide +kernel
theorem dX12_house_180 : decode cX12_house 180 = .ok (.iinc 2 1, 3) := by decide +kernel
theorem dX12_house_183 : decode cX12_house 183 = .ok (.goto (-75), 3) := by decide +kernel
theorem dX12_house_186 : decode cX12_house 186 = .ok (.iconst 0, 1) := by decide +kernel
theorem dX12_house_187 : decode cX12_house 187 = .ok (.istore_n 2, 1) := by decide +kernel
theorem dX12_house_188 : decode cX12_house 188 = .ok (.iload_n 2, 1) := by decide +kernel
theorem dX12_house_189 : decode cX12_house 189 = .ok (.bipush 8, 2) := by decide +kernel
theorem dX12_house_191 : decode cX12_house 191 = .ok (.aload_n 0, 1) := by decide +kernel
theorem dX12_house_192 : decode cX12_house 192 = .ok (.getfield 115, 3) := by decide +kernel
theorem dX12_house_195 : decode cX12_house 195 = .ok (.imul, 1) := by decide +kernel
theorem dX12_house_196 : decode cX12_house 196 = .ok (.if_icmp .ge 24, 3) := by decide +kernel
theorem dX12_house_199 : decode cX12_house 199 = .ok (.aload_n 0, 1) := by decide +kernel
theorem dX12_house_200 : decode cX12_house 200 = .ok (.getfield 31, 3) := by decide +kernel
theorem dX12_house_203 : decode cX12_house 203 = .ok (.bipush 11, 2) := by decide +kernel
theorem dX12_house_205 : decode cX12_house 205 = .ok (.iload_n 2, 1) := by decide +kernel
theorem dX12_house_206 : decode cX12_house 206 = .ok (.iadd, 1) := by decide +kernel
theorem dX12_house_207 : decode cX12_house 207 = .ok (.aload_n 0, 1) := by decide +kernel
theorem dX12_house_208 : decode cX12_house 208 = .ok (.getfield 25, 3) := by decide +kernel
theorem dX12_house_211 : decode cX12_house 211 = .ok (.iload_n 2, 1) := by decide +kernel
theorem dX12_house_212 : decode cX12_house 212 = .ok (.iaload, 1) := by decide +kernel
theorem dX12_house_213 : decode cX12_house 213 = .ok (.iastore, 1) := by decide +kernel
theorem dX12_house_214 : decode cX12_house 214 = .ok (.iinc 2 1, 3) := by decide +kernel
theorem dX12_house_217 : decode cX12_house 217 = .ok (.goto (-29), 3) := by decide +kernel
theorem dX12_house_220 : decode cX12_house 220 = .ok (.iconst 0, 1) := by decide +kernel
theorem dX12_house_221 : decode cX12_house 221 = .ok (.istore_n 2, 1) := by decide +kernel
theorem dX12_house_222 : decode cX12_house 222 = .ok (.iload_n 2, 1) := by decide +kernel
theorem dX12_house_223 : decode cX12_house 223 = .ok (.aload_n 0, 1) := by decide +kernel
theorem dX12_house_224 : decode cX12_house 224 = .ok (.getfield 118, 3) := by decide +kernel
theorem dX12_house_227 : decode cX12_house 227 = .ok (.if_icmp .ge 45, 3) := by decide +kernel
theorem dX12_house_230 : decode cX12_house 230 = .ok (.aload_n 0, 1) := by decide +kernel
theorem dX12_house_231 : decode cX12_house 231 = .ok (.getfield 31, 3) := by decide +kernel
theorem dX12_house_234 : decode cX12_house 234 = .ok (.bipush 43, 2) := by decide +kernel
theorem dX12_house_236 : decode cX12_house 236 = .ok (.iload_n 2, 1) := by decide +kernel
theorem dX12_house_237 : decode cX12_house 237 = .ok (.iadd, 1) := by decide +kernel
theorem dX12_house_238 : decode cX12_house 238 = .ok (.aload_n 0, 1) := by decide +kernel
theorem dX12_house_239 : decode cX12_house 239 = .ok (.getfield 28, 3) := by decide +kernel
theorem dX12_house_242 : decode cX12_house 242 = .ok (.iconst 2, 1) := by decide +kernel
theorem dX12_house_243 : decode cX12_house 243 = .ok (.iload_n 2, 1) := by decide +kernel
theorem dX12_house_244 : decode cX12_house 244 = .ok (.imul, 1) := by decide +kernel
theorem dX12_house_245 : decode cX12_house 245 = .ok (.iaload, 1) := by decide +kernel
theorem dX12_house_246 : decode cX12_house 246 = .ok (.iastore, 1) := by decide +kernel
theorem dX12_house_247 : decode cX12_house 247 = .ok (.aload_n 0, 1) := by decide +kernel
theorem dX12_house_248 : decode cX12_house 248 = .ok (.getfield 31, 3) := by decide +kernel
theorem dX12_house_251 : decode cX12_house 251 = .ok (.bipush 47, 2) := by decide +kernel
theorem dX12_house_253 : decode cX12_house 253 = .ok (.iload_n 2, 1) := by decide +kernel
theorem dX12_house_254 : decode cX12_house 254 = .ok (.iadd, 1) := by decide +kernel
theorem dX12_house_255 : decode cX12_house 255 = .ok (.aload_n 0, 1) := by decide +kernel
theorem dX12_house_256 : decode cX12_house 256 = .ok (.getfield 28, 3) := by decide +kernel
theorem dX12_house_259 : decode cX12_house 259 = .ok (.iconst 2, 1) := by decide +kernel
theorem dX12_house_260 : decode cX12_house 260 = .ok (.iload_n 2, 1) := by decide +kernel
theorem dX12_house_261 : decode cX12_house 261 = .ok (.imul, 1) := by decide +kernel
theorem dX12_house_262 : decode cX12_house 262 = .ok (.iconst 1, 1) := by decide +kernel
theorem dX12_house_263 : decode cX12_house 263 = .ok (.iadd, 1) := by decide +kernel
theorem dX12_house_264 : decode cX12_house 264 = .ok (.iaload, 1) := by decide +kernel
theorem dX12_house_265 : decode cX12_house 265 = .ok (.iastore, 1) := by decide +kernel
theorem dX12_house_266 : decode cX12_house 266 = .ok (.iinc 2 1, 3) := by decide +kernel
theorem dX12_house_269 : decode cX12_house 269 = .ok (.goto (-47), 3) := by decide +kernel
theorem dX12_house_272 : decode cX12_house 272 = .ok (.aload_n 0, 1) := by decide +kernel
theorem dX12_house_273 : decode cX12_house 273 = .ok (.iconst 0, 1) := by decide +kernel
theorem dX12_house_274 : decode cX12_house 274 = .ok (.putfield 138, 3) := by decide +kernel
theorem dX12_house_277 : decode cX12_house 277 = .ok (.aload_n 0, 1) := by decide +kernel
theorem dX12_house_278 : decode cX12_house 278 = .ok (.getfield 100, 3) := by decide +kernel
theorem dX12_house_281 : decode cX12_house 281 = .ok (.ireturn, 1) := by decide +kernel
theorem dX12_fault_0 : decode cX12_fault 0 = .ok (.aload_n 0, 1) := by decide +kernel
theorem dX12_fault_1 : decode cX12_fault 1 = .ok (.getfield 87, 3) := by decide +kernel
theorem dX12_fault_4 : decode cX12_fault 4 = .ok (.ireturn, 1) := by decide +kernel
set_option maxRecDepth 20000 in
theorem ggX12_isRoom_X12_in : GoodIn wsX12_isRoom wsX12_in := goodIn_r _ [5] (by decide +kernel) (by decide +kernel)
set_option maxRecDepth 20000 in
theorem gX12_isRoom_X12_in : GoodIn wsX12_isRoom (va_wsS RX12 52 yX12_in wsX12_in) := goodIn_app (goodIn_of _ (by decide +kernel)) ggX12_isRoom_X12_in
theorem dX12_isRoom_0 : decode cX12_isRoom 0 = .ok (.iload_n 1, 1) := by decide +kernel
theorem dX12_isRoom_1 : decode cX12_isRoom 1 = .ok (.iconst 0, 1) := by decide +kernel
theorem dX12_isRoom_2 : decode cX12_isRoom 2 = .ok (.aload_n 0, 1) := by decide +kernel
theorem dX12_isRoom_3 : decode cX12_isRoom 3 = .ok (.getfield 31, 3) := by decide +kernel
theorem dX12_isRoom_6 : decode cX12_isRoom 6 = .ok (.iconst 0, 1) := by decide +kernel
theorem dX12_isRoom_7 : decode cX12_isRoom 7 = .ok (.iaload, 1) := by decide +kernel
theorem dX12_isRoom_8 : decode cX12_isRoom 8 = .ok (.iconst 1, 1) := by decide +kernel
theorem dX12_isRoom_9 : decode cX12_isRoom 9 = .ok (.isub, 1) := by decide +kernel
theorem dX12_isRoom_10 : decode cX12_isRoom 10 = .ok (.invokestatic 52, 3) := by decide +kernel
theorem dX12_isRoom_13 : decode cX12_isRoom 13 = .ok (.ireturn, 1) := by decide +kernel
set_option maxRecDepth 20000 in
theorem ggX12_isMinute_X12_in : GoodIn wsX12_isMinute wsX12_in := goodIn_r _ [4] (by decide +kernel) (by decide +kernel)
set_option maxRecDepth 20000 in
theorem gX12_isMinute_X12_in : GoodIn wsX12_isMinute (va_wsS RX12 52 yX12_in wsX12_in) := goodIn_app (goodIn_of _ (by decide +kernel)) ggX12_isMinute_X12_in
theorem dX12_isMinute_0 : decode cX12_isMinute 0 = .ok (.iload_n 0, 1) := by decide +kernel
theorem dX12_isMinute_1 : decode cX12_isMinute 1 = .ok (.iconst 0, 1) := by decide +kernel
theorem dX12_isMinute_2 : decode cX12_isMinute 2 = .ok (.bipush 7, 2) := by decide +kernel
theorem dX12_isMinute_4 : decode cX12_isMinute 4 = .ok (.invokestatic 52, 3) := by decide +kernel
theorem dX12_isMinute_7 : decode cX12_isMinute 7 = .ok (.ireturn, 1) := by decide +kernel
set_option maxRecDepth 20000 in
theorem ggX12_isMan_X12_in : GoodIn wsX12_isMan wsX12_in := goodIn_r _ [5] (by decide +kernel) (by decide +kernel)
set_option maxRecDepth 20000 in
theorem gX12_isMan_X12_in : GoodIn wsX12_isMan (va_wsS RX12 52 yX12_in wsX12_in) := goodIn_app (goodIn_of _ (by decide +kernel)) ggX12_isMan_X12_in
theorem dX12_isMan_0 : decode cX12_isMan 0 = .ok (.iload_n 1, 1) := by decide +kernel
theorem dX12_isMan_1 : decode cX12_isMan 1 = .ok (.iconst 0, 1) := by decide +kernel
theorem dX12_isMan_2 : decode cX12_isMan 2 = .ok (.aload_n 0, 1) := by decide +kernel
theorem dX12_isMan_3 : decode cX12_isMan 3 = .ok (.getfield 31, 3) := by decide +kernel
theorem dX12_isMan_6 : decode cX12_isMan 6 = .ok (.iconst 3, 1) := by decide +kernel
theorem dX12_isMan_7 : decode cX12_isMan 7 = .ok (.iaload, 1) := by decide +kernel
theorem dX12_isMan_8 : decode cX12_isMan 8 = .ok (.iconst 1, 1) := by decide +kernel
theorem dX12_isMan_9 : decode cX12_isMan 9 = .ok (.isub, 1) := by decide +kernel
theorem dX12_isMan_10 : decode cX12_isMan 10 = .ok (.invokestatic 52, 3) := by decide +kernel
theorem dX12_isMan_13 : decode cX12_isMan 13 = .ok (.ireturn, 1) := by decide +kernel
set_option maxRecDepth 20000 in
theorem ggX12_isGuest_X12_in : GoodIn wsX12_isGuest wsX12_in := goodIn_r _ [5] (by decide +kernel) (by decide +kernel)
set_option maxRecDepth 20000 in
theorem gX12_isGuest_X12_in : GoodIn wsX12_isGuest (va_wsS RX12 52 yX12_in wsX12_in) := goodIn_app (goodIn_of _ (by decide +kernel)) ggX12_isGuest_X12_in
theorem dX12_isGuest_0 : decode cX12_isGuest 0 = .ok (.iload_n 1, 1) := by decide +kernel
theorem dX12_isGuest_1 : decode cX12_isGuest 1 = .ok (.iconst 0, 1) := by decide +kernel
theorem dX12_isGuest_2 : decode cX12_isGuest 2 = .ok (.aload_n 0, 1) := by decide +kernel
theorem dX12_isGuest_3 : decode cX12_isGuest 3 = .ok (.getfield 31, 3) := by decide +kernel
theorem dX12_isGuest_6 : decode cX12_isGuest 6 = .ok (.iconst 4, 1) := by decide +kernel
theorem dX12_isGuest_7 : decode cX12_isGuest 7 = .ok (.iaload, 1) := by decide +kernel
theorem dX12_isGuest_8 : decode cX12_isGuest 8 = .ok (.iconst 1, 1) := by decide +kernel
theorem dX12_isGuest_9 : decode cX12_isGuest 9 = .ok (.isub, 1) := by decide +kernel
theorem dX12_isGuest_10 : decode cX12_isGuest 10 = .ok (.invokestatic 52, 3) := by decide +kernel
theorem dX12_isGuest_13 : decode cX12_isGuest 13 = .ok (.ireturn, 1) := by decide +kernel
set_option maxRecDepth 20000 in
theorem ggX12_isSet_X12_in : GoodIn wsX12_isSet wsX12_in := goodIn_r _ [5] (by decide +kernel) (by decide +kernel)
set_option maxRecDepth 20000 in
theorem gX12_isSet_X12_in : GoodIn wsX12_isSet (va_wsS RX12 52 yX12_in wsX12_in) := goodIn_app (goodIn_of _ (by decide +kernel)) ggX12_isSet_X12_in
theorem dX12_isSet_0 : decode cX12_isSet 0 = .ok (.iload_n 1, 1) := by decide +kernel
theorem dX12_isSet_1 : decode cX12_isSet 1 = .ok (.iconst 0, 1) := by decide +kernel
theorem dX12_isSet_2 : decode cX12_isSet 2 = .ok (.iconst 1, 1) := by decide +kernel
theorem dX12_isSet_3 : decode cX12_isSet 3 = .ok (.aload_n 0, 1) := by decide +kernel
theorem dX12_isSet_4 : decode cX12_isSet 4 = .ok (.getfield 31, 3) := by decide +kernel
theorem dX12_isSet_7 : decode cX12_isSet 7 = .ok (.iconst 4, 1) := by decide +kernel
theorem dX12_isSet_8 : decode cX12_isSet 8 = .ok (.iaload, 1) := by decide +kernel
theorem dX12_isSet_9 : decode cX12_isSet 9 = .ok (.ishl, 1) := by decide +kernel
theorem dX12_isSet_10 : decode cX12_isSet 10 = .ok (.iconst 1, 1) := by decide +kernel
theorem dX12_isSet_11 : decode cX12_isSet 11 = .ok (.isub, 1) := by decide +kernel
theorem dX12_isSet_12 : decode cX12_isSet 12 = .ok (.invokestatic 52, 3) := by decide +kernel
theorem dX12_isSet_15 : decode cX12_isSet 15 = .ok (.ireturn, 1) := by decide +kernel
set_option maxRecDepth 20000 in
theorem ggX12_isSeat_X12_isGuest : GoodIn wsX12_isSeat wsX12_isGuest := goodIn_r _ [5, 6, 7, 8, 4, 9, 17, 18, 19, 20, 21, 22, 23, 24, 25, 26, 27, 28, 29, 30, 31, 32, 33, 34, 35, 36, 37, 38, 39, 40, 41, 42, 43] (by decide +kernel) (by decide +kernel)
set_option maxRecDepth 20000 in
theorem gX12_isSeat_X12_isGuest : GoodIn wsX12_isSeat (wsV RX12 141 RX12 yX12_isGuest wsX12_isGuest) := goodIn_app (goodIn_of _ (by decide +kernel)) ggX12_isSeat_X12_isGuest
set_option maxRecDepth 20000 in
theorem ggX12_isSeat_X12_isRoom : GoodIn wsX12_isSeat wsX12_isRoom := goodIn_r _ [13, 6, 7, 8, 4, 9, 17, 18, 19, 20, 21, 22, 23, 24, 25, 26, 27, 28, 29, 30, 31, 32, 33, 34, 35, 36, 37, 38, 39, 40, 41, 42, 43] (by decide +kernel) (by decide +kernel)
set_option maxRecDepth 20000 in
theorem gX12_isSeat_X12_isRoom : GoodIn wsX12_isSeat (wsV RX12 144 RX12 yX12_isRoom wsX12_isRoom) := goodIn_app (goodIn_of _ (by decide +kernel)) ggX12_isSeat_X12_isRoom
set_option maxRecDepth 20000 in
theorem ggX12_isSeat_X12_isMinute : GoodIn wsX12_isSeat wsX12_isMinute := goodIn_r _ [16, 7, 8, 4, 9] (by decide +kernel) (by decide +kernel)
set_option maxRecDepth 20000 in
theorem gX12_isSeat_X12_isMinute : GoodIn wsX12_isSeat (va_wsS RX12 147 yX12_isMinute wsX12_isMinute) := goodIn_app (goodIn_of _ (by decide +kernel)) ggX12_isSeat_X12_isMinute
theorem dX12_isSeat_0 : decode cX12_isSeat 0 = .ok (.aload_n 0, 1) := by decide +kernel
theorem dX12_isSeat_1 : decode cX12_isSeat 1 = .ok (.iload_n 1, 1) := by decide +kernel
theorem dX12_isSeat_2 : decode cX12_isSeat 2 = .ok (.invokevirtual 141, 3) := by decide +kernel
theorem dX12_isSeat_5 : decode cX12_isSeat 5 = .ok (.ifCond .eq 22, 3) := by decide +kernel
theorem dX12_isSeat_8 : decode cX12_isSeat 8 = .ok (.aload_n 0, 1) := by decide +kernel
theorem dX12_isSeat_9 : decode cX12_isSeat 9 = .ok (.iload_n 2, 1) := by decide +kernel
theorem dX12_isSeat_10 : decode cX12_isSeat 10 = .ok (.invokevirtual 144, 3) := by decide +kernel
theorem dX12_isSeat_13 : decode cX12_isSeat 13 = .ok (.ifCond .eq 14, 3) := by decide +kernel
theorem dX12_isSeat_16 : decode cX12_isSeat 16 = .ok (.iload_n 3, 1) := by decide +kernel
theorem dX12_isSeat_17 : decode cX12_isSeat 17 = .ok (.invokestatic 147, 3) := by decide +kernel
theorem dX12_isSeat_20 : decode cX12_isSeat 20 = .ok (.ifCond .eq 7, 3) := by decide +kernel
theorem dX12_isSeat_23 : decode cX12_isSeat 23 = .ok (.iconst 1, 1) := by decide +kernel
theorem dX12_isSeat_24 : decode cX12_isSeat 24 = .ok (.goto 4, 3) := by decide +kernel
theorem dX12_isSeat_27 : decode cX12_isSeat 27 = .ok (.iconst 0, 1) := by decide +kernel
theorem dX12_isSeat_28 : decode cX12_isSeat 28 = .ok (.ireturn, 1) := by decide +kernel
theorem dX12_viewOf_0 : decode cX12_viewOf 0 = .ok (.iconst 1, 1) := by decide +kernel
theorem dX12_viewOf_1 : decode cX12_viewOf 1 = .ok (.iload_n 1, 1) := by decide +kernel
theorem dX12_viewOf_2 : decode cX12_viewOf 2 = .ok (.ishl, 1) := by decide +kernel
theorem dX12_viewOf_3 : decode cX12_viewOf 3 = .ok (.aload_n 0, 1) := by decide +kernel
theorem dX12_viewOf_4 : decode cX12_viewOf 4 = .ok (.getfield 31, 3) := by decide +kernel
theorem dX12_viewOf_7 : decode cX12_viewOf 7 = .ok (.iconst 5, 1) := by decide +kernel
theorem dX12_viewOf_8 : decode cX12_viewOf 8 = .ok (.iload_n 1, 1) := by decide +kernel
theorem dX12_viewOf_9 : decode cX12_viewOf 9 = .ok (.iadd, 1) := by decide +kernel
theorem dX12_viewOf_10 : decode cX12_viewOf 10 = .ok (.iaload, 1) := by decide +kernel
theorem dX12_viewOf_11 : decode cX12_viewOf 11 = .ok (.aload_n 0, 1) := by decide +kernel
theorem dX12_viewOf_12 : decode cX12_viewOf 12 = .ok (.getfield 31, 3) := by decide +kernel
theorem dX12_viewOf_15 : decode cX12_viewOf 15 = .ok (.bipush 52, 2) := by decide +kernel
theorem dX12_viewOf_17 : decode cX12_viewOf 17 = .ok (.bipush 6, 2) := by decide +kernel
theorem dX12_viewOf_19 : decode cX12_viewOf 19 = .ok (.iload_n 2, 1) := by decide +kernel
theorem dX12_viewOf_20 : decode cX12_viewOf 20 = .ok (.imul, 1) := by decide +kernel
theorem dX12_viewOf_21 : decode cX12_viewOf 21 = .ok (.iadd, 1) := by decide +kernel
theorem dX12_viewOf_22 : decode cX12_viewOf 22 = .ok (.iload_n 1, 1) := by decide +kernel
theorem dX12_viewOf_23 : decode cX12_viewOf 23 = .ok (.iadd, 1) := by decide +kernel
theorem dX12_viewOf_24 : decode cX12_viewOf 24 = .ok (.iaload, 1) := by decide +kernel
theorem dX12_viewOf_25 : decode cX12_viewOf 25 = .ok (.iconst (-1), 1) := by decide +kernel
theorem dX12_viewOf_26 : decode cX12_viewOf 26 = .ok (.ixor, 1) := by decide +kernel
theorem dX12_viewOf_27 : decode cX12_viewOf 27 = .ok (.iand, 1) := by decide +kernel
theorem dX12_viewOf_28 : decode cX12_viewOf 28 = .ok (.ior, 1) := by decide +kernel
theorem dX12_viewOf_29 : decode cX12_viewOf 29 = .ok (.ireturn, 1) := by decide +kernel
theorem dX12_heldAt_0 : decode cX12_heldAt 0 = .ok (.aload_n 0, 1) := by decide +kernel
theorem dX12_heldAt_1 : decode cX12_heldAt 1 = .ok (.getfield 31, 3) := by decide +kernel
theorem dX12_heldAt_4 : decode cX12_heldAt 4 = .ok (.bipush 100, 2) := by decide +kernel
theorem dX12_heldAt_6 : decode cX12_heldAt 6 = .ok (.bipush 6, 2) := by decide +kernel
theorem dX12_heldAt_8 : decode cX12_heldAt 8 = .ok (.iload_n 2, 1) := by decide +kernel
theorem dX12_heldAt_9 : decode cX12_heldAt 9 = .ok (.imul, 1) := by decide +kernel
theorem dX12_heldAt_10 : decode cX12_heldAt 10 = .ok (.iadd, 1) := by decide +kernel
theorem dX12_heldAt_11 : decode cX12_heldAt 11 = .ok (.iload_n 1, 1) := by decide +kernel
theorem dX12_heldAt_12 : decode cX12_heldAt 12 = .ok (.iadd, 1) := by decide +kernel
theorem dX12_heldAt_13 : decode cX12_heldAt 13 = .ok (.iaload, 1) := by decide +kernel
theorem dX12_heldAt_14 : decode cX12_heldAt 14 = .ok (.ireturn, 1) := by decide +kernel
set_option maxRecDepth 20000 in
theorem ggX12_soldOfAll_X12_bits : GoodIn wsX12_soldOfAll wsX12_bits := goodIn_r _ [5] (by decide +kernel) (by decide +kernel)
set_option maxRecDepth 20000 in
theorem gX12_soldOfAll_X12_bits : GoodIn wsX12_soldOfAll (va_wsS RX12 150 yX12_bits wsX12_bits) := goodIn_app (goodIn_of _ (by decide +kernel)) ggX12_soldOfAll_X12_bits
theorem dX12_soldOfAll_0 : decode cX12_soldOfAll 0 = .ok (.iconst 0, 1) := by decide +kernel
theorem dX12_soldOfAll_1 : decode cX12_soldOfAll 1 = .ok (.istore_n 1, 1) := by decide +kernel
theorem dX12_soldOfAll_2 : decode cX12_soldOfAll 2 = .ok (.iconst 0, 1) := by decide +kernel
theorem dX12_soldOfAll_3 : decode cX12_soldOfAll 3 = .ok (.istore_n 2, 1) := by decide +kernel
theorem dX12_soldOfAll_4 : decode cX12_soldOfAll 4 = .ok (.iload_n 2, 1) := by decide +kernel
theorem dX12_soldOfAll_5 : decode cX12_soldOfAll 5 = .ok (.bipush 48, 2) := by decide +kernel
theorem dX12_soldOfAll_7 : decode cX12_soldOfAll 7 = .ok (.if_icmp .ge 24, 3) := by decide +kernel
theorem dX12_soldOfAll_10 : decode cX12_soldOfAll 10 = .ok (.iload_n 1, 1) := by decide +kernel
theorem dX12_soldOfAll_11 : decode cX12_soldOfAll 11 = .ok (.aload_n 0, 1) := by decide +kernel
theorem dX12_soldOfAll_12 : decode cX12_soldOfAll 12 = .ok (.getfield 31, 3) := by decide +kernel
theorem dX12_soldOfAll_15 : decode cX12_soldOfAll 15 = .ok (.bipush 100, 2) := by decide +kernel
theorem dX12_soldOfAll_17 : decode cX12_soldOfAll 17 = .ok (.iload_n 2, 1) := by decide +kernel
theorem dX12_soldOfAll_18 : decode cX12_soldOfAll 18 = .ok (.iadd, 1) := by decide +kernel
theorem dX12_soldOfAll_19 : decode cX12_soldOfAll 19 = .ok (.iaload, 1) := by decide +kernel
theorem dX12_soldOfAll_20 : decode cX12_soldOfAll 20 = .ok (.invokestatic 150, 3) := by decide +kernel
theorem dX12_soldOfAll_23 : decode cX12_soldOfAll 23 = .ok (.iadd, 1) := by decide +kernel
theorem dX12_soldOfAll_24 : decode cX12_soldOfAll 24 = .ok (.istore_n 1, 1) := by decide +kernel
theorem dX12_soldOfAll_25 : decode cX12_soldOfAll 25 = .ok (.iinc 2 1, 3) := by decide +kernel
theorem dX12_soldOfAll_28 : decode cX12_soldOfAll 28 = .ok (.goto (-24), 3) := by decide +kernel
theorem dX12_soldOfAll_31 : decode cX12_soldOfAll 31 = .ok (.iload_n 1, 1) := by decide +kernel
theorem dX12_soldOfAll_32 : decode cX12_soldOfAll 32 = .ok (.ireturn, 1) := by decide +kernel
set_option maxRecDepth 20000 in
theorem ggX12_isLeft_X12_heldAt : GoodIn wsX12_isLeft wsX12_heldAt := goodIn_r _ [6, 1, 10, 11, 12, 13, 14, 15, 16, 17, 18, 19, 20, 21, 22, 23, 24, 25, 26, 27, 28, 29, 30, 31, 32, 33, 34, 35, 36] (by decide +kernel) (by decide +kernel)
set_option maxRecDepth 20000 in
theorem gX12_isLeft_X12_heldAt : GoodIn wsX12_isLeft (wsV RX12 153 RX12 yX12_heldAt wsX12_heldAt) := goodIn_app (goodIn_of _ (by decide +kernel)) ggX12_isLeft_X12_heldAt
set_option maxRecDepth 20000 in
theorem ggX12_isLeft_X12_bits : GoodIn wsX12_isLeft wsX12_bits := goodIn_r _ [9] (by decide +kernel) (by decide +kernel)
set_option maxRecDepth 20000 in
theorem gX12_isLeft_X12_bits : GoodIn wsX12_isLeft (va_wsS RX12 150 yX12_bits wsX12_bits) := goodIn_app (goodIn_of _ (by decide +kernel)) ggX12_isLeft_X12_bits
theorem dX12_isLeft_0 : decode cX12_isLeft 0 = .ok (.aload_n 0, 1) := by decide +kernel
theorem dX12_isLeft_1 : decode cX12_isLeft 1 = .ok (.iload_n 1, 1) := by decide +kernel
theorem dX12_isLeft_2 : decode cX12_isLeft 2 = .ok (.iload_n 2, 1) := by decide +kernel
theorem dX12_isLeft_3 : decode cX12_isLeft 3 = .ok (.invokevirtual 153, 3) := by decide +kernel
theorem dX12_isLeft_6 : decode cX12_isLeft 6 = .ok (.invokestatic 150, 3) := by decide +kernel
theorem dX12_isLeft_9 : decode cX12_isLeft 9 = .ok (.aload_n 0, 1) := by decide +kernel
theorem dX12_isLeft_10 : decode cX12_isLeft 10 = .ok (.getfield 31, 3) := by decide +kernel
theorem dX12_isLeft_13 : decode cX12_isLeft 13 = .ok (.iconst 1, 1) := by decide +kernel
theorem dX12_isLeft_14 : decode cX12_isLeft 14 = .ok (.iaload, 1) := by decide +kernel
theorem dX12_isLeft_15 : decode cX12_isLeft 15 = .ok (.if_icmp .ge 7, 3) := by decide +kernel
theorem dX12_isLeft_18 : decode cX12_isLeft 18 = .ok (.iconst 1, 1) := by decide +kernel
theorem dX12_isLeft_19 : decode cX12_isLeft 19 = .ok (.goto 4, 3) := by decide +kernel
theorem dX12_isLeft_22 : decode cX12_isLeft 22 = .ok (.iconst 0, 1) := by decide +kernel
theorem dX12_isLeft_23 : decode cX12_isLeft 23 = .ok (.ireturn, 1) := by decide +kernel
theorem dX12_was_0 : decode cX12_was 0 = .ok (.aload_n 0, 1) := by decide +kernel
theorem dX12_was_1 : decode cX12_was 1 = .ok (.getfield 31, 3) := by decide +kernel
theorem dX12_was_4 : decode cX12_was 4 = .ok (.bipush 11, 2) := by decide +kernel
theorem dX12_was_6 : decode cX12_was 6 = .ok (.bipush 8, 2) := by decide +kernel
theorem dX12_was_8 : decode cX12_was 8 = .ok (.iload_n 1, 1) := by decide +kernel
theorem dX12_was_9 : decode cX12_was 9 = .ok (.imul, 1) := by decide +kernel
theorem dX12_was_10 : decode cX12_was 10 = .ok (.iadd, 1) := by decide +kernel
theorem dX12_was_11 : decode cX12_was 11 = .ok (.iload_n 2, 1) := by decide +kernel
theorem dX12_was_12 : decode cX12_was 12 = .ok (.iadd, 1) := by decide +kernel
theorem dX12_was_13 : decode cX12_was 13 = .ok (.iaload, 1) := by decide +kernel
theorem dX12_was_14 : decode cX12_was 14 = .ok (.ireturn, 1) := by decide +kernel
set_option maxRecDepth 20000 in
theorem ggX12_priceOf_X12_heldAt : GoodIn wsX12_priceOf wsX12_heldAt := goodIn_r _ [6, 1, 17, 18, 19, 20, 21, 22, 23, 24, 25, 26, 27, 28, 29, 30, 31, 32, 33, 34, 35, 36, 37, 38, 39, 40, 41, 42, 43] (by decide +kernel) (by decide +kernel)
set_option maxRecDepth 20000 in
theorem gX12_priceOf_X12_heldAt : GoodIn wsX12_priceOf (wsV RX12 153 RX12 yX12_heldAt wsX12_heldAt) := goodIn_app (goodIn_of _ (by decide +kernel)) ggX12_priceOf_X12_heldAt
set_option maxRecDepth 20000 in
theorem ggX12_priceOf_X12_bits : GoodIn wsX12_priceOf wsX12_bits := goodIn_r _ [9] (by decide +kernel) (by decide +kernel)
set_option maxRecDepth 20000 in
theorem gX12_priceOf_X12_bits : GoodIn wsX12_priceOf (va_wsS RX12 150 yX12_bits wsX12_bits) := goodIn_app (goodIn_of _ (by decide +kernel)) ggX12_priceOf_X12_bits
set_option maxRecDepth 20000 in
theorem ggX12_priceOf_X12_has : GoodIn wsX12_priceOf wsX12_has := goodIn_r _ [12] (by decide +kernel) (by decide +kernel)
set_option maxRecDepth 20000 in
theorem gX12_priceOf_X12_has : GoodIn wsX12_priceOf (va_wsS RX12 157 yX12_has wsX12_has) := goodIn_app (goodIn_of _ (by decide +kernel)) ggX12_priceOf_X12_has
set_option maxRecDepth 20000 in
theorem ggX12_priceOf_X12_was : GoodIn wsX12_priceOf wsX12_was := goodIn_r _ [16, 1, 17, 18, 19, 20, 21, 22, 23, 24, 25, 26, 27, 28, 29, 30, 31, 32, 33, 34, 35, 36, 37, 38, 39, 40, 41, 42, 43] (by decide +kernel) (by decide +kernel)
set_option maxRecDepth 20000 in
theorem gX12_priceOf_X12_was : GoodIn wsX12_priceOf (wsV RX12 160 RX12 yX12_was wsX12_was) := goodIn_app (goodIn_of _ (by decide +kernel)) ggX12_priceOf_X12_was
theorem dX12_priceOf_0 : decode cX12_priceOf 0 = .ok (.aload_n 0, 1) := by decide +kernel
theorem dX12_priceOf_1 : decode cX12_priceOf 1 = .ok (.getfield 31, 3) := by decide +kernel
theorem dX12_priceOf_4 : decode cX12_priceOf 4 = .ok (.iconst 2, 1) := by decide +kernel
theorem dX12_priceOf_5 : decode cX12_priceOf 5 = .ok (.iaload, 1) := by decide +kernel
theorem dX12_priceOf_6 : decode cX12_priceOf 6 = .ok (.aload_n 0, 1) := by decide +kernel
theorem dX12_priceOf_7 : decode cX12_priceOf 7 = .ok (.iload_n 2, 1) := by decide +kernel
theorem dX12_priceOf_8 : decode cX12_priceOf 8 = .ok (.iload_n 3, 1) := by decide +kernel
theorem dX12_priceOf_9 : decode cX12_priceOf 9 = .ok (.invokevirtual 153, 3) := by decide +kernel
theorem dX12_priceOf_12 : decode cX12_priceOf 12 = .ok (.invokestatic 150, 3) := by decide +kernel
theorem dX12_priceOf_15 : decode cX12_priceOf 15 = .ok (.iadd, 1) := by decide +kernel
theorem dX12_priceOf_16 : decode cX12_priceOf 16 = .ok (.aload_n 0, 1) := by decide +kernel
theorem dX12_priceOf_17 : decode cX12_priceOf 17 = .ok (.getfield 31, 3) := by decide +kernel
theorem dX12_priceOf_20 : decode cX12_priceOf 20 = .ok (.bipush 51, 2) := by decide +kernel
theorem dX12_priceOf_22 : decode cX12_priceOf 22 = .ok (.iaload, 1) := by decide +kernel
theorem dX12_priceOf_23 : decode cX12_priceOf 23 = .ok (.iload_n 3, 1) := by decide +kernel
theorem dX12_priceOf_24 : decode cX12_priceOf 24 = .ok (.invokestatic 157, 3) := by decide +kernel
theorem dX12_priceOf_27 : decode cX12_priceOf 27 = .ok (.ifCond .eq 7, 3) := by decide +kernel
theorem dX12_priceOf_30 : decode cX12_priceOf 30 = .ok (.iconst 2, 1) := by decide +kernel
theorem dX12_priceOf_31 : decode cX12_priceOf 31 = .ok (.goto 4, 3) := by decide +kernel
theorem dX12_priceOf_34 : decode cX12_priceOf 34 = .ok (.iconst 0, 1) := by decide +kernel
theorem dX12_priceOf_35 : decode cX12_priceOf 35 = .ok (.isub, 1) := by decide +kernel
theorem dX12_priceOf_36 : decode cX12_priceOf 36 = .ok (.istore 4, 2) := by decide +kernel
theorem dX12_priceOf_38 : decode cX12_priceOf 38 = .ok (.iload 4, 2) := by decide +kernel
theorem dX12_priceOf_40 : decode cX12_priceOf 40 = .ok (.ifCond .ge 7, 3) := by decide +kernel
theorem dX12_priceOf_43 : decode cX12_priceOf 43 = .ok (.iconst 0, 1) := by decide +kernel
theorem dX12_priceOf_44 : decode cX12_priceOf 44 = .ok (.goto 5, 3) := by decide +kernel
theorem dX12_priceOf_47 : decode cX12_priceOf 47 = .ok (.iload 4, 2) := by decide +kernel
theorem dX12_priceOf_49 : decode cX12_priceOf 49 = .ok (.istore 4, 2) := by decide +kernel
theorem dX12_priceOf_51 : decode cX12_priceOf 51 = .ok (.aload_n 0, 1) := by decide +kernel
theorem dX12_priceOf_52 : decode cX12_priceOf 52 = .ok (.getfield 31, 3) := by decide +kernel
theorem dX12_priceOf_55 : decode cX12_priceOf 55 = .ok (.bipush 43, 2) := by decide +kernel
theorem dX12_priceOf_57 : decode cX12_priceOf 57 = .ok (.iload_n 1, 1) := by decide +kernel
theorem dX12_priceOf_58 : decode cX12_priceOf 58 = .ok (.iadd, 1) := by decide +kernel
theorem dX12_priceOf_59 : decode cX12_priceOf 59 = .ok (.iaload, 1) := by decide +kernel
theorem dX12_priceOf_60 : decode cX12_priceOf 60 = .ok (.tableswitch 59 1 4 #[32, 35, 40, 45], 32) := by decide +kernel
theorem dX12_priceOf_92 : decode cX12_priceOf 92 = .ok (.iload 4, 2) := by decide +kernel
theorem dX12_priceOf_94 : decode cX12_priceOf 94 = .ok (.ireturn, 1) := by decide +kernel
theorem dX12_priceOf_95 : decode cX12_priceOf 95 = .ok (.iload 4, 2) := by decide +kernel
theorem dX12_priceOf_97 : decode cX12_priceOf 97 = .ok (.iconst 1, 1) := by decide +kernel
theorem dX12_priceOf_98 : decode cX12_priceOf 98 = .ok (.iadd, 1) := by decide +kernel
theorem dX12_priceOf_99 : decode cX12_priceOf 99 = .ok (.ireturn, 1) := by decide +kernel
theorem dX12_priceOf_100 : decode cX12_priceOf 100 = .ok (.iload 4, 2) := by decide +kernel
theorem dX12_priceOf_102 : decode cX12_priceOf 102 = .ok (.iconst 2, 1) := by decide +kernel
theorem dX12_priceOf_103 : decode cX12_priceOf 103 = .ok (.idiv, 1) := by decide +kernel
theorem dX12_priceOf_104 : decode cX12_priceOf 104 = .ok (.ireturn, 1) := by decide +kernel
theorem dX12_priceOf_105 : decode cX12_priceOf 105 = .ok (.iload 4, 2) := by decide +kernel
theorem dX12_priceOf_107 : decode cX12_priceOf 107 = .ok (.ifCond .le 10, 3) := by decide +kernel
theorem dX12_priceOf_110 : decode cX12_priceOf 110 = .ok (.iload 4, 2) := by decide +kernel
theorem dX12_priceOf_112 : decode cX12_priceOf 112 = .ok (.iconst 1, 1) := by decide +kernel
theorem dX12_priceOf_113 : decode cX12_priceOf 113 = .ok (.isub, 1) := by decide +kernel
theorem dX12_priceOf_114 : decode cX12_priceOf 114 = .ok (.goto 4, 3) := by decide +kernel
theorem dX12_priceOf_117 : decode cX12_priceOf 117 = .ok (.iconst 0, 1) := by decide +kernel
theorem dX12_priceOf_118 : decode cX12_priceOf 118 = .ok (.ireturn, 1) := by decide +kernel
theorem dX12_priceOf_119 : decode cX12_priceOf 119 = .ok (.aload_n 0, 1) := by decide +kernel
theorem dX12_priceOf_120 : decode cX12_priceOf 120 = .ok (.getfield 31, 3) := by decide +kernel
theorem dX12_priceOf_123 : decode cX12_priceOf 123 = .ok (.iconst 3, 1) := by decide +kernel
theorem dX12_priceOf_124 : decode cX12_priceOf 124 = .ok (.iaload, 1) := by decide +kernel
theorem dX12_priceOf_125 : decode cX12_priceOf 125 = .ok (.ifCond .le 13, 3) := by decide +kernel
theorem dX12_priceOf_128 : decode cX12_priceOf 128 = .ok (.aload_n 0, 1) := by decide +kernel
theorem dX12_priceOf_129 : decode cX12_priceOf 129 = .ok (.iconst 0, 1) := by decide +kernel
theorem dX12_priceOf_130 : decode cX12_priceOf 130 = .ok (.iload_n 3, 1) := by decide +kernel
theorem dX12_priceOf_131 : decode cX12_priceOf 131 = .ok (.invokevirtual 160, 3) := by decide +kernel
theorem dX12_priceOf_134 : decode cX12_priceOf 134 = .ok (.iload_n 2, 1) := by decide +kernel
theorem dX12_priceOf_135 : decode cX12_priceOf 135 = .ok (.if_icmp .eq 8, 3) := by decide +kernel
theorem dX12_priceOf_138 : decode cX12_priceOf 138 = .ok (.iload 4, 2) := by decide +kernel
theorem dX12_priceOf_140 : decode cX12_priceOf 140 = .ok (.ifCond .ne 7, 3) := by decide +kernel
theorem dX12_priceOf_143 : decode cX12_priceOf 143 = .ok (.iconst 0, 1) := by decide +kernel
theorem dX12_priceOf_144 : decode cX12_priceOf 144 = .ok (.goto 7, 3) := by decide +kernel
theorem dX12_priceOf_147 : decode cX12_priceOf 147 = .ok (.iload 4, 2) := by decide +kernel
theorem dX12_priceOf_149 : decode cX12_priceOf 149 = .ok (.iconst 1, 1) := by decide +kernel
theorem dX12_priceOf_150 : decode cX12_priceOf 150 = .ok (.isub, 1) := by decide +kernel
theorem dX12_priceOf_151 : decode cX12_priceOf 151 = .ok (.ireturn, 1) := by decide +kernel
theorem dX12_note_0 : decode cX12_note 0 = .ok (.aload_n 0, 1) := by decide +kernel
theorem dX12_note_1 : decode cX12_note 1 = .ok (.getfield 138, 3) := by decide +kernel
theorem dX12_note_4 : decode cX12_note 4 = .ok (.bipush 24, 2) := by decide +kernel
theorem dX12_note_6 : decode cX12_note 6 = .ok (.if_icmp .ne 45, 3) := by decide +kernel
theorem dX12_note_9 : decode cX12_note 9 = .ok (.iconst 0, 1) := by decide +kernel
theorem dX12_note_10 : decode cX12_note 10 = .ok (.istore 6, 2) := by decide +kernel
theorem dX12_note_12 : decode cX12_note 12 = .ok (.iload 6, 2) := by decide +kernel
theorem dX12_note_14 : decode cX12_note 14 = .ok (.bipush 115, 2) := by decide +kernel
theorem dX12_note_16 : decode cX12_note 16 = .ok (.if_icmp .ge 25, 3) := by decide +kernel
theorem dX12_note_19 : decode cX12_note 19 = .ok (.aload_n 0, 1) := by decide +kernel
theorem dX12_note_20 : decode cX12_note 20 = .ok (.getfield 41, 3) := by decide +kernel
theorem dX12_note_23 : decode cX12_note 23 = .ok (.iload 6, 2) := by decide +kernel
theorem dX12_note_25 : decode cX12_note 25 = .ok (.aload_n 0, 1) := by decide +kernel
theorem dX12_note_26 : decode cX12_note 26 = .ok (.getfield 41, 3) := by decide +kernel
theorem dX12_note_29 : decode cX12_note 29 = .ok (.iload 6, 2) := by decide +kernel
theorem dX12_note_31 : decode cX12_note 31 = .ok (.iconst 5, 1) := by decide +kernel
theorem dX12_note_32 : decode cX12_note 32 = .ok (.iadd, 1) := by decide +kernel
theorem dX12_note_33 : decode cX12_note 33 = .ok (.iaload, 1) := by decide +kernel
theorem dX12_note_34 : decode cX12_note 34 = .ok (.iastore, 1) := by decide +kernel
theorem dX12_note_35 : decode cX12_note 35 = .ok (.iinc 6 1, 3) := by decide +kernel
theorem dX12_note_38 : decode cX12_note 38 = .ok (.goto (-26), 3) := by decide +kernel
theorem dX12_note_41 : decode cX12_note 41 = .ok (.aload_n 0, 1) := by decide +kernel
theorem dX12_note_42 : decode cX12_note 42 = .ok (.dup, 1) := by decide +kernel
theorem dX12_note_43 : decode cX12_note 43 = .ok (.getfield 138, 3) := by decide +kernel
theorem dX12_note_46 : decode cX12_note 46 = .ok (.iconst 1, 1) := by decide +kernel
theorem dX12_note_47 : decode cX12_note 47 = .ok (.isub, 1) := by decide +kernel
theorem dX12_note_48 : decode cX12_note 48 = .ok (.putfield 138, 3) := by decide +kernel
theorem dX12_note_51 : decode cX12_note 51 = .ok (.aload_n 0, 1) := by decide +kernel
theorem dX12_note_52 : decode cX12_note 52 = .ok (.getfield 41, 3) := by decide +kernel
theorem dX12_note_55 : decode cX12_note 55 = .ok (.iconst 5, 1) := by decide +kernel
theorem dX12_note_56 : decode cX12_note 56 = .ok (.aload_n 0, 1) := by decide +kernel
theorem dX12_note_57 : decode cX12_note 57 = .ok (.getfield 138, 3) := by decide +kernel
theorem dX12_note_60 : decode cX12_note 60 = .ok (.imul, 1) := by decide +kernel
theorem dX12_note_61 : decode cX12_note 61 = .ok (.iload_n 1, 1) := by decide +kernel
theorem dX12_note_62 : decode cX12_note 62 = .ok (.iastore, 1) := by decide +kernel
theorem dX12_note_63 : decode cX12_note 63 = .ok (.aload_n 0, 1) := by decide +kernel
theorem dX12_note_64 : decode cX12_note 64 = .ok (.getfield 41, 3) := by decide +kernel
theorem dX12_note_67 : decode cX12_note 67 = .ok (.iconst 5, 1) := by decide +kernel
theorem dX12_note_68 : decode cX12_note 68 = .ok (.aload_n 0, 1) := by decide +kernel
theorem dX12_note_69 : decode cX12_note 69 = .ok (.getfield 138, 3) := by decide +kernel
theorem dX12_note_72 : decode cX12_note 72 = .ok (.imul, 1) := by decide +kernel
theorem dX12_note_73 : decode cX12_note 73 = .ok (.iconst 1, 1) := by decide +kernel
theorem dX12_note_74 : decode cX12_note 74 = .ok (.iadd, 1) := by decide +kernel
theorem dX12_note_75 : decode cX12_note 75 = .ok (.iload_n 2, 1) := by decide +kernel
theorem dX12_note_76 : decode cX12_note 76 = .ok (.iastore, 1) := by decide +kernel
theorem dX12_note_77 : decode cX12_note 77 = .ok (.aload_n 0, 1) := by decide +kernel
theorem dX12_note_78 : decode cX12_note 78 = .ok (.getfield 41, 3) := by decide +kernel
theorem dX12_note_81 : decode cX12_note 81 = .ok (.iconst 5, 1) := by decide +kernel
theorem dX12_note_82 : decode cX12_note 82 = .ok (.aload_n 0, 1) := by decide +kernel
theorem dX12_note_83 : decode cX12_note 83 = .ok (.getfield 138, 3) := by decide +kernel
theorem dX12_note_86 : decode cX12_note 86 = .ok (.imul, 1) := by decide +kernel
theorem dX12_note_87 : decode cX12_note 87 = .ok (.iconst 2, 1) := by decide +kernel
theorem dX12_note_88 : decode cX12_note 88 = .ok (.iadd, 1) := by decide +kernel
theorem dX12_note_89 : decode cX12_note 89 = .ok (.iload_n 3, 1) := by decide +kernel
theorem dX12_note_90 : decode cX12_note 90 = .ok (.iastore, 1) := by decide +kernel
theorem dX12_note_91 : decode cX12_note 91 = .ok (.aload_n 0, 1) := by decide +kernel
theorem dX12_note_92 : decode cX12_note 92 = .ok (.getfield 41, 3) := by decide +kernel
theorem dX12_note_95 : decode cX12_note 95 = .ok (.iconst 5, 1) := by decide +kernel
theorem dX12_note_96 : decode cX12_note 96 = .ok (.aload_n 0, 1) := by decide +kernel
theorem dX12_note_97 : decode cX12_note 97 = .ok (.getfield 138, 3) := by decide +kernel
theorem dX12_note_100 : decode cX12_note 100 = .ok (.imul, 1) := by decide +kernel
theorem dX12_note_101 : decode cX12_note 101 = .ok (.iconst 3, 1) := by decide +kernel
theorem dX12_note_102 : decode cX12_note 102 = .ok (.iadd, 1) := by decide +kernel
theorem dX12_note_103 : decode cX12_note 103 = .ok (.iload 4, 2) := by decide +kernel
theorem dX12_note_105 : decode cX12_note 105 = .ok (.iastore, 1) := by decide +kernel
theorem dX12_note_106 : decode cX12_note 106 = .ok (.aload_n 0, 1) := by decide +kernel
theorem dX12_note_107 : decode cX12_note 107 = .ok (.getfield 41, 3) := by decide +kernel
theorem dX12_note_110 : decode cX12_note 110 = .ok (.iconst 5, 1) := by decide +kernel
theorem dX12_note_111 : decode cX12_note 111 = .ok (.aload_n 0, 1) := by decide +kernel
theorem dX12_note_112 : decode cX12_note 112 = .ok (.getfield 138, 3) := by decide +kernel
theorem dX12_note_115 : decode cX12_note 115 = .ok (.imul, 1) := by decide +kernel
theorem dX12_note_116 : decode cX12_note 116 = .ok (.iconst 4, 1) := by decide +kernel
theorem dX12_note_117 : decode cX12_note 117 = .ok (.iadd, 1) := by decide +kernel
theorem dX12_note_118 : decode cX12_note 118 = .ok (.iload 5, 2) := by decide +kernel
theorem dX12_note_120 : decode cX12_note 120 = .ok (.iastore, 1) := by decide +kernel
theorem dX12_note_121 : decode cX12_note 121 = .ok (.aload_n 0, 1) := by decide +kernel
theorem dX12_note_122 : decode cX12_note 122 = .ok (.dup, 1) := by decide +kernel
theorem dX12_note_123 : decode cX12_note 123 = .ok (.getfield 138, 3) := by decide +kernel
theorem dX12_note_126 : decode cX12_note 126 = .ok (.iconst 1, 1) := by decide +kernel
theorem dX12_note_127 : decode cX12_note 127 = .ok (.iadd, 1) := by decide +kernel
theorem dX12_note_128 : decode cX12_note 128 = .ok (.putfield 138, 3) := by decide +kernel
theorem dX12_note_131 : decode cX12_note 131 = .ok (.return_, 1) := by decide +kernel
set_option maxRecDepth 20000 in
theorem ggX12_buy_X12_isSeat : GoodIn wsX12_buy wsX12_isSeat := goodIn_r _ [9, 10, 11, 12, 8, 13, 3, 14, 15, 16, 17, 18, 19, 20, 21, 22, 23, 56, 57, 58, 59, 60, 61, 62, 63, 64, 65, 66, 67, 68, 69, 70, 71, 72, 73, 74, 75, 76, 77, 78, 79, 80, 81, 82] (by decide +kernel) (by decide +kernel)
set_option maxRecDepth 20000 in
theorem gX12_buy_X12_isSeat : GoodIn wsX12_buy (wsV RX12 163 RX12 yX12_isSeat wsX12_isSeat) := goodIn_app (goodIn_of _ (by decide +kernel)) ggX12_buy_X12_isSeat
set_option maxRecDepth 20000 in
theorem ggX12_buy_X12_heldAt : GoodIn wsX12_buy wsX12_heldAt := goodIn_r _ [27, 3, 56, 57, 58, 59, 60, 61, 62, 63, 64, 65, 66, 67, 68, 69, 70, 71, 72, 73, 74, 75, 76, 77, 78, 79, 80, 81, 82] (by decide +kernel) (by decide +kernel)
set_option maxRecDepth 20000 in
theorem gX12_buy_X12_heldAt : GoodIn wsX12_buy (wsV RX12 153 RX12 yX12_heldAt wsX12_heldAt) := goodIn_app (goodIn_of _ (by decide +kernel)) ggX12_buy_X12_heldAt
set_option maxRecDepth 20000 in
theorem ggX12_buy_X12_has : GoodIn wsX12_buy wsX12_has := goodIn_r _ [30] (by decide +kernel) (by decide +kernel)
set_option maxRecDepth 20000 in
theorem gX12_buy_X12_has : GoodIn wsX12_buy (va_wsS RX12 157 yX12_has wsX12_has) := goodIn_app (goodIn_of _ (by decide +kernel)) ggX12_buy_X12_has
set_option maxRecDepth 20000 in
theorem ggX12_buy_X12_priceOf : GoodIn wsX12_buy wsX12_priceOf := goodIn_r _ [34, 3, 24, 25, 26, 8, 27, 35, 36, 37, 28, 29, 30, 38, 39, 40, 41, 56, 57, 58, 59, 60, 61, 62, 63, 64, 65, 66, 67, 68, 69, 70, 71, 72, 73, 74, 75, 76, 77, 78, 79, 80, 81, 82] (by decide +kernel) (by decide +kernel)
set_option maxRecDepth 20000 in
theorem gX12_buy_X12_priceOf : GoodIn wsX12_buy (wsV RX12 167 RX12 yX12_priceOf wsX12_priceOf) := goodIn_app (goodIn_of _ (by decide +kernel)) ggX12_buy_X12_priceOf
set_option maxRecDepth 20000 in
theorem ggX12_buy_X12_isLeft : GoodIn wsX12_buy wsX12_isLeft := goodIn_r _ [45, 3, 24, 25, 26, 8, 27, 35, 36, 37, 56, 57, 58, 59, 60, 61, 62, 63, 64, 65, 66, 67, 68, 69, 70, 71, 72, 73, 74, 75, 76, 77, 78, 79, 80, 81, 82] (by decide +kernel) (by decide +kernel)
set_option maxRecDepth 20000 in
theorem gX12_buy_X12_isLeft : GoodIn wsX12_buy (wsV RX12 171 RX12 yX12_isLeft wsX12_isLeft) := goodIn_app (goodIn_of _ (by decide +kernel)) ggX12_buy_X12_isLeft
set_option maxRecDepth 20000 in
theorem ggX12_buy_X12_soldOfAll : GoodIn wsX12_buy wsX12_soldOfAll := goodIn_r _ [49, 3, 35, 36, 8, 37, 56, 57, 58, 59, 60, 61, 62, 63, 64, 65, 66, 67, 68, 69, 70, 71, 72, 73, 74, 75, 76, 77, 78, 79, 80, 81, 82] (by decide +kernel) (by decide +kernel)
set_option maxRecDepth 20000 in
theorem gX12_buy_X12_soldOfAll : GoodIn wsX12_buy (wsV RX12 174 RX12 yX12_soldOfAll wsX12_soldOfAll) := goodIn_app (goodIn_of _ (by decide +kernel)) ggX12_buy_X12_soldOfAll
set_option maxRecDepth 20000 in
theorem ggX12_buy_X12_note : GoodIn wsX12_buy wsX12_note := goodIn_r _ [53, 54, 55, 56, 57, 58, 59, 60, 61, 62, 63, 64, 65, 66, 67, 68, 69, 70, 71, 72, 73, 74, 75, 76, 77, 78, 79, 80, 81, 82] (by decide +kernel) (by decide +kernel)
set_option maxRecDepth 20000 in
theorem gX12_buy_X12_note : GoodIn wsX12_buy (wsV RX12 178 RX12 yX12_note wsX12_note) := goodIn_app (goodIn_of _ (by decide +kernel)) ggX12_buy_X12_note
theorem dX12_buy_0 : decode cX12_buy 0 = .ok (.aload_n 0, 1) := by decide +kernel
