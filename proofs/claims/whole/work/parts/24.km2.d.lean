set_option maxRecDepth 20000 in
theorem ggX10_part_X10_isCell : GoodIn wsX10_part wsX10_isCell := goodIn_r _ [7, 8, 9, 44, 45, 46, 47, 48, 49, 50, 51, 52, 53, 54, 55, 56, 57, 58, 59, 60, 61, 62, 63, 64, 65, 66, 67, 68, 69, 70, 71, 72, 73, 74, 75, 76, 77] (by decide +kernel) (by decide +kernel)
set_option maxRecDepth 20000 in
theorem gX10_part_X10_isCell : GoodIn wsX10_part (wsV RX10 151 RX10 yX10_isCell wsX10_isCell) := goodIn_app (goodIn_of _ (by decide +kernel)) ggX10_part_X10_isCell
set_option maxRecDepth 20000 in
theorem ggX10_part_X10_layParts : GoodIn wsX10_part wsX10_layParts := goodIn_r _ [13, 2, 14, 15, 16, 17, 6, 18, 8, 9, 19, 20, 21, 22, 23, 24, 25, 26, 27, 28, 29, 30, 31, 32, 33, 34, 35, 36, 37, 44, 45, 46, 47, 48, 49, 50, 51, 52, 53, 54, 55, 56, 57, 58, 59, 60, 61, 62, 63, 64, 65, 66, 67, 68, 69, 70, 71, 72, 73, 74, 75, 76, 77] (by decide +kernel) (by decide +kernel)
set_option maxRecDepth 20000 in
theorem gX10_part_X10_layParts : GoodIn wsX10_part (wsV RX10 133 RX10 yX10_layParts wsX10_layParts) := goodIn_app (goodIn_of _ (by decide +kernel)) ggX10_part_X10_layParts
set_option maxRecDepth 20000 in
theorem ggX10_part_X10_index : GoodIn wsX10_part wsX10_index := goodIn_r _ [40] (by decide +kernel) (by decide +kernel)
set_option maxRecDepth 20000 in
theorem gX10_part_X10_index : GoodIn wsX10_part (va_wsS RX10 157 yX10_index wsX10_index) := goodIn_app (goodIn_of _ (by decide +kernel)) ggX10_part_X10_index
set_option maxRecDepth 20000 in
theorem ggX10_part_X10_code : GoodIn wsX10_part wsX10_code := goodIn_r _ [43] (by decide +kernel) (by decide +kernel)
set_option maxRecDepth 20000 in
theorem gX10_part_X10_code : GoodIn wsX10_part (va_wsS RX10 164 yX10_code wsX10_code) := goodIn_app (goodIn_of _ (by decide +kernel)) ggX10_part_X10_code
theorem dX10_part_0 : decode cX10_part 0 = .ok (.aload_n 0, 1) := by decide +kernel
theorem dX10_part_1 : decode cX10_part 1 = .ok (.iconst 0, 1) := by decide +kernel
theorem dX10_part_2 : decode cX10_part 2 = .ok (.putfield 79, 3) := by decide +kernel
theorem dX10_part_5 : decode cX10_part 5 = .ok (.aload_n 0, 1) := by decide +kernel
theorem dX10_part_6 : decode cX10_part 6 = .ok (.iload_n 1, 1) := by decide +kernel
theorem dX10_part_7 : decode cX10_part 7 = .ok (.invokevirtual 151, 3) := by decide +kernel
theorem dX10_part_10 : decode cX10_part 10 = .ok (.ifCond .ne 5, 3) := by decide +kernel
theorem dX10_part_13 : decode cX10_part 13 = .ok (.iconst (-1), 1) := by decide +kernel
theorem dX10_part_14 : decode cX10_part 14 = .ok (.ireturn, 1) := by decide +kernel
theorem dX10_part_15 : decode cX10_part 15 = .ok (.aload_n 0, 1) := by decide +kernel
theorem dX10_part_16 : decode cX10_part 16 = .ok (.invokevirtual 133, 3) := by decide +kernel
theorem dX10_part_19 : decode cX10_part 19 = .ok (.pop, 1) := by decide +kernel
theorem dX10_part_20 : decode cX10_part 20 = .ok (.aload_n 0, 1) := by decide +kernel
theorem dX10_part_21 : decode cX10_part 21 = .ok (.getfield 52, 3) := by decide +kernel
theorem dX10_part_24 : decode cX10_part 24 = .ok (.iload_n 1, 1) := by decide +kernel
theorem dX10_part_25 : decode cX10_part 25 = .ok (.invokestatic 157, 3) := by decide +kernel
theorem dX10_part_28 : decode cX10_part 28 = .ok (.iaload, 1) := by decide +kernel
theorem dX10_part_29 : decode cX10_part 29 = .ok (.invokestatic 164, 3) := by decide +kernel
theorem dX10_part_32 : decode cX10_part 32 = .ok (.ireturn, 1) := by decide +kernel
set_option maxRecDepth 20000 in
theorem ggX10_bridge_X10_isCell : GoodIn wsX10_bridge wsX10_isCell := goodIn_r _ [6, 7, 8, 44, 45, 46, 47, 48, 49, 50, 51, 52, 53, 54, 55, 56, 57, 58, 59, 60, 61, 62, 63, 64, 65, 66, 67, 68, 69, 70, 71, 72, 73, 74, 75, 76, 77] (by decide +kernel) (by decide +kernel)
set_option maxRecDepth 20000 in
theorem gX10_bridge_X10_isCell : GoodIn wsX10_bridge (wsV RX10 151 RX10 yX10_isCell wsX10_isCell) := goodIn_app (goodIn_of _ (by decide +kernel)) ggX10_bridge_X10_isCell
set_option maxRecDepth 20000 in
theorem ggX10_bridge_X10_isSide : GoodIn wsX10_bridge wsX10_isSide := goodIn_r _ [11, 12, 13, 14, 5, 15] (by decide +kernel) (by decide +kernel)
set_option maxRecDepth 20000 in
theorem gX10_bridge_X10_isSide : GoodIn wsX10_bridge (va_wsS RX10 154 yX10_isSide wsX10_isSide) := goodIn_app (goodIn_of _ (by decide +kernel)) ggX10_bridge_X10_isSide
set_option maxRecDepth 20000 in
theorem ggX10_bridge_X10_index : GoodIn wsX10_bridge wsX10_index := goodIn_r _ [18] (by decide +kernel) (by decide +kernel)
set_option maxRecDepth 20000 in
theorem gX10_bridge_X10_index : GoodIn wsX10_bridge (va_wsS RX10 157 yX10_index wsX10_index) := goodIn_app (goodIn_of _ (by decide +kernel)) ggX10_bridge_X10_index
set_option maxRecDepth 20000 in
theorem ggX10_bridge_X10_isOpen : GoodIn wsX10_bridge wsX10_isOpen := goodIn_r _ [22, 23, 24, 25, 26, 27, 5, 28, 7, 8, 13, 14, 15, 44, 45, 46, 47, 48, 49, 50, 51, 52, 53, 54, 55, 56, 57, 58, 59, 60, 61, 62, 63, 64, 65, 66, 67, 68, 69, 70, 71, 72, 73, 74, 75, 76, 77] (by decide +kernel) (by decide +kernel)
set_option maxRecDepth 20000 in
theorem gX10_bridge_X10_isOpen : GoodIn wsX10_bridge (wsV RX10 160 RX10 yX10_isOpen wsX10_isOpen) := goodIn_app (goodIn_of _ (by decide +kernel)) ggX10_bridge_X10_isOpen
set_option maxRecDepth 20000 in
theorem ggX10_bridge_X10_isBridge : GoodIn wsX10_bridge wsX10_isBridge := goodIn_r _ [32, 33, 34, 35, 36, 5, 37, 23, 24, 25, 26, 27, 28, 7, 8, 13, 14, 15, 38, 39, 40, 41, 42, 43, 19, 20, 21, 22, 44, 45, 46, 47, 48, 49, 50, 51, 52, 53, 54, 55, 56, 57, 58, 59, 60, 61, 62, 63, 64, 65, 66, 67, 68, 69, 70, 71, 72, 73, 74, 75, 76, 77] (by decide +kernel) (by decide +kernel)
set_option maxRecDepth 20000 in
theorem gX10_bridge_X10_isBridge : GoodIn wsX10_bridge (wsV RX10 174 RX10 yX10_isBridge wsX10_isBridge) := goodIn_app (goodIn_of _ (by decide +kernel)) ggX10_bridge_X10_isBridge
theorem dX10_bridge_0 : decode cX10_bridge 0 = .ok (.aload_n 0, 1) := by decide +kernel
theorem dX10_bridge_1 : decode cX10_bridge 1 = .ok (.iconst 0, 1) := by decide +kernel
theorem dX10_bridge_2 : decode cX10_bridge 2 = .ok (.putfield 79, 3) := by decide +kernel
theorem dX10_bridge_5 : decode cX10_bridge 5 = .ok (.aload_n 0, 1) := by decide +kernel
theorem dX10_bridge_6 : decode cX10_bridge 6 = .ok (.iload_n 1, 1) := by decide +kernel
theorem dX10_bridge_7 : decode cX10_bridge 7 = .ok (.invokevirtual 151, 3) := by decide +kernel
theorem dX10_bridge_10 : decode cX10_bridge 10 = .ok (.ifCond .eq 10, 3) := by decide +kernel
theorem dX10_bridge_13 : decode cX10_bridge 13 = .ok (.iload_n 2, 1) := by decide +kernel
theorem dX10_bridge_14 : decode cX10_bridge 14 = .ok (.invokestatic 154, 3) := by decide +kernel
theorem dX10_bridge_17 : decode cX10_bridge 17 = .ok (.ifCond .ne 5, 3) := by decide +kernel
theorem dX10_bridge_20 : decode cX10_bridge 20 = .ok (.iconst (-1), 1) := by decide +kernel
theorem dX10_bridge_21 : decode cX10_bridge 21 = .ok (.ireturn, 1) := by decide +kernel
theorem dX10_bridge_22 : decode cX10_bridge 22 = .ok (.aload_n 0, 1) := by decide +kernel
theorem dX10_bridge_23 : decode cX10_bridge 23 = .ok (.iload_n 1, 1) := by decide +kernel
theorem dX10_bridge_24 : decode cX10_bridge 24 = .ok (.invokestatic 157, 3) := by decide +kernel
theorem dX10_bridge_27 : decode cX10_bridge 27 = .ok (.iload_n 2, 1) := by decide +kernel
theorem dX10_bridge_28 : decode cX10_bridge 28 = .ok (.invokevirtual 160, 3) := by decide +kernel
theorem dX10_bridge_31 : decode cX10_bridge 31 = .ok (.ifCond .ne 6, 3) := by decide +kernel
theorem dX10_bridge_34 : decode cX10_bridge 34 = .ok (.bipush (-3), 2) := by decide +kernel
theorem dX10_bridge_36 : decode cX10_bridge 36 = .ok (.ireturn, 1) := by decide +kernel
theorem dX10_bridge_37 : decode cX10_bridge 37 = .ok (.aload_n 0, 1) := by decide +kernel
theorem dX10_bridge_38 : decode cX10_bridge 38 = .ok (.iload_n 1, 1) := by decide +kernel
theorem dX10_bridge_39 : decode cX10_bridge 39 = .ok (.invokestatic 157, 3) := by decide +kernel
theorem dX10_bridge_42 : decode cX10_bridge 42 = .ok (.iload_n 2, 1) := by decide +kernel
theorem dX10_bridge_43 : decode cX10_bridge 43 = .ok (.invokevirtual 174, 3) := by decide +kernel
theorem dX10_bridge_46 : decode cX10_bridge 46 = .ok (.ifCond .eq 7, 3) := by decide +kernel
theorem dX10_bridge_49 : decode cX10_bridge 49 = .ok (.iconst 1, 1) := by decide +kernel
theorem dX10_bridge_50 : decode cX10_bridge 50 = .ok (.goto 4, 3) := by decide +kernel
theorem dX10_bridge_53 : decode cX10_bridge 53 = .ok (.iconst 0, 1) := by decide +kernel
theorem dX10_bridge_54 : decode cX10_bridge 54 = .ok (.ireturn, 1) := by decide +kernel
set_option maxRecDepth 20000 in
theorem ggX10_must_X10_isCell : GoodIn wsX10_must wsX10_isCell := goodIn_r _ [6, 7, 8, 42, 43, 44, 45, 46, 47, 48, 49, 50, 51, 52, 53, 54, 55, 56, 57, 58, 59, 60, 61, 62, 63, 64, 65, 66, 67, 68, 69, 70, 71, 72, 73, 74, 75] (by decide +kernel) (by decide +kernel)
set_option maxRecDepth 20000 in
theorem gX10_must_X10_isCell : GoodIn wsX10_must (wsV RX10 151 RX10 yX10_isCell wsX10_isCell) := goodIn_app (goodIn_of _ (by decide +kernel)) ggX10_must_X10_isCell
set_option maxRecDepth 20000 in
theorem ggX10_must_X10_index : GoodIn wsX10_must wsX10_index := goodIn_r _ [11] (by decide +kernel) (by decide +kernel)
set_option maxRecDepth 20000 in
theorem gX10_must_X10_index : GoodIn wsX10_must (va_wsS RX10 157 yX10_index wsX10_index) := goodIn_app (goodIn_of _ (by decide +kernel)) ggX10_must_X10_index
set_option maxRecDepth 20000 in
theorem ggX10_must_X10_isMust : GoodIn wsX10_must wsX10_isMust := goodIn_r _ [15, 16, 17, 18, 19, 20, 21, 5, 22, 23, 24, 25, 26, 27, 28, 29, 30, 31, 32, 33, 34, 35, 36, 37, 38, 7, 8, 39, 40, 41, 42, 43, 44, 45, 46, 47, 48, 49, 50, 51, 52, 53, 54, 55, 56, 57, 58, 59, 60, 61, 62, 63, 64, 65, 66, 67, 68, 69, 70, 71, 72, 73, 74, 75] (by decide +kernel) (by decide +kernel)
set_option maxRecDepth 20000 in
theorem gX10_must_X10_isMust : GoodIn wsX10_must (wsV RX10 186 RX10 yX10_isMust wsX10_isMust) := goodIn_app (goodIn_of _ (by decide +kernel)) ggX10_must_X10_isMust
theorem dX10_must_0 : decode cX10_must 0 = .ok (.aload_n 0, 1) := by decide +kernel
theorem dX10_must_1 : decode cX10_must 1 = .ok (.iconst 0, 1) := by decide +kernel
theorem dX10_must_2 : decode cX10_must 2 = .ok (.putfield 79, 3) := by decide +kernel
theorem dX10_must_5 : decode cX10_must 5 = .ok (.aload_n 0, 1) := by decide +kernel
theorem dX10_must_6 : decode cX10_must 6 = .ok (.iload_n 1, 1) := by decide +kernel
theorem dX10_must_7 : decode cX10_must 7 = .ok (.invokevirtual 151, 3) := by decide +kernel
theorem dX10_must_10 : decode cX10_must 10 = .ok (.ifCond .ne 5, 3) := by decide +kernel
theorem dX10_must_13 : decode cX10_must 13 = .ok (.iconst (-1), 1) := by decide +kernel
theorem dX10_must_14 : decode cX10_must 14 = .ok (.ireturn, 1) := by decide +kernel
theorem dX10_must_15 : decode cX10_must 15 = .ok (.aload_n 0, 1) := by decide +kernel
theorem dX10_must_16 : decode cX10_must 16 = .ok (.iload_n 1, 1) := by decide +kernel
theorem dX10_must_17 : decode cX10_must 17 = .ok (.invokestatic 157, 3) := by decide +kernel
theorem dX10_must_20 : decode cX10_must 20 = .ok (.invokevirtual 186, 3) := by decide +kernel
theorem dX10_must_23 : decode cX10_must 23 = .ok (.ifCond .eq 7, 3) := by decide +kernel
theorem dX10_must_26 : decode cX10_must 26 = .ok (.iconst 1, 1) := by decide +kernel
theorem dX10_must_27 : decode cX10_must 27 = .ok (.goto 4, 3) := by decide +kernel
theorem dX10_must_30 : decode cX10_must 30 = .ok (.iconst 0, 1) := by decide +kernel
theorem dX10_must_31 : decode cX10_must 31 = .ok (.ireturn, 1) := by decide +kernel
set_option maxRecDepth 20000 in
theorem ggX10_left_X10_isCell : GoodIn wsX10_left wsX10_isCell := goodIn_r _ [7, 8, 9, 44, 45, 46, 47, 48, 49, 50, 51, 52, 53, 54, 55, 56, 57, 58, 59, 60, 61, 62, 63, 64, 65, 66, 67, 68, 69, 70, 71, 72, 73, 74, 75, 76, 77] (by decide +kernel) (by decide +kernel)
set_option maxRecDepth 20000 in
theorem gX10_left_X10_isCell : GoodIn wsX10_left (wsV RX10 151 RX10 yX10_isCell wsX10_isCell) := goodIn_app (goodIn_of _ (by decide +kernel)) ggX10_left_X10_isCell
set_option maxRecDepth 20000 in
theorem ggX10_left_X10_fill : GoodIn wsX10_left wsX10_fill := goodIn_r _ [13, 2, 14, 15, 16, 17, 18, 6, 19, 8, 9, 20, 21, 22, 23, 24, 25, 26, 27, 28, 29, 30, 31, 32, 33, 34, 35, 36, 44, 45, 46, 47, 48, 49, 50, 51, 52, 53, 54, 55, 56, 57, 58, 59, 60, 61, 62, 63, 64, 65, 66, 67, 68, 69, 70, 71, 72, 73, 74, 75, 76, 77] (by decide +kernel) (by decide +kernel)
set_option maxRecDepth 20000 in
theorem gX10_left_X10_fill : GoodIn wsX10_left (wsV RX10 195 RX10 yX10_fill wsX10_fill) := goodIn_app (goodIn_of _ (by decide +kernel)) ggX10_left_X10_fill
set_option maxRecDepth 20000 in
theorem ggX10_left_X10_index : GoodIn wsX10_left wsX10_index := goodIn_r _ [39] (by decide +kernel) (by decide +kernel)
set_option maxRecDepth 20000 in
theorem gX10_left_X10_index : GoodIn wsX10_left (va_wsS RX10 157 yX10_index wsX10_index) := goodIn_app (goodIn_of _ (by decide +kernel)) ggX10_left_X10_index
set_option maxRecDepth 20000 in
theorem ggX10_left_X10_clearShut : GoodIn wsX10_left wsX10_clearShut := goodIn_r _ [43, 2, 44, 45, 46, 47, 48, 49, 50, 51, 52, 53, 54, 55, 56, 57, 58, 59, 60, 61, 62, 63, 64, 65, 66, 67, 68, 69, 70, 71, 72, 73, 74, 75, 76, 77] (by decide +kernel) (by decide +kernel)
set_option maxRecDepth 20000 in
theorem gX10_left_X10_clearShut : GoodIn wsX10_left (wsV RX10 198 RX10 yX10_clearShut wsX10_clearShut) := goodIn_app (goodIn_of _ (by decide +kernel)) ggX10_left_X10_clearShut
theorem dX10_left_0 : decode cX10_left 0 = .ok (.aload_n 0, 1) := by decide +kernel
theorem dX10_left_1 : decode cX10_left 1 = .ok (.iconst 0, 1) := by decide +kernel
theorem dX10_left_2 : decode cX10_left 2 = .ok (.putfield 79, 3) := by decide +kernel
theorem dX10_left_5 : decode cX10_left 5 = .ok (.aload_n 0, 1) := by decide +kernel
theorem dX10_left_6 : decode cX10_left 6 = .ok (.iload_n 1, 1) := by decide +kernel
theorem dX10_left_7 : decode cX10_left 7 = .ok (.invokevirtual 151, 3) := by decide +kernel
theorem dX10_left_10 : decode cX10_left 10 = .ok (.ifCond .ne 5, 3) := by decide +kernel
theorem dX10_left_13 : decode cX10_left 13 = .ok (.iconst (-1), 1) := by decide +kernel
theorem dX10_left_14 : decode cX10_left 14 = .ok (.ireturn, 1) := by decide +kernel
theorem dX10_left_15 : decode cX10_left 15 = .ok (.aload_n 0, 1) := by decide +kernel
theorem dX10_left_16 : decode cX10_left 16 = .ok (.invokevirtual 195, 3) := by decide +kernel
theorem dX10_left_19 : decode cX10_left 19 = .ok (.pop, 1) := by decide +kernel
theorem dX10_left_20 : decode cX10_left 20 = .ok (.aload_n 0, 1) := by decide +kernel
theorem dX10_left_21 : decode cX10_left 21 = .ok (.getfield 49, 3) := by decide +kernel
theorem dX10_left_24 : decode cX10_left 24 = .ok (.iload_n 1, 1) := by decide +kernel
theorem dX10_left_25 : decode cX10_left 25 = .ok (.invokestatic 157, 3) := by decide +kernel
theorem dX10_left_28 : decode cX10_left 28 = .ok (.baload, 1) := by decide +kernel
theorem dX10_left_29 : decode cX10_left 29 = .ok (.ifCond .eq 7, 3) := by decide +kernel
theorem dX10_left_32 : decode cX10_left 32 = .ok (.iconst 0, 1) := by decide +kernel
theorem dX10_left_33 : decode cX10_left 33 = .ok (.goto 4, 3) := by decide +kernel
theorem dX10_left_36 : decode cX10_left 36 = .ok (.iconst 1, 1) := by decide +kernel
theorem dX10_left_37 : decode cX10_left 37 = .ok (.istore_n 2, 1) := by decide +kernel
theorem dX10_left_38 : decode cX10_left 38 = .ok (.aload_n 0, 1) := by decide +kernel
theorem dX10_left_39 : decode cX10_left 39 = .ok (.invokevirtual 198, 3) := by decide +kernel
theorem dX10_left_42 : decode cX10_left 42 = .ok (.iload_n 2, 1) := by decide +kernel
theorem dX10_left_43 : decode cX10_left 43 = .ok (.ireturn, 1) := by decide +kernel
set_option maxRecDepth 20000 in
theorem ggX10_far_X10_isCell : GoodIn wsX10_far wsX10_isCell := goodIn_r _ [6, 7, 8, 36, 37, 38, 39, 40, 41, 42, 43, 44, 45, 46, 47, 48, 49, 50, 51, 52, 53, 54, 55, 56, 57, 58, 59, 60, 61, 62, 63, 64, 65, 66, 67, 68, 69] (by decide +kernel) (by decide +kernel)
set_option maxRecDepth 20000 in
theorem gX10_far_X10_isCell : GoodIn wsX10_far (wsV RX10 151 RX10 yX10_isCell wsX10_isCell) := goodIn_app (goodIn_of _ (by decide +kernel)) ggX10_far_X10_isCell
set_option maxRecDepth 20000 in
theorem ggX10_far_X10_index : GoodIn wsX10_far wsX10_index := goodIn_r _ [11] (by decide +kernel) (by decide +kernel)
set_option maxRecDepth 20000 in
theorem gX10_far_X10_index : GoodIn wsX10_far (va_wsS RX10 157 yX10_index wsX10_index) := goodIn_app (goodIn_of _ (by decide +kernel)) ggX10_far_X10_index
set_option maxRecDepth 20000 in
theorem ggX10_far_X10_farOf : GoodIn wsX10_far wsX10_farOf := goodIn_r _ [15, 16, 17, 18, 19, 5, 20, 21, 22, 23, 24, 25, 26, 27, 28, 29, 30, 31, 32, 7, 8, 33, 34, 35, 36, 37, 38, 39, 40, 41, 42, 43, 44, 45, 46, 47, 48, 49, 50, 51, 52, 53, 54, 55, 56, 57, 58, 59, 60, 61, 62, 63, 64, 65, 66, 67, 68, 69] (by decide +kernel) (by decide +kernel)
set_option maxRecDepth 20000 in
theorem gX10_far_X10_farOf : GoodIn wsX10_far (wsV RX10 177 RX10 yX10_farOf wsX10_farOf) := goodIn_app (goodIn_of _ (by decide +kernel)) ggX10_far_X10_farOf
theorem dX10_far_0 : decode cX10_far 0 = .ok (.aload_n 0, 1) := by decide +kernel
theorem dX10_far_1 : decode cX10_far 1 = .ok (.iconst 0, 1) := by decide +kernel
theorem dX10_far_2 : decode cX10_far 2 = .ok (.putfield 79, 3) := by decide +kernel
theorem dX10_far_5 : decode cX10_far 5 = .ok (.aload_n 0, 1) := by decide +kernel
theorem dX10_far_6 : decode cX10_far 6 = .ok (.iload_n 1, 1) := by decide +kernel
theorem dX10_far_7 : decode cX10_far 7 = .ok (.invokevirtual 151, 3) := by decide +kernel
theorem dX10_far_10 : decode cX10_far 10 = .ok (.ifCond .eq 11, 3) := by decide +kernel
theorem dX10_far_13 : decode cX10_far 13 = .ok (.aload_n 0, 1) := by decide +kernel
theorem dX10_far_14 : decode cX10_far 14 = .ok (.iload_n 2, 1) := by decide +kernel
theorem dX10_far_15 : decode cX10_far 15 = .ok (.invokevirtual 151, 3) := by decide +kernel
theorem dX10_far_18 : decode cX10_far 18 = .ok (.ifCond .ne 5, 3) := by decide +kernel
theorem dX10_far_21 : decode cX10_far 21 = .ok (.iconst (-1), 1) := by decide +kernel
theorem dX10_far_22 : decode cX10_far 22 = .ok (.ireturn, 1) := by decide +kernel
theorem dX10_far_23 : decode cX10_far 23 = .ok (.aload_n 0, 1) := by decide +kernel
theorem dX10_far_24 : decode cX10_far 24 = .ok (.iload_n 1, 1) := by decide +kernel
theorem dX10_far_25 : decode cX10_far 25 = .ok (.invokestatic 157, 3) := by decide +kernel
theorem dX10_far_28 : decode cX10_far 28 = .ok (.iload_n 2, 1) := by decide +kernel
theorem dX10_far_29 : decode cX10_far 29 = .ok (.invokestatic 157, 3) := by decide +kernel
theorem dX10_far_32 : decode cX10_far 32 = .ok (.invokevirtual 177, 3) := by decide +kernel
theorem dX10_far_35 : decode cX10_far 35 = .ok (.istore_n 3, 1) := by decide +kernel
theorem dX10_far_36 : decode cX10_far 36 = .ok (.iload_n 3, 1) := by decide +kernel
theorem dX10_far_37 : decode cX10_far 37 = .ok (.sipush 9999, 3) := by decide +kernel
theorem dX10_far_40 : decode cX10_far 40 = .ok (.if_icmp .ne 8, 3) := by decide +kernel
theorem dX10_far_43 : decode cX10_far 43 = .ok (.bipush (-9), 2) := by decide +kernel
theorem dX10_far_45 : decode cX10_far 45 = .ok (.goto 4, 3) := by decide +kernel
theorem dX10_far_48 : decode cX10_far 48 = .ok (.iload_n 3, 1) := by decide +kernel
theorem dX10_far_49 : decode cX10_far 49 = .ok (.ireturn, 1) := by decide +kernel
set_option maxRecDepth 20000 in
theorem ggX10_ways_X10_isCell : GoodIn wsX10_ways wsX10_isCell := goodIn_r _ [9, 10, 11, 34, 35, 36, 37, 38, 39, 40, 41, 42, 43, 44, 45, 46, 47, 48, 49, 50, 51, 52, 53, 54, 55, 56, 57, 58, 59, 60, 61, 62, 63, 64, 65, 66, 67] (by decide +kernel) (by decide +kernel)
set_option maxRecDepth 20000 in
theorem gX10_ways_X10_isCell : GoodIn wsX10_ways (wsV RX10 151 RX10 yX10_isCell wsX10_isCell) := goodIn_app (goodIn_of _ (by decide +kernel)) ggX10_ways_X10_isCell
set_option maxRecDepth 20000 in
theorem ggX10_ways_X10_index : GoodIn wsX10_ways wsX10_index := goodIn_r _ [14] (by decide +kernel) (by decide +kernel)
set_option maxRecDepth 20000 in
theorem gX10_ways_X10_index : GoodIn wsX10_ways (va_wsS RX10 157 yX10_index wsX10_index) := goodIn_app (goodIn_of _ (by decide +kernel)) ggX10_ways_X10_index
set_option maxRecDepth 20000 in
theorem ggX10_ways_X10_layFar : GoodIn wsX10_ways wsX10_layFar := goodIn_r _ [18, 4, 19, 20, 21, 22, 23, 8, 24, 25, 26, 27, 28, 29, 30, 10, 11, 31, 32, 33, 34, 35, 36, 37, 38, 39, 40, 41, 42, 43, 44, 45, 46, 47, 48, 49, 50, 51, 52, 53, 54, 55, 56, 57, 58, 59, 60, 61, 62, 63, 64, 65, 66, 67] (by decide +kernel) (by decide +kernel)
set_option maxRecDepth 20000 in
theorem gX10_ways_X10_layFar : GoodIn wsX10_ways (wsV RX10 170 RX10 yX10_layFar wsX10_layFar) := goodIn_app (goodIn_of _ (by decide +kernel)) ggX10_ways_X10_layFar
set_option maxRecDepth 20000 in
theorem ggX10_ways_X10_isOpen : GoodIn wsX10_ways wsX10_isOpen := goodIn_r _ [24, 25, 26, 27, 28, 29, 8, 30, 10, 11, 31, 32, 33, 34, 35, 36, 37, 38, 39, 40, 41, 42, 43, 44, 45, 46, 47, 48, 49, 50, 51, 52, 53, 54, 55, 56, 57, 58, 59, 60, 61, 62, 63, 64, 65, 66, 67] (by decide +kernel) (by decide +kernel)
set_option maxRecDepth 20000 in
theorem gX10_ways_X10_isOpen : GoodIn wsX10_ways (wsV RX10 160 RX10 yX10_isOpen wsX10_isOpen) := goodIn_app (goodIn_of _ (by decide +kernel)) ggX10_ways_X10_isOpen
set_option maxRecDepth 20000 in
theorem ggX10_ways_X10_beside : GoodIn wsX10_ways wsX10_beside := goodIn_r _ [30, 10, 11, 31, 32, 8, 33, 34, 35, 36, 37, 38, 39, 40, 41, 42, 43, 44, 45, 46, 47, 48, 49, 50, 51, 52, 53, 54, 55, 56, 57, 58, 59, 60, 61, 62, 63, 64, 65, 66, 67] (by decide +kernel) (by decide +kernel)
set_option maxRecDepth 20000 in
theorem gX10_ways_X10_beside : GoodIn wsX10_ways (wsV RX10 113 RX10 yX10_beside wsX10_beside) := goodIn_app (goodIn_of _ (by decide +kernel)) ggX10_ways_X10_beside
theorem dX10_ways_0 : decode cX10_ways 0 = .ok (.aload_n 0, 1) := by decide +kernel
theorem dX10_ways_1 : decode cX10_ways 1 = .ok (.iconst 0, 1) := by decide +kernel
theorem dX10_ways_2 : decode cX10_ways 2 = .ok (.putfield 79, 3) := by decide +kernel
theorem dX10_ways_5 : decode cX10_ways 5 = .ok (.aload_n 0, 1) := by decide +kernel
theorem dX10_ways_6 : decode cX10_ways 6 = .ok (.iload_n 1, 1) := by decide +kernel
theorem dX10_ways_7 : decode cX10_ways 7 = .ok (.invokevirtual 151, 3) := by decide +kernel
theorem dX10_ways_10 : decode cX10_ways 10 = .ok (.ifCond .eq 11, 3) := by decide +kernel
theorem dX10_ways_13 : decode cX10_ways 13 = .ok (.aload_n 0, 1) := by decide +kernel
theorem dX10_ways_14 : decode cX10_ways 14 = .ok (.iload_n 2, 1) := by decide +kernel
theorem dX10_ways_15 : decode cX10_ways 15 = .ok (.invokevirtual 151, 3) := by decide +kernel
theorem dX10_ways_18 : decode cX10_ways 18 = .ok (.ifCond .ne 7, 3) := by decide +kernel
theorem dX10_ways_21 : decode cX10_ways 21 = .ok (.ldc2_w 201, 3) := by decide +kernel
theorem dX10_ways_24 : decode cX10_ways 24 = .ok (.lreturn, 1) := by decide +kernel
theorem dX10_ways_25 : decode cX10_ways 25 = .ok (.aload_n 0, 1) := by decide +kernel
theorem dX10_ways_26 : decode cX10_ways 26 = .ok (.iload_n 1, 1) := by decide +kernel
theorem dX10_ways_27 : decode cX10_ways 27 = .ok (.invokestatic 157, 3) := by decide +kernel
theorem dX10_ways_30 : decode cX10_ways 30 = .ok (.invokevirtual 170, 3) := by decide +kernel
theorem dX10_ways_33 : decode cX10_ways 33 = .ok (.iconst 0, 1) := by decide +kernel
theorem dX10_ways_34 : decode cX10_ways 34 = .ok (.istore_n 3, 1) := by decide +kernel
theorem dX10_ways_35 : decode cX10_ways 35 = .ok (.iload_n 3, 1) := by decide +kernel
theorem dX10_ways_36 : decode cX10_ways 36 = .ok (.bipush 36, 2) := by decide +kernel
theorem dX10_ways_38 : decode cX10_ways 38 = .ok (.if_icmp .ge 28, 3) := by decide +kernel
theorem dX10_ways_41 : decode cX10_ways 41 = .ok (.aload_n 0, 1) := by decide +kernel
theorem dX10_ways_42 : decode cX10_ways 42 = .ok (.getfield 45, 3) := by decide +kernel
theorem dX10_ways_45 : decode cX10_ways 45 = .ok (.iload_n 3, 1) := by decide +kernel
theorem dX10_ways_46 : decode cX10_ways 46 = .ok (.iload_n 3, 1) := by decide +kernel
theorem dX10_ways_47 : decode cX10_ways 47 = .ok (.iload_n 1, 1) := by decide +kernel
theorem dX10_ways_48 : decode cX10_ways 48 = .ok (.invokestatic 157, 3) := by decide +kernel
theorem dX10_ways_51 : decode cX10_ways 51 = .ok (.if_icmp .ne 7, 3) := by decide +kernel
theorem dX10_ways_54 : decode cX10_ways 54 = .ok (.lconst 1, 1) := by decide +kernel
theorem dX10_ways_55 : decode cX10_ways 55 = .ok (.goto 4, 3) := by decide +kernel
theorem dX10_ways_58 : decode cX10_ways 58 = .ok (.lconst 0, 1) := by decide +kernel
theorem dX10_ways_59 : decode cX10_ways 59 = .ok (.lastore, 1) := by decide +kernel
theorem dX10_ways_60 : decode cX10_ways 60 = .ok (.iinc 3 1, 3) := by decide +kernel
theorem dX10_ways_63 : decode cX10_ways 63 = .ok (.goto (-28), 3) := by decide +kernel
theorem dX10_ways_66 : decode cX10_ways 66 = .ok (.iconst 1, 1) := by decide +kernel
theorem dX10_ways_67 : decode cX10_ways 67 = .ok (.istore_n 3, 1) := by decide +kernel
theorem dX10_ways_68 : decode cX10_ways 68 = .ok (.iload_n 3, 1) := by decide +kernel
theorem dX10_ways_69 : decode cX10_ways 69 = .ok (.bipush 36, 2) := by decide +kernel
theorem dX10_ways_71 : decode cX10_ways 71 = .ok (.if_icmp .ge 118, 3) := by decide +kernel
theorem dX10_ways_74 : decode cX10_ways 74 = .ok (.iconst 0, 1) := by decide +kernel
theorem dX10_ways_75 : decode cX10_ways 75 = .ok (.istore 4, 2) := by decide +kernel
theorem dX10_ways_77 : decode cX10_ways 77 = .ok (.iload 4, 2) := by decide +kernel
theorem dX10_ways_79 : decode cX10_ways 79 = .ok (.bipush 36, 2) := by decide +kernel
theorem dX10_ways_81 : decode cX10_ways 81 = .ok (.if_icmp .ge 102, 3) := by decide +kernel
theorem dX10_ways_84 : decode cX10_ways 84 = .ok (.iconst 0, 1) := by decide +kernel
theorem dX10_ways_85 : decode cX10_ways 85 = .ok (.istore 5, 2) := by decide +kernel
theorem dX10_ways_87 : decode cX10_ways 87 = .ok (.iload 5, 2) := by decide +kernel
theorem dX10_ways_89 : decode cX10_ways 89 = .ok (.iconst 4, 1) := by decide +kernel
theorem dX10_ways_90 : decode cX10_ways 90 = .ok (.if_icmp .ge 87, 3) := by decide +kernel
theorem dX10_ways_93 : decode cX10_ways 93 = .ok (.aload_n 0, 1) := by decide +kernel
theorem dX10_ways_94 : decode cX10_ways 94 = .ok (.getfield 39, 3) := by decide +kernel
theorem dX10_ways_97 : decode cX10_ways 97 = .ok (.iload 4, 2) := by decide +kernel
theorem dX10_ways_99 : decode cX10_ways 99 = .ok (.iaload, 1) := by decide +kernel
theorem dX10_ways_100 : decode cX10_ways 100 = .ok (.iload_n 3, 1) := by decide +kernel
theorem dX10_ways_101 : decode cX10_ways 101 = .ok (.if_icmp .ne 76, 3) := by decide +kernel
theorem dX10_ways_104 : decode cX10_ways 104 = .ok (.aload_n 0, 1) := by decide +kernel
theorem dX10_ways_105 : decode cX10_ways 105 = .ok (.iload 4, 2) := by decide +kernel
theorem dX10_ways_107 : decode cX10_ways 107 = .ok (.iload 5, 2) := by decide +kernel
theorem dX10_ways_109 : decode cX10_ways 109 = .ok (.invokevirtual 160, 3) := by decide +kernel
theorem dX10_ways_112 : decode cX10_ways 112 = .ok (.ifCond .eq 14, 3) := by decide +kernel
theorem dX10_ways_115 : decode cX10_ways 115 = .ok (.aload_n 0, 1) := by decide +kernel
theorem dX10_ways_116 : decode cX10_ways 116 = .ok (.iload 4, 2) := by decide +kernel
theorem dX10_ways_118 : decode cX10_ways 118 = .ok (.iload 5, 2) := by decide +kernel
theorem dX10_ways_120 : decode cX10_ways 120 = .ok (.invokevirtual 113, 3) := by decide +kernel
theorem dX10_ways_123 : decode cX10_ways 123 = .ok (.goto 5, 3) := by decide +kernel
theorem dX10_ways_126 : decode cX10_ways 126 = .ok (.bipush (-9), 2) := by decide +kernel
theorem dX10_ways_128 : decode cX10_ways 128 = .ok (.istore 6, 2) := by decide +kernel
theorem dX10_ways_130 : decode cX10_ways 130 = .ok (.aload_n 0, 1) := by decide +kernel
theorem dX10_ways_131 : decode cX10_ways 131 = .ok (.getfield 45, 3) := by decide +kernel
theorem dX10_ways_134 : decode cX10_ways 134 = .ok (.iload 4, 2) := by decide +kernel
theorem dX10_ways_136 : decode cX10_ways 136 = .ok (.dup2, 1) := by decide +kernel
theorem dX10_ways_137 : decode cX10_ways 137 = .ok (.laload, 1) := by decide +kernel
theorem dX10_ways_138 : decode cX10_ways 138 = .ok (.iload 6, 2) := by decide +kernel
theorem dX10_ways_140 : decode cX10_ways 140 = .ok (.bipush (-9), 2) := by decide +kernel
theorem dX10_ways_142 : decode cX10_ways 142 = .ok (.if_icmp .eq 26, 3) := by decide +kernel
theorem dX10_ways_145 : decode cX10_ways 145 = .ok (.aload_n 0, 1) := by decide +kernel
theorem dX10_ways_146 : decode cX10_ways 146 = .ok (.getfield 39, 3) := by decide +kernel
theorem dX10_ways_149 : decode cX10_ways 149 = .ok (.iload 6, 2) := by decide +kernel
theorem dX10_ways_151 : decode cX10_ways 151 = .ok (.iaload, 1) := by decide +kernel
theorem dX10_ways_152 : decode cX10_ways 152 = .ok (.iload_n 3, 1) := by decide +kernel
theorem dX10_ways_153 : decode cX10_ways 153 = .ok (.iconst 1, 1) := by decide +kernel
theorem dX10_ways_154 : decode cX10_ways 154 = .ok (.isub, 1) := by decide +kernel
theorem dX10_ways_155 : decode cX10_ways 155 = .ok (.if_icmp .ne 13, 3) := by decide +kernel
theorem dX10_ways_158 : decode cX10_ways 158 = .ok (.aload_n 0, 1) := by decide +kernel
theorem dX10_ways_159 : decode cX10_ways 159 = .ok (.getfield 45, 3) := by decide +kernel
theorem dX10_ways_162 : decode cX10_ways 162 = .ok (.iload 6, 2) := by decide +kernel
theorem dX10_ways_164 : decode cX10_ways 164 = .ok (.laload, 1) := by decide +kernel
theorem dX10_ways_165 : decode cX10_ways 165 = .ok (.goto 4, 3) := by decide +kernel
theorem dX10_ways_168 : decode cX10_ways 168 = .ok (.lconst 0, 1) := by decide +kernel
theorem dX10_ways_169 : decode cX10_ways 169 = .ok (.ladd, 1) := by decide +kernel
theorem dX10_ways_170 : decode cX10_ways 170 = .ok (.lastore, 1) := by decide +kernel
theorem dX10_ways_171 : decode cX10_ways 171 = .ok (.iinc 5 1, 3) := by decide +kernel
theorem dX10_ways_174 : decode cX10_ways 174 = .ok (.goto (-87), 3) := by decide +kernel
theorem dX10_ways_177 : decode cX10_ways 177 = .ok (.iinc 4 1, 3) := by decide +kernel
theorem dX10_ways_180 : decode cX10_ways 180 = .ok (.goto (-103), 3) := by decide +kernel
theorem dX10_ways_183 : decode cX10_ways 183 = .ok (.iinc 3 1, 3) := by decide +kernel
theorem dX10_ways_186 : decode cX10_ways 186 = .ok (.goto (-118), 3) := by decide +kernel
theorem dX10_ways_189 : decode cX10_ways 189 = .ok (.aload_n 0, 1) := by decide +kernel
theorem dX10_ways_190 : decode cX10_ways 190 = .ok (.getfield 45, 3) := by decide +kernel
theorem dX10_ways_193 : decode cX10_ways 193 = .ok (.iload_n 2, 1) := by decide +kernel
theorem dX10_ways_194 : decode cX10_ways 194 = .ok (.invokestatic 157, 3) := by decide +kernel
theorem dX10_ways_197 : decode cX10_ways 197 = .ok (.laload, 1) := by decide +kernel
theorem dX10_ways_198 : decode cX10_ways 198 = .ok (.lreturn, 1) := by decide +kernel
set_option maxRecDepth 20000 in
theorem ggX10_step_X10_isCell : GoodIn wsX10_step wsX10_isCell := goodIn_r _ [7, 8, 9, 35, 36, 37, 38, 39, 40, 41, 42, 43, 44, 45, 46, 47, 48, 49, 50, 51, 52, 53, 54, 55, 56, 57, 58, 59, 60, 61, 62, 63, 64, 65, 66, 67, 68] (by decide +kernel) (by decide +kernel)
set_option maxRecDepth 20000 in
theorem gX10_step_X10_isCell : GoodIn wsX10_step (wsV RX10 151 RX10 yX10_isCell wsX10_isCell) := goodIn_app (goodIn_of _ (by decide +kernel)) ggX10_step_X10_isCell
set_option maxRecDepth 20000 in
theorem ggX10_step_X10_index : GoodIn wsX10_step wsX10_index := goodIn_r _ [12] (by decide +kernel) (by decide +kernel)
set_option maxRecDepth 20000 in
theorem gX10_step_X10_index : GoodIn wsX10_step (va_wsS RX10 157 yX10_index wsX10_index) := goodIn_app (goodIn_of _ (by decide +kernel)) ggX10_step_X10_index
set_option maxRecDepth 20000 in
theorem ggX10_step_X10_layFar : GoodIn wsX10_step wsX10_layFar := goodIn_r _ [16, 2, 17, 18, 19, 20, 21, 6, 22, 23, 24, 25, 26, 27, 28, 8, 9, 29, 30, 31, 35, 36, 37, 38, 39, 40, 41, 42, 43, 44, 45, 46, 47, 48, 49, 50, 51, 52, 53, 54, 55, 56, 57, 58, 59, 60, 61, 62, 63, 64, 65, 66, 67, 68] (by decide +kernel) (by decide +kernel)
set_option maxRecDepth 20000 in
theorem gX10_step_X10_layFar : GoodIn wsX10_step (wsV RX10 170 RX10 yX10_layFar wsX10_layFar) := goodIn_app (goodIn_of _ (by decide +kernel)) ggX10_step_X10_layFar
set_option maxRecDepth 20000 in
theorem ggX10_step_X10_in : GoodIn wsX10_step wsX10_in := goodIn_r _ [31] (by decide +kernel) (by decide +kernel)
set_option maxRecDepth 20000 in
theorem gX10_step_X10_in : GoodIn wsX10_step (va_wsS RX10 84 yX10_in wsX10_in) := goodIn_app (goodIn_of _ (by decide +kernel)) ggX10_step_X10_in
set_option maxRecDepth 20000 in
theorem ggX10_step_X10_isOpen : GoodIn wsX10_step wsX10_isOpen := goodIn_r _ [22, 23, 24, 25, 26, 27, 6, 28, 8, 9, 29, 30, 31, 35, 36, 37, 38, 39, 40, 41, 42, 43, 44, 45, 46, 47, 48, 49, 50, 51, 52, 53, 54, 55, 56, 57, 58, 59, 60, 61, 62, 63, 64, 65, 66, 67, 68] (by decide +kernel) (by decide +kernel)
set_option maxRecDepth 20000 in
theorem gX10_step_X10_isOpen : GoodIn wsX10_step (wsV RX10 160 RX10 yX10_isOpen wsX10_isOpen) := goodIn_app (goodIn_of _ (by decide +kernel)) ggX10_step_X10_isOpen
set_option maxRecDepth 20000 in
theorem ggX10_step_X10_beside : GoodIn wsX10_step wsX10_beside := goodIn_r _ [28, 8, 9, 29, 30, 6, 31, 35, 36, 37, 38, 39, 40, 41, 42, 43, 44, 45, 46, 47, 48, 49, 50, 51, 52, 53, 54, 55, 56, 57, 58, 59, 60, 61, 62, 63, 64, 65, 66, 67, 68] (by decide +kernel) (by decide +kernel)
set_option maxRecDepth 20000 in
theorem gX10_step_X10_beside : GoodIn wsX10_step (wsV RX10 113 RX10 yX10_beside wsX10_beside) := goodIn_app (goodIn_of _ (by decide +kernel)) ggX10_step_X10_beside
set_option maxRecDepth 20000 in
theorem ggX10_step_X10_code : GoodIn wsX10_step wsX10_code := goodIn_r _ [34] (by decide +kernel) (by decide +kernel)
set_option maxRecDepth 20000 in
theorem gX10_step_X10_code : GoodIn wsX10_step (va_wsS RX10 164 yX10_code wsX10_code) := goodIn_app (goodIn_of _ (by decide +kernel)) ggX10_step_X10_code
theorem dX10_step_0 : decode cX10_step 0 = .ok (.aload_n 0, 1) := by decide +kernel
theorem dX10_step_1 : decode cX10_step 1 = .ok (.iconst 0, 1) := by decide +kernel
theorem dX10_step_2 : decode cX10_step 2 = .ok (.putfield 79, 3) := by decide +kernel
theorem dX10_step_5 : decode cX10_step 5 = .ok (.aload_n 0, 1) := by decide +kernel
theorem dX10_step_6 : decode cX10_step 6 = .ok (.iload_n 1, 1) := by decide +kernel
theorem dX10_step_7 : decode cX10_step 7 = .ok (.invokevirtual 151, 3) := by decide +kernel
theorem dX10_step_10 : decode cX10_step 10 = .ok (.ifCond .eq 11, 3) := by decide +kernel
theorem dX10_step_13 : decode cX10_step 13 = .ok (.aload_n 0, 1) := by decide +kernel
theorem dX10_step_14 : decode cX10_step 14 = .ok (.iload_n 2, 1) := by decide +kernel
theorem dX10_step_15 : decode cX10_step 15 = .ok (.invokevirtual 151, 3) := by decide +kernel
theorem dX10_step_18 : decode cX10_step 18 = .ok (.ifCond .ne 5, 3) := by decide +kernel
theorem dX10_step_21 : decode cX10_step 21 = .ok (.iconst (-1), 1) := by decide +kernel
theorem dX10_step_22 : decode cX10_step 22 = .ok (.ireturn, 1) := by decide +kernel
theorem dX10_step_23 : decode cX10_step 23 = .ok (.aload_n 0, 1) := by decide +kernel
theorem dX10_step_24 : decode cX10_step 24 = .ok (.iload_n 2, 1) := by decide +kernel
theorem dX10_step_25 : decode cX10_step 25 = .ok (.invokestatic 157, 3) := by decide +kernel
theorem dX10_step_28 : decode cX10_step 28 = .ok (.invokevirtual 170, 3) := by decide +kernel
theorem dX10_step_31 : decode cX10_step 31 = .ok (.iload_n 1, 1) := by decide +kernel
theorem dX10_step_32 : decode cX10_step 32 = .ok (.invokestatic 157, 3) := by decide +kernel
theorem dX10_step_35 : decode cX10_step 35 = .ok (.istore 4, 2) := by decide +kernel
theorem dX10_step_37 : decode cX10_step 37 = .ok (.aload_n 0, 1) := by decide +kernel
theorem dX10_step_38 : decode cX10_step 38 = .ok (.getfield 39, 3) := by decide +kernel
theorem dX10_step_41 : decode cX10_step 41 = .ok (.iload 4, 2) := by decide +kernel
theorem dX10_step_43 : decode cX10_step 43 = .ok (.iaload, 1) := by decide +kernel
theorem dX10_step_44 : decode cX10_step 44 = .ok (.sipush 9999, 3) := by decide +kernel
theorem dX10_step_47 : decode cX10_step 47 = .ok (.if_icmp .eq 20, 3) := by decide +kernel
theorem dX10_step_50 : decode cX10_step 50 = .ok (.iload_n 3, 1) := by decide +kernel
theorem dX10_step_51 : decode cX10_step 51 = .ok (.i2l, 1) := by decide +kernel
theorem dX10_step_52 : decode cX10_step 52 = .ok (.lconst 0, 1) := by decide +kernel
theorem dX10_step_53 : decode cX10_step 53 = .ok (.aload_n 0, 1) := by decide +kernel
theorem dX10_step_54 : decode cX10_step 54 = .ok (.getfield 39, 3) := by decide +kernel
theorem dX10_step_57 : decode cX10_step 57 = .ok (.iload 4, 2) := by decide +kernel
theorem dX10_step_59 : decode cX10_step 59 = .ok (.iaload, 1) := by decide +kernel
theorem dX10_step_60 : decode cX10_step 60 = .ok (.i2l, 1) := by decide +kernel
theorem dX10_step_61 : decode cX10_step 61 = .ok (.invokestatic 84, 3) := by decide +kernel
theorem dX10_step_64 : decode cX10_step 64 = .ok (.ifCond .ne 6, 3) := by decide +kernel
theorem dX10_step_67 : decode cX10_step 67 = .ok (.bipush (-9), 2) := by decide +kernel
theorem dX10_step_69 : decode cX10_step 69 = .ok (.ireturn, 1) := by decide +kernel
theorem dX10_step_70 : decode cX10_step 70 = .ok (.iconst 0, 1) := by decide +kernel
theorem dX10_step_71 : decode cX10_step 71 = .ok (.istore 5, 2) := by decide +kernel
theorem dX10_step_73 : decode cX10_step 73 = .ok (.iload 5, 2) := by decide +kernel
theorem dX10_step_75 : decode cX10_step 75 = .ok (.iload_n 3, 1) := by decide +kernel
theorem dX10_step_76 : decode cX10_step 76 = .ok (.if_icmp .ge 64, 3) := by decide +kernel
theorem dX10_step_79 : decode cX10_step 79 = .ok (.iconst 0, 1) := by decide +kernel
theorem dX10_step_80 : decode cX10_step 80 = .ok (.istore 6, 2) := by decide +kernel
theorem dX10_step_82 : decode cX10_step 82 = .ok (.aload_n 0, 1) := by decide +kernel
theorem dX10_step_83 : decode cX10_step 83 = .ok (.iload 4, 2) := by decide +kernel
theorem dX10_step_85 : decode cX10_step 85 = .ok (.iload 6, 2) := by decide +kernel
theorem dX10_step_87 : decode cX10_step 87 = .ok (.invokevirtual 160, 3) := by decide +kernel
theorem dX10_step_90 : decode cX10_step 90 = .ok (.ifCond .eq 28, 3) := by decide +kernel
theorem dX10_step_93 : decode cX10_step 93 = .ok (.aload_n 0, 1) := by decide +kernel
theorem dX10_step_94 : decode cX10_step 94 = .ok (.getfield 39, 3) := by decide +kernel
theorem dX10_step_97 : decode cX10_step 97 = .ok (.aload_n 0, 1) := by decide +kernel
theorem dX10_step_98 : decode cX10_step 98 = .ok (.iload 4, 2) := by decide +kernel
theorem dX10_step_100 : decode cX10_step 100 = .ok (.iload 6, 2) := by decide +kernel
theorem dX10_step_102 : decode cX10_step 102 = .ok (.invokevirtual 113, 3) := by decide +kernel
theorem dX10_step_105 : decode cX10_step 105 = .ok (.iaload, 1) := by decide +kernel
theorem dX10_step_106 : decode cX10_step 106 = .ok (.aload_n 0, 1) := by decide +kernel
theorem dX10_step_107 : decode cX10_step 107 = .ok (.getfield 39, 3) := by decide +kernel
theorem dX10_step_110 : decode cX10_step 110 = .ok (.iload 4, 2) := by decide +kernel
theorem dX10_step_112 : decode cX10_step 112 = .ok (.iaload, 1) := by decide +kernel
theorem dX10_step_113 : decode cX10_step 113 = .ok (.iconst 1, 1) := by decide +kernel
theorem dX10_step_114 : decode cX10_step 114 = .ok (.isub, 1) := by decide +kernel
theorem dX10_step_115 : decode cX10_step 115 = .ok (.if_icmp .eq 9, 3) := by decide +kernel
theorem dX10_step_118 : decode cX10_step 118 = .ok (.iinc 6 1, 3) := by decide +kernel
theorem dX10_step_121 : decode cX10_step 121 = .ok (.goto (-39), 3) := by decide +kernel
theorem dX10_step_124 : decode cX10_step 124 = .ok (.aload_n 0, 1) := by decide +kernel
theorem dX10_step_125 : decode cX10_step 125 = .ok (.iload 4, 2) := by decide +kernel
theorem dX10_step_127 : decode cX10_step 127 = .ok (.iload 6, 2) := by decide +kernel
theorem dX10_step_129 : decode cX10_step 129 = .ok (.invokevirtual 113, 3) := by decide +kernel
theorem dX10_step_132 : decode cX10_step 132 = .ok (.istore 4, 2) := by decide +kernel
theorem dX10_step_134 : decode cX10_step 134 = .ok (.iinc 5 1, 3) := by decide +kernel
theorem dX10_step_137 : decode cX10_step 137 = .ok (.goto (-64), 3) := by decide +kernel
theorem dX10_step_140 : decode cX10_step 140 = .ok (.iload 4, 2) := by decide +kernel
theorem dX10_step_142 : decode cX10_step 142 = .ok (.invokestatic 164, 3) := by decide +kernel
theorem dX10_step_145 : decode cX10_step 145 = .ok (.ireturn, 1) := by decide +kernel
set_option maxRecDepth 20000 in
theorem ggX10_widest_X10_isCell : GoodIn wsX10_widest wsX10_isCell := goodIn_r _ [8, 9, 10, 41, 42, 43, 44, 45, 46, 47, 48, 49, 50, 51, 52, 53, 54, 55, 56, 57, 58, 59, 60, 61, 62, 63, 64, 65, 66, 67, 68, 69, 70, 71, 72, 73, 74] (by decide +kernel) (by decide +kernel)
set_option maxRecDepth 20000 in
theorem gX10_widest_X10_isCell : GoodIn wsX10_widest (wsV RX10 151 RX10 yX10_isCell wsX10_isCell) := goodIn_app (goodIn_of _ (by decide +kernel)) ggX10_widest_X10_isCell
set_option maxRecDepth 20000 in
theorem ggX10_widest_X10_layParts : GoodIn wsX10_widest wsX10_layParts := goodIn_r _ [14, 2, 3, 15, 16, 17, 7, 18, 9, 10, 19, 20, 21, 22, 23, 24, 25, 26, 27, 28, 29, 30, 31, 32, 33, 34, 35, 36, 37, 41, 42, 43, 44, 45, 46, 47, 48, 49, 50, 51, 52, 53, 54, 55, 56, 57, 58, 59, 60, 61, 62, 63, 64, 65, 66, 67, 68, 69, 70, 71, 72, 73, 74] (by decide +kernel) (by decide +kernel)
set_option maxRecDepth 20000 in
theorem gX10_widest_X10_layParts : GoodIn wsX10_widest (wsV RX10 133 RX10 yX10_layParts wsX10_layParts) := goodIn_app (goodIn_of _ (by decide +kernel)) ggX10_widest_X10_layParts
set_option maxRecDepth 20000 in
theorem ggX10_widest_X10_index : GoodIn wsX10_widest wsX10_index := goodIn_r _ [40] (by decide +kernel) (by decide +kernel)
set_option maxRecDepth 20000 in
theorem gX10_widest_X10_index : GoodIn wsX10_widest (va_wsS RX10 157 yX10_index wsX10_index) := goodIn_app (goodIn_of _ (by decide +kernel)) ggX10_widest_X10_index
set_option maxRecDepth 20000 in
theorem ggX10_widest_X10_layFar : GoodIn wsX10_widest wsX10_layFar := goodIn_r _ [22, 3, 23, 24, 25, 26, 27, 7, 28, 29, 30, 31, 32, 33, 34, 9, 10, 35, 36, 37, 41, 42, 43, 44, 45, 46, 47, 48, 49, 50, 51, 52, 53, 54, 55, 56, 57, 58, 59, 60, 61, 62, 63, 64, 65, 66, 67, 68, 69, 70, 71, 72, 73, 74] (by decide +kernel) (by decide +kernel)
set_option maxRecDepth 20000 in
theorem gX10_widest_X10_layFar : GoodIn wsX10_widest (wsV RX10 170 RX10 yX10_layFar wsX10_layFar) := goodIn_app (goodIn_of _ (by decide +kernel)) ggX10_widest_X10_layFar
theorem dX10_widest_0 : decode cX10_widest 0 = .ok (.aload_n 0, 1) := by decide +kernel
theorem dX10_widest_1 : decode cX10_widest 1 = .ok (.iconst 0, 1) := by decide +kernel
theorem dX10_widest_2 : decode cX10_widest 2 = .ok (.putfield 79, 3) := by decide +kernel
theorem dX10_widest_5 : decode cX10_widest 5 = .ok (.aload_n 0, 1) := by decide +kernel
theorem dX10_widest_6 : decode cX10_widest 6 = .ok (.iload_n 1, 1) := by decide +kernel
theorem dX10_widest_7 : decode cX10_widest 7 = .ok (.invokevirtual 151, 3) := by decide +kernel
theorem dX10_widest_10 : decode cX10_widest 10 = .ok (.ifCond .ne 5, 3) := by decide +kernel
theorem dX10_widest_13 : decode cX10_widest 13 = .ok (.iconst (-1), 1) := by decide +kernel
theorem dX10_widest_14 : decode cX10_widest 14 = .ok (.ireturn, 1) := by decide +kernel
theorem dX10_widest_15 : decode cX10_widest 15 = .ok (.aload_n 0, 1) := by decide +kernel
theorem dX10_widest_16 : decode cX10_widest 16 = .ok (.invokevirtual 133, 3) := by decide +kernel
theorem dX10_widest_19 : decode cX10_widest 19 = .ok (.pop, 1) := by decide +kernel
theorem dX10_widest_20 : decode cX10_widest 20 = .ok (.aload_n 0, 1) := by decide +kernel
theorem dX10_widest_21 : decode cX10_widest 21 = .ok (.getfield 52, 3) := by decide +kernel
theorem dX10_widest_24 : decode cX10_widest 24 = .ok (.iload_n 1, 1) := by decide +kernel
theorem dX10_widest_25 : decode cX10_widest 25 = .ok (.invokestatic 157, 3) := by decide +kernel
theorem dX10_widest_28 : decode cX10_widest 28 = .ok (.iaload, 1) := by decide +kernel
theorem dX10_widest_29 : decode cX10_widest 29 = .ok (.istore_n 2, 1) := by decide +kernel
theorem dX10_widest_30 : decode cX10_widest 30 = .ok (.iconst 0, 1) := by decide +kernel
theorem dX10_widest_31 : decode cX10_widest 31 = .ok (.istore_n 3, 1) := by decide +kernel
theorem dX10_widest_32 : decode cX10_widest 32 = .ok (.iconst 0, 1) := by decide +kernel
theorem dX10_widest_33 : decode cX10_widest 33 = .ok (.istore 4, 2) := by decide +kernel
theorem dX10_widest_35 : decode cX10_widest 35 = .ok (.iload 4, 2) := by decide +kernel
theorem dX10_widest_37 : decode cX10_widest 37 = .ok (.bipush 36, 2) := by decide +kernel
theorem dX10_widest_39 : decode cX10_widest 39 = .ok (.if_icmp .ge 78, 3) := by decide +kernel
theorem dX10_widest_42 : decode cX10_widest 42 = .ok (.aload_n 0, 1) := by decide +kernel
theorem dX10_widest_43 : decode cX10_widest 43 = .ok (.getfield 52, 3) := by decide +kernel
theorem dX10_widest_46 : decode cX10_widest 46 = .ok (.iload 4, 2) := by decide +kernel
theorem dX10_widest_48 : decode cX10_widest 48 = .ok (.iaload, 1) := by decide +kernel
theorem dX10_widest_49 : decode cX10_widest 49 = .ok (.iload_n 2, 1) := by decide +kernel
theorem dX10_widest_50 : decode cX10_widest 50 = .ok (.if_icmp .ne 61, 3) := by decide +kernel
theorem dX10_widest_53 : decode cX10_widest 53 = .ok (.aload_n 0, 1) := by decide +kernel
theorem dX10_widest_54 : decode cX10_widest 54 = .ok (.iload 4, 2) := by decide +kernel
theorem dX10_widest_56 : decode cX10_widest 56 = .ok (.invokevirtual 170, 3) := by decide +kernel
theorem dX10_widest_59 : decode cX10_widest 59 = .ok (.iconst 0, 1) := by decide +kernel
theorem dX10_widest_60 : decode cX10_widest 60 = .ok (.istore 5, 2) := by decide +kernel
theorem dX10_widest_62 : decode cX10_widest 62 = .ok (.iload 5, 2) := by decide +kernel
theorem dX10_widest_64 : decode cX10_widest 64 = .ok (.bipush 36, 2) := by decide +kernel
theorem dX10_widest_66 : decode cX10_widest 66 = .ok (.if_icmp .ge 45, 3) := by decide +kernel
theorem dX10_widest_69 : decode cX10_widest 69 = .ok (.aload_n 0, 1) := by decide +kernel
theorem dX10_widest_70 : decode cX10_widest 70 = .ok (.getfield 39, 3) := by decide +kernel
theorem dX10_widest_73 : decode cX10_widest 73 = .ok (.iload 5, 2) := by decide +kernel
theorem dX10_widest_75 : decode cX10_widest 75 = .ok (.iaload, 1) := by decide +kernel
theorem dX10_widest_76 : decode cX10_widest 76 = .ok (.sipush 9999, 3) := by decide +kernel
theorem dX10_widest_79 : decode cX10_widest 79 = .ok (.if_icmp .ge 24, 3) := by decide +kernel
theorem dX10_widest_82 : decode cX10_widest 82 = .ok (.aload_n 0, 1) := by decide +kernel
theorem dX10_widest_83 : decode cX10_widest 83 = .ok (.getfield 39, 3) := by decide +kernel
theorem dX10_widest_86 : decode cX10_widest 86 = .ok (.iload 5, 2) := by decide +kernel
theorem dX10_widest_88 : decode cX10_widest 88 = .ok (.iaload, 1) := by decide +kernel
theorem dX10_widest_89 : decode cX10_widest 89 = .ok (.iload_n 3, 1) := by decide +kernel
theorem dX10_widest_90 : decode cX10_widest 90 = .ok (.if_icmp .le 13, 3) := by decide +kernel
theorem dX10_widest_93 : decode cX10_widest 93 = .ok (.aload_n 0, 1) := by decide +kernel
theorem dX10_widest_94 : decode cX10_widest 94 = .ok (.getfield 39, 3) := by decide +kernel
theorem dX10_widest_97 : decode cX10_widest 97 = .ok (.iload 5, 2) := by decide +kernel
theorem dX10_widest_99 : decode cX10_widest 99 = .ok (.iaload, 1) := by decide +kernel
theorem dX10_widest_100 : decode cX10_widest 100 = .ok (.goto 4, 3) := by decide +kernel
theorem dX10_widest_103 : decode cX10_widest 103 = .ok (.iload_n 3, 1) := by decide +kernel
theorem dX10_widest_104 : decode cX10_widest 104 = .ok (.istore_n 3, 1) := by decide +kernel
theorem dX10_widest_105 : decode cX10_widest 105 = .ok (.iinc 5 1, 3) := by decide +kernel
theorem dX10_widest_108 : decode cX10_widest 108 = .ok (.goto (-46), 3) := by decide +kernel
theorem dX10_widest_111 : decode cX10_widest 111 = .ok (.iinc 4 1, 3) := by decide +kernel
theorem dX10_widest_114 : decode cX10_widest 114 = .ok (.goto (-79), 3) := by decide +kernel
theorem dX10_widest_117 : decode cX10_widest 117 = .ok (.iload_n 3, 1) := by decide +kernel
theorem dX10_widest_118 : decode cX10_widest 118 = .ok (.ireturn, 1) := by decide +kernel
set_option maxRecDepth 20000 in
theorem ggX10_handStep_X10_isOpen : GoodIn wsX10_handStep wsX10_isOpen := goodIn_r _ [7, 8, 9, 10, 11, 12, 6, 13, 14, 15, 16, 17, 18, 19, 20, 21, 22, 23, 24, 25, 26, 27, 28, 29, 30, 31, 32, 33, 34, 35, 36, 37, 38, 39, 40, 41, 42, 43, 44, 45, 46, 47, 48, 49, 50, 51, 52] (by decide +kernel) (by decide +kernel)
set_option maxRecDepth 20000 in
theorem gX10_handStep_X10_isOpen : GoodIn wsX10_handStep (wsV RX10 160 RX10 yX10_isOpen wsX10_isOpen) := goodIn_app (goodIn_of _ (by decide +kernel)) ggX10_handStep_X10_isOpen
set_option maxRecDepth 20000 in
theorem ggX10_handStep_X10_beside : GoodIn wsX10_handStep wsX10_beside := goodIn_r _ [13, 14, 15, 16, 17, 6, 18, 19, 20, 21, 22, 23, 24, 25, 26, 27, 28, 29, 30, 31, 32, 33, 34, 35, 36, 37, 38, 39, 40, 41, 42, 43, 44, 45, 46, 47, 48, 49, 50, 51, 52] (by decide +kernel) (by decide +kernel)
set_option maxRecDepth 20000 in
theorem gX10_handStep_X10_beside : GoodIn wsX10_handStep (wsV RX10 113 RX10 yX10_beside wsX10_beside) := goodIn_app (goodIn_of _ (by decide +kernel)) ggX10_handStep_X10_beside
theorem dX10_handStep_0 : decode cX10_handStep 0 = .ok (.iload_n 1, 1) := by decide +kernel
theorem dX10_handStep_1 : decode cX10_handStep 1 = .ok (.ifCond .eq 7, 3) := by decide +kernel
theorem dX10_handStep_4 : decode cX10_handStep 4 = .ok (.iconst 1, 1) := by decide +kernel
theorem dX10_handStep_5 : decode cX10_handStep 5 = .ok (.goto 4, 3) := by decide +kernel
theorem dX10_handStep_8 : decode cX10_handStep 8 = .ok (.iconst 3, 1) := by decide +kernel
theorem dX10_handStep_9 : decode cX10_handStep 9 = .ok (.istore_n 2, 1) := by decide +kernel
theorem dX10_handStep_10 : decode cX10_handStep 10 = .ok (.iconst 0, 1) := by decide +kernel
theorem dX10_handStep_11 : decode cX10_handStep 11 = .ok (.istore_n 3, 1) := by decide +kernel
theorem dX10_handStep_12 : decode cX10_handStep 12 = .ok (.iload_n 3, 1) := by decide +kernel
theorem dX10_handStep_13 : decode cX10_handStep 13 = .ok (.iconst 4, 1) := by decide +kernel
theorem dX10_handStep_14 : decode cX10_handStep 14 = .ok (.if_icmp .ge 88, 3) := by decide +kernel
theorem dX10_handStep_17 : decode cX10_handStep 17 = .ok (.iload_n 3, 1) := by decide +kernel
theorem dX10_handStep_18 : decode cX10_handStep 18 = .ok (.iconst 3, 1) := by decide +kernel
theorem dX10_handStep_19 : decode cX10_handStep 19 = .ok (.if_icmp .ne 14, 3) := by decide +kernel
theorem dX10_handStep_22 : decode cX10_handStep 22 = .ok (.aload_n 0, 1) := by decide +kernel
theorem dX10_handStep_23 : decode cX10_handStep 23 = .ok (.getfield 203, 3) := by decide +kernel
theorem dX10_handStep_26 : decode cX10_handStep 26 = .ok (.iconst 2, 1) := by decide +kernel
theorem dX10_handStep_27 : decode cX10_handStep 27 = .ok (.iadd, 1) := by decide +kernel
theorem dX10_handStep_28 : decode cX10_handStep 28 = .ok (.iconst 4, 1) := by decide +kernel
theorem dX10_handStep_29 : decode cX10_handStep 29 = .ok (.irem, 1) := by decide +kernel
theorem dX10_handStep_30 : decode cX10_handStep 30 = .ok (.goto 30, 3) := by decide +kernel
theorem dX10_handStep_33 : decode cX10_handStep 33 = .ok (.aload_n 0, 1) := by decide +kernel
theorem dX10_handStep_34 : decode cX10_handStep 34 = .ok (.getfield 203, 3) := by decide +kernel
theorem dX10_handStep_37 : decode cX10_handStep 37 = .ok (.iload_n 3, 1) := by decide +kernel
theorem dX10_handStep_38 : decode cX10_handStep 38 = .ok (.ifCond .ne 7, 3) := by decide +kernel
theorem dX10_handStep_41 : decode cX10_handStep 41 = .ok (.iload_n 2, 1) := by decide +kernel
theorem dX10_handStep_42 : decode cX10_handStep 42 = .ok (.goto 15, 3) := by decide +kernel
theorem dX10_handStep_45 : decode cX10_handStep 45 = .ok (.iload_n 3, 1) := by decide +kernel
theorem dX10_handStep_46 : decode cX10_handStep 46 = .ok (.iconst 1, 1) := by decide +kernel
theorem dX10_handStep_47 : decode cX10_handStep 47 = .ok (.if_icmp .ne 7, 3) := by decide +kernel
theorem dX10_handStep_50 : decode cX10_handStep 50 = .ok (.iconst 0, 1) := by decide +kernel
theorem dX10_handStep_51 : decode cX10_handStep 51 = .ok (.goto 6, 3) := by decide +kernel
theorem dX10_handStep_54 : decode cX10_handStep 54 = .ok (.iconst 4, 1) := by decide +kernel
theorem dX10_handStep_55 : decode cX10_handStep 55 = .ok (.iload_n 2, 1) := by decide +kernel
theorem dX10_handStep_56 : decode cX10_handStep 56 = .ok (.isub, 1) := by decide +kernel
theorem dX10_handStep_57 : decode cX10_handStep 57 = .ok (.iadd, 1) := by decide +kernel
theorem dX10_handStep_58 : decode cX10_handStep 58 = .ok (.iconst 4, 1) := by decide +kernel
theorem dX10_handStep_59 : decode cX10_handStep 59 = .ok (.irem, 1) := by decide +kernel
theorem dX10_handStep_60 : decode cX10_handStep 60 = .ok (.istore 4, 2) := by decide +kernel
theorem dX10_handStep_62 : decode cX10_handStep 62 = .ok (.aload_n 0, 1) := by decide +kernel
theorem dX10_handStep_63 : decode cX10_handStep 63 = .ok (.aload_n 0, 1) := by decide +kernel
theorem dX10_handStep_64 : decode cX10_handStep 64 = .ok (.getfield 206, 3) := by decide +kernel
theorem dX10_handStep_67 : decode cX10_handStep 67 = .ok (.iload 4, 2) := by decide +kernel
theorem dX10_handStep_69 : decode cX10_handStep 69 = .ok (.invokevirtual 160, 3) := by decide +kernel
theorem dX10_handStep_72 : decode cX10_handStep 72 = .ok (.ifCond .eq 24, 3) := by decide +kernel
theorem dX10_handStep_75 : decode cX10_handStep 75 = .ok (.aload_n 0, 1) := by decide +kernel
theorem dX10_handStep_76 : decode cX10_handStep 76 = .ok (.iload 4, 2) := by decide +kernel
theorem dX10_handStep_78 : decode cX10_handStep 78 = .ok (.putfield 203, 3) := by decide +kernel
theorem dX10_handStep_81 : decode cX10_handStep 81 = .ok (.aload_n 0, 1) := by decide +kernel
theorem dX10_handStep_82 : decode cX10_handStep 82 = .ok (.aload_n 0, 1) := by decide +kernel
theorem dX10_handStep_83 : decode cX10_handStep 83 = .ok (.aload_n 0, 1) := by decide +kernel
theorem dX10_handStep_84 : decode cX10_handStep 84 = .ok (.getfield 206, 3) := by decide +kernel
theorem dX10_handStep_87 : decode cX10_handStep 87 = .ok (.iload 4, 2) := by decide +kernel
theorem dX10_handStep_89 : decode cX10_handStep 89 = .ok (.invokevirtual 113, 3) := by decide +kernel
theorem dX10_handStep_92 : decode cX10_handStep 92 = .ok (.putfield 206, 3) := by decide +kernel
theorem dX10_handStep_95 : decode cX10_handStep 95 = .ok (.return_, 1) := by decide +kernel
theorem dX10_handStep_96 : decode cX10_handStep 96 = .ok (.iinc 3 1, 3) := by decide +kernel
theorem dX10_handStep_99 : decode cX10_handStep 99 = .ok (.goto (-87), 3) := by decide +kernel
theorem dX10_handStep_102 : decode cX10_handStep 102 = .ok (.return_, 1) := by decide +kernel
set_option maxRecDepth 20000 in
theorem ggX10_hand_X10_isSide : GoodIn wsX10_hand wsX10_isSide := goodIn_r _ [9, 10, 11, 12, 8, 13] (by decide +kernel) (by decide +kernel)
set_option maxRecDepth 20000 in
theorem gX10_hand_X10_isSide : GoodIn wsX10_hand (va_wsS RX10 154 yX10_isSide wsX10_isSide) := goodIn_app (goodIn_of _ (by decide +kernel)) ggX10_hand_X10_isSide
set_option maxRecDepth 20000 in
theorem ggX10_hand_X10_handStep : GoodIn wsX10_hand wsX10_handStep := goodIn_r _ [17, 4, 3, 18, 19, 20, 8, 21, 22, 23, 24, 25, 26, 27, 28, 29, 11, 12, 13, 30, 31, 32, 33, 34, 35, 36, 37, 38, 39, 40, 41, 42, 43, 44, 45, 46, 47, 48, 49, 50, 51, 52, 53, 54, 55, 56, 57, 58, 59, 60, 61, 62, 63] (by decide +kernel) (by decide +kernel)
set_option maxRecDepth 20000 in
theorem gX10_hand_X10_handStep : GoodIn wsX10_hand (wsV RX10 209 RX10 yX10_handStep wsX10_handStep) := goodIn_app (goodIn_of _ (by decide +kernel)) ggX10_hand_X10_handStep
theorem dX10_hand_0 : decode cX10_hand 0 = .ok (.aload_n 0, 1) := by decide +kernel
theorem dX10_hand_1 : decode cX10_hand 1 = .ok (.iconst 0, 1) := by decide +kernel
theorem dX10_hand_2 : decode cX10_hand 2 = .ok (.putfield 79, 3) := by decide +kernel
theorem dX10_hand_5 : decode cX10_hand 5 = .ok (.iload_n 1, 1) := by decide +kernel
theorem dX10_hand_6 : decode cX10_hand 6 = .ok (.invokestatic 154, 3) := by decide +kernel
theorem dX10_hand_9 : decode cX10_hand 9 = .ok (.ifCond .ne 5, 3) := by decide +kernel
theorem dX10_hand_12 : decode cX10_hand 12 = .ok (.iconst (-1), 1) := by decide +kernel
theorem dX10_hand_13 : decode cX10_hand 13 = .ok (.ireturn, 1) := by decide +kernel
theorem dX10_hand_14 : decode cX10_hand 14 = .ok (.aload_n 0, 1) := by decide +kernel
theorem dX10_hand_15 : decode cX10_hand 15 = .ok (.aload_n 0, 1) := by decide +kernel
theorem dX10_hand_16 : decode cX10_hand 16 = .ok (.getfield 103, 3) := by decide +kernel
theorem dX10_hand_19 : decode cX10_hand 19 = .ok (.putfield 206, 3) := by decide +kernel
theorem dX10_hand_22 : decode cX10_hand 22 = .ok (.aload_n 0, 1) := by decide +kernel
theorem dX10_hand_23 : decode cX10_hand 23 = .ok (.iload_n 1, 1) := by decide +kernel
theorem dX10_hand_24 : decode cX10_hand 24 = .ok (.putfield 203, 3) := by decide +kernel
theorem dX10_hand_27 : decode cX10_hand 27 = .ok (.iconst 0, 1) := by decide +kernel
theorem dX10_hand_28 : decode cX10_hand 28 = .ok (.istore_n 3, 1) := by decide +kernel
theorem dX10_hand_29 : decode cX10_hand 29 = .ok (.iload_n 3, 1) := by decide +kernel
theorem dX10_hand_30 : decode cX10_hand 30 = .ok (.sipush 144, 3) := by decide +kernel
theorem dX10_hand_33 : decode cX10_hand 33 = .ok (.if_icmp .gt 27, 3) := by decide +kernel
theorem dX10_hand_36 : decode cX10_hand 36 = .ok (.aload_n 0, 1) := by decide +kernel
theorem dX10_hand_37 : decode cX10_hand 37 = .ok (.getfield 206, 3) := by decide +kernel
theorem dX10_hand_40 : decode cX10_hand 40 = .ok (.aload_n 0, 1) := by decide +kernel
theorem dX10_hand_41 : decode cX10_hand 41 = .ok (.getfield 106, 3) := by decide +kernel
theorem dX10_hand_44 : decode cX10_hand 44 = .ok (.if_icmp .ne 5, 3) := by decide +kernel
theorem dX10_hand_47 : decode cX10_hand 47 = .ok (.iload_n 3, 1) := by decide +kernel
theorem dX10_hand_48 : decode cX10_hand 48 = .ok (.ireturn, 1) := by decide +kernel
theorem dX10_hand_49 : decode cX10_hand 49 = .ok (.aload_n 0, 1) := by decide +kernel
theorem dX10_hand_50 : decode cX10_hand 50 = .ok (.iload_n 2, 1) := by decide +kernel
theorem dX10_hand_51 : decode cX10_hand 51 = .ok (.invokevirtual 209, 3) := by decide +kernel
theorem dX10_hand_54 : decode cX10_hand 54 = .ok (.iinc 3 1, 3) := by decide +kernel
theorem dX10_hand_57 : decode cX10_hand 57 = .ok (.goto (-28), 3) := by decide +kernel
theorem dX10_hand_60 : decode cX10_hand 60 = .ok (.bipush (-9), 2) := by decide +kernel
theorem dX10_hand_62 : decode cX10_hand 62 = .ok (.ireturn, 1) := by decide +kernel
set_option maxRecDepth 20000 in
theorem ggX10_handAt_X10_isSide : GoodIn wsX10_handAt wsX10_isSide := goodIn_r _ [9, 10, 11, 12, 8, 13] (by decide +kernel) (by decide +kernel)
set_option maxRecDepth 20000 in
theorem gX10_handAt_X10_isSide : GoodIn wsX10_handAt (va_wsS RX10 154 yX10_isSide wsX10_isSide) := goodIn_app (goodIn_of _ (by decide +kernel)) ggX10_handAt_X10_isSide
set_option maxRecDepth 20000 in
theorem ggX10_handAt_X10_in : GoodIn wsX10_handAt wsX10_in := goodIn_r _ [13] (by decide +kernel) (by decide +kernel)
set_option maxRecDepth 20000 in
theorem gX10_handAt_X10_in : GoodIn wsX10_handAt (va_wsS RX10 84 yX10_in wsX10_in) := goodIn_app (goodIn_of _ (by decide +kernel)) ggX10_handAt_X10_in
set_option maxRecDepth 20000 in
theorem ggX10_handAt_X10_handStep : GoodIn wsX10_handAt wsX10_handStep := goodIn_r _ [17, 5, 4, 18, 19, 20, 8, 21, 22, 23, 24, 25, 26, 27, 28, 29, 11, 12, 13, 33, 34, 35, 36, 37, 38, 39, 40, 41, 42, 43, 44, 45, 46, 47, 48, 49, 50, 51, 52, 53, 54, 55, 56, 57, 58, 59, 60, 61, 62, 63, 64, 65, 66] (by decide +kernel) (by decide +kernel)
set_option maxRecDepth 20000 in
theorem gX10_handAt_X10_handStep : GoodIn wsX10_handAt (wsV RX10 209 RX10 yX10_handStep wsX10_handStep) := goodIn_app (goodIn_of _ (by decide +kernel)) ggX10_handAt_X10_handStep
set_option maxRecDepth 20000 in
theorem ggX10_handAt_X10_code : GoodIn wsX10_handAt wsX10_code := goodIn_r _ [32] (by decide +kernel) (by decide +kernel)
set_option maxRecDepth 20000 in
theorem gX10_handAt_X10_code : GoodIn wsX10_handAt (va_wsS RX10 164 yX10_code wsX10_code) := goodIn_app (goodIn_of _ (by decide +kernel)) ggX10_handAt_X10_code
theorem dX10_handAt_0 : decode cX10_handAt 0 = .ok (.aload_n 0, 1) := by decide +kernel
theorem dX10_handAt_1 : decode cX10_handAt 1 = .ok (.iconst 0, 1) := by decide +kernel
theorem dX10_handAt_2 : decode cX10_handAt 2 = .ok (.putfield 79, 3) := by decide +kernel
theorem dX10_handAt_5 : decode cX10_handAt 5 = .ok (.iload_n 1, 1) := by decide +kernel
theorem dX10_handAt_6 : decode cX10_handAt 6 = .ok (.invokestatic 154, 3) := by decide +kernel
theorem dX10_handAt_9 : decode cX10_handAt 9 = .ok (.ifCond .ne 5, 3) := by decide +kernel
theorem dX10_handAt_12 : decode cX10_handAt 12 = .ok (.iconst (-1), 1) := by decide +kernel
theorem dX10_handAt_13 : decode cX10_handAt 13 = .ok (.ireturn, 1) := by decide +kernel
theorem dX10_handAt_14 : decode cX10_handAt 14 = .ok (.iload_n 3, 1) := by decide +kernel
theorem dX10_handAt_15 : decode cX10_handAt 15 = .ok (.i2l, 1) := by decide +kernel
theorem dX10_handAt_16 : decode cX10_handAt 16 = .ok (.lconst 0, 1) := by decide +kernel
theorem dX10_handAt_17 : decode cX10_handAt 17 = .ok (.ldc2_w 213, 3) := by decide +kernel
theorem dX10_handAt_20 : decode cX10_handAt 20 = .ok (.invokestatic 84, 3) := by decide +kernel
theorem dX10_handAt_23 : decode cX10_handAt 23 = .ok (.ifCond .ne 6, 3) := by decide +kernel
theorem dX10_handAt_26 : decode cX10_handAt 26 = .ok (.bipush (-2), 2) := by decide +kernel
theorem dX10_handAt_28 : decode cX10_handAt 28 = .ok (.ireturn, 1) := by decide +kernel
theorem dX10_handAt_29 : decode cX10_handAt 29 = .ok (.aload_n 0, 1) := by decide +kernel
theorem dX10_handAt_30 : decode cX10_handAt 30 = .ok (.aload_n 0, 1) := by decide +kernel
theorem dX10_handAt_31 : decode cX10_handAt 31 = .ok (.getfield 103, 3) := by decide +kernel
theorem dX10_handAt_34 : decode cX10_handAt 34 = .ok (.putfield 206, 3) := by decide +kernel
theorem dX10_handAt_37 : decode cX10_handAt 37 = .ok (.aload_n 0, 1) := by decide +kernel
theorem dX10_handAt_38 : decode cX10_handAt 38 = .ok (.iload_n 1, 1) := by decide +kernel
theorem dX10_handAt_39 : decode cX10_handAt 39 = .ok (.putfield 203, 3) := by decide +kernel
theorem dX10_handAt_42 : decode cX10_handAt 42 = .ok (.iconst 0, 1) := by decide +kernel
theorem dX10_handAt_43 : decode cX10_handAt 43 = .ok (.istore 4, 2) := by decide +kernel
theorem dX10_handAt_45 : decode cX10_handAt 45 = .ok (.iload 4, 2) := by decide +kernel
theorem dX10_handAt_47 : decode cX10_handAt 47 = .ok (.iload_n 3, 1) := by decide +kernel
theorem dX10_handAt_48 : decode cX10_handAt 48 = .ok (.if_icmp .ge 14, 3) := by decide +kernel
theorem dX10_handAt_51 : decode cX10_handAt 51 = .ok (.aload_n 0, 1) := by decide +kernel
theorem dX10_handAt_52 : decode cX10_handAt 52 = .ok (.iload_n 2, 1) := by decide +kernel
theorem dX10_handAt_53 : decode cX10_handAt 53 = .ok (.invokevirtual 209, 3) := by decide +kernel
theorem dX10_handAt_56 : decode cX10_handAt 56 = .ok (.iinc 4 1, 3) := by decide +kernel
theorem dX10_handAt_59 : decode cX10_handAt 59 = .ok (.goto (-14), 3) := by decide +kernel
theorem dX10_handAt_62 : decode cX10_handAt 62 = .ok (.aload_n 0, 1) := by decide +kernel
theorem dX10_handAt_63 : decode cX10_handAt 63 = .ok (.getfield 206, 3) := by decide +kernel
theorem dX10_handAt_66 : decode cX10_handAt 66 = .ok (.invokestatic 164, 3) := by decide +kernel
theorem dX10_handAt_69 : decode cX10_handAt 69 = .ok (.ireturn, 1) := by decide +kernel
set_option maxRecDepth 20000 in
theorem ggX10_goThread_X10_isOpen : GoodIn wsX10_goThread wsX10_isOpen := goodIn_r _ [11, 12, 13, 14, 15, 16, 10, 17, 18, 19, 20, 21, 22, 23, 24, 25, 26, 27, 28, 29, 30, 31, 32, 33, 34, 35, 36, 37, 38, 39, 40, 41, 42, 43, 44, 45, 46, 47, 48, 49, 50, 51, 52, 53, 54, 55, 56] (by decide +kernel) (by decide +kernel)
set_option maxRecDepth 20000 in
theorem gX10_goThread_X10_isOpen : GoodIn wsX10_goThread (wsV RX10 160 RX10 yX10_isOpen wsX10_isOpen) := goodIn_app (goodIn_of _ (by decide +kernel)) ggX10_goThread_X10_isOpen
set_option maxRecDepth 20000 in
theorem ggX10_goThread_X10_beside : GoodIn wsX10_goThread wsX10_beside := goodIn_r _ [17, 18, 19, 20, 21, 10, 22, 23, 24, 25, 26, 27, 28, 29, 30, 31, 32, 33, 34, 35, 36, 37, 38, 39, 40, 41, 42, 43, 44, 45, 46, 47, 48, 49, 50, 51, 52, 53, 54, 55, 56] (by decide +kernel) (by decide +kernel)
set_option maxRecDepth 20000 in
theorem gX10_goThread_X10_beside : GoodIn wsX10_goThread (wsV RX10 113 RX10 yX10_beside wsX10_beside) := goodIn_app (goodIn_of _ (by decide +kernel)) ggX10_goThread_X10_beside
theorem dX10_goThread_0 : decode cX10_goThread 0 = .ok (.iconst 0, 1) := by decide +kernel
theorem dX10_goThread_1 : decode cX10_goThread 1 = .ok (.istore_n 1, 1) := by decide +kernel
theorem dX10_goThread_2 : decode cX10_goThread 2 = .ok (.iload_n 1, 1) := by decide +kernel
theorem dX10_goThread_3 : decode cX10_goThread 3 = .ok (.bipush 36, 2) := by decide +kernel
theorem dX10_goThread_5 : decode cX10_goThread 5 = .ok (.if_icmp .ge 16, 3) := by decide +kernel
theorem dX10_goThread_8 : decode cX10_goThread 8 = .ok (.aload_n 0, 1) := by decide +kernel
theorem dX10_goThread_9 : decode cX10_goThread 9 = .ok (.getfield 58, 3) := by decide +kernel
theorem dX10_goThread_12 : decode cX10_goThread 12 = .ok (.iload_n 1, 1) := by decide +kernel
theorem dX10_goThread_13 : decode cX10_goThread 13 = .ok (.iconst 0, 1) := by decide +kernel
theorem dX10_goThread_14 : decode cX10_goThread 14 = .ok (.bastore, 1) := by decide +kernel
theorem dX10_goThread_15 : decode cX10_goThread 15 = .ok (.iinc 1 1, 3) := by decide +kernel
theorem dX10_goThread_18 : decode cX10_goThread 18 = .ok (.goto (-16), 3) := by decide +kernel
theorem dX10_goThread_21 : decode cX10_goThread 21 = .ok (.aload_n 0, 1) := by decide +kernel
theorem dX10_goThread_22 : decode cX10_goThread 22 = .ok (.aload_n 0, 1) := by decide +kernel
theorem dX10_goThread_23 : decode cX10_goThread 23 = .ok (.getfield 103, 3) := by decide +kernel
theorem dX10_goThread_26 : decode cX10_goThread 26 = .ok (.putfield 206, 3) := by decide +kernel
theorem dX10_goThread_29 : decode cX10_goThread 29 = .ok (.aload_n 0, 1) := by decide +kernel
theorem dX10_goThread_30 : decode cX10_goThread 30 = .ok (.getfield 58, 3) := by decide +kernel
theorem dX10_goThread_33 : decode cX10_goThread 33 = .ok (.aload_n 0, 1) := by decide +kernel
theorem dX10_goThread_34 : decode cX10_goThread 34 = .ok (.getfield 103, 3) := by decide +kernel
theorem dX10_goThread_37 : decode cX10_goThread 37 = .ok (.iconst 1, 1) := by decide +kernel
theorem dX10_goThread_38 : decode cX10_goThread 38 = .ok (.bastore, 1) := by decide +kernel
theorem dX10_goThread_39 : decode cX10_goThread 39 = .ok (.aload_n 0, 1) := by decide +kernel
theorem dX10_goThread_40 : decode cX10_goThread 40 = .ok (.getfield 55, 3) := by decide +kernel
theorem dX10_goThread_43 : decode cX10_goThread 43 = .ok (.aload_n 0, 1) := by decide +kernel
theorem dX10_goThread_44 : decode cX10_goThread 44 = .ok (.getfield 103, 3) := by decide +kernel
theorem dX10_goThread_47 : decode cX10_goThread 47 = .ok (.bipush (-9), 2) := by decide +kernel
theorem dX10_goThread_49 : decode cX10_goThread 49 = .ok (.iastore, 1) := by decide +kernel
theorem dX10_goThread_50 : decode cX10_goThread 50 = .ok (.aload_n 0, 1) := by decide +kernel
theorem dX10_goThread_51 : decode cX10_goThread 51 = .ok (.iconst 1, 1) := by decide +kernel
theorem dX10_goThread_52 : decode cX10_goThread 52 = .ok (.putfield 215, 3) := by decide +kernel
theorem dX10_goThread_55 : decode cX10_goThread 55 = .ok (.iconst 0, 1) := by decide +kernel
theorem dX10_goThread_56 : decode cX10_goThread 56 = .ok (.istore_n 1, 1) := by decide +kernel
theorem dX10_goThread_57 : decode cX10_goThread 57 = .ok (.aload_n 0, 1) := by decide +kernel
theorem dX10_goThread_58 : decode cX10_goThread 58 = .ok (.getfield 206, 3) := by decide +kernel
theorem dX10_goThread_61 : decode cX10_goThread 61 = .ok (.aload_n 0, 1) := by decide +kernel
theorem dX10_goThread_62 : decode cX10_goThread 62 = .ok (.getfield 106, 3) := by decide +kernel
theorem dX10_goThread_65 : decode cX10_goThread 65 = .ok (.if_icmp .eq 144, 3) := by decide +kernel
theorem dX10_goThread_68 : decode cX10_goThread 68 = .ok (.bipush (-9), 2) := by decide +kernel
theorem dX10_goThread_70 : decode cX10_goThread 70 = .ok (.istore_n 2, 1) := by decide +kernel
theorem dX10_goThread_71 : decode cX10_goThread 71 = .ok (.iconst 3, 1) := by decide +kernel
theorem dX10_goThread_72 : decode cX10_goThread 72 = .ok (.istore_n 3, 1) := by decide +kernel
theorem dX10_goThread_73 : decode cX10_goThread 73 = .ok (.iload_n 3, 1) := by decide +kernel
theorem dX10_goThread_74 : decode cX10_goThread 74 = .ok (.ifCond .lt 52, 3) := by decide +kernel
theorem dX10_goThread_77 : decode cX10_goThread 77 = .ok (.aload_n 0, 1) := by decide +kernel
theorem dX10_goThread_78 : decode cX10_goThread 78 = .ok (.aload_n 0, 1) := by decide +kernel
theorem dX10_goThread_79 : decode cX10_goThread 79 = .ok (.getfield 206, 3) := by decide +kernel
theorem dX10_goThread_82 : decode cX10_goThread 82 = .ok (.iload_n 3, 1) := by decide +kernel
theorem dX10_goThread_83 : decode cX10_goThread 83 = .ok (.invokevirtual 160, 3) := by decide +kernel
theorem dX10_goThread_86 : decode cX10_goThread 86 = .ok (.ifCond .eq 32, 3) := by decide +kernel
theorem dX10_goThread_89 : decode cX10_goThread 89 = .ok (.aload_n 0, 1) := by decide +kernel
theorem dX10_goThread_90 : decode cX10_goThread 90 = .ok (.getfield 58, 3) := by decide +kernel
theorem dX10_goThread_93 : decode cX10_goThread 93 = .ok (.aload_n 0, 1) := by decide +kernel
theorem dX10_goThread_94 : decode cX10_goThread 94 = .ok (.aload_n 0, 1) := by decide +kernel
theorem dX10_goThread_95 : decode cX10_goThread 95 = .ok (.getfield 206, 3) := by decide +kernel
theorem dX10_goThread_98 : decode cX10_goThread 98 = .ok (.iload_n 3, 1) := by decide +kernel
theorem dX10_goThread_99 : decode cX10_goThread 99 = .ok (.invokevirtual 113, 3) := by decide +kernel
theorem dX10_goThread_102 : decode cX10_goThread 102 = .ok (.baload, 1) := by decide +kernel
theorem dX10_goThread_103 : decode cX10_goThread 103 = .ok (.ifCond .ne 15, 3) := by decide +kernel
theorem dX10_goThread_106 : decode cX10_goThread 106 = .ok (.aload_n 0, 1) := by decide +kernel
theorem dX10_goThread_107 : decode cX10_goThread 107 = .ok (.aload_n 0, 1) := by decide +kernel
theorem dX10_goThread_108 : decode cX10_goThread 108 = .ok (.getfield 206, 3) := by decide +kernel
theorem dX10_goThread_111 : decode cX10_goThread 111 = .ok (.iload_n 3, 1) := by decide +kernel
theorem dX10_goThread_112 : decode cX10_goThread 112 = .ok (.invokevirtual 113, 3) := by decide +kernel
theorem dX10_goThread_115 : decode cX10_goThread 115 = .ok (.goto 4, 3) := by decide +kernel
theorem dX10_goThread_118 : decode cX10_goThread 118 = .ok (.iload_n 2, 1) := by decide +kernel
theorem dX10_goThread_119 : decode cX10_goThread 119 = .ok (.istore_n 2, 1) := by decide +kernel
theorem dX10_goThread_120 : decode cX10_goThread 120 = .ok (.iinc 3 (-1), 3) := by decide +kernel
theorem dX10_goThread_123 : decode cX10_goThread 123 = .ok (.goto (-50), 3) := by decide +kernel
theorem dX10_goThread_126 : decode cX10_goThread 126 = .ok (.iload_n 2, 1) := by decide +kernel
theorem dX10_goThread_127 : decode cX10_goThread 127 = .ok (.bipush (-9), 2) := by decide +kernel
theorem dX10_goThread_129 : decode cX10_goThread 129 = .ok (.if_icmp .ne 20, 3) := by decide +kernel
theorem dX10_goThread_132 : decode cX10_goThread 132 = .ok (.aload_n 0, 1) := by decide +kernel
theorem dX10_goThread_133 : decode cX10_goThread 133 = .ok (.getfield 55, 3) := by decide +kernel
theorem dX10_goThread_136 : decode cX10_goThread 136 = .ok (.aload_n 0, 1) := by decide +kernel
theorem dX10_goThread_137 : decode cX10_goThread 137 = .ok (.getfield 206, 3) := by decide +kernel
theorem dX10_goThread_140 : decode cX10_goThread 140 = .ok (.iaload, 1) := by decide +kernel
theorem dX10_goThread_141 : decode cX10_goThread 141 = .ok (.bipush (-9), 2) := by decide +kernel
theorem dX10_goThread_143 : decode cX10_goThread 143 = .ok (.if_icmp .ne 6, 3) := by decide +kernel
theorem dX10_goThread_146 : decode cX10_goThread 146 = .ok (.bipush (-9), 2) := by decide +kernel
theorem dX10_goThread_148 : decode cX10_goThread 148 = .ok (.ireturn, 1) := by decide +kernel
theorem dX10_goThread_149 : decode cX10_goThread 149 = .ok (.iload_n 2, 1) := by decide +kernel
theorem dX10_goThread_150 : decode cX10_goThread 150 = .ok (.bipush (-9), 2) := by decide +kernel
theorem dX10_goThread_152 : decode cX10_goThread 152 = .ok (.if_icmp .ne 19, 3) := by decide +kernel
theorem dX10_goThread_155 : decode cX10_goThread 155 = .ok (.aload_n 0, 1) := by decide +kernel
theorem dX10_goThread_156 : decode cX10_goThread 156 = .ok (.aload_n 0, 1) := by decide +kernel
theorem dX10_goThread_157 : decode cX10_goThread 157 = .ok (.getfield 55, 3) := by decide +kernel
theorem dX10_goThread_160 : decode cX10_goThread 160 = .ok (.aload_n 0, 1) := by decide +kernel
theorem dX10_goThread_161 : decode cX10_goThread 161 = .ok (.getfield 206, 3) := by decide +kernel
theorem dX10_goThread_164 : decode cX10_goThread 164 = .ok (.iaload, 1) := by decide +kernel
theorem dX10_goThread_165 : decode cX10_goThread 165 = .ok (.putfield 206, 3) := by decide +kernel
theorem dX10_goThread_168 : decode cX10_goThread 168 = .ok (.goto 35, 3) := by decide +kernel
theorem dX10_goThread_171 : decode cX10_goThread 171 = .ok (.aload_n 0, 1) := by decide +kernel
theorem dX10_goThread_172 : decode cX10_goThread 172 = .ok (.getfield 55, 3) := by decide +kernel
theorem dX10_goThread_175 : decode cX10_goThread 175 = .ok (.iload_n 2, 1) := by decide +kernel
theorem dX10_goThread_176 : decode cX10_goThread 176 = .ok (.aload_n 0, 1) := by decide +kernel
theorem dX10_goThread_177 : decode cX10_goThread 177 = .ok (.getfield 206, 3) := by decide +kernel
theorem dX10_goThread_180 : decode cX10_goThread 180 = .ok (.iastore, 1) := by decide +kernel
theorem dX10_goThread_181 : decode cX10_goThread 181 = .ok (.aload_n 0, 1) := by decide +kernel
theorem dX10_goThread_182 : decode cX10_goThread 182 = .ok (.getfield 58, 3) := by decide +kernel
theorem dX10_goThread_185 : decode cX10_goThread 185 = .ok (.iload_n 2, 1) := by decide +kernel
theorem dX10_goThread_186 : decode cX10_goThread 186 = .ok (.iconst 1, 1) := by decide +kernel
theorem dX10_goThread_187 : decode cX10_goThread 187 = .ok (.bastore, 1) := by decide +kernel
theorem dX10_goThread_188 : decode cX10_goThread 188 = .ok (.aload_n 0, 1) := by decide +kernel
theorem dX10_goThread_189 : decode cX10_goThread 189 = .ok (.dup, 1) := by decide +kernel
theorem dX10_goThread_190 : decode cX10_goThread 190 = .ok (.getfield 215, 3) := by decide +kernel
theorem dX10_goThread_193 : decode cX10_goThread 193 = .ok (.iconst 1, 1) := by decide +kernel
theorem dX10_goThread_194 : decode cX10_goThread 194 = .ok (.iadd, 1) := by decide +kernel
theorem dX10_goThread_195 : decode cX10_goThread 195 = .ok (.putfield 215, 3) := by decide +kernel
theorem dX10_goThread_198 : decode cX10_goThread 198 = .ok (.aload_n 0, 1) := by decide +kernel
theorem dX10_goThread_199 : decode cX10_goThread 199 = .ok (.iload_n 2, 1) := by decide +kernel
theorem dX10_goThread_200 : decode cX10_goThread 200 = .ok (.putfield 206, 3) := by decide +kernel
theorem dX10_goThread_203 : decode cX10_goThread 203 = .ok (.iinc 1 1, 3) := by decide +kernel
theorem dX10_goThread_206 : decode cX10_goThread 206 = .ok (.goto (-149), 3) := by decide +kernel
theorem dX10_goThread_209 : decode cX10_goThread 209 = .ok (.iload_n 1, 1) := by decide +kernel
theorem dX10_goThread_210 : decode cX10_goThread 210 = .ok (.ireturn, 1) := by decide +kernel
set_option maxRecDepth 20000 in
theorem ggX10_thread_X10_goThread : GoodIn wsX10_thread wsX10_goThread := goodIn_r _ [6, 7, 8, 9, 10, 11, 12, 13, 14, 15, 5, 16, 17, 18, 19, 20, 21, 22, 23, 24, 25, 26, 27, 28, 29, 30, 31, 32, 33, 34, 35, 36, 37, 38, 39, 40, 41, 42, 43, 44, 45, 46, 47, 48, 49, 50, 51, 52, 53, 54, 55, 56, 57, 58, 59, 60, 61] (by decide +kernel) (by decide +kernel)
set_option maxRecDepth 20000 in
theorem gX10_thread_X10_goThread : GoodIn wsX10_thread (wsV RX10 218 RX10 yX10_goThread wsX10_goThread) := goodIn_app (goodIn_of _ (by decide +kernel)) ggX10_thread_X10_goThread
theorem dX10_thread_0 : decode cX10_thread 0 = .ok (.aload_n 0, 1) := by decide +kernel
theorem dX10_thread_1 : decode cX10_thread 1 = .ok (.iconst 0, 1) := by decide +kernel
theorem dX10_thread_2 : decode cX10_thread 2 = .ok (.putfield 79, 3) := by decide +kernel
theorem dX10_thread_5 : decode cX10_thread 5 = .ok (.aload_n 0, 1) := by decide +kernel
theorem dX10_thread_6 : decode cX10_thread 6 = .ok (.invokevirtual 218, 3) := by decide +kernel
theorem dX10_thread_9 : decode cX10_thread 9 = .ok (.ireturn, 1) := by decide +kernel
set_option maxRecDepth 20000 in
theorem ggX10_seen_X10_goThread : GoodIn wsX10_seen wsX10_goThread := goodIn_r _ [7, 8, 9, 10, 11, 2, 12, 13, 14, 15, 6, 16, 17, 18, 19, 20, 21, 22, 23, 24, 25, 26, 27, 28, 29, 30, 31, 32, 33, 34, 35, 36, 37, 38, 39, 40, 41, 42, 43, 44, 45, 46, 47, 48, 49, 50, 51, 52, 53, 54, 55, 56, 57, 58, 59, 60, 61] (by decide +kernel) (by decide +kernel)
set_option maxRecDepth 20000 in
theorem gX10_seen_X10_goThread : GoodIn wsX10_seen (wsV RX10 218 RX10 yX10_goThread wsX10_goThread) := goodIn_app (goodIn_of _ (by decide +kernel)) ggX10_seen_X10_goThread
theorem dX10_seen_0 : decode cX10_seen 0 = .ok (.aload_n 0, 1) := by decide +kernel
theorem dX10_seen_1 : decode cX10_seen 1 = .ok (.iconst 0, 1) := by decide +kernel
theorem dX10_seen_2 : decode cX10_seen 2 = .ok (.putfield 79, 3) := by decide +kernel
theorem dX10_seen_5 : decode cX10_seen 5 = .ok (.aload_n 0, 1) := by decide +kernel
theorem dX10_seen_6 : decode cX10_seen 6 = .ok (.invokevirtual 218, 3) := by decide +kernel
theorem dX10_seen_9 : decode cX10_seen 9 = .ok (.pop, 1) := by decide +kernel
theorem dX10_seen_10 : decode cX10_seen 10 = .ok (.aload_n 0, 1) := by decide +kernel
theorem dX10_seen_11 : decode cX10_seen 11 = .ok (.getfield 215, 3) := by decide +kernel
theorem dX10_seen_14 : decode cX10_seen 14 = .ok (.ireturn, 1) := by decide +kernel
set_option maxRecDepth 20000 in
theorem ggX10_layMembers_X10_layParts : GoodIn wsX10_layMembers wsX10_layParts := goodIn_r _ [8, 1, 9, 10, 11, 12, 7, 13, 14, 15, 16, 17, 18, 19, 20, 21, 22, 23, 24, 25, 26, 27, 28, 29, 30, 31, 32, 33, 34, 35, 36, 37, 38, 39, 40, 41, 42, 43, 44, 45, 46, 47, 48, 49, 50, 51, 52, 53, 54, 55, 56, 57, 58, 59, 60, 61, 62, 63, 64, 65, 66, 67, 68] (by decide +kernel) (by decide +kernel)
set_option maxRecDepth 20000 in
theorem gX10_layMembers_X10_layParts : GoodIn wsX10_layMembers (wsV RX10 133 RX10 yX10_layParts wsX10_layParts) := goodIn_app (goodIn_of _ (by decide +kernel)) ggX10_layMembers_X10_layParts
theorem dX10_layMembers_0 : decode cX10_layMembers 0 = .ok (.aload_n 0, 1) := by decide +kernel
theorem dX10_layMembers_1 : decode cX10_layMembers 1 = .ok (.invokevirtual 133, 3) := by decide +kernel
theorem dX10_layMembers_4 : decode cX10_layMembers 4 = .ok (.pop, 1) := by decide +kernel
theorem dX10_layMembers_5 : decode cX10_layMembers 5 = .ok (.aload_n 0, 1) := by decide +kernel
theorem dX10_layMembers_6 : decode cX10_layMembers 6 = .ok (.getfield 52, 3) := by decide +kernel
theorem dX10_layMembers_9 : decode cX10_layMembers 9 = .ok (.iload_n 1, 1) := by decide +kernel
theorem dX10_layMembers_10 : decode cX10_layMembers 10 = .ok (.iaload, 1) := by decide +kernel
theorem dX10_layMembers_11 : decode cX10_layMembers 11 = .ok (.istore_n 3, 1) := by decide +kernel
theorem dX10_layMembers_12 : decode cX10_layMembers 12 = .ok (.iconst 0, 1) := by decide +kernel
theorem dX10_layMembers_13 : decode cX10_layMembers 13 = .ok (.istore 4, 2) := by decide +kernel
theorem dX10_layMembers_15 : decode cX10_layMembers 15 = .ok (.iconst 0, 1) := by decide +kernel
theorem dX10_layMembers_16 : decode cX10_layMembers 16 = .ok (.istore 5, 2) := by decide +kernel
theorem dX10_layMembers_18 : decode cX10_layMembers 18 = .ok (.iload 5, 2) := by decide +kernel
theorem dX10_layMembers_20 : decode cX10_layMembers 20 = .ok (.bipush 36, 2) := by decide +kernel
theorem dX10_layMembers_22 : decode cX10_layMembers 22 = .ok (.if_icmp .ge 56, 3) := by decide +kernel
theorem dX10_layMembers_25 : decode cX10_layMembers 25 = .ok (.aload_n 0, 1) := by decide +kernel
theorem dX10_layMembers_26 : decode cX10_layMembers 26 = .ok (.getfield 67, 3) := by decide +kernel
theorem dX10_layMembers_29 : decode cX10_layMembers 29 = .ok (.iload 5, 2) := by decide +kernel
theorem dX10_layMembers_31 : decode cX10_layMembers 31 = .ok (.bipush (-9), 2) := by decide +kernel
theorem dX10_layMembers_33 : decode cX10_layMembers 33 = .ok (.iastore, 1) := by decide +kernel
theorem dX10_layMembers_34 : decode cX10_layMembers 34 = .ok (.aload_n 0, 1) := by decide +kernel
theorem dX10_layMembers_35 : decode cX10_layMembers 35 = .ok (.getfield 52, 3) := by decide +kernel
theorem dX10_layMembers_38 : decode cX10_layMembers 38 = .ok (.iload 5, 2) := by decide +kernel
theorem dX10_layMembers_40 : decode cX10_layMembers 40 = .ok (.iaload, 1) := by decide +kernel
theorem dX10_layMembers_41 : decode cX10_layMembers 41 = .ok (.iload_n 3, 1) := by decide +kernel
theorem dX10_layMembers_42 : decode cX10_layMembers 42 = .ok (.if_icmp .ne 30, 3) := by decide +kernel
theorem dX10_layMembers_45 : decode cX10_layMembers 45 = .ok (.iload 5, 2) := by decide +kernel
theorem dX10_layMembers_47 : decode cX10_layMembers 47 = .ok (.iload_n 2, 1) := by decide +kernel
theorem dX10_layMembers_48 : decode cX10_layMembers 48 = .ok (.if_icmp .eq 24, 3) := by decide +kernel
theorem dX10_layMembers_51 : decode cX10_layMembers 51 = .ok (.aload_n 0, 1) := by decide +kernel
theorem dX10_layMembers_52 : decode cX10_layMembers 52 = .ok (.getfield 64, 3) := by decide +kernel
theorem dX10_layMembers_55 : decode cX10_layMembers 55 = .ok (.iload 4, 2) := by decide +kernel
theorem dX10_layMembers_57 : decode cX10_layMembers 57 = .ok (.iload 5, 2) := by decide +kernel
theorem dX10_layMembers_59 : decode cX10_layMembers 59 = .ok (.iastore, 1) := by decide +kernel
theorem dX10_layMembers_60 : decode cX10_layMembers 60 = .ok (.aload_n 0, 1) := by decide +kernel
theorem dX10_layMembers_61 : decode cX10_layMembers 61 = .ok (.getfield 67, 3) := by decide +kernel
theorem dX10_layMembers_64 : decode cX10_layMembers 64 = .ok (.iload 5, 2) := by decide +kernel
theorem dX10_layMembers_66 : decode cX10_layMembers 66 = .ok (.iload 4, 2) := by decide +kernel
theorem dX10_layMembers_68 : decode cX10_layMembers 68 = .ok (.iastore, 1) := by decide +kernel
theorem dX10_layMembers_69 : decode cX10_layMembers 69 = .ok (.iinc 4 1, 3) := by decide +kernel
theorem dX10_layMembers_72 : decode cX10_layMembers 72 = .ok (.iinc 5 1, 3) := by decide +kernel
theorem dX10_layMembers_75 : decode cX10_layMembers 75 = .ok (.goto (-57), 3) := by decide +kernel
theorem dX10_layMembers_78 : decode cX10_layMembers 78 = .ok (.iload 4, 2) := by decide +kernel
theorem dX10_layMembers_80 : decode cX10_layMembers 80 = .ok (.ireturn, 1) := by decide +kernel
set_option maxRecDepth 20000 in
theorem ggX10_layMatrix_X10_neighbours : GoodIn wsX10_layMatrix wsX10_neighbours := goodIn_r _ [8, 9, 10, 11, 7, 12, 13, 14, 15, 16, 17, 18, 19, 20, 21, 22, 23, 24, 25, 26, 27, 28, 29, 30, 31, 32, 33, 34, 35, 36, 37, 38, 39, 40, 41, 42, 43, 44, 45, 46, 47, 48, 49, 50, 51, 52, 53, 54, 55, 56, 57] (by decide +kernel) (by decide +kernel)
set_option maxRecDepth 20000 in
theorem gX10_layMatrix_X10_neighbours : GoodIn wsX10_layMatrix (wsV RX10 183 RX10 yX10_neighbours wsX10_neighbours) := goodIn_app (goodIn_of _ (by decide +kernel)) ggX10_layMatrix_X10_neighbours
set_option maxRecDepth 20000 in
theorem ggX10_layMatrix_X10_isOpen : GoodIn wsX10_layMatrix wsX10_isOpen := goodIn_r _ [12, 13, 14, 15, 16, 17, 7, 18, 19, 20, 21, 22, 23, 24, 25, 26, 27, 28, 29, 30, 31, 32, 33, 34, 35, 36, 37, 38, 39, 40, 41, 42, 43, 44, 45, 46, 47, 48, 49, 50, 51, 52, 53, 54, 55, 56, 57] (by decide +kernel) (by decide +kernel)
set_option maxRecDepth 20000 in
theorem gX10_layMatrix_X10_isOpen : GoodIn wsX10_layMatrix (wsV RX10 160 RX10 yX10_isOpen wsX10_isOpen) := goodIn_app (goodIn_of _ (by decide +kernel)) ggX10_layMatrix_X10_isOpen
set_option maxRecDepth 20000 in
theorem ggX10_layMatrix_X10_beside : GoodIn wsX10_layMatrix wsX10_beside := goodIn_r _ [18, 19, 20, 21, 22, 7, 23, 24, 25, 26, 27, 28, 29, 30, 31, 32, 33, 34, 35, 36, 37, 38, 39, 40, 41, 42, 43, 44, 45, 46, 47, 48, 49, 50, 51, 52, 53, 54, 55, 56, 57] (by decide +kernel) (by decide +kernel)
set_option maxRecDepth 20000 in
theorem gX10_layMatrix_X10_beside : GoodIn wsX10_layMatrix (wsV RX10 113 RX10 yX10_beside wsX10_beside) := goodIn_app (goodIn_of _ (by decide +kernel)) ggX10_layMatrix_X10_beside
theorem dX10_layMatrix_0 : decode cX10_layMatrix 0 = .ok (.iconst 0, 1) := by decide +kernel
theorem dX10_layMatrix_1 : decode cX10_layMatrix 1 = .ok (.istore_n 2, 1) := by decide +kernel
theorem dX10_layMatrix_2 : decode cX10_layMatrix 2 = .ok (.iload_n 2, 1) := by decide +kernel
theorem dX10_layMatrix_3 : decode cX10_layMatrix 3 = .ok (.sipush 256, 3) := by decide +kernel
theorem dX10_layMatrix_6 : decode cX10_layMatrix 6 = .ok (.if_icmp .ge 16, 3) := by decide +kernel
theorem dX10_layMatrix_9 : decode cX10_layMatrix 9 = .ok (.aload_n 0, 1) := by decide +kernel
theorem dX10_layMatrix_10 : decode cX10_layMatrix 10 = .ok (.getfield 61, 3) := by decide +kernel
theorem dX10_layMatrix_13 : decode cX10_layMatrix 13 = .ok (.iload_n 2, 1) := by decide +kernel
theorem dX10_layMatrix_14 : decode cX10_layMatrix 14 = .ok (.lconst 0, 1) := by decide +kernel
theorem dX10_layMatrix_15 : decode cX10_layMatrix 15 = .ok (.lastore, 1) := by decide +kernel
theorem dX10_layMatrix_16 : decode cX10_layMatrix 16 = .ok (.iinc 2 1, 3) := by decide +kernel
theorem dX10_layMatrix_19 : decode cX10_layMatrix 19 = .ok (.goto (-17), 3) := by decide +kernel
theorem dX10_layMatrix_22 : decode cX10_layMatrix 22 = .ok (.iconst 0, 1) := by decide +kernel
theorem dX10_layMatrix_23 : decode cX10_layMatrix 23 = .ok (.istore_n 2, 1) := by decide +kernel
theorem dX10_layMatrix_24 : decode cX10_layMatrix 24 = .ok (.iload_n 2, 1) := by decide +kernel
theorem dX10_layMatrix_25 : decode cX10_layMatrix 25 = .ok (.iload_n 1, 1) := by decide +kernel
theorem dX10_layMatrix_26 : decode cX10_layMatrix 26 = .ok (.if_icmp .ge 117, 3) := by decide +kernel
theorem dX10_layMatrix_29 : decode cX10_layMatrix 29 = .ok (.aload_n 0, 1) := by decide +kernel
theorem dX10_layMatrix_30 : decode cX10_layMatrix 30 = .ok (.getfield 64, 3) := by decide +kernel
theorem dX10_layMatrix_33 : decode cX10_layMatrix 33 = .ok (.iload_n 2, 1) := by decide +kernel
theorem dX10_layMatrix_34 : decode cX10_layMatrix 34 = .ok (.iaload, 1) := by decide +kernel
theorem dX10_layMatrix_35 : decode cX10_layMatrix 35 = .ok (.istore_n 3, 1) := by decide +kernel
theorem dX10_layMatrix_36 : decode cX10_layMatrix 36 = .ok (.aload_n 0, 1) := by decide +kernel
theorem dX10_layMatrix_37 : decode cX10_layMatrix 37 = .ok (.getfield 61, 3) := by decide +kernel
theorem dX10_layMatrix_40 : decode cX10_layMatrix 40 = .ok (.bipush 16, 2) := by decide +kernel
theorem dX10_layMatrix_42 : decode cX10_layMatrix 42 = .ok (.iload_n 2, 1) := by decide +kernel
theorem dX10_layMatrix_43 : decode cX10_layMatrix 43 = .ok (.imul, 1) := by decide +kernel
theorem dX10_layMatrix_44 : decode cX10_layMatrix 44 = .ok (.iload_n 2, 1) := by decide +kernel
theorem dX10_layMatrix_45 : decode cX10_layMatrix 45 = .ok (.iadd, 1) := by decide +kernel
theorem dX10_layMatrix_46 : decode cX10_layMatrix 46 = .ok (.aload_n 0, 1) := by decide +kernel
theorem dX10_layMatrix_47 : decode cX10_layMatrix 47 = .ok (.iload_n 3, 1) := by decide +kernel
theorem dX10_layMatrix_48 : decode cX10_layMatrix 48 = .ok (.invokevirtual 183, 3) := by decide +kernel
theorem dX10_layMatrix_51 : decode cX10_layMatrix 51 = .ok (.i2l, 1) := by decide +kernel
theorem dX10_layMatrix_52 : decode cX10_layMatrix 52 = .ok (.lastore, 1) := by decide +kernel
theorem dX10_layMatrix_53 : decode cX10_layMatrix 53 = .ok (.aload_n 0, 1) := by decide +kernel
theorem dX10_layMatrix_54 : decode cX10_layMatrix 54 = .ok (.getfield 61, 3) := by decide +kernel
theorem dX10_layMatrix_57 : decode cX10_layMatrix 57 = .ok (.bipush 16, 2) := by decide +kernel
theorem dX10_layMatrix_59 : decode cX10_layMatrix 59 = .ok (.iload_n 2, 1) := by decide +kernel
theorem dX10_layMatrix_60 : decode cX10_layMatrix 60 = .ok (.imul, 1) := by decide +kernel
theorem dX10_layMatrix_61 : decode cX10_layMatrix 61 = .ok (.iload_n 1, 1) := by decide +kernel
theorem dX10_layMatrix_62 : decode cX10_layMatrix 62 = .ok (.iadd, 1) := by decide +kernel
theorem dX10_layMatrix_63 : decode cX10_layMatrix 63 = .ok (.aload_n 0, 1) := by decide +kernel
theorem dX10_layMatrix_64 : decode cX10_layMatrix 64 = .ok (.iload_n 3, 1) := by decide +kernel
theorem dX10_layMatrix_65 : decode cX10_layMatrix 65 = .ok (.invokevirtual 183, 3) := by decide +kernel
theorem dX10_layMatrix_68 : decode cX10_layMatrix 68 = .ok (.i2l, 1) := by decide +kernel
theorem dX10_layMatrix_69 : decode cX10_layMatrix 69 = .ok (.lastore, 1) := by decide +kernel
theorem dX10_layMatrix_70 : decode cX10_layMatrix 70 = .ok (.iconst 0, 1) := by decide +kernel
theorem dX10_layMatrix_71 : decode cX10_layMatrix 71 = .ok (.istore 4, 2) := by decide +kernel
theorem dX10_layMatrix_73 : decode cX10_layMatrix 73 = .ok (.iload 4, 2) := by decide +kernel
theorem dX10_layMatrix_75 : decode cX10_layMatrix 75 = .ok (.iconst 4, 1) := by decide +kernel
theorem dX10_layMatrix_76 : decode cX10_layMatrix 76 = .ok (.if_icmp .ge 61, 3) := by decide +kernel
theorem dX10_layMatrix_79 : decode cX10_layMatrix 79 = .ok (.aload_n 0, 1) := by decide +kernel
theorem dX10_layMatrix_80 : decode cX10_layMatrix 80 = .ok (.iload_n 3, 1) := by decide +kernel
theorem dX10_layMatrix_81 : decode cX10_layMatrix 81 = .ok (.iload 4, 2) := by decide +kernel
theorem dX10_layMatrix_83 : decode cX10_layMatrix 83 = .ok (.invokevirtual 160, 3) := by decide +kernel
theorem dX10_layMatrix_86 : decode cX10_layMatrix 86 = .ok (.ifCond .eq 18, 3) := by decide +kernel
theorem dX10_layMatrix_89 : decode cX10_layMatrix 89 = .ok (.aload_n 0, 1) := by decide +kernel
theorem dX10_layMatrix_90 : decode cX10_layMatrix 90 = .ok (.getfield 67, 3) := by decide +kernel
theorem dX10_layMatrix_93 : decode cX10_layMatrix 93 = .ok (.aload_n 0, 1) := by decide +kernel
theorem dX10_layMatrix_94 : decode cX10_layMatrix 94 = .ok (.iload_n 3, 1) := by decide +kernel
theorem dX10_layMatrix_95 : decode cX10_layMatrix 95 = .ok (.iload 4, 2) := by decide +kernel
theorem dX10_layMatrix_97 : decode cX10_layMatrix 97 = .ok (.invokevirtual 113, 3) := by decide +kernel
theorem dX10_layMatrix_100 : decode cX10_layMatrix 100 = .ok (.iaload, 1) := by decide +kernel
theorem dX10_layMatrix_101 : decode cX10_layMatrix 101 = .ok (.goto 5, 3) := by decide +kernel
theorem dX10_layMatrix_104 : decode cX10_layMatrix 104 = .ok (.bipush (-9), 2) := by decide +kernel
theorem dX10_layMatrix_106 : decode cX10_layMatrix 106 = .ok (.istore 5, 2) := by decide +kernel
theorem dX10_layMatrix_108 : decode cX10_layMatrix 108 = .ok (.iload 5, 2) := by decide +kernel
theorem dX10_layMatrix_110 : decode cX10_layMatrix 110 = .ok (.bipush (-9), 2) := by decide +kernel
theorem dX10_layMatrix_112 : decode cX10_layMatrix 112 = .ok (.if_icmp .eq 19, 3) := by decide +kernel
theorem dX10_layMatrix_115 : decode cX10_layMatrix 115 = .ok (.aload_n 0, 1) := by decide +kernel
theorem dX10_layMatrix_116 : decode cX10_layMatrix 116 = .ok (.getfield 61, 3) := by decide +kernel
theorem dX10_layMatrix_119 : decode cX10_layMatrix 119 = .ok (.bipush 16, 2) := by decide +kernel
theorem dX10_layMatrix_121 : decode cX10_layMatrix 121 = .ok (.iload_n 2, 1) := by decide +kernel
theorem dX10_layMatrix_122 : decode cX10_layMatrix 122 = .ok (.imul, 1) := by decide +kernel
theorem dX10_layMatrix_123 : decode cX10_layMatrix 123 = .ok (.iload 5, 2) := by decide +kernel
theorem dX10_layMatrix_125 : decode cX10_layMatrix 125 = .ok (.iadd, 1) := by decide +kernel
theorem dX10_layMatrix_126 : decode cX10_layMatrix 126 = .ok (.dup2, 1) := by decide +kernel
theorem dX10_layMatrix_127 : decode cX10_layMatrix 127 = .ok (.laload, 1) := by decide +kernel
theorem dX10_layMatrix_128 : decode cX10_layMatrix 128 = .ok (.lconst 1, 1) := by decide +kernel
theorem dX10_layMatrix_129 : decode cX10_layMatrix 129 = .ok (.lsub, 1) := by decide +kernel
theorem dX10_layMatrix_130 : decode cX10_layMatrix 130 = .ok (.lastore, 1) := by decide +kernel
theorem dX10_layMatrix_131 : decode cX10_layMatrix 131 = .ok (.iinc 4 1, 3) := by decide +kernel
theorem dX10_layMatrix_134 : decode cX10_layMatrix 134 = .ok (.goto (-61), 3) := by decide +kernel
theorem dX10_layMatrix_137 : decode cX10_layMatrix 137 = .ok (.iinc 2 1, 3) := by decide +kernel
theorem dX10_layMatrix_140 : decode cX10_layMatrix 140 = .ok (.goto (-116), 3) := by decide +kernel
theorem dX10_layMatrix_143 : decode cX10_layMatrix 143 = .ok (.return_, 1) := by decide +kernel
