theorem dX9_maze_14 : decode cX9_maze 14 = .ok (.ireturn, 1) := by decide +kernel
theorem dX9_maze_15 : decode cX9_maze 15 = .ok (.aload_n 0, 1) := by decide +kernel
theorem dX9_maze_16 : decode cX9_maze 16 = .ok (.getfield 12, 3) := by decide +kernel
theorem dX9_maze_19 : decode cX9_maze 19 = .ok (.aload_n 0, 1) := by decide +kernel
theorem dX9_maze_20 : decode cX9_maze 20 = .ok (.getfield 19, 3) := by decide +kernel
theorem dX9_maze_23 : decode cX9_maze 23 = .ok (.invokevirtual 93, 3) := by decide +kernel
theorem dX9_maze_26 : decode cX9_maze 26 = .ok (.aload_n 0, 1) := by decide +kernel
theorem dX9_maze_27 : decode cX9_maze 27 = .ok (.getfield 19, 3) := by decide +kernel
theorem dX9_maze_30 : decode cX9_maze 30 = .ok (.invokevirtual 96, 3) := by decide +kernel
theorem dX9_maze_33 : decode cX9_maze 33 = .ok (.ireturn, 1) := by decide +kernel
set_option maxRecDepth 20000 in
theorem ggX9_make_X1_shutAll : GoodIn wsX9_make wsX1_shutAll := goodIn_r _ [7, 8, 9, 10, 11, 12, 13, 14, 114, 115, 116, 117, 118, 119, 120] (by decide +kernel) (by decide +kernel)
set_option maxRecDepth 20000 in
theorem gX9_make_X1_shutAll : GoodIn wsX9_make (wsV RX9 99 RX1 yX1_shutAll wsX1_shutAll) := goodIn_app (goodIn_of _ (by decide +kernel)) ggX9_make_X1_shutAll
set_option maxRecDepth 20000 in
theorem ggX9_make_X3_joinParts : GoodIn wsX9_make wsX3_joinParts := goodIn_r _ [19, 20, 21, 22, 23, 24, 25, 18, 26, 27, 28, 29, 6, 30, 31, 32, 33, 34, 10, 35, 36, 37, 38, 39, 40, 41, 12, 11, 42, 43, 44, 45, 46, 47, 48, 49, 50, 51, 52, 53, 54, 55, 56, 57, 58, 59, 60, 61, 62, 63, 64, 65, 66, 67, 68, 69, 70, 71, 72, 73, 74, 75, 76, 77, 78, 121, 122, 123, 124, 114, 115, 116, 117, 118, 119, 120] (by decide +kernel) (by decide +kernel)
set_option maxRecDepth 20000 in
theorem gX9_make_X3_joinParts : GoodIn wsX9_make (wsV RX9 103 RX3 yX3_joinParts wsX3_joinParts) := goodIn_app (goodIn_of _ (by decide +kernel)) ggX9_make_X3_joinParts
set_option maxRecDepth 20000 in
theorem ggX9_make_X3_wander : GoodIn wsX9_make wsX3_wander := goodIn_r _ [82, 20, 22, 83, 84, 61, 6, 62, 85, 86, 87, 18, 88, 89, 90, 91, 92, 93, 94, 71, 32, 33, 34, 10, 35, 36, 37, 72, 50, 51, 52, 53, 54, 55, 95, 96, 97, 98, 73, 74, 75, 76, 77, 47, 48, 49, 11, 78, 12, 31, 60, 121, 122, 123, 124, 114, 115, 116, 117, 118, 119, 120] (by decide +kernel) (by decide +kernel)
set_option maxRecDepth 20000 in
theorem gX9_make_X3_wander : GoodIn wsX9_make (wsV RX9 107 RX3 yX3_wander wsX3_wander) := goodIn_app (goodIn_of _ (by decide +kernel)) ggX9_make_X3_wander
set_option maxRecDepth 20000 in
theorem ggX9_make_X1_size : GoodIn wsX9_make wsX1_size := goodIn_r _ [102, 8, 9, 114, 115, 116, 117, 118, 119, 120] (by decide +kernel) (by decide +kernel)
set_option maxRecDepth 20000 in
theorem gX9_make_X1_size : GoodIn wsX9_make (wsV RX9 96 RX1 yX1_size wsX1_size) := goodIn_app (goodIn_of _ (by decide +kernel)) ggX9_make_X1_size
theorem dX9_make_0 : decode cX9_make 0 = .ok (.iload_n 1, 1) := by decide +kernel
theorem dX9_make_1 : decode cX9_make 1 = .ok (.iconst 1, 1) := by decide +kernel
theorem dX9_make_2 : decode cX9_make 2 = .ok (.if_icmp .lt 31, 3) := by decide +kernel
theorem dX9_make_5 : decode cX9_make 5 = .ok (.iload_n 1, 1) := by decide +kernel
theorem dX9_make_6 : decode cX9_make 6 = .ok (.bipush 6, 2) := by decide +kernel
theorem dX9_make_8 : decode cX9_make 8 = .ok (.if_icmp .gt 25, 3) := by decide +kernel
theorem dX9_make_11 : decode cX9_make 11 = .ok (.iload_n 2, 1) := by decide +kernel
theorem dX9_make_12 : decode cX9_make 12 = .ok (.iconst 1, 1) := by decide +kernel
theorem dX9_make_13 : decode cX9_make 13 = .ok (.if_icmp .lt 20, 3) := by decide +kernel
theorem dX9_make_16 : decode cX9_make 16 = .ok (.iload_n 2, 1) := by decide +kernel
theorem dX9_make_17 : decode cX9_make 17 = .ok (.bipush 6, 2) := by decide +kernel
theorem dX9_make_19 : decode cX9_make 19 = .ok (.if_icmp .gt 14, 3) := by decide +kernel
theorem dX9_make_22 : decode cX9_make 22 = .ok (.iload 5, 2) := by decide +kernel
theorem dX9_make_24 : decode cX9_make 24 = .ok (.ifCond .lt 9, 3) := by decide +kernel
theorem dX9_make_27 : decode cX9_make 27 = .ok (.iload 5, 2) := by decide +kernel
theorem dX9_make_29 : decode cX9_make 29 = .ok (.iconst 1, 1) := by decide +kernel
theorem dX9_make_30 : decode cX9_make 30 = .ok (.if_icmp .le 6, 3) := by decide +kernel
theorem dX9_make_33 : decode cX9_make 33 = .ok (.bipush (-2), 2) := by decide +kernel
theorem dX9_make_35 : decode cX9_make 35 = .ok (.ireturn, 1) := by decide +kernel
theorem dX9_make_36 : decode cX9_make 36 = .ok (.aload_n 0, 1) := by decide +kernel
theorem dX9_make_37 : decode cX9_make 37 = .ok (.getfield 19, 3) := by decide +kernel
theorem dX9_make_40 : decode cX9_make 40 = .ok (.iload_n 1, 1) := by decide +kernel
theorem dX9_make_41 : decode cX9_make 41 = .ok (.iload_n 2, 1) := by decide +kernel
theorem dX9_make_42 : decode cX9_make 42 = .ok (.invokevirtual 99, 3) := by decide +kernel
theorem dX9_make_45 : decode cX9_make 45 = .ok (.iload 5, 2) := by decide +kernel
theorem dX9_make_47 : decode cX9_make 47 = .ok (.ifCond .ne 14, 3) := by decide +kernel
theorem dX9_make_50 : decode cX9_make 50 = .ok (.aload_n 0, 1) := by decide +kernel
theorem dX9_make_51 : decode cX9_make 51 = .ok (.getfield 35, 3) := by decide +kernel
theorem dX9_make_54 : decode cX9_make 54 = .ok (.lload_n 3, 1) := by decide +kernel
theorem dX9_make_55 : decode cX9_make 55 = .ok (.invokevirtual 103, 3) := by decide +kernel
theorem dX9_make_58 : decode cX9_make 58 = .ok (.goto 11, 3) := by decide +kernel
theorem dX9_make_61 : decode cX9_make 61 = .ok (.aload_n 0, 1) := by decide +kernel
theorem dX9_make_62 : decode cX9_make 62 = .ok (.getfield 35, 3) := by decide +kernel
theorem dX9_make_65 : decode cX9_make 65 = .ok (.lload_n 3, 1) := by decide +kernel
theorem dX9_make_66 : decode cX9_make 66 = .ok (.invokevirtual 107, 3) := by decide +kernel
theorem dX9_make_69 : decode cX9_make 69 = .ok (.aload_n 0, 1) := by decide +kernel
theorem dX9_make_70 : decode cX9_make 70 = .ok (.getfield 19, 3) := by decide +kernel
theorem dX9_make_73 : decode cX9_make 73 = .ok (.invokevirtual 96, 3) := by decide +kernel
theorem dX9_make_76 : decode cX9_make 76 = .ok (.ireturn, 1) := by decide +kernel
set_option maxRecDepth 20000 in
theorem ggX9_open_X1_placeOf : GoodIn wsX9_open wsX1_placeOf := goodIn_r _ [6, 7, 8, 36, 37, 38, 39, 40, 41, 42] (by decide +kernel) (by decide +kernel)
set_option maxRecDepth 20000 in
theorem gX9_open_X1_placeOf : GoodIn wsX9_open (wsV RX9 110 RX1 yX1_placeOf wsX1_placeOf) := goodIn_app (goodIn_of _ (by decide +kernel)) ggX9_open_X1_placeOf
set_option maxRecDepth 20000 in
theorem ggX9_open_X9_isSide : GoodIn wsX9_open wsX9_isSide := goodIn_r _ [12] (by decide +kernel) (by decide +kernel)
set_option maxRecDepth 20000 in
theorem gX9_open_X9_isSide : GoodIn wsX9_open (va_wsS RX9 114 yX9_isSide wsX9_isSide) := goodIn_app (goodIn_of _ (by decide +kernel)) ggX9_open_X9_isSide
set_option maxRecDepth 20000 in
theorem ggX9_open_X1_isOpen : GoodIn wsX9_open wsX1_isOpen := goodIn_r _ [16, 17, 18, 19, 20, 5, 21, 36, 37, 38, 39, 40, 41, 42] (by decide +kernel) (by decide +kernel)
set_option maxRecDepth 20000 in
theorem gX9_open_X1_isOpen : GoodIn wsX9_open (wsV RX9 118 RX1 yX1_isOpen wsX1_isOpen) := goodIn_app (goodIn_of _ (by decide +kernel)) ggX9_open_X1_isOpen
set_option maxRecDepth 20000 in
theorem ggX9_open_X9_oneIf : GoodIn wsX9_open wsX9_oneIf := goodIn_r _ [24] (by decide +kernel) (by decide +kernel)
set_option maxRecDepth 20000 in
theorem gX9_open_X9_oneIf : GoodIn wsX9_open (va_wsS RX9 122 yX9_oneIf wsX9_oneIf) := goodIn_app (goodIn_of _ (by decide +kernel)) ggX9_open_X9_oneIf
theorem dX9_open_0 : decode cX9_open 0 = .ok (.aload_n 0, 1) := by decide +kernel
theorem dX9_open_1 : decode cX9_open 1 = .ok (.getfield 19, 3) := by decide +kernel
theorem dX9_open_4 : decode cX9_open 4 = .ok (.iload_n 1, 1) := by decide +kernel
theorem dX9_open_5 : decode cX9_open 5 = .ok (.invokevirtual 110, 3) := by decide +kernel
theorem dX9_open_8 : decode cX9_open 8 = .ok (.istore_n 3, 1) := by decide +kernel
theorem dX9_open_9 : decode cX9_open 9 = .ok (.iload_n 3, 1) := by decide +kernel
theorem dX9_open_10 : decode cX9_open 10 = .ok (.iconst (-1), 1) := by decide +kernel
theorem dX9_open_11 : decode cX9_open 11 = .ok (.if_icmp .eq 10, 3) := by decide +kernel
theorem dX9_open_14 : decode cX9_open 14 = .ok (.iload_n 2, 1) := by decide +kernel
theorem dX9_open_15 : decode cX9_open 15 = .ok (.invokestatic 114, 3) := by decide +kernel
theorem dX9_open_18 : decode cX9_open 18 = .ok (.ifCond .ne 5, 3) := by decide +kernel
theorem dX9_open_21 : decode cX9_open 21 = .ok (.iconst (-1), 1) := by decide +kernel
theorem dX9_open_22 : decode cX9_open 22 = .ok (.ireturn, 1) := by decide +kernel
theorem dX9_open_23 : decode cX9_open 23 = .ok (.aload_n 0, 1) := by decide +kernel
theorem dX9_open_24 : decode cX9_open 24 = .ok (.getfield 19, 3) := by decide +kernel
theorem dX9_open_27 : decode cX9_open 27 = .ok (.iload_n 3, 1) := by decide +kernel
theorem dX9_open_28 : decode cX9_open 28 = .ok (.iload_n 2, 1) := by decide +kernel
theorem dX9_open_29 : decode cX9_open 29 = .ok (.invokevirtual 118, 3) := by decide +kernel
theorem dX9_open_32 : decode cX9_open 32 = .ok (.invokestatic 122, 3) := by decide +kernel
theorem dX9_open_35 : decode cX9_open 35 = .ok (.ireturn, 1) := by decide +kernel
set_option maxRecDepth 20000 in
theorem ggX9_hedge_X1_placeOf : GoodIn wsX9_hedge wsX1_placeOf := goodIn_r _ [6, 7, 8, 54, 55, 56, 57, 58, 59, 60] (by decide +kernel) (by decide +kernel)
set_option maxRecDepth 20000 in
theorem gX9_hedge_X1_placeOf : GoodIn wsX9_hedge (wsV RX9 110 RX1 yX1_placeOf wsX1_placeOf) := goodIn_app (goodIn_of _ (by decide +kernel)) ggX9_hedge_X1_placeOf
set_option maxRecDepth 20000 in
theorem ggX9_hedge_X9_isSide : GoodIn wsX9_hedge wsX9_isSide := goodIn_r _ [12] (by decide +kernel) (by decide +kernel)
set_option maxRecDepth 20000 in
theorem gX9_hedge_X9_isSide : GoodIn wsX9_hedge (va_wsS RX9 114 yX9_isSide wsX9_isSide) := goodIn_app (goodIn_of _ (by decide +kernel)) ggX9_hedge_X9_isSide
set_option maxRecDepth 20000 in
theorem ggX9_hedge_X1_beside : GoodIn wsX9_hedge wsX1_beside := goodIn_r _ [16, 17, 18, 19, 5, 20, 54, 55, 56, 57, 58, 59, 60] (by decide +kernel) (by decide +kernel)
set_option maxRecDepth 20000 in
theorem gX9_hedge_X1_beside : GoodIn wsX9_hedge (wsV RX9 126 RX1 yX1_beside wsX1_beside) := goodIn_app (goodIn_of _ (by decide +kernel)) ggX9_hedge_X1_beside
set_option maxRecDepth 20000 in
theorem ggX9_hedge_X1_isOpen : GoodIn wsX9_hedge wsX1_isOpen := goodIn_r _ [24, 25, 26, 18, 19, 5, 20, 54, 55, 56, 57, 58, 59, 60] (by decide +kernel) (by decide +kernel)
set_option maxRecDepth 20000 in
theorem gX9_hedge_X1_isOpen : GoodIn wsX9_hedge (wsV RX9 118 RX1 yX1_isOpen wsX1_isOpen) := goodIn_app (goodIn_of _ (by decide +kernel)) ggX9_hedge_X1_isOpen
set_option maxRecDepth 20000 in
theorem ggX9_hedge_X9_oneIf : GoodIn wsX9_hedge wsX9_oneIf := goodIn_r _ [29] (by decide +kernel) (by decide +kernel)
set_option maxRecDepth 20000 in
theorem gX9_hedge_X9_oneIf : GoodIn wsX9_hedge (va_wsS RX9 122 yX9_oneIf wsX9_oneIf) := goodIn_app (goodIn_of _ (by decide +kernel)) ggX9_hedge_X9_oneIf
set_option maxRecDepth 20000 in
theorem ggX9_hedge_X1_setOpen : GoodIn wsX9_hedge wsX1_setOpen := goodIn_r _ [33, 34, 35, 36, 37, 26, 38, 25, 39, 14, 15, 5, 16, 17, 18, 19, 20, 40, 41, 42, 54, 55, 56, 57, 58, 59, 60] (by decide +kernel) (by decide +kernel)
set_option maxRecDepth 20000 in
theorem gX9_hedge_X1_setOpen : GoodIn wsX9_hedge (wsV RX9 130 RX1 yX1_setOpen wsX1_setOpen) := goodIn_app (goodIn_of _ (by decide +kernel)) ggX9_hedge_X1_setOpen
theorem dX9_hedge_0 : decode cX9_hedge 0 = .ok (.aload_n 0, 1) := by decide +kernel
theorem dX9_hedge_1 : decode cX9_hedge 1 = .ok (.getfield 19, 3) := by decide +kernel
theorem dX9_hedge_4 : decode cX9_hedge 4 = .ok (.iload_n 1, 1) := by decide +kernel
theorem dX9_hedge_5 : decode cX9_hedge 5 = .ok (.invokevirtual 110, 3) := by decide +kernel
theorem dX9_hedge_8 : decode cX9_hedge 8 = .ok (.istore 4, 2) := by decide +kernel
theorem dX9_hedge_10 : decode cX9_hedge 10 = .ok (.iload 4, 2) := by decide +kernel
theorem dX9_hedge_12 : decode cX9_hedge 12 = .ok (.iconst (-1), 1) := by decide +kernel
theorem dX9_hedge_13 : decode cX9_hedge 13 = .ok (.if_icmp .eq 10, 3) := by decide +kernel
theorem dX9_hedge_16 : decode cX9_hedge 16 = .ok (.iload_n 2, 1) := by decide +kernel
theorem dX9_hedge_17 : decode cX9_hedge 17 = .ok (.invokestatic 114, 3) := by decide +kernel
theorem dX9_hedge_20 : decode cX9_hedge 20 = .ok (.ifCond .ne 5, 3) := by decide +kernel
theorem dX9_hedge_23 : decode cX9_hedge 23 = .ok (.iconst (-1), 1) := by decide +kernel
theorem dX9_hedge_24 : decode cX9_hedge 24 = .ok (.ireturn, 1) := by decide +kernel
theorem dX9_hedge_25 : decode cX9_hedge 25 = .ok (.aload_n 0, 1) := by decide +kernel
theorem dX9_hedge_26 : decode cX9_hedge 26 = .ok (.getfield 19, 3) := by decide +kernel
theorem dX9_hedge_29 : decode cX9_hedge 29 = .ok (.iload 4, 2) := by decide +kernel
theorem dX9_hedge_31 : decode cX9_hedge 31 = .ok (.iload_n 2, 1) := by decide +kernel
theorem dX9_hedge_32 : decode cX9_hedge 32 = .ok (.invokevirtual 126, 3) := by decide +kernel
theorem dX9_hedge_35 : decode cX9_hedge 35 = .ok (.iconst (-1), 1) := by decide +kernel
theorem dX9_hedge_36 : decode cX9_hedge 36 = .ok (.if_icmp .ne 6, 3) := by decide +kernel
theorem dX9_hedge_39 : decode cX9_hedge 39 = .ok (.bipush (-3), 2) := by decide +kernel
theorem dX9_hedge_41 : decode cX9_hedge 41 = .ok (.ireturn, 1) := by decide +kernel
theorem dX9_hedge_42 : decode cX9_hedge 42 = .ok (.aload_n 0, 1) := by decide +kernel
theorem dX9_hedge_43 : decode cX9_hedge 43 = .ok (.getfield 19, 3) := by decide +kernel
theorem dX9_hedge_46 : decode cX9_hedge 46 = .ok (.iload 4, 2) := by decide +kernel
theorem dX9_hedge_48 : decode cX9_hedge 48 = .ok (.iload_n 2, 1) := by decide +kernel
theorem dX9_hedge_49 : decode cX9_hedge 49 = .ok (.invokevirtual 118, 3) := by decide +kernel
theorem dX9_hedge_52 : decode cX9_hedge 52 = .ok (.invokestatic 122, 3) := by decide +kernel
theorem dX9_hedge_55 : decode cX9_hedge 55 = .ok (.istore 5, 2) := by decide +kernel
theorem dX9_hedge_57 : decode cX9_hedge 57 = .ok (.aload_n 0, 1) := by decide +kernel
theorem dX9_hedge_58 : decode cX9_hedge 58 = .ok (.getfield 19, 3) := by decide +kernel
theorem dX9_hedge_61 : decode cX9_hedge 61 = .ok (.iload 4, 2) := by decide +kernel
theorem dX9_hedge_63 : decode cX9_hedge 63 = .ok (.iload_n 2, 1) := by decide +kernel
theorem dX9_hedge_64 : decode cX9_hedge 64 = .ok (.iload_n 3, 1) := by decide +kernel
theorem dX9_hedge_65 : decode cX9_hedge 65 = .ok (.invokevirtual 130, 3) := by decide +kernel
theorem dX9_hedge_68 : decode cX9_hedge 68 = .ok (.iload 5, 2) := by decide +kernel
theorem dX9_hedge_70 : decode cX9_hedge 70 = .ok (.ireturn, 1) := by decide +kernel
set_option maxRecDepth 20000 in
theorem ggX9_gates_X1_placeOf : GoodIn wsX9_gates wsX1_placeOf := goodIn_r _ [8, 9, 10, 25, 26, 27, 28, 29, 30, 31] (by decide +kernel) (by decide +kernel)
set_option maxRecDepth 20000 in
theorem gX9_gates_X1_placeOf : GoodIn wsX9_gates (wsV RX9 110 RX1 yX1_placeOf wsX1_placeOf) := goodIn_app (goodIn_of _ (by decide +kernel)) ggX9_gates_X1_placeOf
set_option maxRecDepth 20000 in
theorem ggX9_gates_X1_told : GoodIn wsX9_gates wsX1_told := goodIn_r _ [13] (by decide +kernel) (by decide +kernel)
set_option maxRecDepth 20000 in
theorem gX9_gates_X1_told : GoodIn wsX9_gates (va_wsS RX9 137 yX1_told wsX1_told) := goodIn_app (goodIn_of _ (by decide +kernel)) ggX9_gates_X1_told
theorem dX9_gates_0 : decode cX9_gates 0 = .ok (.aload_n 0, 1) := by decide +kernel
theorem dX9_gates_1 : decode cX9_gates 1 = .ok (.getfield 19, 3) := by decide +kernel
theorem dX9_gates_4 : decode cX9_gates 4 = .ok (.iload_n 1, 1) := by decide +kernel
theorem dX9_gates_5 : decode cX9_gates 5 = .ok (.invokevirtual 110, 3) := by decide +kernel
theorem dX9_gates_8 : decode cX9_gates 8 = .ok (.istore_n 3, 1) := by decide +kernel
theorem dX9_gates_9 : decode cX9_gates 9 = .ok (.aload_n 0, 1) := by decide +kernel
theorem dX9_gates_10 : decode cX9_gates 10 = .ok (.getfield 19, 3) := by decide +kernel
theorem dX9_gates_13 : decode cX9_gates 13 = .ok (.iload_n 2, 1) := by decide +kernel
theorem dX9_gates_14 : decode cX9_gates 14 = .ok (.invokevirtual 110, 3) := by decide +kernel
theorem dX9_gates_17 : decode cX9_gates 17 = .ok (.istore 4, 2) := by decide +kernel
theorem dX9_gates_19 : decode cX9_gates 19 = .ok (.iload_n 3, 1) := by decide +kernel
theorem dX9_gates_20 : decode cX9_gates 20 = .ok (.iconst (-1), 1) := by decide +kernel
theorem dX9_gates_21 : decode cX9_gates 21 = .ok (.if_icmp .eq 9, 3) := by decide +kernel
theorem dX9_gates_24 : decode cX9_gates 24 = .ok (.iload 4, 2) := by decide +kernel
theorem dX9_gates_26 : decode cX9_gates 26 = .ok (.iconst (-1), 1) := by decide +kernel
theorem dX9_gates_27 : decode cX9_gates 27 = .ok (.if_icmp .ne 5, 3) := by decide +kernel
theorem dX9_gates_30 : decode cX9_gates 30 = .ok (.iconst (-1), 1) := by decide +kernel
theorem dX9_gates_31 : decode cX9_gates 31 = .ok (.ireturn, 1) := by decide +kernel
theorem dX9_gates_32 : decode cX9_gates 32 = .ok (.bipush 100, 2) := by decide +kernel
theorem dX9_gates_34 : decode cX9_gates 34 = .ok (.aload_n 0, 1) := by decide +kernel
theorem dX9_gates_35 : decode cX9_gates 35 = .ok (.getfield 19, 3) := by decide +kernel
theorem dX9_gates_38 : decode cX9_gates 38 = .ok (.getfield 134, 3) := by decide +kernel
theorem dX9_gates_41 : decode cX9_gates 41 = .ok (.invokestatic 137, 3) := by decide +kernel
theorem dX9_gates_44 : decode cX9_gates 44 = .ok (.imul, 1) := by decide +kernel
theorem dX9_gates_45 : decode cX9_gates 45 = .ok (.aload_n 0, 1) := by decide +kernel
theorem dX9_gates_46 : decode cX9_gates 46 = .ok (.getfield 19, 3) := by decide +kernel
theorem dX9_gates_49 : decode cX9_gates 49 = .ok (.getfield 140, 3) := by decide +kernel
theorem dX9_gates_52 : decode cX9_gates 52 = .ok (.invokestatic 137, 3) := by decide +kernel
theorem dX9_gates_55 : decode cX9_gates 55 = .ok (.iadd, 1) := by decide +kernel
theorem dX9_gates_56 : decode cX9_gates 56 = .ok (.istore 5, 2) := by decide +kernel
theorem dX9_gates_58 : decode cX9_gates 58 = .ok (.aload_n 0, 1) := by decide +kernel
theorem dX9_gates_59 : decode cX9_gates 59 = .ok (.getfield 19, 3) := by decide +kernel
theorem dX9_gates_62 : decode cX9_gates 62 = .ok (.iload_n 3, 1) := by decide +kernel
theorem dX9_gates_63 : decode cX9_gates 63 = .ok (.putfield 134, 3) := by decide +kernel
theorem dX9_gates_66 : decode cX9_gates 66 = .ok (.aload_n 0, 1) := by decide +kernel
theorem dX9_gates_67 : decode cX9_gates 67 = .ok (.getfield 19, 3) := by decide +kernel
theorem dX9_gates_70 : decode cX9_gates 70 = .ok (.iload 4, 2) := by decide +kernel
theorem dX9_gates_72 : decode cX9_gates 72 = .ok (.putfield 140, 3) := by decide +kernel
theorem dX9_gates_75 : decode cX9_gates 75 = .ok (.iload 5, 2) := by decide +kernel
theorem dX9_gates_77 : decode cX9_gates 77 = .ok (.ireturn, 1) := by decide +kernel
set_option maxRecDepth 20000 in
theorem ggX9_figure_X1_placeOf : GoodIn wsX9_figure wsX1_placeOf := goodIn_r _ [6, 7, 8, 33, 34, 35, 36, 37, 38, 39] (by decide +kernel) (by decide +kernel)
set_option maxRecDepth 20000 in
theorem gX9_figure_X1_placeOf : GoodIn wsX9_figure (wsV RX9 110 RX1 yX1_placeOf wsX1_placeOf) := goodIn_app (goodIn_of _ (by decide +kernel)) ggX9_figure_X1_placeOf
set_option maxRecDepth 20000 in
theorem ggX9_figure_X1_isOpen : GoodIn wsX9_figure wsX1_isOpen := goodIn_r _ [12, 13, 14, 15, 16, 5, 17, 33, 34, 35, 36, 37, 38, 39] (by decide +kernel) (by decide +kernel)
set_option maxRecDepth 20000 in
theorem gX9_figure_X1_isOpen : GoodIn wsX9_figure (wsV RX9 118 RX1 yX1_isOpen wsX1_isOpen) := goodIn_app (goodIn_of _ (by decide +kernel)) ggX9_figure_X1_isOpen
set_option maxRecDepth 20000 in
theorem ggX9_figure_X9_oneIf : GoodIn wsX9_figure wsX9_oneIf := goodIn_r _ [21] (by decide +kernel) (by decide +kernel)
set_option maxRecDepth 20000 in
theorem gX9_figure_X9_oneIf : GoodIn wsX9_figure (va_wsS RX9 122 yX9_oneIf wsX9_oneIf) := goodIn_app (goodIn_of _ (by decide +kernel)) ggX9_figure_X9_oneIf
theorem dX9_figure_0 : decode cX9_figure 0 = .ok (.aload_n 0, 1) := by decide +kernel
theorem dX9_figure_1 : decode cX9_figure 1 = .ok (.getfield 19, 3) := by decide +kernel
theorem dX9_figure_4 : decode cX9_figure 4 = .ok (.iload_n 1, 1) := by decide +kernel
theorem dX9_figure_5 : decode cX9_figure 5 = .ok (.invokevirtual 110, 3) := by decide +kernel
theorem dX9_figure_8 : decode cX9_figure 8 = .ok (.istore_n 2, 1) := by decide +kernel
theorem dX9_figure_9 : decode cX9_figure 9 = .ok (.iload_n 2, 1) := by decide +kernel
theorem dX9_figure_10 : decode cX9_figure 10 = .ok (.iconst (-1), 1) := by decide +kernel
theorem dX9_figure_11 : decode cX9_figure 11 = .ok (.if_icmp .ne 5, 3) := by decide +kernel
theorem dX9_figure_14 : decode cX9_figure 14 = .ok (.iconst (-1), 1) := by decide +kernel
theorem dX9_figure_15 : decode cX9_figure 15 = .ok (.ireturn, 1) := by decide +kernel
theorem dX9_figure_16 : decode cX9_figure 16 = .ok (.aload_n 0, 1) := by decide +kernel
theorem dX9_figure_17 : decode cX9_figure 17 = .ok (.getfield 19, 3) := by decide +kernel
theorem dX9_figure_20 : decode cX9_figure 20 = .ok (.iload_n 2, 1) := by decide +kernel
theorem dX9_figure_21 : decode cX9_figure 21 = .ok (.iconst 1, 1) := by decide +kernel
theorem dX9_figure_22 : decode cX9_figure 22 = .ok (.invokevirtual 118, 3) := by decide +kernel
theorem dX9_figure_25 : decode cX9_figure 25 = .ok (.invokestatic 122, 3) := by decide +kernel
theorem dX9_figure_28 : decode cX9_figure 28 = .ok (.iconst 2, 1) := by decide +kernel
theorem dX9_figure_29 : decode cX9_figure 29 = .ok (.aload_n 0, 1) := by decide +kernel
theorem dX9_figure_30 : decode cX9_figure 30 = .ok (.getfield 19, 3) := by decide +kernel
theorem dX9_figure_33 : decode cX9_figure 33 = .ok (.iload_n 2, 1) := by decide +kernel
theorem dX9_figure_34 : decode cX9_figure 34 = .ok (.iconst 2, 1) := by decide +kernel
theorem dX9_figure_35 : decode cX9_figure 35 = .ok (.invokevirtual 118, 3) := by decide +kernel
theorem dX9_figure_38 : decode cX9_figure 38 = .ok (.invokestatic 122, 3) := by decide +kernel
theorem dX9_figure_41 : decode cX9_figure 41 = .ok (.imul, 1) := by decide +kernel
theorem dX9_figure_42 : decode cX9_figure 42 = .ok (.iadd, 1) := by decide +kernel
theorem dX9_figure_43 : decode cX9_figure 43 = .ok (.ireturn, 1) := by decide +kernel
set_option maxRecDepth 20000 in
theorem ggX9_about_X1_size : GoodIn wsX9_about wsX1_size := goodIn_r _ [13, 14, 15, 130, 131, 132, 133, 134, 135, 136] (by decide +kernel) (by decide +kernel)
set_option maxRecDepth 20000 in
theorem gX9_about_X1_size : GoodIn wsX9_about (wsV RX9 96 RX1 yX1_size wsX1_size) := goodIn_app (goodIn_of _ (by decide +kernel)) ggX9_about_X1_size
set_option maxRecDepth 20000 in
theorem ggX9_about_X1_openings : GoodIn wsX9_about wsX1_openings := goodIn_r _ [19, 20, 21, 22, 23, 24, 25, 26, 27, 28, 130, 131, 132, 133, 134, 135, 136] (by decide +kernel) (by decide +kernel)
set_option maxRecDepth 20000 in
theorem gX9_about_X1_openings : GoodIn wsX9_about (wsV RX9 149 RX1 yX1_openings wsX1_openings) := goodIn_app (goodIn_of _ (by decide +kernel)) ggX9_about_X1_openings
set_option maxRecDepth 20000 in
theorem ggX9_about_X7_parts : GoodIn wsX9_about wsX7_parts := goodIn_r _ [33, 34, 35, 36, 37, 38, 12, 39, 22, 23, 24, 25, 26, 27, 28, 40, 41, 42, 43, 44, 45, 46, 47, 48, 49, 50, 51, 52, 53, 54, 55, 20, 21, 139, 130, 131, 132, 133, 134, 135, 136] (by decide +kernel) (by decide +kernel)
set_option maxRecDepth 20000 in
theorem gX9_about_X7_parts : GoodIn wsX9_about (wsV RX9 152 RX7 yX7_parts wsX7_parts) := goodIn_app (goodIn_of _ (by decide +kernel)) ggX9_about_X7_parts
set_option maxRecDepth 20000 in
theorem ggX9_about_X7_cellsWithNeighbours : GoodIn wsX9_about wsX7_cellsWithNeighbours := goodIn_r _ [59, 34, 35, 60, 61, 62, 12, 63, 45, 46, 47, 52, 53, 54, 55, 20, 21, 22, 23, 24, 25, 26, 27, 28, 64, 65, 66, 139, 130, 131, 132, 133, 134, 135, 136] (by decide +kernel) (by decide +kernel)
set_option maxRecDepth 20000 in
theorem gX9_about_X7_cellsWithNeighbours : GoodIn wsX9_about (wsV RX9 155 RX7 yX7_cellsWithNeighbours wsX7_cellsWithNeighbours) := goodIn_app (goodIn_of _ (by decide +kernel)) ggX9_about_X7_cellsWithNeighbours
set_option maxRecDepth 20000 in
theorem ggX9_about_X7_bridges : GoodIn wsX9_about wsX7_bridges := goodIn_r _ [70, 71, 72, 73, 32, 74, 34, 75, 76, 77, 12, 78, 79, 80, 81, 82, 21, 20, 83, 65, 66, 84, 85, 86, 87, 44, 88, 89, 90, 91, 92, 93, 94, 95, 96, 45, 46, 47, 40, 41, 42, 43, 48, 49, 50, 51, 52, 53, 54, 55, 64, 139, 130, 131, 132, 133, 134, 135, 136] (by decide +kernel) (by decide +kernel)
set_option maxRecDepth 20000 in
theorem gX9_about_X7_bridges : GoodIn wsX9_about (wsV RX9 158 RX7 yX7_bridges wsX7_bridges) := goodIn_app (goodIn_of _ (by decide +kernel)) ggX9_about_X7_bridges
set_option maxRecDepth 20000 in
theorem ggX9_about_X7_mustCells : GoodIn wsX9_about wsX7_mustCells := goodIn_r _ [100, 34, 101, 35, 102, 36, 103, 46, 12, 47, 104, 49, 50, 51, 52, 53, 54, 55, 20, 21, 64, 65, 66, 139, 130, 131, 132, 133, 134, 135, 136] (by decide +kernel) (by decide +kernel)
set_option maxRecDepth 20000 in
theorem gX9_about_X7_mustCells : GoodIn wsX9_about (wsV RX9 161 RX7 yX7_mustCells wsX7_mustCells) := goodIn_app (goodIn_of _ (by decide +kernel)) ggX9_about_X7_mustCells
set_option maxRecDepth 20000 in
theorem ggX9_about_J13_bitCount_95d88 : GoodIn wsX9_about wsJ13_bitCount_95d88 := goodIn_r _ [25, 26, 27, 28] (by decide +kernel) (by decide +kernel)
set_option maxRecDepth 20000 in
theorem gX9_about_J13_bitCount_95d88 : GoodIn wsX9_about (va_wsS RX9 165 yJ13_bitCount_95d88 wsJ13_bitCount_95d88) := goodIn_app (goodIn_of _ (by decide +kernel)) ggX9_about_J13_bitCount_95d88
set_option maxRecDepth 20000 in
theorem ggX9_about_X7_leftCells : GoodIn wsX9_about wsX7_leftCells := goodIn_r _ [109, 34, 35, 101, 102, 36, 110, 111, 112, 32, 113, 103, 46, 12, 47, 114, 53, 54, 55, 20, 21, 115, 23, 24, 25, 26, 27, 28, 139, 130, 131, 132, 133, 134, 135, 136] (by decide +kernel) (by decide +kernel)
set_option maxRecDepth 20000 in
theorem gX9_about_X7_leftCells : GoodIn wsX9_about (wsV RX9 171 RX7 yX7_leftCells wsX7_leftCells) := goodIn_app (goodIn_of _ (by decide +kernel)) ggX9_about_X7_leftCells
set_option maxRecDepth 20000 in
theorem ggX9_about_X1_told : GoodIn wsX9_about wsX1_told := goodIn_r _ [118] (by decide +kernel) (by decide +kernel)
set_option maxRecDepth 20000 in
theorem gX9_about_X1_told : GoodIn wsX9_about (va_wsS RX9 137 yX1_told wsX1_told) := goodIn_app (goodIn_of _ (by decide +kernel)) ggX9_about_X1_told
theorem dX9_about_0 : decode cX9_about 0 = .ok (.iload_n 1, 1) := by decide +kernel
theorem dX9_about_1 : decode cX9_about 1 = .ok (.tableswitch 215 0 13 #[71, 79, 87, 95, 103, 111, 135, 145, 155, 163, 174, 185, 196, 207], 71) := by decide +kernel
theorem dX9_about_72 : decode cX9_about 72 = .ok (.aload_n 0, 1) := by decide +kernel
theorem dX9_about_73 : decode cX9_about 73 = .ok (.getfield 19, 3) := by decide +kernel
theorem dX9_about_76 : decode cX9_about 76 = .ok (.invokevirtual 96, 3) := by decide +kernel
theorem dX9_about_79 : decode cX9_about 79 = .ok (.ireturn, 1) := by decide +kernel
theorem dX9_about_80 : decode cX9_about 80 = .ok (.aload_n 0, 1) := by decide +kernel
theorem dX9_about_81 : decode cX9_about 81 = .ok (.getfield 19, 3) := by decide +kernel
theorem dX9_about_84 : decode cX9_about 84 = .ok (.getfield 143, 3) := by decide +kernel
theorem dX9_about_87 : decode cX9_about 87 = .ok (.ireturn, 1) := by decide +kernel
theorem dX9_about_88 : decode cX9_about 88 = .ok (.aload_n 0, 1) := by decide +kernel
theorem dX9_about_89 : decode cX9_about 89 = .ok (.getfield 19, 3) := by decide +kernel
theorem dX9_about_92 : decode cX9_about 92 = .ok (.getfield 146, 3) := by decide +kernel
theorem dX9_about_95 : decode cX9_about 95 = .ok (.ireturn, 1) := by decide +kernel
theorem dX9_about_96 : decode cX9_about 96 = .ok (.aload_n 0, 1) := by decide +kernel
theorem dX9_about_97 : decode cX9_about 97 = .ok (.getfield 19, 3) := by decide +kernel
theorem dX9_about_100 : decode cX9_about 100 = .ok (.invokevirtual 149, 3) := by decide +kernel
theorem dX9_about_103 : decode cX9_about 103 = .ok (.ireturn, 1) := by decide +kernel
theorem dX9_about_104 : decode cX9_about 104 = .ok (.aload_n 0, 1) := by decide +kernel
theorem dX9_about_105 : decode cX9_about 105 = .ok (.getfield 42, 3) := by decide +kernel
theorem dX9_about_108 : decode cX9_about 108 = .ok (.invokevirtual 152, 3) := by decide +kernel
theorem dX9_about_111 : decode cX9_about 111 = .ok (.ireturn, 1) := by decide +kernel
theorem dX9_about_112 : decode cX9_about 112 = .ok (.aload_n 0, 1) := by decide +kernel
theorem dX9_about_113 : decode cX9_about 113 = .ok (.getfield 19, 3) := by decide +kernel
theorem dX9_about_116 : decode cX9_about 116 = .ok (.invokevirtual 149, 3) := by decide +kernel
theorem dX9_about_119 : decode cX9_about 119 = .ok (.aload_n 0, 1) := by decide +kernel
theorem dX9_about_120 : decode cX9_about 120 = .ok (.getfield 42, 3) := by decide +kernel
theorem dX9_about_123 : decode cX9_about 123 = .ok (.invokevirtual 152, 3) := by decide +kernel
theorem dX9_about_126 : decode cX9_about 126 = .ok (.iadd, 1) := by decide +kernel
theorem dX9_about_127 : decode cX9_about 127 = .ok (.aload_n 0, 1) := by decide +kernel
theorem dX9_about_128 : decode cX9_about 128 = .ok (.getfield 19, 3) := by decide +kernel
theorem dX9_about_131 : decode cX9_about 131 = .ok (.invokevirtual 96, 3) := by decide +kernel
theorem dX9_about_134 : decode cX9_about 134 = .ok (.isub, 1) := by decide +kernel
theorem dX9_about_135 : decode cX9_about 135 = .ok (.ireturn, 1) := by decide +kernel
theorem dX9_about_136 : decode cX9_about 136 = .ok (.aload_n 0, 1) := by decide +kernel
theorem dX9_about_137 : decode cX9_about 137 = .ok (.getfield 42, 3) := by decide +kernel
theorem dX9_about_140 : decode cX9_about 140 = .ok (.iconst 1, 1) := by decide +kernel
theorem dX9_about_141 : decode cX9_about 141 = .ok (.iconst 1, 1) := by decide +kernel
theorem dX9_about_142 : decode cX9_about 142 = .ok (.invokevirtual 155, 3) := by decide +kernel
theorem dX9_about_145 : decode cX9_about 145 = .ok (.ireturn, 1) := by decide +kernel
theorem dX9_about_146 : decode cX9_about 146 = .ok (.aload_n 0, 1) := by decide +kernel
theorem dX9_about_147 : decode cX9_about 147 = .ok (.getfield 42, 3) := by decide +kernel
theorem dX9_about_150 : decode cX9_about 150 = .ok (.iconst 3, 1) := by decide +kernel
theorem dX9_about_151 : decode cX9_about 151 = .ok (.iconst 4, 1) := by decide +kernel
theorem dX9_about_152 : decode cX9_about 152 = .ok (.invokevirtual 155, 3) := by decide +kernel
theorem dX9_about_155 : decode cX9_about 155 = .ok (.ireturn, 1) := by decide +kernel
theorem dX9_about_156 : decode cX9_about 156 = .ok (.aload_n 0, 1) := by decide +kernel
theorem dX9_about_157 : decode cX9_about 157 = .ok (.getfield 42, 3) := by decide +kernel
theorem dX9_about_160 : decode cX9_about 160 = .ok (.invokevirtual 158, 3) := by decide +kernel
theorem dX9_about_163 : decode cX9_about 163 = .ok (.ireturn, 1) := by decide +kernel
theorem dX9_about_164 : decode cX9_about 164 = .ok (.aload_n 0, 1) := by decide +kernel
theorem dX9_about_165 : decode cX9_about 165 = .ok (.getfield 42, 3) := by decide +kernel
theorem dX9_about_168 : decode cX9_about 168 = .ok (.invokevirtual 161, 3) := by decide +kernel
theorem dX9_about_171 : decode cX9_about 171 = .ok (.invokestatic 165, 3) := by decide +kernel
theorem dX9_about_174 : decode cX9_about 174 = .ok (.ireturn, 1) := by decide +kernel
theorem dX9_about_175 : decode cX9_about 175 = .ok (.aload_n 0, 1) := by decide +kernel
theorem dX9_about_176 : decode cX9_about 176 = .ok (.getfield 42, 3) := by decide +kernel
theorem dX9_about_179 : decode cX9_about 179 = .ok (.invokevirtual 171, 3) := by decide +kernel
theorem dX9_about_182 : decode cX9_about 182 = .ok (.invokestatic 165, 3) := by decide +kernel
theorem dX9_about_185 : decode cX9_about 185 = .ok (.ireturn, 1) := by decide +kernel
theorem dX9_about_186 : decode cX9_about 186 = .ok (.aload_n 0, 1) := by decide +kernel
theorem dX9_about_187 : decode cX9_about 187 = .ok (.getfield 19, 3) := by decide +kernel
theorem dX9_about_190 : decode cX9_about 190 = .ok (.getfield 134, 3) := by decide +kernel
theorem dX9_about_193 : decode cX9_about 193 = .ok (.invokestatic 137, 3) := by decide +kernel
theorem dX9_about_196 : decode cX9_about 196 = .ok (.ireturn, 1) := by decide +kernel
theorem dX9_about_197 : decode cX9_about 197 = .ok (.aload_n 0, 1) := by decide +kernel
theorem dX9_about_198 : decode cX9_about 198 = .ok (.getfield 19, 3) := by decide +kernel
theorem dX9_about_201 : decode cX9_about 201 = .ok (.getfield 140, 3) := by decide +kernel
theorem dX9_about_204 : decode cX9_about 204 = .ok (.invokestatic 137, 3) := by decide +kernel
theorem dX9_about_207 : decode cX9_about 207 = .ok (.ireturn, 1) := by decide +kernel
theorem dX9_about_208 : decode cX9_about 208 = .ok (.aload_n 0, 1) := by decide +kernel
theorem dX9_about_209 : decode cX9_about 209 = .ok (.getfield 12, 3) := by decide +kernel
theorem dX9_about_212 : decode cX9_about 212 = .ok (.getfield 81, 3) := by decide +kernel
theorem dX9_about_215 : decode cX9_about 215 = .ok (.ireturn, 1) := by decide +kernel
theorem dX9_about_216 : decode cX9_about 216 = .ok (.bipush (-2), 2) := by decide +kernel
theorem dX9_about_218 : decode cX9_about 218 = .ok (.ireturn, 1) := by decide +kernel
set_option maxRecDepth 20000 in
theorem ggX9_part_X1_placeOf : GoodIn wsX9_part wsX1_placeOf := goodIn_r _ [6, 7, 8, 51, 52, 53, 54, 55, 56, 57] (by decide +kernel) (by decide +kernel)
set_option maxRecDepth 20000 in
theorem gX9_part_X1_placeOf : GoodIn wsX9_part (wsV RX9 110 RX1 yX1_placeOf wsX1_placeOf) := goodIn_app (goodIn_of _ (by decide +kernel)) ggX9_part_X1_placeOf
set_option maxRecDepth 20000 in
theorem ggX9_part_X1_partOf : GoodIn wsX9_part wsX1_partOf := goodIn_r _ [12, 13, 14, 15, 5, 16, 17, 18, 19, 20, 21, 22, 23, 24, 25, 26, 51, 52, 53, 54, 55, 56, 57] (by decide +kernel) (by decide +kernel)
set_option maxRecDepth 20000 in
theorem gX9_part_X1_partOf : GoodIn wsX9_part (wsV RX9 174 RX1 yX1_partOf wsX1_partOf) := goodIn_app (goodIn_of _ (by decide +kernel)) ggX9_part_X1_partOf
set_option maxRecDepth 20000 in
theorem ggX9_part_X1_least : GoodIn wsX9_part wsX1_least := goodIn_r _ [29, 30, 31, 32, 33, 34, 35, 36] (by decide +kernel) (by decide +kernel)
set_option maxRecDepth 20000 in
theorem gX9_part_X1_least : GoodIn wsX9_part (va_wsS RX9 178 yX1_least wsX1_least) := goodIn_app (goodIn_of _ (by decide +kernel)) ggX9_part_X1_least
set_option maxRecDepth 20000 in
theorem ggX9_part_X1_told : GoodIn wsX9_part wsX1_told := goodIn_r _ [39] (by decide +kernel) (by decide +kernel)
set_option maxRecDepth 20000 in
theorem gX9_part_X1_told : GoodIn wsX9_part (va_wsS RX9 137 yX1_told wsX1_told) := goodIn_app (goodIn_of _ (by decide +kernel)) ggX9_part_X1_told
theorem dX9_part_0 : decode cX9_part 0 = .ok (.aload_n 0, 1) := by decide +kernel
theorem dX9_part_1 : decode cX9_part 1 = .ok (.getfield 19, 3) := by decide +kernel
theorem dX9_part_4 : decode cX9_part 4 = .ok (.iload_n 1, 1) := by decide +kernel
theorem dX9_part_5 : decode cX9_part 5 = .ok (.invokevirtual 110, 3) := by decide +kernel
theorem dX9_part_8 : decode cX9_part 8 = .ok (.istore_n 2, 1) := by decide +kernel
theorem dX9_part_9 : decode cX9_part 9 = .ok (.iload_n 2, 1) := by decide +kernel
theorem dX9_part_10 : decode cX9_part 10 = .ok (.iconst (-1), 1) := by decide +kernel
theorem dX9_part_11 : decode cX9_part 11 = .ok (.if_icmp .ne 5, 3) := by decide +kernel
theorem dX9_part_14 : decode cX9_part 14 = .ok (.iconst (-1), 1) := by decide +kernel
theorem dX9_part_15 : decode cX9_part 15 = .ok (.ireturn, 1) := by decide +kernel
theorem dX9_part_16 : decode cX9_part 16 = .ok (.aload_n 0, 1) := by decide +kernel
theorem dX9_part_17 : decode cX9_part 17 = .ok (.getfield 19, 3) := by decide +kernel
theorem dX9_part_20 : decode cX9_part 20 = .ok (.iload_n 2, 1) := by decide +kernel
theorem dX9_part_21 : decode cX9_part 21 = .ok (.invokevirtual 174, 3) := by decide +kernel
theorem dX9_part_24 : decode cX9_part 24 = .ok (.invokestatic 178, 3) := by decide +kernel
theorem dX9_part_27 : decode cX9_part 27 = .ok (.invokestatic 137, 3) := by decide +kernel
theorem dX9_part_30 : decode cX9_part 30 = .ok (.ireturn, 1) := by decide +kernel
set_option maxRecDepth 20000 in
theorem ggX9_bridge_X1_placeOf : GoodIn wsX9_bridge wsX1_placeOf := goodIn_r _ [7, 8, 9, 78, 79, 80, 81, 82, 83, 84] (by decide +kernel) (by decide +kernel)
set_option maxRecDepth 20000 in
theorem gX9_bridge_X1_placeOf : GoodIn wsX9_bridge (wsV RX9 110 RX1 yX1_placeOf wsX1_placeOf) := goodIn_app (goodIn_of _ (by decide +kernel)) ggX9_bridge_X1_placeOf
set_option maxRecDepth 20000 in
theorem ggX9_bridge_X9_isSide : GoodIn wsX9_bridge wsX9_isSide := goodIn_r _ [13] (by decide +kernel) (by decide +kernel)
set_option maxRecDepth 20000 in
theorem gX9_bridge_X9_isSide : GoodIn wsX9_bridge (va_wsS RX9 114 yX9_isSide wsX9_isSide) := goodIn_app (goodIn_of _ (by decide +kernel)) ggX9_bridge_X9_isSide
set_option maxRecDepth 20000 in
theorem ggX9_bridge_X1_isOpen : GoodIn wsX9_bridge wsX1_isOpen := goodIn_r _ [17, 18, 19, 20, 21, 6, 22, 78, 79, 80, 81, 82, 83, 84] (by decide +kernel) (by decide +kernel)
set_option maxRecDepth 20000 in
theorem gX9_bridge_X1_isOpen : GoodIn wsX9_bridge (wsV RX9 118 RX1 yX1_isOpen wsX1_isOpen) := goodIn_app (goodIn_of _ (by decide +kernel)) ggX9_bridge_X1_isOpen
set_option maxRecDepth 20000 in
theorem ggX9_bridge_X7_isBridge : GoodIn wsX9_bridge wsX7_isBridge := goodIn_r _ [27, 28, 29, 30, 31, 6, 32, 33, 15, 16, 17, 18, 19, 20, 21, 22, 34, 35, 36, 37, 38, 39, 40, 41, 42, 43, 44, 45, 46, 47, 48, 49, 50, 51, 52, 53, 54, 55, 56, 57, 58, 59, 60, 61, 62, 63, 85, 78, 79, 80, 81, 82, 83, 84] (by decide +kernel) (by decide +kernel)
set_option maxRecDepth 20000 in
theorem gX9_bridge_X7_isBridge : GoodIn wsX9_bridge (wsV RX9 181 RX7 yX7_isBridge wsX7_isBridge) := goodIn_app (goodIn_of _ (by decide +kernel)) ggX9_bridge_X7_isBridge
set_option maxRecDepth 20000 in
theorem ggX9_bridge_X9_oneIf : GoodIn wsX9_bridge wsX9_oneIf := goodIn_r _ [66] (by decide +kernel) (by decide +kernel)
set_option maxRecDepth 20000 in
theorem gX9_bridge_X9_oneIf : GoodIn wsX9_bridge (va_wsS RX9 122 yX9_oneIf wsX9_oneIf) := goodIn_app (goodIn_of _ (by decide +kernel)) ggX9_bridge_X9_oneIf
theorem dX9_bridge_0 : decode cX9_bridge 0 = .ok (.aload_n 0, 1) := by decide +kernel
theorem dX9_bridge_1 : decode cX9_bridge 1 = .ok (.getfield 19, 3) := by decide +kernel
theorem dX9_bridge_4 : decode cX9_bridge 4 = .ok (.iload_n 1, 1) := by decide +kernel
theorem dX9_bridge_5 : decode cX9_bridge 5 = .ok (.invokevirtual 110, 3) := by decide +kernel
theorem dX9_bridge_8 : decode cX9_bridge 8 = .ok (.istore_n 3, 1) := by decide +kernel
theorem dX9_bridge_9 : decode cX9_bridge 9 = .ok (.iload_n 3, 1) := by decide +kernel
theorem dX9_bridge_10 : decode cX9_bridge 10 = .ok (.iconst (-1), 1) := by decide +kernel
theorem dX9_bridge_11 : decode cX9_bridge 11 = .ok (.if_icmp .eq 10, 3) := by decide +kernel
theorem dX9_bridge_14 : decode cX9_bridge 14 = .ok (.iload_n 2, 1) := by decide +kernel
theorem dX9_bridge_15 : decode cX9_bridge 15 = .ok (.invokestatic 114, 3) := by decide +kernel
theorem dX9_bridge_18 : decode cX9_bridge 18 = .ok (.ifCond .ne 5, 3) := by decide +kernel
theorem dX9_bridge_21 : decode cX9_bridge 21 = .ok (.iconst (-1), 1) := by decide +kernel
theorem dX9_bridge_22 : decode cX9_bridge 22 = .ok (.ireturn, 1) := by decide +kernel
theorem dX9_bridge_23 : decode cX9_bridge 23 = .ok (.aload_n 0, 1) := by decide +kernel
theorem dX9_bridge_24 : decode cX9_bridge 24 = .ok (.getfield 19, 3) := by decide +kernel
theorem dX9_bridge_27 : decode cX9_bridge 27 = .ok (.iload_n 3, 1) := by decide +kernel
theorem dX9_bridge_28 : decode cX9_bridge 28 = .ok (.iload_n 2, 1) := by decide +kernel
theorem dX9_bridge_29 : decode cX9_bridge 29 = .ok (.invokevirtual 118, 3) := by decide +kernel
theorem dX9_bridge_32 : decode cX9_bridge 32 = .ok (.ifCond .ne 6, 3) := by decide +kernel
theorem dX9_bridge_35 : decode cX9_bridge 35 = .ok (.bipush (-3), 2) := by decide +kernel
theorem dX9_bridge_37 : decode cX9_bridge 37 = .ok (.ireturn, 1) := by decide +kernel
theorem dX9_bridge_38 : decode cX9_bridge 38 = .ok (.aload_n 0, 1) := by decide +kernel
theorem dX9_bridge_39 : decode cX9_bridge 39 = .ok (.getfield 42, 3) := by decide +kernel
theorem dX9_bridge_42 : decode cX9_bridge 42 = .ok (.iload_n 3, 1) := by decide +kernel
theorem dX9_bridge_43 : decode cX9_bridge 43 = .ok (.iload_n 2, 1) := by decide +kernel
theorem dX9_bridge_44 : decode cX9_bridge 44 = .ok (.invokevirtual 181, 3) := by decide +kernel
theorem dX9_bridge_47 : decode cX9_bridge 47 = .ok (.invokestatic 122, 3) := by decide +kernel
theorem dX9_bridge_50 : decode cX9_bridge 50 = .ok (.ireturn, 1) := by decide +kernel
set_option maxRecDepth 20000 in
theorem ggX9_must_X1_placeOf : GoodIn wsX9_must wsX1_placeOf := goodIn_r _ [7, 8, 9, 52, 53, 54, 55, 56, 57, 58] (by decide +kernel) (by decide +kernel)
set_option maxRecDepth 20000 in
theorem gX9_must_X1_placeOf : GoodIn wsX9_must (wsV RX9 110 RX1 yX1_placeOf wsX1_placeOf) := goodIn_app (goodIn_of _ (by decide +kernel)) ggX9_must_X1_placeOf
set_option maxRecDepth 20000 in
theorem ggX9_must_X7_mustCells : GoodIn wsX9_must wsX7_mustCells := goodIn_r _ [14, 15, 16, 17, 18, 19, 20, 21, 6, 22, 23, 24, 25, 26, 27, 28, 29, 30, 31, 32, 33, 34, 35, 59, 52, 53, 54, 55, 56, 57, 58] (by decide +kernel) (by decide +kernel)
set_option maxRecDepth 20000 in
theorem gX9_must_X7_mustCells : GoodIn wsX9_must (wsV RX9 161 RX7 yX7_mustCells wsX7_mustCells) := goodIn_app (goodIn_of _ (by decide +kernel)) ggX9_must_X7_mustCells
set_option maxRecDepth 20000 in
theorem ggX9_must_X1_has : GoodIn wsX9_must wsX1_has := goodIn_r _ [35] (by decide +kernel) (by decide +kernel)
set_option maxRecDepth 20000 in
theorem gX9_must_X1_has : GoodIn wsX9_must (va_wsS RX9 184 yX1_has wsX1_has) := goodIn_app (goodIn_of _ (by decide +kernel)) ggX9_must_X1_has
set_option maxRecDepth 20000 in
theorem ggX9_must_X9_oneIf : GoodIn wsX9_must wsX9_oneIf := goodIn_r _ [40] (by decide +kernel) (by decide +kernel)
set_option maxRecDepth 20000 in
theorem gX9_must_X9_oneIf : GoodIn wsX9_must (va_wsS RX9 122 yX9_oneIf wsX9_oneIf) := goodIn_app (goodIn_of _ (by decide +kernel)) ggX9_must_X9_oneIf
theorem dX9_must_0 : decode cX9_must 0 = .ok (.aload_n 0, 1) := by decide +kernel
theorem dX9_must_1 : decode cX9_must 1 = .ok (.getfield 19, 3) := by decide +kernel
theorem dX9_must_4 : decode cX9_must 4 = .ok (.iload_n 1, 1) := by decide +kernel
theorem dX9_must_5 : decode cX9_must 5 = .ok (.invokevirtual 110, 3) := by decide +kernel
theorem dX9_must_8 : decode cX9_must 8 = .ok (.istore_n 2, 1) := by decide +kernel
theorem dX9_must_9 : decode cX9_must 9 = .ok (.iload_n 2, 1) := by decide +kernel
theorem dX9_must_10 : decode cX9_must 10 = .ok (.iconst (-1), 1) := by decide +kernel
theorem dX9_must_11 : decode cX9_must 11 = .ok (.if_icmp .ne 5, 3) := by decide +kernel
theorem dX9_must_14 : decode cX9_must 14 = .ok (.iconst (-1), 1) := by decide +kernel
theorem dX9_must_15 : decode cX9_must 15 = .ok (.ireturn, 1) := by decide +kernel
theorem dX9_must_16 : decode cX9_must 16 = .ok (.aload_n 0, 1) := by decide +kernel
theorem dX9_must_17 : decode cX9_must 17 = .ok (.getfield 42, 3) := by decide +kernel
theorem dX9_must_20 : decode cX9_must 20 = .ok (.invokevirtual 161, 3) := by decide +kernel
theorem dX9_must_23 : decode cX9_must 23 = .ok (.iload_n 2, 1) := by decide +kernel
theorem dX9_must_24 : decode cX9_must 24 = .ok (.invokestatic 184, 3) := by decide +kernel
theorem dX9_must_27 : decode cX9_must 27 = .ok (.invokestatic 122, 3) := by decide +kernel
theorem dX9_must_30 : decode cX9_must 30 = .ok (.ireturn, 1) := by decide +kernel
set_option maxRecDepth 20000 in
theorem ggX9_left_X1_placeOf : GoodIn wsX9_left wsX1_placeOf := goodIn_r _ [7, 8, 9, 58, 59, 60, 61, 62, 63, 64] (by decide +kernel) (by decide +kernel)
set_option maxRecDepth 20000 in
theorem gX9_left_X1_placeOf : GoodIn wsX9_left (wsV RX9 110 RX1 yX1_placeOf wsX1_placeOf) := goodIn_app (goodIn_of _ (by decide +kernel)) ggX9_left_X1_placeOf
set_option maxRecDepth 20000 in
theorem ggX9_left_X7_leftCells : GoodIn wsX9_left wsX7_leftCells := goodIn_r _ [14, 15, 16, 17, 18, 19, 20, 21, 22, 13, 23, 24, 25, 6, 26, 27, 28, 29, 30, 31, 32, 33, 34, 35, 36, 37, 38, 39, 65, 58, 59, 60, 61, 62, 63, 64] (by decide +kernel) (by decide +kernel)
set_option maxRecDepth 20000 in
theorem gX9_left_X7_leftCells : GoodIn wsX9_left (wsV RX9 171 RX7 yX7_leftCells wsX7_leftCells) := goodIn_app (goodIn_of _ (by decide +kernel)) ggX9_left_X7_leftCells
set_option maxRecDepth 20000 in
theorem ggX9_left_X1_has : GoodIn wsX9_left wsX1_has := goodIn_r _ [42] (by decide +kernel) (by decide +kernel)
set_option maxRecDepth 20000 in
theorem gX9_left_X1_has : GoodIn wsX9_left (va_wsS RX9 184 yX1_has wsX1_has) := goodIn_app (goodIn_of _ (by decide +kernel)) ggX9_left_X1_has
set_option maxRecDepth 20000 in
theorem ggX9_left_X9_oneIf : GoodIn wsX9_left wsX9_oneIf := goodIn_r _ [46] (by decide +kernel) (by decide +kernel)
set_option maxRecDepth 20000 in
theorem gX9_left_X9_oneIf : GoodIn wsX9_left (va_wsS RX9 122 yX9_oneIf wsX9_oneIf) := goodIn_app (goodIn_of _ (by decide +kernel)) ggX9_left_X9_oneIf
theorem dX9_left_0 : decode cX9_left 0 = .ok (.aload_n 0, 1) := by decide +kernel
theorem dX9_left_1 : decode cX9_left 1 = .ok (.getfield 19, 3) := by decide +kernel
theorem dX9_left_4 : decode cX9_left 4 = .ok (.iload_n 1, 1) := by decide +kernel
theorem dX9_left_5 : decode cX9_left 5 = .ok (.invokevirtual 110, 3) := by decide +kernel
theorem dX9_left_8 : decode cX9_left 8 = .ok (.istore_n 2, 1) := by decide +kernel
theorem dX9_left_9 : decode cX9_left 9 = .ok (.iload_n 2, 1) := by decide +kernel
theorem dX9_left_10 : decode cX9_left 10 = .ok (.iconst (-1), 1) := by decide +kernel
theorem dX9_left_11 : decode cX9_left 11 = .ok (.if_icmp .ne 5, 3) := by decide +kernel
theorem dX9_left_14 : decode cX9_left 14 = .ok (.iconst (-1), 1) := by decide +kernel
theorem dX9_left_15 : decode cX9_left 15 = .ok (.ireturn, 1) := by decide +kernel
theorem dX9_left_16 : decode cX9_left 16 = .ok (.aload_n 0, 1) := by decide +kernel
theorem dX9_left_17 : decode cX9_left 17 = .ok (.getfield 42, 3) := by decide +kernel
theorem dX9_left_20 : decode cX9_left 20 = .ok (.invokevirtual 171, 3) := by decide +kernel
theorem dX9_left_23 : decode cX9_left 23 = .ok (.iload_n 2, 1) := by decide +kernel
theorem dX9_left_24 : decode cX9_left 24 = .ok (.invokestatic 184, 3) := by decide +kernel
theorem dX9_left_27 : decode cX9_left 27 = .ok (.invokestatic 122, 3) := by decide +kernel
theorem dX9_left_30 : decode cX9_left 30 = .ok (.ireturn, 1) := by decide +kernel
set_option maxRecDepth 20000 in
theorem ggX9_far_X1_placeOf : GoodIn wsX9_far wsX1_placeOf := goodIn_r _ [6, 7, 8, 36, 37, 38, 39, 40, 41, 42] (by decide +kernel) (by decide +kernel)
set_option maxRecDepth 20000 in
theorem gX9_far_X1_placeOf : GoodIn wsX9_far (wsV RX9 110 RX1 yX1_placeOf wsX1_placeOf) := goodIn_app (goodIn_of _ (by decide +kernel)) ggX9_far_X1_placeOf
set_option maxRecDepth 20000 in
theorem ggX9_far_X1_distance : GoodIn wsX9_far wsX1_distance := goodIn_r _ [12, 13, 14, 5, 15, 16, 17, 18, 19, 20, 21, 22, 23, 24, 36, 37, 38, 39, 40, 41, 42] (by decide +kernel) (by decide +kernel)
set_option maxRecDepth 20000 in
theorem gX9_far_X1_distance : GoodIn wsX9_far (wsV RX9 188 RX1 yX1_distance wsX1_distance) := goodIn_app (goodIn_of _ (by decide +kernel)) ggX9_far_X1_distance
theorem dX9_far_0 : decode cX9_far 0 = .ok (.aload_n 0, 1) := by decide +kernel
theorem dX9_far_1 : decode cX9_far 1 = .ok (.getfield 19, 3) := by decide +kernel
theorem dX9_far_4 : decode cX9_far 4 = .ok (.iload_n 1, 1) := by decide +kernel
theorem dX9_far_5 : decode cX9_far 5 = .ok (.invokevirtual 110, 3) := by decide +kernel
theorem dX9_far_8 : decode cX9_far 8 = .ok (.istore_n 3, 1) := by decide +kernel
theorem dX9_far_9 : decode cX9_far 9 = .ok (.aload_n 0, 1) := by decide +kernel
theorem dX9_far_10 : decode cX9_far 10 = .ok (.getfield 19, 3) := by decide +kernel
theorem dX9_far_13 : decode cX9_far 13 = .ok (.iload_n 2, 1) := by decide +kernel
theorem dX9_far_14 : decode cX9_far 14 = .ok (.invokevirtual 110, 3) := by decide +kernel
theorem dX9_far_17 : decode cX9_far 17 = .ok (.istore 4, 2) := by decide +kernel
theorem dX9_far_19 : decode cX9_far 19 = .ok (.iload_n 3, 1) := by decide +kernel
theorem dX9_far_20 : decode cX9_far 20 = .ok (.iconst (-1), 1) := by decide +kernel
theorem dX9_far_21 : decode cX9_far 21 = .ok (.if_icmp .eq 9, 3) := by decide +kernel
theorem dX9_far_24 : decode cX9_far 24 = .ok (.iload 4, 2) := by decide +kernel
theorem dX9_far_26 : decode cX9_far 26 = .ok (.iconst (-1), 1) := by decide +kernel
theorem dX9_far_27 : decode cX9_far 27 = .ok (.if_icmp .ne 5, 3) := by decide +kernel
theorem dX9_far_30 : decode cX9_far 30 = .ok (.iconst (-1), 1) := by decide +kernel
theorem dX9_far_31 : decode cX9_far 31 = .ok (.ireturn, 1) := by decide +kernel
theorem dX9_far_32 : decode cX9_far 32 = .ok (.aload_n 0, 1) := by decide +kernel
theorem dX9_far_33 : decode cX9_far 33 = .ok (.getfield 19, 3) := by decide +kernel
theorem dX9_far_36 : decode cX9_far 36 = .ok (.iload_n 3, 1) := by decide +kernel
theorem dX9_far_37 : decode cX9_far 37 = .ok (.iload 4, 2) := by decide +kernel
theorem dX9_far_39 : decode cX9_far 39 = .ok (.invokevirtual 188, 3) := by decide +kernel
theorem dX9_far_42 : decode cX9_far 42 = .ok (.ireturn, 1) := by decide +kernel
set_option maxRecDepth 20000 in
theorem ggX9_ways_X1_placeOf : GoodIn wsX9_ways wsX1_placeOf := goodIn_r _ [8, 9, 10, 61, 62, 63, 64, 65, 66, 67] (by decide +kernel) (by decide +kernel)
set_option maxRecDepth 20000 in
theorem gX9_ways_X1_placeOf : GoodIn wsX9_ways (wsV RX9 110 RX1 yX1_placeOf wsX1_placeOf) := goodIn_app (goodIn_of _ (by decide +kernel)) ggX9_ways_X1_placeOf
set_option maxRecDepth 20000 in
theorem ggX9_ways_X4_shortestWays : GoodIn wsX9_ways wsX4_shortestWays := goodIn_r _ [15, 16, 17, 18, 19, 20, 21, 7, 22, 23, 24, 25, 26, 27, 28, 29, 30, 31, 32, 33, 34, 14, 35, 36, 37, 38, 39, 40, 41, 42, 43, 44, 45, 46, 47, 48, 49, 68, 69, 70, 61, 62, 63, 64, 65, 66, 67] (by decide +kernel) (by decide +kernel)
set_option maxRecDepth 20000 in
theorem gX9_ways_X4_shortestWays : GoodIn wsX9_ways (wsV RX9 193 RX4 yX4_shortestWays wsX4_shortestWays) := goodIn_app (goodIn_of _ (by decide +kernel)) ggX9_ways_X4_shortestWays
theorem dX9_ways_0 : decode cX9_ways 0 = .ok (.aload_n 0, 1) := by decide +kernel
theorem dX9_ways_1 : decode cX9_ways 1 = .ok (.getfield 19, 3) := by decide +kernel
theorem dX9_ways_4 : decode cX9_ways 4 = .ok (.iload_n 1, 1) := by decide +kernel
theorem dX9_ways_5 : decode cX9_ways 5 = .ok (.invokevirtual 110, 3) := by decide +kernel
theorem dX9_ways_8 : decode cX9_ways 8 = .ok (.istore_n 3, 1) := by decide +kernel
theorem dX9_ways_9 : decode cX9_ways 9 = .ok (.aload_n 0, 1) := by decide +kernel
theorem dX9_ways_10 : decode cX9_ways 10 = .ok (.getfield 19, 3) := by decide +kernel
theorem dX9_ways_13 : decode cX9_ways 13 = .ok (.iload_n 2, 1) := by decide +kernel
theorem dX9_ways_14 : decode cX9_ways 14 = .ok (.invokevirtual 110, 3) := by decide +kernel
theorem dX9_ways_17 : decode cX9_ways 17 = .ok (.istore 4, 2) := by decide +kernel
theorem dX9_ways_19 : decode cX9_ways 19 = .ok (.iload_n 3, 1) := by decide +kernel
theorem dX9_ways_20 : decode cX9_ways 20 = .ok (.iconst (-1), 1) := by decide +kernel
theorem dX9_ways_21 : decode cX9_ways 21 = .ok (.if_icmp .eq 9, 3) := by decide +kernel
theorem dX9_ways_24 : decode cX9_ways 24 = .ok (.iload 4, 2) := by decide +kernel
theorem dX9_ways_26 : decode cX9_ways 26 = .ok (.iconst (-1), 1) := by decide +kernel
theorem dX9_ways_27 : decode cX9_ways 27 = .ok (.if_icmp .ne 7, 3) := by decide +kernel
theorem dX9_ways_30 : decode cX9_ways 30 = .ok (.ldc2_w 191, 3) := by decide +kernel
theorem dX9_ways_33 : decode cX9_ways 33 = .ok (.lreturn, 1) := by decide +kernel
theorem dX9_ways_34 : decode cX9_ways 34 = .ok (.aload_n 0, 1) := by decide +kernel
theorem dX9_ways_35 : decode cX9_ways 35 = .ok (.getfield 49, 3) := by decide +kernel
theorem dX9_ways_38 : decode cX9_ways 38 = .ok (.iload_n 3, 1) := by decide +kernel
theorem dX9_ways_39 : decode cX9_ways 39 = .ok (.iload 4, 2) := by decide +kernel
theorem dX9_ways_41 : decode cX9_ways 41 = .ok (.invokevirtual 193, 3) := by decide +kernel
theorem dX9_ways_44 : decode cX9_ways 44 = .ok (.lreturn, 1) := by decide +kernel
set_option maxRecDepth 20000 in
theorem ggX9_step_X1_placeOf : GoodIn wsX9_step wsX1_placeOf := goodIn_r _ [7, 8, 9, 67, 68, 69, 70, 71, 72, 73] (by decide +kernel) (by decide +kernel)
set_option maxRecDepth 20000 in
theorem gX9_step_X1_placeOf : GoodIn wsX9_step (wsV RX9 110 RX1 yX1_placeOf wsX1_placeOf) := goodIn_app (goodIn_of _ (by decide +kernel)) ggX9_step_X1_placeOf
set_option maxRecDepth 20000 in
theorem ggX9_step_X4_placeOnFirst : GoodIn wsX9_step wsX4_placeOnFirst := goodIn_r _ [14, 15, 16, 17, 18, 19, 6, 20, 21, 22, 23, 24, 25, 26, 27, 28, 29, 30, 31, 32, 33, 34, 35, 36, 37, 13, 38, 39, 40, 41, 42, 43, 44, 45, 46, 47, 48, 49, 50, 51, 52, 74, 75, 76, 67, 68, 69, 70, 71, 72, 73] (by decide +kernel) (by decide +kernel)
set_option maxRecDepth 20000 in
theorem gX9_step_X4_placeOnFirst : GoodIn wsX9_step (wsV RX9 197 RX4 yX4_placeOnFirst wsX4_placeOnFirst) := goodIn_app (goodIn_of _ (by decide +kernel)) ggX9_step_X4_placeOnFirst
set_option maxRecDepth 20000 in
theorem ggX9_step_X1_told : GoodIn wsX9_step wsX1_told := goodIn_r _ [55] (by decide +kernel) (by decide +kernel)
set_option maxRecDepth 20000 in
theorem gX9_step_X1_told : GoodIn wsX9_step (va_wsS RX9 137 yX1_told wsX1_told) := goodIn_app (goodIn_of _ (by decide +kernel)) ggX9_step_X1_told
theorem dX9_step_0 : decode cX9_step 0 = .ok (.aload_n 0, 1) := by decide +kernel
theorem dX9_step_1 : decode cX9_step 1 = .ok (.getfield 19, 3) := by decide +kernel
theorem dX9_step_4 : decode cX9_step 4 = .ok (.iload_n 1, 1) := by decide +kernel
theorem dX9_step_5 : decode cX9_step 5 = .ok (.invokevirtual 110, 3) := by decide +kernel
theorem dX9_step_8 : decode cX9_step 8 = .ok (.istore 4, 2) := by decide +kernel
theorem dX9_step_10 : decode cX9_step 10 = .ok (.aload_n 0, 1) := by decide +kernel
theorem dX9_step_11 : decode cX9_step 11 = .ok (.getfield 19, 3) := by decide +kernel
theorem dX9_step_14 : decode cX9_step 14 = .ok (.iload_n 2, 1) := by decide +kernel
theorem dX9_step_15 : decode cX9_step 15 = .ok (.invokevirtual 110, 3) := by decide +kernel
theorem dX9_step_18 : decode cX9_step 18 = .ok (.istore 5, 2) := by decide +kernel
theorem dX9_step_20 : decode cX9_step 20 = .ok (.iload 4, 2) := by decide +kernel
theorem dX9_step_22 : decode cX9_step 22 = .ok (.iconst (-1), 1) := by decide +kernel
theorem dX9_step_23 : decode cX9_step 23 = .ok (.if_icmp .eq 9, 3) := by decide +kernel
theorem dX9_step_26 : decode cX9_step 26 = .ok (.iload 5, 2) := by decide +kernel
theorem dX9_step_28 : decode cX9_step 28 = .ok (.iconst (-1), 1) := by decide +kernel
theorem dX9_step_29 : decode cX9_step 29 = .ok (.if_icmp .ne 5, 3) := by decide +kernel
theorem dX9_step_32 : decode cX9_step 32 = .ok (.iconst (-1), 1) := by decide +kernel
theorem dX9_step_33 : decode cX9_step 33 = .ok (.ireturn, 1) := by decide +kernel
theorem dX9_step_34 : decode cX9_step 34 = .ok (.aload_n 0, 1) := by decide +kernel
theorem dX9_step_35 : decode cX9_step 35 = .ok (.getfield 49, 3) := by decide +kernel
theorem dX9_step_38 : decode cX9_step 38 = .ok (.iload 4, 2) := by decide +kernel
theorem dX9_step_40 : decode cX9_step 40 = .ok (.iload 5, 2) := by decide +kernel
theorem dX9_step_42 : decode cX9_step 42 = .ok (.iload_n 3, 1) := by decide +kernel
theorem dX9_step_43 : decode cX9_step 43 = .ok (.invokevirtual 197, 3) := by decide +kernel
theorem dX9_step_46 : decode cX9_step 46 = .ok (.istore 6, 2) := by decide +kernel
theorem dX9_step_48 : decode cX9_step 48 = .ok (.iload 6, 2) := by decide +kernel
theorem dX9_step_50 : decode cX9_step 50 = .ok (.iconst (-1), 1) := by decide +kernel
theorem dX9_step_51 : decode cX9_step 51 = .ok (.if_icmp .ne 8, 3) := by decide +kernel
theorem dX9_step_54 : decode cX9_step 54 = .ok (.bipush (-9), 2) := by decide +kernel
theorem dX9_step_56 : decode cX9_step 56 = .ok (.goto 8, 3) := by decide +kernel
theorem dX9_step_59 : decode cX9_step 59 = .ok (.iload 6, 2) := by decide +kernel
theorem dX9_step_61 : decode cX9_step 61 = .ok (.invokestatic 137, 3) := by decide +kernel
theorem dX9_step_64 : decode cX9_step 64 = .ok (.ireturn, 1) := by decide +kernel
set_option maxRecDepth 20000 in
theorem ggX9_widest_X1_placeOf : GoodIn wsX9_widest wsX1_placeOf := goodIn_r _ [7, 8, 9, 58, 59, 60, 61, 62, 63, 64] (by decide +kernel) (by decide +kernel)
set_option maxRecDepth 20000 in
theorem gX9_widest_X1_placeOf : GoodIn wsX9_widest (wsV RX9 110 RX1 yX1_placeOf wsX1_placeOf) := goodIn_app (goodIn_of _ (by decide +kernel)) ggX9_widest_X1_placeOf
set_option maxRecDepth 20000 in
theorem ggX9_widest_X1_partOf : GoodIn wsX9_widest wsX1_partOf := goodIn_r _ [13, 14, 15, 16, 6, 17, 18, 19, 20, 21, 22, 23, 24, 25, 26, 27, 58, 59, 60, 61, 62, 63, 64] (by decide +kernel) (by decide +kernel)
set_option maxRecDepth 20000 in
theorem gX9_widest_X1_partOf : GoodIn wsX9_widest (wsV RX9 174 RX1 yX1_partOf wsX1_partOf) := goodIn_app (goodIn_of _ (by decide +kernel)) ggX9_widest_X1_partOf
set_option maxRecDepth 20000 in
theorem ggX9_widest_X4_greatestDistance : GoodIn wsX9_widest wsX4_greatestDistance := goodIn_r _ [32, 33, 34, 35, 36, 37, 38, 6, 39, 40, 41, 42, 31, 43, 44, 45, 16, 17, 46, 23, 24, 25, 26, 27, 65, 66, 67, 58, 59, 60, 61, 62, 63, 64] (by decide +kernel) (by decide +kernel)
set_option maxRecDepth 20000 in
theorem gX9_widest_X4_greatestDistance : GoodIn wsX9_widest (wsV RX9 201 RX4 yX4_greatestDistance wsX4_greatestDistance) := goodIn_app (goodIn_of _ (by decide +kernel)) ggX9_widest_X4_greatestDistance
theorem dX9_widest_0 : decode cX9_widest 0 = .ok (.aload_n 0, 1) := by decide +kernel
theorem dX9_widest_1 : decode cX9_widest 1 = .ok (.getfield 19, 3) := by decide +kernel
theorem dX9_widest_4 : decode cX9_widest 4 = .ok (.iload_n 1, 1) := by decide +kernel
theorem dX9_widest_5 : decode cX9_widest 5 = .ok (.invokevirtual 110, 3) := by decide +kernel
theorem dX9_widest_8 : decode cX9_widest 8 = .ok (.istore_n 2, 1) := by decide +kernel
theorem dX9_widest_9 : decode cX9_widest 9 = .ok (.iload_n 2, 1) := by decide +kernel
theorem dX9_widest_10 : decode cX9_widest 10 = .ok (.iconst (-1), 1) := by decide +kernel
theorem dX9_widest_11 : decode cX9_widest 11 = .ok (.if_icmp .ne 5, 3) := by decide +kernel
theorem dX9_widest_14 : decode cX9_widest 14 = .ok (.iconst (-1), 1) := by decide +kernel
theorem dX9_widest_15 : decode cX9_widest 15 = .ok (.ireturn, 1) := by decide +kernel
theorem dX9_widest_16 : decode cX9_widest 16 = .ok (.aload_n 0, 1) := by decide +kernel
theorem dX9_widest_17 : decode cX9_widest 17 = .ok (.getfield 49, 3) := by decide +kernel
theorem dX9_widest_20 : decode cX9_widest 20 = .ok (.aload_n 0, 1) := by decide +kernel
theorem dX9_widest_21 : decode cX9_widest 21 = .ok (.getfield 19, 3) := by decide +kernel
theorem dX9_widest_24 : decode cX9_widest 24 = .ok (.iload_n 2, 1) := by decide +kernel
theorem dX9_widest_25 : decode cX9_widest 25 = .ok (.invokevirtual 174, 3) := by decide +kernel
theorem dX9_widest_28 : decode cX9_widest 28 = .ok (.invokevirtual 201, 3) := by decide +kernel
theorem dX9_widest_31 : decode cX9_widest 31 = .ok (.ireturn, 1) := by decide +kernel
set_option maxRecDepth 20000 in
theorem ggX9_hand_X9_isSide : GoodIn wsX9_hand wsX9_isSide := goodIn_r _ [5] (by decide +kernel) (by decide +kernel)
set_option maxRecDepth 20000 in
theorem gX9_hand_X9_isSide : GoodIn wsX9_hand (va_wsS RX9 114 yX9_isSide wsX9_isSide) := goodIn_app (goodIn_of _ (by decide +kernel)) ggX9_hand_X9_isSide
set_option maxRecDepth 20000 in
theorem ggX9_hand_X8_handSteps : GoodIn wsX9_hand wsX8_handSteps := goodIn_r _ [10, 11, 12, 13, 14, 15, 16, 9, 17, 18, 19, 20, 21, 22, 23, 24, 25, 26, 27, 28, 29, 30, 31, 32, 33, 34, 35, 36, 37, 38, 39, 40, 41, 42, 43, 55, 56, 57, 58, 59, 60, 61, 62, 63, 64, 65, 66, 67] (by decide +kernel) (by decide +kernel)
set_option maxRecDepth 20000 in
theorem gX9_hand_X8_handSteps : GoodIn wsX9_hand (wsV RX9 204 RX8 yX8_handSteps wsX8_handSteps) := goodIn_app (goodIn_of _ (by decide +kernel)) ggX9_hand_X8_handSteps
theorem dX9_hand_0 : decode cX9_hand 0 = .ok (.iload_n 1, 1) := by decide +kernel
theorem dX9_hand_1 : decode cX9_hand 1 = .ok (.invokestatic 114, 3) := by decide +kernel
theorem dX9_hand_4 : decode cX9_hand 4 = .ok (.ifCond .ne 5, 3) := by decide +kernel
theorem dX9_hand_7 : decode cX9_hand 7 = .ok (.iconst (-1), 1) := by decide +kernel
theorem dX9_hand_8 : decode cX9_hand 8 = .ok (.ireturn, 1) := by decide +kernel
theorem dX9_hand_9 : decode cX9_hand 9 = .ok (.aload_n 0, 1) := by decide +kernel
theorem dX9_hand_10 : decode cX9_hand 10 = .ok (.getfield 56, 3) := by decide +kernel
theorem dX9_hand_13 : decode cX9_hand 13 = .ok (.iload_n 1, 1) := by decide +kernel
theorem dX9_hand_14 : decode cX9_hand 14 = .ok (.iload_n 2, 1) := by decide +kernel
theorem dX9_hand_15 : decode cX9_hand 15 = .ok (.invokevirtual 204, 3) := by decide +kernel
theorem dX9_hand_18 : decode cX9_hand 18 = .ok (.ireturn, 1) := by decide +kernel
set_option maxRecDepth 20000 in
theorem ggX9_handAt_X9_isSide : GoodIn wsX9_handAt wsX9_isSide := goodIn_r _ [5] (by decide +kernel) (by decide +kernel)
set_option maxRecDepth 20000 in
theorem gX9_handAt_X9_isSide : GoodIn wsX9_handAt (va_wsS RX9 114 yX9_isSide wsX9_isSide) := goodIn_app (goodIn_of _ (by decide +kernel)) ggX9_handAt_X9_isSide
set_option maxRecDepth 20000 in
theorem ggX9_handAt_X8_handPlace : GoodIn wsX9_handAt wsX8_handPlace := goodIn_r _ [10, 11, 12, 13, 14, 9, 15, 16, 17, 18, 19, 20, 21, 22, 23, 24, 25, 26, 27, 28, 29, 30, 31, 32, 33, 34, 35, 36, 37, 38, 39, 40, 41, 42, 57, 58, 59, 60, 61, 62, 63, 64, 65, 66, 67, 68, 69] (by decide +kernel) (by decide +kernel)
set_option maxRecDepth 20000 in
theorem gX9_handAt_X8_handPlace : GoodIn wsX9_handAt (wsV RX9 208 RX8 yX8_handPlace wsX8_handPlace) := goodIn_app (goodIn_of _ (by decide +kernel)) ggX9_handAt_X8_handPlace
set_option maxRecDepth 20000 in
theorem ggX9_handAt_X1_told : GoodIn wsX9_handAt wsX1_told := goodIn_r _ [45] (by decide +kernel) (by decide +kernel)
set_option maxRecDepth 20000 in
theorem gX9_handAt_X1_told : GoodIn wsX9_handAt (va_wsS RX9 137 yX1_told wsX1_told) := goodIn_app (goodIn_of _ (by decide +kernel)) ggX9_handAt_X1_told
theorem dX9_handAt_0 : decode cX9_handAt 0 = .ok (.iload_n 1, 1) := by decide +kernel
theorem dX9_handAt_1 : decode cX9_handAt 1 = .ok (.invokestatic 114, 3) := by decide +kernel
theorem dX9_handAt_4 : decode cX9_handAt 4 = .ok (.ifCond .ne 5, 3) := by decide +kernel
theorem dX9_handAt_7 : decode cX9_handAt 7 = .ok (.iconst (-1), 1) := by decide +kernel
theorem dX9_handAt_8 : decode cX9_handAt 8 = .ok (.ireturn, 1) := by decide +kernel
theorem dX9_handAt_9 : decode cX9_handAt 9 = .ok (.iload_n 3, 1) := by decide +kernel
theorem dX9_handAt_10 : decode cX9_handAt 10 = .ok (.ifCond .lt 10, 3) := by decide +kernel
theorem dX9_handAt_13 : decode cX9_handAt 13 = .ok (.iload_n 3, 1) := by decide +kernel
theorem dX9_handAt_14 : decode cX9_handAt 14 = .ok (.sipush 999, 3) := by decide +kernel
theorem dX9_handAt_17 : decode cX9_handAt 17 = .ok (.if_icmp .le 6, 3) := by decide +kernel
theorem dX9_handAt_20 : decode cX9_handAt 20 = .ok (.bipush (-2), 2) := by decide +kernel
theorem dX9_handAt_22 : decode cX9_handAt 22 = .ok (.ireturn, 1) := by decide +kernel
theorem dX9_handAt_23 : decode cX9_handAt 23 = .ok (.aload_n 0, 1) := by decide +kernel
theorem dX9_handAt_24 : decode cX9_handAt 24 = .ok (.getfield 56, 3) := by decide +kernel
theorem dX9_handAt_27 : decode cX9_handAt 27 = .ok (.iload_n 1, 1) := by decide +kernel
theorem dX9_handAt_28 : decode cX9_handAt 28 = .ok (.iload_n 2, 1) := by decide +kernel
theorem dX9_handAt_29 : decode cX9_handAt 29 = .ok (.iload_n 3, 1) := by decide +kernel
theorem dX9_handAt_30 : decode cX9_handAt 30 = .ok (.invokevirtual 208, 3) := by decide +kernel
theorem dX9_handAt_33 : decode cX9_handAt 33 = .ok (.invokestatic 137, 3) := by decide +kernel
theorem dX9_handAt_36 : decode cX9_handAt 36 = .ok (.ireturn, 1) := by decide +kernel
set_option maxRecDepth 20000 in
theorem ggX9_thread_X8_followThread : GoodIn wsX9_thread wsX8_followThread := goodIn_r _ [6, 7, 8, 9, 10, 11, 12, 13, 14, 15, 16, 17, 18, 19, 20, 5, 21, 22, 23, 24, 25, 26, 27, 28, 29, 30, 31, 32, 33, 34, 35, 36, 37, 38, 39, 40, 52, 53, 54, 55, 56, 57, 58, 59, 60, 61, 62, 63, 64] (by decide +kernel) (by decide +kernel)
set_option maxRecDepth 20000 in
theorem gX9_thread_X8_followThread : GoodIn wsX9_thread (wsV RX9 212 RX8 yX8_followThread wsX8_followThread) := goodIn_app (goodIn_of _ (by decide +kernel)) ggX9_thread_X8_followThread
theorem dX9_thread_0 : decode cX9_thread 0 = .ok (.aload_n 0, 1) := by decide +kernel
theorem dX9_thread_1 : decode cX9_thread 1 = .ok (.getfield 56, 3) := by decide +kernel
theorem dX9_thread_4 : decode cX9_thread 4 = .ok (.invokevirtual 212, 3) := by decide +kernel
theorem dX9_thread_7 : decode cX9_thread 7 = .ok (.ireturn, 1) := by decide +kernel
set_option maxRecDepth 20000 in
theorem ggX9_seen_X8_followThread : GoodIn wsX9_seen wsX8_followThread := goodIn_r _ [7, 8, 9, 10, 11, 12, 13, 14, 15, 16, 17, 18, 19, 20, 21, 6, 22, 23, 24, 25, 26, 27, 28, 29, 30, 31, 32, 33, 34, 35, 36, 37, 38, 39, 40, 41, 60, 61, 62, 63, 64, 65, 66, 67, 68, 69, 70, 71, 72] (by decide +kernel) (by decide +kernel)
set_option maxRecDepth 20000 in
theorem gX9_seen_X8_followThread : GoodIn wsX9_seen (wsV RX9 212 RX8 yX8_followThread wsX8_followThread) := goodIn_app (goodIn_of _ (by decide +kernel)) ggX9_seen_X8_followThread
set_option maxRecDepth 20000 in
theorem ggX9_seen_J13_bitCount_95d88 : GoodIn wsX9_seen wsJ13_bitCount_95d88 := goodIn_r _ [45, 46, 47, 48] (by decide +kernel) (by decide +kernel)
set_option maxRecDepth 20000 in
theorem gX9_seen_J13_bitCount_95d88 : GoodIn wsX9_seen (va_wsS RX9 165 yJ13_bitCount_95d88 wsJ13_bitCount_95d88) := goodIn_app (goodIn_of _ (by decide +kernel)) ggX9_seen_J13_bitCount_95d88
theorem dX9_seen_0 : decode cX9_seen 0 = .ok (.aload_n 0, 1) := by decide +kernel
theorem dX9_seen_1 : decode cX9_seen 1 = .ok (.getfield 56, 3) := by decide +kernel
theorem dX9_seen_4 : decode cX9_seen 4 = .ok (.invokevirtual 212, 3) := by decide +kernel
theorem dX9_seen_7 : decode cX9_seen 7 = .ok (.pop, 1) := by decide +kernel
theorem dX9_seen_8 : decode cX9_seen 8 = .ok (.aload_n 0, 1) := by decide +kernel
theorem dX9_seen_9 : decode cX9_seen 9 = .ok (.getfield 56, 3) := by decide +kernel
theorem dX9_seen_12 : decode cX9_seen 12 = .ok (.getfield 215, 3) := by decide +kernel
theorem dX9_seen_15 : decode cX9_seen 15 = .ok (.invokestatic 165, 3) := by decide +kernel
theorem dX9_seen_18 : decode cX9_seen 18 = .ok (.ireturn, 1) := by decide +kernel
set_option maxRecDepth 20000 in
theorem ggX9_lost_X1_placeOf : GoodIn wsX9_lost wsX1_placeOf := goodIn_r _ [11, 12, 13, 102, 103, 104, 105, 106, 107, 108] (by decide +kernel) (by decide +kernel)
set_option maxRecDepth 20000 in
theorem gX9_lost_X1_placeOf : GoodIn wsX9_lost (wsV RX9 110 RX1 yX1_placeOf wsX1_placeOf) := goodIn_app (goodIn_of _ (by decide +kernel)) ggX9_lost_X1_placeOf
set_option maxRecDepth 20000 in
theorem ggX9_lost_X1_partOf : GoodIn wsX9_lost wsX1_partOf := goodIn_r _ [17, 18, 19, 20, 10, 21, 22, 23, 24, 25, 26, 27, 28, 29, 30, 31, 102, 103, 104, 105, 106, 107, 108] (by decide +kernel) (by decide +kernel)
set_option maxRecDepth 20000 in
theorem gX9_lost_X1_partOf : GoodIn wsX9_lost (wsV RX9 174 RX1 yX1_partOf wsX1_partOf) := goodIn_app (goodIn_of _ (by decide +kernel)) ggX9_lost_X1_partOf
set_option maxRecDepth 20000 in
theorem ggX9_lost_X1_has : GoodIn wsX9_lost wsX1_has := goodIn_r _ [34] (by decide +kernel) (by decide +kernel)
set_option maxRecDepth 20000 in
theorem gX9_lost_X1_has : GoodIn wsX9_lost (va_wsS RX9 184 yX1_has wsX1_has) := goodIn_app (goodIn_of _ (by decide +kernel)) ggX9_lost_X1_has
set_option maxRecDepth 20000 in
theorem ggX9_lost_J13_bitCount_95d88 : GoodIn wsX9_lost wsJ13_bitCount_95d88 := goodIn_r _ [38, 39, 40, 41] (by decide +kernel) (by decide +kernel)
set_option maxRecDepth 20000 in
theorem gX9_lost_J13_bitCount_95d88 : GoodIn wsX9_lost (va_wsS RX9 165 yJ13_bitCount_95d88 wsJ13_bitCount_95d88) := goodIn_app (goodIn_of _ (by decide +kernel)) ggX9_lost_J13_bitCount_95d88
set_option maxRecDepth 20000 in
theorem ggX9_lost_X6_meanSteps : GoodIn wsX9_lost wsX6_meanSteps := goodIn_r _ [46, 47, 48, 49, 50, 51, 52, 20, 10, 21, 53, 54, 55, 45, 56, 57, 33, 34, 58, 59, 60, 61, 62, 63, 64, 65, 66, 67, 68, 27, 28, 29, 30, 31, 69, 70, 71, 72, 19, 26, 73, 36, 37, 38, 39, 40, 41, 74, 75, 76, 77, 78, 79, 80, 81, 82, 83, 84, 96, 97, 98, 99, 100, 101, 102, 103, 104, 105, 106, 107, 108] (by decide +kernel) (by decide +kernel)
set_option maxRecDepth 20000 in
theorem gX9_lost_X6_meanSteps : GoodIn wsX9_lost (wsV RX9 221 RX6 yX6_meanSteps wsX6_meanSteps) := goodIn_app (goodIn_of _ (by decide +kernel)) ggX9_lost_X6_meanSteps
theorem dX9_lost_0 : decode cX9_lost 0 = .ok (.aload_n 0, 1) := by decide +kernel
theorem dX9_lost_1 : decode cX9_lost 1 = .ok (.getfield 19, 3) := by decide +kernel
theorem dX9_lost_4 : decode cX9_lost 4 = .ok (.iload_n 1, 1) := by decide +kernel
theorem dX9_lost_5 : decode cX9_lost 5 = .ok (.invokevirtual 110, 3) := by decide +kernel
theorem dX9_lost_8 : decode cX9_lost 8 = .ok (.istore 4, 2) := by decide +kernel
theorem dX9_lost_10 : decode cX9_lost 10 = .ok (.aload_n 0, 1) := by decide +kernel
theorem dX9_lost_11 : decode cX9_lost 11 = .ok (.getfield 19, 3) := by decide +kernel
theorem dX9_lost_14 : decode cX9_lost 14 = .ok (.iload_n 2, 1) := by decide +kernel
theorem dX9_lost_15 : decode cX9_lost 15 = .ok (.invokevirtual 110, 3) := by decide +kernel
theorem dX9_lost_18 : decode cX9_lost 18 = .ok (.istore 5, 2) := by decide +kernel
theorem dX9_lost_20 : decode cX9_lost 20 = .ok (.iload 4, 2) := by decide +kernel
theorem dX9_lost_22 : decode cX9_lost 22 = .ok (.iconst (-1), 1) := by decide +kernel
theorem dX9_lost_23 : decode cX9_lost 23 = .ok (.if_icmp .eq 9, 3) := by decide +kernel
theorem dX9_lost_26 : decode cX9_lost 26 = .ok (.iload 5, 2) := by decide +kernel
theorem dX9_lost_28 : decode cX9_lost 28 = .ok (.iconst (-1), 1) := by decide +kernel
theorem dX9_lost_29 : decode cX9_lost 29 = .ok (.if_icmp .ne 7, 3) := by decide +kernel
theorem dX9_lost_32 : decode cX9_lost 32 = .ok (.ldc2_w 191, 3) := by decide +kernel
theorem dX9_lost_35 : decode cX9_lost 35 = .ok (.lreturn, 1) := by decide +kernel
theorem dX9_lost_36 : decode cX9_lost 36 = .ok (.aload_n 0, 1) := by decide +kernel
theorem dX9_lost_37 : decode cX9_lost 37 = .ok (.getfield 19, 3) := by decide +kernel
theorem dX9_lost_40 : decode cX9_lost 40 = .ok (.iload 4, 2) := by decide +kernel
theorem dX9_lost_42 : decode cX9_lost 42 = .ok (.invokevirtual 174, 3) := by decide +kernel
theorem dX9_lost_45 : decode cX9_lost 45 = .ok (.lstore 6, 2) := by decide +kernel
theorem dX9_lost_47 : decode cX9_lost 47 = .ok (.lload 6, 2) := by decide +kernel
theorem dX9_lost_49 : decode cX9_lost 49 = .ok (.iload 5, 2) := by decide +kernel
theorem dX9_lost_51 : decode cX9_lost 51 = .ok (.invokestatic 184, 3) := by decide +kernel
theorem dX9_lost_54 : decode cX9_lost 54 = .ok (.ifCond .eq 13, 3) := by decide +kernel
theorem dX9_lost_57 : decode cX9_lost 57 = .ok (.lload 6, 2) := by decide +kernel
theorem dX9_lost_59 : decode cX9_lost 59 = .ok (.invokestatic 165, 3) := by decide +kernel
theorem dX9_lost_62 : decode cX9_lost 62 = .ok (.bipush 10, 2) := by decide +kernel
theorem dX9_lost_64 : decode cX9_lost 64 = .ok (.if_icmp .le 7, 3) := by decide +kernel
theorem dX9_lost_67 : decode cX9_lost 67 = .ok (.ldc2_w 219, 3) := by decide +kernel
theorem dX9_lost_70 : decode cX9_lost 70 = .ok (.lreturn, 1) := by decide +kernel
theorem dX9_lost_71 : decode cX9_lost 71 = .ok (.aload_n 0, 1) := by decide +kernel
theorem dX9_lost_72 : decode cX9_lost 72 = .ok (.getfield 63, 3) := by decide +kernel
theorem dX9_lost_75 : decode cX9_lost 75 = .ok (.lload 6, 2) := by decide +kernel
theorem dX9_lost_77 : decode cX9_lost 77 = .ok (.iload 4, 2) := by decide +kernel
theorem dX9_lost_79 : decode cX9_lost 79 = .ok (.iload 5, 2) := by decide +kernel
theorem dX9_lost_81 : decode cX9_lost 81 = .ok (.invokevirtual 221, 3) := by decide +kernel
theorem dX9_lost_84 : decode cX9_lost 84 = .ok (.iload_n 3, 1) := by decide +kernel
theorem dX9_lost_85 : decode cX9_lost 85 = .ok (.ifCond .eq 13, 3) := by decide +kernel
theorem dX9_lost_88 : decode cX9_lost 88 = .ok (.aload_n 0, 1) := by decide +kernel
theorem dX9_lost_89 : decode cX9_lost 89 = .ok (.getfield 63, 3) := by decide +kernel
theorem dX9_lost_92 : decode cX9_lost 92 = .ok (.getfield 225, 3) := by decide +kernel
theorem dX9_lost_95 : decode cX9_lost 95 = .ok (.goto 10, 3) := by decide +kernel
theorem dX9_lost_98 : decode cX9_lost 98 = .ok (.aload_n 0, 1) := by decide +kernel
theorem dX9_lost_99 : decode cX9_lost 99 = .ok (.getfield 63, 3) := by decide +kernel
theorem dX9_lost_102 : decode cX9_lost 102 = .ok (.getfield 228, 3) := by decide +kernel
theorem dX9_lost_105 : decode cX9_lost 105 = .ok (.lreturn, 1) := by decide +kernel
set_option maxRecDepth 20000 in
theorem ggX9_trees_X1_placeOf : GoodIn wsX9_trees wsX1_placeOf := goodIn_r _ [9, 10, 11, 84, 85, 86, 87, 88, 89, 90] (by decide +kernel) (by decide +kernel)
set_option maxRecDepth 20000 in
theorem gX9_trees_X1_placeOf : GoodIn wsX9_trees (wsV RX9 110 RX1 yX1_placeOf wsX1_placeOf) := goodIn_app (goodIn_of _ (by decide +kernel)) ggX9_trees_X1_placeOf
set_option maxRecDepth 20000 in
theorem ggX9_trees_X1_partOf : GoodIn wsX9_trees wsX1_partOf := goodIn_r _ [15, 16, 17, 18, 8, 19, 20, 21, 22, 23, 24, 25, 26, 27, 28, 29, 84, 85, 86, 87, 88, 89, 90] (by decide +kernel) (by decide +kernel)
set_option maxRecDepth 20000 in
theorem gX9_trees_X1_partOf : GoodIn wsX9_trees (wsV RX9 174 RX1 yX1_partOf wsX1_partOf) := goodIn_app (goodIn_of _ (by decide +kernel)) ggX9_trees_X1_partOf
set_option maxRecDepth 20000 in
theorem ggX9_trees_J13_bitCount_95d88 : GoodIn wsX9_trees wsJ13_bitCount_95d88 := goodIn_r _ [33, 34, 35, 36] (by decide +kernel) (by decide +kernel)
set_option maxRecDepth 20000 in
theorem gX9_trees_J13_bitCount_95d88 : GoodIn wsX9_trees (va_wsS RX9 165 yJ13_bitCount_95d88 wsJ13_bitCount_95d88) := goodIn_app (goodIn_of _ (by decide +kernel)) ggX9_trees_J13_bitCount_95d88
set_option maxRecDepth 20000 in
theorem ggX9_trees_X6_treesOf : GoodIn wsX9_trees wsX6_treesOf := goodIn_r _ [41, 42, 43, 44, 45, 18, 8, 19, 46, 47, 48, 40, 49, 50, 51, 52, 53, 54, 55, 56, 57, 58, 59, 60, 61, 62, 63, 25, 26, 27, 28, 29, 64, 65, 66, 67, 17, 24, 68, 31, 32, 33, 34, 35, 36, 69, 70, 71, 72, 91, 92, 93, 94, 95, 96, 84, 85, 86, 87, 88, 89, 90] (by decide +kernel) (by decide +kernel)
set_option maxRecDepth 20000 in
theorem gX9_trees_X6_treesOf : GoodIn wsX9_trees (wsV RX9 231 RX6 yX6_treesOf wsX6_treesOf) := goodIn_app (goodIn_of _ (by decide +kernel)) ggX9_trees_X6_treesOf
theorem dX9_trees_0 : decode cX9_trees 0 = .ok (.aload_n 0, 1) := by decide +kernel
theorem dX9_trees_1 : decode cX9_trees 1 = .ok (.getfield 19, 3) := by decide +kernel
theorem dX9_trees_4 : decode cX9_trees 4 = .ok (.iload_n 1, 1) := by decide +kernel
theorem dX9_trees_5 : decode cX9_trees 5 = .ok (.invokevirtual 110, 3) := by decide +kernel
theorem dX9_trees_8 : decode cX9_trees 8 = .ok (.istore_n 2, 1) := by decide +kernel
theorem dX9_trees_9 : decode cX9_trees 9 = .ok (.iload_n 2, 1) := by decide +kernel
theorem dX9_trees_10 : decode cX9_trees 10 = .ok (.iconst (-1), 1) := by decide +kernel
theorem dX9_trees_11 : decode cX9_trees 11 = .ok (.if_icmp .ne 7, 3) := by decide +kernel
theorem dX9_trees_14 : decode cX9_trees 14 = .ok (.ldc2_w 191, 3) := by decide +kernel
theorem dX9_trees_17 : decode cX9_trees 17 = .ok (.lreturn, 1) := by decide +kernel
theorem dX9_trees_18 : decode cX9_trees 18 = .ok (.aload_n 0, 1) := by decide +kernel
theorem dX9_trees_19 : decode cX9_trees 19 = .ok (.getfield 19, 3) := by decide +kernel
theorem dX9_trees_22 : decode cX9_trees 22 = .ok (.iload_n 2, 1) := by decide +kernel
theorem dX9_trees_23 : decode cX9_trees 23 = .ok (.invokevirtual 174, 3) := by decide +kernel
theorem dX9_trees_26 : decode cX9_trees 26 = .ok (.lstore_n 3, 1) := by decide +kernel
theorem dX9_trees_27 : decode cX9_trees 27 = .ok (.lload_n 3, 1) := by decide +kernel
theorem dX9_trees_28 : decode cX9_trees 28 = .ok (.invokestatic 165, 3) := by decide +kernel
theorem dX9_trees_31 : decode cX9_trees 31 = .ok (.bipush 16, 2) := by decide +kernel
theorem dX9_trees_33 : decode cX9_trees 33 = .ok (.if_icmp .le 7, 3) := by decide +kernel
theorem dX9_trees_36 : decode cX9_trees 36 = .ok (.ldc2_w 219, 3) := by decide +kernel
theorem dX9_trees_39 : decode cX9_trees 39 = .ok (.lreturn, 1) := by decide +kernel
theorem dX9_trees_40 : decode cX9_trees 40 = .ok (.aload_n 0, 1) := by decide +kernel
theorem dX9_trees_41 : decode cX9_trees 41 = .ok (.getfield 63, 3) := by decide +kernel
theorem dX9_trees_44 : decode cX9_trees 44 = .ok (.lload_n 3, 1) := by decide +kernel
theorem dX9_trees_45 : decode cX9_trees 45 = .ok (.iload_n 2, 1) := by decide +kernel
theorem dX9_trees_46 : decode cX9_trees 46 = .ok (.invokevirtual 231, 3) := by decide +kernel
theorem dX9_trees_49 : decode cX9_trees 49 = .ok (.lreturn, 1) := by decide +kernel
set_option maxRecDepth 20000 in
theorem ggX9_breaks_X1_placeOf : GoodIn wsX9_breaks wsX1_placeOf := goodIn_r _ [7, 8, 9, 54, 55, 56, 57, 58, 59, 60] (by decide +kernel) (by decide +kernel)
set_option maxRecDepth 20000 in
theorem gX9_breaks_X1_placeOf : GoodIn wsX9_breaks (wsV RX9 110 RX1 yX1_placeOf wsX1_placeOf) := goodIn_app (goodIn_of _ (by decide +kernel)) ggX9_breaks_X1_placeOf
set_option maxRecDepth 20000 in
theorem ggX9_breaks_X0_fewestBroken : GoodIn wsX9_breaks wsX0_fewestBroken := goodIn_r _ [14, 15, 16, 17, 18, 19, 6, 20, 21, 22, 23, 24, 25, 26, 27, 28, 29, 30, 31, 32, 33, 34, 35, 36, 37, 38, 39, 40, 41, 42, 61, 54, 55, 56, 57, 58, 59, 60] (by decide +kernel) (by decide +kernel)
set_option maxRecDepth 20000 in
theorem gX9_breaks_X0_fewestBroken : GoodIn wsX9_breaks (wsV RX9 235 RX0 yX0_fewestBroken wsX0_fewestBroken) := goodIn_app (goodIn_of _ (by decide +kernel)) ggX9_breaks_X0_fewestBroken
theorem dX9_breaks_0 : decode cX9_breaks 0 = .ok (.aload_n 0, 1) := by decide +kernel
theorem dX9_breaks_1 : decode cX9_breaks 1 = .ok (.getfield 19, 3) := by decide +kernel
theorem dX9_breaks_4 : decode cX9_breaks 4 = .ok (.iload_n 1, 1) := by decide +kernel
theorem dX9_breaks_5 : decode cX9_breaks 5 = .ok (.invokevirtual 110, 3) := by decide +kernel
theorem dX9_breaks_8 : decode cX9_breaks 8 = .ok (.istore_n 3, 1) := by decide +kernel
theorem dX9_breaks_9 : decode cX9_breaks 9 = .ok (.aload_n 0, 1) := by decide +kernel
theorem dX9_breaks_10 : decode cX9_breaks 10 = .ok (.getfield 19, 3) := by decide +kernel
theorem dX9_breaks_13 : decode cX9_breaks 13 = .ok (.iload_n 2, 1) := by decide +kernel
theorem dX9_breaks_14 : decode cX9_breaks 14 = .ok (.invokevirtual 110, 3) := by decide +kernel
theorem dX9_breaks_17 : decode cX9_breaks 17 = .ok (.istore 4, 2) := by decide +kernel
theorem dX9_breaks_19 : decode cX9_breaks 19 = .ok (.iload_n 3, 1) := by decide +kernel
theorem dX9_breaks_20 : decode cX9_breaks 20 = .ok (.iconst (-1), 1) := by decide +kernel
theorem dX9_breaks_21 : decode cX9_breaks 21 = .ok (.if_icmp .eq 9, 3) := by decide +kernel
theorem dX9_breaks_24 : decode cX9_breaks 24 = .ok (.iload 4, 2) := by decide +kernel
theorem dX9_breaks_26 : decode cX9_breaks 26 = .ok (.iconst (-1), 1) := by decide +kernel
theorem dX9_breaks_27 : decode cX9_breaks 27 = .ok (.if_icmp .ne 5, 3) := by decide +kernel
theorem dX9_breaks_30 : decode cX9_breaks 30 = .ok (.iconst (-1), 1) := by decide +kernel
theorem dX9_breaks_31 : decode cX9_breaks 31 = .ok (.ireturn, 1) := by decide +kernel
theorem dX9_breaks_32 : decode cX9_breaks 32 = .ok (.aload_n 0, 1) := by decide +kernel
theorem dX9_breaks_33 : decode cX9_breaks 33 = .ok (.getfield 70, 3) := by decide +kernel
theorem dX9_breaks_36 : decode cX9_breaks 36 = .ok (.iload_n 3, 1) := by decide +kernel
theorem dX9_breaks_37 : decode cX9_breaks 37 = .ok (.iload 4, 2) := by decide +kernel
theorem dX9_breaks_39 : decode cX9_breaks 39 = .ok (.invokevirtual 235, 3) := by decide +kernel
theorem dX9_breaks_42 : decode cX9_breaks 42 = .ok (.ireturn, 1) := by decide +kernel
set_option maxRecDepth 20000 in
theorem ggX9_shortCut_X0_bestTakenAway : GoodIn wsX9_shortCut wsX0_bestTakenAway := goodIn_r _ [6, 7, 8, 9, 10, 11, 12, 13, 14, 15, 16, 17, 18, 19, 20, 21, 22, 23, 24, 25, 26, 27, 28, 29, 30, 31, 32, 33, 34, 35, 36, 37, 38, 39, 40, 41, 42, 5, 43, 44, 45, 46, 47, 48, 49, 50, 51, 52, 53, 54, 55, 67, 68, 69, 70, 71, 72, 73, 74] (by decide +kernel) (by decide +kernel)
set_option maxRecDepth 20000 in
theorem gX9_shortCut_X0_bestTakenAway : GoodIn wsX9_shortCut (wsV RX9 238 RX0 yX0_bestTakenAway wsX0_bestTakenAway) := goodIn_app (goodIn_of _ (by decide +kernel)) ggX9_shortCut_X0_bestTakenAway
theorem dX9_shortCut_0 : decode cX9_shortCut 0 = .ok (.aload_n 0, 1) := by decide +kernel
theorem dX9_shortCut_1 : decode cX9_shortCut 1 = .ok (.getfield 70, 3) := by decide +kernel
theorem dX9_shortCut_4 : decode cX9_shortCut 4 = .ok (.invokevirtual 238, 3) := by decide +kernel
theorem dX9_shortCut_7 : decode cX9_shortCut 7 = .ok (.ireturn, 1) := by decide +kernel
set_option maxRecDepth 20000 in
theorem ggX9_bar_X0_bestPutIn : GoodIn wsX9_bar wsX0_bestPutIn := goodIn_r _ [6, 7, 8, 9, 10, 11, 12, 13, 14, 15, 16, 17, 18, 19, 20, 21, 22, 23, 24, 25, 26, 27, 28, 29, 30, 31, 32, 33, 5, 34, 35, 36, 37, 38, 39, 40, 41, 42, 43, 44, 45, 46, 47, 48, 49, 50, 51, 63, 64, 65, 66, 67, 68, 69, 70] (by decide +kernel) (by decide +kernel)
set_option maxRecDepth 20000 in
theorem gX9_bar_X0_bestPutIn : GoodIn wsX9_bar (wsV RX9 241 RX0 yX0_bestPutIn wsX0_bestPutIn) := goodIn_app (goodIn_of _ (by decide +kernel)) ggX9_bar_X0_bestPutIn
theorem dX9_bar_0 : decode cX9_bar 0 = .ok (.aload_n 0, 1) := by decide +kernel
theorem dX9_bar_1 : decode cX9_bar 1 = .ok (.getfield 70, 3) := by decide +kernel
theorem dX9_bar_4 : decode cX9_bar 4 = .ok (.invokevirtual 241, 3) := by decide +kernel
theorem dX9_bar_7 : decode cX9_bar 7 = .ok (.ireturn, 1) := by decide +kernel
set_option maxRecDepth 20000 in
theorem ggX9_chase_X1_placeOf : GoodIn wsX9_chase wsX1_placeOf := goodIn_r _ [7, 8, 9, 74, 75, 76, 77, 78, 79, 80] (by decide +kernel) (by decide +kernel)
set_option maxRecDepth 20000 in
theorem gX9_chase_X1_placeOf : GoodIn wsX9_chase (wsV RX9 110 RX1 yX1_placeOf wsX1_placeOf) := goodIn_app (goodIn_of _ (by decide +kernel)) ggX9_chase_X1_placeOf
set_option maxRecDepth 20000 in
theorem ggX9_chase_X2_turnsTillWon : GoodIn wsX9_chase wsX2_turnsTillWon := goodIn_r _ [14, 15, 16, 17, 18, 19, 20, 13, 21, 22, 23, 6, 24, 25, 26, 27, 28, 29, 30, 31, 32, 33, 34, 35, 36, 37, 38, 39, 40, 41, 42, 43, 44, 45, 46, 47, 48, 49, 50, 51, 52, 53, 54, 55, 56, 57, 58, 59, 60, 61, 62, 81, 82, 83, 74, 75, 76, 77, 78, 79, 80] (by decide +kernel) (by decide +kernel)
set_option maxRecDepth 20000 in
theorem gX9_chase_X2_turnsTillWon : GoodIn wsX9_chase (wsV RX9 244 RX2 yX2_turnsTillWon wsX2_turnsTillWon) := goodIn_app (goodIn_of _ (by decide +kernel)) ggX9_chase_X2_turnsTillWon
theorem dX9_chase_0 : decode cX9_chase 0 = .ok (.aload_n 0, 1) := by decide +kernel
theorem dX9_chase_1 : decode cX9_chase 1 = .ok (.getfield 19, 3) := by decide +kernel
theorem dX9_chase_4 : decode cX9_chase 4 = .ok (.iload_n 1, 1) := by decide +kernel
theorem dX9_chase_5 : decode cX9_chase 5 = .ok (.invokevirtual 110, 3) := by decide +kernel
theorem dX9_chase_8 : decode cX9_chase 8 = .ok (.istore 4, 2) := by decide +kernel
theorem dX9_chase_10 : decode cX9_chase 10 = .ok (.aload_n 0, 1) := by decide +kernel
theorem dX9_chase_11 : decode cX9_chase 11 = .ok (.getfield 19, 3) := by decide +kernel
theorem dX9_chase_14 : decode cX9_chase 14 = .ok (.iload_n 2, 1) := by decide +kernel
theorem dX9_chase_15 : decode cX9_chase 15 = .ok (.invokevirtual 110, 3) := by decide +kernel
theorem dX9_chase_18 : decode cX9_chase 18 = .ok (.istore 5, 2) := by decide +kernel
theorem dX9_chase_20 : decode cX9_chase 20 = .ok (.iload 4, 2) := by decide +kernel
theorem dX9_chase_22 : decode cX9_chase 22 = .ok (.iconst (-1), 1) := by decide +kernel
theorem dX9_chase_23 : decode cX9_chase 23 = .ok (.if_icmp .eq 9, 3) := by decide +kernel
theorem dX9_chase_26 : decode cX9_chase 26 = .ok (.iload 5, 2) := by decide +kernel
theorem dX9_chase_28 : decode cX9_chase 28 = .ok (.iconst (-1), 1) := by decide +kernel
theorem dX9_chase_29 : decode cX9_chase 29 = .ok (.if_icmp .ne 5, 3) := by decide +kernel
theorem dX9_chase_32 : decode cX9_chase 32 = .ok (.iconst (-1), 1) := by decide +kernel
theorem dX9_chase_33 : decode cX9_chase 33 = .ok (.ireturn, 1) := by decide +kernel
theorem dX9_chase_34 : decode cX9_chase 34 = .ok (.aload_n 0, 1) := by decide +kernel
theorem dX9_chase_35 : decode cX9_chase 35 = .ok (.getfield 77, 3) := by decide +kernel
theorem dX9_chase_38 : decode cX9_chase 38 = .ok (.iload 4, 2) := by decide +kernel
theorem dX9_chase_40 : decode cX9_chase 40 = .ok (.iload 5, 2) := by decide +kernel
theorem dX9_chase_42 : decode cX9_chase 42 = .ok (.iload_n 3, 1) := by decide +kernel
theorem dX9_chase_43 : decode cX9_chase 43 = .ok (.invokevirtual 244, 3) := by decide +kernel
theorem dX9_chase_46 : decode cX9_chase 46 = .ok (.ireturn, 1) := by decide +kernel
set_option maxRecDepth 20000 in
theorem ggX9_same_X1_turnOf : GoodIn wsX9_same wsX1_turnOf := goodIn_r _ [7, 8, 9, 10, 11, 12, 13, 14, 6, 15, 16, 17, 18, 19, 20, 21, 22, 23, 24, 25, 26, 27, 28, 29, 30, 31, 32, 33, 34, 35, 36, 37, 38, 39, 40, 41, 42, 43, 44, 45, 46, 47, 48, 68, 69, 70, 71, 72, 73, 74] (by decide +kernel) (by decide +kernel)
set_option maxRecDepth 20000 in
theorem gX9_same_X1_turnOf : GoodIn wsX9_same (wsV RX9 248 RX1 yX1_turnOf wsX1_turnOf) := goodIn_app (goodIn_of _ (by decide +kernel)) ggX9_same_X1_turnOf
set_option maxRecDepth 20000 in
theorem ggX9_same_X1_looksLike : GoodIn wsX9_same wsX1_looksLike := goodIn_r _ [52, 9, 8, 17, 18, 68, 69, 70, 71, 72, 73, 74] (by decide +kernel) (by decide +kernel)
set_option maxRecDepth 20000 in
theorem gX9_same_X1_looksLike : GoodIn wsX9_same (wsV RX9 252 RX1 yX1_looksLike wsX1_looksLike) := goodIn_app (goodIn_of _ (by decide +kernel)) ggX9_same_X1_looksLike
set_option maxRecDepth 20000 in
theorem ggX9_same_X9_oneIf : GoodIn wsX9_same wsX9_oneIf := goodIn_r _ [56] (by decide +kernel) (by decide +kernel)
set_option maxRecDepth 20000 in
theorem gX9_same_X9_oneIf : GoodIn wsX9_same (va_wsS RX9 122 yX9_oneIf wsX9_oneIf) := goodIn_app (goodIn_of _ (by decide +kernel)) ggX9_same_X9_oneIf
theorem dX9_same_0 : decode cX9_same 0 = .ok (.iload_n 1, 1) := by decide +kernel
theorem dX9_same_1 : decode cX9_same 1 = .ok (.ifCond .lt 9, 3) := by decide +kernel
theorem dX9_same_4 : decode cX9_same 4 = .ok (.iload_n 1, 1) := by decide +kernel
theorem dX9_same_5 : decode cX9_same 5 = .ok (.bipush 8, 2) := by decide +kernel
theorem dX9_same_7 : decode cX9_same 7 = .ok (.if_icmp .lt 6, 3) := by decide +kernel
theorem dX9_same_10 : decode cX9_same 10 = .ok (.bipush (-2), 2) := by decide +kernel
theorem dX9_same_12 : decode cX9_same 12 = .ok (.ireturn, 1) := by decide +kernel
theorem dX9_same_13 : decode cX9_same 13 = .ok (.aload_n 0, 1) := by decide +kernel
theorem dX9_same_14 : decode cX9_same 14 = .ok (.getfield 23, 3) := by decide +kernel
theorem dX9_same_17 : decode cX9_same 17 = .ok (.aload_n 0, 1) := by decide +kernel
theorem dX9_same_18 : decode cX9_same 18 = .ok (.getfield 19, 3) := by decide +kernel
theorem dX9_same_21 : decode cX9_same 21 = .ok (.iload_n 1, 1) := by decide +kernel
theorem dX9_same_22 : decode cX9_same 22 = .ok (.invokevirtual 248, 3) := by decide +kernel
theorem dX9_same_25 : decode cX9_same 25 = .ok (.aload_n 0, 1) := by decide +kernel
theorem dX9_same_26 : decode cX9_same 26 = .ok (.getfield 23, 3) := by decide +kernel
theorem dX9_same_29 : decode cX9_same 29 = .ok (.aload_n 0, 1) := by decide +kernel
theorem dX9_same_30 : decode cX9_same 30 = .ok (.getfield 19, 3) := by decide +kernel
theorem dX9_same_33 : decode cX9_same 33 = .ok (.invokevirtual 252, 3) := by decide +kernel
theorem dX9_same_36 : decode cX9_same 36 = .ok (.invokestatic 122, 3) := by decide +kernel
theorem dX9_same_39 : decode cX9_same 39 = .ok (.ireturn, 1) := by decide +kernel
set_option maxRecDepth 20000 in
theorem ggX9_turn_X1_turnOf : GoodIn wsX9_turn wsX1_turnOf := goodIn_r _ [7, 8, 9, 10, 11, 12, 13, 14, 6, 15, 16, 17, 18, 19, 20, 21, 22, 23, 24, 25, 26, 27, 28, 29, 30, 31, 32, 33, 34, 35, 36, 37, 38, 39, 40, 41, 42, 43, 44, 45, 46, 47, 48, 72, 73, 74, 75, 76, 77, 78] (by decide +kernel) (by decide +kernel)
set_option maxRecDepth 20000 in
theorem gX9_turn_X1_turnOf : GoodIn wsX9_turn (wsV RX9 248 RX1 yX1_turnOf wsX1_turnOf) := goodIn_app (goodIn_of _ (by decide +kernel)) ggX9_turn_X1_turnOf
set_option maxRecDepth 20000 in
theorem ggX9_turn_X1_looksLike : GoodIn wsX9_turn wsX1_looksLike := goodIn_r _ [52, 9, 8, 17, 18, 72, 73, 74, 75, 76, 77, 78] (by decide +kernel) (by decide +kernel)
set_option maxRecDepth 20000 in
theorem gX9_turn_X1_looksLike : GoodIn wsX9_turn (wsV RX9 252 RX1 yX1_looksLike wsX1_looksLike) := goodIn_app (goodIn_of _ (by decide +kernel)) ggX9_turn_X1_looksLike
set_option maxRecDepth 20000 in
theorem ggX9_turn_X9_oneIf : GoodIn wsX9_turn wsX9_oneIf := goodIn_r _ [56] (by decide +kernel) (by decide +kernel)
set_option maxRecDepth 20000 in
theorem gX9_turn_X9_oneIf : GoodIn wsX9_turn (va_wsS RX9 122 yX9_oneIf wsX9_oneIf) := goodIn_app (goodIn_of _ (by decide +kernel)) ggX9_turn_X9_oneIf
set_option maxRecDepth 20000 in
theorem ggX9_turn_X1_copyFrom : GoodIn wsX9_turn wsX1_copyFrom := goodIn_r _ [60, 9, 8, 10, 11, 16, 17, 18, 72, 73, 74, 75, 76, 77, 78] (by decide +kernel) (by decide +kernel)
set_option maxRecDepth 20000 in
theorem gX9_turn_X1_copyFrom : GoodIn wsX9_turn (wsV RX9 256 RX1 yX1_copyFrom wsX1_copyFrom) := goodIn_app (goodIn_of _ (by decide +kernel)) ggX9_turn_X1_copyFrom
theorem dX9_turn_0 : decode cX9_turn 0 = .ok (.iload_n 1, 1) := by decide +kernel
theorem dX9_turn_1 : decode cX9_turn 1 = .ok (.ifCond .lt 9, 3) := by decide +kernel
theorem dX9_turn_4 : decode cX9_turn 4 = .ok (.iload_n 1, 1) := by decide +kernel
theorem dX9_turn_5 : decode cX9_turn 5 = .ok (.bipush 8, 2) := by decide +kernel
theorem dX9_turn_7 : decode cX9_turn 7 = .ok (.if_icmp .lt 6, 3) := by decide +kernel
theorem dX9_turn_10 : decode cX9_turn 10 = .ok (.bipush (-2), 2) := by decide +kernel
theorem dX9_turn_12 : decode cX9_turn 12 = .ok (.ireturn, 1) := by decide +kernel
theorem dX9_turn_13 : decode cX9_turn 13 = .ok (.aload_n 0, 1) := by decide +kernel
theorem dX9_turn_14 : decode cX9_turn 14 = .ok (.getfield 23, 3) := by decide +kernel
theorem dX9_turn_17 : decode cX9_turn 17 = .ok (.aload_n 0, 1) := by decide +kernel
theorem dX9_turn_18 : decode cX9_turn 18 = .ok (.getfield 19, 3) := by decide +kernel
theorem dX9_turn_21 : decode cX9_turn 21 = .ok (.iload_n 1, 1) := by decide +kernel
theorem dX9_turn_22 : decode cX9_turn 22 = .ok (.invokevirtual 248, 3) := by decide +kernel
theorem dX9_turn_25 : decode cX9_turn 25 = .ok (.aload_n 0, 1) := by decide +kernel
theorem dX9_turn_26 : decode cX9_turn 26 = .ok (.getfield 23, 3) := by decide +kernel
theorem dX9_turn_29 : decode cX9_turn 29 = .ok (.aload_n 0, 1) := by decide +kernel
theorem dX9_turn_30 : decode cX9_turn 30 = .ok (.getfield 19, 3) := by decide +kernel
theorem dX9_turn_33 : decode cX9_turn 33 = .ok (.invokevirtual 252, 3) := by decide +kernel
theorem dX9_turn_36 : decode cX9_turn 36 = .ok (.ifCond .ne 7, 3) := by decide +kernel
theorem dX9_turn_39 : decode cX9_turn 39 = .ok (.iconst 1, 1) := by decide +kernel
theorem dX9_turn_40 : decode cX9_turn 40 = .ok (.goto 4, 3) := by decide +kernel
theorem dX9_turn_43 : decode cX9_turn 43 = .ok (.iconst 0, 1) := by decide +kernel
theorem dX9_turn_44 : decode cX9_turn 44 = .ok (.invokestatic 122, 3) := by decide +kernel
theorem dX9_turn_47 : decode cX9_turn 47 = .ok (.istore_n 2, 1) := by decide +kernel
theorem dX9_turn_48 : decode cX9_turn 48 = .ok (.aload_n 0, 1) := by decide +kernel
theorem dX9_turn_49 : decode cX9_turn 49 = .ok (.getfield 19, 3) := by decide +kernel
theorem dX9_turn_52 : decode cX9_turn 52 = .ok (.aload_n 0, 1) := by decide +kernel
theorem dX9_turn_53 : decode cX9_turn 53 = .ok (.getfield 23, 3) := by decide +kernel
theorem dX9_turn_56 : decode cX9_turn 56 = .ok (.invokevirtual 256, 3) := by decide +kernel
theorem dX9_turn_59 : decode cX9_turn 59 = .ok (.iload_n 2, 1) := by decide +kernel
theorem dX9_turn_60 : decode cX9_turn 60 = .ok (.ireturn, 1) := by decide +kernel
set_option maxRecDepth 20000 in
theorem ggX9_keep_X9_isSlot : GoodIn wsX9_keep wsX9_isSlot := goodIn_r _ [9] (by decide +kernel) (by decide +kernel)
set_option maxRecDepth 20000 in
theorem gX9_keep_X9_isSlot : GoodIn wsX9_keep (va_wsS RX9 259 yX9_isSlot wsX9_isSlot) := goodIn_app (goodIn_of _ (by decide +kernel)) ggX9_keep_X9_isSlot
set_option maxRecDepth 20000 in
theorem ggX9_keep_X1_init : GoodIn wsX9_keep wsX1_init := goodIn_r _ [12, 13, 14, 15, 16, 17, 18, 4, 19, 20, 21, 22, 23, 24, 25, 26, 46, 47, 48, 49, 50, 51, 52] (by decide +kernel) (by decide +kernel)
set_option maxRecDepth 20000 in
theorem gX9_keep_X1_init : GoodIn wsX9_keep (wsX1_init) := ggX9_keep_X1_init
set_option maxRecDepth 20000 in
theorem ggX9_keep_X1_copyFrom : GoodIn wsX9_keep wsX1_copyFrom := goodIn_r _ [30, 20, 21, 25, 26, 22, 23, 24, 46, 47, 48, 49, 50, 51, 52] (by decide +kernel) (by decide +kernel)
set_option maxRecDepth 20000 in
theorem gX9_keep_X1_copyFrom : GoodIn wsX9_keep (wsV RX9 256 RX1 yX1_copyFrom wsX1_copyFrom) := goodIn_app (goodIn_of _ (by decide +kernel)) ggX9_keep_X1_copyFrom
set_option maxRecDepth 20000 in
theorem ggX9_keep_X1_size : GoodIn wsX9_keep wsX1_size := goodIn_r _ [34, 20, 21, 46, 47, 48, 49, 50, 51, 52] (by decide +kernel) (by decide +kernel)
set_option maxRecDepth 20000 in
theorem gX9_keep_X1_size : GoodIn wsX9_keep (wsV RX9 96 RX1 yX1_size wsX1_size) := goodIn_app (goodIn_of _ (by decide +kernel)) ggX9_keep_X1_size
theorem dX9_keep_0 : decode cX9_keep 0 = .ok (.iload_n 1, 1) := by decide +kernel
theorem dX9_keep_1 : decode cX9_keep 1 = .ok (.invokestatic 259, 3) := by decide +kernel
theorem dX9_keep_4 : decode cX9_keep 4 = .ok (.ifCond .ne 5, 3) := by decide +kernel
theorem dX9_keep_7 : decode cX9_keep 7 = .ok (.iconst (-1), 1) := by decide +kernel
theorem dX9_keep_8 : decode cX9_keep 8 = .ok (.ireturn, 1) := by decide +kernel
theorem dX9_keep_9 : decode cX9_keep 9 = .ok (.aload_n 0, 1) := by decide +kernel
theorem dX9_keep_10 : decode cX9_keep 10 = .ok (.getfield 26, 3) := by decide +kernel
theorem dX9_keep_13 : decode cX9_keep 13 = .ok (.iload_n 1, 1) := by decide +kernel
theorem dX9_keep_14 : decode cX9_keep 14 = .ok (.aaload, 1) := by decide +kernel
theorem dX9_keep_15 : decode cX9_keep 15 = .ok (.astore_n 2, 1) := by decide +kernel
theorem dX9_keep_16 : decode cX9_keep 16 = .ok (.aload_n 2, 1) := by decide +kernel
theorem dX9_keep_17 : decode cX9_keep 17 = .ok (.ifnonnull 18, 3) := by decide +kernel
theorem dX9_keep_20 : decode cX9_keep 20 = .ok (.new 16, 3) := by decide +kernel
theorem dX9_keep_23 : decode cX9_keep 23 = .ok (.dup, 1) := by decide +kernel
theorem dX9_keep_24 : decode cX9_keep 24 = .ok (.invokespecial 18, 3) := by decide +kernel
theorem dX9_keep_27 : decode cX9_keep 27 = .ok (.astore_n 2, 1) := by decide +kernel
theorem dX9_keep_28 : decode cX9_keep 28 = .ok (.aload_n 0, 1) := by decide +kernel
theorem dX9_keep_29 : decode cX9_keep 29 = .ok (.getfield 26, 3) := by decide +kernel
theorem dX9_keep_32 : decode cX9_keep 32 = .ok (.iload_n 1, 1) := by decide +kernel
theorem dX9_keep_33 : decode cX9_keep 33 = .ok (.aload_n 2, 1) := by decide +kernel
theorem dX9_keep_34 : decode cX9_keep 34 = .ok (.aastore, 1) := by decide +kernel
theorem dX9_keep_35 : decode cX9_keep 35 = .ok (.aload_n 2, 1) := by decide +kernel
theorem dX9_keep_36 : decode cX9_keep 36 = .ok (.aload_n 0, 1) := by decide +kernel
theorem dX9_keep_37 : decode cX9_keep 37 = .ok (.getfield 19, 3) := by decide +kernel
theorem dX9_keep_40 : decode cX9_keep 40 = .ok (.invokevirtual 256, 3) := by decide +kernel
theorem dX9_keep_43 : decode cX9_keep 43 = .ok (.aload_n 0, 1) := by decide +kernel
theorem dX9_keep_44 : decode cX9_keep 44 = .ok (.getfield 19, 3) := by decide +kernel
theorem dX9_keep_47 : decode cX9_keep 47 = .ok (.invokevirtual 96, 3) := by decide +kernel
theorem dX9_keep_50 : decode cX9_keep 50 = .ok (.ireturn, 1) := by decide +kernel
set_option maxRecDepth 20000 in
theorem ggX9_again_X9_isSlot : GoodIn wsX9_again wsX9_isSlot := goodIn_r _ [6] (by decide +kernel) (by decide +kernel)
set_option maxRecDepth 20000 in
theorem gX9_again_X9_isSlot : GoodIn wsX9_again (va_wsS RX9 259 yX9_isSlot wsX9_isSlot) := goodIn_app (goodIn_of _ (by decide +kernel)) ggX9_again_X9_isSlot
set_option maxRecDepth 20000 in
theorem ggX9_again_X1_copyFrom : GoodIn wsX9_again wsX1_copyFrom := goodIn_r _ [11, 12, 13, 14, 15, 16, 17, 18, 34, 35, 36, 37, 38, 39, 40] (by decide +kernel) (by decide +kernel)
set_option maxRecDepth 20000 in
theorem gX9_again_X1_copyFrom : GoodIn wsX9_again (wsV RX9 256 RX1 yX1_copyFrom wsX1_copyFrom) := goodIn_app (goodIn_of _ (by decide +kernel)) ggX9_again_X1_copyFrom
set_option maxRecDepth 20000 in
theorem ggX9_again_X1_size : GoodIn wsX9_again wsX1_size := goodIn_r _ [22, 12, 13, 34, 35, 36, 37, 38, 39, 40] (by decide +kernel) (by decide +kernel)
set_option maxRecDepth 20000 in
theorem gX9_again_X1_size : GoodIn wsX9_again (wsV RX9 96 RX1 yX1_size wsX1_size) := goodIn_app (goodIn_of _ (by decide +kernel)) ggX9_again_X1_size
theorem dX9_again_0 : decode cX9_again 0 = .ok (.iload_n 1, 1) := by decide +kernel
theorem dX9_again_1 : decode cX9_again 1 = .ok (.invokestatic 259, 3) := by decide +kernel
theorem dX9_again_4 : decode cX9_again 4 = .ok (.ifCond .ne 5, 3) := by decide +kernel
theorem dX9_again_7 : decode cX9_again 7 = .ok (.iconst (-1), 1) := by decide +kernel
theorem dX9_again_8 : decode cX9_again 8 = .ok (.ireturn, 1) := by decide +kernel
theorem dX9_again_9 : decode cX9_again 9 = .ok (.aload_n 0, 1) := by decide +kernel
theorem dX9_again_10 : decode cX9_again 10 = .ok (.getfield 26, 3) := by decide +kernel
theorem dX9_again_13 : decode cX9_again 13 = .ok (.iload_n 1, 1) := by decide +kernel
theorem dX9_again_14 : decode cX9_again 14 = .ok (.aaload, 1) := by decide +kernel
theorem dX9_again_15 : decode cX9_again 15 = .ok (.astore_n 2, 1) := by decide +kernel
theorem dX9_again_16 : decode cX9_again 16 = .ok (.aload_n 2, 1) := by decide +kernel
theorem dX9_again_17 : decode cX9_again 17 = .ok (.ifnonnull 6, 3) := by decide +kernel
theorem dX9_again_20 : decode cX9_again 20 = .ok (.bipush (-3), 2) := by decide +kernel
theorem dX9_again_22 : decode cX9_again 22 = .ok (.ireturn, 1) := by decide +kernel
theorem dX9_again_23 : decode cX9_again 23 = .ok (.aload_n 0, 1) := by decide +kernel
theorem dX9_again_24 : decode cX9_again 24 = .ok (.getfield 19, 3) := by decide +kernel
theorem dX9_again_27 : decode cX9_again 27 = .ok (.aload_n 2, 1) := by decide +kernel
theorem dX9_again_28 : decode cX9_again 28 = .ok (.invokevirtual 256, 3) := by decide +kernel
theorem dX9_again_31 : decode cX9_again 31 = .ok (.aload_n 0, 1) := by decide +kernel
theorem dX9_again_32 : decode cX9_again 32 = .ok (.getfield 19, 3) := by decide +kernel
theorem dX9_again_35 : decode cX9_again 35 = .ok (.invokevirtual 96, 3) := by decide +kernel
theorem dX9_again_38 : decode cX9_again 38 = .ok (.ireturn, 1) := by decide +kernel
theorem dX9_isSide_0 : decode cX9_isSide 0 = .ok (.iload_n 0, 1) := by decide +kernel
theorem dX9_isSide_1 : decode cX9_isSide 1 = .ok (.ifCond .lt 12, 3) := by decide +kernel
theorem dX9_isSide_4 : decode cX9_isSide 4 = .ok (.iload_n 0, 1) := by decide +kernel
theorem dX9_isSide_5 : decode cX9_isSide 5 = .ok (.iconst 4, 1) := by decide +kernel
theorem dX9_isSide_6 : decode cX9_isSide 6 = .ok (.if_icmp .ge 7, 3) := by decide +kernel
theorem dX9_isSide_9 : decode cX9_isSide 9 = .ok (.iconst 1, 1) := by decide +kernel
theorem dX9_isSide_10 : decode cX9_isSide 10 = .ok (.goto 4, 3) := by decide +kernel
theorem dX9_isSide_13 : decode cX9_isSide 13 = .ok (.iconst 0, 1) := by decide +kernel
theorem dX9_isSide_14 : decode cX9_isSide 14 = .ok (.ireturn, 1) := by decide +kernel
theorem dX9_isSlot_0 : decode cX9_isSlot 0 = .ok (.iload_n 0, 1) := by decide +kernel
theorem dX9_isSlot_1 : decode cX9_isSlot 1 = .ok (.ifCond .lt 12, 3) := by decide +kernel
theorem dX9_isSlot_4 : decode cX9_isSlot 4 = .ok (.iload_n 0, 1) := by decide +kernel
theorem dX9_isSlot_5 : decode cX9_isSlot 5 = .ok (.iconst 2, 1) := by decide +kernel
theorem dX9_isSlot_6 : decode cX9_isSlot 6 = .ok (.if_icmp .ge 7, 3) := by decide +kernel
theorem dX9_isSlot_9 : decode cX9_isSlot 9 = .ok (.iconst 1, 1) := by decide +kernel
theorem dX9_isSlot_10 : decode cX9_isSlot 10 = .ok (.goto 4, 3) := by decide +kernel
theorem dX9_isSlot_13 : decode cX9_isSlot 13 = .ok (.iconst 0, 1) := by decide +kernel
theorem dX9_isSlot_14 : decode cX9_isSlot 14 = .ok (.ireturn, 1) := by decide +kernel
theorem dX9_oneIf_0 : decode cX9_oneIf 0 = .ok (.iload_n 0, 1) := by decide +kernel
theorem dX9_oneIf_1 : decode cX9_oneIf 1 = .ok (.ifCond .eq 7, 3) := by decide +kernel
theorem dX9_oneIf_4 : decode cX9_oneIf 4 = .ok (.iconst 1, 1) := by decide +kernel
theorem dX9_oneIf_5 : decode cX9_oneIf 5 = .ok (.goto 4, 3) := by decide +kernel
theorem dX9_oneIf_8 : decode cX9_oneIf 8 = .ok (.iconst 0, 1) := by decide +kernel
theorem dX9_oneIf_9 : decode cX9_oneIf 9 = .ok (.ireturn, 1) := by decide +kernel
theorem dX10_init_0 : decode cX10_init 0 = .ok (.aload_n 0, 1) := by decide +kernel
theorem dX10_init_1 : decode cX10_init 1 = .ok (.invokespecial 1, 3) := by decide +kernel
theorem dX10_init_4 : decode cX10_init 4 = .ok (.aload_n 0, 1) := by decide +kernel
theorem dX10_init_5 : decode cX10_init 5 = .ok (.bipush 41, 2) := by decide +kernel
theorem dX10_init_7 : decode cX10_init 7 = .ok (.newarray .int, 2) := by decide +kernel
theorem dX10_init_9 : decode cX10_init 9 = .ok (.putfield 7, 3) := by decide +kernel
theorem dX10_init_12 : decode cX10_init 12 = .ok (.aload_n 0, 1) := by decide +kernel
theorem dX10_init_13 : decode cX10_init 13 = .ok (.iconst 1, 1) := by decide +kernel
theorem dX10_init_14 : decode cX10_init 14 = .ok (.putfield 13, 3) := by decide +kernel
theorem dX10_init_17 : decode cX10_init 17 = .ok (.aload_n 0, 1) := by decide +kernel
theorem dX10_init_18 : decode cX10_init 18 = .ok (.iconst 1, 1) := by decide +kernel
theorem dX10_init_19 : decode cX10_init 19 = .ok (.putfield 17, 3) := by decide +kernel
theorem dX10_init_22 : decode cX10_init 22 = .ok (.aload_n 0, 1) := by decide +kernel
theorem dX10_init_23 : decode cX10_init 23 = .ok (.bipush 36, 2) := by decide +kernel
theorem dX10_init_25 : decode cX10_init 25 = .ok (.newarray .boolean, 2) := by decide +kernel
theorem dX10_init_27 : decode cX10_init 27 = .ok (.putfield 20, 3) := by decide +kernel
theorem dX10_init_30 : decode cX10_init 30 = .ok (.aload_n 0, 1) := by decide +kernel
theorem dX10_init_31 : decode cX10_init 31 = .ok (.bipush 36, 2) := by decide +kernel
theorem dX10_init_33 : decode cX10_init 33 = .ok (.newarray .boolean, 2) := by decide +kernel
theorem dX10_init_35 : decode cX10_init 35 = .ok (.putfield 24, 3) := by decide +kernel
theorem dX10_init_38 : decode cX10_init 38 = .ok (.aload_n 0, 1) := by decide +kernel
theorem dX10_init_39 : decode cX10_init 39 = .ok (.bipush 36, 2) := by decide +kernel
theorem dX10_init_41 : decode cX10_init 41 = .ok (.newarray .int, 2) := by decide +kernel
theorem dX10_init_43 : decode cX10_init 43 = .ok (.putfield 27, 3) := by decide +kernel
theorem dX10_init_46 : decode cX10_init 46 = .ok (.aload_n 0, 1) := by decide +kernel
theorem dX10_init_47 : decode cX10_init 47 = .ok (.bipush 72, 2) := by decide +kernel
theorem dX10_init_49 : decode cX10_init 49 = .ok (.newarray .int, 2) := by decide +kernel
theorem dX10_init_51 : decode cX10_init 51 = .ok (.putfield 30, 3) := by decide +kernel
theorem dX10_init_54 : decode cX10_init 54 = .ok (.aload_n 0, 1) := by decide +kernel
theorem dX10_init_55 : decode cX10_init 55 = .ok (.bipush 8, 2) := by decide +kernel
theorem dX10_init_57 : decode cX10_init 57 = .ok (.newarray .int, 2) := by decide +kernel
theorem dX10_init_59 : decode cX10_init 59 = .ok (.putfield 33, 3) := by decide +kernel
theorem dX10_init_62 : decode cX10_init 62 = .ok (.aload_n 0, 1) := by decide +kernel
theorem dX10_init_63 : decode cX10_init 63 = .ok (.iconst 2, 1) := by decide +kernel
theorem dX10_init_64 : decode cX10_init 64 = .ok (.newarray .boolean, 2) := by decide +kernel
theorem dX10_init_66 : decode cX10_init 66 = .ok (.putfield 36, 3) := by decide +kernel
theorem dX10_init_69 : decode cX10_init 69 = .ok (.aload_n 0, 1) := by decide +kernel
theorem dX10_init_70 : decode cX10_init 70 = .ok (.bipush 36, 2) := by decide +kernel
theorem dX10_init_72 : decode cX10_init 72 = .ok (.newarray .int, 2) := by decide +kernel
theorem dX10_init_74 : decode cX10_init 74 = .ok (.putfield 39, 3) := by decide +kernel
theorem dX10_init_77 : decode cX10_init 77 = .ok (.aload_n 0, 1) := by decide +kernel
theorem dX10_init_78 : decode cX10_init 78 = .ok (.bipush 36, 2) := by decide +kernel
theorem dX10_init_80 : decode cX10_init 80 = .ok (.newarray .int, 2) := by decide +kernel
theorem dX10_init_82 : decode cX10_init 82 = .ok (.putfield 42, 3) := by decide +kernel
theorem dX10_init_85 : decode cX10_init 85 = .ok (.aload_n 0, 1) := by decide +kernel
theorem dX10_init_86 : decode cX10_init 86 = .ok (.bipush 36, 2) := by decide +kernel
theorem dX10_init_88 : decode cX10_init 88 = .ok (.newarray .long, 2) := by decide +kernel
theorem dX10_init_90 : decode cX10_init 90 = .ok (.putfield 45, 3) := by decide +kernel
theorem dX10_init_93 : decode cX10_init 93 = .ok (.aload_n 0, 1) := by decide +kernel
theorem dX10_init_94 : decode cX10_init 94 = .ok (.bipush 36, 2) := by decide +kernel
theorem dX10_init_96 : decode cX10_init 96 = .ok (.newarray .boolean, 2) := by decide +kernel
theorem dX10_init_98 : decode cX10_init 98 = .ok (.putfield 49, 3) := by decide +kernel
theorem dX10_init_101 : decode cX10_init 101 = .ok (.aload_n 0, 1) := by decide +kernel
theorem dX10_init_102 : decode cX10_init 102 = .ok (.bipush 36, 2) := by decide +kernel
theorem dX10_init_104 : decode cX10_init 104 = .ok (.newarray .int, 2) := by decide +kernel
theorem dX10_init_106 : decode cX10_init 106 = .ok (.putfield 52, 3) := by decide +kernel
theorem dX10_init_109 : decode cX10_init 109 = .ok (.aload_n 0, 1) := by decide +kernel
theorem dX10_init_110 : decode cX10_init 110 = .ok (.bipush 36, 2) := by decide +kernel
theorem dX10_init_112 : decode cX10_init 112 = .ok (.newarray .int, 2) := by decide +kernel
theorem dX10_init_114 : decode cX10_init 114 = .ok (.putfield 55, 3) := by decide +kernel
theorem dX10_init_117 : decode cX10_init 117 = .ok (.aload_n 0, 1) := by decide +kernel
theorem dX10_init_118 : decode cX10_init 118 = .ok (.bipush 36, 2) := by decide +kernel
theorem dX10_init_120 : decode cX10_init 120 = .ok (.newarray .boolean, 2) := by decide +kernel
theorem dX10_init_122 : decode cX10_init 122 = .ok (.putfield 58, 3) := by decide +kernel
theorem dX10_init_125 : decode cX10_init 125 = .ok (.aload_n 0, 1) := by decide +kernel
theorem dX10_init_126 : decode cX10_init 126 = .ok (.sipush 256, 3) := by decide +kernel
theorem dX10_init_129 : decode cX10_init 129 = .ok (.newarray .long, 2) := by decide +kernel
theorem dX10_init_131 : decode cX10_init 131 = .ok (.putfield 61, 3) := by decide +kernel
theorem dX10_init_134 : decode cX10_init 134 = .ok (.aload_n 0, 1) := by decide +kernel
theorem dX10_init_135 : decode cX10_init 135 = .ok (.bipush 36, 2) := by decide +kernel
theorem dX10_init_137 : decode cX10_init 137 = .ok (.newarray .int, 2) := by decide +kernel
theorem dX10_init_139 : decode cX10_init 139 = .ok (.putfield 64, 3) := by decide +kernel
theorem dX10_init_142 : decode cX10_init 142 = .ok (.aload_n 0, 1) := by decide +kernel
theorem dX10_init_143 : decode cX10_init 143 = .ok (.bipush 36, 2) := by decide +kernel
theorem dX10_init_145 : decode cX10_init 145 = .ok (.newarray .int, 2) := by decide +kernel
theorem dX10_init_147 : decode cX10_init 147 = .ok (.putfield 67, 3) := by decide +kernel
theorem dX10_init_150 : decode cX10_init 150 = .ok (.aload_n 0, 1) := by decide +kernel
theorem dX10_init_151 : decode cX10_init 151 = .ok (.sipush 1296, 3) := by decide +kernel
theorem dX10_init_154 : decode cX10_init 154 = .ok (.newarray .int, 2) := by decide +kernel
theorem dX10_init_156 : decode cX10_init 156 = .ok (.putfield 70, 3) := by decide +kernel
theorem dX10_init_159 : decode cX10_init 159 = .ok (.aload_n 0, 1) := by decide +kernel
theorem dX10_init_160 : decode cX10_init 160 = .ok (.bipush 60, 2) := by decide +kernel
theorem dX10_init_162 : decode cX10_init 162 = .ok (.newarray .int, 2) := by decide +kernel
theorem dX10_init_164 : decode cX10_init 164 = .ok (.putfield 73, 3) := by decide +kernel
theorem dX10_init_167 : decode cX10_init 167 = .ok (.aload_n 0, 1) := by decide +kernel
theorem dX10_init_168 : decode cX10_init 168 = .ok (.bipush 36, 2) := by decide +kernel
theorem dX10_init_170 : decode cX10_init 170 = .ok (.newarray .int, 2) := by decide +kernel
theorem dX10_init_172 : decode cX10_init 172 = .ok (.putfield 76, 3) := by decide +kernel
theorem dX10_init_175 : decode cX10_init 175 = .ok (.return_, 1) := by decide +kernel
theorem dX10_in_0 : decode cX10_in 0 = .ok (.lload_n 0, 1) := by decide +kernel
theorem dX10_in_1 : decode cX10_in 1 = .ok (.lload_n 2, 1) := by decide +kernel
theorem dX10_in_2 : decode cX10_in 2 = .ok (.lcmp, 1) := by decide +kernel
theorem dX10_in_3 : decode cX10_in 3 = .ok (.ifCond .lt 14, 3) := by decide +kernel
theorem dX10_in_6 : decode cX10_in 6 = .ok (.lload_n 0, 1) := by decide +kernel
theorem dX10_in_7 : decode cX10_in 7 = .ok (.lload 4, 2) := by decide +kernel
theorem dX10_in_9 : decode cX10_in 9 = .ok (.lcmp, 1) := by decide +kernel
theorem dX10_in_10 : decode cX10_in 10 = .ok (.ifCond .gt 7, 3) := by decide +kernel
theorem dX10_in_13 : decode cX10_in 13 = .ok (.iconst 1, 1) := by decide +kernel
theorem dX10_in_14 : decode cX10_in 14 = .ok (.goto 4, 3) := by decide +kernel
theorem dX10_in_17 : decode cX10_in 17 = .ok (.iconst 0, 1) := by decide +kernel
theorem dX10_in_18 : decode cX10_in 18 = .ok (.ireturn, 1) := by decide +kernel
set_option maxRecDepth 20000 in
theorem ggX10_write_X10_in : GoodIn wsX10_write wsX10_in := goodIn_r _ [8] (by decide +kernel) (by decide +kernel)
set_option maxRecDepth 20000 in
theorem gX10_write_X10_in : GoodIn wsX10_write (va_wsS RX10 84 yX10_in wsX10_in) := goodIn_app (goodIn_of _ (by decide +kernel)) ggX10_write_X10_in
theorem dX10_write_0 : decode cX10_write 0 = .ok (.aload_n 0, 1) := by decide +kernel
theorem dX10_write_1 : decode cX10_write 1 = .ok (.iconst 0, 1) := by decide +kernel
theorem dX10_write_2 : decode cX10_write 2 = .ok (.putfield 79, 3) := by decide +kernel
theorem dX10_write_5 : decode cX10_write 5 = .ok (.iload_n 1, 1) := by decide +kernel
theorem dX10_write_6 : decode cX10_write 6 = .ok (.i2l, 1) := by decide +kernel
theorem dX10_write_7 : decode cX10_write 7 = .ok (.lconst 1, 1) := by decide +kernel
theorem dX10_write_8 : decode cX10_write 8 = .ok (.ldc2_w 82, 3) := by decide +kernel
theorem dX10_write_11 : decode cX10_write 11 = .ok (.invokestatic 84, 3) := by decide +kernel
theorem dX10_write_14 : decode cX10_write 14 = .ok (.ifCond .ne 6, 3) := by decide +kernel
theorem dX10_write_17 : decode cX10_write 17 = .ok (.bipush (-2), 2) := by decide +kernel
theorem dX10_write_19 : decode cX10_write 19 = .ok (.ireturn, 1) := by decide +kernel
theorem dX10_write_20 : decode cX10_write 20 = .ok (.aload_n 0, 1) := by decide +kernel
theorem dX10_write_21 : decode cX10_write 21 = .ok (.getfield 88, 3) := by decide +kernel
theorem dX10_write_24 : decode cX10_write 24 = .ok (.iload_n 1, 1) := by decide +kernel
theorem dX10_write_25 : decode cX10_write 25 = .ok (.iadd, 1) := by decide +kernel
theorem dX10_write_26 : decode cX10_write 26 = .ok (.bipush 41, 2) := by decide +kernel
theorem dX10_write_28 : decode cX10_write 28 = .ok (.if_icmp .le 6, 3) := by decide +kernel
theorem dX10_write_31 : decode cX10_write 31 = .ok (.bipush (-4), 2) := by decide +kernel
theorem dX10_write_33 : decode cX10_write 33 = .ok (.ireturn, 1) := by decide +kernel
theorem dX10_write_34 : decode cX10_write 34 = .ok (.iload_n 1, 1) := by decide +kernel
theorem dX10_write_35 : decode cX10_write 35 = .ok (.iconst 1, 1) := by decide +kernel
theorem dX10_write_36 : decode cX10_write 36 = .ok (.isub, 1) := by decide +kernel
theorem dX10_write_37 : decode cX10_write 37 = .ok (.istore 4, 2) := by decide +kernel
theorem dX10_write_39 : decode cX10_write 39 = .ok (.iload 4, 2) := by decide +kernel
theorem dX10_write_41 : decode cX10_write 41 = .ok (.ifCond .lt 40, 3) := by decide +kernel
theorem dX10_write_44 : decode cX10_write 44 = .ok (.aload_n 0, 1) := by decide +kernel
theorem dX10_write_45 : decode cX10_write 45 = .ok (.getfield 7, 3) := by decide +kernel
theorem dX10_write_48 : decode cX10_write 48 = .ok (.aload_n 0, 1) := by decide +kernel
theorem dX10_write_49 : decode cX10_write 49 = .ok (.getfield 88, 3) := by decide +kernel
theorem dX10_write_52 : decode cX10_write 52 = .ok (.lload_n 2, 1) := by decide +kernel
theorem dX10_write_53 : decode cX10_write 53 = .ok (.bipush 8, 2) := by decide +kernel
theorem dX10_write_55 : decode cX10_write 55 = .ok (.iload 4, 2) := by decide +kernel
theorem dX10_write_57 : decode cX10_write 57 = .ok (.imul, 1) := by decide +kernel
theorem dX10_write_58 : decode cX10_write 58 = .ok (.lshr, 1) := by decide +kernel
theorem dX10_write_59 : decode cX10_write 59 = .ok (.l2i, 1) := by decide +kernel
theorem dX10_write_60 : decode cX10_write 60 = .ok (.sipush 255, 3) := by decide +kernel
theorem dX10_write_63 : decode cX10_write 63 = .ok (.iand, 1) := by decide +kernel
theorem dX10_write_64 : decode cX10_write 64 = .ok (.iastore, 1) := by decide +kernel
theorem dX10_write_65 : decode cX10_write 65 = .ok (.aload_n 0, 1) := by decide +kernel
theorem dX10_write_66 : decode cX10_write 66 = .ok (.dup, 1) := by decide +kernel
theorem dX10_write_67 : decode cX10_write 67 = .ok (.getfield 88, 3) := by decide +kernel
theorem dX10_write_70 : decode cX10_write 70 = .ok (.iconst 1, 1) := by decide +kernel
theorem dX10_write_71 : decode cX10_write 71 = .ok (.iadd, 1) := by decide +kernel
theorem dX10_write_72 : decode cX10_write 72 = .ok (.putfield 88, 3) := by decide +kernel
theorem dX10_write_75 : decode cX10_write 75 = .ok (.iinc 4 (-1), 3) := by decide +kernel
theorem dX10_write_78 : decode cX10_write 78 = .ok (.goto (-39), 3) := by decide +kernel
theorem dX10_write_81 : decode cX10_write 81 = .ok (.aload_n 0, 1) := by decide +kernel
theorem dX10_write_82 : decode cX10_write 82 = .ok (.getfield 88, 3) := by decide +kernel
theorem dX10_write_85 : decode cX10_write 85 = .ok (.ireturn, 1) := by decide +kernel
theorem dX10_wipe_0 : decode cX10_wipe 0 = .ok (.aload_n 0, 1) := by decide +kernel
theorem dX10_wipe_1 : decode cX10_wipe 1 = .ok (.iconst 0, 1) := by decide +kernel
theorem dX10_wipe_2 : decode cX10_wipe 2 = .ok (.putfield 79, 3) := by decide +kernel
theorem dX10_wipe_5 : decode cX10_wipe 5 = .ok (.aload_n 0, 1) := by decide +kernel
theorem dX10_wipe_6 : decode cX10_wipe 6 = .ok (.getfield 88, 3) := by decide +kernel
theorem dX10_wipe_9 : decode cX10_wipe 9 = .ok (.istore_n 1, 1) := by decide +kernel
theorem dX10_wipe_10 : decode cX10_wipe 10 = .ok (.aload_n 0, 1) := by decide +kernel
theorem dX10_wipe_11 : decode cX10_wipe 11 = .ok (.iconst 0, 1) := by decide +kernel
theorem dX10_wipe_12 : decode cX10_wipe 12 = .ok (.putfield 88, 3) := by decide +kernel
theorem dX10_wipe_15 : decode cX10_wipe 15 = .ok (.iload_n 1, 1) := by decide +kernel
theorem dX10_wipe_16 : decode cX10_wipe 16 = .ok (.ireturn, 1) := by decide +kernel
set_option maxRecDepth 20000 in
theorem ggX10_readMaze_X10_in : GoodIn wsX10_readMaze wsX10_in := goodIn_r _ [10] (by decide +kernel) (by decide +kernel)
set_option maxRecDepth 20000 in
theorem gX10_readMaze_X10_in : GoodIn wsX10_readMaze (va_wsS RX10 84 yX10_in wsX10_in) := goodIn_app (goodIn_of _ (by decide +kernel)) ggX10_readMaze_X10_in
theorem dX10_readMaze_0 : decode cX10_readMaze 0 = .ok (.aload_n 0, 1) := by decide +kernel
theorem dX10_readMaze_1 : decode cX10_readMaze 1 = .ok (.iconst 1, 1) := by decide +kernel
theorem dX10_readMaze_2 : decode cX10_readMaze 2 = .ok (.putfield 91, 3) := by decide +kernel
theorem dX10_readMaze_5 : decode cX10_readMaze 5 = .ok (.aload_n 0, 1) := by decide +kernel
theorem dX10_readMaze_6 : decode cX10_readMaze 6 = .ok (.bipush 6, 2) := by decide +kernel
theorem dX10_readMaze_8 : decode cX10_readMaze 8 = .ok (.putfield 94, 3) := by decide +kernel
theorem dX10_readMaze_11 : decode cX10_readMaze 11 = .ok (.iconst 0, 1) := by decide +kernel
theorem dX10_readMaze_12 : decode cX10_readMaze 12 = .ok (.istore_n 1, 1) := by decide +kernel
theorem dX10_readMaze_13 : decode cX10_readMaze 13 = .ok (.iconst 0, 1) := by decide +kernel
theorem dX10_readMaze_14 : decode cX10_readMaze 14 = .ok (.istore_n 2, 1) := by decide +kernel
theorem dX10_readMaze_15 : decode cX10_readMaze 15 = .ok (.iconst 0, 1) := by decide +kernel
theorem dX10_readMaze_16 : decode cX10_readMaze 16 = .ok (.istore_n 3, 1) := by decide +kernel
theorem dX10_readMaze_17 : decode cX10_readMaze 17 = .ok (.iload_n 3, 1) := by decide +kernel
theorem dX10_readMaze_18 : decode cX10_readMaze 18 = .ok (.aload_n 0, 1) := by decide +kernel
theorem dX10_readMaze_19 : decode cX10_readMaze 19 = .ok (.getfield 88, 3) := by decide +kernel
theorem dX10_readMaze_22 : decode cX10_readMaze 22 = .ok (.if_icmp .ge 265, 3) := by decide +kernel
theorem dX10_readMaze_25 : decode cX10_readMaze 25 = .ok (.aload_n 0, 1) := by decide +kernel
theorem dX10_readMaze_26 : decode cX10_readMaze 26 = .ok (.getfield 91, 3) := by decide +kernel
theorem dX10_readMaze_29 : decode cX10_readMaze 29 = .ok (.iconst 1, 1) := by decide +kernel
theorem dX10_readMaze_30 : decode cX10_readMaze 30 = .ok (.if_icmp .ne 7, 3) := by decide +kernel
theorem dX10_readMaze_33 : decode cX10_readMaze 33 = .ok (.iconst 1, 1) := by decide +kernel
theorem dX10_readMaze_34 : decode cX10_readMaze 34 = .ok (.goto 4, 3) := by decide +kernel
theorem dX10_readMaze_37 : decode cX10_readMaze 37 = .ok (.iconst 0, 1) := by decide +kernel
theorem dX10_readMaze_38 : decode cX10_readMaze 38 = .ok (.istore 4, 2) := by decide +kernel
theorem dX10_readMaze_40 : decode cX10_readMaze 40 = .ok (.iload_n 1, 1) := by decide +kernel
theorem dX10_readMaze_41 : decode cX10_readMaze 41 = .ok (.ifCond .le 31, 3) := by decide +kernel
theorem dX10_readMaze_44 : decode cX10_readMaze 44 = .ok (.aload_n 0, 1) := by decide +kernel
theorem dX10_readMaze_45 : decode cX10_readMaze 45 = .ok (.getfield 27, 3) := by decide +kernel
theorem dX10_readMaze_48 : decode cX10_readMaze 48 = .ok (.bipush 6, 2) := by decide +kernel
theorem dX10_readMaze_50 : decode cX10_readMaze 50 = .ok (.aload_n 0, 1) := by decide +kernel
theorem dX10_readMaze_51 : decode cX10_readMaze 51 = .ok (.getfield 91, 3) := by decide +kernel
theorem dX10_readMaze_54 : decode cX10_readMaze 54 = .ok (.iconst 1, 1) := by decide +kernel
theorem dX10_readMaze_55 : decode cX10_readMaze 55 = .ok (.isub, 1) := by decide +kernel
theorem dX10_readMaze_56 : decode cX10_readMaze 56 = .ok (.imul, 1) := by decide +kernel
theorem dX10_readMaze_57 : decode cX10_readMaze 57 = .ok (.iload_n 1, 1) := by decide +kernel
theorem dX10_readMaze_58 : decode cX10_readMaze 58 = .ok (.iadd, 1) := by decide +kernel
theorem dX10_readMaze_59 : decode cX10_readMaze 59 = .ok (.iconst 1, 1) := by decide +kernel
theorem dX10_readMaze_60 : decode cX10_readMaze 60 = .ok (.isub, 1) := by decide +kernel
theorem dX10_readMaze_61 : decode cX10_readMaze 61 = .ok (.iaload, 1) := by decide +kernel
theorem dX10_readMaze_62 : decode cX10_readMaze 62 = .ok (.iconst 2, 1) := by decide +kernel
theorem dX10_readMaze_63 : decode cX10_readMaze 63 = .ok (.irem, 1) := by decide +kernel
theorem dX10_readMaze_64 : decode cX10_readMaze 64 = .ok (.iconst 1, 1) := by decide +kernel
theorem dX10_readMaze_65 : decode cX10_readMaze 65 = .ok (.if_icmp .ne 7, 3) := by decide +kernel
theorem dX10_readMaze_68 : decode cX10_readMaze 68 = .ok (.iconst 1, 1) := by decide +kernel
theorem dX10_readMaze_69 : decode cX10_readMaze 69 = .ok (.goto 4, 3) := by decide +kernel
theorem dX10_readMaze_72 : decode cX10_readMaze 72 = .ok (.iconst 0, 1) := by decide +kernel
theorem dX10_readMaze_73 : decode cX10_readMaze 73 = .ok (.istore 5, 2) := by decide +kernel
theorem dX10_readMaze_75 : decode cX10_readMaze 75 = .ok (.aload_n 0, 1) := by decide +kernel
theorem dX10_readMaze_76 : decode cX10_readMaze 76 = .ok (.getfield 7, 3) := by decide +kernel
theorem dX10_readMaze_79 : decode cX10_readMaze 79 = .ok (.iload_n 3, 1) := by decide +kernel
theorem dX10_readMaze_80 : decode cX10_readMaze 80 = .ok (.iaload, 1) := by decide +kernel
theorem dX10_readMaze_81 : decode cX10_readMaze 81 = .ok (.bipush 47, 2) := by decide +kernel
theorem dX10_readMaze_83 : decode cX10_readMaze 83 = .ok (.if_icmp .ne 70, 3) := by decide +kernel
theorem dX10_readMaze_86 : decode cX10_readMaze 86 = .ok (.iload_n 1, 1) := by decide +kernel
theorem dX10_readMaze_87 : decode cX10_readMaze 87 = .ok (.ifCond .le 25, 3) := by decide +kernel
theorem dX10_readMaze_90 : decode cX10_readMaze 90 = .ok (.iload 5, 2) := by decide +kernel
theorem dX10_readMaze_92 : decode cX10_readMaze 92 = .ok (.ifCond .ne 20, 3) := by decide +kernel
theorem dX10_readMaze_95 : decode cX10_readMaze 95 = .ok (.iload 4, 2) := by decide +kernel
theorem dX10_readMaze_97 : decode cX10_readMaze 97 = .ok (.ifCond .ne 11, 3) := by decide +kernel
theorem dX10_readMaze_100 : decode cX10_readMaze 100 = .ok (.iload_n 1, 1) := by decide +kernel
theorem dX10_readMaze_101 : decode cX10_readMaze 101 = .ok (.aload_n 0, 1) := by decide +kernel
theorem dX10_readMaze_102 : decode cX10_readMaze 102 = .ok (.getfield 94, 3) := by decide +kernel
theorem dX10_readMaze_105 : decode cX10_readMaze 105 = .ok (.if_icmp .ne 7, 3) := by decide +kernel
theorem dX10_readMaze_108 : decode cX10_readMaze 108 = .ok (.iconst 1, 1) := by decide +kernel
theorem dX10_readMaze_109 : decode cX10_readMaze 109 = .ok (.goto 4, 3) := by decide +kernel
theorem dX10_readMaze_112 : decode cX10_readMaze 112 = .ok (.iconst 0, 1) := by decide +kernel
theorem dX10_readMaze_113 : decode cX10_readMaze 113 = .ok (.istore 6, 2) := by decide +kernel
theorem dX10_readMaze_115 : decode cX10_readMaze 115 = .ok (.iload 6, 2) := by decide +kernel
theorem dX10_readMaze_117 : decode cX10_readMaze 117 = .ok (.ifCond .eq 12, 3) := by decide +kernel
theorem dX10_readMaze_120 : decode cX10_readMaze 120 = .ok (.aload_n 0, 1) := by decide +kernel
theorem dX10_readMaze_121 : decode cX10_readMaze 121 = .ok (.getfield 91, 3) := by decide +kernel
theorem dX10_readMaze_124 : decode cX10_readMaze 124 = .ok (.bipush 6, 2) := by decide +kernel
theorem dX10_readMaze_126 : decode cX10_readMaze 126 = .ok (.if_icmp .ne 5, 3) := by decide +kernel
theorem dX10_readMaze_129 : decode cX10_readMaze 129 = .ok (.iload_n 3, 1) := by decide +kernel
theorem dX10_readMaze_130 : decode cX10_readMaze 130 = .ok (.ireturn, 1) := by decide +kernel
theorem dX10_readMaze_131 : decode cX10_readMaze 131 = .ok (.aload_n 0, 1) := by decide +kernel
theorem dX10_readMaze_132 : decode cX10_readMaze 132 = .ok (.iload_n 1, 1) := by decide +kernel
theorem dX10_readMaze_133 : decode cX10_readMaze 133 = .ok (.putfield 94, 3) := by decide +kernel
theorem dX10_readMaze_136 : decode cX10_readMaze 136 = .ok (.aload_n 0, 1) := by decide +kernel
theorem dX10_readMaze_137 : decode cX10_readMaze 137 = .ok (.dup, 1) := by decide +kernel
theorem dX10_readMaze_138 : decode cX10_readMaze 138 = .ok (.getfield 91, 3) := by decide +kernel
theorem dX10_readMaze_141 : decode cX10_readMaze 141 = .ok (.iconst 1, 1) := by decide +kernel
theorem dX10_readMaze_142 : decode cX10_readMaze 142 = .ok (.iadd, 1) := by decide +kernel
theorem dX10_readMaze_143 : decode cX10_readMaze 143 = .ok (.putfield 91, 3) := by decide +kernel
theorem dX10_readMaze_146 : decode cX10_readMaze 146 = .ok (.iconst 0, 1) := by decide +kernel
theorem dX10_readMaze_147 : decode cX10_readMaze 147 = .ok (.istore_n 1, 1) := by decide +kernel
theorem dX10_readMaze_148 : decode cX10_readMaze 148 = .ok (.iconst 0, 1) := by decide +kernel
theorem dX10_readMaze_149 : decode cX10_readMaze 149 = .ok (.istore_n 2, 1) := by decide +kernel
theorem dX10_readMaze_150 : decode cX10_readMaze 150 = .ok (.goto 131, 3) := by decide +kernel
theorem dX10_readMaze_153 : decode cX10_readMaze 153 = .ok (.aload_n 0, 1) := by decide +kernel
theorem dX10_readMaze_154 : decode cX10_readMaze 154 = .ok (.getfield 7, 3) := by decide +kernel
theorem dX10_readMaze_157 : decode cX10_readMaze 157 = .ok (.iload_n 3, 1) := by decide +kernel
theorem dX10_readMaze_158 : decode cX10_readMaze 158 = .ok (.iaload, 1) := by decide +kernel
theorem dX10_readMaze_159 : decode cX10_readMaze 159 = .ok (.bipush 48, 2) := by decide +kernel
theorem dX10_readMaze_161 : decode cX10_readMaze 161 = .ok (.isub, 1) := by decide +kernel
theorem dX10_readMaze_162 : decode cX10_readMaze 162 = .ok (.istore 6, 2) := by decide +kernel
theorem dX10_readMaze_164 : decode cX10_readMaze 164 = .ok (.iload_n 1, 1) := by decide +kernel
theorem dX10_readMaze_165 : decode cX10_readMaze 165 = .ok (.aload_n 0, 1) := by decide +kernel
theorem dX10_readMaze_166 : decode cX10_readMaze 166 = .ok (.getfield 94, 3) := by decide +kernel
theorem dX10_readMaze_169 : decode cX10_readMaze 169 = .ok (.iconst 1, 1) := by decide +kernel
theorem dX10_readMaze_170 : decode cX10_readMaze 170 = .ok (.isub, 1) := by decide +kernel
theorem dX10_readMaze_171 : decode cX10_readMaze 171 = .ok (.if_icmp .ne 7, 3) := by decide +kernel
theorem dX10_readMaze_174 : decode cX10_readMaze 174 = .ok (.iconst 1, 1) := by decide +kernel
theorem dX10_readMaze_175 : decode cX10_readMaze 175 = .ok (.goto 4, 3) := by decide +kernel
theorem dX10_readMaze_178 : decode cX10_readMaze 178 = .ok (.iconst 0, 1) := by decide +kernel
theorem dX10_readMaze_179 : decode cX10_readMaze 179 = .ok (.istore 7, 2) := by decide +kernel
theorem dX10_readMaze_181 : decode cX10_readMaze 181 = .ok (.iload 6, 2) := by decide +kernel
theorem dX10_readMaze_183 : decode cX10_readMaze 183 = .ok (.i2l, 1) := by decide +kernel
theorem dX10_readMaze_184 : decode cX10_readMaze 184 = .ok (.lconst 0, 1) := by decide +kernel
theorem dX10_readMaze_185 : decode cX10_readMaze 185 = .ok (.ldc2_w 97, 3) := by decide +kernel
theorem dX10_readMaze_188 : decode cX10_readMaze 188 = .ok (.invokestatic 84, 3) := by decide +kernel
theorem dX10_readMaze_191 : decode cX10_readMaze 191 = .ok (.ifCond .eq 43, 3) := by decide +kernel
theorem dX10_readMaze_194 : decode cX10_readMaze 194 = .ok (.iload_n 1, 1) := by decide +kernel
theorem dX10_readMaze_195 : decode cX10_readMaze 195 = .ok (.aload_n 0, 1) := by decide +kernel
theorem dX10_readMaze_196 : decode cX10_readMaze 196 = .ok (.getfield 94, 3) := by decide +kernel
theorem dX10_readMaze_199 : decode cX10_readMaze 199 = .ok (.if_icmp .ge 35, 3) := by decide +kernel
theorem dX10_readMaze_202 : decode cX10_readMaze 202 = .ok (.iload 7, 2) := by decide +kernel
theorem dX10_readMaze_204 : decode cX10_readMaze 204 = .ok (.ifCond .eq 11, 3) := by decide +kernel
theorem dX10_readMaze_207 : decode cX10_readMaze 207 = .ok (.iload 6, 2) := by decide +kernel
theorem dX10_readMaze_209 : decode cX10_readMaze 209 = .ok (.iconst 2, 1) := by decide +kernel
theorem dX10_readMaze_210 : decode cX10_readMaze 210 = .ok (.irem, 1) := by decide +kernel
theorem dX10_readMaze_211 : decode cX10_readMaze 211 = .ok (.iconst 1, 1) := by decide +kernel
theorem dX10_readMaze_212 : decode cX10_readMaze 212 = .ok (.if_icmp .eq 22, 3) := by decide +kernel
theorem dX10_readMaze_215 : decode cX10_readMaze 215 = .ok (.aload_n 0, 1) := by decide +kernel
theorem dX10_readMaze_216 : decode cX10_readMaze 216 = .ok (.getfield 91, 3) := by decide +kernel
theorem dX10_readMaze_219 : decode cX10_readMaze 219 = .ok (.bipush 6, 2) := by decide +kernel
theorem dX10_readMaze_221 : decode cX10_readMaze 221 = .ok (.if_icmp .ne 9, 3) := by decide +kernel
theorem dX10_readMaze_224 : decode cX10_readMaze 224 = .ok (.iload 6, 2) := by decide +kernel
theorem dX10_readMaze_226 : decode cX10_readMaze 226 = .ok (.iconst 1, 1) := by decide +kernel
theorem dX10_readMaze_227 : decode cX10_readMaze 227 = .ok (.if_icmp .gt 7, 3) := by decide +kernel
theorem dX10_readMaze_230 : decode cX10_readMaze 230 = .ok (.iconst 1, 1) := by decide +kernel
theorem dX10_readMaze_231 : decode cX10_readMaze 231 = .ok (.goto 4, 3) := by decide +kernel
theorem dX10_readMaze_234 : decode cX10_readMaze 234 = .ok (.iconst 0, 1) := by decide +kernel
theorem dX10_readMaze_235 : decode cX10_readMaze 235 = .ok (.istore 8, 2) := by decide +kernel
theorem dX10_readMaze_237 : decode cX10_readMaze 237 = .ok (.iload 8, 2) := by decide +kernel
theorem dX10_readMaze_239 : decode cX10_readMaze 239 = .ok (.ifCond .ne 5, 3) := by decide +kernel
theorem dX10_readMaze_242 : decode cX10_readMaze 242 = .ok (.iload_n 3, 1) := by decide +kernel
theorem dX10_readMaze_243 : decode cX10_readMaze 243 = .ok (.ireturn, 1) := by decide +kernel
theorem dX10_readMaze_244 : decode cX10_readMaze 244 = .ok (.aload_n 0, 1) := by decide +kernel
theorem dX10_readMaze_245 : decode cX10_readMaze 245 = .ok (.getfield 27, 3) := by decide +kernel
theorem dX10_readMaze_248 : decode cX10_readMaze 248 = .ok (.bipush 6, 2) := by decide +kernel
theorem dX10_readMaze_250 : decode cX10_readMaze 250 = .ok (.aload_n 0, 1) := by decide +kernel
theorem dX10_readMaze_251 : decode cX10_readMaze 251 = .ok (.getfield 91, 3) := by decide +kernel
theorem dX10_readMaze_254 : decode cX10_readMaze 254 = .ok (.iconst 1, 1) := by decide +kernel
theorem dX10_readMaze_255 : decode cX10_readMaze 255 = .ok (.isub, 1) := by decide +kernel
theorem dX10_readMaze_256 : decode cX10_readMaze 256 = .ok (.imul, 1) := by decide +kernel
theorem dX10_readMaze_257 : decode cX10_readMaze 257 = .ok (.iload_n 1, 1) := by decide +kernel
theorem dX10_readMaze_258 : decode cX10_readMaze 258 = .ok (.iadd, 1) := by decide +kernel
theorem dX10_readMaze_259 : decode cX10_readMaze 259 = .ok (.iload 6, 2) := by decide +kernel
theorem dX10_readMaze_261 : decode cX10_readMaze 261 = .ok (.iastore, 1) := by decide +kernel
theorem dX10_readMaze_262 : decode cX10_readMaze 262 = .ok (.iload_n 2, 1) := by decide +kernel
theorem dX10_readMaze_263 : decode cX10_readMaze 263 = .ok (.ifCond .ne 9, 3) := by decide +kernel
theorem dX10_readMaze_266 : decode cX10_readMaze 266 = .ok (.iload 6, 2) := by decide +kernel
theorem dX10_readMaze_268 : decode cX10_readMaze 268 = .ok (.iconst 1, 1) := by decide +kernel
theorem dX10_readMaze_269 : decode cX10_readMaze 269 = .ok (.if_icmp .le 7, 3) := by decide +kernel
theorem dX10_readMaze_272 : decode cX10_readMaze 272 = .ok (.iconst 1, 1) := by decide +kernel
theorem dX10_readMaze_273 : decode cX10_readMaze 273 = .ok (.goto 4, 3) := by decide +kernel
theorem dX10_readMaze_276 : decode cX10_readMaze 276 = .ok (.iconst 0, 1) := by decide +kernel
theorem dX10_readMaze_277 : decode cX10_readMaze 277 = .ok (.istore_n 2, 1) := by decide +kernel
theorem dX10_readMaze_278 : decode cX10_readMaze 278 = .ok (.iinc 1 1, 3) := by decide +kernel
theorem dX10_readMaze_281 : decode cX10_readMaze 281 = .ok (.iinc 3 1, 3) := by decide +kernel
theorem dX10_readMaze_284 : decode cX10_readMaze 284 = .ok (.goto (-267), 3) := by decide +kernel
theorem dX10_readMaze_287 : decode cX10_readMaze 287 = .ok (.iload_n 1, 1) := by decide +kernel
theorem dX10_readMaze_288 : decode cX10_readMaze 288 = .ok (.ifCond .le 31, 3) := by decide +kernel
theorem dX10_readMaze_291 : decode cX10_readMaze 291 = .ok (.aload_n 0, 1) := by decide +kernel
theorem dX10_readMaze_292 : decode cX10_readMaze 292 = .ok (.getfield 27, 3) := by decide +kernel
theorem dX10_readMaze_295 : decode cX10_readMaze 295 = .ok (.bipush 6, 2) := by decide +kernel
theorem dX10_readMaze_297 : decode cX10_readMaze 297 = .ok (.aload_n 0, 1) := by decide +kernel
theorem dX10_readMaze_298 : decode cX10_readMaze 298 = .ok (.getfield 91, 3) := by decide +kernel
theorem dX10_readMaze_301 : decode cX10_readMaze 301 = .ok (.iconst 1, 1) := by decide +kernel
theorem dX10_readMaze_302 : decode cX10_readMaze 302 = .ok (.isub, 1) := by decide +kernel
theorem dX10_readMaze_303 : decode cX10_readMaze 303 = .ok (.imul, 1) := by decide +kernel
theorem dX10_readMaze_304 : decode cX10_readMaze 304 = .ok (.iload_n 1, 1) := by decide +kernel
theorem dX10_readMaze_305 : decode cX10_readMaze 305 = .ok (.iadd, 1) := by decide +kernel
theorem dX10_readMaze_306 : decode cX10_readMaze 306 = .ok (.iconst 1, 1) := by decide +kernel
theorem dX10_readMaze_307 : decode cX10_readMaze 307 = .ok (.isub, 1) := by decide +kernel
theorem dX10_readMaze_308 : decode cX10_readMaze 308 = .ok (.iaload, 1) := by decide +kernel
theorem dX10_readMaze_309 : decode cX10_readMaze 309 = .ok (.iconst 2, 1) := by decide +kernel
theorem dX10_readMaze_310 : decode cX10_readMaze 310 = .ok (.irem, 1) := by decide +kernel
theorem dX10_readMaze_311 : decode cX10_readMaze 311 = .ok (.iconst 1, 1) := by decide +kernel
theorem dX10_readMaze_312 : decode cX10_readMaze 312 = .ok (.if_icmp .ne 7, 3) := by decide +kernel
theorem dX10_readMaze_315 : decode cX10_readMaze 315 = .ok (.iconst 1, 1) := by decide +kernel
theorem dX10_readMaze_316 : decode cX10_readMaze 316 = .ok (.goto 4, 3) := by decide +kernel
theorem dX10_readMaze_319 : decode cX10_readMaze 319 = .ok (.iconst 0, 1) := by decide +kernel
theorem dX10_readMaze_320 : decode cX10_readMaze 320 = .ok (.istore_n 3, 1) := by decide +kernel
theorem dX10_readMaze_321 : decode cX10_readMaze 321 = .ok (.iload_n 1, 1) := by decide +kernel
theorem dX10_readMaze_322 : decode cX10_readMaze 322 = .ok (.ifCond .eq 27, 3) := by decide +kernel
theorem dX10_readMaze_325 : decode cX10_readMaze 325 = .ok (.aload_n 0, 1) := by decide +kernel
theorem dX10_readMaze_326 : decode cX10_readMaze 326 = .ok (.getfield 91, 3) := by decide +kernel
theorem dX10_readMaze_329 : decode cX10_readMaze 329 = .ok (.iconst 1, 1) := by decide +kernel
theorem dX10_readMaze_330 : decode cX10_readMaze 330 = .ok (.if_icmp .le 11, 3) := by decide +kernel
theorem dX10_readMaze_333 : decode cX10_readMaze 333 = .ok (.iload_n 1, 1) := by decide +kernel
theorem dX10_readMaze_334 : decode cX10_readMaze 334 = .ok (.aload_n 0, 1) := by decide +kernel
theorem dX10_readMaze_335 : decode cX10_readMaze 335 = .ok (.getfield 94, 3) := by decide +kernel
theorem dX10_readMaze_338 : decode cX10_readMaze 338 = .ok (.if_icmp .lt 11, 3) := by decide +kernel
theorem dX10_readMaze_341 : decode cX10_readMaze 341 = .ok (.iload_n 3, 1) := by decide +kernel
theorem dX10_readMaze_342 : decode cX10_readMaze 342 = .ok (.ifCond .ne 7, 3) := by decide +kernel
theorem dX10_readMaze_345 : decode cX10_readMaze 345 = .ok (.iload_n 2, 1) := by decide +kernel
theorem dX10_readMaze_346 : decode cX10_readMaze 346 = .ok (.ifCond .eq 8, 3) := by decide +kernel
theorem dX10_readMaze_349 : decode cX10_readMaze 349 = .ok (.aload_n 0, 1) := by decide +kernel
theorem dX10_readMaze_350 : decode cX10_readMaze 350 = .ok (.getfield 88, 3) := by decide +kernel
theorem dX10_readMaze_353 : decode cX10_readMaze 353 = .ok (.ireturn, 1) := by decide +kernel
theorem dX10_readMaze_354 : decode cX10_readMaze 354 = .ok (.aload_n 0, 1) := by decide +kernel
theorem dX10_readMaze_355 : decode cX10_readMaze 355 = .ok (.iload_n 1, 1) := by decide +kernel
theorem dX10_readMaze_356 : decode cX10_readMaze 356 = .ok (.putfield 94, 3) := by decide +kernel
theorem dX10_readMaze_359 : decode cX10_readMaze 359 = .ok (.bipush (-9), 2) := by decide +kernel
theorem dX10_readMaze_361 : decode cX10_readMaze 361 = .ok (.ireturn, 1) := by decide +kernel
set_option maxRecDepth 20000 in
theorem ggX10_fault_X10_readMaze : GoodIn wsX10_fault wsX10_readMaze := goodIn_r _ [6, 7, 8, 9, 10, 11, 12, 13, 14, 5, 15, 16, 17, 18, 19, 20, 21, 22, 23, 24, 25, 26, 27, 28, 29, 30, 31, 32, 33, 34, 35, 36, 37, 38, 39, 40, 41, 42, 43, 44, 45, 46, 47, 48, 49] (by decide +kernel) (by decide +kernel)
set_option maxRecDepth 20000 in
theorem gX10_fault_X10_readMaze : GoodIn wsX10_fault (wsV RX10 99 RX10 yX10_readMaze wsX10_readMaze) := goodIn_app (goodIn_of _ (by decide +kernel)) ggX10_fault_X10_readMaze
theorem dX10_fault_0 : decode cX10_fault 0 = .ok (.aload_n 0, 1) := by decide +kernel
theorem dX10_fault_1 : decode cX10_fault 1 = .ok (.iconst 0, 1) := by decide +kernel
theorem dX10_fault_2 : decode cX10_fault 2 = .ok (.putfield 79, 3) := by decide +kernel
theorem dX10_fault_5 : decode cX10_fault 5 = .ok (.aload_n 0, 1) := by decide +kernel
theorem dX10_fault_6 : decode cX10_fault 6 = .ok (.invokevirtual 99, 3) := by decide +kernel
theorem dX10_fault_9 : decode cX10_fault 9 = .ok (.ireturn, 1) := by decide +kernel
theorem dX10_shutAll_0 : decode cX10_shutAll 0 = .ok (.aload_n 0, 1) := by decide +kernel
theorem dX10_shutAll_1 : decode cX10_shutAll 1 = .ok (.iload_n 1, 1) := by decide +kernel
theorem dX10_shutAll_2 : decode cX10_shutAll 2 = .ok (.putfield 13, 3) := by decide +kernel
theorem dX10_shutAll_5 : decode cX10_shutAll 5 = .ok (.aload_n 0, 1) := by decide +kernel
theorem dX10_shutAll_6 : decode cX10_shutAll 6 = .ok (.iload_n 2, 1) := by decide +kernel
theorem dX10_shutAll_7 : decode cX10_shutAll 7 = .ok (.putfield 17, 3) := by decide +kernel
theorem dX10_shutAll_10 : decode cX10_shutAll 10 = .ok (.iconst 0, 1) := by decide +kernel
theorem dX10_shutAll_11 : decode cX10_shutAll 11 = .ok (.istore_n 3, 1) := by decide +kernel
theorem dX10_shutAll_12 : decode cX10_shutAll 12 = .ok (.iload_n 3, 1) := by decide +kernel
theorem dX10_shutAll_13 : decode cX10_shutAll 13 = .ok (.bipush 36, 2) := by decide +kernel
theorem dX10_shutAll_15 : decode cX10_shutAll 15 = .ok (.if_icmp .ge 23, 3) := by decide +kernel
theorem dX10_shutAll_18 : decode cX10_shutAll 18 = .ok (.aload_n 0, 1) := by decide +kernel
theorem dX10_shutAll_19 : decode cX10_shutAll 19 = .ok (.getfield 20, 3) := by decide +kernel
theorem dX10_shutAll_22 : decode cX10_shutAll 22 = .ok (.iload_n 3, 1) := by decide +kernel
theorem dX10_shutAll_23 : decode cX10_shutAll 23 = .ok (.iconst 0, 1) := by decide +kernel
theorem dX10_shutAll_24 : decode cX10_shutAll 24 = .ok (.bastore, 1) := by decide +kernel
theorem dX10_shutAll_25 : decode cX10_shutAll 25 = .ok (.aload_n 0, 1) := by decide +kernel
theorem dX10_shutAll_26 : decode cX10_shutAll 26 = .ok (.getfield 24, 3) := by decide +kernel
theorem dX10_shutAll_29 : decode cX10_shutAll 29 = .ok (.iload_n 3, 1) := by decide +kernel
theorem dX10_shutAll_30 : decode cX10_shutAll 30 = .ok (.iconst 0, 1) := by decide +kernel
theorem dX10_shutAll_31 : decode cX10_shutAll 31 = .ok (.bastore, 1) := by decide +kernel
theorem dX10_shutAll_32 : decode cX10_shutAll 32 = .ok (.iinc 3 1, 3) := by decide +kernel
theorem dX10_shutAll_35 : decode cX10_shutAll 35 = .ok (.goto (-23), 3) := by decide +kernel
theorem dX10_shutAll_38 : decode cX10_shutAll 38 = .ok (.aload_n 0, 1) := by decide +kernel
theorem dX10_shutAll_39 : decode cX10_shutAll 39 = .ok (.iconst 0, 1) := by decide +kernel
theorem dX10_shutAll_40 : decode cX10_shutAll 40 = .ok (.putfield 103, 3) := by decide +kernel
theorem dX10_shutAll_43 : decode cX10_shutAll 43 = .ok (.aload_n 0, 1) := by decide +kernel
theorem dX10_shutAll_44 : decode cX10_shutAll 44 = .ok (.bipush 6, 2) := by decide +kernel
theorem dX10_shutAll_46 : decode cX10_shutAll 46 = .ok (.iload_n 1, 1) := by decide +kernel
theorem dX10_shutAll_47 : decode cX10_shutAll 47 = .ok (.iconst 1, 1) := by decide +kernel
theorem dX10_shutAll_48 : decode cX10_shutAll 48 = .ok (.isub, 1) := by decide +kernel
theorem dX10_shutAll_49 : decode cX10_shutAll 49 = .ok (.imul, 1) := by decide +kernel
theorem dX10_shutAll_50 : decode cX10_shutAll 50 = .ok (.iload_n 2, 1) := by decide +kernel
theorem dX10_shutAll_51 : decode cX10_shutAll 51 = .ok (.iadd, 1) := by decide +kernel
theorem dX10_shutAll_52 : decode cX10_shutAll 52 = .ok (.iconst 1, 1) := by decide +kernel
theorem dX10_shutAll_53 : decode cX10_shutAll 53 = .ok (.isub, 1) := by decide +kernel
theorem dX10_shutAll_54 : decode cX10_shutAll 54 = .ok (.putfield 106, 3) := by decide +kernel
theorem dX10_shutAll_57 : decode cX10_shutAll 57 = .ok (.return_, 1) := by decide +kernel
set_option maxRecDepth 20000 in
theorem ggX10_maze_X10_readMaze : GoodIn wsX10_maze wsX10_readMaze := goodIn_r _ [13, 2, 3, 14, 7, 15, 16, 17, 18, 12, 19, 26, 27, 28, 29, 30, 31, 32, 33, 34, 35, 36, 37, 38, 39, 40, 41, 42, 43, 44, 45, 46, 47, 48, 49, 50, 51, 52, 53, 54, 55, 56, 57, 58, 59] (by decide +kernel) (by decide +kernel)
set_option maxRecDepth 20000 in
theorem gX10_maze_X10_readMaze : GoodIn wsX10_maze (wsV RX10 99 RX10 yX10_readMaze wsX10_readMaze) := goodIn_app (goodIn_of _ (by decide +kernel)) ggX10_maze_X10_readMaze
set_option maxRecDepth 20000 in
theorem ggX10_maze_X10_shutAll : GoodIn wsX10_maze wsX10_shutAll := goodIn_r _ [23, 4, 5, 6, 8, 24, 25, 26, 27, 28, 29, 30, 31, 32, 33, 34, 35, 36, 37, 38, 39, 40, 41, 42, 43, 44, 45, 46, 47, 48, 49, 50, 51, 52, 53, 54, 55, 56, 57, 58, 59] (by decide +kernel) (by decide +kernel)
set_option maxRecDepth 20000 in
theorem gX10_maze_X10_shutAll : GoodIn wsX10_maze (wsV RX10 109 RX10 yX10_shutAll wsX10_shutAll) := goodIn_app (goodIn_of _ (by decide +kernel)) ggX10_maze_X10_shutAll
theorem dX10_maze_0 : decode cX10_maze 0 = .ok (.aload_n 0, 1) := by decide +kernel
theorem dX10_maze_1 : decode cX10_maze 1 = .ok (.iconst 0, 1) := by decide +kernel
theorem dX10_maze_2 : decode cX10_maze 2 = .ok (.putfield 79, 3) := by decide +kernel
theorem dX10_maze_5 : decode cX10_maze 5 = .ok (.aload_n 0, 1) := by decide +kernel
theorem dX10_maze_6 : decode cX10_maze 6 = .ok (.invokevirtual 99, 3) := by decide +kernel
theorem dX10_maze_9 : decode cX10_maze 9 = .ok (.bipush (-9), 2) := by decide +kernel
theorem dX10_maze_11 : decode cX10_maze 11 = .ok (.if_icmp .eq 6, 3) := by decide +kernel
theorem dX10_maze_14 : decode cX10_maze 14 = .ok (.bipush (-3), 2) := by decide +kernel
theorem dX10_maze_16 : decode cX10_maze 16 = .ok (.ireturn, 1) := by decide +kernel
theorem dX10_maze_17 : decode cX10_maze 17 = .ok (.aload_n 0, 1) := by decide +kernel
theorem dX10_maze_18 : decode cX10_maze 18 = .ok (.aload_n 0, 1) := by decide +kernel
theorem dX10_maze_19 : decode cX10_maze 19 = .ok (.getfield 91, 3) := by decide +kernel
theorem dX10_maze_22 : decode cX10_maze 22 = .ok (.aload_n 0, 1) := by decide +kernel
theorem dX10_maze_23 : decode cX10_maze 23 = .ok (.getfield 94, 3) := by decide +kernel
theorem dX10_maze_26 : decode cX10_maze 26 = .ok (.invokevirtual 109, 3) := by decide +kernel
theorem dX10_maze_29 : decode cX10_maze 29 = .ok (.iconst 0, 1) := by decide +kernel
theorem dX10_maze_30 : decode cX10_maze 30 = .ok (.istore_n 1, 1) := by decide +kernel
theorem dX10_maze_31 : decode cX10_maze 31 = .ok (.iload_n 1, 1) := by decide +kernel
theorem dX10_maze_32 : decode cX10_maze 32 = .ok (.aload_n 0, 1) := by decide +kernel
theorem dX10_maze_33 : decode cX10_maze 33 = .ok (.getfield 13, 3) := by decide +kernel
theorem dX10_maze_36 : decode cX10_maze 36 = .ok (.if_icmp .ge 89, 3) := by decide +kernel
theorem dX10_maze_39 : decode cX10_maze 39 = .ok (.iconst 0, 1) := by decide +kernel
theorem dX10_maze_40 : decode cX10_maze 40 = .ok (.istore_n 2, 1) := by decide +kernel
theorem dX10_maze_41 : decode cX10_maze 41 = .ok (.iload_n 2, 1) := by decide +kernel
theorem dX10_maze_42 : decode cX10_maze 42 = .ok (.aload_n 0, 1) := by decide +kernel
theorem dX10_maze_43 : decode cX10_maze 43 = .ok (.getfield 17, 3) := by decide +kernel
theorem dX10_maze_46 : decode cX10_maze 46 = .ok (.if_icmp .ge 73, 3) := by decide +kernel
theorem dX10_maze_49 : decode cX10_maze 49 = .ok (.aload_n 0, 1) := by decide +kernel
theorem dX10_maze_50 : decode cX10_maze 50 = .ok (.getfield 20, 3) := by decide +kernel
theorem dX10_maze_53 : decode cX10_maze 53 = .ok (.bipush 6, 2) := by decide +kernel
theorem dX10_maze_55 : decode cX10_maze 55 = .ok (.iload_n 1, 1) := by decide +kernel
theorem dX10_maze_56 : decode cX10_maze 56 = .ok (.imul, 1) := by decide +kernel
theorem dX10_maze_57 : decode cX10_maze 57 = .ok (.iload_n 2, 1) := by decide +kernel
theorem dX10_maze_58 : decode cX10_maze 58 = .ok (.iadd, 1) := by decide +kernel
theorem dX10_maze_59 : decode cX10_maze 59 = .ok (.aload_n 0, 1) := by decide +kernel
theorem dX10_maze_60 : decode cX10_maze 60 = .ok (.getfield 27, 3) := by decide +kernel
theorem dX10_maze_63 : decode cX10_maze 63 = .ok (.bipush 6, 2) := by decide +kernel
theorem dX10_maze_65 : decode cX10_maze 65 = .ok (.iload_n 1, 1) := by decide +kernel
theorem dX10_maze_66 : decode cX10_maze 66 = .ok (.imul, 1) := by decide +kernel
theorem dX10_maze_67 : decode cX10_maze 67 = .ok (.iload_n 2, 1) := by decide +kernel
theorem dX10_maze_68 : decode cX10_maze 68 = .ok (.iadd, 1) := by decide +kernel
theorem dX10_maze_69 : decode cX10_maze 69 = .ok (.iaload, 1) := by decide +kernel
theorem dX10_maze_70 : decode cX10_maze 70 = .ok (.iconst 2, 1) := by decide +kernel
theorem dX10_maze_71 : decode cX10_maze 71 = .ok (.irem, 1) := by decide +kernel
theorem dX10_maze_72 : decode cX10_maze 72 = .ok (.iconst 1, 1) := by decide +kernel
theorem dX10_maze_73 : decode cX10_maze 73 = .ok (.if_icmp .ne 7, 3) := by decide +kernel
theorem dX10_maze_76 : decode cX10_maze 76 = .ok (.iconst 1, 1) := by decide +kernel
theorem dX10_maze_77 : decode cX10_maze 77 = .ok (.goto 4, 3) := by decide +kernel
theorem dX10_maze_80 : decode cX10_maze 80 = .ok (.iconst 0, 1) := by decide +kernel
theorem dX10_maze_81 : decode cX10_maze 81 = .ok (.bastore, 1) := by decide +kernel
theorem dX10_maze_82 : decode cX10_maze 82 = .ok (.aload_n 0, 1) := by decide +kernel
theorem dX10_maze_83 : decode cX10_maze 83 = .ok (.getfield 24, 3) := by decide +kernel
theorem dX10_maze_86 : decode cX10_maze 86 = .ok (.bipush 6, 2) := by decide +kernel
theorem dX10_maze_88 : decode cX10_maze 88 = .ok (.iload_n 1, 1) := by decide +kernel
theorem dX10_maze_89 : decode cX10_maze 89 = .ok (.imul, 1) := by decide +kernel
theorem dX10_maze_90 : decode cX10_maze 90 = .ok (.iload_n 2, 1) := by decide +kernel
theorem dX10_maze_91 : decode cX10_maze 91 = .ok (.iadd, 1) := by decide +kernel
theorem dX10_maze_92 : decode cX10_maze 92 = .ok (.aload_n 0, 1) := by decide +kernel
theorem dX10_maze_93 : decode cX10_maze 93 = .ok (.getfield 27, 3) := by decide +kernel
theorem dX10_maze_96 : decode cX10_maze 96 = .ok (.bipush 6, 2) := by decide +kernel
theorem dX10_maze_98 : decode cX10_maze 98 = .ok (.iload_n 1, 1) := by decide +kernel
theorem dX10_maze_99 : decode cX10_maze 99 = .ok (.imul, 1) := by decide +kernel
theorem dX10_maze_100 : decode cX10_maze 100 = .ok (.iload_n 2, 1) := by decide +kernel
theorem dX10_maze_101 : decode cX10_maze 101 = .ok (.iadd, 1) := by decide +kernel
theorem dX10_maze_102 : decode cX10_maze 102 = .ok (.iaload, 1) := by decide +kernel
theorem dX10_maze_103 : decode cX10_maze 103 = .ok (.iconst 1, 1) := by decide +kernel
theorem dX10_maze_104 : decode cX10_maze 104 = .ok (.if_icmp .le 7, 3) := by decide +kernel
theorem dX10_maze_107 : decode cX10_maze 107 = .ok (.iconst 1, 1) := by decide +kernel
theorem dX10_maze_108 : decode cX10_maze 108 = .ok (.goto 4, 3) := by decide +kernel
theorem dX10_maze_111 : decode cX10_maze 111 = .ok (.iconst 0, 1) := by decide +kernel
theorem dX10_maze_112 : decode cX10_maze 112 = .ok (.bastore, 1) := by decide +kernel
theorem dX10_maze_113 : decode cX10_maze 113 = .ok (.iinc 2 1, 3) := by decide +kernel
theorem dX10_maze_116 : decode cX10_maze 116 = .ok (.goto (-75), 3) := by decide +kernel
theorem dX10_maze_119 : decode cX10_maze 119 = .ok (.iinc 1 1, 3) := by decide +kernel
theorem dX10_maze_122 : decode cX10_maze 122 = .ok (.goto (-91), 3) := by decide +kernel
theorem dX10_maze_125 : decode cX10_maze 125 = .ok (.aload_n 0, 1) := by decide +kernel
theorem dX10_maze_126 : decode cX10_maze 126 = .ok (.getfield 13, 3) := by decide +kernel
theorem dX10_maze_129 : decode cX10_maze 129 = .ok (.aload_n 0, 1) := by decide +kernel
theorem dX10_maze_130 : decode cX10_maze 130 = .ok (.getfield 17, 3) := by decide +kernel
theorem dX10_maze_133 : decode cX10_maze 133 = .ok (.imul, 1) := by decide +kernel
theorem dX10_maze_134 : decode cX10_maze 134 = .ok (.ireturn, 1) := by decide +kernel
theorem dX10_isCell_0 : decode cX10_isCell 0 = .ok (.iload_n 1, 1) := by decide +kernel
theorem dX10_isCell_1 : decode cX10_isCell 1 = .ok (.ifCond .lt 29, 3) := by decide +kernel
theorem dX10_isCell_4 : decode cX10_isCell 4 = .ok (.iload_n 1, 1) := by decide +kernel
theorem dX10_isCell_5 : decode cX10_isCell 5 = .ok (.bipush 10, 2) := by decide +kernel
theorem dX10_isCell_7 : decode cX10_isCell 7 = .ok (.idiv, 1) := by decide +kernel
theorem dX10_isCell_8 : decode cX10_isCell 8 = .ok (.aload_n 0, 1) := by decide +kernel
theorem dX10_isCell_9 : decode cX10_isCell 9 = .ok (.getfield 13, 3) := by decide +kernel
theorem dX10_isCell_12 : decode cX10_isCell 12 = .ok (.if_icmp .ge 18, 3) := by decide +kernel
theorem dX10_isCell_15 : decode cX10_isCell 15 = .ok (.iload_n 1, 1) := by decide +kernel
theorem dX10_isCell_16 : decode cX10_isCell 16 = .ok (.bipush 10, 2) := by decide +kernel
theorem dX10_isCell_18 : decode cX10_isCell 18 = .ok (.irem, 1) := by decide +kernel
theorem dX10_isCell_19 : decode cX10_isCell 19 = .ok (.aload_n 0, 1) := by decide +kernel
theorem dX10_isCell_20 : decode cX10_isCell 20 = .ok (.getfield 17, 3) := by decide +kernel
theorem dX10_isCell_23 : decode cX10_isCell 23 = .ok (.if_icmp .ge 7, 3) := by decide +kernel
theorem dX10_isCell_26 : decode cX10_isCell 26 = .ok (.iconst 1, 1) := by decide +kernel
theorem dX10_isCell_27 : decode cX10_isCell 27 = .ok (.goto 4, 3) := by decide +kernel
theorem dX10_isCell_30 : decode cX10_isCell 30 = .ok (.iconst 0, 1) := by decide +kernel
theorem dX10_isCell_31 : decode cX10_isCell 31 = .ok (.ireturn, 1) := by decide +kernel
set_option maxRecDepth 20000 in
theorem ggX10_isSide_X10_in : GoodIn wsX10_isSide wsX10_in := goodIn_r _ [5] (by decide +kernel) (by decide +kernel)
set_option maxRecDepth 20000 in
theorem gX10_isSide_X10_in : GoodIn wsX10_isSide (va_wsS RX10 84 yX10_in wsX10_in) := goodIn_app (goodIn_of _ (by decide +kernel)) ggX10_isSide_X10_in
theorem dX10_isSide_0 : decode cX10_isSide 0 = .ok (.iload_n 0, 1) := by decide +kernel
theorem dX10_isSide_1 : decode cX10_isSide 1 = .ok (.i2l, 1) := by decide +kernel
theorem dX10_isSide_2 : decode cX10_isSide 2 = .ok (.lconst 0, 1) := by decide +kernel
theorem dX10_isSide_3 : decode cX10_isSide 3 = .ok (.ldc2_w 97, 3) := by decide +kernel
theorem dX10_isSide_6 : decode cX10_isSide 6 = .ok (.invokestatic 84, 3) := by decide +kernel
theorem dX10_isSide_9 : decode cX10_isSide 9 = .ok (.ireturn, 1) := by decide +kernel
theorem dX10_index_0 : decode cX10_index 0 = .ok (.bipush 6, 2) := by decide +kernel
theorem dX10_index_2 : decode cX10_index 2 = .ok (.iload_n 0, 1) := by decide +kernel
theorem dX10_index_3 : decode cX10_index 3 = .ok (.bipush 10, 2) := by decide +kernel
theorem dX10_index_5 : decode cX10_index 5 = .ok (.idiv, 1) := by decide +kernel
theorem dX10_index_6 : decode cX10_index 6 = .ok (.imul, 1) := by decide +kernel
theorem dX10_index_7 : decode cX10_index 7 = .ok (.iload_n 0, 1) := by decide +kernel
theorem dX10_index_8 : decode cX10_index 8 = .ok (.bipush 10, 2) := by decide +kernel
theorem dX10_index_10 : decode cX10_index 10 = .ok (.irem, 1) := by decide +kernel
theorem dX10_index_11 : decode cX10_index 11 = .ok (.iadd, 1) := by decide +kernel
theorem dX10_index_12 : decode cX10_index 12 = .ok (.ireturn, 1) := by decide +kernel
theorem dX10_code_0 : decode cX10_code 0 = .ok (.bipush 10, 2) := by decide +kernel
theorem dX10_code_2 : decode cX10_code 2 = .ok (.iload_n 0, 1) := by decide +kernel
theorem dX10_code_3 : decode cX10_code 3 = .ok (.bipush 6, 2) := by decide +kernel
theorem dX10_code_5 : decode cX10_code 5 = .ok (.idiv, 1) := by decide +kernel
theorem dX10_code_6 : decode cX10_code 6 = .ok (.imul, 1) := by decide +kernel
theorem dX10_code_7 : decode cX10_code 7 = .ok (.iload_n 0, 1) := by decide +kernel
theorem dX10_code_8 : decode cX10_code 8 = .ok (.bipush 6, 2) := by decide +kernel
theorem dX10_code_10 : decode cX10_code 10 = .ok (.irem, 1) := by decide +kernel
theorem dX10_code_11 : decode cX10_code 11 = .ok (.iadd, 1) := by decide +kernel
theorem dX10_code_12 : decode cX10_code 12 = .ok (.ireturn, 1) := by decide +kernel
theorem dX10_isThere_0 : decode cX10_isThere 0 = .ok (.iload_n 1, 1) := by decide +kernel
theorem dX10_isThere_1 : decode cX10_isThere 1 = .ok (.bipush 6, 2) := by decide +kernel
theorem dX10_isThere_3 : decode cX10_isThere 3 = .ok (.idiv, 1) := by decide +kernel
theorem dX10_isThere_4 : decode cX10_isThere 4 = .ok (.aload_n 0, 1) := by decide +kernel
theorem dX10_isThere_5 : decode cX10_isThere 5 = .ok (.getfield 13, 3) := by decide +kernel
theorem dX10_isThere_8 : decode cX10_isThere 8 = .ok (.if_icmp .ge 18, 3) := by decide +kernel
theorem dX10_isThere_11 : decode cX10_isThere 11 = .ok (.iload_n 1, 1) := by decide +kernel
theorem dX10_isThere_12 : decode cX10_isThere 12 = .ok (.bipush 6, 2) := by decide +kernel
theorem dX10_isThere_14 : decode cX10_isThere 14 = .ok (.irem, 1) := by decide +kernel
theorem dX10_isThere_15 : decode cX10_isThere 15 = .ok (.aload_n 0, 1) := by decide +kernel
theorem dX10_isThere_16 : decode cX10_isThere 16 = .ok (.getfield 17, 3) := by decide +kernel
theorem dX10_isThere_19 : decode cX10_isThere 19 = .ok (.if_icmp .ge 7, 3) := by decide +kernel
theorem dX10_isThere_22 : decode cX10_isThere 22 = .ok (.iconst 1, 1) := by decide +kernel
theorem dX10_isThere_23 : decode cX10_isThere 23 = .ok (.goto 4, 3) := by decide +kernel
theorem dX10_isThere_26 : decode cX10_isThere 26 = .ok (.iconst 0, 1) := by decide +kernel
theorem dX10_isThere_27 : decode cX10_isThere 27 = .ok (.ireturn, 1) := by decide +kernel
set_option maxRecDepth 20000 in
theorem ggX10_beside_X10_in : GoodIn wsX10_beside wsX10_in := goodIn_r _ [6] (by decide +kernel) (by decide +kernel)
set_option maxRecDepth 20000 in
theorem gX10_beside_X10_in : GoodIn wsX10_beside (va_wsS RX10 84 yX10_in wsX10_in) := goodIn_app (goodIn_of _ (by decide +kernel)) ggX10_beside_X10_in
theorem dX10_beside_0 : decode cX10_beside 0 = .ok (.iload_n 1, 1) := by decide +kernel
theorem dX10_beside_1 : decode cX10_beside 1 = .ok (.bipush 6, 2) := by decide +kernel
theorem dX10_beside_3 : decode cX10_beside 3 = .ok (.idiv, 1) := by decide +kernel
theorem dX10_beside_4 : decode cX10_beside 4 = .ok (.iload_n 2, 1) := by decide +kernel
theorem dX10_beside_5 : decode cX10_beside 5 = .ok (.ifCond .ne 7, 3) := by decide +kernel
theorem dX10_beside_8 : decode cX10_beside 8 = .ok (.iconst (-1), 1) := by decide +kernel
theorem dX10_beside_9 : decode cX10_beside 9 = .ok (.goto 13, 3) := by decide +kernel
theorem dX10_beside_12 : decode cX10_beside 12 = .ok (.iload_n 2, 1) := by decide +kernel
theorem dX10_beside_13 : decode cX10_beside 13 = .ok (.iconst 2, 1) := by decide +kernel
theorem dX10_beside_14 : decode cX10_beside 14 = .ok (.if_icmp .ne 7, 3) := by decide +kernel
theorem dX10_beside_17 : decode cX10_beside 17 = .ok (.iconst 1, 1) := by decide +kernel
theorem dX10_beside_18 : decode cX10_beside 18 = .ok (.goto 4, 3) := by decide +kernel
theorem dX10_beside_21 : decode cX10_beside 21 = .ok (.iconst 0, 1) := by decide +kernel
theorem dX10_beside_22 : decode cX10_beside 22 = .ok (.iadd, 1) := by decide +kernel
theorem dX10_beside_23 : decode cX10_beside 23 = .ok (.istore_n 3, 1) := by decide +kernel
theorem dX10_beside_24 : decode cX10_beside 24 = .ok (.iload_n 1, 1) := by decide +kernel
theorem dX10_beside_25 : decode cX10_beside 25 = .ok (.bipush 6, 2) := by decide +kernel
theorem dX10_beside_27 : decode cX10_beside 27 = .ok (.irem, 1) := by decide +kernel
theorem dX10_beside_28 : decode cX10_beside 28 = .ok (.iload_n 2, 1) := by decide +kernel
theorem dX10_beside_29 : decode cX10_beside 29 = .ok (.iconst 1, 1) := by decide +kernel
theorem dX10_beside_30 : decode cX10_beside 30 = .ok (.if_icmp .ne 7, 3) := by decide +kernel
theorem dX10_beside_33 : decode cX10_beside 33 = .ok (.iconst 1, 1) := by decide +kernel
theorem dX10_beside_34 : decode cX10_beside 34 = .ok (.goto 13, 3) := by decide +kernel
theorem dX10_beside_37 : decode cX10_beside 37 = .ok (.iload_n 2, 1) := by decide +kernel
theorem dX10_beside_38 : decode cX10_beside 38 = .ok (.iconst 3, 1) := by decide +kernel
theorem dX10_beside_39 : decode cX10_beside 39 = .ok (.if_icmp .ne 7, 3) := by decide +kernel
theorem dX10_beside_42 : decode cX10_beside 42 = .ok (.iconst (-1), 1) := by decide +kernel
theorem dX10_beside_43 : decode cX10_beside 43 = .ok (.goto 4, 3) := by decide +kernel
theorem dX10_beside_46 : decode cX10_beside 46 = .ok (.iconst 0, 1) := by decide +kernel
theorem dX10_beside_47 : decode cX10_beside 47 = .ok (.iadd, 1) := by decide +kernel
theorem dX10_beside_48 : decode cX10_beside 48 = .ok (.istore 4, 2) := by decide +kernel
theorem dX10_beside_50 : decode cX10_beside 50 = .ok (.iload_n 3, 1) := by decide +kernel
theorem dX10_beside_51 : decode cX10_beside 51 = .ok (.i2l, 1) := by decide +kernel
theorem dX10_beside_52 : decode cX10_beside 52 = .ok (.lconst 0, 1) := by decide +kernel
theorem dX10_beside_53 : decode cX10_beside 53 = .ok (.aload_n 0, 1) := by decide +kernel
theorem dX10_beside_54 : decode cX10_beside 54 = .ok (.getfield 13, 3) := by decide +kernel
theorem dX10_beside_57 : decode cX10_beside 57 = .ok (.iconst 1, 1) := by decide +kernel
theorem dX10_beside_58 : decode cX10_beside 58 = .ok (.isub, 1) := by decide +kernel
theorem dX10_beside_59 : decode cX10_beside 59 = .ok (.i2l, 1) := by decide +kernel
theorem dX10_beside_60 : decode cX10_beside 60 = .ok (.invokestatic 84, 3) := by decide +kernel
theorem dX10_beside_63 : decode cX10_beside 63 = .ok (.ifCond .eq 30, 3) := by decide +kernel
theorem dX10_beside_66 : decode cX10_beside 66 = .ok (.iload 4, 2) := by decide +kernel
theorem dX10_beside_68 : decode cX10_beside 68 = .ok (.i2l, 1) := by decide +kernel
theorem dX10_beside_69 : decode cX10_beside 69 = .ok (.lconst 0, 1) := by decide +kernel
theorem dX10_beside_70 : decode cX10_beside 70 = .ok (.aload_n 0, 1) := by decide +kernel
theorem dX10_beside_71 : decode cX10_beside 71 = .ok (.getfield 17, 3) := by decide +kernel
theorem dX10_beside_74 : decode cX10_beside 74 = .ok (.iconst 1, 1) := by decide +kernel
theorem dX10_beside_75 : decode cX10_beside 75 = .ok (.isub, 1) := by decide +kernel
theorem dX10_beside_76 : decode cX10_beside 76 = .ok (.i2l, 1) := by decide +kernel
theorem dX10_beside_77 : decode cX10_beside 77 = .ok (.invokestatic 84, 3) := by decide +kernel
theorem dX10_beside_80 : decode cX10_beside 80 = .ok (.ifCond .eq 13, 3) := by decide +kernel
theorem dX10_beside_83 : decode cX10_beside 83 = .ok (.bipush 6, 2) := by decide +kernel
theorem dX10_beside_85 : decode cX10_beside 85 = .ok (.iload_n 3, 1) := by decide +kernel
theorem dX10_beside_86 : decode cX10_beside 86 = .ok (.imul, 1) := by decide +kernel
theorem dX10_beside_87 : decode cX10_beside 87 = .ok (.iload 4, 2) := by decide +kernel
theorem dX10_beside_89 : decode cX10_beside 89 = .ok (.iadd, 1) := by decide +kernel
theorem dX10_beside_90 : decode cX10_beside 90 = .ok (.goto 5, 3) := by decide +kernel
theorem dX10_beside_93 : decode cX10_beside 93 = .ok (.bipush (-9), 2) := by decide +kernel
theorem dX10_beside_95 : decode cX10_beside 95 = .ok (.ireturn, 1) := by decide +kernel
set_option maxRecDepth 20000 in
theorem ggX10_isOpen_X10_beside : GoodIn wsX10_isOpen wsX10_beside := goodIn_r _ [7, 8, 9, 10, 11, 6, 12, 13, 14, 15, 16, 17, 18, 19, 20, 21, 22, 23, 24, 25, 26, 27, 28, 29, 30, 31, 32, 33, 34, 35, 36, 37, 38, 39, 40, 41, 42, 43, 44, 45, 46] (by decide +kernel) (by decide +kernel)
set_option maxRecDepth 20000 in
theorem gX10_isOpen_X10_beside : GoodIn wsX10_isOpen (wsV RX10 113 RX10 yX10_beside wsX10_beside) := goodIn_app (goodIn_of _ (by decide +kernel)) ggX10_isOpen_X10_beside
theorem dX10_isOpen_0 : decode cX10_isOpen 0 = .ok (.aload_n 0, 1) := by decide +kernel
theorem dX10_isOpen_1 : decode cX10_isOpen 1 = .ok (.iload_n 1, 1) := by decide +kernel
theorem dX10_isOpen_2 : decode cX10_isOpen 2 = .ok (.iload_n 2, 1) := by decide +kernel
theorem dX10_isOpen_3 : decode cX10_isOpen 3 = .ok (.invokevirtual 113, 3) := by decide +kernel
theorem dX10_isOpen_6 : decode cX10_isOpen 6 = .ok (.istore_n 3, 1) := by decide +kernel
theorem dX10_isOpen_7 : decode cX10_isOpen 7 = .ok (.iload_n 3, 1) := by decide +kernel
theorem dX10_isOpen_8 : decode cX10_isOpen 8 = .ok (.bipush (-9), 2) := by decide +kernel
theorem dX10_isOpen_10 : decode cX10_isOpen 10 = .ok (.if_icmp .ne 5, 3) := by decide +kernel
theorem dX10_isOpen_13 : decode cX10_isOpen 13 = .ok (.iconst 0, 1) := by decide +kernel
theorem dX10_isOpen_14 : decode cX10_isOpen 14 = .ok (.ireturn, 1) := by decide +kernel
theorem dX10_isOpen_15 : decode cX10_isOpen 15 = .ok (.iload_n 2, 1) := by decide +kernel
theorem dX10_isOpen_16 : decode cX10_isOpen 16 = .ok (.iconst 1, 1) := by decide +kernel
theorem dX10_isOpen_17 : decode cX10_isOpen 17 = .ok (.if_icmp .ne 12, 3) := by decide +kernel
theorem dX10_isOpen_20 : decode cX10_isOpen 20 = .ok (.aload_n 0, 1) := by decide +kernel
theorem dX10_isOpen_21 : decode cX10_isOpen 21 = .ok (.getfield 20, 3) := by decide +kernel
theorem dX10_isOpen_24 : decode cX10_isOpen 24 = .ok (.iload_n 1, 1) := by decide +kernel
theorem dX10_isOpen_25 : decode cX10_isOpen 25 = .ok (.baload, 1) := by decide +kernel
theorem dX10_isOpen_26 : decode cX10_isOpen 26 = .ok (.goto 37, 3) := by decide +kernel
theorem dX10_isOpen_29 : decode cX10_isOpen 29 = .ok (.iload_n 2, 1) := by decide +kernel
theorem dX10_isOpen_30 : decode cX10_isOpen 30 = .ok (.iconst 2, 1) := by decide +kernel
theorem dX10_isOpen_31 : decode cX10_isOpen 31 = .ok (.if_icmp .ne 12, 3) := by decide +kernel
theorem dX10_isOpen_34 : decode cX10_isOpen 34 = .ok (.aload_n 0, 1) := by decide +kernel
theorem dX10_isOpen_35 : decode cX10_isOpen 35 = .ok (.getfield 24, 3) := by decide +kernel
theorem dX10_isOpen_38 : decode cX10_isOpen 38 = .ok (.iload_n 1, 1) := by decide +kernel
theorem dX10_isOpen_39 : decode cX10_isOpen 39 = .ok (.baload, 1) := by decide +kernel
theorem dX10_isOpen_40 : decode cX10_isOpen 40 = .ok (.goto 23, 3) := by decide +kernel
theorem dX10_isOpen_43 : decode cX10_isOpen 43 = .ok (.iload_n 2, 1) := by decide +kernel
theorem dX10_isOpen_44 : decode cX10_isOpen 44 = .ok (.iconst 3, 1) := by decide +kernel
theorem dX10_isOpen_45 : decode cX10_isOpen 45 = .ok (.if_icmp .ne 12, 3) := by decide +kernel
theorem dX10_isOpen_48 : decode cX10_isOpen 48 = .ok (.aload_n 0, 1) := by decide +kernel
theorem dX10_isOpen_49 : decode cX10_isOpen 49 = .ok (.getfield 20, 3) := by decide +kernel
theorem dX10_isOpen_52 : decode cX10_isOpen 52 = .ok (.iload_n 3, 1) := by decide +kernel
theorem dX10_isOpen_53 : decode cX10_isOpen 53 = .ok (.baload, 1) := by decide +kernel
theorem dX10_isOpen_54 : decode cX10_isOpen 54 = .ok (.goto 9, 3) := by decide +kernel
theorem dX10_isOpen_57 : decode cX10_isOpen 57 = .ok (.aload_n 0, 1) := by decide +kernel
theorem dX10_isOpen_58 : decode cX10_isOpen 58 = .ok (.getfield 24, 3) := by decide +kernel
theorem dX10_isOpen_61 : decode cX10_isOpen 61 = .ok (.iload_n 3, 1) := by decide +kernel
theorem dX10_isOpen_62 : decode cX10_isOpen 62 = .ok (.baload, 1) := by decide +kernel
theorem dX10_isOpen_63 : decode cX10_isOpen 63 = .ok (.ireturn, 1) := by decide +kernel
set_option maxRecDepth 20000 in
theorem ggX10_set_X10_beside : GoodIn wsX10_set wsX10_beside := goodIn_r _ [7, 8, 9, 10, 11, 6, 12, 13, 14, 15, 16, 17, 18, 19, 20, 21, 22, 23, 24, 25, 26, 27, 28, 29, 30, 31, 32, 33, 34, 35, 36, 37, 38, 39, 40, 41, 42, 43, 44, 45, 46] (by decide +kernel) (by decide +kernel)
set_option maxRecDepth 20000 in
theorem gX10_set_X10_beside : GoodIn wsX10_set (wsV RX10 113 RX10 yX10_beside wsX10_beside) := goodIn_app (goodIn_of _ (by decide +kernel)) ggX10_set_X10_beside
theorem dX10_set_0 : decode cX10_set 0 = .ok (.aload_n 0, 1) := by decide +kernel
theorem dX10_set_1 : decode cX10_set 1 = .ok (.iload_n 1, 1) := by decide +kernel
theorem dX10_set_2 : decode cX10_set 2 = .ok (.iload_n 2, 1) := by decide +kernel
theorem dX10_set_3 : decode cX10_set 3 = .ok (.invokevirtual 113, 3) := by decide +kernel
theorem dX10_set_6 : decode cX10_set 6 = .ok (.istore 4, 2) := by decide +kernel
theorem dX10_set_8 : decode cX10_set 8 = .ok (.iload_n 2, 1) := by decide +kernel
theorem dX10_set_9 : decode cX10_set 9 = .ok (.iconst 1, 1) := by decide +kernel
theorem dX10_set_10 : decode cX10_set 10 = .ok (.if_icmp .ne 13, 3) := by decide +kernel
theorem dX10_set_13 : decode cX10_set 13 = .ok (.aload_n 0, 1) := by decide +kernel
theorem dX10_set_14 : decode cX10_set 14 = .ok (.getfield 20, 3) := by decide +kernel
theorem dX10_set_17 : decode cX10_set 17 = .ok (.iload_n 1, 1) := by decide +kernel
theorem dX10_set_18 : decode cX10_set 18 = .ok (.iload_n 3, 1) := by decide +kernel
theorem dX10_set_19 : decode cX10_set 19 = .ok (.bastore, 1) := by decide +kernel
theorem dX10_set_20 : decode cX10_set 20 = .ok (.goto 42, 3) := by decide +kernel
theorem dX10_set_23 : decode cX10_set 23 = .ok (.iload_n 2, 1) := by decide +kernel
theorem dX10_set_24 : decode cX10_set 24 = .ok (.iconst 2, 1) := by decide +kernel
theorem dX10_set_25 : decode cX10_set 25 = .ok (.if_icmp .ne 13, 3) := by decide +kernel
theorem dX10_set_28 : decode cX10_set 28 = .ok (.aload_n 0, 1) := by decide +kernel
theorem dX10_set_29 : decode cX10_set 29 = .ok (.getfield 24, 3) := by decide +kernel
theorem dX10_set_32 : decode cX10_set 32 = .ok (.iload_n 1, 1) := by decide +kernel
theorem dX10_set_33 : decode cX10_set 33 = .ok (.iload_n 3, 1) := by decide +kernel
theorem dX10_set_34 : decode cX10_set 34 = .ok (.bastore, 1) := by decide +kernel
theorem dX10_set_35 : decode cX10_set 35 = .ok (.goto 27, 3) := by decide +kernel
theorem dX10_set_38 : decode cX10_set 38 = .ok (.iload_n 2, 1) := by decide +kernel
theorem dX10_set_39 : decode cX10_set 39 = .ok (.iconst 3, 1) := by decide +kernel
theorem dX10_set_40 : decode cX10_set 40 = .ok (.if_icmp .ne 14, 3) := by decide +kernel
theorem dX10_set_43 : decode cX10_set 43 = .ok (.aload_n 0, 1) := by decide +kernel
theorem dX10_set_44 : decode cX10_set 44 = .ok (.getfield 20, 3) := by decide +kernel
theorem dX10_set_47 : decode cX10_set 47 = .ok (.iload 4, 2) := by decide +kernel
theorem dX10_set_49 : decode cX10_set 49 = .ok (.iload_n 3, 1) := by decide +kernel
theorem dX10_set_50 : decode cX10_set 50 = .ok (.bastore, 1) := by decide +kernel
theorem dX10_set_51 : decode cX10_set 51 = .ok (.goto 11, 3) := by decide +kernel
theorem dX10_set_54 : decode cX10_set 54 = .ok (.aload_n 0, 1) := by decide +kernel
theorem dX10_set_55 : decode cX10_set 55 = .ok (.getfield 24, 3) := by decide +kernel
theorem dX10_set_58 : decode cX10_set 58 = .ok (.iload 4, 2) := by decide +kernel
theorem dX10_set_60 : decode cX10_set 60 = .ok (.iload_n 3, 1) := by decide +kernel
theorem dX10_set_61 : decode cX10_set 61 = .ok (.bastore, 1) := by decide +kernel
theorem dX10_set_62 : decode cX10_set 62 = .ok (.return_, 1) := by decide +kernel
theorem dX10_next_0 : decode cX10_next 0 = .ok (.aload_n 0, 1) := by decide +kernel
theorem dX10_next_1 : decode cX10_next 1 = .ok (.aload_n 0, 1) := by decide +kernel
theorem dX10_next_2 : decode cX10_next 2 = .ok (.getfield 117, 3) := by decide +kernel
theorem dX10_next_5 : decode cX10_next 5 = .ok (.ldc2_w 121, 3) := by decide +kernel
theorem dX10_next_8 : decode cX10_next 8 = .ok (.lmul, 1) := by decide +kernel
theorem dX10_next_9 : decode cX10_next 9 = .ok (.ldc2_w 123, 3) := by decide +kernel
theorem dX10_next_12 : decode cX10_next 12 = .ok (.ladd, 1) := by decide +kernel
theorem dX10_next_13 : decode cX10_next 13 = .ok (.putfield 117, 3) := by decide +kernel
theorem dX10_next_16 : decode cX10_next 16 = .ok (.aload_n 0, 1) := by decide +kernel
theorem dX10_next_17 : decode cX10_next 17 = .ok (.getfield 117, 3) := by decide +kernel
theorem dX10_next_20 : decode cX10_next 20 = .ok (.bipush 33, 2) := by decide +kernel
theorem dX10_next_22 : decode cX10_next 22 = .ok (.lushr, 1) := by decide +kernel
theorem dX10_next_23 : decode cX10_next 23 = .ok (.iload_n 1, 1) := by decide +kernel
theorem dX10_next_24 : decode cX10_next 24 = .ok (.i2l, 1) := by decide +kernel
theorem dX10_next_25 : decode cX10_next 25 = .ok (.lrem, 1) := by decide +kernel
theorem dX10_next_26 : decode cX10_next 26 = .ok (.l2i, 1) := by decide +kernel
theorem dX10_next_27 : decode cX10_next 27 = .ok (.ireturn, 1) := by decide +kernel
set_option maxRecDepth 20000 in
theorem ggX10_makeList_X10_isThere : GoodIn wsX10_makeList wsX10_isThere := goodIn_r _ [7, 8, 9, 45, 46, 47, 48, 49, 50, 51, 52, 53, 54, 55, 56, 57, 58, 59, 60, 61, 62, 63, 64, 65, 66, 67, 68, 69, 70, 71, 72, 73, 74, 75, 76, 77, 78] (by decide +kernel) (by decide +kernel)
set_option maxRecDepth 20000 in
theorem gX10_makeList_X10_isThere : GoodIn wsX10_makeList (wsV RX10 125 RX10 yX10_isThere wsX10_isThere) := goodIn_app (goodIn_of _ (by decide +kernel)) ggX10_makeList_X10_isThere
set_option maxRecDepth 20000 in
theorem ggX10_makeList_X10_beside : GoodIn wsX10_makeList wsX10_beside := goodIn_r _ [13, 8, 9, 14, 15, 6, 16, 45, 46, 47, 48, 49, 50, 51, 52, 53, 54, 55, 56, 57, 58, 59, 60, 61, 62, 63, 64, 65, 66, 67, 68, 69, 70, 71, 72, 73, 74, 75, 76, 77, 78] (by decide +kernel) (by decide +kernel)
set_option maxRecDepth 20000 in
theorem gX10_makeList_X10_beside : GoodIn wsX10_makeList (wsV RX10 113 RX10 yX10_beside wsX10_beside) := goodIn_app (goodIn_of _ (by decide +kernel)) ggX10_makeList_X10_beside
set_option maxRecDepth 20000 in
theorem ggX10_makeList_X10_next : GoodIn wsX10_makeList wsX10_next := goodIn_r _ [20, 21, 22, 23, 45, 46, 47, 48, 49, 50, 51, 52, 53, 54, 55, 56, 57, 58, 59, 60, 61, 62, 63, 64, 65, 66, 67, 68, 69, 70, 71, 72, 73, 74, 75, 76, 77, 78] (by decide +kernel) (by decide +kernel)
set_option maxRecDepth 20000 in
theorem gX10_makeList_X10_next : GoodIn wsX10_makeList (wsV RX10 129 RX10 yX10_next wsX10_next) := goodIn_app (goodIn_of _ (by decide +kernel)) ggX10_makeList_X10_next
set_option maxRecDepth 20000 in
theorem ggX10_makeList_X10_layParts : GoodIn wsX10_makeList wsX10_layParts := goodIn_r _ [27, 2, 28, 3, 4, 5, 6, 7, 8, 9, 29, 30, 31, 32, 33, 34, 35, 36, 37, 38, 39, 40, 10, 11, 12, 13, 14, 15, 16, 45, 46, 47, 48, 49, 50, 51, 52, 53, 54, 55, 56, 57, 58, 59, 60, 61, 62, 63, 64, 65, 66, 67, 68, 69, 70, 71, 72, 73, 74, 75, 76, 77, 78] (by decide +kernel) (by decide +kernel)
set_option maxRecDepth 20000 in
theorem gX10_makeList_X10_layParts : GoodIn wsX10_makeList (wsV RX10 133 RX10 yX10_layParts wsX10_layParts) := goodIn_app (goodIn_of _ (by decide +kernel)) ggX10_makeList_X10_layParts
set_option maxRecDepth 20000 in
theorem ggX10_makeList_X10_set : GoodIn wsX10_makeList wsX10_set := goodIn_r _ [44, 39, 40, 10, 11, 12, 6, 13, 8, 9, 14, 15, 16, 45, 46, 47, 48, 49, 50, 51, 52, 53, 54, 55, 56, 57, 58, 59, 60, 61, 62, 63, 64, 65, 66, 67, 68, 69, 70, 71, 72, 73, 74, 75, 76, 77, 78] (by decide +kernel) (by decide +kernel)
set_option maxRecDepth 20000 in
theorem gX10_makeList_X10_set : GoodIn wsX10_makeList (wsV RX10 136 RX10 yX10_set wsX10_set) := goodIn_app (goodIn_of _ (by decide +kernel)) ggX10_makeList_X10_set
theorem dX10_makeList_0 : decode cX10_makeList 0 = .ok (.iconst 0, 1) := by decide +kernel
theorem dX10_makeList_1 : decode cX10_makeList 1 = .ok (.istore_n 1, 1) := by decide +kernel
theorem dX10_makeList_2 : decode cX10_makeList 2 = .ok (.iconst 0, 1) := by decide +kernel
theorem dX10_makeList_3 : decode cX10_makeList 3 = .ok (.istore_n 2, 1) := by decide +kernel
theorem dX10_makeList_4 : decode cX10_makeList 4 = .ok (.iload_n 2, 1) := by decide +kernel
theorem dX10_makeList_5 : decode cX10_makeList 5 = .ok (.bipush 36, 2) := by decide +kernel
theorem dX10_makeList_7 : decode cX10_makeList 7 = .ok (.if_icmp .ge 55, 3) := by decide +kernel
theorem dX10_makeList_10 : decode cX10_makeList 10 = .ok (.iconst 1, 1) := by decide +kernel
theorem dX10_makeList_11 : decode cX10_makeList 11 = .ok (.istore_n 3, 1) := by decide +kernel
theorem dX10_makeList_12 : decode cX10_makeList 12 = .ok (.iload_n 3, 1) := by decide +kernel
theorem dX10_makeList_13 : decode cX10_makeList 13 = .ok (.iconst 3, 1) := by decide +kernel
theorem dX10_makeList_14 : decode cX10_makeList 14 = .ok (.if_icmp .ge 42, 3) := by decide +kernel
theorem dX10_makeList_17 : decode cX10_makeList 17 = .ok (.aload_n 0, 1) := by decide +kernel
theorem dX10_makeList_18 : decode cX10_makeList 18 = .ok (.iload_n 2, 1) := by decide +kernel
theorem dX10_makeList_19 : decode cX10_makeList 19 = .ok (.invokevirtual 125, 3) := by decide +kernel
theorem dX10_makeList_22 : decode cX10_makeList 22 = .ok (.ifCond .eq 28, 3) := by decide +kernel
theorem dX10_makeList_25 : decode cX10_makeList 25 = .ok (.aload_n 0, 1) := by decide +kernel
theorem dX10_makeList_26 : decode cX10_makeList 26 = .ok (.iload_n 2, 1) := by decide +kernel
theorem dX10_makeList_27 : decode cX10_makeList 27 = .ok (.iload_n 3, 1) := by decide +kernel
theorem dX10_makeList_28 : decode cX10_makeList 28 = .ok (.invokevirtual 113, 3) := by decide +kernel
theorem dX10_makeList_31 : decode cX10_makeList 31 = .ok (.bipush (-9), 2) := by decide +kernel
theorem dX10_makeList_33 : decode cX10_makeList 33 = .ok (.if_icmp .eq 17, 3) := by decide +kernel
theorem dX10_makeList_36 : decode cX10_makeList 36 = .ok (.aload_n 0, 1) := by decide +kernel
theorem dX10_makeList_37 : decode cX10_makeList 37 = .ok (.getfield 73, 3) := by decide +kernel
theorem dX10_makeList_40 : decode cX10_makeList 40 = .ok (.iload_n 1, 1) := by decide +kernel
theorem dX10_makeList_41 : decode cX10_makeList 41 = .ok (.iconst 4, 1) := by decide +kernel
theorem dX10_makeList_42 : decode cX10_makeList 42 = .ok (.iload_n 2, 1) := by decide +kernel
theorem dX10_makeList_43 : decode cX10_makeList 43 = .ok (.imul, 1) := by decide +kernel
theorem dX10_makeList_44 : decode cX10_makeList 44 = .ok (.iload_n 3, 1) := by decide +kernel
theorem dX10_makeList_45 : decode cX10_makeList 45 = .ok (.iadd, 1) := by decide +kernel
theorem dX10_makeList_46 : decode cX10_makeList 46 = .ok (.iastore, 1) := by decide +kernel
theorem dX10_makeList_47 : decode cX10_makeList 47 = .ok (.iinc 1 1, 3) := by decide +kernel
theorem dX10_makeList_50 : decode cX10_makeList 50 = .ok (.iinc 3 1, 3) := by decide +kernel
theorem dX10_makeList_53 : decode cX10_makeList 53 = .ok (.goto (-41), 3) := by decide +kernel
theorem dX10_makeList_56 : decode cX10_makeList 56 = .ok (.iinc 2 1, 3) := by decide +kernel
theorem dX10_makeList_59 : decode cX10_makeList 59 = .ok (.goto (-55), 3) := by decide +kernel
theorem dX10_makeList_62 : decode cX10_makeList 62 = .ok (.iload_n 1, 1) := by decide +kernel
theorem dX10_makeList_63 : decode cX10_makeList 63 = .ok (.iconst 1, 1) := by decide +kernel
theorem dX10_makeList_64 : decode cX10_makeList 64 = .ok (.isub, 1) := by decide +kernel
theorem dX10_makeList_65 : decode cX10_makeList 65 = .ok (.istore_n 2, 1) := by decide +kernel
theorem dX10_makeList_66 : decode cX10_makeList 66 = .ok (.iload_n 2, 1) := by decide +kernel
theorem dX10_makeList_67 : decode cX10_makeList 67 = .ok (.ifCond .le 45, 3) := by decide +kernel
theorem dX10_makeList_70 : decode cX10_makeList 70 = .ok (.aload_n 0, 1) := by decide +kernel
theorem dX10_makeList_71 : decode cX10_makeList 71 = .ok (.iload_n 2, 1) := by decide +kernel
theorem dX10_makeList_72 : decode cX10_makeList 72 = .ok (.iconst 1, 1) := by decide +kernel
theorem dX10_makeList_73 : decode cX10_makeList 73 = .ok (.iadd, 1) := by decide +kernel
theorem dX10_makeList_74 : decode cX10_makeList 74 = .ok (.invokevirtual 129, 3) := by decide +kernel
theorem dX10_makeList_77 : decode cX10_makeList 77 = .ok (.istore_n 3, 1) := by decide +kernel
theorem dX10_makeList_78 : decode cX10_makeList 78 = .ok (.aload_n 0, 1) := by decide +kernel
theorem dX10_makeList_79 : decode cX10_makeList 79 = .ok (.getfield 73, 3) := by decide +kernel
theorem dX10_makeList_82 : decode cX10_makeList 82 = .ok (.iload_n 2, 1) := by decide +kernel
theorem dX10_makeList_83 : decode cX10_makeList 83 = .ok (.iaload, 1) := by decide +kernel
theorem dX10_makeList_84 : decode cX10_makeList 84 = .ok (.istore 4, 2) := by decide +kernel
theorem dX10_makeList_86 : decode cX10_makeList 86 = .ok (.aload_n 0, 1) := by decide +kernel
theorem dX10_makeList_87 : decode cX10_makeList 87 = .ok (.getfield 73, 3) := by decide +kernel
theorem dX10_makeList_90 : decode cX10_makeList 90 = .ok (.iload_n 2, 1) := by decide +kernel
theorem dX10_makeList_91 : decode cX10_makeList 91 = .ok (.aload_n 0, 1) := by decide +kernel
theorem dX10_makeList_92 : decode cX10_makeList 92 = .ok (.getfield 73, 3) := by decide +kernel
theorem dX10_makeList_95 : decode cX10_makeList 95 = .ok (.iload_n 3, 1) := by decide +kernel
theorem dX10_makeList_96 : decode cX10_makeList 96 = .ok (.iaload, 1) := by decide +kernel
theorem dX10_makeList_97 : decode cX10_makeList 97 = .ok (.iastore, 1) := by decide +kernel
theorem dX10_makeList_98 : decode cX10_makeList 98 = .ok (.aload_n 0, 1) := by decide +kernel
theorem dX10_makeList_99 : decode cX10_makeList 99 = .ok (.getfield 73, 3) := by decide +kernel
theorem dX10_makeList_102 : decode cX10_makeList 102 = .ok (.iload_n 3, 1) := by decide +kernel
theorem dX10_makeList_103 : decode cX10_makeList 103 = .ok (.iload 4, 2) := by decide +kernel
theorem dX10_makeList_105 : decode cX10_makeList 105 = .ok (.iastore, 1) := by decide +kernel
theorem dX10_makeList_106 : decode cX10_makeList 106 = .ok (.iinc 2 (-1), 3) := by decide +kernel
theorem dX10_makeList_109 : decode cX10_makeList 109 = .ok (.goto (-43), 3) := by decide +kernel
theorem dX10_makeList_112 : decode cX10_makeList 112 = .ok (.iconst 0, 1) := by decide +kernel
theorem dX10_makeList_113 : decode cX10_makeList 113 = .ok (.istore_n 2, 1) := by decide +kernel
theorem dX10_makeList_114 : decode cX10_makeList 114 = .ok (.iload_n 2, 1) := by decide +kernel
theorem dX10_makeList_115 : decode cX10_makeList 115 = .ok (.iload_n 1, 1) := by decide +kernel
theorem dX10_makeList_116 : decode cX10_makeList 116 = .ok (.if_icmp .ge 62, 3) := by decide +kernel
theorem dX10_makeList_119 : decode cX10_makeList 119 = .ok (.aload_n 0, 1) := by decide +kernel
theorem dX10_makeList_120 : decode cX10_makeList 120 = .ok (.getfield 73, 3) := by decide +kernel
theorem dX10_makeList_123 : decode cX10_makeList 123 = .ok (.iload_n 2, 1) := by decide +kernel
theorem dX10_makeList_124 : decode cX10_makeList 124 = .ok (.iaload, 1) := by decide +kernel
theorem dX10_makeList_125 : decode cX10_makeList 125 = .ok (.iconst 4, 1) := by decide +kernel
theorem dX10_makeList_126 : decode cX10_makeList 126 = .ok (.idiv, 1) := by decide +kernel
theorem dX10_makeList_127 : decode cX10_makeList 127 = .ok (.istore_n 3, 1) := by decide +kernel
theorem dX10_makeList_128 : decode cX10_makeList 128 = .ok (.aload_n 0, 1) := by decide +kernel
theorem dX10_makeList_129 : decode cX10_makeList 129 = .ok (.getfield 73, 3) := by decide +kernel
theorem dX10_makeList_132 : decode cX10_makeList 132 = .ok (.iload_n 2, 1) := by decide +kernel
theorem dX10_makeList_133 : decode cX10_makeList 133 = .ok (.iaload, 1) := by decide +kernel
theorem dX10_makeList_134 : decode cX10_makeList 134 = .ok (.iconst 4, 1) := by decide +kernel
theorem dX10_makeList_135 : decode cX10_makeList 135 = .ok (.irem, 1) := by decide +kernel
theorem dX10_makeList_136 : decode cX10_makeList 136 = .ok (.istore 4, 2) := by decide +kernel
theorem dX10_makeList_138 : decode cX10_makeList 138 = .ok (.aload_n 0, 1) := by decide +kernel
theorem dX10_makeList_139 : decode cX10_makeList 139 = .ok (.invokevirtual 133, 3) := by decide +kernel
theorem dX10_makeList_142 : decode cX10_makeList 142 = .ok (.pop, 1) := by decide +kernel
theorem dX10_makeList_143 : decode cX10_makeList 143 = .ok (.aload_n 0, 1) := by decide +kernel
theorem dX10_makeList_144 : decode cX10_makeList 144 = .ok (.getfield 52, 3) := by decide +kernel
theorem dX10_makeList_147 : decode cX10_makeList 147 = .ok (.iload_n 3, 1) := by decide +kernel
theorem dX10_makeList_148 : decode cX10_makeList 148 = .ok (.iaload, 1) := by decide +kernel
theorem dX10_makeList_149 : decode cX10_makeList 149 = .ok (.aload_n 0, 1) := by decide +kernel
theorem dX10_makeList_150 : decode cX10_makeList 150 = .ok (.getfield 52, 3) := by decide +kernel
theorem dX10_makeList_153 : decode cX10_makeList 153 = .ok (.aload_n 0, 1) := by decide +kernel
theorem dX10_makeList_154 : decode cX10_makeList 154 = .ok (.iload_n 3, 1) := by decide +kernel
theorem dX10_makeList_155 : decode cX10_makeList 155 = .ok (.iload 4, 2) := by decide +kernel
theorem dX10_makeList_157 : decode cX10_makeList 157 = .ok (.invokevirtual 113, 3) := by decide +kernel
theorem dX10_makeList_160 : decode cX10_makeList 160 = .ok (.iaload, 1) := by decide +kernel
theorem dX10_makeList_161 : decode cX10_makeList 161 = .ok (.if_icmp .eq 11, 3) := by decide +kernel
theorem dX10_makeList_164 : decode cX10_makeList 164 = .ok (.aload_n 0, 1) := by decide +kernel
theorem dX10_makeList_165 : decode cX10_makeList 165 = .ok (.iload_n 3, 1) := by decide +kernel
theorem dX10_makeList_166 : decode cX10_makeList 166 = .ok (.iload 4, 2) := by decide +kernel
theorem dX10_makeList_168 : decode cX10_makeList 168 = .ok (.iconst 1, 1) := by decide +kernel
theorem dX10_makeList_169 : decode cX10_makeList 169 = .ok (.invokevirtual 136, 3) := by decide +kernel
theorem dX10_makeList_172 : decode cX10_makeList 172 = .ok (.iinc 2 1, 3) := by decide +kernel
theorem dX10_makeList_175 : decode cX10_makeList 175 = .ok (.goto (-61), 3) := by decide +kernel
theorem dX10_makeList_178 : decode cX10_makeList 178 = .ok (.return_, 1) := by decide +kernel
set_option maxRecDepth 20000 in
theorem ggX10_freshSides_X10_beside : GoodIn wsX10_freshSides wsX10_beside := goodIn_r _ [6, 7, 8, 9, 10, 5, 11, 12, 13, 14, 15, 16, 17, 18, 19, 20, 21, 22, 23, 24, 25, 26, 27, 28, 29, 30, 31, 32, 33, 34, 35, 36, 37, 38, 39, 40, 41, 42, 43, 44, 45] (by decide +kernel) (by decide +kernel)
set_option maxRecDepth 20000 in
theorem gX10_freshSides_X10_beside : GoodIn wsX10_freshSides (wsV RX10 113 RX10 yX10_beside wsX10_beside) := goodIn_app (goodIn_of _ (by decide +kernel)) ggX10_freshSides_X10_beside
theorem dX10_freshSides_0 : decode cX10_freshSides 0 = .ok (.iconst 0, 1) := by decide +kernel
theorem dX10_freshSides_1 : decode cX10_freshSides 1 = .ok (.istore_n 2, 1) := by decide +kernel
theorem dX10_freshSides_2 : decode cX10_freshSides 2 = .ok (.iconst 0, 1) := by decide +kernel
theorem dX10_freshSides_3 : decode cX10_freshSides 3 = .ok (.istore_n 3, 1) := by decide +kernel
theorem dX10_freshSides_4 : decode cX10_freshSides 4 = .ok (.iload_n 3, 1) := by decide +kernel
theorem dX10_freshSides_5 : decode cX10_freshSides 5 = .ok (.iconst 4, 1) := by decide +kernel
theorem dX10_freshSides_6 : decode cX10_freshSides 6 = .ok (.if_icmp .ge 42, 3) := by decide +kernel
theorem dX10_freshSides_9 : decode cX10_freshSides 9 = .ok (.iload_n 2, 1) := by decide +kernel
theorem dX10_freshSides_10 : decode cX10_freshSides 10 = .ok (.aload_n 0, 1) := by decide +kernel
theorem dX10_freshSides_11 : decode cX10_freshSides 11 = .ok (.iload_n 1, 1) := by decide +kernel
theorem dX10_freshSides_12 : decode cX10_freshSides 12 = .ok (.iload_n 3, 1) := by decide +kernel
theorem dX10_freshSides_13 : decode cX10_freshSides 13 = .ok (.invokevirtual 113, 3) := by decide +kernel
theorem dX10_freshSides_16 : decode cX10_freshSides 16 = .ok (.bipush (-9), 2) := by decide +kernel
theorem dX10_freshSides_18 : decode cX10_freshSides 18 = .ok (.if_icmp .eq 21, 3) := by decide +kernel
theorem dX10_freshSides_21 : decode cX10_freshSides 21 = .ok (.aload_n 0, 1) := by decide +kernel
theorem dX10_freshSides_22 : decode cX10_freshSides 22 = .ok (.getfield 58, 3) := by decide +kernel
theorem dX10_freshSides_25 : decode cX10_freshSides 25 = .ok (.aload_n 0, 1) := by decide +kernel
theorem dX10_freshSides_26 : decode cX10_freshSides 26 = .ok (.iload_n 1, 1) := by decide +kernel
theorem dX10_freshSides_27 : decode cX10_freshSides 27 = .ok (.iload_n 3, 1) := by decide +kernel
theorem dX10_freshSides_28 : decode cX10_freshSides 28 = .ok (.invokevirtual 113, 3) := by decide +kernel
theorem dX10_freshSides_31 : decode cX10_freshSides 31 = .ok (.baload, 1) := by decide +kernel
theorem dX10_freshSides_32 : decode cX10_freshSides 32 = .ok (.ifCond .ne 7, 3) := by decide +kernel
theorem dX10_freshSides_35 : decode cX10_freshSides 35 = .ok (.iconst 1, 1) := by decide +kernel
theorem dX10_freshSides_36 : decode cX10_freshSides 36 = .ok (.goto 4, 3) := by decide +kernel
theorem dX10_freshSides_39 : decode cX10_freshSides 39 = .ok (.iconst 0, 1) := by decide +kernel
theorem dX10_freshSides_40 : decode cX10_freshSides 40 = .ok (.iadd, 1) := by decide +kernel
theorem dX10_freshSides_41 : decode cX10_freshSides 41 = .ok (.istore_n 2, 1) := by decide +kernel
theorem dX10_freshSides_42 : decode cX10_freshSides 42 = .ok (.iinc 3 1, 3) := by decide +kernel
theorem dX10_freshSides_45 : decode cX10_freshSides 45 = .ok (.goto (-41), 3) := by decide +kernel
theorem dX10_freshSides_48 : decode cX10_freshSides 48 = .ok (.iload_n 2, 1) := by decide +kernel
theorem dX10_freshSides_49 : decode cX10_freshSides 49 = .ok (.ireturn, 1) := by decide +kernel
set_option maxRecDepth 20000 in
theorem ggX10_makePath_X10_freshSides : GoodIn wsX10_makePath wsX10_freshSides := goodIn_r _ [7, 1, 8, 9, 10, 6, 11, 12, 13, 14, 15, 16, 30, 31, 32, 33, 34, 35, 36, 37, 38, 39, 40, 41, 42, 43, 44, 45, 46, 47, 48, 49, 50, 51, 52, 53, 54, 55, 56, 57, 58, 59, 60, 61, 62, 63] (by decide +kernel) (by decide +kernel)
set_option maxRecDepth 20000 in
theorem gX10_makePath_X10_freshSides : GoodIn wsX10_makePath (wsV RX10 140 RX10 yX10_freshSides wsX10_freshSides) := goodIn_app (goodIn_of _ (by decide +kernel)) ggX10_makePath_X10_freshSides
set_option maxRecDepth 20000 in
theorem ggX10_makePath_X10_next : GoodIn wsX10_makePath wsX10_next := goodIn_r _ [20, 21, 22, 23, 30, 31, 32, 33, 34, 35, 36, 37, 38, 39, 40, 41, 42, 43, 44, 45, 46, 47, 48, 49, 50, 51, 52, 53, 54, 55, 56, 57, 58, 59, 60, 61, 62, 63] (by decide +kernel) (by decide +kernel)
set_option maxRecDepth 20000 in
theorem gX10_makePath_X10_next : GoodIn wsX10_makePath (wsV RX10 129 RX10 yX10_next wsX10_next) := goodIn_app (goodIn_of _ (by decide +kernel)) ggX10_makePath_X10_next
set_option maxRecDepth 20000 in
theorem ggX10_makePath_X10_beside : GoodIn wsX10_makePath wsX10_beside := goodIn_r _ [11, 12, 13, 14, 15, 6, 16, 30, 31, 32, 33, 34, 35, 36, 37, 38, 39, 40, 41, 42, 43, 44, 45, 46, 47, 48, 49, 50, 51, 52, 53, 54, 55, 56, 57, 58, 59, 60, 61, 62, 63] (by decide +kernel) (by decide +kernel)
set_option maxRecDepth 20000 in
theorem gX10_makePath_X10_beside : GoodIn wsX10_makePath (wsV RX10 113 RX10 yX10_beside wsX10_beside) := goodIn_app (goodIn_of _ (by decide +kernel)) ggX10_makePath_X10_beside
set_option maxRecDepth 20000 in
theorem ggX10_makePath_X10_set : GoodIn wsX10_makePath wsX10_set := goodIn_r _ [27, 28, 29, 8, 9, 10, 6, 11, 12, 13, 14, 15, 16, 30, 31, 32, 33, 34, 35, 36, 37, 38, 39, 40, 41, 42, 43, 44, 45, 46, 47, 48, 49, 50, 51, 52, 53, 54, 55, 56, 57, 58, 59, 60, 61, 62, 63] (by decide +kernel) (by decide +kernel)
set_option maxRecDepth 20000 in
theorem gX10_makePath_X10_set : GoodIn wsX10_makePath (wsV RX10 136 RX10 yX10_set wsX10_set) := goodIn_app (goodIn_of _ (by decide +kernel)) ggX10_makePath_X10_set
theorem dX10_makePath_0 : decode cX10_makePath 0 = .ok (.iconst 0, 1) := by decide +kernel
theorem dX10_makePath_1 : decode cX10_makePath 1 = .ok (.istore_n 1, 1) := by decide +kernel
theorem dX10_makePath_2 : decode cX10_makePath 2 = .ok (.iload_n 1, 1) := by decide +kernel
theorem dX10_makePath_3 : decode cX10_makePath 3 = .ok (.bipush 36, 2) := by decide +kernel
theorem dX10_makePath_5 : decode cX10_makePath 5 = .ok (.if_icmp .ge 16, 3) := by decide +kernel
theorem dX10_makePath_8 : decode cX10_makePath 8 = .ok (.aload_n 0, 1) := by decide +kernel
theorem dX10_makePath_9 : decode cX10_makePath 9 = .ok (.getfield 58, 3) := by decide +kernel
theorem dX10_makePath_12 : decode cX10_makePath 12 = .ok (.iload_n 1, 1) := by decide +kernel
theorem dX10_makePath_13 : decode cX10_makePath 13 = .ok (.iconst 0, 1) := by decide +kernel
theorem dX10_makePath_14 : decode cX10_makePath 14 = .ok (.bastore, 1) := by decide +kernel
theorem dX10_makePath_15 : decode cX10_makePath 15 = .ok (.iinc 1 1, 3) := by decide +kernel
theorem dX10_makePath_18 : decode cX10_makePath 18 = .ok (.goto (-16), 3) := by decide +kernel
theorem dX10_makePath_21 : decode cX10_makePath 21 = .ok (.iconst 0, 1) := by decide +kernel
theorem dX10_makePath_22 : decode cX10_makePath 22 = .ok (.istore_n 1, 1) := by decide +kernel
theorem dX10_makePath_23 : decode cX10_makePath 23 = .ok (.aload_n 0, 1) := by decide +kernel
theorem dX10_makePath_24 : decode cX10_makePath 24 = .ok (.getfield 58, 3) := by decide +kernel
theorem dX10_makePath_27 : decode cX10_makePath 27 = .ok (.iconst 0, 1) := by decide +kernel
theorem dX10_makePath_28 : decode cX10_makePath 28 = .ok (.iconst 1, 1) := by decide +kernel
theorem dX10_makePath_29 : decode cX10_makePath 29 = .ok (.bastore, 1) := by decide +kernel
theorem dX10_makePath_30 : decode cX10_makePath 30 = .ok (.aload_n 0, 1) := by decide +kernel
theorem dX10_makePath_31 : decode cX10_makePath 31 = .ok (.getfield 55, 3) := by decide +kernel
theorem dX10_makePath_34 : decode cX10_makePath 34 = .ok (.iconst 0, 1) := by decide +kernel
theorem dX10_makePath_35 : decode cX10_makePath 35 = .ok (.bipush (-9), 2) := by decide +kernel
theorem dX10_makePath_37 : decode cX10_makePath 37 = .ok (.iastore, 1) := by decide +kernel
theorem dX10_makePath_38 : decode cX10_makePath 38 = .ok (.iload_n 1, 1) := by decide +kernel
theorem dX10_makePath_39 : decode cX10_makePath 39 = .ok (.bipush (-9), 2) := by decide +kernel
theorem dX10_makePath_41 : decode cX10_makePath 41 = .ok (.if_icmp .eq 143, 3) := by decide +kernel
theorem dX10_makePath_44 : decode cX10_makePath 44 = .ok (.aload_n 0, 1) := by decide +kernel
theorem dX10_makePath_45 : decode cX10_makePath 45 = .ok (.iload_n 1, 1) := by decide +kernel
theorem dX10_makePath_46 : decode cX10_makePath 46 = .ok (.invokevirtual 140, 3) := by decide +kernel
theorem dX10_makePath_49 : decode cX10_makePath 49 = .ok (.istore_n 2, 1) := by decide +kernel
theorem dX10_makePath_50 : decode cX10_makePath 50 = .ok (.iload_n 2, 1) := by decide +kernel
theorem dX10_makePath_51 : decode cX10_makePath 51 = .ok (.ifCond .ne 13, 3) := by decide +kernel
theorem dX10_makePath_54 : decode cX10_makePath 54 = .ok (.aload_n 0, 1) := by decide +kernel
theorem dX10_makePath_55 : decode cX10_makePath 55 = .ok (.getfield 55, 3) := by decide +kernel
theorem dX10_makePath_58 : decode cX10_makePath 58 = .ok (.iload_n 1, 1) := by decide +kernel
theorem dX10_makePath_59 : decode cX10_makePath 59 = .ok (.iaload, 1) := by decide +kernel
theorem dX10_makePath_60 : decode cX10_makePath 60 = .ok (.istore_n 1, 1) := by decide +kernel
theorem dX10_makePath_61 : decode cX10_makePath 61 = .ok (.goto 120, 3) := by decide +kernel
theorem dX10_makePath_64 : decode cX10_makePath 64 = .ok (.aload_n 0, 1) := by decide +kernel
theorem dX10_makePath_65 : decode cX10_makePath 65 = .ok (.iload_n 2, 1) := by decide +kernel
theorem dX10_makePath_66 : decode cX10_makePath 66 = .ok (.invokevirtual 129, 3) := by decide +kernel
theorem dX10_makePath_69 : decode cX10_makePath 69 = .ok (.istore_n 3, 1) := by decide +kernel
theorem dX10_makePath_70 : decode cX10_makePath 70 = .ok (.iconst 0, 1) := by decide +kernel
theorem dX10_makePath_71 : decode cX10_makePath 71 = .ok (.istore 4, 2) := by decide +kernel
theorem dX10_makePath_73 : decode cX10_makePath 73 = .ok (.aload_n 0, 1) := by decide +kernel
theorem dX10_makePath_74 : decode cX10_makePath 74 = .ok (.iload_n 1, 1) := by decide +kernel
theorem dX10_makePath_75 : decode cX10_makePath 75 = .ok (.iload 4, 2) := by decide +kernel
theorem dX10_makePath_77 : decode cX10_makePath 77 = .ok (.invokevirtual 113, 3) := by decide +kernel
theorem dX10_makePath_80 : decode cX10_makePath 80 = .ok (.bipush (-9), 2) := by decide +kernel
theorem dX10_makePath_82 : decode cX10_makePath 82 = .ok (.if_icmp .eq 22, 3) := by decide +kernel
theorem dX10_makePath_85 : decode cX10_makePath 85 = .ok (.aload_n 0, 1) := by decide +kernel
theorem dX10_makePath_86 : decode cX10_makePath 86 = .ok (.getfield 58, 3) := by decide +kernel
theorem dX10_makePath_89 : decode cX10_makePath 89 = .ok (.aload_n 0, 1) := by decide +kernel
theorem dX10_makePath_90 : decode cX10_makePath 90 = .ok (.iload_n 1, 1) := by decide +kernel
theorem dX10_makePath_91 : decode cX10_makePath 91 = .ok (.iload 4, 2) := by decide +kernel
theorem dX10_makePath_93 : decode cX10_makePath 93 = .ok (.invokevirtual 113, 3) := by decide +kernel
theorem dX10_makePath_96 : decode cX10_makePath 96 = .ok (.baload, 1) := by decide +kernel
theorem dX10_makePath_97 : decode cX10_makePath 97 = .ok (.ifCond .ne 7, 3) := by decide +kernel
theorem dX10_makePath_100 : decode cX10_makePath 100 = .ok (.iload_n 3, 1) := by decide +kernel
theorem dX10_makePath_101 : decode cX10_makePath 101 = .ok (.ifCond .le 44, 3) := by decide +kernel
theorem dX10_makePath_104 : decode cX10_makePath 104 = .ok (.iload_n 3, 1) := by decide +kernel
theorem dX10_makePath_105 : decode cX10_makePath 105 = .ok (.aload_n 0, 1) := by decide +kernel
theorem dX10_makePath_106 : decode cX10_makePath 106 = .ok (.iload_n 1, 1) := by decide +kernel
theorem dX10_makePath_107 : decode cX10_makePath 107 = .ok (.iload 4, 2) := by decide +kernel
theorem dX10_makePath_109 : decode cX10_makePath 109 = .ok (.invokevirtual 113, 3) := by decide +kernel
theorem dX10_makePath_112 : decode cX10_makePath 112 = .ok (.bipush (-9), 2) := by decide +kernel
theorem dX10_makePath_114 : decode cX10_makePath 114 = .ok (.if_icmp .eq 22, 3) := by decide +kernel
theorem dX10_makePath_117 : decode cX10_makePath 117 = .ok (.aload_n 0, 1) := by decide +kernel
theorem dX10_makePath_118 : decode cX10_makePath 118 = .ok (.getfield 58, 3) := by decide +kernel
theorem dX10_makePath_121 : decode cX10_makePath 121 = .ok (.aload_n 0, 1) := by decide +kernel
theorem dX10_makePath_122 : decode cX10_makePath 122 = .ok (.iload_n 1, 1) := by decide +kernel
theorem dX10_makePath_123 : decode cX10_makePath 123 = .ok (.iload 4, 2) := by decide +kernel
theorem dX10_makePath_125 : decode cX10_makePath 125 = .ok (.invokevirtual 113, 3) := by decide +kernel
theorem dX10_makePath_128 : decode cX10_makePath 128 = .ok (.baload, 1) := by decide +kernel
theorem dX10_makePath_129 : decode cX10_makePath 129 = .ok (.ifCond .ne 7, 3) := by decide +kernel
theorem dX10_makePath_132 : decode cX10_makePath 132 = .ok (.iconst 1, 1) := by decide +kernel
theorem dX10_makePath_133 : decode cX10_makePath 133 = .ok (.goto 4, 3) := by decide +kernel
theorem dX10_makePath_136 : decode cX10_makePath 136 = .ok (.iconst 0, 1) := by decide +kernel
theorem dX10_makePath_137 : decode cX10_makePath 137 = .ok (.isub, 1) := by decide +kernel
theorem dX10_makePath_138 : decode cX10_makePath 138 = .ok (.istore_n 3, 1) := by decide +kernel
theorem dX10_makePath_139 : decode cX10_makePath 139 = .ok (.iinc 4 1, 3) := by decide +kernel
theorem dX10_makePath_142 : decode cX10_makePath 142 = .ok (.goto (-69), 3) := by decide +kernel
theorem dX10_makePath_145 : decode cX10_makePath 145 = .ok (.aload_n 0, 1) := by decide +kernel
theorem dX10_makePath_146 : decode cX10_makePath 146 = .ok (.iload_n 1, 1) := by decide +kernel
theorem dX10_makePath_147 : decode cX10_makePath 147 = .ok (.iload 4, 2) := by decide +kernel
theorem dX10_makePath_149 : decode cX10_makePath 149 = .ok (.iconst 1, 1) := by decide +kernel
theorem dX10_makePath_150 : decode cX10_makePath 150 = .ok (.invokevirtual 136, 3) := by decide +kernel
theorem dX10_makePath_153 : decode cX10_makePath 153 = .ok (.aload_n 0, 1) := by decide +kernel
theorem dX10_makePath_154 : decode cX10_makePath 154 = .ok (.iload_n 1, 1) := by decide +kernel
theorem dX10_makePath_155 : decode cX10_makePath 155 = .ok (.iload 4, 2) := by decide +kernel
theorem dX10_makePath_157 : decode cX10_makePath 157 = .ok (.invokevirtual 113, 3) := by decide +kernel
theorem dX10_makePath_160 : decode cX10_makePath 160 = .ok (.istore 5, 2) := by decide +kernel
theorem dX10_makePath_162 : decode cX10_makePath 162 = .ok (.aload_n 0, 1) := by decide +kernel
theorem dX10_makePath_163 : decode cX10_makePath 163 = .ok (.getfield 55, 3) := by decide +kernel
theorem dX10_makePath_166 : decode cX10_makePath 166 = .ok (.iload 5, 2) := by decide +kernel
theorem dX10_makePath_168 : decode cX10_makePath 168 = .ok (.iload_n 1, 1) := by decide +kernel
theorem dX10_makePath_169 : decode cX10_makePath 169 = .ok (.iastore, 1) := by decide +kernel
theorem dX10_makePath_170 : decode cX10_makePath 170 = .ok (.aload_n 0, 1) := by decide +kernel
theorem dX10_makePath_171 : decode cX10_makePath 171 = .ok (.getfield 58, 3) := by decide +kernel
theorem dX10_makePath_174 : decode cX10_makePath 174 = .ok (.iload 5, 2) := by decide +kernel
theorem dX10_makePath_176 : decode cX10_makePath 176 = .ok (.iconst 1, 1) := by decide +kernel
theorem dX10_makePath_177 : decode cX10_makePath 177 = .ok (.bastore, 1) := by decide +kernel
theorem dX10_makePath_178 : decode cX10_makePath 178 = .ok (.iload 5, 2) := by decide +kernel
theorem dX10_makePath_180 : decode cX10_makePath 180 = .ok (.istore_n 1, 1) := by decide +kernel
theorem dX10_makePath_181 : decode cX10_makePath 181 = .ok (.goto (-143), 3) := by decide +kernel
theorem dX10_makePath_184 : decode cX10_makePath 184 = .ok (.return_, 1) := by decide +kernel
set_option maxRecDepth 20000 in
theorem ggX10_make_X10_in : GoodIn wsX10_make wsX10_in := goodIn_r _ [7] (by decide +kernel) (by decide +kernel)
set_option maxRecDepth 20000 in
theorem gX10_make_X10_in : GoodIn wsX10_make (va_wsS RX10 84 yX10_in wsX10_in) := goodIn_app (goodIn_of _ (by decide +kernel)) ggX10_make_X10_in
set_option maxRecDepth 20000 in
theorem ggX10_make_X10_shutAll : GoodIn wsX10_make wsX10_shutAll := goodIn_r _ [11, 12, 13, 14, 15, 16, 17, 67, 68, 69, 70, 71, 72, 73, 74, 75, 76, 77, 78, 79, 80, 81, 82, 83, 84, 85, 86, 87, 88, 89, 90, 91, 92, 93, 94, 95, 96, 97, 98, 99, 100] (by decide +kernel) (by decide +kernel)
set_option maxRecDepth 20000 in
theorem gX10_make_X10_shutAll : GoodIn wsX10_make (wsV RX10 109 RX10 yX10_shutAll wsX10_shutAll) := goodIn_app (goodIn_of _ (by decide +kernel)) ggX10_make_X10_shutAll
set_option maxRecDepth 20000 in
theorem ggX10_make_X10_makeList : GoodIn wsX10_make wsX10_makeList := goodIn_r _ [21, 22, 23, 24, 25, 26, 6, 27, 12, 13, 28, 29, 30, 31, 4, 5, 7, 32, 33, 34, 35, 3, 36, 37, 38, 39, 40, 41, 42, 43, 44, 45, 46, 47, 48, 49, 50, 51, 52, 14, 15, 53, 54, 55, 56, 67, 68, 69, 70, 71, 72, 73, 74, 75, 76, 77, 78, 79, 80, 81, 82, 83, 84, 85, 86, 87, 88, 89, 90, 91, 92, 93, 94, 95, 96, 97, 98, 99, 100] (by decide +kernel) (by decide +kernel)
set_option maxRecDepth 20000 in
theorem gX10_make_X10_makeList : GoodIn wsX10_make (wsV RX10 145 RX10 yX10_makeList wsX10_makeList) := goodIn_app (goodIn_of _ (by decide +kernel)) ggX10_make_X10_makeList
set_option maxRecDepth 20000 in
theorem ggX10_make_X10_makePath : GoodIn wsX10_make wsX10_makePath := goodIn_r _ [60, 61, 62, 63, 64, 65, 6, 66, 28, 29, 30, 31, 12, 13, 4, 5, 7, 32, 33, 34, 35, 3, 36, 37, 53, 54, 55, 56, 14, 15, 67, 68, 69, 70, 71, 72, 73, 74, 75, 76, 77, 78, 79, 80, 81, 82, 83, 84, 85, 86, 87, 88, 89, 90, 91, 92, 93, 94, 95, 96, 97, 98, 99, 100] (by decide +kernel) (by decide +kernel)
set_option maxRecDepth 20000 in
theorem gX10_make_X10_makePath : GoodIn wsX10_make (wsV RX10 148 RX10 yX10_makePath wsX10_makePath) := goodIn_app (goodIn_of _ (by decide +kernel)) ggX10_make_X10_makePath
theorem dX10_make_0 : decode cX10_make 0 = .ok (.aload_n 0, 1) := by decide +kernel
theorem dX10_make_1 : decode cX10_make 1 = .ok (.iconst 0, 1) := by decide +kernel
theorem dX10_make_2 : decode cX10_make 2 = .ok (.putfield 79, 3) := by decide +kernel
theorem dX10_make_5 : decode cX10_make 5 = .ok (.iload_n 1, 1) := by decide +kernel
theorem dX10_make_6 : decode cX10_make 6 = .ok (.i2l, 1) := by decide +kernel
theorem dX10_make_7 : decode cX10_make 7 = .ok (.lconst 1, 1) := by decide +kernel
theorem dX10_make_8 : decode cX10_make 8 = .ok (.ldc2_w 143, 3) := by decide +kernel
theorem dX10_make_11 : decode cX10_make 11 = .ok (.invokestatic 84, 3) := by decide +kernel
theorem dX10_make_14 : decode cX10_make 14 = .ok (.ifCond .eq 26, 3) := by decide +kernel
theorem dX10_make_17 : decode cX10_make 17 = .ok (.iload_n 2, 1) := by decide +kernel
theorem dX10_make_18 : decode cX10_make 18 = .ok (.i2l, 1) := by decide +kernel
theorem dX10_make_19 : decode cX10_make 19 = .ok (.lconst 1, 1) := by decide +kernel
theorem dX10_make_20 : decode cX10_make 20 = .ok (.ldc2_w 143, 3) := by decide +kernel
theorem dX10_make_23 : decode cX10_make 23 = .ok (.invokestatic 84, 3) := by decide +kernel
theorem dX10_make_26 : decode cX10_make 26 = .ok (.ifCond .eq 14, 3) := by decide +kernel
theorem dX10_make_29 : decode cX10_make 29 = .ok (.iload 5, 2) := by decide +kernel
theorem dX10_make_31 : decode cX10_make 31 = .ok (.i2l, 1) := by decide +kernel
theorem dX10_make_32 : decode cX10_make 32 = .ok (.lconst 0, 1) := by decide +kernel
theorem dX10_make_33 : decode cX10_make 33 = .ok (.lconst 1, 1) := by decide +kernel
theorem dX10_make_34 : decode cX10_make 34 = .ok (.invokestatic 84, 3) := by decide +kernel
theorem dX10_make_37 : decode cX10_make 37 = .ok (.ifCond .ne 6, 3) := by decide +kernel
theorem dX10_make_40 : decode cX10_make 40 = .ok (.bipush (-2), 2) := by decide +kernel
theorem dX10_make_42 : decode cX10_make 42 = .ok (.ireturn, 1) := by decide +kernel
theorem dX10_make_43 : decode cX10_make 43 = .ok (.aload_n 0, 1) := by decide +kernel
theorem dX10_make_44 : decode cX10_make 44 = .ok (.iload_n 1, 1) := by decide +kernel
theorem dX10_make_45 : decode cX10_make 45 = .ok (.iload_n 2, 1) := by decide +kernel
theorem dX10_make_46 : decode cX10_make 46 = .ok (.invokevirtual 109, 3) := by decide +kernel
theorem dX10_make_49 : decode cX10_make 49 = .ok (.aload_n 0, 1) := by decide +kernel
theorem dX10_make_50 : decode cX10_make 50 = .ok (.lload_n 3, 1) := by decide +kernel
theorem dX10_make_51 : decode cX10_make 51 = .ok (.putfield 117, 3) := by decide +kernel
theorem dX10_make_54 : decode cX10_make 54 = .ok (.iload 5, 2) := by decide +kernel
theorem dX10_make_56 : decode cX10_make 56 = .ok (.ifCond .ne 10, 3) := by decide +kernel
theorem dX10_make_59 : decode cX10_make 59 = .ok (.aload_n 0, 1) := by decide +kernel
theorem dX10_make_60 : decode cX10_make 60 = .ok (.invokevirtual 145, 3) := by decide +kernel
theorem dX10_make_63 : decode cX10_make 63 = .ok (.goto 7, 3) := by decide +kernel
theorem dX10_make_66 : decode cX10_make 66 = .ok (.aload_n 0, 1) := by decide +kernel
theorem dX10_make_67 : decode cX10_make 67 = .ok (.invokevirtual 148, 3) := by decide +kernel
theorem dX10_make_70 : decode cX10_make 70 = .ok (.iload_n 1, 1) := by decide +kernel
theorem dX10_make_71 : decode cX10_make 71 = .ok (.iload_n 2, 1) := by decide +kernel
theorem dX10_make_72 : decode cX10_make 72 = .ok (.imul, 1) := by decide +kernel
theorem dX10_make_73 : decode cX10_make 73 = .ok (.ireturn, 1) := by decide +kernel
set_option maxRecDepth 20000 in
theorem ggX10_open_X10_isCell : GoodIn wsX10_open wsX10_isCell := goodIn_r _ [6, 7, 8, 29, 30, 31, 32, 33, 34, 35, 36, 37, 38, 39, 40, 41, 42, 43, 44, 45, 46, 47, 48, 49, 50, 51, 52, 53, 54, 55, 56, 57, 58, 59, 60, 61, 62] (by decide +kernel) (by decide +kernel)
set_option maxRecDepth 20000 in
theorem gX10_open_X10_isCell : GoodIn wsX10_open (wsV RX10 151 RX10 yX10_isCell wsX10_isCell) := goodIn_app (goodIn_of _ (by decide +kernel)) ggX10_open_X10_isCell
set_option maxRecDepth 20000 in
theorem ggX10_open_X10_isSide : GoodIn wsX10_open wsX10_isSide := goodIn_r _ [11, 12, 13, 14, 5, 15] (by decide +kernel) (by decide +kernel)
set_option maxRecDepth 20000 in
theorem gX10_open_X10_isSide : GoodIn wsX10_open (va_wsS RX10 154 yX10_isSide wsX10_isSide) := goodIn_app (goodIn_of _ (by decide +kernel)) ggX10_open_X10_isSide
set_option maxRecDepth 20000 in
theorem ggX10_open_X10_index : GoodIn wsX10_open wsX10_index := goodIn_r _ [18] (by decide +kernel) (by decide +kernel)
set_option maxRecDepth 20000 in
theorem gX10_open_X10_index : GoodIn wsX10_open (va_wsS RX10 157 yX10_index wsX10_index) := goodIn_app (goodIn_of _ (by decide +kernel)) ggX10_open_X10_index
set_option maxRecDepth 20000 in
theorem ggX10_open_X10_isOpen : GoodIn wsX10_open wsX10_isOpen := goodIn_r _ [22, 23, 24, 25, 26, 27, 5, 28, 7, 8, 13, 14, 15, 29, 30, 31, 32, 33, 34, 35, 36, 37, 38, 39, 40, 41, 42, 43, 44, 45, 46, 47, 48, 49, 50, 51, 52, 53, 54, 55, 56, 57, 58, 59, 60, 61, 62] (by decide +kernel) (by decide +kernel)
set_option maxRecDepth 20000 in
theorem gX10_open_X10_isOpen : GoodIn wsX10_open (wsV RX10 160 RX10 yX10_isOpen wsX10_isOpen) := goodIn_app (goodIn_of _ (by decide +kernel)) ggX10_open_X10_isOpen
theorem dX10_open_0 : decode cX10_open 0 = .ok (.aload_n 0, 1) := by decide +kernel
theorem dX10_open_1 : decode cX10_open 1 = .ok (.iconst 0, 1) := by decide +kernel
theorem dX10_open_2 : decode cX10_open 2 = .ok (.putfield 79, 3) := by decide +kernel
theorem dX10_open_5 : decode cX10_open 5 = .ok (.aload_n 0, 1) := by decide +kernel
theorem dX10_open_6 : decode cX10_open 6 = .ok (.iload_n 1, 1) := by decide +kernel
theorem dX10_open_7 : decode cX10_open 7 = .ok (.invokevirtual 151, 3) := by decide +kernel
theorem dX10_open_10 : decode cX10_open 10 = .ok (.ifCond .eq 10, 3) := by decide +kernel
theorem dX10_open_13 : decode cX10_open 13 = .ok (.iload_n 2, 1) := by decide +kernel
theorem dX10_open_14 : decode cX10_open 14 = .ok (.invokestatic 154, 3) := by decide +kernel
theorem dX10_open_17 : decode cX10_open 17 = .ok (.ifCond .ne 5, 3) := by decide +kernel
theorem dX10_open_20 : decode cX10_open 20 = .ok (.iconst (-1), 1) := by decide +kernel
theorem dX10_open_21 : decode cX10_open 21 = .ok (.ireturn, 1) := by decide +kernel
theorem dX10_open_22 : decode cX10_open 22 = .ok (.aload_n 0, 1) := by decide +kernel
theorem dX10_open_23 : decode cX10_open 23 = .ok (.iload_n 1, 1) := by decide +kernel
theorem dX10_open_24 : decode cX10_open 24 = .ok (.invokestatic 157, 3) := by decide +kernel
theorem dX10_open_27 : decode cX10_open 27 = .ok (.iload_n 2, 1) := by decide +kernel
theorem dX10_open_28 : decode cX10_open 28 = .ok (.invokevirtual 160, 3) := by decide +kernel
theorem dX10_open_31 : decode cX10_open 31 = .ok (.ifCond .eq 7, 3) := by decide +kernel
theorem dX10_open_34 : decode cX10_open 34 = .ok (.iconst 1, 1) := by decide +kernel
theorem dX10_open_35 : decode cX10_open 35 = .ok (.goto 4, 3) := by decide +kernel
theorem dX10_open_38 : decode cX10_open 38 = .ok (.iconst 0, 1) := by decide +kernel
theorem dX10_open_39 : decode cX10_open 39 = .ok (.ireturn, 1) := by decide +kernel
set_option maxRecDepth 20000 in
theorem ggX10_hedge_X10_isCell : GoodIn wsX10_hedge wsX10_isCell := goodIn_r _ [6, 7, 8, 33, 34, 35, 36, 37, 38, 39, 40, 41, 42, 43, 44, 45, 46, 47, 48, 49, 50, 51, 52, 53, 54, 55, 56, 57, 58, 59, 60, 61, 62, 63, 64, 65, 66] (by decide +kernel) (by decide +kernel)
set_option maxRecDepth 20000 in
theorem gX10_hedge_X10_isCell : GoodIn wsX10_hedge (wsV RX10 151 RX10 yX10_isCell wsX10_isCell) := goodIn_app (goodIn_of _ (by decide +kernel)) ggX10_hedge_X10_isCell
set_option maxRecDepth 20000 in
theorem ggX10_hedge_X10_isSide : GoodIn wsX10_hedge wsX10_isSide := goodIn_r _ [11, 12, 13, 14, 5, 15] (by decide +kernel) (by decide +kernel)
set_option maxRecDepth 20000 in
theorem gX10_hedge_X10_isSide : GoodIn wsX10_hedge (va_wsS RX10 154 yX10_isSide wsX10_isSide) := goodIn_app (goodIn_of _ (by decide +kernel)) ggX10_hedge_X10_isSide
set_option maxRecDepth 20000 in
theorem ggX10_hedge_X10_index : GoodIn wsX10_hedge wsX10_index := goodIn_r _ [18] (by decide +kernel) (by decide +kernel)
set_option maxRecDepth 20000 in
theorem gX10_hedge_X10_index : GoodIn wsX10_hedge (va_wsS RX10 157 yX10_index wsX10_index) := goodIn_app (goodIn_of _ (by decide +kernel)) ggX10_hedge_X10_index
set_option maxRecDepth 20000 in
theorem ggX10_hedge_X10_beside : GoodIn wsX10_hedge wsX10_beside := goodIn_r _ [22, 7, 8, 13, 14, 5, 15, 33, 34, 35, 36, 37, 38, 39, 40, 41, 42, 43, 44, 45, 46, 47, 48, 49, 50, 51, 52, 53, 54, 55, 56, 57, 58, 59, 60, 61, 62, 63, 64, 65, 66] (by decide +kernel) (by decide +kernel)
set_option maxRecDepth 20000 in
theorem gX10_hedge_X10_beside : GoodIn wsX10_hedge (wsV RX10 113 RX10 yX10_beside wsX10_beside) := goodIn_app (goodIn_of _ (by decide +kernel)) ggX10_hedge_X10_beside
set_option maxRecDepth 20000 in
theorem ggX10_hedge_X10_isOpen : GoodIn wsX10_hedge wsX10_isOpen := goodIn_r _ [26, 27, 28, 19, 20, 21, 5, 22, 7, 8, 13, 14, 15, 33, 34, 35, 36, 37, 38, 39, 40, 41, 42, 43, 44, 45, 46, 47, 48, 49, 50, 51, 52, 53, 54, 55, 56, 57, 58, 59, 60, 61, 62, 63, 64, 65, 66] (by decide +kernel) (by decide +kernel)
set_option maxRecDepth 20000 in
theorem gX10_hedge_X10_isOpen : GoodIn wsX10_hedge (wsV RX10 160 RX10 yX10_isOpen wsX10_isOpen) := goodIn_app (goodIn_of _ (by decide +kernel)) ggX10_hedge_X10_isOpen
set_option maxRecDepth 20000 in
theorem ggX10_hedge_X10_set : GoodIn wsX10_hedge wsX10_set := goodIn_r _ [32, 27, 28, 19, 20, 21, 5, 22, 7, 8, 13, 14, 15, 33, 34, 35, 36, 37, 38, 39, 40, 41, 42, 43, 44, 45, 46, 47, 48, 49, 50, 51, 52, 53, 54, 55, 56, 57, 58, 59, 60, 61, 62, 63, 64, 65, 66] (by decide +kernel) (by decide +kernel)
set_option maxRecDepth 20000 in
theorem gX10_hedge_X10_set : GoodIn wsX10_hedge (wsV RX10 136 RX10 yX10_set wsX10_set) := goodIn_app (goodIn_of _ (by decide +kernel)) ggX10_hedge_X10_set
theorem dX10_hedge_0 : decode cX10_hedge 0 = .ok (.aload_n 0, 1) := by decide +kernel
theorem dX10_hedge_1 : decode cX10_hedge 1 = .ok (.iconst 0, 1) := by decide +kernel
theorem dX10_hedge_2 : decode cX10_hedge 2 = .ok (.putfield 79, 3) := by decide +kernel
theorem dX10_hedge_5 : decode cX10_hedge 5 = .ok (.aload_n 0, 1) := by decide +kernel
theorem dX10_hedge_6 : decode cX10_hedge 6 = .ok (.iload_n 1, 1) := by decide +kernel
theorem dX10_hedge_7 : decode cX10_hedge 7 = .ok (.invokevirtual 151, 3) := by decide +kernel
theorem dX10_hedge_10 : decode cX10_hedge 10 = .ok (.ifCond .eq 10, 3) := by decide +kernel
theorem dX10_hedge_13 : decode cX10_hedge 13 = .ok (.iload_n 2, 1) := by decide +kernel
theorem dX10_hedge_14 : decode cX10_hedge 14 = .ok (.invokestatic 154, 3) := by decide +kernel
theorem dX10_hedge_17 : decode cX10_hedge 17 = .ok (.ifCond .ne 5, 3) := by decide +kernel
theorem dX10_hedge_20 : decode cX10_hedge 20 = .ok (.iconst (-1), 1) := by decide +kernel
theorem dX10_hedge_21 : decode cX10_hedge 21 = .ok (.ireturn, 1) := by decide +kernel
theorem dX10_hedge_22 : decode cX10_hedge 22 = .ok (.aload_n 0, 1) := by decide +kernel
theorem dX10_hedge_23 : decode cX10_hedge 23 = .ok (.iload_n 1, 1) := by decide +kernel
theorem dX10_hedge_24 : decode cX10_hedge 24 = .ok (.invokestatic 157, 3) := by decide +kernel
theorem dX10_hedge_27 : decode cX10_hedge 27 = .ok (.iload_n 2, 1) := by decide +kernel
theorem dX10_hedge_28 : decode cX10_hedge 28 = .ok (.invokevirtual 113, 3) := by decide +kernel
theorem dX10_hedge_31 : decode cX10_hedge 31 = .ok (.bipush (-9), 2) := by decide +kernel
theorem dX10_hedge_33 : decode cX10_hedge 33 = .ok (.if_icmp .ne 6, 3) := by decide +kernel
theorem dX10_hedge_36 : decode cX10_hedge 36 = .ok (.bipush (-3), 2) := by decide +kernel
theorem dX10_hedge_38 : decode cX10_hedge 38 = .ok (.ireturn, 1) := by decide +kernel
theorem dX10_hedge_39 : decode cX10_hedge 39 = .ok (.aload_n 0, 1) := by decide +kernel
theorem dX10_hedge_40 : decode cX10_hedge 40 = .ok (.iload_n 1, 1) := by decide +kernel
theorem dX10_hedge_41 : decode cX10_hedge 41 = .ok (.invokestatic 157, 3) := by decide +kernel
theorem dX10_hedge_44 : decode cX10_hedge 44 = .ok (.iload_n 2, 1) := by decide +kernel
theorem dX10_hedge_45 : decode cX10_hedge 45 = .ok (.invokevirtual 160, 3) := by decide +kernel
theorem dX10_hedge_48 : decode cX10_hedge 48 = .ok (.ifCond .eq 7, 3) := by decide +kernel
theorem dX10_hedge_51 : decode cX10_hedge 51 = .ok (.iconst 1, 1) := by decide +kernel
theorem dX10_hedge_52 : decode cX10_hedge 52 = .ok (.goto 4, 3) := by decide +kernel
theorem dX10_hedge_55 : decode cX10_hedge 55 = .ok (.iconst 0, 1) := by decide +kernel
theorem dX10_hedge_56 : decode cX10_hedge 56 = .ok (.istore 4, 2) := by decide +kernel
theorem dX10_hedge_58 : decode cX10_hedge 58 = .ok (.aload_n 0, 1) := by decide +kernel
theorem dX10_hedge_59 : decode cX10_hedge 59 = .ok (.iload_n 1, 1) := by decide +kernel
theorem dX10_hedge_60 : decode cX10_hedge 60 = .ok (.invokestatic 157, 3) := by decide +kernel
theorem dX10_hedge_63 : decode cX10_hedge 63 = .ok (.iload_n 2, 1) := by decide +kernel
theorem dX10_hedge_64 : decode cX10_hedge 64 = .ok (.iload_n 3, 1) := by decide +kernel
theorem dX10_hedge_65 : decode cX10_hedge 65 = .ok (.invokevirtual 136, 3) := by decide +kernel
theorem dX10_hedge_68 : decode cX10_hedge 68 = .ok (.iload 4, 2) := by decide +kernel
theorem dX10_hedge_70 : decode cX10_hedge 70 = .ok (.ireturn, 1) := by decide +kernel
set_option maxRecDepth 20000 in
theorem ggX10_gates_X10_isCell : GoodIn wsX10_gates wsX10_isCell := goodIn_r _ [8, 9, 10, 17, 18, 19, 20, 21, 22, 23, 24, 25, 26, 27, 28, 29, 30, 31, 32, 33, 34, 35, 36, 37, 38, 39, 40, 41, 42, 43, 44, 45, 46, 47, 48, 49, 50] (by decide +kernel) (by decide +kernel)
set_option maxRecDepth 20000 in
theorem gX10_gates_X10_isCell : GoodIn wsX10_gates (wsV RX10 151 RX10 yX10_isCell wsX10_isCell) := goodIn_app (goodIn_of _ (by decide +kernel)) ggX10_gates_X10_isCell
set_option maxRecDepth 20000 in
theorem ggX10_gates_X10_code : GoodIn wsX10_gates wsX10_code := goodIn_r _ [13] (by decide +kernel) (by decide +kernel)
set_option maxRecDepth 20000 in
theorem gX10_gates_X10_code : GoodIn wsX10_gates (va_wsS RX10 164 yX10_code wsX10_code) := goodIn_app (goodIn_of _ (by decide +kernel)) ggX10_gates_X10_code
set_option maxRecDepth 20000 in
theorem ggX10_gates_X10_index : GoodIn wsX10_gates wsX10_index := goodIn_r _ [16] (by decide +kernel) (by decide +kernel)
set_option maxRecDepth 20000 in
theorem gX10_gates_X10_index : GoodIn wsX10_gates (va_wsS RX10 157 yX10_index wsX10_index) := goodIn_app (goodIn_of _ (by decide +kernel)) ggX10_gates_X10_index
theorem dX10_gates_0 : decode cX10_gates 0 = .ok (.aload_n 0, 1) := by decide +kernel
theorem dX10_gates_1 : decode cX10_gates 1 = .ok (.iconst 0, 1) := by decide +kernel
theorem dX10_gates_2 : decode cX10_gates 2 = .ok (.putfield 79, 3) := by decide +kernel
theorem dX10_gates_5 : decode cX10_gates 5 = .ok (.aload_n 0, 1) := by decide +kernel
theorem dX10_gates_6 : decode cX10_gates 6 = .ok (.iload_n 1, 1) := by decide +kernel
theorem dX10_gates_7 : decode cX10_gates 7 = .ok (.invokevirtual 151, 3) := by decide +kernel
theorem dX10_gates_10 : decode cX10_gates 10 = .ok (.ifCond .eq 11, 3) := by decide +kernel
theorem dX10_gates_13 : decode cX10_gates 13 = .ok (.aload_n 0, 1) := by decide +kernel
theorem dX10_gates_14 : decode cX10_gates 14 = .ok (.iload_n 2, 1) := by decide +kernel
theorem dX10_gates_15 : decode cX10_gates 15 = .ok (.invokevirtual 151, 3) := by decide +kernel
theorem dX10_gates_18 : decode cX10_gates 18 = .ok (.ifCond .ne 5, 3) := by decide +kernel
theorem dX10_gates_21 : decode cX10_gates 21 = .ok (.iconst (-1), 1) := by decide +kernel
theorem dX10_gates_22 : decode cX10_gates 22 = .ok (.ireturn, 1) := by decide +kernel
theorem dX10_gates_23 : decode cX10_gates 23 = .ok (.bipush 100, 2) := by decide +kernel
theorem dX10_gates_25 : decode cX10_gates 25 = .ok (.aload_n 0, 1) := by decide +kernel
theorem dX10_gates_26 : decode cX10_gates 26 = .ok (.getfield 103, 3) := by decide +kernel
theorem dX10_gates_29 : decode cX10_gates 29 = .ok (.invokestatic 164, 3) := by decide +kernel
theorem dX10_gates_32 : decode cX10_gates 32 = .ok (.imul, 1) := by decide +kernel
theorem dX10_gates_33 : decode cX10_gates 33 = .ok (.aload_n 0, 1) := by decide +kernel
theorem dX10_gates_34 : decode cX10_gates 34 = .ok (.getfield 106, 3) := by decide +kernel
theorem dX10_gates_37 : decode cX10_gates 37 = .ok (.invokestatic 164, 3) := by decide +kernel
theorem dX10_gates_40 : decode cX10_gates 40 = .ok (.iadd, 1) := by decide +kernel
theorem dX10_gates_41 : decode cX10_gates 41 = .ok (.istore_n 3, 1) := by decide +kernel
theorem dX10_gates_42 : decode cX10_gates 42 = .ok (.aload_n 0, 1) := by decide +kernel
theorem dX10_gates_43 : decode cX10_gates 43 = .ok (.iload_n 1, 1) := by decide +kernel
theorem dX10_gates_44 : decode cX10_gates 44 = .ok (.invokestatic 157, 3) := by decide +kernel
theorem dX10_gates_47 : decode cX10_gates 47 = .ok (.putfield 103, 3) := by decide +kernel
theorem dX10_gates_50 : decode cX10_gates 50 = .ok (.aload_n 0, 1) := by decide +kernel
theorem dX10_gates_51 : decode cX10_gates 51 = .ok (.iload_n 2, 1) := by decide +kernel
theorem dX10_gates_52 : decode cX10_gates 52 = .ok (.invokestatic 157, 3) := by decide +kernel
theorem dX10_gates_55 : decode cX10_gates 55 = .ok (.putfield 106, 3) := by decide +kernel
theorem dX10_gates_58 : decode cX10_gates 58 = .ok (.iload_n 3, 1) := by decide +kernel
theorem dX10_gates_59 : decode cX10_gates 59 = .ok (.ireturn, 1) := by decide +kernel
theorem dX10_figureOf_0 : decode cX10_figureOf 0 = .ok (.aload_n 0, 1) := by decide +kernel
theorem dX10_figureOf_1 : decode cX10_figureOf 1 = .ok (.getfield 20, 3) := by decide +kernel
theorem dX10_figureOf_4 : decode cX10_figureOf 4 = .ok (.iload_n 1, 1) := by decide +kernel
theorem dX10_figureOf_5 : decode cX10_figureOf 5 = .ok (.baload, 1) := by decide +kernel
theorem dX10_figureOf_6 : decode cX10_figureOf 6 = .ok (.ifCond .eq 7, 3) := by decide +kernel
theorem dX10_figureOf_9 : decode cX10_figureOf 9 = .ok (.iconst 1, 1) := by decide +kernel
theorem dX10_figureOf_10 : decode cX10_figureOf 10 = .ok (.goto 4, 3) := by decide +kernel
theorem dX10_figureOf_13 : decode cX10_figureOf 13 = .ok (.iconst 0, 1) := by decide +kernel
theorem dX10_figureOf_14 : decode cX10_figureOf 14 = .ok (.aload_n 0, 1) := by decide +kernel
theorem dX10_figureOf_15 : decode cX10_figureOf 15 = .ok (.getfield 24, 3) := by decide +kernel
theorem dX10_figureOf_18 : decode cX10_figureOf 18 = .ok (.iload_n 1, 1) := by decide +kernel
theorem dX10_figureOf_19 : decode cX10_figureOf 19 = .ok (.baload, 1) := by decide +kernel
theorem dX10_figureOf_20 : decode cX10_figureOf 20 = .ok (.ifCond .eq 7, 3) := by decide +kernel
theorem dX10_figureOf_23 : decode cX10_figureOf 23 = .ok (.iconst 2, 1) := by decide +kernel
theorem dX10_figureOf_24 : decode cX10_figureOf 24 = .ok (.goto 4, 3) := by decide +kernel
theorem dX10_figureOf_27 : decode cX10_figureOf 27 = .ok (.iconst 0, 1) := by decide +kernel
theorem dX10_figureOf_28 : decode cX10_figureOf 28 = .ok (.iadd, 1) := by decide +kernel
theorem dX10_figureOf_29 : decode cX10_figureOf 29 = .ok (.ireturn, 1) := by decide +kernel
set_option maxRecDepth 20000 in
theorem ggX10_figure_X10_isCell : GoodIn wsX10_figure wsX10_isCell := goodIn_r _ [6, 7, 8, 18, 19, 20, 21, 22, 23, 24, 25, 26, 27, 28, 29, 30, 31, 32, 33, 34, 35, 36, 37, 38, 39, 40, 41, 42, 43, 44, 45, 46, 47, 48, 49, 50, 51] (by decide +kernel) (by decide +kernel)
set_option maxRecDepth 20000 in
theorem gX10_figure_X10_isCell : GoodIn wsX10_figure (wsV RX10 151 RX10 yX10_isCell wsX10_isCell) := goodIn_app (goodIn_of _ (by decide +kernel)) ggX10_figure_X10_isCell
set_option maxRecDepth 20000 in
theorem ggX10_figure_X10_index : GoodIn wsX10_figure wsX10_index := goodIn_r _ [11] (by decide +kernel) (by decide +kernel)
set_option maxRecDepth 20000 in
theorem gX10_figure_X10_index : GoodIn wsX10_figure (va_wsS RX10 157 yX10_index wsX10_index) := goodIn_app (goodIn_of _ (by decide +kernel)) ggX10_figure_X10_index
set_option maxRecDepth 20000 in
theorem ggX10_figure_X10_figureOf : GoodIn wsX10_figure wsX10_figureOf := goodIn_r _ [15, 16, 17, 18, 19, 20, 21, 22, 23, 24, 25, 26, 27, 28, 29, 30, 31, 32, 33, 34, 35, 36, 37, 38, 39, 40, 41, 42, 43, 44, 45, 46, 47, 48, 49, 50, 51] (by decide +kernel) (by decide +kernel)
set_option maxRecDepth 20000 in
theorem gX10_figure_X10_figureOf : GoodIn wsX10_figure (wsV RX10 167 RX10 yX10_figureOf wsX10_figureOf) := goodIn_app (goodIn_of _ (by decide +kernel)) ggX10_figure_X10_figureOf
theorem dX10_figure_0 : decode cX10_figure 0 = .ok (.aload_n 0, 1) := by decide +kernel
theorem dX10_figure_1 : decode cX10_figure 1 = .ok (.iconst 0, 1) := by decide +kernel
theorem dX10_figure_2 : decode cX10_figure 2 = .ok (.putfield 79, 3) := by decide +kernel
theorem dX10_figure_5 : decode cX10_figure 5 = .ok (.aload_n 0, 1) := by decide +kernel
theorem dX10_figure_6 : decode cX10_figure 6 = .ok (.iload_n 1, 1) := by decide +kernel
theorem dX10_figure_7 : decode cX10_figure 7 = .ok (.invokevirtual 151, 3) := by decide +kernel
theorem dX10_figure_10 : decode cX10_figure 10 = .ok (.ifCond .eq 14, 3) := by decide +kernel
theorem dX10_figure_13 : decode cX10_figure 13 = .ok (.aload_n 0, 1) := by decide +kernel
theorem dX10_figure_14 : decode cX10_figure 14 = .ok (.iload_n 1, 1) := by decide +kernel
theorem dX10_figure_15 : decode cX10_figure 15 = .ok (.invokestatic 157, 3) := by decide +kernel
theorem dX10_figure_18 : decode cX10_figure 18 = .ok (.invokevirtual 167, 3) := by decide +kernel
theorem dX10_figure_21 : decode cX10_figure 21 = .ok (.goto 4, 3) := by decide +kernel
theorem dX10_figure_24 : decode cX10_figure 24 = .ok (.iconst (-1), 1) := by decide +kernel
theorem dX10_figure_25 : decode cX10_figure 25 = .ok (.ireturn, 1) := by decide +kernel
theorem dX10_openings_0 : decode cX10_openings 0 = .ok (.iconst 0, 1) := by decide +kernel
theorem dX10_openings_1 : decode cX10_openings 1 = .ok (.istore_n 1, 1) := by decide +kernel
theorem dX10_openings_2 : decode cX10_openings 2 = .ok (.iconst 0, 1) := by decide +kernel
theorem dX10_openings_3 : decode cX10_openings 3 = .ok (.istore_n 2, 1) := by decide +kernel
theorem dX10_openings_4 : decode cX10_openings 4 = .ok (.iload_n 2, 1) := by decide +kernel
theorem dX10_openings_5 : decode cX10_openings 5 = .ok (.bipush 36, 2) := by decide +kernel
theorem dX10_openings_7 : decode cX10_openings 7 = .ok (.if_icmp .ge 41, 3) := by decide +kernel
theorem dX10_openings_10 : decode cX10_openings 10 = .ok (.iload_n 1, 1) := by decide +kernel
theorem dX10_openings_11 : decode cX10_openings 11 = .ok (.aload_n 0, 1) := by decide +kernel
theorem dX10_openings_12 : decode cX10_openings 12 = .ok (.getfield 20, 3) := by decide +kernel
theorem dX10_openings_15 : decode cX10_openings 15 = .ok (.iload_n 2, 1) := by decide +kernel
theorem dX10_openings_16 : decode cX10_openings 16 = .ok (.baload, 1) := by decide +kernel
theorem dX10_openings_17 : decode cX10_openings 17 = .ok (.ifCond .eq 7, 3) := by decide +kernel
theorem dX10_openings_20 : decode cX10_openings 20 = .ok (.iconst 1, 1) := by decide +kernel
theorem dX10_openings_21 : decode cX10_openings 21 = .ok (.goto 4, 3) := by decide +kernel
theorem dX10_openings_24 : decode cX10_openings 24 = .ok (.iconst 0, 1) := by decide +kernel
theorem dX10_openings_25 : decode cX10_openings 25 = .ok (.aload_n 0, 1) := by decide +kernel
theorem dX10_openings_26 : decode cX10_openings 26 = .ok (.getfield 24, 3) := by decide +kernel
theorem dX10_openings_29 : decode cX10_openings 29 = .ok (.iload_n 2, 1) := by decide +kernel
theorem dX10_openings_30 : decode cX10_openings 30 = .ok (.baload, 1) := by decide +kernel
theorem dX10_openings_31 : decode cX10_openings 31 = .ok (.ifCond .eq 7, 3) := by decide +kernel
theorem dX10_openings_34 : decode cX10_openings 34 = .ok (.iconst 1, 1) := by decide +kernel
theorem dX10_openings_35 : decode cX10_openings 35 = .ok (.goto 4, 3) := by decide +kernel
theorem dX10_openings_38 : decode cX10_openings 38 = .ok (.iconst 0, 1) := by decide +kernel
theorem dX10_openings_39 : decode cX10_openings 39 = .ok (.iadd, 1) := by decide +kernel
theorem dX10_openings_40 : decode cX10_openings 40 = .ok (.iadd, 1) := by decide +kernel
theorem dX10_openings_41 : decode cX10_openings 41 = .ok (.istore_n 1, 1) := by decide +kernel
theorem dX10_openings_42 : decode cX10_openings 42 = .ok (.iinc 2 1, 3) := by decide +kernel
theorem dX10_openings_45 : decode cX10_openings 45 = .ok (.goto (-41), 3) := by decide +kernel
theorem dX10_openings_48 : decode cX10_openings 48 = .ok (.iload_n 1, 1) := by decide +kernel
theorem dX10_openings_49 : decode cX10_openings 49 = .ok (.ireturn, 1) := by decide +kernel
set_option maxRecDepth 20000 in
theorem ggX10_neighbours_X10_isOpen : GoodIn wsX10_neighbours wsX10_isOpen := goodIn_r _ [5, 6, 7, 8, 9, 10, 4, 11, 12, 13, 14, 15, 16, 17, 18, 19, 20, 21, 22, 23, 24, 25, 26, 27, 28, 29, 30, 31, 32, 33, 34, 35, 36, 37, 38, 39, 40, 41, 42, 43, 44, 45, 46, 47, 48, 49, 50] (by decide +kernel) (by decide +kernel)
set_option maxRecDepth 20000 in
theorem gX10_neighbours_X10_isOpen : GoodIn wsX10_neighbours (wsV RX10 160 RX10 yX10_isOpen wsX10_isOpen) := goodIn_app (goodIn_of _ (by decide +kernel)) ggX10_neighbours_X10_isOpen
theorem dX10_neighbours_0 : decode cX10_neighbours 0 = .ok (.iconst 0, 1) := by decide +kernel
theorem dX10_neighbours_1 : decode cX10_neighbours 1 = .ok (.istore_n 2, 1) := by decide +kernel
theorem dX10_neighbours_2 : decode cX10_neighbours 2 = .ok (.iconst 0, 1) := by decide +kernel
theorem dX10_neighbours_3 : decode cX10_neighbours 3 = .ok (.istore_n 3, 1) := by decide +kernel
theorem dX10_neighbours_4 : decode cX10_neighbours 4 = .ok (.iload_n 3, 1) := by decide +kernel
theorem dX10_neighbours_5 : decode cX10_neighbours 5 = .ok (.iconst 4, 1) := by decide +kernel
theorem dX10_neighbours_6 : decode cX10_neighbours 6 = .ok (.if_icmp .ge 26, 3) := by decide +kernel
theorem dX10_neighbours_9 : decode cX10_neighbours 9 = .ok (.iload_n 2, 1) := by decide +kernel
theorem dX10_neighbours_10 : decode cX10_neighbours 10 = .ok (.aload_n 0, 1) := by decide +kernel
theorem dX10_neighbours_11 : decode cX10_neighbours 11 = .ok (.iload_n 1, 1) := by decide +kernel
theorem dX10_neighbours_12 : decode cX10_neighbours 12 = .ok (.iload_n 3, 1) := by decide +kernel
theorem dX10_neighbours_13 : decode cX10_neighbours 13 = .ok (.invokevirtual 160, 3) := by decide +kernel
theorem dX10_neighbours_16 : decode cX10_neighbours 16 = .ok (.ifCond .eq 7, 3) := by decide +kernel
theorem dX10_neighbours_19 : decode cX10_neighbours 19 = .ok (.iconst 1, 1) := by decide +kernel
theorem dX10_neighbours_20 : decode cX10_neighbours 20 = .ok (.goto 4, 3) := by decide +kernel
theorem dX10_neighbours_23 : decode cX10_neighbours 23 = .ok (.iconst 0, 1) := by decide +kernel
theorem dX10_neighbours_24 : decode cX10_neighbours 24 = .ok (.iadd, 1) := by decide +kernel
theorem dX10_neighbours_25 : decode cX10_neighbours 25 = .ok (.istore_n 2, 1) := by decide +kernel
theorem dX10_neighbours_26 : decode cX10_neighbours 26 = .ok (.iinc 3 1, 3) := by decide +kernel
theorem dX10_neighbours_29 : decode cX10_neighbours 29 = .ok (.goto (-25), 3) := by decide +kernel
theorem dX10_neighbours_32 : decode cX10_neighbours 32 = .ok (.iload_n 2, 1) := by decide +kernel
theorem dX10_neighbours_33 : decode cX10_neighbours 33 = .ok (.ireturn, 1) := by decide +kernel
set_option maxRecDepth 20000 in
theorem ggX10_layFar_X10_isOpen : GoodIn wsX10_layFar wsX10_isOpen := goodIn_r _ [8, 9, 10, 11, 12, 13, 7, 14, 15, 16, 17, 18, 19, 20, 21, 22, 23, 24, 25, 26, 27, 28, 29, 30, 31, 32, 33, 34, 35, 36, 37, 38, 39, 40, 41, 42, 43, 44, 45, 46, 47, 48, 49, 50, 51, 52, 53] (by decide +kernel) (by decide +kernel)
set_option maxRecDepth 20000 in
theorem gX10_layFar_X10_isOpen : GoodIn wsX10_layFar (wsV RX10 160 RX10 yX10_isOpen wsX10_isOpen) := goodIn_app (goodIn_of _ (by decide +kernel)) ggX10_layFar_X10_isOpen
set_option maxRecDepth 20000 in
theorem ggX10_layFar_X10_beside : GoodIn wsX10_layFar wsX10_beside := goodIn_r _ [14, 15, 16, 17, 18, 7, 19, 20, 21, 22, 23, 24, 25, 26, 27, 28, 29, 30, 31, 32, 33, 34, 35, 36, 37, 38, 39, 40, 41, 42, 43, 44, 45, 46, 47, 48, 49, 50, 51, 52, 53] (by decide +kernel) (by decide +kernel)
set_option maxRecDepth 20000 in
theorem gX10_layFar_X10_beside : GoodIn wsX10_layFar (wsV RX10 113 RX10 yX10_beside wsX10_beside) := goodIn_app (goodIn_of _ (by decide +kernel)) ggX10_layFar_X10_beside
theorem dX10_layFar_0 : decode cX10_layFar 0 = .ok (.iconst 0, 1) := by decide +kernel
theorem dX10_layFar_1 : decode cX10_layFar 1 = .ok (.istore_n 2, 1) := by decide +kernel
theorem dX10_layFar_2 : decode cX10_layFar 2 = .ok (.iload_n 2, 1) := by decide +kernel
theorem dX10_layFar_3 : decode cX10_layFar 3 = .ok (.bipush 36, 2) := by decide +kernel
theorem dX10_layFar_5 : decode cX10_layFar 5 = .ok (.if_icmp .ge 18, 3) := by decide +kernel
theorem dX10_layFar_8 : decode cX10_layFar 8 = .ok (.aload_n 0, 1) := by decide +kernel
theorem dX10_layFar_9 : decode cX10_layFar 9 = .ok (.getfield 39, 3) := by decide +kernel
theorem dX10_layFar_12 : decode cX10_layFar 12 = .ok (.iload_n 2, 1) := by decide +kernel
theorem dX10_layFar_13 : decode cX10_layFar 13 = .ok (.sipush 9999, 3) := by decide +kernel
theorem dX10_layFar_16 : decode cX10_layFar 16 = .ok (.iastore, 1) := by decide +kernel
theorem dX10_layFar_17 : decode cX10_layFar 17 = .ok (.iinc 2 1, 3) := by decide +kernel
theorem dX10_layFar_20 : decode cX10_layFar 20 = .ok (.goto (-18), 3) := by decide +kernel
theorem dX10_layFar_23 : decode cX10_layFar 23 = .ok (.aload_n 0, 1) := by decide +kernel
theorem dX10_layFar_24 : decode cX10_layFar 24 = .ok (.getfield 39, 3) := by decide +kernel
theorem dX10_layFar_27 : decode cX10_layFar 27 = .ok (.iload_n 1, 1) := by decide +kernel
theorem dX10_layFar_28 : decode cX10_layFar 28 = .ok (.iconst 0, 1) := by decide +kernel
theorem dX10_layFar_29 : decode cX10_layFar 29 = .ok (.iastore, 1) := by decide +kernel
theorem dX10_layFar_30 : decode cX10_layFar 30 = .ok (.aload_n 0, 1) := by decide +kernel
theorem dX10_layFar_31 : decode cX10_layFar 31 = .ok (.getfield 42, 3) := by decide +kernel
theorem dX10_layFar_34 : decode cX10_layFar 34 = .ok (.iconst 0, 1) := by decide +kernel
theorem dX10_layFar_35 : decode cX10_layFar 35 = .ok (.iload_n 1, 1) := by decide +kernel
theorem dX10_layFar_36 : decode cX10_layFar 36 = .ok (.iastore, 1) := by decide +kernel
theorem dX10_layFar_37 : decode cX10_layFar 37 = .ok (.iconst 1, 1) := by decide +kernel
theorem dX10_layFar_38 : decode cX10_layFar 38 = .ok (.istore_n 2, 1) := by decide +kernel
theorem dX10_layFar_39 : decode cX10_layFar 39 = .ok (.iconst 0, 1) := by decide +kernel
theorem dX10_layFar_40 : decode cX10_layFar 40 = .ok (.istore_n 3, 1) := by decide +kernel
theorem dX10_layFar_41 : decode cX10_layFar 41 = .ok (.iload_n 3, 1) := by decide +kernel
theorem dX10_layFar_42 : decode cX10_layFar 42 = .ok (.iload_n 2, 1) := by decide +kernel
theorem dX10_layFar_43 : decode cX10_layFar 43 = .ok (.if_icmp .ge 115, 3) := by decide +kernel
theorem dX10_layFar_46 : decode cX10_layFar 46 = .ok (.aload_n 0, 1) := by decide +kernel
theorem dX10_layFar_47 : decode cX10_layFar 47 = .ok (.getfield 42, 3) := by decide +kernel
theorem dX10_layFar_50 : decode cX10_layFar 50 = .ok (.iload_n 3, 1) := by decide +kernel
theorem dX10_layFar_51 : decode cX10_layFar 51 = .ok (.iaload, 1) := by decide +kernel
theorem dX10_layFar_52 : decode cX10_layFar 52 = .ok (.istore 4, 2) := by decide +kernel
theorem dX10_layFar_54 : decode cX10_layFar 54 = .ok (.iconst 0, 1) := by decide +kernel
theorem dX10_layFar_55 : decode cX10_layFar 55 = .ok (.istore 5, 2) := by decide +kernel
theorem dX10_layFar_57 : decode cX10_layFar 57 = .ok (.iload 5, 2) := by decide +kernel
theorem dX10_layFar_59 : decode cX10_layFar 59 = .ok (.iconst 4, 1) := by decide +kernel
theorem dX10_layFar_60 : decode cX10_layFar 60 = .ok (.if_icmp .ge 92, 3) := by decide +kernel
theorem dX10_layFar_63 : decode cX10_layFar 63 = .ok (.aload_n 0, 1) := by decide +kernel
theorem dX10_layFar_64 : decode cX10_layFar 64 = .ok (.iload 4, 2) := by decide +kernel
theorem dX10_layFar_66 : decode cX10_layFar 66 = .ok (.iload 5, 2) := by decide +kernel
theorem dX10_layFar_68 : decode cX10_layFar 68 = .ok (.invokevirtual 160, 3) := by decide +kernel
theorem dX10_layFar_71 : decode cX10_layFar 71 = .ok (.ifCond .eq 14, 3) := by decide +kernel
theorem dX10_layFar_74 : decode cX10_layFar 74 = .ok (.aload_n 0, 1) := by decide +kernel
theorem dX10_layFar_75 : decode cX10_layFar 75 = .ok (.iload 4, 2) := by decide +kernel
theorem dX10_layFar_77 : decode cX10_layFar 77 = .ok (.iload 5, 2) := by decide +kernel
theorem dX10_layFar_79 : decode cX10_layFar 79 = .ok (.invokevirtual 113, 3) := by decide +kernel
theorem dX10_layFar_82 : decode cX10_layFar 82 = .ok (.goto 5, 3) := by decide +kernel
theorem dX10_layFar_85 : decode cX10_layFar 85 = .ok (.bipush (-9), 2) := by decide +kernel
theorem dX10_layFar_87 : decode cX10_layFar 87 = .ok (.istore 6, 2) := by decide +kernel
theorem dX10_layFar_89 : decode cX10_layFar 89 = .ok (.iload 6, 2) := by decide +kernel
theorem dX10_layFar_91 : decode cX10_layFar 91 = .ok (.bipush (-9), 2) := by decide +kernel
theorem dX10_layFar_93 : decode cX10_layFar 93 = .ok (.if_icmp .eq 53, 3) := by decide +kernel
theorem dX10_layFar_96 : decode cX10_layFar 96 = .ok (.aload_n 0, 1) := by decide +kernel
theorem dX10_layFar_97 : decode cX10_layFar 97 = .ok (.getfield 39, 3) := by decide +kernel
theorem dX10_layFar_100 : decode cX10_layFar 100 = .ok (.iload 6, 2) := by decide +kernel
theorem dX10_layFar_102 : decode cX10_layFar 102 = .ok (.iaload, 1) := by decide +kernel
theorem dX10_layFar_103 : decode cX10_layFar 103 = .ok (.sipush 9999, 3) := by decide +kernel
theorem dX10_layFar_106 : decode cX10_layFar 106 = .ok (.if_icmp .ne 40, 3) := by decide +kernel
theorem dX10_layFar_109 : decode cX10_layFar 109 = .ok (.aload_n 0, 1) := by decide +kernel
theorem dX10_layFar_110 : decode cX10_layFar 110 = .ok (.getfield 49, 3) := by decide +kernel
theorem dX10_layFar_113 : decode cX10_layFar 113 = .ok (.iload 6, 2) := by decide +kernel
theorem dX10_layFar_115 : decode cX10_layFar 115 = .ok (.baload, 1) := by decide +kernel
theorem dX10_layFar_116 : decode cX10_layFar 116 = .ok (.ifCond .ne 30, 3) := by decide +kernel
theorem dX10_layFar_119 : decode cX10_layFar 119 = .ok (.aload_n 0, 1) := by decide +kernel
theorem dX10_layFar_120 : decode cX10_layFar 120 = .ok (.getfield 39, 3) := by decide +kernel
theorem dX10_layFar_123 : decode cX10_layFar 123 = .ok (.iload 6, 2) := by decide +kernel
theorem dX10_layFar_125 : decode cX10_layFar 125 = .ok (.aload_n 0, 1) := by decide +kernel
theorem dX10_layFar_126 : decode cX10_layFar 126 = .ok (.getfield 39, 3) := by decide +kernel
theorem dX10_layFar_129 : decode cX10_layFar 129 = .ok (.iload 4, 2) := by decide +kernel
theorem dX10_layFar_131 : decode cX10_layFar 131 = .ok (.iaload, 1) := by decide +kernel
theorem dX10_layFar_132 : decode cX10_layFar 132 = .ok (.iconst 1, 1) := by decide +kernel
theorem dX10_layFar_133 : decode cX10_layFar 133 = .ok (.iadd, 1) := by decide +kernel
theorem dX10_layFar_134 : decode cX10_layFar 134 = .ok (.iastore, 1) := by decide +kernel
theorem dX10_layFar_135 : decode cX10_layFar 135 = .ok (.aload_n 0, 1) := by decide +kernel
theorem dX10_layFar_136 : decode cX10_layFar 136 = .ok (.getfield 42, 3) := by decide +kernel
theorem dX10_layFar_139 : decode cX10_layFar 139 = .ok (.iload_n 2, 1) := by decide +kernel
theorem dX10_layFar_140 : decode cX10_layFar 140 = .ok (.iload 6, 2) := by decide +kernel
theorem dX10_layFar_142 : decode cX10_layFar 142 = .ok (.iastore, 1) := by decide +kernel
theorem dX10_layFar_143 : decode cX10_layFar 143 = .ok (.iinc 2 1, 3) := by decide +kernel
theorem dX10_layFar_146 : decode cX10_layFar 146 = .ok (.iinc 5 1, 3) := by decide +kernel
theorem dX10_layFar_149 : decode cX10_layFar 149 = .ok (.goto (-92), 3) := by decide +kernel
theorem dX10_layFar_152 : decode cX10_layFar 152 = .ok (.iinc 3 1, 3) := by decide +kernel
theorem dX10_layFar_155 : decode cX10_layFar 155 = .ok (.goto (-114), 3) := by decide +kernel
theorem dX10_layFar_158 : decode cX10_layFar 158 = .ok (.return_, 1) := by decide +kernel
set_option maxRecDepth 20000 in
theorem ggX10_layParts_X10_isThere : GoodIn wsX10_layParts wsX10_isThere := goodIn_r _ [7, 8, 9, 29, 30, 31, 32, 33, 34, 35, 36, 37, 38, 39, 40, 41, 42, 43, 44, 45, 46, 47, 48, 49, 50, 51, 52, 53, 54, 55, 56, 57, 58, 59, 60, 61, 62] (by decide +kernel) (by decide +kernel)
set_option maxRecDepth 20000 in
theorem gX10_layParts_X10_isThere : GoodIn wsX10_layParts (wsV RX10 125 RX10 yX10_isThere wsX10_isThere) := goodIn_app (goodIn_of _ (by decide +kernel)) ggX10_layParts_X10_isThere
set_option maxRecDepth 20000 in
theorem ggX10_layParts_X10_layFar : GoodIn wsX10_layParts wsX10_layFar := goodIn_r _ [13, 2, 14, 15, 16, 17, 18, 6, 19, 20, 21, 22, 23, 24, 25, 8, 9, 26, 27, 28, 29, 30, 31, 32, 33, 34, 35, 36, 37, 38, 39, 40, 41, 42, 43, 44, 45, 46, 47, 48, 49, 50, 51, 52, 53, 54, 55, 56, 57, 58, 59, 60, 61, 62] (by decide +kernel) (by decide +kernel)
set_option maxRecDepth 20000 in
theorem gX10_layParts_X10_layFar : GoodIn wsX10_layParts (wsV RX10 170 RX10 yX10_layFar wsX10_layFar) := goodIn_app (goodIn_of _ (by decide +kernel)) ggX10_layParts_X10_layFar
theorem dX10_layParts_0 : decode cX10_layParts 0 = .ok (.iconst 0, 1) := by decide +kernel
theorem dX10_layParts_1 : decode cX10_layParts 1 = .ok (.istore_n 1, 1) := by decide +kernel
theorem dX10_layParts_2 : decode cX10_layParts 2 = .ok (.iconst 0, 1) := by decide +kernel
theorem dX10_layParts_3 : decode cX10_layParts 3 = .ok (.istore_n 2, 1) := by decide +kernel
theorem dX10_layParts_4 : decode cX10_layParts 4 = .ok (.iload_n 2, 1) := by decide +kernel
theorem dX10_layParts_5 : decode cX10_layParts 5 = .ok (.bipush 36, 2) := by decide +kernel
theorem dX10_layParts_7 : decode cX10_layParts 7 = .ok (.if_icmp .ge 17, 3) := by decide +kernel
theorem dX10_layParts_10 : decode cX10_layParts 10 = .ok (.aload_n 0, 1) := by decide +kernel
theorem dX10_layParts_11 : decode cX10_layParts 11 = .ok (.getfield 52, 3) := by decide +kernel
theorem dX10_layParts_14 : decode cX10_layParts 14 = .ok (.iload_n 2, 1) := by decide +kernel
theorem dX10_layParts_15 : decode cX10_layParts 15 = .ok (.bipush (-9), 2) := by decide +kernel
theorem dX10_layParts_17 : decode cX10_layParts 17 = .ok (.iastore, 1) := by decide +kernel
theorem dX10_layParts_18 : decode cX10_layParts 18 = .ok (.iinc 2 1, 3) := by decide +kernel
theorem dX10_layParts_21 : decode cX10_layParts 21 = .ok (.goto (-17), 3) := by decide +kernel
theorem dX10_layParts_24 : decode cX10_layParts 24 = .ok (.iconst 0, 1) := by decide +kernel
theorem dX10_layParts_25 : decode cX10_layParts 25 = .ok (.istore_n 2, 1) := by decide +kernel
theorem dX10_layParts_26 : decode cX10_layParts 26 = .ok (.iload_n 2, 1) := by decide +kernel
theorem dX10_layParts_27 : decode cX10_layParts 27 = .ok (.bipush 36, 2) := by decide +kernel
theorem dX10_layParts_29 : decode cX10_layParts 29 = .ok (.if_icmp .ge 78, 3) := by decide +kernel
theorem dX10_layParts_32 : decode cX10_layParts 32 = .ok (.aload_n 0, 1) := by decide +kernel
theorem dX10_layParts_33 : decode cX10_layParts 33 = .ok (.iload_n 2, 1) := by decide +kernel
theorem dX10_layParts_34 : decode cX10_layParts 34 = .ok (.invokevirtual 125, 3) := by decide +kernel
theorem dX10_layParts_37 : decode cX10_layParts 37 = .ok (.ifCond .eq 64, 3) := by decide +kernel
theorem dX10_layParts_40 : decode cX10_layParts 40 = .ok (.aload_n 0, 1) := by decide +kernel
theorem dX10_layParts_41 : decode cX10_layParts 41 = .ok (.getfield 52, 3) := by decide +kernel
theorem dX10_layParts_44 : decode cX10_layParts 44 = .ok (.iload_n 2, 1) := by decide +kernel
theorem dX10_layParts_45 : decode cX10_layParts 45 = .ok (.iaload, 1) := by decide +kernel
theorem dX10_layParts_46 : decode cX10_layParts 46 = .ok (.bipush (-9), 2) := by decide +kernel
theorem dX10_layParts_48 : decode cX10_layParts 48 = .ok (.if_icmp .ne 53, 3) := by decide +kernel
theorem dX10_layParts_51 : decode cX10_layParts 51 = .ok (.iinc 1 1, 3) := by decide +kernel
theorem dX10_layParts_54 : decode cX10_layParts 54 = .ok (.aload_n 0, 1) := by decide +kernel
theorem dX10_layParts_55 : decode cX10_layParts 55 = .ok (.iload_n 2, 1) := by decide +kernel
theorem dX10_layParts_56 : decode cX10_layParts 56 = .ok (.invokevirtual 170, 3) := by decide +kernel
theorem dX10_layParts_59 : decode cX10_layParts 59 = .ok (.iconst 0, 1) := by decide +kernel
theorem dX10_layParts_60 : decode cX10_layParts 60 = .ok (.istore_n 3, 1) := by decide +kernel
theorem dX10_layParts_61 : decode cX10_layParts 61 = .ok (.iload_n 3, 1) := by decide +kernel
theorem dX10_layParts_62 : decode cX10_layParts 62 = .ok (.bipush 36, 2) := by decide +kernel
theorem dX10_layParts_64 : decode cX10_layParts 64 = .ok (.if_icmp .ge 37, 3) := by decide +kernel
theorem dX10_layParts_67 : decode cX10_layParts 67 = .ok (.aload_n 0, 1) := by decide +kernel
theorem dX10_layParts_68 : decode cX10_layParts 68 = .ok (.getfield 52, 3) := by decide +kernel
theorem dX10_layParts_71 : decode cX10_layParts 71 = .ok (.iload_n 3, 1) := by decide +kernel
theorem dX10_layParts_72 : decode cX10_layParts 72 = .ok (.aload_n 0, 1) := by decide +kernel
theorem dX10_layParts_73 : decode cX10_layParts 73 = .ok (.getfield 39, 3) := by decide +kernel
theorem dX10_layParts_76 : decode cX10_layParts 76 = .ok (.iload_n 3, 1) := by decide +kernel
theorem dX10_layParts_77 : decode cX10_layParts 77 = .ok (.iaload, 1) := by decide +kernel
theorem dX10_layParts_78 : decode cX10_layParts 78 = .ok (.sipush 9999, 3) := by decide +kernel
theorem dX10_layParts_81 : decode cX10_layParts 81 = .ok (.if_icmp .ge 7, 3) := by decide +kernel
theorem dX10_layParts_84 : decode cX10_layParts 84 = .ok (.iload_n 2, 1) := by decide +kernel
theorem dX10_layParts_85 : decode cX10_layParts 85 = .ok (.goto 9, 3) := by decide +kernel
theorem dX10_layParts_88 : decode cX10_layParts 88 = .ok (.aload_n 0, 1) := by decide +kernel
theorem dX10_layParts_89 : decode cX10_layParts 89 = .ok (.getfield 52, 3) := by decide +kernel
theorem dX10_layParts_92 : decode cX10_layParts 92 = .ok (.iload_n 3, 1) := by decide +kernel
theorem dX10_layParts_93 : decode cX10_layParts 93 = .ok (.iaload, 1) := by decide +kernel
theorem dX10_layParts_94 : decode cX10_layParts 94 = .ok (.iastore, 1) := by decide +kernel
theorem dX10_layParts_95 : decode cX10_layParts 95 = .ok (.iinc 3 1, 3) := by decide +kernel
theorem dX10_layParts_98 : decode cX10_layParts 98 = .ok (.goto (-37), 3) := by decide +kernel
theorem dX10_layParts_101 : decode cX10_layParts 101 = .ok (.iinc 2 1, 3) := by decide +kernel
theorem dX10_layParts_104 : decode cX10_layParts 104 = .ok (.goto (-78), 3) := by decide +kernel
theorem dX10_layParts_107 : decode cX10_layParts 107 = .ok (.iload_n 1, 1) := by decide +kernel
theorem dX10_layParts_108 : decode cX10_layParts 108 = .ok (.ireturn, 1) := by decide +kernel
set_option maxRecDepth 20000 in
theorem ggX10_isBridge_X10_set : GoodIn wsX10_isBridge wsX10_set := goodIn_r _ [6, 7, 8, 9, 10, 11, 5, 12, 13, 14, 15, 16, 17, 28, 29, 30, 31, 32, 33, 34, 35, 36, 37, 38, 39, 40, 41, 42, 43, 44, 45, 46, 47, 48, 49, 50, 51, 52, 53, 54, 55, 56, 57, 58, 59, 60, 61] (by decide +kernel) (by decide +kernel)
set_option maxRecDepth 20000 in
theorem gX10_isBridge_X10_set : GoodIn wsX10_isBridge (wsV RX10 136 RX10 yX10_set wsX10_set) := goodIn_app (goodIn_of _ (by decide +kernel)) ggX10_isBridge_X10_set
set_option maxRecDepth 20000 in
theorem ggX10_isBridge_X10_layFar : GoodIn wsX10_isBridge wsX10_layFar := goodIn_r _ [21, 1, 22, 23, 24, 25, 26, 5, 27, 7, 8, 9, 10, 11, 12, 13, 14, 15, 16, 17, 28, 29, 30, 31, 32, 33, 34, 35, 36, 37, 38, 39, 40, 41, 42, 43, 44, 45, 46, 47, 48, 49, 50, 51, 52, 53, 54, 55, 56, 57, 58, 59, 60, 61] (by decide +kernel) (by decide +kernel)
set_option maxRecDepth 20000 in
theorem gX10_isBridge_X10_layFar : GoodIn wsX10_isBridge (wsV RX10 170 RX10 yX10_layFar wsX10_layFar) := goodIn_app (goodIn_of _ (by decide +kernel)) ggX10_isBridge_X10_layFar
set_option maxRecDepth 20000 in
theorem ggX10_isBridge_X10_beside : GoodIn wsX10_isBridge wsX10_beside := goodIn_r _ [12, 13, 14, 15, 16, 5, 17, 28, 29, 30, 31, 32, 33, 34, 35, 36, 37, 38, 39, 40, 41, 42, 43, 44, 45, 46, 47, 48, 49, 50, 51, 52, 53, 54, 55, 56, 57, 58, 59, 60, 61] (by decide +kernel) (by decide +kernel)
set_option maxRecDepth 20000 in
theorem gX10_isBridge_X10_beside : GoodIn wsX10_isBridge (wsV RX10 113 RX10 yX10_beside wsX10_beside) := goodIn_app (goodIn_of _ (by decide +kernel)) ggX10_isBridge_X10_beside
theorem dX10_isBridge_0 : decode cX10_isBridge 0 = .ok (.aload_n 0, 1) := by decide +kernel
theorem dX10_isBridge_1 : decode cX10_isBridge 1 = .ok (.iload_n 1, 1) := by decide +kernel
theorem dX10_isBridge_2 : decode cX10_isBridge 2 = .ok (.iload_n 2, 1) := by decide +kernel
theorem dX10_isBridge_3 : decode cX10_isBridge 3 = .ok (.iconst 0, 1) := by decide +kernel
theorem dX10_isBridge_4 : decode cX10_isBridge 4 = .ok (.invokevirtual 136, 3) := by decide +kernel
theorem dX10_isBridge_7 : decode cX10_isBridge 7 = .ok (.aload_n 0, 1) := by decide +kernel
theorem dX10_isBridge_8 : decode cX10_isBridge 8 = .ok (.iload_n 1, 1) := by decide +kernel
theorem dX10_isBridge_9 : decode cX10_isBridge 9 = .ok (.invokevirtual 170, 3) := by decide +kernel
theorem dX10_isBridge_12 : decode cX10_isBridge 12 = .ok (.aload_n 0, 1) := by decide +kernel
theorem dX10_isBridge_13 : decode cX10_isBridge 13 = .ok (.getfield 39, 3) := by decide +kernel
theorem dX10_isBridge_16 : decode cX10_isBridge 16 = .ok (.aload_n 0, 1) := by decide +kernel
theorem dX10_isBridge_17 : decode cX10_isBridge 17 = .ok (.iload_n 1, 1) := by decide +kernel
theorem dX10_isBridge_18 : decode cX10_isBridge 18 = .ok (.iload_n 2, 1) := by decide +kernel
theorem dX10_isBridge_19 : decode cX10_isBridge 19 = .ok (.invokevirtual 113, 3) := by decide +kernel
theorem dX10_isBridge_22 : decode cX10_isBridge 22 = .ok (.iaload, 1) := by decide +kernel
theorem dX10_isBridge_23 : decode cX10_isBridge 23 = .ok (.sipush 9999, 3) := by decide +kernel
theorem dX10_isBridge_26 : decode cX10_isBridge 26 = .ok (.if_icmp .ne 7, 3) := by decide +kernel
theorem dX10_isBridge_29 : decode cX10_isBridge 29 = .ok (.iconst 1, 1) := by decide +kernel
theorem dX10_isBridge_30 : decode cX10_isBridge 30 = .ok (.goto 4, 3) := by decide +kernel
theorem dX10_isBridge_33 : decode cX10_isBridge 33 = .ok (.iconst 0, 1) := by decide +kernel
theorem dX10_isBridge_34 : decode cX10_isBridge 34 = .ok (.istore_n 3, 1) := by decide +kernel
theorem dX10_isBridge_35 : decode cX10_isBridge 35 = .ok (.aload_n 0, 1) := by decide +kernel
theorem dX10_isBridge_36 : decode cX10_isBridge 36 = .ok (.iload_n 1, 1) := by decide +kernel
theorem dX10_isBridge_37 : decode cX10_isBridge 37 = .ok (.iload_n 2, 1) := by decide +kernel
theorem dX10_isBridge_38 : decode cX10_isBridge 38 = .ok (.iconst 1, 1) := by decide +kernel
theorem dX10_isBridge_39 : decode cX10_isBridge 39 = .ok (.invokevirtual 136, 3) := by decide +kernel
theorem dX10_isBridge_42 : decode cX10_isBridge 42 = .ok (.iload_n 3, 1) := by decide +kernel
theorem dX10_isBridge_43 : decode cX10_isBridge 43 = .ok (.ireturn, 1) := by decide +kernel
set_option maxRecDepth 20000 in
theorem ggX10_bridges_X10_isBridge : GoodIn wsX10_bridges wsX10_isBridge := goodIn_r _ [7, 8, 9, 10, 11, 6, 12, 1, 2, 13, 14, 15, 16, 17, 18, 19, 20, 21, 22, 23, 24, 25, 26, 27, 28, 29, 30, 31, 32, 33, 34, 35, 36, 37, 38, 39, 40, 41, 42, 43, 44, 45, 46, 47, 48, 49, 50, 51, 52, 53, 54, 55, 56, 57, 58, 59, 60, 61, 62, 63, 64, 65] (by decide +kernel) (by decide +kernel)
set_option maxRecDepth 20000 in
theorem gX10_bridges_X10_isBridge : GoodIn wsX10_bridges (wsV RX10 174 RX10 yX10_isBridge wsX10_isBridge) := goodIn_app (goodIn_of _ (by decide +kernel)) ggX10_bridges_X10_isBridge
theorem dX10_bridges_0 : decode cX10_bridges 0 = .ok (.iconst 0, 1) := by decide +kernel
theorem dX10_bridges_1 : decode cX10_bridges 1 = .ok (.istore_n 1, 1) := by decide +kernel
theorem dX10_bridges_2 : decode cX10_bridges 2 = .ok (.iconst 0, 1) := by decide +kernel
theorem dX10_bridges_3 : decode cX10_bridges 3 = .ok (.istore_n 2, 1) := by decide +kernel
theorem dX10_bridges_4 : decode cX10_bridges 4 = .ok (.iload_n 2, 1) := by decide +kernel
theorem dX10_bridges_5 : decode cX10_bridges 5 = .ok (.bipush 36, 2) := by decide +kernel
theorem dX10_bridges_7 : decode cX10_bridges 7 = .ok (.if_icmp .ge 61, 3) := by decide +kernel
theorem dX10_bridges_10 : decode cX10_bridges 10 = .ok (.iload_n 1, 1) := by decide +kernel
theorem dX10_bridges_11 : decode cX10_bridges 11 = .ok (.aload_n 0, 1) := by decide +kernel
theorem dX10_bridges_12 : decode cX10_bridges 12 = .ok (.getfield 20, 3) := by decide +kernel
theorem dX10_bridges_15 : decode cX10_bridges 15 = .ok (.iload_n 2, 1) := by decide +kernel
theorem dX10_bridges_16 : decode cX10_bridges 16 = .ok (.baload, 1) := by decide +kernel
theorem dX10_bridges_17 : decode cX10_bridges 17 = .ok (.ifCond .eq 16, 3) := by decide +kernel
theorem dX10_bridges_20 : decode cX10_bridges 20 = .ok (.aload_n 0, 1) := by decide +kernel
theorem dX10_bridges_21 : decode cX10_bridges 21 = .ok (.iload_n 2, 1) := by decide +kernel
theorem dX10_bridges_22 : decode cX10_bridges 22 = .ok (.iconst 1, 1) := by decide +kernel
theorem dX10_bridges_23 : decode cX10_bridges 23 = .ok (.invokevirtual 174, 3) := by decide +kernel
theorem dX10_bridges_26 : decode cX10_bridges 26 = .ok (.ifCond .eq 7, 3) := by decide +kernel
theorem dX10_bridges_29 : decode cX10_bridges 29 = .ok (.iconst 1, 1) := by decide +kernel
theorem dX10_bridges_30 : decode cX10_bridges 30 = .ok (.goto 4, 3) := by decide +kernel
theorem dX10_bridges_33 : decode cX10_bridges 33 = .ok (.iconst 0, 1) := by decide +kernel
theorem dX10_bridges_34 : decode cX10_bridges 34 = .ok (.iadd, 1) := by decide +kernel
theorem dX10_bridges_35 : decode cX10_bridges 35 = .ok (.istore_n 1, 1) := by decide +kernel
theorem dX10_bridges_36 : decode cX10_bridges 36 = .ok (.iload_n 1, 1) := by decide +kernel
theorem dX10_bridges_37 : decode cX10_bridges 37 = .ok (.aload_n 0, 1) := by decide +kernel
theorem dX10_bridges_38 : decode cX10_bridges 38 = .ok (.getfield 24, 3) := by decide +kernel
theorem dX10_bridges_41 : decode cX10_bridges 41 = .ok (.iload_n 2, 1) := by decide +kernel
theorem dX10_bridges_42 : decode cX10_bridges 42 = .ok (.baload, 1) := by decide +kernel
theorem dX10_bridges_43 : decode cX10_bridges 43 = .ok (.ifCond .eq 16, 3) := by decide +kernel
theorem dX10_bridges_46 : decode cX10_bridges 46 = .ok (.aload_n 0, 1) := by decide +kernel
theorem dX10_bridges_47 : decode cX10_bridges 47 = .ok (.iload_n 2, 1) := by decide +kernel
theorem dX10_bridges_48 : decode cX10_bridges 48 = .ok (.iconst 2, 1) := by decide +kernel
theorem dX10_bridges_49 : decode cX10_bridges 49 = .ok (.invokevirtual 174, 3) := by decide +kernel
theorem dX10_bridges_52 : decode cX10_bridges 52 = .ok (.ifCond .eq 7, 3) := by decide +kernel
theorem dX10_bridges_55 : decode cX10_bridges 55 = .ok (.iconst 1, 1) := by decide +kernel
theorem dX10_bridges_56 : decode cX10_bridges 56 = .ok (.goto 4, 3) := by decide +kernel
theorem dX10_bridges_59 : decode cX10_bridges 59 = .ok (.iconst 0, 1) := by decide +kernel
theorem dX10_bridges_60 : decode cX10_bridges 60 = .ok (.iadd, 1) := by decide +kernel
theorem dX10_bridges_61 : decode cX10_bridges 61 = .ok (.istore_n 1, 1) := by decide +kernel
theorem dX10_bridges_62 : decode cX10_bridges 62 = .ok (.iinc 2 1, 3) := by decide +kernel
theorem dX10_bridges_65 : decode cX10_bridges 65 = .ok (.goto (-61), 3) := by decide +kernel
theorem dX10_bridges_68 : decode cX10_bridges 68 = .ok (.iload_n 1, 1) := by decide +kernel
theorem dX10_bridges_69 : decode cX10_bridges 69 = .ok (.ireturn, 1) := by decide +kernel
set_option maxRecDepth 20000 in
theorem ggX10_farOf_X10_layFar : GoodIn wsX10_farOf wsX10_layFar := goodIn_r _ [6, 1, 7, 8, 9, 10, 11, 5, 12, 13, 14, 15, 16, 17, 18, 19, 20, 21, 22, 23, 24, 25, 26, 27, 28, 29, 30, 31, 32, 33, 34, 35, 36, 37, 38, 39, 40, 41, 42, 43, 44, 45, 46, 47, 48, 49, 50, 51, 52, 53, 54, 55, 56, 57] (by decide +kernel) (by decide +kernel)
set_option maxRecDepth 20000 in
theorem gX10_farOf_X10_layFar : GoodIn wsX10_farOf (wsV RX10 170 RX10 yX10_layFar wsX10_layFar) := goodIn_app (goodIn_of _ (by decide +kernel)) ggX10_farOf_X10_layFar
theorem dX10_farOf_0 : decode cX10_farOf 0 = .ok (.aload_n 0, 1) := by decide +kernel
theorem dX10_farOf_1 : decode cX10_farOf 1 = .ok (.iload_n 1, 1) := by decide +kernel
theorem dX10_farOf_2 : decode cX10_farOf 2 = .ok (.invokevirtual 170, 3) := by decide +kernel
theorem dX10_farOf_5 : decode cX10_farOf 5 = .ok (.aload_n 0, 1) := by decide +kernel
theorem dX10_farOf_6 : decode cX10_farOf 6 = .ok (.getfield 39, 3) := by decide +kernel
theorem dX10_farOf_9 : decode cX10_farOf 9 = .ok (.iload_n 2, 1) := by decide +kernel
theorem dX10_farOf_10 : decode cX10_farOf 10 = .ok (.iaload, 1) := by decide +kernel
theorem dX10_farOf_11 : decode cX10_farOf 11 = .ok (.ireturn, 1) := by decide +kernel
set_option maxRecDepth 20000 in
theorem ggX10_isMust_X10_farOf : GoodIn wsX10_isMust wsX10_farOf := goodIn_r _ [8, 9, 10, 11, 12, 7, 13, 14, 3, 15, 16, 17, 18, 19, 20, 21, 22, 23, 24, 25, 26, 27, 28, 29, 30, 31, 32, 33, 34, 35, 36, 37, 38, 39, 40, 41, 42, 43, 44, 45, 46, 47, 48, 49, 50, 51, 52, 53, 54, 55, 56, 57, 58, 59, 60, 61, 62, 63] (by decide +kernel) (by decide +kernel)
set_option maxRecDepth 20000 in
theorem gX10_isMust_X10_farOf : GoodIn wsX10_isMust (wsV RX10 177 RX10 yX10_farOf wsX10_farOf) := goodIn_app (goodIn_of _ (by decide +kernel)) ggX10_isMust_X10_farOf
theorem dX10_isMust_0 : decode cX10_isMust 0 = .ok (.aload_n 0, 1) := by decide +kernel
theorem dX10_isMust_1 : decode cX10_isMust 1 = .ok (.aload_n 0, 1) := by decide +kernel
theorem dX10_isMust_2 : decode cX10_isMust 2 = .ok (.getfield 103, 3) := by decide +kernel
theorem dX10_isMust_5 : decode cX10_isMust 5 = .ok (.aload_n 0, 1) := by decide +kernel
theorem dX10_isMust_6 : decode cX10_isMust 6 = .ok (.getfield 106, 3) := by decide +kernel
theorem dX10_isMust_9 : decode cX10_isMust 9 = .ok (.invokevirtual 177, 3) := by decide +kernel
theorem dX10_isMust_12 : decode cX10_isMust 12 = .ok (.sipush 9999, 3) := by decide +kernel
theorem dX10_isMust_15 : decode cX10_isMust 15 = .ok (.if_icmp .ne 5, 3) := by decide +kernel
theorem dX10_isMust_18 : decode cX10_isMust 18 = .ok (.iconst 0, 1) := by decide +kernel
theorem dX10_isMust_19 : decode cX10_isMust 19 = .ok (.ireturn, 1) := by decide +kernel
theorem dX10_isMust_20 : decode cX10_isMust 20 = .ok (.iload_n 1, 1) := by decide +kernel
theorem dX10_isMust_21 : decode cX10_isMust 21 = .ok (.aload_n 0, 1) := by decide +kernel
theorem dX10_isMust_22 : decode cX10_isMust 22 = .ok (.getfield 103, 3) := by decide +kernel
theorem dX10_isMust_25 : decode cX10_isMust 25 = .ok (.if_icmp .eq 11, 3) := by decide +kernel
theorem dX10_isMust_28 : decode cX10_isMust 28 = .ok (.iload_n 1, 1) := by decide +kernel
theorem dX10_isMust_29 : decode cX10_isMust 29 = .ok (.aload_n 0, 1) := by decide +kernel
theorem dX10_isMust_30 : decode cX10_isMust 30 = .ok (.getfield 106, 3) := by decide +kernel
theorem dX10_isMust_33 : decode cX10_isMust 33 = .ok (.if_icmp .ne 5, 3) := by decide +kernel
theorem dX10_isMust_36 : decode cX10_isMust 36 = .ok (.iconst 1, 1) := by decide +kernel
theorem dX10_isMust_37 : decode cX10_isMust 37 = .ok (.ireturn, 1) := by decide +kernel
theorem dX10_isMust_38 : decode cX10_isMust 38 = .ok (.aload_n 0, 1) := by decide +kernel
theorem dX10_isMust_39 : decode cX10_isMust 39 = .ok (.getfield 49, 3) := by decide +kernel
theorem dX10_isMust_42 : decode cX10_isMust 42 = .ok (.iload_n 1, 1) := by decide +kernel
theorem dX10_isMust_43 : decode cX10_isMust 43 = .ok (.iconst 1, 1) := by decide +kernel
theorem dX10_isMust_44 : decode cX10_isMust 44 = .ok (.bastore, 1) := by decide +kernel
theorem dX10_isMust_45 : decode cX10_isMust 45 = .ok (.aload_n 0, 1) := by decide +kernel
theorem dX10_isMust_46 : decode cX10_isMust 46 = .ok (.aload_n 0, 1) := by decide +kernel
theorem dX10_isMust_47 : decode cX10_isMust 47 = .ok (.getfield 103, 3) := by decide +kernel
theorem dX10_isMust_50 : decode cX10_isMust 50 = .ok (.aload_n 0, 1) := by decide +kernel
theorem dX10_isMust_51 : decode cX10_isMust 51 = .ok (.getfield 106, 3) := by decide +kernel
theorem dX10_isMust_54 : decode cX10_isMust 54 = .ok (.invokevirtual 177, 3) := by decide +kernel
theorem dX10_isMust_57 : decode cX10_isMust 57 = .ok (.sipush 9999, 3) := by decide +kernel
theorem dX10_isMust_60 : decode cX10_isMust 60 = .ok (.if_icmp .ne 7, 3) := by decide +kernel
theorem dX10_isMust_63 : decode cX10_isMust 63 = .ok (.iconst 1, 1) := by decide +kernel
theorem dX10_isMust_64 : decode cX10_isMust 64 = .ok (.goto 4, 3) := by decide +kernel
theorem dX10_isMust_67 : decode cX10_isMust 67 = .ok (.iconst 0, 1) := by decide +kernel
theorem dX10_isMust_68 : decode cX10_isMust 68 = .ok (.istore_n 2, 1) := by decide +kernel
theorem dX10_isMust_69 : decode cX10_isMust 69 = .ok (.aload_n 0, 1) := by decide +kernel
theorem dX10_isMust_70 : decode cX10_isMust 70 = .ok (.getfield 49, 3) := by decide +kernel
theorem dX10_isMust_73 : decode cX10_isMust 73 = .ok (.iload_n 1, 1) := by decide +kernel
theorem dX10_isMust_74 : decode cX10_isMust 74 = .ok (.iconst 0, 1) := by decide +kernel
theorem dX10_isMust_75 : decode cX10_isMust 75 = .ok (.bastore, 1) := by decide +kernel
theorem dX10_isMust_76 : decode cX10_isMust 76 = .ok (.iload_n 2, 1) := by decide +kernel
theorem dX10_isMust_77 : decode cX10_isMust 77 = .ok (.ireturn, 1) := by decide +kernel
set_option maxRecDepth 20000 in
theorem ggX10_still_X10_isOpen : GoodIn wsX10_still wsX10_isOpen := goodIn_r _ [6, 7, 8, 9, 10, 11, 5, 12, 13, 14, 15, 16, 17, 18, 19, 20, 21, 22, 23, 24, 25, 26, 27, 28, 29, 30, 31, 32, 33, 34, 35, 36, 37, 38, 39, 40, 41, 42, 43, 44, 45, 46, 47, 48, 49, 50, 51] (by decide +kernel) (by decide +kernel)
set_option maxRecDepth 20000 in
theorem gX10_still_X10_isOpen : GoodIn wsX10_still (wsV RX10 160 RX10 yX10_isOpen wsX10_isOpen) := goodIn_app (goodIn_of _ (by decide +kernel)) ggX10_still_X10_isOpen
set_option maxRecDepth 20000 in
theorem ggX10_still_X10_beside : GoodIn wsX10_still wsX10_beside := goodIn_r _ [12, 13, 14, 15, 16, 5, 17, 18, 19, 20, 21, 22, 23, 24, 25, 26, 27, 28, 29, 30, 31, 32, 33, 34, 35, 36, 37, 38, 39, 40, 41, 42, 43, 44, 45, 46, 47, 48, 49, 50, 51] (by decide +kernel) (by decide +kernel)
set_option maxRecDepth 20000 in
theorem gX10_still_X10_beside : GoodIn wsX10_still (wsV RX10 113 RX10 yX10_beside wsX10_beside) := goodIn_app (goodIn_of _ (by decide +kernel)) ggX10_still_X10_beside
theorem dX10_still_0 : decode cX10_still 0 = .ok (.iconst 0, 1) := by decide +kernel
theorem dX10_still_1 : decode cX10_still 1 = .ok (.istore_n 2, 1) := by decide +kernel
theorem dX10_still_2 : decode cX10_still 2 = .ok (.iconst 0, 1) := by decide +kernel
theorem dX10_still_3 : decode cX10_still 3 = .ok (.istore_n 3, 1) := by decide +kernel
theorem dX10_still_4 : decode cX10_still 4 = .ok (.iload_n 3, 1) := by decide +kernel
theorem dX10_still_5 : decode cX10_still 5 = .ok (.iconst 4, 1) := by decide +kernel
theorem dX10_still_6 : decode cX10_still 6 = .ok (.if_icmp .ge 40, 3) := by decide +kernel
theorem dX10_still_9 : decode cX10_still 9 = .ok (.iload_n 2, 1) := by decide +kernel
theorem dX10_still_10 : decode cX10_still 10 = .ok (.aload_n 0, 1) := by decide +kernel
theorem dX10_still_11 : decode cX10_still 11 = .ok (.iload_n 1, 1) := by decide +kernel
theorem dX10_still_12 : decode cX10_still 12 = .ok (.iload_n 3, 1) := by decide +kernel
theorem dX10_still_13 : decode cX10_still 13 = .ok (.invokevirtual 160, 3) := by decide +kernel
theorem dX10_still_16 : decode cX10_still 16 = .ok (.ifCond .eq 21, 3) := by decide +kernel
theorem dX10_still_19 : decode cX10_still 19 = .ok (.aload_n 0, 1) := by decide +kernel
theorem dX10_still_20 : decode cX10_still 20 = .ok (.getfield 49, 3) := by decide +kernel
theorem dX10_still_23 : decode cX10_still 23 = .ok (.aload_n 0, 1) := by decide +kernel
theorem dX10_still_24 : decode cX10_still 24 = .ok (.iload_n 1, 1) := by decide +kernel
theorem dX10_still_25 : decode cX10_still 25 = .ok (.iload_n 3, 1) := by decide +kernel
theorem dX10_still_26 : decode cX10_still 26 = .ok (.invokevirtual 113, 3) := by decide +kernel
theorem dX10_still_29 : decode cX10_still 29 = .ok (.baload, 1) := by decide +kernel
theorem dX10_still_30 : decode cX10_still 30 = .ok (.ifCond .ne 7, 3) := by decide +kernel
theorem dX10_still_33 : decode cX10_still 33 = .ok (.iconst 1, 1) := by decide +kernel
theorem dX10_still_34 : decode cX10_still 34 = .ok (.goto 4, 3) := by decide +kernel
theorem dX10_still_37 : decode cX10_still 37 = .ok (.iconst 0, 1) := by decide +kernel
theorem dX10_still_38 : decode cX10_still 38 = .ok (.iadd, 1) := by decide +kernel
theorem dX10_still_39 : decode cX10_still 39 = .ok (.istore_n 2, 1) := by decide +kernel
theorem dX10_still_40 : decode cX10_still 40 = .ok (.iinc 3 1, 3) := by decide +kernel
theorem dX10_still_43 : decode cX10_still 43 = .ok (.goto (-39), 3) := by decide +kernel
theorem dX10_still_46 : decode cX10_still 46 = .ok (.iload_n 2, 1) := by decide +kernel
theorem dX10_still_47 : decode cX10_still 47 = .ok (.ireturn, 1) := by decide +kernel
set_option maxRecDepth 20000 in
theorem ggX10_fill_X10_isThere : GoodIn wsX10_fill wsX10_isThere := goodIn_r _ [8, 9, 10, 28, 29, 30, 31, 32, 33, 34, 35, 36, 37, 38, 39, 40, 41, 42, 43, 44, 45, 46, 47, 48, 49, 50, 51, 52, 53, 54, 55, 56, 57, 58, 59, 60, 61] (by decide +kernel) (by decide +kernel)
set_option maxRecDepth 20000 in
theorem gX10_fill_X10_isThere : GoodIn wsX10_fill (wsV RX10 125 RX10 yX10_isThere wsX10_isThere) := goodIn_app (goodIn_of _ (by decide +kernel)) ggX10_fill_X10_isThere
set_option maxRecDepth 20000 in
theorem ggX10_fill_X10_still : GoodIn wsX10_fill wsX10_still := goodIn_r _ [14, 1, 15, 16, 17, 7, 18, 19, 20, 21, 22, 23, 24, 9, 10, 25, 26, 27, 28, 29, 30, 31, 32, 33, 34, 35, 36, 37, 38, 39, 40, 41, 42, 43, 44, 45, 46, 47, 48, 49, 50, 51, 52, 53, 54, 55, 56, 57, 58, 59, 60, 61] (by decide +kernel) (by decide +kernel)
set_option maxRecDepth 20000 in
theorem gX10_fill_X10_still : GoodIn wsX10_fill (wsV RX10 180 RX10 yX10_still wsX10_still) := goodIn_app (goodIn_of _ (by decide +kernel)) ggX10_fill_X10_still
theorem dX10_fill_0 : decode cX10_fill 0 = .ok (.iconst 1, 1) := by decide +kernel
theorem dX10_fill_1 : decode cX10_fill 1 = .ok (.istore_n 1, 1) := by decide +kernel
theorem dX10_fill_2 : decode cX10_fill 2 = .ok (.iload_n 1, 1) := by decide +kernel
theorem dX10_fill_3 : decode cX10_fill 3 = .ok (.ifCond .eq 73, 3) := by decide +kernel
theorem dX10_fill_6 : decode cX10_fill 6 = .ok (.iconst 0, 1) := by decide +kernel
theorem dX10_fill_7 : decode cX10_fill 7 = .ok (.istore_n 1, 1) := by decide +kernel
theorem dX10_fill_8 : decode cX10_fill 8 = .ok (.iconst 0, 1) := by decide +kernel
theorem dX10_fill_9 : decode cX10_fill 9 = .ok (.istore_n 2, 1) := by decide +kernel
theorem dX10_fill_10 : decode cX10_fill 10 = .ok (.iload_n 2, 1) := by decide +kernel
theorem dX10_fill_11 : decode cX10_fill 11 = .ok (.bipush 36, 2) := by decide +kernel
theorem dX10_fill_13 : decode cX10_fill 13 = .ok (.if_icmp .ge 60, 3) := by decide +kernel
theorem dX10_fill_16 : decode cX10_fill 16 = .ok (.aload_n 0, 1) := by decide +kernel
theorem dX10_fill_17 : decode cX10_fill 17 = .ok (.iload_n 2, 1) := by decide +kernel
theorem dX10_fill_18 : decode cX10_fill 18 = .ok (.invokevirtual 125, 3) := by decide +kernel
theorem dX10_fill_21 : decode cX10_fill 21 = .ok (.ifCond .eq 46, 3) := by decide +kernel
theorem dX10_fill_24 : decode cX10_fill 24 = .ok (.aload_n 0, 1) := by decide +kernel
theorem dX10_fill_25 : decode cX10_fill 25 = .ok (.getfield 49, 3) := by decide +kernel
theorem dX10_fill_28 : decode cX10_fill 28 = .ok (.iload_n 2, 1) := by decide +kernel
theorem dX10_fill_29 : decode cX10_fill 29 = .ok (.baload, 1) := by decide +kernel
theorem dX10_fill_30 : decode cX10_fill 30 = .ok (.ifCond .ne 37, 3) := by decide +kernel
theorem dX10_fill_33 : decode cX10_fill 33 = .ok (.iload_n 2, 1) := by decide +kernel
theorem dX10_fill_34 : decode cX10_fill 34 = .ok (.aload_n 0, 1) := by decide +kernel
theorem dX10_fill_35 : decode cX10_fill 35 = .ok (.getfield 103, 3) := by decide +kernel
theorem dX10_fill_38 : decode cX10_fill 38 = .ok (.if_icmp .eq 29, 3) := by decide +kernel
theorem dX10_fill_41 : decode cX10_fill 41 = .ok (.iload_n 2, 1) := by decide +kernel
theorem dX10_fill_42 : decode cX10_fill 42 = .ok (.aload_n 0, 1) := by decide +kernel
theorem dX10_fill_43 : decode cX10_fill 43 = .ok (.getfield 106, 3) := by decide +kernel
theorem dX10_fill_46 : decode cX10_fill 46 = .ok (.if_icmp .eq 21, 3) := by decide +kernel
theorem dX10_fill_49 : decode cX10_fill 49 = .ok (.aload_n 0, 1) := by decide +kernel
theorem dX10_fill_50 : decode cX10_fill 50 = .ok (.iload_n 2, 1) := by decide +kernel
theorem dX10_fill_51 : decode cX10_fill 51 = .ok (.invokevirtual 180, 3) := by decide +kernel
theorem dX10_fill_54 : decode cX10_fill 54 = .ok (.iconst 2, 1) := by decide +kernel
theorem dX10_fill_55 : decode cX10_fill 55 = .ok (.if_icmp .ge 12, 3) := by decide +kernel
theorem dX10_fill_58 : decode cX10_fill 58 = .ok (.aload_n 0, 1) := by decide +kernel
theorem dX10_fill_59 : decode cX10_fill 59 = .ok (.getfield 49, 3) := by decide +kernel
theorem dX10_fill_62 : decode cX10_fill 62 = .ok (.iload_n 2, 1) := by decide +kernel
theorem dX10_fill_63 : decode cX10_fill 63 = .ok (.iconst 1, 1) := by decide +kernel
theorem dX10_fill_64 : decode cX10_fill 64 = .ok (.bastore, 1) := by decide +kernel
theorem dX10_fill_65 : decode cX10_fill 65 = .ok (.iconst 1, 1) := by decide +kernel
theorem dX10_fill_66 : decode cX10_fill 66 = .ok (.istore_n 1, 1) := by decide +kernel
theorem dX10_fill_67 : decode cX10_fill 67 = .ok (.iinc 2 1, 3) := by decide +kernel
theorem dX10_fill_70 : decode cX10_fill 70 = .ok (.goto (-60), 3) := by decide +kernel
theorem dX10_fill_73 : decode cX10_fill 73 = .ok (.goto (-71), 3) := by decide +kernel
theorem dX10_fill_76 : decode cX10_fill 76 = .ok (.iconst 0, 1) := by decide +kernel
theorem dX10_fill_77 : decode cX10_fill 77 = .ok (.istore_n 2, 1) := by decide +kernel
theorem dX10_fill_78 : decode cX10_fill 78 = .ok (.iconst 0, 1) := by decide +kernel
theorem dX10_fill_79 : decode cX10_fill 79 = .ok (.istore_n 3, 1) := by decide +kernel
theorem dX10_fill_80 : decode cX10_fill 80 = .ok (.iload_n 3, 1) := by decide +kernel
theorem dX10_fill_81 : decode cX10_fill 81 = .ok (.bipush 36, 2) := by decide +kernel
theorem dX10_fill_83 : decode cX10_fill 83 = .ok (.if_icmp .ge 34, 3) := by decide +kernel
theorem dX10_fill_86 : decode cX10_fill 86 = .ok (.iload_n 2, 1) := by decide +kernel
theorem dX10_fill_87 : decode cX10_fill 87 = .ok (.aload_n 0, 1) := by decide +kernel
theorem dX10_fill_88 : decode cX10_fill 88 = .ok (.iload_n 3, 1) := by decide +kernel
theorem dX10_fill_89 : decode cX10_fill 89 = .ok (.invokevirtual 125, 3) := by decide +kernel
theorem dX10_fill_92 : decode cX10_fill 92 = .ok (.ifCond .eq 16, 3) := by decide +kernel
theorem dX10_fill_95 : decode cX10_fill 95 = .ok (.aload_n 0, 1) := by decide +kernel
theorem dX10_fill_96 : decode cX10_fill 96 = .ok (.getfield 49, 3) := by decide +kernel
theorem dX10_fill_99 : decode cX10_fill 99 = .ok (.iload_n 3, 1) := by decide +kernel
theorem dX10_fill_100 : decode cX10_fill 100 = .ok (.baload, 1) := by decide +kernel
theorem dX10_fill_101 : decode cX10_fill 101 = .ok (.ifCond .ne 7, 3) := by decide +kernel
theorem dX10_fill_104 : decode cX10_fill 104 = .ok (.iconst 1, 1) := by decide +kernel
theorem dX10_fill_105 : decode cX10_fill 105 = .ok (.goto 4, 3) := by decide +kernel
theorem dX10_fill_108 : decode cX10_fill 108 = .ok (.iconst 0, 1) := by decide +kernel
theorem dX10_fill_109 : decode cX10_fill 109 = .ok (.iadd, 1) := by decide +kernel
theorem dX10_fill_110 : decode cX10_fill 110 = .ok (.istore_n 2, 1) := by decide +kernel
theorem dX10_fill_111 : decode cX10_fill 111 = .ok (.iinc 3 1, 3) := by decide +kernel
theorem dX10_fill_114 : decode cX10_fill 114 = .ok (.goto (-34), 3) := by decide +kernel
theorem dX10_fill_117 : decode cX10_fill 117 = .ok (.iload_n 2, 1) := by decide +kernel
theorem dX10_fill_118 : decode cX10_fill 118 = .ok (.ireturn, 1) := by decide +kernel
theorem dX10_clearShut_0 : decode cX10_clearShut 0 = .ok (.iconst 0, 1) := by decide +kernel
theorem dX10_clearShut_1 : decode cX10_clearShut 1 = .ok (.istore_n 1, 1) := by decide +kernel
theorem dX10_clearShut_2 : decode cX10_clearShut 2 = .ok (.iload_n 1, 1) := by decide +kernel
theorem dX10_clearShut_3 : decode cX10_clearShut 3 = .ok (.bipush 36, 2) := by decide +kernel
theorem dX10_clearShut_5 : decode cX10_clearShut 5 = .ok (.if_icmp .ge 16, 3) := by decide +kernel
theorem dX10_clearShut_8 : decode cX10_clearShut 8 = .ok (.aload_n 0, 1) := by decide +kernel
theorem dX10_clearShut_9 : decode cX10_clearShut 9 = .ok (.getfield 49, 3) := by decide +kernel
theorem dX10_clearShut_12 : decode cX10_clearShut 12 = .ok (.iload_n 1, 1) := by decide +kernel
theorem dX10_clearShut_13 : decode cX10_clearShut 13 = .ok (.iconst 0, 1) := by decide +kernel
theorem dX10_clearShut_14 : decode cX10_clearShut 14 = .ok (.bastore, 1) := by decide +kernel
theorem dX10_clearShut_15 : decode cX10_clearShut 15 = .ok (.iinc 1 1, 3) := by decide +kernel
theorem dX10_clearShut_18 : decode cX10_clearShut 18 = .ok (.goto (-16), 3) := by decide +kernel
theorem dX10_clearShut_21 : decode cX10_clearShut 21 = .ok (.return_, 1) := by decide +kernel
set_option maxRecDepth 20000 in
theorem ggX10_about_X10_isThere : GoodIn wsX10_about wsX10_isThere := goodIn_r _ [11, 2, 3, 80, 81, 82, 83, 84, 85, 86, 87, 88, 89, 90, 91, 92, 93, 94, 95, 96, 97, 98, 99, 100, 101, 102, 103, 104, 105, 106, 107, 108, 109, 110, 111, 112, 113] (by decide +kernel) (by decide +kernel)
set_option maxRecDepth 20000 in
theorem gX10_about_X10_isThere : GoodIn wsX10_about (wsV RX10 125 RX10 yX10_isThere wsX10_isThere) := goodIn_app (goodIn_of _ (by decide +kernel)) ggX10_about_X10_isThere
set_option maxRecDepth 20000 in
theorem ggX10_about_X10_neighbours : GoodIn wsX10_about wsX10_neighbours := goodIn_r _ [15, 16, 17, 18, 10, 19, 20, 21, 22, 23, 24, 25, 2, 3, 26, 27, 28, 80, 81, 82, 83, 84, 85, 86, 87, 88, 89, 90, 91, 92, 93, 94, 95, 96, 97, 98, 99, 100, 101, 102, 103, 104, 105, 106, 107, 108, 109, 110, 111, 112, 113] (by decide +kernel) (by decide +kernel)
set_option maxRecDepth 20000 in
theorem gX10_about_X10_neighbours : GoodIn wsX10_about (wsV RX10 183 RX10 yX10_neighbours wsX10_neighbours) := goodIn_app (goodIn_of _ (by decide +kernel)) ggX10_about_X10_neighbours
set_option maxRecDepth 20000 in
theorem ggX10_about_X10_isMust : GoodIn wsX10_about wsX10_isMust := goodIn_r _ [32, 4, 5, 33, 34, 35, 36, 10, 37, 38, 39, 40, 41, 42, 43, 16, 17, 18, 19, 20, 21, 22, 23, 24, 25, 2, 3, 26, 27, 28, 80, 81, 82, 83, 84, 85, 86, 87, 88, 89, 90, 91, 92, 93, 94, 95, 96, 97, 98, 99, 100, 101, 102, 103, 104, 105, 106, 107, 108, 109, 110, 111, 112, 113] (by decide +kernel) (by decide +kernel)
set_option maxRecDepth 20000 in
theorem gX10_about_X10_isMust : GoodIn wsX10_about (wsV RX10 186 RX10 yX10_isMust wsX10_isMust) := goodIn_app (goodIn_of _ (by decide +kernel)) ggX10_about_X10_isMust
set_option maxRecDepth 20000 in
theorem ggX10_about_X10_openings : GoodIn wsX10_about wsX10_openings := goodIn_r _ [47, 20, 21, 80, 81, 82, 83, 84, 85, 86, 87, 88, 89, 90, 91, 92, 93, 94, 95, 96, 97, 98, 99, 100, 101, 102, 103, 104, 105, 106, 107, 108, 109, 110, 111, 112, 113] (by decide +kernel) (by decide +kernel)
set_option maxRecDepth 20000 in
theorem gX10_about_X10_openings : GoodIn wsX10_about (wsV RX10 189 RX10 yX10_openings wsX10_openings) := goodIn_app (goodIn_of _ (by decide +kernel)) ggX10_about_X10_openings
set_option maxRecDepth 20000 in
theorem ggX10_about_X10_layParts : GoodIn wsX10_about wsX10_layParts := goodIn_r _ [51, 52, 38, 7, 8, 9, 10, 11, 2, 3, 39, 40, 41, 42, 43, 33, 16, 17, 18, 19, 20, 21, 22, 23, 24, 25, 26, 27, 28, 80, 81, 82, 83, 84, 85, 86, 87, 88, 89, 90, 91, 92, 93, 94, 95, 96, 97, 98, 99, 100, 101, 102, 103, 104, 105, 106, 107, 108, 109, 110, 111, 112, 113] (by decide +kernel) (by decide +kernel)
set_option maxRecDepth 20000 in
theorem gX10_about_X10_layParts : GoodIn wsX10_about (wsV RX10 133 RX10 yX10_layParts wsX10_layParts) := goodIn_app (goodIn_of _ (by decide +kernel)) ggX10_about_X10_layParts
set_option maxRecDepth 20000 in
theorem ggX10_about_X10_bridges : GoodIn wsX10_about wsX10_bridges := goodIn_r _ [56, 20, 21, 57, 58, 59, 10, 60, 38, 61, 62, 63, 64, 22, 23, 24, 25, 2, 3, 26, 27, 28, 39, 40, 41, 42, 43, 33, 16, 17, 18, 19, 80, 81, 82, 83, 84, 85, 86, 87, 88, 89, 90, 91, 92, 93, 94, 95, 96, 97, 98, 99, 100, 101, 102, 103, 104, 105, 106, 107, 108, 109, 110, 111, 112, 113] (by decide +kernel) (by decide +kernel)
set_option maxRecDepth 20000 in
theorem gX10_about_X10_bridges : GoodIn wsX10_about (wsV RX10 192 RX10 yX10_bridges wsX10_bridges) := goodIn_app (goodIn_of _ (by decide +kernel)) ggX10_about_X10_bridges
set_option maxRecDepth 20000 in
theorem ggX10_about_X10_fill : GoodIn wsX10_about wsX10_fill := goodIn_r _ [68, 33, 4, 5, 7, 8, 9, 10, 11, 2, 3, 69, 70, 71, 72, 16, 17, 18, 19, 20, 21, 22, 23, 24, 25, 26, 27, 28, 80, 81, 82, 83, 84, 85, 86, 87, 88, 89, 90, 91, 92, 93, 94, 95, 96, 97, 98, 99, 100, 101, 102, 103, 104, 105, 106, 107, 108, 109, 110, 111, 112, 113] (by decide +kernel) (by decide +kernel)
set_option maxRecDepth 20000 in
theorem gX10_about_X10_fill : GoodIn wsX10_about (wsV RX10 195 RX10 yX10_fill wsX10_fill) := goodIn_app (goodIn_of _ (by decide +kernel)) ggX10_about_X10_fill
set_option maxRecDepth 20000 in
theorem ggX10_about_X10_clearShut : GoodIn wsX10_about wsX10_clearShut := goodIn_r _ [76, 33, 80, 81, 82, 83, 84, 85, 86, 87, 88, 89, 90, 91, 92, 93, 94, 95, 96, 97, 98, 99, 100, 101, 102, 103, 104, 105, 106, 107, 108, 109, 110, 111, 112, 113] (by decide +kernel) (by decide +kernel)
set_option maxRecDepth 20000 in
theorem gX10_about_X10_clearShut : GoodIn wsX10_about (wsV RX10 198 RX10 yX10_clearShut wsX10_clearShut) := goodIn_app (goodIn_of _ (by decide +kernel)) ggX10_about_X10_clearShut
set_option maxRecDepth 20000 in
theorem ggX10_about_X10_code : GoodIn wsX10_about wsX10_code := goodIn_r _ [79] (by decide +kernel) (by decide +kernel)
set_option maxRecDepth 20000 in
theorem gX10_about_X10_code : GoodIn wsX10_about (va_wsS RX10 164 yX10_code wsX10_code) := goodIn_app (goodIn_of _ (by decide +kernel)) ggX10_about_X10_code
theorem dX10_about_0 : decode cX10_about 0 = .ok (.aload_n 0, 1) := by decide +kernel
theorem dX10_about_1 : decode cX10_about 1 = .ok (.iconst 0, 1) := by decide +kernel
theorem dX10_about_2 : decode cX10_about 2 = .ok (.putfield 79, 3) := by decide +kernel
theorem dX10_about_5 : decode cX10_about 5 = .ok (.iconst 0, 1) := by decide +kernel
theorem dX10_about_6 : decode cX10_about 6 = .ok (.istore_n 2, 1) := by decide +kernel
theorem dX10_about_7 : decode cX10_about 7 = .ok (.iconst 0, 1) := by decide +kernel
theorem dX10_about_8 : decode cX10_about 8 = .ok (.istore_n 3, 1) := by decide +kernel
theorem dX10_about_9 : decode cX10_about 9 = .ok (.iconst 0, 1) := by decide +kernel
theorem dX10_about_10 : decode cX10_about 10 = .ok (.istore 4, 2) := by decide +kernel
theorem dX10_about_12 : decode cX10_about 12 = .ok (.iconst 0, 1) := by decide +kernel
theorem dX10_about_13 : decode cX10_about 13 = .ok (.istore 5, 2) := by decide +kernel
theorem dX10_about_15 : decode cX10_about 15 = .ok (.iload 5, 2) := by decide +kernel
theorem dX10_about_17 : decode cX10_about 17 = .ok (.bipush 36, 2) := by decide +kernel
theorem dX10_about_19 : decode cX10_about 19 = .ok (.if_icmp .ge 63, 3) := by decide +kernel
theorem dX10_about_22 : decode cX10_about 22 = .ok (.iload_n 2, 1) := by decide +kernel
theorem dX10_about_23 : decode cX10_about 23 = .ok (.aload_n 0, 1) := by decide +kernel
theorem dX10_about_24 : decode cX10_about 24 = .ok (.iload 5, 2) := by decide +kernel
theorem dX10_about_26 : decode cX10_about 26 = .ok (.invokevirtual 125, 3) := by decide +kernel
theorem dX10_about_29 : decode cX10_about 29 = .ok (.ifCond .eq 17, 3) := by decide +kernel
theorem dX10_about_32 : decode cX10_about 32 = .ok (.aload_n 0, 1) := by decide +kernel
theorem dX10_about_33 : decode cX10_about 33 = .ok (.iload 5, 2) := by decide +kernel
theorem dX10_about_35 : decode cX10_about 35 = .ok (.invokevirtual 183, 3) := by decide +kernel
theorem dX10_about_38 : decode cX10_about 38 = .ok (.iconst 1, 1) := by decide +kernel
theorem dX10_about_39 : decode cX10_about 39 = .ok (.if_icmp .ne 7, 3) := by decide +kernel
theorem dX10_about_42 : decode cX10_about 42 = .ok (.iconst 1, 1) := by decide +kernel
theorem dX10_about_43 : decode cX10_about 43 = .ok (.goto 4, 3) := by decide +kernel
theorem dX10_about_46 : decode cX10_about 46 = .ok (.iconst 0, 1) := by decide +kernel
theorem dX10_about_47 : decode cX10_about 47 = .ok (.iadd, 1) := by decide +kernel
theorem dX10_about_48 : decode cX10_about 48 = .ok (.istore_n 2, 1) := by decide +kernel
theorem dX10_about_49 : decode cX10_about 49 = .ok (.iload_n 3, 1) := by decide +kernel
theorem dX10_about_50 : decode cX10_about 50 = .ok (.aload_n 0, 1) := by decide +kernel
theorem dX10_about_51 : decode cX10_about 51 = .ok (.iload 5, 2) := by decide +kernel
theorem dX10_about_53 : decode cX10_about 53 = .ok (.invokevirtual 125, 3) := by decide +kernel
theorem dX10_about_56 : decode cX10_about 56 = .ok (.ifCond .eq 17, 3) := by decide +kernel
theorem dX10_about_59 : decode cX10_about 59 = .ok (.aload_n 0, 1) := by decide +kernel
theorem dX10_about_60 : decode cX10_about 60 = .ok (.iload 5, 2) := by decide +kernel
theorem dX10_about_62 : decode cX10_about 62 = .ok (.invokevirtual 183, 3) := by decide +kernel
theorem dX10_about_65 : decode cX10_about 65 = .ok (.iconst 2, 1) := by decide +kernel
theorem dX10_about_66 : decode cX10_about 66 = .ok (.if_icmp .le 7, 3) := by decide +kernel
theorem dX10_about_69 : decode cX10_about 69 = .ok (.iconst 1, 1) := by decide +kernel
theorem dX10_about_70 : decode cX10_about 70 = .ok (.goto 4, 3) := by decide +kernel
theorem dX10_about_73 : decode cX10_about 73 = .ok (.iconst 0, 1) := by decide +kernel
theorem dX10_about_74 : decode cX10_about 74 = .ok (.iadd, 1) := by decide +kernel
theorem dX10_about_75 : decode cX10_about 75 = .ok (.istore_n 3, 1) := by decide +kernel
theorem dX10_about_76 : decode cX10_about 76 = .ok (.iinc 5 1, 3) := by decide +kernel
theorem dX10_about_79 : decode cX10_about 79 = .ok (.goto (-64), 3) := by decide +kernel
theorem dX10_about_82 : decode cX10_about 82 = .ok (.iconst 0, 1) := by decide +kernel
theorem dX10_about_83 : decode cX10_about 83 = .ok (.istore 5, 2) := by decide +kernel
theorem dX10_about_85 : decode cX10_about 85 = .ok (.iload 5, 2) := by decide +kernel
theorem dX10_about_87 : decode cX10_about 87 = .ok (.bipush 36, 2) := by decide +kernel
theorem dX10_about_89 : decode cX10_about 89 = .ok (.if_icmp .ge 43, 3) := by decide +kernel
theorem dX10_about_92 : decode cX10_about 92 = .ok (.iload_n 1, 1) := by decide +kernel
theorem dX10_about_93 : decode cX10_about 93 = .ok (.bipush 9, 2) := by decide +kernel
theorem dX10_about_95 : decode cX10_about 95 = .ok (.if_icmp .ne 37, 3) := by decide +kernel
theorem dX10_about_98 : decode cX10_about 98 = .ok (.iload 4, 2) := by decide +kernel
theorem dX10_about_100 : decode cX10_about 100 = .ok (.aload_n 0, 1) := by decide +kernel
theorem dX10_about_101 : decode cX10_about 101 = .ok (.iload 5, 2) := by decide +kernel
theorem dX10_about_103 : decode cX10_about 103 = .ok (.invokevirtual 125, 3) := by decide +kernel
theorem dX10_about_106 : decode cX10_about 106 = .ok (.ifCond .eq 16, 3) := by decide +kernel
theorem dX10_about_109 : decode cX10_about 109 = .ok (.aload_n 0, 1) := by decide +kernel
theorem dX10_about_110 : decode cX10_about 110 = .ok (.iload 5, 2) := by decide +kernel
theorem dX10_about_112 : decode cX10_about 112 = .ok (.invokevirtual 186, 3) := by decide +kernel
theorem dX10_about_115 : decode cX10_about 115 = .ok (.ifCond .eq 7, 3) := by decide +kernel
theorem dX10_about_118 : decode cX10_about 118 = .ok (.iconst 1, 1) := by decide +kernel
theorem dX10_about_119 : decode cX10_about 119 = .ok (.goto 4, 3) := by decide +kernel
theorem dX10_about_122 : decode cX10_about 122 = .ok (.iconst 0, 1) := by decide +kernel
theorem dX10_about_123 : decode cX10_about 123 = .ok (.iadd, 1) := by decide +kernel
theorem dX10_about_124 : decode cX10_about 124 = .ok (.istore 4, 2) := by decide +kernel
theorem dX10_about_126 : decode cX10_about 126 = .ok (.iinc 5 1, 3) := by decide +kernel
theorem dX10_about_129 : decode cX10_about 129 = .ok (.goto (-44), 3) := by decide +kernel
theorem dX10_about_132 : decode cX10_about 132 = .ok (.iload_n 1, 1) := by decide +kernel
theorem dX10_about_133 : decode cX10_about 133 = .ok (.tableswitch 167 0 13 #[71, 81, 86, 91, 96, 101, 121, 123, 125, 130, 133, 146, 154, 162], 71) := by decide +kernel
theorem dX10_about_204 : decode cX10_about 204 = .ok (.aload_n 0, 1) := by decide +kernel
theorem dX10_about_205 : decode cX10_about 205 = .ok (.getfield 13, 3) := by decide +kernel
theorem dX10_about_208 : decode cX10_about 208 = .ok (.aload_n 0, 1) := by decide +kernel
theorem dX10_about_209 : decode cX10_about 209 = .ok (.getfield 17, 3) := by decide +kernel
theorem dX10_about_212 : decode cX10_about 212 = .ok (.imul, 1) := by decide +kernel
theorem dX10_about_213 : decode cX10_about 213 = .ok (.ireturn, 1) := by decide +kernel
theorem dX10_about_214 : decode cX10_about 214 = .ok (.aload_n 0, 1) := by decide +kernel
theorem dX10_about_215 : decode cX10_about 215 = .ok (.getfield 13, 3) := by decide +kernel
theorem dX10_about_218 : decode cX10_about 218 = .ok (.ireturn, 1) := by decide +kernel
theorem dX10_about_219 : decode cX10_about 219 = .ok (.aload_n 0, 1) := by decide +kernel
theorem dX10_about_220 : decode cX10_about 220 = .ok (.getfield 17, 3) := by decide +kernel
theorem dX10_about_223 : decode cX10_about 223 = .ok (.ireturn, 1) := by decide +kernel
theorem dX10_about_224 : decode cX10_about 224 = .ok (.aload_n 0, 1) := by decide +kernel
theorem dX10_about_225 : decode cX10_about 225 = .ok (.invokevirtual 189, 3) := by decide +kernel
theorem dX10_about_228 : decode cX10_about 228 = .ok (.ireturn, 1) := by decide +kernel
theorem dX10_about_229 : decode cX10_about 229 = .ok (.aload_n 0, 1) := by decide +kernel
theorem dX10_about_230 : decode cX10_about 230 = .ok (.invokevirtual 133, 3) := by decide +kernel
theorem dX10_about_233 : decode cX10_about 233 = .ok (.ireturn, 1) := by decide +kernel
theorem dX10_about_234 : decode cX10_about 234 = .ok (.aload_n 0, 1) := by decide +kernel
theorem dX10_about_235 : decode cX10_about 235 = .ok (.invokevirtual 189, 3) := by decide +kernel
theorem dX10_about_238 : decode cX10_about 238 = .ok (.aload_n 0, 1) := by decide +kernel
theorem dX10_about_239 : decode cX10_about 239 = .ok (.getfield 13, 3) := by decide +kernel
theorem dX10_about_242 : decode cX10_about 242 = .ok (.aload_n 0, 1) := by decide +kernel
theorem dX10_about_243 : decode cX10_about 243 = .ok (.getfield 17, 3) := by decide +kernel
theorem dX10_about_246 : decode cX10_about 246 = .ok (.imul, 1) := by decide +kernel
theorem dX10_about_247 : decode cX10_about 247 = .ok (.isub, 1) := by decide +kernel
theorem dX10_about_248 : decode cX10_about 248 = .ok (.aload_n 0, 1) := by decide +kernel
theorem dX10_about_249 : decode cX10_about 249 = .ok (.invokevirtual 133, 3) := by decide +kernel
theorem dX10_about_252 : decode cX10_about 252 = .ok (.iadd, 1) := by decide +kernel
theorem dX10_about_253 : decode cX10_about 253 = .ok (.ireturn, 1) := by decide +kernel
theorem dX10_about_254 : decode cX10_about 254 = .ok (.iload_n 2, 1) := by decide +kernel
theorem dX10_about_255 : decode cX10_about 255 = .ok (.ireturn, 1) := by decide +kernel
theorem dX10_about_256 : decode cX10_about 256 = .ok (.iload_n 3, 1) := by decide +kernel
theorem dX10_about_257 : decode cX10_about 257 = .ok (.ireturn, 1) := by decide +kernel
theorem dX10_about_258 : decode cX10_about 258 = .ok (.aload_n 0, 1) := by decide +kernel
theorem dX10_about_259 : decode cX10_about 259 = .ok (.invokevirtual 192, 3) := by decide +kernel
theorem dX10_about_262 : decode cX10_about 262 = .ok (.ireturn, 1) := by decide +kernel
theorem dX10_about_263 : decode cX10_about 263 = .ok (.iload 4, 2) := by decide +kernel
theorem dX10_about_265 : decode cX10_about 265 = .ok (.ireturn, 1) := by decide +kernel
theorem dX10_about_266 : decode cX10_about 266 = .ok (.aload_n 0, 1) := by decide +kernel
theorem dX10_about_267 : decode cX10_about 267 = .ok (.invokevirtual 195, 3) := by decide +kernel
theorem dX10_about_270 : decode cX10_about 270 = .ok (.istore 5, 2) := by decide +kernel
theorem dX10_about_272 : decode cX10_about 272 = .ok (.aload_n 0, 1) := by decide +kernel
theorem dX10_about_273 : decode cX10_about 273 = .ok (.invokevirtual 198, 3) := by decide +kernel
theorem dX10_about_276 : decode cX10_about 276 = .ok (.iload 5, 2) := by decide +kernel
theorem dX10_about_278 : decode cX10_about 278 = .ok (.ireturn, 1) := by decide +kernel
theorem dX10_about_279 : decode cX10_about 279 = .ok (.aload_n 0, 1) := by decide +kernel
theorem dX10_about_280 : decode cX10_about 280 = .ok (.getfield 103, 3) := by decide +kernel
theorem dX10_about_283 : decode cX10_about 283 = .ok (.invokestatic 164, 3) := by decide +kernel
theorem dX10_about_286 : decode cX10_about 286 = .ok (.ireturn, 1) := by decide +kernel
theorem dX10_about_287 : decode cX10_about 287 = .ok (.aload_n 0, 1) := by decide +kernel
theorem dX10_about_288 : decode cX10_about 288 = .ok (.getfield 106, 3) := by decide +kernel
theorem dX10_about_291 : decode cX10_about 291 = .ok (.invokestatic 164, 3) := by decide +kernel
theorem dX10_about_294 : decode cX10_about 294 = .ok (.ireturn, 1) := by decide +kernel
theorem dX10_about_295 : decode cX10_about 295 = .ok (.aload_n 0, 1) := by decide +kernel
theorem dX10_about_296 : decode cX10_about 296 = .ok (.getfield 88, 3) := by decide +kernel
theorem dX10_about_299 : decode cX10_about 299 = .ok (.ireturn, 1) := by decide +kernel
theorem dX10_about_300 : decode cX10_about 300 = .ok (.bipush (-2), 2) := by decide +kernel
theorem dX10_about_302 : decode cX10_about 302 = .ok (.ireturn, 1) := by decide +kernel
set_option maxRecDepth 20000 in
theorem ggX10_part_X10_isCell : GoodIn wsX10_part wsX10_isCell := goodIn_r _ [7, 8, 9, 44, 45, 46, 47, 48, 49, 50, 51, 52, 53, 54, 55, 56, 57, 58, 59, 60, 61, 62, 63, 64, 65, 66, 67, 68, 69, 70, 71, 72, 73, 74, 75, 76, 77] (by decide +kernel) (by decide +kernel)
set_option maxRecDepth 20000 in
theorem gX10_part_X10_isCell : GoodIn wsX10_part (wsV RX10 151 RX10 yX10_isCell wsX10_isCell) := goodIn_app (goodIn_of _ (by decide +kernel)) ggX10_part_X10_isCell
set_option maxRecDepth 20000 in
theorem ggX10_part_X10_layParts : GoodIn wsX10_part wsX10_layParts := goodIn_r _ [13, 2, 14, 15, 16, 17, 6, 18, 8, 9, 19, 20, 21, 22, 23, 24, 25, 26, 27, 28, 29, 30, 31, 32, 33, 34, 35, 36, 37, 44, 45, 46, 47, 48, 49, 50, 51, 52, 53, 54, 55, 56, 57, 58, 59, 60, 61, 62, 63, 64, 65, 66, 67, 68, 69, 70, 71, 72, 73, 74, 75, 76, 77] (by decide +kernel) (by decide +kernel)
set_option maxRecDepth 20000 in
theorem gX10_part_X10_layParts : GoodIn wsX10_part (wsV RX10 133 RX10 yX10_layParts wsX10_layParts) := goodIn_app (goodIn_of _ (by decide +kernel)) ggX10_part_X10_layParts
set_option maxRecDepth 20000 in
theorem ggX10_part_X10_index : GoodIn wsX10_part wsX10_index := goodIn_r _ [40] (by decide +kernel) (by decide +kernel)
set_option maxRecDepth 20000 in
theorem gX10_part_X10_index : GoodIn wsX10_part (va_wsS RX10 157 yX10_index wsX10_index) := goodIn_app (goodIn_of _ (by decide +kernel)) ggX10_part_X10_index
set_option maxRecDepth 20000 in
theorem ggX10_part_X10_code : GoodIn wsX10_part wsX10_code := goodIn_r _ [43] (by decide +kernel) (by decide +kernel)
set_option maxRecDepth 20000 in
theorem gX10_part_X10_code : GoodIn wsX10_part (va_wsS RX10 164 yX10_code wsX10_code) := goodIn_app (goodIn_of _ (by decide +kernel)) ggX10_part_X10_code
theorem dX10_part_0 : decode cX10_part 0 = .ok (.aload_n 0, 1) := by decide +kernel
theorem dX10_part_1 : decode cX10_part 1 = .ok (.iconst 0, 1) := by decide +kernel
theorem dX10_part_2 : decode cX10_part 2 = .ok (.putfield 79, 3) := by decide +kernel
theorem dX10_part_5 : decode cX10_part 5 = .ok (.aload_n 0, 1) := by decide +kernel
theorem dX10_part_6 : decode cX10_part 6 = .ok (.iload_n 1, 1) := by decide +kernel
theorem dX10_part_7 : decode cX10_part 7 = .ok (.invokevirtual 151, 3) := by decide +kernel
theorem dX10_part_10 : decode cX10_part 10 = .ok (.ifCond .ne 5, 3) := by decide +kernel
theorem dX10_part_13 : decode cX10_part 13 = .ok (.iconst (-1), 1) := by decide +kernel
theorem dX10_part_14 : decode cX10_part 14 = .ok (.ireturn, 1) := by decide +kernel
theorem dX10_part_15 : decode cX10_part 15 = .ok (.aload_n 0, 1) := by decide +kernel
theorem dX10_part_16 : decode cX10_part 16 = .ok (.invokevirtual 133, 3) := by decide +kernel
theorem dX10_part_19 : decode cX10_part 19 = .ok (.pop, 1) := by decide +kernel
theorem dX10_part_20 : decode cX10_part 20 = .ok (.aload_n 0, 1) := by decide +kernel
theorem dX10_part_21 : decode cX10_part 21 = .ok (.getfield 52, 3) := by decide +kernel
theorem dX10_part_24 : decode cX10_part 24 = .ok (.iload_n 1, 1) := by decide +kernel
theorem dX10_part_25 : decode cX10_part 25 = .ok (.invokestatic 157, 3) := by decide +kernel
theorem dX10_part_28 : decode cX10_part 28 = .ok (.iaload, 1) := by decide +kernel
theorem dX10_part_29 : decode cX10_part 29 = .ok (.invokestatic 164, 3) := by decide +kernel
theorem dX10_part_32 : decode cX10_part 32 = .ok (.ireturn, 1) := by decide +kernel
set_option maxRecDepth 20000 in
theorem ggX10_bridge_X10_isCell : GoodIn wsX10_bridge wsX10_isCell := goodIn_r _ [6, 7, 8, 44, 45, 46, 47, 48, 49, 50, 51, 52, 53, 54, 55, 56, 57, 58, 59, 60, 61, 62, 63, 64, 65, 66, 67, 68, 69, 70, 71, 72, 73, 74, 75, 76, 77] (by decide +kernel) (by decide +kernel)
set_option maxRecDepth 20000 in
theorem gX10_bridge_X10_isCell : GoodIn wsX10_bridge (wsV RX10 151 RX10 yX10_isCell wsX10_isCell) := goodIn_app (goodIn_of _ (by decide +kernel)) ggX10_bridge_X10_isCell
set_option maxRecDepth 20000 in
theorem ggX10_bridge_X10_isSide : GoodIn wsX10_bridge wsX10_isSide := goodIn_r _ [11, 12, 13, 14, 5, 15] (by decide +kernel) (by decide +kernel)
set_option maxRecDepth 20000 in
theorem gX10_bridge_X10_isSide : GoodIn wsX10_bridge (va_wsS RX10 154 yX10_isSide wsX10_isSide) := goodIn_app (goodIn_of _ (by decide +kernel)) ggX10_bridge_X10_isSide
set_option maxRecDepth 20000 in
theorem ggX10_bridge_X10_index : GoodIn wsX10_bridge wsX10_index := goodIn_r _ [18] (by decide +kernel) (by decide +kernel)
set_option maxRecDepth 20000 in
theorem gX10_bridge_X10_index : GoodIn wsX10_bridge (va_wsS RX10 157 yX10_index wsX10_index) := goodIn_app (goodIn_of _ (by decide +kernel)) ggX10_bridge_X10_index
set_option maxRecDepth 20000 in
theorem ggX10_bridge_X10_isOpen : GoodIn wsX10_bridge wsX10_isOpen := goodIn_r _ [22, 23, 24, 25, 26, 27, 5, 28, 7, 8, 13, 14, 15, 44, 45, 46, 47, 48, 49, 50, 51, 52, 53, 54, 55, 56, 57, 58, 59, 60, 61, 62, 63, 64, 65, 66, 67, 68, 69, 70, 71, 72, 73, 74, 75, 76, 77] (by decide +kernel) (by decide +kernel)
set_option maxRecDepth 20000 in
theorem gX10_bridge_X10_isOpen : GoodIn wsX10_bridge (wsV RX10 160 RX10 yX10_isOpen wsX10_isOpen) := goodIn_app (goodIn_of _ (by decide +kernel)) ggX10_bridge_X10_isOpen
set_option maxRecDepth 20000 in
theorem ggX10_bridge_X10_isBridge : GoodIn wsX10_bridge wsX10_isBridge := goodIn_r _ [32, 33, 34, 35, 36, 5, 37, 23, 24, 25, 26, 27, 28, 7, 8, 13, 14, 15, 38, 39, 40, 41, 42, 43, 19, 20, 21, 22, 44, 45, 46, 47, 48, 49, 50, 51, 52, 53, 54, 55, 56, 57, 58, 59, 60, 61, 62, 63, 64, 65, 66, 67, 68, 69, 70, 71, 72, 73, 74, 75, 76, 77] (by decide +kernel) (by decide +kernel)
set_option maxRecDepth 20000 in
theorem gX10_bridge_X10_isBridge : GoodIn wsX10_bridge (wsV RX10 174 RX10 yX10_isBridge wsX10_isBridge) := goodIn_app (goodIn_of _ (by decide +kernel)) ggX10_bridge_X10_isBridge
theorem dX10_bridge_0 : decode cX10_bridge 0 = .ok (.aload_n 0, 1) := by decide +kernel
theorem dX10_bridge_1 : decode cX10_bridge 1 = .ok (.iconst 0, 1) := by decide +kernel
theorem dX10_bridge_2 : decode cX10_bridge 2 = .ok (.putfield 79, 3) := by decide +kernel
theorem dX10_bridge_5 : decode cX10_bridge 5 = .ok (.aload_n 0, 1) := by decide +kernel
theorem dX10_bridge_6 : decode cX10_bridge 6 = .ok (.iload_n 1, 1) := by decide +kernel
theorem dX10_bridge_7 : decode cX10_bridge 7 = .ok (.invokevirtual 151, 3) := by decide +kernel
theorem dX10_bridge_10 : decode cX10_bridge 10 = .ok (.ifCond .eq 10, 3) := by decide +kernel
theorem dX10_bridge_13 : decode cX10_bridge 13 = .ok (.iload_n 2, 1) := by decide +kernel
theorem dX10_bridge_14 : decode cX10_bridge 14 = .ok (.invokestatic 154, 3) := by decide +kernel
theorem dX10_bridge_17 : decode cX10_bridge 17 = .ok (.ifCond .ne 5, 3) := by decide +kernel
theorem dX10_bridge_20 : decode cX10_bridge 20 = .ok (.iconst (-1), 1) := by decide +kernel
theorem dX10_bridge_21 : decode cX10_bridge 21 = .ok (.ireturn, 1) := by decide +kernel
theorem dX10_bridge_22 : decode cX10_bridge 22 = .ok (.aload_n 0, 1) := by decide +kernel
theorem dX10_bridge_23 : decode cX10_bridge 23 = .ok (.iload_n 1, 1) := by decide +kernel
theorem dX10_bridge_24 : decode cX10_bridge 24 = .ok (.invokestatic 157, 3) := by decide +kernel
theorem dX10_bridge_27 : decode cX10_bridge 27 = .ok (.iload_n 2, 1) := by decide +kernel
theorem dX10_bridge_28 : decode cX10_bridge 28 = .ok (.invokevirtual 160, 3) := by decide +kernel
theorem dX10_bridge_31 : decode cX10_bridge 31 = .ok (.ifCond .ne 6, 3) := by decide +kernel
theorem dX10_bridge_34 : decode cX10_bridge 34 = .ok (.bipush (-3), 2) := by decide +kernel
theorem dX10_bridge_36 : decode cX10_bridge 36 = .ok (.ireturn, 1) := by decide +kernel
theorem dX10_bridge_37 : decode cX10_bridge 37 = .ok (.aload_n 0, 1) := by decide +kernel
theorem dX10_bridge_38 : decode cX10_bridge 38 = .ok (.iload_n 1, 1) := by decide +kernel
theorem dX10_bridge_39 : decode cX10_bridge 39 = .ok (.invokestatic 157, 3) := by decide +kernel
theorem dX10_bridge_42 : decode cX10_bridge 42 = .ok (.iload_n 2, 1) := by decide +kernel
theorem dX10_bridge_43 : decode cX10_bridge 43 = .ok (.invokevirtual 174, 3) := by decide +kernel
theorem dX10_bridge_46 : decode cX10_bridge 46 = .ok (.ifCond .eq 7, 3) := by decide +kernel
theorem dX10_bridge_49 : decode cX10_bridge 49 = .ok (.iconst 1, 1) := by decide +kernel
theorem dX10_bridge_50 : decode cX10_bridge 50 = .ok (.goto 4, 3) := by decide +kernel
theorem dX10_bridge_53 : decode cX10_bridge 53 = .ok (.iconst 0, 1) := by decide +kernel
theorem dX10_bridge_54 : decode cX10_bridge 54 = .ok (.ireturn, 1) := by decide +kernel
set_option maxRecDepth 20000 in
theorem ggX10_must_X10_isCell : GoodIn wsX10_must wsX10_isCell := goodIn_r _ [6, 7, 8, 42, 43, 44, 45, 46, 47, 48, 49, 50, 51, 52, 53, 54, 55, 56, 57, 58, 59, 60, 61, 62, 63, 64, 65, 66, 67, 68, 69, 70, 71, 72, 73, 74, 75] (by decide +kernel) (by decide +kernel)
set_option maxRecDepth 20000 in
theorem gX10_must_X10_isCell : GoodIn wsX10_must (wsV RX10 151 RX10 yX10_isCell wsX10_isCell) := goodIn_app (goodIn_of _ (by decide +kernel)) ggX10_must_X10_isCell
set_option maxRecDepth 20000 in
theorem ggX10_must_X10_index : GoodIn wsX10_must wsX10_index := goodIn_r _ [11] (by decide +kernel) (by decide +kernel)
set_option maxRecDepth 20000 in
theorem gX10_must_X10_index : GoodIn wsX10_must (va_wsS RX10 157 yX10_index wsX10_index) := goodIn_app (goodIn_of _ (by decide +kernel)) ggX10_must_X10_index
set_option maxRecDepth 20000 in
theorem ggX10_must_X10_isMust : GoodIn wsX10_must wsX10_isMust := goodIn_r _ [15, 16, 17, 18, 19, 20, 21, 5, 22, 23, 24, 25, 26, 27, 28, 29, 30, 31, 32, 33, 34, 35, 36, 37, 38, 7, 8, 39, 40, 41, 42, 43, 44, 45, 46, 47, 48, 49, 50, 51, 52, 53, 54, 55, 56, 57, 58, 59, 60, 61, 62, 63, 64, 65, 66, 67, 68, 69, 70, 71, 72, 73, 74, 75] (by decide +kernel) (by decide +kernel)
set_option maxRecDepth 20000 in
theorem gX10_must_X10_isMust : GoodIn wsX10_must (wsV RX10 186 RX10 yX10_isMust wsX10_isMust) := goodIn_app (goodIn_of _ (by decide +kernel)) ggX10_must_X10_isMust
theorem dX10_must_0 : decode cX10_must 0 = .ok (.aload_n 0, 1) := by decide +kernel
theorem dX10_must_1 : decode cX10_must 1 = .ok (.iconst 0, 1) := by decide +kernel
theorem dX10_must_2 : decode cX10_must 2 = .ok (.putfield 79, 3) := by decide +kernel
theorem dX10_must_5 : decode cX10_must 5 = .ok (.aload_n 0, 1) := by decide +kernel
theorem dX10_must_6 : decode cX10_must 6 = .ok (.iload_n 1, 1) := by decide +kernel
theorem dX10_must_7 : decode cX10_must 7 = .ok (.invokevirtual 151, 3) := by decide +kernel
theorem dX10_must_10 : decode cX10_must 10 = .ok (.ifCond .ne 5, 3) := by decide +kernel
theorem dX10_must_13 : decode cX10_must 13 = .ok (.iconst (-1), 1) := by decide +kernel
theorem dX10_must_14 : decode cX10_must 14 = .ok (.ireturn, 1) := by decide +kernel
theorem dX10_must_15 : decode cX10_must 15 = .ok (.aload_n 0, 1) := by decide +kernel
theorem dX10_must_16 : decode cX10_must 16 = .ok (.iload_n 1, 1) := by decide +kernel
theorem dX10_must_17 : decode cX10_must 17 = .ok (.invokestatic 157, 3) := by decide +kernel
theorem dX10_must_20 : decode cX10_must 20 = .ok (.invokevirtual 186, 3) := by decide +kernel
theorem dX10_must_23 : decode cX10_must 23 = .ok (.ifCond .eq 7, 3) := by decide +kernel
theorem dX10_must_26 : decode cX10_must 26 = .ok (.iconst 1, 1) := by decide +kernel
theorem dX10_must_27 : decode cX10_must 27 = .ok (.goto 4, 3) := by decide +kernel
theorem dX10_must_30 : decode cX10_must 30 = .ok (.iconst 0, 1) := by decide +kernel
theorem dX10_must_31 : decode cX10_must 31 = .ok (.ireturn, 1) := by decide +kernel
set_option maxRecDepth 20000 in
theorem ggX10_left_X10_isCell : GoodIn wsX10_left wsX10_isCell := goodIn_r _ [7, 8, 9, 44, 45, 46, 47, 48, 49, 50, 51, 52, 53, 54, 55, 56, 57, 58, 59, 60, 61, 62, 63, 64, 65, 66, 67, 68, 69, 70, 71, 72, 73, 74, 75, 76, 77] (by decide +kernel) (by decide +kernel)
set_option maxRecDepth 20000 in
theorem gX10_left_X10_isCell : GoodIn wsX10_left (wsV RX10 151 RX10 yX10_isCell wsX10_isCell) := goodIn_app (goodIn_of _ (by decide +kernel)) ggX10_left_X10_isCell
set_option maxRecDepth 20000 in
theorem ggX10_left_X10_fill : GoodIn wsX10_left wsX10_fill := goodIn_r _ [13, 2, 14, 15, 16, 17, 18, 6, 19, 8, 9, 20, 21, 22, 23, 24, 25, 26, 27, 28, 29, 30, 31, 32, 33, 34, 35, 36, 44, 45, 46, 47, 48, 49, 50, 51, 52, 53, 54, 55, 56, 57, 58, 59, 60, 61, 62, 63, 64, 65, 66, 67, 68, 69, 70, 71, 72, 73, 74, 75, 76, 77] (by decide +kernel) (by decide +kernel)
set_option maxRecDepth 20000 in
theorem gX10_left_X10_fill : GoodIn wsX10_left (wsV RX10 195 RX10 yX10_fill wsX10_fill) := goodIn_app (goodIn_of _ (by decide +kernel)) ggX10_left_X10_fill
set_option maxRecDepth 20000 in
theorem ggX10_left_X10_index : GoodIn wsX10_left wsX10_index := goodIn_r _ [39] (by decide +kernel) (by decide +kernel)
set_option maxRecDepth 20000 in
theorem gX10_left_X10_index : GoodIn wsX10_left (va_wsS RX10 157 yX10_index wsX10_index) := goodIn_app (goodIn_of _ (by decide +kernel)) ggX10_left_X10_index
set_option maxRecDepth 20000 in
theorem ggX10_left_X10_clearShut : GoodIn wsX10_left wsX10_clearShut := goodIn_r _ [43, 2, 44, 45, 46, 47, 48, 49, 50, 51, 52, 53, 54, 55, 56, 57, 58, 59, 60, 61, 62, 63, 64, 65, 66, 67, 68, 69, 70, 71, 72, 73, 74, 75, 76, 77] (by decide +kernel) (by decide +kernel)
set_option maxRecDepth 20000 in
theorem gX10_left_X10_clearShut : GoodIn wsX10_left (wsV RX10 198 RX10 yX10_clearShut wsX10_clearShut) := goodIn_app (goodIn_of _ (by decide +kernel)) ggX10_left_X10_clearShut
theorem dX10_left_0 : decode cX10_left 0 = .ok (.aload_n 0, 1) := by decide +kernel
theorem dX10_left_1 : decode cX10_left 1 = .ok (.iconst 0, 1) := by decide +kernel
theorem dX10_left_2 : decode cX10_left 2 = .ok (.putfield 79, 3) := by decide +kernel
theorem dX10_left_5 : decode cX10_left 5 = .ok (.aload_n 0, 1) := by decide +kernel
theorem dX10_left_6 : decode cX10_left 6 = .ok (.iload_n 1, 1) := by decide +kernel
theorem dX10_left_7 : decode cX10_left 7 = .ok (.invokevirtual 151, 3) := by decide +kernel
theorem dX10_left_10 : decode cX10_left 10 = .ok (.ifCond .ne 5, 3) := by decide +kernel
theorem dX10_left_13 : decode cX10_left 13 = .ok (.iconst (-1), 1) := by decide +kernel
theorem dX10_left_14 : decode cX10_left 14 = .ok (.ireturn, 1) := by decide +kernel
theorem dX10_left_15 : decode cX10_left 15 = .ok (.aload_n 0, 1) := by decide +kernel
theorem dX10_left_16 : decode cX10_left 16 = .ok (.invokevirtual 195, 3) := by decide +kernel
theorem dX10_left_19 : decode cX10_left 19 = .ok (.pop, 1) := by decide +kernel
theorem dX10_left_20 : decode cX10_left 20 = .ok (.aload_n 0, 1) := by decide +kernel
theorem dX10_left_21 : decode cX10_left 21 = .ok (.getfield 49, 3) := by decide +kernel
theorem dX10_left_24 : decode cX10_left 24 = .ok (.iload_n 1, 1) := by decide +kernel
theorem dX10_left_25 : decode cX10_left 25 = .ok (.invokestatic 157, 3) := by decide +kernel
theorem dX10_left_28 : decode cX10_left 28 = .ok (.baload, 1) := by decide +kernel
theorem dX10_left_29 : decode cX10_left 29 = .ok (.ifCond .eq 7, 3) := by decide +kernel
theorem dX10_left_32 : decode cX10_left 32 = .ok (.iconst 0, 1) := by decide +kernel
theorem dX10_left_33 : decode cX10_left 33 = .ok (.goto 4, 3) := by decide +kernel
theorem dX10_left_36 : decode cX10_left 36 = .ok (.iconst 1, 1) := by decide +kernel
theorem dX10_left_37 : decode cX10_left 37 = .ok (.istore_n 2, 1) := by decide +kernel
theorem dX10_left_38 : decode cX10_left 38 = .ok (.aload_n 0, 1) := by decide +kernel
theorem dX10_left_39 : decode cX10_left 39 = .ok (.invokevirtual 198, 3) := by decide +kernel
theorem dX10_left_42 : decode cX10_left 42 = .ok (.iload_n 2, 1) := by decide +kernel
theorem dX10_left_43 : decode cX10_left 43 = .ok (.ireturn, 1) := by decide +kernel
set_option maxRecDepth 20000 in
theorem ggX10_far_X10_isCell : GoodIn wsX10_far wsX10_isCell := goodIn_r _ [6, 7, 8, 36, 37, 38, 39, 40, 41, 42, 43, 44, 45, 46, 47, 48, 49, 50, 51, 52, 53, 54, 55, 56, 57, 58, 59, 60, 61, 62, 63, 64, 65, 66, 67, 68, 69] (by decide +kernel) (by decide +kernel)
set_option maxRecDepth 20000 in
theorem gX10_far_X10_isCell : GoodIn wsX10_far (wsV RX10 151 RX10 yX10_isCell wsX10_isCell) := goodIn_app (goodIn_of _ (by decide +kernel)) ggX10_far_X10_isCell
set_option maxRecDepth 20000 in
theorem ggX10_far_X10_index : GoodIn wsX10_far wsX10_index := goodIn_r _ [11] (by decide +kernel) (by decide +kernel)
set_option maxRecDepth 20000 in
theorem gX10_far_X10_index : GoodIn wsX10_far (va_wsS RX10 157 yX10_index wsX10_index) := goodIn_app (goodIn_of _ (by decide +kernel)) ggX10_far_X10_index
set_option maxRecDepth 20000 in
theorem ggX10_far_X10_farOf : GoodIn wsX10_far wsX10_farOf := goodIn_r _ [15, 16, 17, 18, 19, 5, 20, 21, 22, 23, 24, 25, 26, 27, 28, 29, 30, 31, 32, 7, 8, 33, 34, 35, 36, 37, 38, 39, 40, 41, 42, 43, 44, 45, 46, 47, 48, 49, 50, 51, 52, 53, 54, 55, 56, 57, 58, 59, 60, 61, 62, 63, 64, 65, 66, 67, 68, 69] (by decide +kernel) (by decide +kernel)
set_option maxRecDepth 20000 in
theorem gX10_far_X10_farOf : GoodIn wsX10_far (wsV RX10 177 RX10 yX10_farOf wsX10_farOf) := goodIn_app (goodIn_of _ (by decide +kernel)) ggX10_far_X10_farOf
theorem dX10_far_0 : decode cX10_far 0 = .ok (.aload_n 0, 1) := by decide +kernel
theorem dX10_far_1 : decode cX10_far 1 = .ok (.iconst 0, 1) := by decide +kernel
theorem dX10_far_2 : decode cX10_far 2 = .ok (.putfield 79, 3) := by decide +kernel
theorem dX10_far_5 : decode cX10_far 5 = .ok (.aload_n 0, 1) := by decide +kernel
theorem dX10_far_6 : decode cX10_far 6 = .ok (.iload_n 1, 1) := by decide +kernel
theorem dX10_far_7 : decode cX10_far 7 = .ok (.invokevirtual 151, 3) := by decide +kernel
theorem dX10_far_10 : decode cX10_far 10 = .ok (.ifCond .eq 11, 3) := by decide +kernel
theorem dX10_far_13 : decode cX10_far 13 = .ok (.aload_n 0, 1) := by decide +kernel
theorem dX10_far_14 : decode cX10_far 14 = .ok (.iload_n 2, 1) := by decide +kernel
theorem dX10_far_15 : decode cX10_far 15 = .ok (.invokevirtual 151, 3) := by decide +kernel
theorem dX10_far_18 : decode cX10_far 18 = .ok (.ifCond .ne 5, 3) := by decide +kernel
theorem dX10_far_21 : decode cX10_far 21 = .ok (.iconst (-1), 1) := by decide +kernel
theorem dX10_far_22 : decode cX10_far 22 = .ok (.ireturn, 1) := by decide +kernel
theorem dX10_far_23 : decode cX10_far 23 = .ok (.aload_n 0, 1) := by decide +kernel
theorem dX10_far_24 : decode cX10_far 24 = .ok (.iload_n 1, 1) := by decide +kernel
theorem dX10_far_25 : decode cX10_far 25 = .ok (.invokestatic 157, 3) := by decide +kernel
theorem dX10_far_28 : decode cX10_far 28 = .ok (.iload_n 2, 1) := by decide +kernel
theorem dX10_far_29 : decode cX10_far 29 = .ok (.invokestatic 157, 3) := by decide +kernel
theorem dX10_far_32 : decode cX10_far 32 = .ok (.invokevirtual 177, 3) := by decide +kernel
theorem dX10_far_35 : decode cX10_far 35 = .ok (.istore_n 3, 1) := by decide +kernel
theorem dX10_far_36 : decode cX10_far 36 = .ok (.iload_n 3, 1) := by decide +kernel
theorem dX10_far_37 : decode cX10_far 37 = .ok (.sipush 9999, 3) := by decide +kernel
theorem dX10_far_40 : decode cX10_far 40 = .ok (.if_icmp .ne 8, 3) := by decide +kernel
theorem dX10_far_43 : decode cX10_far 43 = .ok (.bipush (-9), 2) := by decide +kernel
theorem dX10_far_45 : decode cX10_far 45 = .ok (.goto 4, 3) := by decide +kernel
theorem dX10_far_48 : decode cX10_far 48 = .ok (.iload_n 3, 1) := by decide +kernel
theorem dX10_far_49 : decode cX10_far 49 = .ok (.ireturn, 1) := by decide +kernel
set_option maxRecDepth 20000 in
theorem ggX10_ways_X10_isCell : GoodIn wsX10_ways wsX10_isCell := goodIn_r _ [9, 10, 11, 34, 35, 36, 37, 38, 39, 40, 41, 42, 43, 44, 45, 46, 47, 48, 49, 50, 51, 52, 53, 54, 55, 56, 57, 58, 59, 60, 61, 62, 63, 64, 65, 66, 67] (by decide +kernel) (by decide +kernel)
set_option maxRecDepth 20000 in
theorem gX10_ways_X10_isCell : GoodIn wsX10_ways (wsV RX10 151 RX10 yX10_isCell wsX10_isCell) := goodIn_app (goodIn_of _ (by decide +kernel)) ggX10_ways_X10_isCell
set_option maxRecDepth 20000 in
theorem ggX10_ways_X10_index : GoodIn wsX10_ways wsX10_index := goodIn_r _ [14] (by decide +kernel) (by decide +kernel)
set_option maxRecDepth 20000 in
theorem gX10_ways_X10_index : GoodIn wsX10_ways (va_wsS RX10 157 yX10_index wsX10_index) := goodIn_app (goodIn_of _ (by decide +kernel)) ggX10_ways_X10_index
set_option maxRecDepth 20000 in
theorem ggX10_ways_X10_layFar : GoodIn wsX10_ways wsX10_layFar := goodIn_r _ [18, 4, 19, 20, 21, 22, 23, 8, 24, 25, 26, 27, 28, 29, 30, 10, 11, 31, 32, 33, 34, 35, 36, 37, 38, 39, 40, 41, 42, 43, 44, 45, 46, 47, 48, 49, 50, 51, 52, 53, 54, 55, 56, 57, 58, 59, 60, 61, 62, 63, 64, 65, 66, 67] (by decide +kernel) (by decide +kernel)
set_option maxRecDepth 20000 in
theorem gX10_ways_X10_layFar : GoodIn wsX10_ways (wsV RX10 170 RX10 yX10_layFar wsX10_layFar) := goodIn_app (goodIn_of _ (by decide +kernel)) ggX10_ways_X10_layFar
set_option maxRecDepth 20000 in
theorem ggX10_ways_X10_isOpen : GoodIn wsX10_ways wsX10_isOpen := goodIn_r _ [24, 25, 26, 27, 28, 29, 8, 30, 10, 11, 31, 32, 33, 34, 35, 36, 37, 38, 39, 40, 41, 42, 43, 44, 45, 46, 47, 48, 49, 50, 51, 52, 53, 54, 55, 56, 57, 58, 59, 60, 61, 62, 63, 64, 65, 66, 67] (by decide +kernel) (by decide +kernel)
set_option maxRecDepth 20000 in
theorem gX10_ways_X10_isOpen : GoodIn wsX10_ways (wsV RX10 160 RX10 yX10_isOpen wsX10_isOpen) := goodIn_app (goodIn_of _ (by decide +kernel)) ggX10_ways_X10_isOpen
set_option maxRecDepth 20000 in
theorem ggX10_ways_X10_beside : GoodIn wsX10_ways wsX10_beside := goodIn_r _ [30, 10, 11, 31, 32, 8, 33, 34, 35, 36, 37, 38, 39, 40, 41, 42, 43, 44, 45, 46, 47, 48, 49, 50, 51, 52, 53, 54, 55, 56, 57, 58, 59, 60, 61, 62, 63, 64, 65, 66, 67] (by decide +kernel) (by decide +kernel)
set_option maxRecDepth 20000 in
theorem gX10_ways_X10_beside : GoodIn wsX10_ways (wsV RX10 113 RX10 yX10_beside wsX10_beside) := goodIn_app (goodIn_of _ (by decide +kernel)) ggX10_ways_X10_beside
theorem dX10_ways_0 : decode cX10_ways 0 = .ok (.aload_n 0, 1) := by decide +kernel
theorem dX10_ways_1 : decode cX10_ways 1 = .ok (.iconst 0, 1) := by decide +kernel
theorem dX10_ways_2 : decode cX10_ways 2 = .ok (.putfield 79, 3) := by decide +kernel
theorem dX10_ways_5 : decode cX10_ways 5 = .ok (.aload_n 0, 1) := by decide +kernel
theorem dX10_ways_6 : decode cX10_ways 6 = .ok (.iload_n 1, 1) := by decide +kernel
theorem dX10_ways_7 : decode cX10_ways 7 = .ok (.invokevirtual 151, 3) := by decide +kernel
theorem dX10_ways_10 : decode cX10_ways 10 = .ok (.ifCond .eq 11, 3) := by decide +kernel
theorem dX10_ways_13 : decode cX10_ways 13 = .ok (.aload_n 0, 1) := by decide +kernel
theorem dX10_ways_14 : decode cX10_ways 14 = .ok (.iload_n 2, 1) := by decide +kernel
theorem dX10_ways_15 : decode cX10_ways 15 = .ok (.invokevirtual 151, 3) := by decide +kernel
theorem dX10_ways_18 : decode cX10_ways 18 = .ok (.ifCond .ne 7, 3) := by decide +kernel
theorem dX10_ways_21 : decode cX10_ways 21 = .ok (.ldc2_w 201, 3) := by decide +kernel
theorem dX10_ways_24 : decode cX10_ways 24 = .ok (.lreturn, 1) := by decide +kernel
theorem dX10_ways_25 : decode cX10_ways 25 = .ok (.aload_n 0, 1) := by decide +kernel
theorem dX10_ways_26 : decode cX10_ways 26 = .ok (.iload_n 1, 1) := by decide +kernel
theorem dX10_ways_27 : decode cX10_ways 27 = .ok (.invokestatic 157, 3) := by decide +kernel
theorem dX10_ways_30 : decode cX10_ways 30 = .ok (.invokevirtual 170, 3) := by decide +kernel
theorem dX10_ways_33 : decode cX10_ways 33 = .ok (.iconst 0, 1) := by decide +kernel
theorem dX10_ways_34 : decode cX10_ways 34 = .ok (.istore_n 3, 1) := by decide +kernel
theorem dX10_ways_35 : decode cX10_ways 35 = .ok (.iload_n 3, 1) := by decide +kernel
theorem dX10_ways_36 : decode cX10_ways 36 = .ok (.bipush 36, 2) := by decide +kernel
theorem dX10_ways_38 : decode cX10_ways 38 = .ok (.if_icmp .ge 28, 3) := by decide +kernel
theorem dX10_ways_41 : decode cX10_ways 41 = .ok (.aload_n 0, 1) := by decide +kernel
theorem dX10_ways_42 : decode cX10_ways 42 = .ok (.getfield 45, 3) := by decide +kernel
theorem dX10_ways_45 : decode cX10_ways 45 = .ok (.iload_n 3, 1) := by decide +kernel
theorem dX10_ways_46 : decode cX10_ways 46 = .ok (.iload_n 3, 1) := by decide +kernel
theorem dX10_ways_47 : decode cX10_ways 47 = .ok (.iload_n 1, 1) := by decide +kernel
theorem dX10_ways_48 : decode cX10_ways 48 = .ok (.invokestatic 157, 3) := by decide +kernel
theorem dX10_ways_51 : decode cX10_ways 51 = .ok (.if_icmp .ne 7, 3) := by decide +kernel
theorem dX10_ways_54 : decode cX10_ways 54 = .ok (.lconst 1, 1) := by decide +kernel
theorem dX10_ways_55 : decode cX10_ways 55 = .ok (.goto 4, 3) := by decide +kernel
theorem dX10_ways_58 : decode cX10_ways 58 = .ok (.lconst 0, 1) := by decide +kernel
theorem dX10_ways_59 : decode cX10_ways 59 = .ok (.lastore, 1) := by decide +kernel
theorem dX10_ways_60 : decode cX10_ways 60 = .ok (.iinc 3 1, 3) := by decide +kernel
theorem dX10_ways_63 : decode cX10_ways 63 = .ok (.goto (-28), 3) := by decide +kernel
theorem dX10_ways_66 : decode cX10_ways 66 = .ok (.iconst 1, 1) := by decide +kernel
theorem dX10_ways_67 : decode cX10_ways 67 = .ok (.istore_n 3, 1) := by decide +kernel
theorem dX10_ways_68 : decode cX10_ways 68 = .ok (.iload_n 3, 1) := by decide +kernel
theorem dX10_ways_69 : decode cX10_ways 69 = .ok (.bipush 36, 2) := by decide +kernel
theorem dX10_ways_71 : decode cX10_ways 71 = .ok (.if_icmp .ge 118, 3) := by decide +kernel
theorem dX10_ways_74 : decode cX10_ways 74 = .ok (.iconst 0, 1) := by decide +kernel
theorem dX10_ways_75 : decode cX10_ways 75 = .ok (.istore 4, 2) := by decide +kernel
theorem dX10_ways_77 : decode cX10_ways 77 = .ok (.iload 4, 2) := by decide +kernel
theorem dX10_ways_79 : decode cX10_ways 79 = .ok (.bipush 36, 2) := by decide +kernel
theorem dX10_ways_81 : decode cX10_ways 81 = .ok (.if_icmp .ge 102, 3) := by decide +kernel
theorem dX10_ways_84 : decode cX10_ways 84 = .ok (.iconst 0, 1) := by decide +kernel
theorem dX10_ways_85 : decode cX10_ways 85 = .ok (.istore 5, 2) := by decide +kernel
theorem dX10_ways_87 : decode cX10_ways 87 = .ok (.iload 5, 2) := by decide +kernel
theorem dX10_ways_89 : decode cX10_ways 89 = .ok (.iconst 4, 1) := by decide +kernel
theorem dX10_ways_90 : decode cX10_ways 90 = .ok (.if_icmp .ge 87, 3) := by decide +kernel
theorem dX10_ways_93 : decode cX10_ways 93 = .ok (.aload_n 0, 1) := by decide +kernel
theorem dX10_ways_94 : decode cX10_ways 94 = .ok (.getfield 39, 3) := by decide +kernel
theorem dX10_ways_97 : decode cX10_ways 97 = .ok (.iload 4, 2) := by decide +kernel
theorem dX10_ways_99 : decode cX10_ways 99 = .ok (.iaload, 1) := by decide +kernel
theorem dX10_ways_100 : decode cX10_ways 100 = .ok (.iload_n 3, 1) := by decide +kernel
theorem dX10_ways_101 : decode cX10_ways 101 = .ok (.if_icmp .ne 76, 3) := by decide +kernel
theorem dX10_ways_104 : decode cX10_ways 104 = .ok (.aload_n 0, 1) := by decide +kernel
theorem dX10_ways_105 : decode cX10_ways 105 = .ok (.iload 4, 2) := by decide +kernel
theorem dX10_ways_107 : decode cX10_ways 107 = .ok (.iload 5, 2) := by decide +kernel
theorem dX10_ways_109 : decode cX10_ways 109 = .ok (.invokevirtual 160, 3) := by decide +kernel
theorem dX10_ways_112 : decode cX10_ways 112 = .ok (.ifCond .eq 14, 3) := by decide +kernel
theorem dX10_ways_115 : decode cX10_ways 115 = .ok (.aload_n 0, 1) := by decide +kernel
theorem dX10_ways_116 : decode cX10_ways 116 = .ok (.iload 4, 2) := by decide +kernel
theorem dX10_ways_118 : decode cX10_ways 118 = .ok (.iload 5, 2) := by decide +kernel
theorem dX10_ways_120 : decode cX10_ways 120 = .ok (.invokevirtual 113, 3) := by decide +kernel
theorem dX10_ways_123 : decode cX10_ways 123 = .ok (.goto 5, 3) := by decide +kernel
theorem dX10_ways_126 : decode cX10_ways 126 = .ok (.bipush (-9), 2) := by decide +kernel
theorem dX10_ways_128 : decode cX10_ways 128 = .ok (.istore 6, 2) := by decide +kernel
theorem dX10_ways_130 : decode cX10_ways 130 = .ok (.aload_n 0, 1) := by decide +kernel
theorem dX10_ways_131 : decode cX10_ways 131 = .ok (.getfield 45, 3) := by decide +kernel
theorem dX10_ways_134 : decode cX10_ways 134 = .ok (.iload 4, 2) := by decide +kernel
theorem dX10_ways_136 : decode cX10_ways 136 = .ok (.dup2, 1) := by decide +kernel
theorem dX10_ways_137 : decode cX10_ways 137 = .ok (.laload, 1) := by decide +kernel
theorem dX10_ways_138 : decode cX10_ways 138 = .ok (.iload 6, 2) := by decide +kernel
theorem dX10_ways_140 : decode cX10_ways 140 = .ok (.bipush (-9), 2) := by decide +kernel
theorem dX10_ways_142 : decode cX10_ways 142 = .ok (.if_icmp .eq 26, 3) := by decide +kernel
theorem dX10_ways_145 : decode cX10_ways 145 = .ok (.aload_n 0, 1) := by decide +kernel
theorem dX10_ways_146 : decode cX10_ways 146 = .ok (.getfield 39, 3) := by decide +kernel
theorem dX10_ways_149 : decode cX10_ways 149 = .ok (.iload 6, 2) := by decide +kernel
theorem dX10_ways_151 : decode cX10_ways 151 = .ok (.iaload, 1) := by decide +kernel
theorem dX10_ways_152 : decode cX10_ways 152 = .ok (.iload_n 3, 1) := by decide +kernel
theorem dX10_ways_153 : decode cX10_ways 153 = .ok (.iconst 1, 1) := by decide +kernel
theorem dX10_ways_154 : decode cX10_ways 154 = .ok (.isub, 1) := by decide +kernel
theorem dX10_ways_155 : decode cX10_ways 155 = .ok (.if_icmp .ne 13, 3) := by decide +kernel
theorem dX10_ways_158 : decode cX10_ways 158 = .ok (.aload_n 0, 1) := by decide +kernel
theorem dX10_ways_159 : decode cX10_ways 159 = .ok (.getfield 45, 3) := by decide +kernel
theorem dX10_ways_162 : decode cX10_ways 162 = .ok (.iload 6, 2) := by decide +kernel
theorem dX10_ways_164 : decode cX10_ways 164 = .ok (.laload, 1) := by decide +kernel
theorem dX10_ways_165 : decode cX10_ways 165 = .ok (.goto 4, 3) := by decide +kernel
theorem dX10_ways_168 : decode cX10_ways 168 = .ok (.lconst 0, 1) := by decide +kernel
theorem dX10_ways_169 : decode cX10_ways 169 = .ok (.ladd, 1) := by decide +kernel
theorem dX10_ways_170 : decode cX10_ways 170 = .ok (.lastore, 1) := by decide +kernel
theorem dX10_ways_171 : decode cX10_ways 171 = .ok (.iinc 5 1, 3) := by decide +kernel
theorem dX10_ways_174 : decode cX10_ways 174 = .ok (.goto (-87), 3) := by decide +kernel
theorem dX10_ways_177 : decode cX10_ways 177 = .ok (.iinc 4 1, 3) := by decide +kernel
theorem dX10_ways_180 : decode cX10_ways 180 = .ok (.goto (-103), 3) := by decide +kernel
theorem dX10_ways_183 : decode cX10_ways 183 = .ok (.iinc 3 1, 3) := by decide +kernel
theorem dX10_ways_186 : decode cX10_ways 186 = .ok (.goto (-118), 3) := by decide +kernel
theorem dX10_ways_189 : decode cX10_ways 189 = .ok (.aload_n 0, 1) := by decide +kernel
theorem dX10_ways_190 : decode cX10_ways 190 = .ok (.getfield 45, 3) := by decide +kernel
theorem dX10_ways_193 : decode cX10_ways 193 = .ok (.iload_n 2, 1) := by decide +kernel
theorem dX10_ways_194 : decode cX10_ways 194 = .ok (.invokestatic 157, 3) := by decide +kernel
theorem dX10_ways_197 : decode cX10_ways 197 = .ok (.laload, 1) := by decide +kernel
theorem dX10_ways_198 : decode cX10_ways 198 = .ok (.lreturn, 1) := by decide +kernel
set_option maxRecDepth 20000 in
theorem ggX10_step_X10_isCell : GoodIn wsX10_step wsX10_isCell := goodIn_r _ [7, 8, 9, 35, 36, 37, 38, 39, 40, 41, 42, 43, 44, 45, 46, 47, 48, 49, 50, 51, 52, 53, 54, 55, 56, 57, 58, 59, 60, 61, 62, 63, 64, 65, 66, 67, 68] (by decide +kernel) (by decide +kernel)
set_option maxRecDepth 20000 in
theorem gX10_step_X10_isCell : GoodIn wsX10_step (wsV RX10 151 RX10 yX10_isCell wsX10_isCell) := goodIn_app (goodIn_of _ (by decide +kernel)) ggX10_step_X10_isCell
set_option maxRecDepth 20000 in
theorem ggX10_step_X10_index : GoodIn wsX10_step wsX10_index := goodIn_r _ [12] (by decide +kernel) (by decide +kernel)
set_option maxRecDepth 20000 in
theorem gX10_step_X10_index : GoodIn wsX10_step (va_wsS RX10 157 yX10_index wsX10_index) := goodIn_app (goodIn_of _ (by decide +kernel)) ggX10_step_X10_index
set_option maxRecDepth 20000 in
theorem ggX10_step_X10_layFar : GoodIn wsX10_step wsX10_layFar := goodIn_r _ [16, 2, 17, 18, 19, 20, 21, 6, 22, 23, 24, 25, 26, 27, 28, 8, 9, 29, 30, 31, 35, 36, 37, 38, 39, 40, 41, 42, 43, 44, 45, 46, 47, 48, 49, 50, 51, 52, 53, 54, 55, 56, 57, 58, 59, 60, 61, 62, 63, 64, 65, 66, 67, 68] (by decide +kernel) (by decide +kernel)
set_option maxRecDepth 20000 in
theorem gX10_step_X10_layFar : GoodIn wsX10_step (wsV RX10 170 RX10 yX10_layFar wsX10_layFar) := goodIn_app (goodIn_of _ (by decide +kernel)) ggX10_step_X10_layFar
set_option maxRecDepth 20000 in
theorem ggX10_step_X10_in : GoodIn wsX10_step wsX10_in := goodIn_r _ [31] (by decide +kernel) (by decide +kernel)
set_option maxRecDepth 20000 in
theorem gX10_step_X10_in : GoodIn wsX10_step (va_wsS RX10 84 yX10_in wsX10_in) := goodIn_app (goodIn_of _ (by decide +kernel)) ggX10_step_X10_in
set_option maxRecDepth 20000 in
theorem ggX10_step_X10_isOpen : GoodIn wsX10_step wsX10_isOpen := goodIn_r _ [22, 23, 24, 25, 26, 27, 6, 28, 8, 9, 29, 30, 31, 35, 36, 37, 38, 39, 40, 41, 42, 43, 44, 45, 46, 47, 48, 49, 50, 51, 52, 53, 54, 55, 56, 57, 58, 59, 60, 61, 62, 63, 64, 65, 66, 67, 68] (by decide +kernel) (by decide +kernel)
set_option maxRecDepth 20000 in
theorem gX10_step_X10_isOpen : GoodIn wsX10_step (wsV RX10 160 RX10 yX10_isOpen wsX10_isOpen) := goodIn_app (goodIn_of _ (by decide +kernel)) ggX10_step_X10_isOpen
set_option maxRecDepth 20000 in
theorem ggX10_step_X10_beside : GoodIn wsX10_step wsX10_beside := goodIn_r _ [28, 8, 9, 29, 30, 6, 31, 35, 36, 37, 38, 39, 40, 41, 42, 43, 44, 45, 46, 47, 48, 49, 50, 51, 52, 53, 54, 55, 56, 57, 58, 59, 60, 61, 62, 63, 64, 65, 66, 67, 68] (by decide +kernel) (by decide +kernel)
set_option maxRecDepth 20000 in
theorem gX10_step_X10_beside : GoodIn wsX10_step (wsV RX10 113 RX10 yX10_beside wsX10_beside) := goodIn_app (goodIn_of _ (by decide +kernel)) ggX10_step_X10_beside
set_option maxRecDepth 20000 in
theorem ggX10_step_X10_code : GoodIn wsX10_step wsX10_code := goodIn_r _ [34] (by decide +kernel) (by decide +kernel)
set_option maxRecDepth 20000 in
theorem gX10_step_X10_code : GoodIn wsX10_step (va_wsS RX10 164 yX10_code wsX10_code) := goodIn_app (goodIn_of _ (by decide +kernel)) ggX10_step_X10_code
theorem dX10_step_0 : decode cX10_step 0 = .ok (.aload_n 0, 1) := by decide +kernel
theorem dX10_step_1 : decode cX10_step 1 = .ok (.iconst 0, 1) := by decide +kernel
theorem dX10_step_2 : decode cX10_step 2 = .ok (.putfield 79, 3) := by decide +kernel
theorem dX10_step_5 : decode cX10_step 5 = .ok (.aload_n 0, 1) := by decide +kernel
theorem dX10_step_6 : decode cX10_step 6 = .ok (.iload_n 1, 1) := by decide +kernel
theorem dX10_step_7 : decode cX10_step 7 = .ok (.invokevirtual 151, 3) := by decide +kernel
theorem dX10_step_10 : decode cX10_step 10 = .ok (.ifCond .eq 11, 3) := by decide +kernel
theorem dX10_step_13 : decode cX10_step 13 = .ok (.aload_n 0, 1) := by decide +kernel
theorem dX10_step_14 : decode cX10_step 14 = .ok (.iload_n 2, 1) := by decide +kernel
theorem dX10_step_15 : decode cX10_step 15 = .ok (.invokevirtual 151, 3) := by decide +kernel
theorem dX10_step_18 : decode cX10_step 18 = .ok (.ifCond .ne 5, 3) := by decide +kernel
theorem dX10_step_21 : decode cX10_step 21 = .ok (.iconst (-1), 1) := by decide +kernel
theorem dX10_step_22 : decode cX10_step 22 = .ok (.ireturn, 1) := by decide +kernel
theorem dX10_step_23 : decode cX10_step 23 = .ok (.aload_n 0, 1) := by decide +kernel
theorem dX10_step_24 : decode cX10_step 24 = .ok (.iload_n 2, 1) := by decide +kernel
theorem dX10_step_25 : decode cX10_step 25 = .ok (.invokestatic 157, 3) := by decide +kernel
theorem dX10_step_28 : decode cX10_step 28 = .ok (.invokevirtual 170, 3) := by decide +kernel
