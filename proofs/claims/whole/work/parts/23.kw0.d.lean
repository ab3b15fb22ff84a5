set_option maxRecDepth 20000 in
theorem ggX9_write_X5_append : GoodIn wsX9_write wsX5_append := goodIn_r _ [7, 8, 9, 10, 22, 23] (by decide +kernel) (by decide +kernel)
set_option maxRecDepth 20000 in
theorem gX9_write_X5_append : GoodIn wsX9_write (wsV RX9 85 RX5 yX5_append wsX5_append) := goodIn_app (goodIn_of _ (by decide +kernel)) ggX9_write_X5_append
theorem dX9_write_0 : decode cX9_write 0 = .ok (.iload_n 1, 1) := by decide +kernel
theorem dX9_write_1 : decode cX9_write 1 = .ok (.iconst 1, 1) := by decide +kernel
theorem dX9_write_2 : decode cX9_write 2 = .ok (.if_icmp .lt 9, 3) := by decide +kernel
theorem dX9_write_5 : decode cX9_write 5 = .ok (.iload_n 1, 1) := by decide +kernel
theorem dX9_write_6 : decode cX9_write 6 = .ok (.bipush 8, 2) := by decide +kernel
theorem dX9_write_8 : decode cX9_write 8 = .ok (.if_icmp .le 6, 3) := by decide +kernel
theorem dX9_write_11 : decode cX9_write 11 = .ok (.bipush (-2), 2) := by decide +kernel
theorem dX9_write_13 : decode cX9_write 13 = .ok (.ireturn, 1) := by decide +kernel
theorem dX9_write_14 : decode cX9_write 14 = .ok (.aload_n 0, 1) := by decide +kernel
theorem dX9_write_15 : decode cX9_write 15 = .ok (.getfield 12, 3) := by decide +kernel
theorem dX9_write_18 : decode cX9_write 18 = .ok (.getfield 81, 3) := by decide +kernel
theorem dX9_write_21 : decode cX9_write 21 = .ok (.iload_n 1, 1) := by decide +kernel
theorem dX9_write_22 : decode cX9_write 22 = .ok (.iadd, 1) := by decide +kernel
theorem dX9_write_23 : decode cX9_write 23 = .ok (.bipush 41, 2) := by decide +kernel
theorem dX9_write_25 : decode cX9_write 25 = .ok (.if_icmp .le 6, 3) := by decide +kernel
theorem dX9_write_28 : decode cX9_write 28 = .ok (.bipush (-4), 2) := by decide +kernel
theorem dX9_write_30 : decode cX9_write 30 = .ok (.ireturn, 1) := by decide +kernel
theorem dX9_write_31 : decode cX9_write 31 = .ok (.aload_n 0, 1) := by decide +kernel
theorem dX9_write_32 : decode cX9_write 32 = .ok (.getfield 12, 3) := by decide +kernel
theorem dX9_write_35 : decode cX9_write 35 = .ok (.iload_n 1, 1) := by decide +kernel
theorem dX9_write_36 : decode cX9_write 36 = .ok (.lload_n 2, 1) := by decide +kernel
theorem dX9_write_37 : decode cX9_write 37 = .ok (.invokevirtual 85, 3) := by decide +kernel
theorem dX9_write_40 : decode cX9_write 40 = .ok (.aload_n 0, 1) := by decide +kernel
theorem dX9_write_41 : decode cX9_write 41 = .ok (.getfield 12, 3) := by decide +kernel
theorem dX9_write_44 : decode cX9_write 44 = .ok (.getfield 81, 3) := by decide +kernel
theorem dX9_write_47 : decode cX9_write 47 = .ok (.ireturn, 1) := by decide +kernel
theorem dX9_wipe_0 : decode cX9_wipe 0 = .ok (.aload_n 0, 1) := by decide +kernel
theorem dX9_wipe_1 : decode cX9_wipe 1 = .ok (.getfield 12, 3) := by decide +kernel
theorem dX9_wipe_4 : decode cX9_wipe 4 = .ok (.getfield 81, 3) := by decide +kernel
theorem dX9_wipe_7 : decode cX9_wipe 7 = .ok (.istore_n 1, 1) := by decide +kernel
theorem dX9_wipe_8 : decode cX9_wipe 8 = .ok (.aload_n 0, 1) := by decide +kernel
theorem dX9_wipe_9 : decode cX9_wipe 9 = .ok (.getfield 12, 3) := by decide +kernel
theorem dX9_wipe_12 : decode cX9_wipe 12 = .ok (.iconst 0, 1) := by decide +kernel
theorem dX9_wipe_13 : decode cX9_wipe 13 = .ok (.putfield 81, 3) := by decide +kernel
theorem dX9_wipe_16 : decode cX9_wipe 16 = .ok (.iload_n 1, 1) := by decide +kernel
theorem dX9_wipe_17 : decode cX9_wipe 17 = .ok (.ireturn, 1) := by decide +kernel
set_option maxRecDepth 20000 in
theorem ggX9_fault_X5_firstFault : GoodIn wsX9_fault wsX5_firstFault := goodIn_r _ [6, 7, 8, 9, 10, 5, 11, 12, 13, 14, 15, 16, 17, 18, 19, 20, 32, 33] (by decide +kernel) (by decide +kernel)
set_option maxRecDepth 20000 in
theorem gX9_fault_X5_firstFault : GoodIn wsX9_fault (wsV RX9 89 RX5 yX5_firstFault wsX5_firstFault) := goodIn_app (goodIn_of _ (by decide +kernel)) ggX9_fault_X5_firstFault
theorem dX9_fault_0 : decode cX9_fault 0 = .ok (.aload_n 0, 1) := by decide +kernel
theorem dX9_fault_1 : decode cX9_fault 1 = .ok (.getfield 12, 3) := by decide +kernel
theorem dX9_fault_4 : decode cX9_fault 4 = .ok (.invokevirtual 89, 3) := by decide +kernel
theorem dX9_fault_7 : decode cX9_fault 7 = .ok (.ireturn, 1) := by decide +kernel
set_option maxRecDepth 20000 in
theorem ggX9_maze_X5_firstFault : GoodIn wsX9_maze wsX5_firstFault := goodIn_r _ [7, 8, 9, 10, 11, 6, 12, 13, 14, 15, 16, 17, 18, 19, 20, 21, 76, 77] (by decide +kernel) (by decide +kernel)
set_option maxRecDepth 20000 in
theorem gX9_maze_X5_firstFault : GoodIn wsX9_maze (wsV RX9 89 RX5 yX5_firstFault wsX5_firstFault) := goodIn_app (goodIn_of _ (by decide +kernel)) ggX9_maze_X5_firstFault
set_option maxRecDepth 20000 in
theorem ggX9_maze_X5_copyTo : GoodIn wsX9_maze wsX5_copyTo := goodIn_r _ [25, 8, 9, 26, 27, 28, 6, 29, 30, 31, 32, 33, 34, 35, 36, 37, 38, 39, 40, 41, 16, 17, 18, 42, 43, 44, 45, 46, 47, 48, 49, 50, 51, 52, 53, 54, 55, 56, 57, 58, 59, 60, 19, 20, 21, 76, 77, 78, 79, 80, 81, 82, 83, 84] (by decide +kernel) (by decide +kernel)
set_option maxRecDepth 20000 in
theorem gX9_maze_X5_copyTo : GoodIn wsX9_maze (wsV RX9 93 RX5 yX5_copyTo wsX5_copyTo) := goodIn_app (goodIn_of _ (by decide +kernel)) ggX9_maze_X5_copyTo
set_option maxRecDepth 20000 in
theorem ggX9_maze_X1_size : GoodIn wsX9_maze wsX1_size := goodIn_r _ [64, 35, 36, 78, 79, 80, 81, 82, 83, 84] (by decide +kernel) (by decide +kernel)
set_option maxRecDepth 20000 in
theorem gX9_maze_X1_size : GoodIn wsX9_maze (wsV RX9 96 RX1 yX1_size wsX1_size) := goodIn_app (goodIn_of _ (by decide +kernel)) ggX9_maze_X1_size
theorem dX9_maze_0 : decode cX9_maze 0 = .ok (.aload_n 0, 1) := by decide +kernel
theorem dX9_maze_1 : decode cX9_maze 1 = .ok (.getfield 12, 3) := by decide +kernel
theorem dX9_maze_4 : decode cX9_maze 4 = .ok (.invokevirtual 89, 3) := by decide +kernel
theorem dX9_maze_7 : decode cX9_maze 7 = .ok (.bipush (-9), 2) := by decide +kernel
theorem dX9_maze_9 : decode cX9_maze 9 = .ok (.if_icmp .eq 6, 3) := by decide +kernel
theorem dX9_maze_12 : decode cX9_maze 12 = .ok (.bipush (-3), 2) := by decide +kernel
theorem dX9_maze_14 : decode cX9_maze 14 = .ok (.ireturn, 1) := by decide +kernel
theorem dX9_maze_15 : decode cX9_maze 15 = .ok (.aload_n 0, 1) := by decide +kernel
theorem dX9_maze_16 : decode cX9_maze 16 = .ok (.getfield 12, 3) := by decide +kernel
theorem dX9_maze_19 : decode cX9_maze 19 = .ok (.aload_n 0, 1) := by decide +kernel
theorem dX9_maze_20 : decode cX9_maze 20 = .ok (.getfield 19, 3) := by decide +kernel
theorem dX9_maze_23 : decode cX9_maze 23 = .ok (.invokevirtual 93, 3) := by decide +kernel
theorem dX9_maze_26 : decode cX9_maze 26 = .ok (.aload_n 0, 1) := by decide +kernel
theorem dX9_maze_27 : decode cX9_maze 27 = .ok (.getfield 19, 3) := by decide +kernel
theorem dX9_maze_30 : decode cX9_maze 30 = .ok (.invokevirtual 96, 3) := by decide +kernel
theorem dX9_maze_33 : decode cX9_maze 33 = .ok (.ireturn, 1) := by decide +kernel
set_option maxRecDepth 20000 in
theorem ggX9_make_X1_shutAll : GoodIn wsX9_make wsX1_shutAll := goodIn_r _ [7, 8, 9, 10, 11, 12, 13, 14, 114, 115, 116, 117, 118, 119, 120] (by decide +kernel) (by decide +kernel)
set_option maxRecDepth 20000 in
theorem gX9_make_X1_shutAll : GoodIn wsX9_make (wsV RX9 99 RX1 yX1_shutAll wsX1_shutAll) := goodIn_app (goodIn_of _ (by decide +kernel)) ggX9_make_X1_shutAll
set_option maxRecDepth 20000 in
theorem ggX9_make_X3_joinParts : GoodIn wsX9_make wsX3_joinParts := goodIn_r _ [19, 20, 21, 22, 23, 24, 25, 18, 26, 27, 28, 29, 6, 30, 31, 32, 33, 34, 10, 35, 36, 37, 38, 39, 40, 41, 12, 11, 42, 43, 44, 45, 46, 47, 48, 49, 50, 51, 52, 53, 54, 55, 56, 57, 58, 59, 60, 61, 62, 63, 64, 65, 66, 67, 68, 69, 70, 71, 72, 73, 74, 75, 76, 77, 78, 121, 122, 123, 124, 114, 115, 116, 117, 118, 119, 120] (by decide +kernel) (by decide +kernel)
set_option maxRecDepth 20000 in
theorem gX9_make_X3_joinParts : GoodIn wsX9_make (wsV RX9 103 RX3 yX3_joinParts wsX3_joinParts) := goodIn_app (goodIn_of _ (by decide +kernel)) ggX9_make_X3_joinParts
set_option maxRecDepth 20000 in
theorem ggX9_make_X3_wander : GoodIn wsX9_make wsX3_wander := goodIn_r _ [82, 20, 22, 83, 84, 85, 61, 6, 62, 86, 87, 88, 18, 89, 90, 91, 92, 93, 94, 71, 32, 33, 34, 10, 35, 36, 37, 72, 50, 51, 52, 53, 54, 55, 95, 96, 97, 98, 73, 74, 75, 76, 77, 47, 48, 49, 11, 78, 12, 31, 60, 121, 122, 123, 124, 114, 115, 116, 117, 118, 119, 120] (by decide +kernel) (by decide +kernel)
set_option maxRecDepth 20000 in
theorem gX9_make_X3_wander : GoodIn wsX9_make (wsV RX9 107 RX3 yX3_wander wsX3_wander) := goodIn_app (goodIn_of _ (by decide +kernel)) ggX9_make_X3_wander
set_option maxRecDepth 20000 in
theorem ggX9_make_X1_size : GoodIn wsX9_make wsX1_size := goodIn_r _ [102, 8, 9, 114, 115, 116, 117, 118, 119, 120] (by decide +kernel) (by decide +kernel)
set_option maxRecDepth 20000 in
theorem gX9_make_X1_size : GoodIn wsX9_make (wsV RX9 96 RX1 yX1_size wsX1_size) := goodIn_app (goodIn_of _ (by decide +kernel)) ggX9_make_X1_size
theorem dX9_make_0 : decode cX9_make 0 = .ok (.iload_n 1, 1) := by decide +kernel
theorem dX9_make_1 : decode cX9_make 1 = .ok (.iconst 1, 1) := by decide +kernel
theorem dX9_make_2 : decode cX9_make 2 = .ok (.if_icmp .lt 31, 3) := by decide +kernel
theorem dX9_make_5 : decode cX9_make 5 = .ok (.iload_n 1, 1) := by decide +kernel
theorem dX9_make_6 : decode cX9_make 6 = .ok (.bipush 6, 2) := by decide +kernel
theorem dX9_make_8 : decode cX9_make 8 = .ok (.if_icmp .gt 25, 3) := by decide +kernel
theorem dX9_make_11 : decode cX9_make 11 = .ok (.iload_n 2, 1) := by decide +kernel
theorem dX9_make_12 : decode cX9_make 12 = .ok (.iconst 1, 1) := by decide +kernel
theorem dX9_make_13 : decode cX9_make 13 = .ok (.if_icmp .lt 20, 3) := by decide +kernel
theorem dX9_make_16 : decode cX9_make 16 = .ok (.iload_n 2, 1) := by decide +kernel
theorem dX9_make_17 : decode cX9_make 17 = .ok (.bipush 6, 2) := by decide +kernel
theorem dX9_make_19 : decode cX9_make 19 = .ok (.if_icmp .gt 14, 3) := by decide +kernel
theorem dX9_make_22 : decode cX9_make 22 = .ok (.iload 5, 2) := by decide +kernel
theorem dX9_make_24 : decode cX9_make 24 = .ok (.ifCond .lt 9, 3) := by decide +kernel
theorem dX9_make_27 : decode cX9_make 27 = .ok (.iload 5, 2) := by decide +kernel
theorem dX9_make_29 : decode cX9_make 29 = .ok (.iconst 1, 1) := by decide +kernel
theorem dX9_make_30 : decode cX9_make 30 = .ok (.if_icmp .le 6, 3) := by decide +kernel
theorem dX9_make_33 : decode cX9_make 33 = .ok (.bipush (-2), 2) := by decide +kernel
theorem dX9_make_35 : decode cX9_make 35 = .ok (.ireturn, 1) := by decide +kernel
theorem dX9_make_36 : decode cX9_make 36 = .ok (.aload_n 0, 1) := by decide +kernel
theorem dX9_make_37 : decode cX9_make 37 = .ok (.getfield 19, 3) := by decide +kernel
theorem dX9_make_40 : decode cX9_make 40 = .ok (.iload_n 1, 1) := by decide +kernel
theorem dX9_make_41 : decode cX9_make 41 = .ok (.iload_n 2, 1) := by decide +kernel
theorem dX9_make_42 : decode cX9_make 42 = .ok (.invokevirtual 99, 3) := by decide +kernel
theorem dX9_make_45 : decode cX9_make 45 = .ok (.iload 5, 2) := by decide +kernel
theorem dX9_make_47 : decode cX9_make 47 = .ok (.ifCond .ne 14, 3) := by decide +kernel
theorem dX9_make_50 : decode cX9_make 50 = .ok (.aload_n 0, 1) := by decide +kernel
theorem dX9_make_51 : decode cX9_make 51 = .ok (.getfield 35, 3) := by decide +kernel
theorem dX9_make_54 : decode cX9_make 54 = .ok (.lload_n 3, 1) := by decide +kernel
theorem dX9_make_55 : decode cX9_make 55 = .ok (.invokevirtual 103, 3) := by decide +kernel
theorem dX9_make_58 : decode cX9_make 58 = .ok (.goto 11, 3) := by decide +kernel
theorem dX9_make_61 : decode cX9_make 61 = .ok (.aload_n 0, 1) := by decide +kernel
theorem dX9_make_62 : decode cX9_make 62 = .ok (.getfield 35, 3) := by decide +kernel
theorem dX9_make_65 : decode cX9_make 65 = .ok (.lload_n 3, 1) := by decide +kernel
theorem dX9_make_66 : decode cX9_make 66 = .ok (.invokevirtual 107, 3) := by decide +kernel
theorem dX9_make_69 : decode cX9_make 69 = .ok (.aload_n 0, 1) := by decide +kernel
theorem dX9_make_70 : decode cX9_make 70 = .ok (.getfield 19, 3) := by decide +kernel
theorem dX9_make_73 : decode cX9_make 73 = .ok (.invokevirtual 96, 3) := by decide +kernel
theorem dX9_make_76 : decode cX9_make 76 = .ok (.ireturn, 1) := by decide +kernel
theorem dX9_isSide_0 : decode cX9_isSide 0 = .ok (.iload_n 0, 1) := by decide +kernel
theorem dX9_isSide_1 : decode cX9_isSide 1 = .ok (.ifCond .lt 12, 3) := by decide +kernel
theorem dX9_isSide_4 : decode cX9_isSide 4 = .ok (.iload_n 0, 1) := by decide +kernel
theorem dX9_isSide_5 : decode cX9_isSide 5 = .ok (.iconst 4, 1) := by decide +kernel
theorem dX9_isSide_6 : decode cX9_isSide 6 = .ok (.if_icmp .ge 7, 3) := by decide +kernel
theorem dX9_isSide_9 : decode cX9_isSide 9 = .ok (.iconst 1, 1) := by decide +kernel
theorem dX9_isSide_10 : decode cX9_isSide 10 = .ok (.goto 4, 3) := by decide +kernel
theorem dX9_isSide_13 : decode cX9_isSide 13 = .ok (.iconst 0, 1) := by decide +kernel
theorem dX9_isSide_14 : decode cX9_isSide 14 = .ok (.ireturn, 1) := by decide +kernel
theorem dX9_oneIf_0 : decode cX9_oneIf 0 = .ok (.iload_n 0, 1) := by decide +kernel
theorem dX9_oneIf_1 : decode cX9_oneIf 1 = .ok (.ifCond .eq 7, 3) := by decide +kernel
theorem dX9_oneIf_4 : decode cX9_oneIf 4 = .ok (.iconst 1, 1) := by decide +kernel
theorem dX9_oneIf_5 : decode cX9_oneIf 5 = .ok (.goto 4, 3) := by decide +kernel
theorem dX9_oneIf_8 : decode cX9_oneIf 8 = .ok (.iconst 0, 1) := by decide +kernel
theorem dX9_oneIf_9 : decode cX9_oneIf 9 = .ok (.ireturn, 1) := by decide +kernel
set_option maxRecDepth 20000 in
theorem ggX9_open_X1_placeOf : GoodIn wsX9_open wsX1_placeOf := goodIn_r _ [6, 7, 8, 36, 37, 38, 39, 40, 41, 42] (by decide +kernel) (by decide +kernel)
set_option maxRecDepth 20000 in
theorem gX9_open_X1_placeOf : GoodIn wsX9_open (wsV RX9 110 RX1 yX1_placeOf wsX1_placeOf) := goodIn_app (goodIn_of _ (by decide +kernel)) ggX9_open_X1_placeOf
set_option maxRecDepth 20000 in
theorem ggX9_open_X9_isSide : GoodIn wsX9_open wsX9_isSide := goodIn_r _ [12] (by decide +kernel) (by decide +kernel)
set_option maxRecDepth 20000 in
theorem gX9_open_X9_isSide : GoodIn wsX9_open (va_wsS RX9 114 yX9_isSide wsX9_isSide) := goodIn_app (goodIn_of _ (by decide +kernel)) ggX9_open_X9_isSide
set_option maxRecDepth 20000 in
theorem ggX9_open_X1_isOpen : GoodIn wsX9_open wsX1_isOpen := goodIn_r _ [16, 17, 18, 19, 20, 5, 21, 36, 37, 38, 39, 40, 41, 42] (by decide +kernel) (by decide +kernel)
set_option maxRecDepth 20000 in
theorem gX9_open_X1_isOpen : GoodIn wsX9_open (wsV RX9 118 RX1 yX1_isOpen wsX1_isOpen) := goodIn_app (goodIn_of _ (by decide +kernel)) ggX9_open_X1_isOpen
set_option maxRecDepth 20000 in
theorem ggX9_open_X9_oneIf : GoodIn wsX9_open wsX9_oneIf := goodIn_r _ [24] (by decide +kernel) (by decide +kernel)
set_option maxRecDepth 20000 in
theorem gX9_open_X9_oneIf : GoodIn wsX9_open (va_wsS RX9 122 yX9_oneIf wsX9_oneIf) := goodIn_app (goodIn_of _ (by decide +kernel)) ggX9_open_X9_oneIf
theorem dX9_open_0 : decode cX9_open 0 = .ok (.aload_n 0, 1) := by decide +kernel
theorem dX9_open_1 : decode cX9_open 1 = .ok (.getfield 19, 3) := by decide +kernel
theorem dX9_open_4 : decode cX9_open 4 = .ok (.iload_n 1, 1) := by decide +kernel
theorem dX9_open_5 : decode cX9_open 5 = .ok (.invokevirtual 110, 3) := by decide +kernel
theorem dX9_open_8 : decode cX9_open 8 = .ok (.istore_n 3, 1) := by decide +kernel
theorem dX9_open_9 : decode cX9_open 9 = .ok (.iload_n 3, 1) := by decide +kernel
theorem dX9_open_10 : decode cX9_open 10 = .ok (.iconst (-1), 1) := by decide +kernel
theorem dX9_open_11 : decode cX9_open 11 = .ok (.if_icmp .eq 10, 3) := by decide +kernel
theorem dX9_open_14 : decode cX9_open 14 = .ok (.iload_n 2, 1) := by decide +kernel
theorem dX9_open_15 : decode cX9_open 15 = .ok (.invokestatic 114, 3) := by decide +kernel
theorem dX9_open_18 : decode cX9_open 18 = .ok (.ifCond .ne 5, 3) := by decide +kernel
theorem dX9_open_21 : decode cX9_open 21 = .ok (.iconst (-1), 1) := by decide +kernel
theorem dX9_open_22 : decode cX9_open 22 = .ok (.ireturn, 1) := by decide +kernel
theorem dX9_open_23 : decode cX9_open 23 = .ok (.aload_n 0, 1) := by decide +kernel
theorem dX9_open_24 : decode cX9_open 24 = .ok (.getfield 19, 3) := by decide +kernel
theorem dX9_open_27 : decode cX9_open 27 = .ok (.iload_n 3, 1) := by decide +kernel
theorem dX9_open_28 : decode cX9_open 28 = .ok (.iload_n 2, 1) := by decide +kernel
theorem dX9_open_29 : decode cX9_open 29 = .ok (.invokevirtual 118, 3) := by decide +kernel
theorem dX9_open_32 : decode cX9_open 32 = .ok (.invokestatic 122, 3) := by decide +kernel
theorem dX9_open_35 : decode cX9_open 35 = .ok (.ireturn, 1) := by decide +kernel
set_option maxRecDepth 20000 in
theorem ggX9_hedge_X1_placeOf : GoodIn wsX9_hedge wsX1_placeOf := goodIn_r _ [6, 7, 8, 54, 55, 56, 57, 58, 59, 60] (by decide +kernel) (by decide +kernel)
set_option maxRecDepth 20000 in
theorem gX9_hedge_X1_placeOf : GoodIn wsX9_hedge (wsV RX9 110 RX1 yX1_placeOf wsX1_placeOf) := goodIn_app (goodIn_of _ (by decide +kernel)) ggX9_hedge_X1_placeOf
set_option maxRecDepth 20000 in
theorem ggX9_hedge_X9_isSide : GoodIn wsX9_hedge wsX9_isSide := goodIn_r _ [12] (by decide +kernel) (by decide +kernel)
set_option maxRecDepth 20000 in
theorem gX9_hedge_X9_isSide : GoodIn wsX9_hedge (va_wsS RX9 114 yX9_isSide wsX9_isSide) := goodIn_app (goodIn_of _ (by decide +kernel)) ggX9_hedge_X9_isSide
set_option maxRecDepth 20000 in
theorem ggX9_hedge_X1_beside : GoodIn wsX9_hedge wsX1_beside := goodIn_r _ [16, 17, 18, 19, 5, 20, 54, 55, 56, 57, 58, 59, 60] (by decide +kernel) (by decide +kernel)
set_option maxRecDepth 20000 in
theorem gX9_hedge_X1_beside : GoodIn wsX9_hedge (wsV RX9 126 RX1 yX1_beside wsX1_beside) := goodIn_app (goodIn_of _ (by decide +kernel)) ggX9_hedge_X1_beside
set_option maxRecDepth 20000 in
theorem ggX9_hedge_X1_isOpen : GoodIn wsX9_hedge wsX1_isOpen := goodIn_r _ [24, 25, 26, 18, 19, 5, 20, 54, 55, 56, 57, 58, 59, 60] (by decide +kernel) (by decide +kernel)
set_option maxRecDepth 20000 in
theorem gX9_hedge_X1_isOpen : GoodIn wsX9_hedge (wsV RX9 118 RX1 yX1_isOpen wsX1_isOpen) := goodIn_app (goodIn_of _ (by decide +kernel)) ggX9_hedge_X1_isOpen
set_option maxRecDepth 20000 in
theorem ggX9_hedge_X9_oneIf : GoodIn wsX9_hedge wsX9_oneIf := goodIn_r _ [29] (by decide +kernel) (by decide +kernel)
set_option maxRecDepth 20000 in
theorem gX9_hedge_X9_oneIf : GoodIn wsX9_hedge (va_wsS RX9 122 yX9_oneIf wsX9_oneIf) := goodIn_app (goodIn_of _ (by decide +kernel)) ggX9_hedge_X9_oneIf
set_option maxRecDepth 20000 in
theorem ggX9_hedge_X1_setOpen : GoodIn wsX9_hedge wsX1_setOpen := goodIn_r _ [33, 34, 35, 36, 37, 26, 38, 25, 39, 14, 15, 5, 16, 17, 18, 19, 20, 40, 41, 42, 54, 55, 56, 57, 58, 59, 60] (by decide +kernel) (by decide +kernel)
set_option maxRecDepth 20000 in
theorem gX9_hedge_X1_setOpen : GoodIn wsX9_hedge (wsV RX9 130 RX1 yX1_setOpen wsX1_setOpen) := goodIn_app (goodIn_of _ (by decide +kernel)) ggX9_hedge_X1_setOpen
theorem dX9_hedge_0 : decode cX9_hedge 0 = .ok (.aload_n 0, 1) := by decide +kernel
theorem dX9_hedge_1 : decode cX9_hedge 1 = .ok (.getfield 19, 3) := by decide +kernel
theorem dX9_hedge_4 : decode cX9_hedge 4 = .ok (.iload_n 1, 1) := by decide +kernel
theorem dX9_hedge_5 : decode cX9_hedge 5 = .ok (.invokevirtual 110, 3) := by decide +kernel
theorem dX9_hedge_8 : decode cX9_hedge 8 = .ok (.istore 4, 2) := by decide +kernel
theorem dX9_hedge_10 : decode cX9_hedge 10 = .ok (.iload 4, 2) := by decide +kernel
theorem dX9_hedge_12 : decode cX9_hedge 12 = .ok (.iconst (-1), 1) := by decide +kernel
theorem dX9_hedge_13 : decode cX9_hedge 13 = .ok (.if_icmp .eq 10, 3) := by decide +kernel
theorem dX9_hedge_16 : decode cX9_hedge 16 = .ok (.iload_n 2, 1) := by decide +kernel
theorem dX9_hedge_17 : decode cX9_hedge 17 = .ok (.invokestatic 114, 3) := by decide +kernel
theorem dX9_hedge_20 : decode cX9_hedge 20 = .ok (.ifCond .ne 5, 3) := by decide +kernel
theorem dX9_hedge_23 : decode cX9_hedge 23 = .ok (.iconst (-1), 1) := by decide +kernel
theorem dX9_hedge_24 : decode cX9_hedge 24 = .ok (.ireturn, 1) := by decide +kernel
theorem dX9_hedge_25 : decode cX9_hedge 25 = .ok (.aload_n 0, 1) := by decide +kernel
theorem dX9_hedge_26 : decode cX9_hedge 26 = .ok (.getfield 19, 3) := by decide +kernel
theorem dX9_hedge_29 : decode cX9_hedge 29 = .ok (.iload 4, 2) := by decide +kernel
theorem dX9_hedge_31 : decode cX9_hedge 31 = .ok (.iload_n 2, 1) := by decide +kernel
theorem dX9_hedge_32 : decode cX9_hedge 32 = .ok (.invokevirtual 126, 3) := by decide +kernel
theorem dX9_hedge_35 : decode cX9_hedge 35 = .ok (.iconst (-1), 1) := by decide +kernel
theorem dX9_hedge_36 : decode cX9_hedge 36 = .ok (.if_icmp .ne 6, 3) := by decide +kernel
theorem dX9_hedge_39 : decode cX9_hedge 39 = .ok (.bipush (-3), 2) := by decide +kernel
theorem dX9_hedge_41 : decode cX9_hedge 41 = .ok (.ireturn, 1) := by decide +kernel
theorem dX9_hedge_42 : decode cX9_hedge 42 = .ok (.aload_n 0, 1) := by decide +kernel
theorem dX9_hedge_43 : decode cX9_hedge 43 = .ok (.getfield 19, 3) := by decide +kernel
theorem dX9_hedge_46 : decode cX9_hedge 46 = .ok (.iload 4, 2) := by decide +kernel
theorem dX9_hedge_48 : decode cX9_hedge 48 = .ok (.iload_n 2, 1) := by decide +kernel
theorem dX9_hedge_49 : decode cX9_hedge 49 = .ok (.invokevirtual 118, 3) := by decide +kernel
theorem dX9_hedge_52 : decode cX9_hedge 52 = .ok (.invokestatic 122, 3) := by decide +kernel
theorem dX9_hedge_55 : decode cX9_hedge 55 = .ok (.istore 5, 2) := by decide +kernel
theorem dX9_hedge_57 : decode cX9_hedge 57 = .ok (.aload_n 0, 1) := by decide +kernel
theorem dX9_hedge_58 : decode cX9_hedge 58 = .ok (.getfield 19, 3) := by decide +kernel
theorem dX9_hedge_61 : decode cX9_hedge 61 = .ok (.iload 4, 2) := by decide +kernel
theorem dX9_hedge_63 : decode cX9_hedge 63 = .ok (.iload_n 2, 1) := by decide +kernel
theorem dX9_hedge_64 : decode cX9_hedge 64 = .ok (.iload_n 3, 1) := by decide +kernel
theorem dX9_hedge_65 : decode cX9_hedge 65 = .ok (.invokevirtual 130, 3) := by decide +kernel
theorem dX9_hedge_68 : decode cX9_hedge 68 = .ok (.iload 5, 2) := by decide +kernel
theorem dX9_hedge_70 : decode cX9_hedge 70 = .ok (.ireturn, 1) := by decide +kernel
set_option maxRecDepth 20000 in
theorem ggX9_gates_X1_placeOf : GoodIn wsX9_gates wsX1_placeOf := goodIn_r _ [8, 9, 10, 25, 26, 27, 28, 29, 30, 31] (by decide +kernel) (by decide +kernel)
set_option maxRecDepth 20000 in
theorem gX9_gates_X1_placeOf : GoodIn wsX9_gates (wsV RX9 110 RX1 yX1_placeOf wsX1_placeOf) := goodIn_app (goodIn_of _ (by decide +kernel)) ggX9_gates_X1_placeOf
set_option maxRecDepth 20000 in
theorem ggX9_gates_X1_told : GoodIn wsX9_gates wsX1_told := goodIn_r _ [13] (by decide +kernel) (by decide +kernel)
set_option maxRecDepth 20000 in
theorem gX9_gates_X1_told : GoodIn wsX9_gates (va_wsS RX9 137 yX1_told wsX1_told) := goodIn_app (goodIn_of _ (by decide +kernel)) ggX9_gates_X1_told
theorem dX9_gates_0 : decode cX9_gates 0 = .ok (.aload_n 0, 1) := by decide +kernel
theorem dX9_gates_1 : decode cX9_gates 1 = .ok (.getfield 19, 3) := by decide +kernel
theorem dX9_gates_4 : decode cX9_gates 4 = .ok (.iload_n 1, 1) := by decide +kernel
theorem dX9_gates_5 : decode cX9_gates 5 = .ok (.invokevirtual 110, 3) := by decide +kernel
theorem dX9_gates_8 : decode cX9_gates 8 = .ok (.istore_n 3, 1) := by decide +kernel
theorem dX9_gates_9 : decode cX9_gates 9 = .ok (.aload_n 0, 1) := by decide +kernel
theorem dX9_gates_10 : decode cX9_gates 10 = .ok (.getfield 19, 3) := by decide +kernel
theorem dX9_gates_13 : decode cX9_gates 13 = .ok (.iload_n 2, 1) := by decide +kernel
theorem dX9_gates_14 : decode cX9_gates 14 = .ok (.invokevirtual 110, 3) := by decide +kernel
theorem dX9_gates_17 : decode cX9_gates 17 = .ok (.istore 4, 2) := by decide +kernel
theorem dX9_gates_19 : decode cX9_gates 19 = .ok (.iload_n 3, 1) := by decide +kernel
theorem dX9_gates_20 : decode cX9_gates 20 = .ok (.iconst (-1), 1) := by decide +kernel
theorem dX9_gates_21 : decode cX9_gates 21 = .ok (.if_icmp .eq 9, 3) := by decide +kernel
theorem dX9_gates_24 : decode cX9_gates 24 = .ok (.iload 4, 2) := by decide +kernel
theorem dX9_gates_26 : decode cX9_gates 26 = .ok (.iconst (-1), 1) := by decide +kernel
theorem dX9_gates_27 : decode cX9_gates 27 = .ok (.if_icmp .ne 5, 3) := by decide +kernel
theorem dX9_gates_30 : decode cX9_gates 30 = .ok (.iconst (-1), 1) := by decide +kernel
theorem dX9_gates_31 : decode cX9_gates 31 = .ok (.ireturn, 1) := by decide +kernel
theorem dX9_gates_32 : decode cX9_gates 32 = .ok (.bipush 100, 2) := by decide +kernel
theorem dX9_gates_34 : decode cX9_gates 34 = .ok (.aload_n 0, 1) := by decide +kernel
theorem dX9_gates_35 : decode cX9_gates 35 = .ok (.getfield 19, 3) := by decide +kernel
theorem dX9_gates_38 : decode cX9_gates 38 = .ok (.getfield 134, 3) := by decide +kernel
theorem dX9_gates_41 : decode cX9_gates 41 = .ok (.invokestatic 137, 3) := by decide +kernel
theorem dX9_gates_44 : decode cX9_gates 44 = .ok (.imul, 1) := by decide +kernel
theorem dX9_gates_45 : decode cX9_gates 45 = .ok (.aload_n 0, 1) := by decide +kernel
theorem dX9_gates_46 : decode cX9_gates 46 = .ok (.getfield 19, 3) := by decide +kernel
theorem dX9_gates_49 : decode cX9_gates 49 = .ok (.getfield 140, 3) := by decide +kernel
theorem dX9_gates_52 : decode cX9_gates 52 = .ok (.invokestatic 137, 3) := by decide +kernel
theorem dX9_gates_55 : decode cX9_gates 55 = .ok (.iadd, 1) := by decide +kernel
theorem dX9_gates_56 : decode cX9_gates 56 = .ok (.istore 5, 2) := by decide +kernel
theorem dX9_gates_58 : decode cX9_gates 58 = .ok (.aload_n 0, 1) := by decide +kernel
theorem dX9_gates_59 : decode cX9_gates 59 = .ok (.getfield 19, 3) := by decide +kernel
theorem dX9_gates_62 : decode cX9_gates 62 = .ok (.iload_n 3, 1) := by decide +kernel
theorem dX9_gates_63 : decode cX9_gates 63 = .ok (.putfield 134, 3) := by decide +kernel
theorem dX9_gates_66 : decode cX9_gates 66 = .ok (.aload_n 0, 1) := by decide +kernel
theorem dX9_gates_67 : decode cX9_gates 67 = .ok (.getfield 19, 3) := by decide +kernel
theorem dX9_gates_70 : decode cX9_gates 70 = .ok (.iload 4, 2) := by decide +kernel
theorem dX9_gates_72 : decode cX9_gates 72 = .ok (.putfield 140, 3) := by decide +kernel
theorem dX9_gates_75 : decode cX9_gates 75 = .ok (.iload 5, 2) := by decide +kernel
theorem dX9_gates_77 : decode cX9_gates 77 = .ok (.ireturn, 1) := by decide +kernel
set_option maxRecDepth 20000 in
theorem ggX9_figure_X1_placeOf : GoodIn wsX9_figure wsX1_placeOf := goodIn_r _ [6, 7, 8, 33, 34, 35, 36, 37, 38, 39] (by decide +kernel) (by decide +kernel)
set_option maxRecDepth 20000 in
theorem gX9_figure_X1_placeOf : GoodIn wsX9_figure (wsV RX9 110 RX1 yX1_placeOf wsX1_placeOf) := goodIn_app (goodIn_of _ (by decide +kernel)) ggX9_figure_X1_placeOf
set_option maxRecDepth 20000 in
theorem ggX9_figure_X1_isOpen : GoodIn wsX9_figure wsX1_isOpen := goodIn_r _ [12, 13, 14, 15, 16, 5, 17, 33, 34, 35, 36, 37, 38, 39] (by decide +kernel) (by decide +kernel)
set_option maxRecDepth 20000 in
theorem gX9_figure_X1_isOpen : GoodIn wsX9_figure (wsV RX9 118 RX1 yX1_isOpen wsX1_isOpen) := goodIn_app (goodIn_of _ (by decide +kernel)) ggX9_figure_X1_isOpen
set_option maxRecDepth 20000 in
theorem ggX9_figure_X9_oneIf : GoodIn wsX9_figure wsX9_oneIf := goodIn_r _ [21] (by decide +kernel) (by decide +kernel)
set_option maxRecDepth 20000 in
theorem gX9_figure_X9_oneIf : GoodIn wsX9_figure (va_wsS RX9 122 yX9_oneIf wsX9_oneIf) := goodIn_app (goodIn_of _ (by decide +kernel)) ggX9_figure_X9_oneIf
theorem dX9_figure_0 : decode cX9_figure 0 = .ok (.aload_n 0, 1) := by decide +kernel
theorem dX9_figure_1 : decode cX9_figure 1 = .ok (.getfield 19, 3) := by decide +kernel
theorem dX9_figure_4 : decode cX9_figure 4 = .ok (.iload_n 1, 1) := by decide +kernel
theorem dX9_figure_5 : decode cX9_figure 5 = .ok (.invokevirtual 110, 3) := by decide +kernel
theorem dX9_figure_8 : decode cX9_figure 8 = .ok (.istore_n 2, 1) := by decide +kernel
theorem dX9_figure_9 : decode cX9_figure 9 = .ok (.iload_n 2, 1) := by decide +kernel
theorem dX9_figure_10 : decode cX9_figure 10 = .ok (.iconst (-1), 1) := by decide +kernel
theorem dX9_figure_11 : decode cX9_figure 11 = .ok (.if_icmp .ne 5, 3) := by decide +kernel
theorem dX9_figure_14 : decode cX9_figure 14 = .ok (.iconst (-1), 1) := by decide +kernel
theorem dX9_figure_15 : decode cX9_figure 15 = .ok (.ireturn, 1) := by decide +kernel
theorem dX9_figure_16 : decode cX9_figure 16 = .ok (.aload_n 0, 1) := by decide +kernel
theorem dX9_figure_17 : decode cX9_figure 17 = .ok (.getfield 19, 3) := by decide +kernel
theorem dX9_figure_20 : decode cX9_figure 20 = .ok (.iload_n 2, 1) := by decide +kernel
theorem dX9_figure_21 : decode cX9_figure 21 = .ok (.iconst 1, 1) := by decide +kernel
theorem dX9_figure_22 : decode cX9_figure 22 = .ok (.invokevirtual 118, 3) := by decide +kernel
theorem dX9_figure_25 : decode cX9_figure 25 = .ok (.invokestatic 122, 3) := by decide +kernel
theorem dX9_figure_28 : decode cX9_figure 28 = .ok (.iconst 2, 1) := by decide +kernel
theorem dX9_figure_29 : decode cX9_figure 29 = .ok (.aload_n 0, 1) := by decide +kernel
theorem dX9_figure_30 : decode cX9_figure 30 = .ok (.getfield 19, 3) := by decide +kernel
theorem dX9_figure_33 : decode cX9_figure 33 = .ok (.iload_n 2, 1) := by decide +kernel
theorem dX9_figure_34 : decode cX9_figure 34 = .ok (.iconst 2, 1) := by decide +kernel
theorem dX9_figure_35 : decode cX9_figure 35 = .ok (.invokevirtual 118, 3) := by decide +kernel
theorem dX9_figure_38 : decode cX9_figure 38 = .ok (.invokestatic 122, 3) := by decide +kernel
theorem dX9_figure_41 : decode cX9_figure 41 = .ok (.imul, 1) := by decide +kernel
theorem dX9_figure_42 : decode cX9_figure 42 = .ok (.iadd, 1) := by decide +kernel
theorem dX9_figure_43 : decode cX9_figure 43 = .ok (.ireturn, 1) := by decide +kernel
set_option maxRecDepth 20000 in
theorem ggX9_about_X1_size : GoodIn wsX9_about wsX1_size := goodIn_r _ [13, 14, 15, 130, 131, 132, 133, 134, 135, 136] (by decide +kernel) (by decide +kernel)
set_option maxRecDepth 20000 in
theorem gX9_about_X1_size : GoodIn wsX9_about (wsV RX9 96 RX1 yX1_size wsX1_size) := goodIn_app (goodIn_of _ (by decide +kernel)) ggX9_about_X1_size
set_option maxRecDepth 20000 in
theorem ggX9_about_X1_openings : GoodIn wsX9_about wsX1_openings := goodIn_r _ [19, 20, 21, 22, 23, 24, 25, 26, 27, 28, 130, 131, 132, 133, 134, 135, 136] (by decide +kernel) (by decide +kernel)
set_option maxRecDepth 20000 in
theorem gX9_about_X1_openings : GoodIn wsX9_about (wsV RX9 149 RX1 yX1_openings wsX1_openings) := goodIn_app (goodIn_of _ (by decide +kernel)) ggX9_about_X1_openings
set_option maxRecDepth 20000 in
theorem ggX9_about_X7_parts : GoodIn wsX9_about wsX7_parts := goodIn_r _ [33, 34, 35, 36, 37, 38, 12, 39, 22, 23, 24, 25, 26, 27, 28, 40, 41, 42, 43, 44, 45, 46, 47, 48, 49, 50, 51, 52, 53, 54, 55, 20, 21, 139, 130, 131, 132, 133, 134, 135, 136] (by decide +kernel) (by decide +kernel)
set_option maxRecDepth 20000 in
theorem gX9_about_X7_parts : GoodIn wsX9_about (wsV RX9 152 RX7 yX7_parts wsX7_parts) := goodIn_app (goodIn_of _ (by decide +kernel)) ggX9_about_X7_parts
set_option maxRecDepth 20000 in
theorem ggX9_about_X7_cellsWithNeighbours : GoodIn wsX9_about wsX7_cellsWithNeighbours := goodIn_r _ [59, 34, 35, 60, 61, 62, 12, 63, 45, 46, 47, 52, 53, 54, 55, 20, 21, 22, 23, 24, 25, 26, 27, 28, 64, 65, 66, 139, 130, 131, 132, 133, 134, 135, 136] (by decide +kernel) (by decide +kernel)
set_option maxRecDepth 20000 in
theorem gX9_about_X7_cellsWithNeighbours : GoodIn wsX9_about (wsV RX9 155 RX7 yX7_cellsWithNeighbours wsX7_cellsWithNeighbours) := goodIn_app (goodIn_of _ (by decide +kernel)) ggX9_about_X7_cellsWithNeighbours
set_option maxRecDepth 20000 in
theorem ggX9_about_X7_bridges : GoodIn wsX9_about wsX7_bridges := goodIn_r _ [70, 71, 72, 73, 32, 74, 34, 75, 76, 77, 12, 78, 79, 80, 81, 82, 21, 20, 83, 65, 66, 84, 85, 86, 87, 44, 88, 89, 90, 91, 92, 93, 94, 95, 96, 45, 46, 47, 40, 41, 42, 43, 48, 49, 50, 51, 52, 53, 54, 55, 64, 139, 130, 131, 132, 133, 134, 135, 136] (by decide +kernel) (by decide +kernel)
set_option maxRecDepth 20000 in
theorem gX9_about_X7_bridges : GoodIn wsX9_about (wsV RX9 158 RX7 yX7_bridges wsX7_bridges) := goodIn_app (goodIn_of _ (by decide +kernel)) ggX9_about_X7_bridges
set_option maxRecDepth 20000 in
theorem ggX9_about_X7_mustCells : GoodIn wsX9_about wsX7_mustCells := goodIn_r _ [100, 34, 101, 35, 102, 36, 103, 46, 12, 47, 104, 49, 50, 51, 52, 53, 54, 55, 20, 21, 64, 65, 66, 139, 130, 131, 132, 133, 134, 135, 136] (by decide +kernel) (by decide +kernel)
set_option maxRecDepth 20000 in
theorem gX9_about_X7_mustCells : GoodIn wsX9_about (wsV RX9 161 RX7 yX7_mustCells wsX7_mustCells) := goodIn_app (goodIn_of _ (by decide +kernel)) ggX9_about_X7_mustCells
set_option maxRecDepth 20000 in
theorem ggX9_about_J13_bitCount_95d88 : GoodIn wsX9_about wsJ13_bitCount_95d88 := goodIn_r _ [25, 26, 27, 28] (by decide +kernel) (by decide +kernel)
set_option maxRecDepth 20000 in
theorem gX9_about_J13_bitCount_95d88 : GoodIn wsX9_about (va_wsS RX9 165 yJ13_bitCount_95d88 wsJ13_bitCount_95d88) := goodIn_app (goodIn_of _ (by decide +kernel)) ggX9_about_J13_bitCount_95d88
set_option maxRecDepth 20000 in
theorem ggX9_about_X7_leftCells : GoodIn wsX9_about wsX7_leftCells := goodIn_r _ [109, 34, 35, 101, 102, 36, 110, 111, 112, 32, 113, 103, 46, 12, 47, 114, 53, 54, 55, 20, 21, 115, 23, 24, 25, 26, 27, 28, 139, 130, 131, 132, 133, 134, 135, 136] (by decide +kernel) (by decide +kernel)
set_option maxRecDepth 20000 in
theorem gX9_about_X7_leftCells : GoodIn wsX9_about (wsV RX9 171 RX7 yX7_leftCells wsX7_leftCells) := goodIn_app (goodIn_of _ (by decide +kernel)) ggX9_about_X7_leftCells
set_option maxRecDepth 20000 in
theorem ggX9_about_X1_told : GoodIn wsX9_about wsX1_told := goodIn_r _ [118] (by decide +kernel) (by decide +kernel)
set_option maxRecDepth 20000 in
theorem gX9_about_X1_told : GoodIn wsX9_about (va_wsS RX9 137 yX1_told wsX1_told) := goodIn_app (goodIn_of _ (by decide +kernel)) ggX9_about_X1_told
theorem dX9_about_0 : decode cX9_about 0 = .ok (.iload_n 1, 1) := by decide +kernel
theorem dX9_about_1 : decode cX9_about 1 = .ok (.tableswitch 215 0 13 #[71, 79, 87, 95, 103, 111, 135, 145, 155, 163, 174, 185, 196, 207], 71) := by decide +kernel
theorem dX9_about_72 : decode cX9_about 72 = .ok (.aload_n 0, 1) := by decide +kernel
theorem dX9_about_73 : decode cX9_about 73 = .ok (.getfield 19, 3) := by decide +kernel
theorem dX9_about_76 : decode cX9_about 76 = .ok (.invokevirtual 96, 3) := by decide +kernel
theorem dX9_about_79 : decode cX9_about 79 = .ok (.ireturn, 1) := by decide +kernel
theorem dX9_about_80 : decode cX9_about 80 = .ok (.aload_n 0, 1) := by decide +kernel
theorem dX9_about_81 : decode cX9_about 81 = .ok (.getfield 19, 3) := by decide +kernel
theorem dX9_about_84 : decode cX9_about 84 = .ok (.getfield 143, 3) := by decide +kernel
theorem dX9_about_87 : decode cX9_about 87 = .ok (.ireturn, 1) := by decide +kernel
theorem dX9_about_88 : decode cX9_about 88 = .ok (.aload_n 0, 1) := by decide +kernel
theorem dX9_about_89 : decode cX9_about 89 = .ok (.getfield 19, 3) := by decide +kernel
theorem dX9_about_92 : decode cX9_about 92 = .ok (.getfield 146, 3) := by decide +kernel
theorem dX9_about_95 : decode cX9_about 95 = .ok (.ireturn, 1) := by decide +kernel
theorem dX9_about_96 : decode cX9_about 96 = .ok (.aload_n 0, 1) := by decide +kernel
theorem dX9_about_97 : decode cX9_about 97 = .ok (.getfield 19, 3) := by decide +kernel
theorem dX9_about_100 : decode cX9_about 100 = .ok (.invokevirtual 149, 3) := by decide +kernel
theorem dX9_about_103 : decode cX9_about 103 = .ok (.ireturn, 1) := by decide +kernel
theorem dX9_about_104 : decode cX9_about 104 = .ok (.aload_n 0, 1) := by decide +kernel
theorem dX9_about_105 : decode cX9_about 105 = .ok (.getfield 42, 3) := by decide +kernel
theorem dX9_about_108 : decode cX9_about 108 = .ok (.invokevirtual 152, 3) := by decide +kernel
theorem dX9_about_111 : decode cX9_about 111 = .ok (.ireturn, 1) := by decide +kernel
theorem dX9_about_112 : decode cX9_about 112 = .ok (.aload_n 0, 1) := by decide +kernel
theorem dX9_about_113 : decode cX9_about 113 = .ok (.getfield 19, 3) := by decide +kernel
theorem dX9_about_116 : decode cX9_about 116 = .ok (.invokevirtual 149, 3) := by decide +kernel
theorem dX9_about_119 : decode cX9_about 119 = .ok (.aload_n 0, 1) := by decide +kernel
theorem dX9_about_120 : decode cX9_about 120 = .ok (.getfield 42, 3) := by decide +kernel
theorem dX9_about_123 : decode cX9_about 123 = .ok (.invokevirtual 152, 3) := by decide +kernel
theorem dX9_about_126 : decode cX9_about 126 = .ok (.iadd, 1) := by decide +kernel
theorem dX9_about_127 : decode cX9_about 127 = .ok (.aload_n 0, 1) := by decide +kernel
theorem dX9_about_128 : decode cX9_about 128 = .ok (.getfield 19, 3) := by decide +kernel
theorem dX9_about_131 : decode cX9_about 131 = .ok (.invokevirtual 96, 3) := by decide +kernel
theorem dX9_about_134 : decode cX9_about 134 = .ok (.isub, 1) := by decide +kernel
theorem dX9_about_135 : decode cX9_about 135 = .ok (.ireturn, 1) := by decide +kernel
theorem dX9_about_136 : decode cX9_about 136 = .ok (.aload_n 0, 1) := by decide +kernel
theorem dX9_about_137 : decode cX9_about 137 = .ok (.getfield 42, 3) := by decide +kernel
theorem dX9_about_140 : decode cX9_about 140 = .ok (.iconst 1, 1) := by decide +kernel
theorem dX9_about_141 : decode cX9_about 141 = .ok (.iconst 1, 1) := by decide +kernel
theorem dX9_about_142 : decode cX9_about 142 = .ok (.invokevirtual 155, 3) := by decide +kernel
theorem dX9_about_145 : decode cX9_about 145 = .ok (.ireturn, 1) := by decide +kernel
theorem dX9_about_146 : decode cX9_about 146 = .ok (.aload_n 0, 1) := by decide +kernel
theorem dX9_about_147 : decode cX9_about 147 = .ok (.getfield 42, 3) := by decide +kernel
theorem dX9_about_150 : decode cX9_about 150 = .ok (.iconst 3, 1) := by decide +kernel
theorem dX9_about_151 : decode cX9_about 151 = .ok (.iconst 4, 1) := by decide +kernel
theorem dX9_about_152 : decode cX9_about 152 = .ok (.invokevirtual 155, 3) := by decide +kernel
theorem dX9_about_155 : decode cX9_about 155 = .ok (.ireturn, 1) := by decide +kernel
theorem dX9_about_156 : decode cX9_about 156 = .ok (.aload_n 0, 1) := by decide +kernel
theorem dX9_about_157 : decode cX9_about 157 = .ok (.getfield 42, 3) := by decide +kernel
theorem dX9_about_160 : decode cX9_about 160 = .ok (.invokevirtual 158, 3) := by decide +kernel
theorem dX9_about_163 : decode cX9_about 163 = .ok (.ireturn, 1) := by decide +kernel
theorem dX9_about_164 : decode cX9_about 164 = .ok (.aload_n 0, 1) := by decide +kernel
theorem dX9_about_165 : decode cX9_about 165 = .ok (.getfield 42, 3) := by decide +kernel
theorem dX9_about_168 : decode cX9_about 168 = .ok (.invokevirtual 161, 3) := by decide +kernel
theorem dX9_about_171 : decode cX9_about 171 = .ok (.invokestatic 165, 3) := by decide +kernel
theorem dX9_about_174 : decode cX9_about 174 = .ok (.ireturn, 1) := by decide +kernel
theorem dX9_about_175 : decode cX9_about 175 = .ok (.aload_n 0, 1) := by decide +kernel
theorem dX9_about_176 : decode cX9_about 176 = .ok (.getfield 42, 3) := by decide +kernel
theorem dX9_about_179 : decode cX9_about 179 = .ok (.invokevirtual 171, 3) := by decide +kernel
theorem dX9_about_182 : decode cX9_about 182 = .ok (.invokestatic 165, 3) := by decide +kernel
theorem dX9_about_185 : decode cX9_about 185 = .ok (.ireturn, 1) := by decide +kernel
theorem dX9_about_186 : decode cX9_about 186 = .ok (.aload_n 0, 1) := by decide +kernel
theorem dX9_about_187 : decode cX9_about 187 = .ok (.getfield 19, 3) := by decide +kernel
theorem dX9_about_190 : decode cX9_about 190 = .ok (.getfield 134, 3) := by decide +kernel
theorem dX9_about_193 : decode cX9_about 193 = .ok (.invokestatic 137, 3) := by decide +kernel
theorem dX9_about_196 : decode cX9_about 196 = .ok (.ireturn, 1) := by decide +kernel
theorem dX9_about_197 : decode cX9_about 197 = .ok (.aload_n 0, 1) := by decide +kernel
theorem dX9_about_198 : decode cX9_about 198 = .ok (.getfield 19, 3) := by decide +kernel
theorem dX9_about_201 : decode cX9_about 201 = .ok (.getfield 140, 3) := by decide +kernel
theorem dX9_about_204 : decode cX9_about 204 = .ok (.invokestatic 137, 3) := by decide +kernel
theorem dX9_about_207 : decode cX9_about 207 = .ok (.ireturn, 1) := by decide +kernel
theorem dX9_about_208 : decode cX9_about 208 = .ok (.aload_n 0, 1) := by decide +kernel
theorem dX9_about_209 : decode cX9_about 209 = .ok (.getfield 12, 3) := by decide +kernel
theorem dX9_about_212 : decode cX9_about 212 = .ok (.getfield 81, 3) := by decide +kernel
theorem dX9_about_215 : decode cX9_about 215 = .ok (.ireturn, 1) := by decide +kernel
theorem dX9_about_216 : decode cX9_about 216 = .ok (.bipush (-2), 2) := by decide +kernel
theorem dX9_about_218 : decode cX9_about 218 = .ok (.ireturn, 1) := by decide +kernel
set_option maxRecDepth 20000 in
theorem ggX9_part_X1_placeOf : GoodIn wsX9_part wsX1_placeOf := goodIn_r _ [6, 7, 8, 51, 52, 53, 54, 55, 56, 57] (by decide +kernel) (by decide +kernel)
set_option maxRecDepth 20000 in
theorem gX9_part_X1_placeOf : GoodIn wsX9_part (wsV RX9 110 RX1 yX1_placeOf wsX1_placeOf) := goodIn_app (goodIn_of _ (by decide +kernel)) ggX9_part_X1_placeOf
set_option maxRecDepth 20000 in
theorem ggX9_part_X1_partOf : GoodIn wsX9_part wsX1_partOf := goodIn_r _ [12, 13, 14, 15, 5, 16, 17, 18, 19, 20, 21, 22, 23, 24, 25, 26, 51, 52, 53, 54, 55, 56, 57] (by decide +kernel) (by decide +kernel)
set_option maxRecDepth 20000 in
theorem gX9_part_X1_partOf : GoodIn wsX9_part (wsV RX9 174 RX1 yX1_partOf wsX1_partOf) := goodIn_app (goodIn_of _ (by decide +kernel)) ggX9_part_X1_partOf
set_option maxRecDepth 20000 in
theorem ggX9_part_X1_least : GoodIn wsX9_part wsX1_least := goodIn_r _ [29, 30, 31, 32, 33, 34, 35, 36] (by decide +kernel) (by decide +kernel)
set_option maxRecDepth 20000 in
theorem gX9_part_X1_least : GoodIn wsX9_part (va_wsS RX9 178 yX1_least wsX1_least) := goodIn_app (goodIn_of _ (by decide +kernel)) ggX9_part_X1_least
set_option maxRecDepth 20000 in
theorem ggX9_part_X1_told : GoodIn wsX9_part wsX1_told := goodIn_r _ [39] (by decide +kernel) (by decide +kernel)
set_option maxRecDepth 20000 in
theorem gX9_part_X1_told : GoodIn wsX9_part (va_wsS RX9 137 yX1_told wsX1_told) := goodIn_app (goodIn_of _ (by decide +kernel)) ggX9_part_X1_told
theorem dX9_part_0 : decode cX9_part 0 = .ok (.aload_n 0, 1) := by decide +kernel
theorem dX9_part_1 : decode cX9_part 1 = .ok (.getfield 19, 3) := by decide +kernel
theorem dX9_part_4 : decode cX9_part 4 = .ok (.iload_n 1, 1) := by decide +kernel
theorem dX9_part_5 : decode cX9_part 5 = .ok (.invokevirtual 110, 3) := by decide +kernel
theorem dX9_part_8 : decode cX9_part 8 = .ok (.istore_n 2, 1) := by decide +kernel
theorem dX9_part_9 : decode cX9_part 9 = .ok (.iload_n 2, 1) := by decide +kernel
theorem dX9_part_10 : decode cX9_part 10 = .ok (.iconst (-1), 1) := by decide +kernel
theorem dX9_part_11 : decode cX9_part 11 = .ok (.if_icmp .ne 5, 3) := by decide +kernel
theorem dX9_part_14 : decode cX9_part 14 = .ok (.iconst (-1), 1) := by decide +kernel
theorem dX9_part_15 : decode cX9_part 15 = .ok (.ireturn, 1) := by decide +kernel
theorem dX9_part_16 : decode cX9_part 16 = .ok (.aload_n 0, 1) := by decide +kernel
theorem dX9_part_17 : decode cX9_part 17 = .ok (.getfield 19, 3) := by decide +kernel
theorem dX9_part_20 : decode cX9_part 20 = .ok (.iload_n 2, 1) := by decide +kernel
theorem dX9_part_21 : decode cX9_part 21 = .ok (.invokevirtual 174, 3) := by decide +kernel
theorem dX9_part_24 : decode cX9_part 24 = .ok (.invokestatic 178, 3) := by decide +kernel
theorem dX9_part_27 : decode cX9_part 27 = .ok (.invokestatic 137, 3) := by decide +kernel
theorem dX9_part_30 : decode cX9_part 30 = .ok (.ireturn, 1) := by decide +kernel
set_option maxRecDepth 20000 in
theorem ggX9_bridge_X1_placeOf : GoodIn wsX9_bridge wsX1_placeOf := goodIn_r _ [7, 8, 9, 78, 79, 80, 81, 82, 83, 84] (by decide +kernel) (by decide +kernel)
set_option maxRecDepth 20000 in
theorem gX9_bridge_X1_placeOf : GoodIn wsX9_bridge (wsV RX9 110 RX1 yX1_placeOf wsX1_placeOf) := goodIn_app (goodIn_of _ (by decide +kernel)) ggX9_bridge_X1_placeOf
set_option maxRecDepth 20000 in
theorem ggX9_bridge_X9_isSide : GoodIn wsX9_bridge wsX9_isSide := goodIn_r _ [13] (by decide +kernel) (by decide +kernel)
set_option maxRecDepth 20000 in
theorem gX9_bridge_X9_isSide : GoodIn wsX9_bridge (va_wsS RX9 114 yX9_isSide wsX9_isSide) := goodIn_app (goodIn_of _ (by decide +kernel)) ggX9_bridge_X9_isSide
set_option maxRecDepth 20000 in
theorem ggX9_bridge_X1_isOpen : GoodIn wsX9_bridge wsX1_isOpen := goodIn_r _ [17, 18, 19, 20, 21, 6, 22, 78, 79, 80, 81, 82, 83, 84] (by decide +kernel) (by decide +kernel)
set_option maxRecDepth 20000 in
theorem gX9_bridge_X1_isOpen : GoodIn wsX9_bridge (wsV RX9 118 RX1 yX1_isOpen wsX1_isOpen) := goodIn_app (goodIn_of _ (by decide +kernel)) ggX9_bridge_X1_isOpen
set_option maxRecDepth 20000 in
theorem ggX9_bridge_X7_isBridge : GoodIn wsX9_bridge wsX7_isBridge := goodIn_r _ [27, 28, 29, 30, 31, 6, 32, 33, 15, 16, 17, 18, 19, 20, 21, 22, 34, 35, 36, 37, 38, 39, 40, 41, 42, 43, 44, 45, 46, 47, 48, 49, 50, 51, 52, 53, 54, 55, 56, 57, 58, 59, 60, 61, 62, 63, 85, 78, 79, 80, 81, 82, 83, 84] (by decide +kernel) (by decide +kernel)
set_option maxRecDepth 20000 in
theorem gX9_bridge_X7_isBridge : GoodIn wsX9_bridge (wsV RX9 181 RX7 yX7_isBridge wsX7_isBridge) := goodIn_app (goodIn_of _ (by decide +kernel)) ggX9_bridge_X7_isBridge
set_option maxRecDepth 20000 in
theorem ggX9_bridge_X9_oneIf : GoodIn wsX9_bridge wsX9_oneIf := goodIn_r _ [66] (by decide +kernel) (by decide +kernel)
set_option maxRecDepth 20000 in
theorem gX9_bridge_X9_oneIf : GoodIn wsX9_bridge (va_wsS RX9 122 yX9_oneIf wsX9_oneIf) := goodIn_app (goodIn_of _ (by decide +kernel)) ggX9_bridge_X9_oneIf
theorem dX9_bridge_0 : decode cX9_bridge 0 = .ok (.aload_n 0, 1) := by decide +kernel
theorem dX9_bridge_1 : decode cX9_bridge 1 = .ok (.getfield 19, 3) := by decide +kernel
theorem dX9_bridge_4 : decode cX9_bridge 4 = .ok (.iload_n 1, 1) := by decide +kernel
theorem dX9_bridge_5 : decode cX9_bridge 5 = .ok (.invokevirtual 110, 3) := by decide +kernel
theorem dX9_bridge_8 : decode cX9_bridge 8 = .ok (.istore_n 3, 1) := by decide +kernel
theorem dX9_bridge_9 : decode cX9_bridge 9 = .ok (.iload_n 3, 1) := by decide +kernel
theorem dX9_bridge_10 : decode cX9_bridge 10 = .ok (.iconst (-1), 1) := by decide +kernel
theorem dX9_bridge_11 : decode cX9_bridge 11 = .ok (.if_icmp .eq 10, 3) := by decide +kernel
theorem dX9_bridge_14 : decode cX9_bridge 14 = .ok (.iload_n 2, 1) := by decide +kernel
theorem dX9_bridge_15 : decode cX9_bridge 15 = .ok (.invokestatic 114, 3) := by decide +kernel
theorem dX9_bridge_18 : decode cX9_bridge 18 = .ok (.ifCond .ne 5, 3) := by decide +kernel
theorem dX9_bridge_21 : decode cX9_bridge 21 = .ok (.iconst (-1), 1) := by decide +kernel
theorem dX9_bridge_22 : decode cX9_bridge 22 = .ok (.ireturn, 1) := by decide +kernel
theorem dX9_bridge_23 : decode cX9_bridge 23 = .ok (.aload_n 0, 1) := by decide +kernel
theorem dX9_bridge_24 : decode cX9_bridge 24 = .ok (.getfield 19, 3) := by decide +kernel
theorem dX9_bridge_27 : decode cX9_bridge 27 = .ok (.iload_n 3, 1) := by decide +kernel
theorem dX9_bridge_28 : decode cX9_bridge 28 = .ok (.iload_n 2, 1) := by decide +kernel
theorem dX9_bridge_29 : decode cX9_bridge 29 = .ok (.invokevirtual 118, 3) := by decide +kernel
theorem dX9_bridge_32 : decode cX9_bridge 32 = .ok (.ifCond .ne 6, 3) := by decide +kernel
theorem dX9_bridge_35 : decode cX9_bridge 35 = .ok (.bipush (-3), 2) := by decide +kernel
theorem dX9_bridge_37 : decode cX9_bridge 37 = .ok (.ireturn, 1) := by decide +kernel
theorem dX9_bridge_38 : decode cX9_bridge 38 = .ok (.aload_n 0, 1) := by decide +kernel
theorem dX9_bridge_39 : decode cX9_bridge 39 = .ok (.getfield 42, 3) := by decide +kernel
theorem dX9_bridge_42 : decode cX9_bridge 42 = .ok (.iload_n 3, 1) := by decide +kernel
theorem dX9_bridge_43 : decode cX9_bridge 43 = .ok (.iload_n 2, 1) := by decide +kernel
theorem dX9_bridge_44 : decode cX9_bridge 44 = .ok (.invokevirtual 181, 3) := by decide +kernel
theorem dX9_bridge_47 : decode cX9_bridge 47 = .ok (.invokestatic 122, 3) := by decide +kernel
theorem dX9_bridge_50 : decode cX9_bridge 50 = .ok (.ireturn, 1) := by decide +kernel
set_option maxRecDepth 20000 in
theorem ggX9_must_X1_placeOf : GoodIn wsX9_must wsX1_placeOf := goodIn_r _ [7, 8, 9, 52, 53, 54, 55, 56, 57, 58] (by decide +kernel) (by decide +kernel)
set_option maxRecDepth 20000 in
theorem gX9_must_X1_placeOf : GoodIn wsX9_must (wsV RX9 110 RX1 yX1_placeOf wsX1_placeOf) := goodIn_app (goodIn_of _ (by decide +kernel)) ggX9_must_X1_placeOf
set_option maxRecDepth 20000 in
theorem ggX9_must_X7_mustCells : GoodIn wsX9_must wsX7_mustCells := goodIn_r _ [14, 15, 16, 17, 18, 19, 20, 21, 6, 22, 23, 24, 25, 26, 27, 28, 29, 30, 31, 32, 33, 34, 35, 59, 52, 53, 54, 55, 56, 57, 58] (by decide +kernel) (by decide +kernel)
set_option maxRecDepth 20000 in
theorem gX9_must_X7_mustCells : GoodIn wsX9_must (wsV RX9 161 RX7 yX7_mustCells wsX7_mustCells) := goodIn_app (goodIn_of _ (by decide +kernel)) ggX9_must_X7_mustCells
set_option maxRecDepth 20000 in
theorem ggX9_must_X1_has : GoodIn wsX9_must wsX1_has := goodIn_r _ [35] (by decide +kernel) (by decide +kernel)
set_option maxRecDepth 20000 in
theorem gX9_must_X1_has : GoodIn wsX9_must (va_wsS RX9 184 yX1_has wsX1_has) := goodIn_app (goodIn_of _ (by decide +kernel)) ggX9_must_X1_has
set_option maxRecDepth 20000 in
theorem ggX9_must_X9_oneIf : GoodIn wsX9_must wsX9_oneIf := goodIn_r _ [40] (by decide +kernel) (by decide +kernel)
set_option maxRecDepth 20000 in
theorem gX9_must_X9_oneIf : GoodIn wsX9_must (va_wsS RX9 122 yX9_oneIf wsX9_oneIf) := goodIn_app (goodIn_of _ (by decide +kernel)) ggX9_must_X9_oneIf
theorem dX9_must_0 : decode cX9_must 0 = .ok (.aload_n 0, 1) := by decide +kernel
theorem dX9_must_1 : decode cX9_must 1 = .ok (.getfield 19, 3) := by decide +kernel
theorem dX9_must_4 : decode cX9_must 4 = .ok (.iload_n 1, 1) := by decide +kernel
theorem dX9_must_5 : decode cX9_must 5 = .ok (.invokevirtual 110, 3) := by decide +kernel
theorem dX9_must_8 : decode cX9_must 8 = .ok (.istore_n 2, 1) := by decide +kernel
theorem dX9_must_9 : decode cX9_must 9 = .ok (.iload_n 2, 1) := by decide +kernel
theorem dX9_must_10 : decode cX9_must 10 = .ok (.iconst (-1), 1) := by decide +kernel
theorem dX9_must_11 : decode cX9_must 11 = .ok (.if_icmp .ne 5, 3) := by decide +kernel
theorem dX9_must_14 : decode cX9_must 14 = .ok (.iconst (-1), 1) := by decide +kernel
theorem dX9_must_15 : decode cX9_must 15 = .ok (.ireturn, 1) := by decide +kernel
theorem dX9_must_16 : decode cX9_must 16 = .ok (.aload_n 0, 1) := by decide +kernel
theorem dX9_must_17 : decode cX9_must 17 = .ok (.getfield 42, 3) := by decide +kernel
theorem dX9_must_20 : decode cX9_must 20 = .ok (.invokevirtual 161, 3) := by decide +kernel
theorem dX9_must_23 : decode cX9_must 23 = .ok (.iload_n 2, 1) := by decide +kernel
theorem dX9_must_24 : decode cX9_must 24 = .ok (.invokestatic 184, 3) := by decide +kernel
theorem dX9_must_27 : decode cX9_must 27 = .ok (.invokestatic 122, 3) := by decide +kernel
theorem dX9_must_30 : decode cX9_must 30 = .ok (.ireturn, 1) := by decide +kernel
set_option maxRecDepth 20000 in
theorem ggX9_left_X1_placeOf : GoodIn wsX9_left wsX1_placeOf := goodIn_r _ [7, 8, 9, 58, 59, 60, 61, 62, 63, 64] (by decide +kernel) (by decide +kernel)
set_option maxRecDepth 20000 in
theorem gX9_left_X1_placeOf : GoodIn wsX9_left (wsV RX9 110 RX1 yX1_placeOf wsX1_placeOf) := goodIn_app (goodIn_of _ (by decide +kernel)) ggX9_left_X1_placeOf
set_option maxRecDepth 20000 in
theorem ggX9_left_X7_leftCells : GoodIn wsX9_left wsX7_leftCells := goodIn_r _ [14, 15, 16, 17, 18, 19, 20, 21, 22, 13, 23, 24, 25, 6, 26, 27, 28, 29, 30, 31, 32, 33, 34, 35, 36, 37, 38, 39, 65, 58, 59, 60, 61, 62, 63, 64] (by decide +kernel) (by decide +kernel)
set_option maxRecDepth 20000 in
theorem gX9_left_X7_leftCells : GoodIn wsX9_left (wsV RX9 171 RX7 yX7_leftCells wsX7_leftCells) := goodIn_app (goodIn_of _ (by decide +kernel)) ggX9_left_X7_leftCells
set_option maxRecDepth 20000 in
theorem ggX9_left_X1_has : GoodIn wsX9_left wsX1_has := goodIn_r _ [42] (by decide +kernel) (by decide +kernel)
set_option maxRecDepth 20000 in
theorem gX9_left_X1_has : GoodIn wsX9_left (va_wsS RX9 184 yX1_has wsX1_has) := goodIn_app (goodIn_of _ (by decide +kernel)) ggX9_left_X1_has
set_option maxRecDepth 20000 in
theorem ggX9_left_X9_oneIf : GoodIn wsX9_left wsX9_oneIf := goodIn_r _ [46] (by decide +kernel) (by decide +kernel)
set_option maxRecDepth 20000 in
theorem gX9_left_X9_oneIf : GoodIn wsX9_left (va_wsS RX9 122 yX9_oneIf wsX9_oneIf) := goodIn_app (goodIn_of _ (by decide +kernel)) ggX9_left_X9_oneIf
theorem dX9_left_0 : decode cX9_left 0 = .ok (.aload_n 0, 1) := by decide +kernel
theorem dX9_left_1 : decode cX9_left 1 = .ok (.getfield 19, 3) := by decide +kernel
theorem dX9_left_4 : decode cX9_left 4 = .ok (.iload_n 1, 1) := by decide +kernel
theorem dX9_left_5 : decode cX9_left 5 = .ok (.invokevirtual 110, 3) := by decide +kernel
theorem dX9_left_8 : decode cX9_left 8 = .ok (.istore_n 2, 1) := by decide +kernel
theorem dX9_left_9 : decode cX9_left 9 = .ok (.iload_n 2, 1) := by decide +kernel
theorem dX9_left_10 : decode cX9_left 10 = .ok (.iconst (-1), 1) := by decide +kernel
theorem dX9_left_11 : decode cX9_left 11 = .ok (.if_icmp .ne 5, 3) := by decide +kernel
theorem dX9_left_14 : decode cX9_left 14 = .ok (.iconst (-1), 1) := by decide +kernel
theorem dX9_left_15 : decode cX9_left 15 = .ok (.ireturn, 1) := by decide +kernel
theorem dX9_left_16 : decode cX9_left 16 = .ok (.aload_n 0, 1) := by decide +kernel
theorem dX9_left_17 : decode cX9_left 17 = .ok (.getfield 42, 3) := by decide +kernel
theorem dX9_left_20 : decode cX9_left 20 = .ok (.invokevirtual 171, 3) := by decide +kernel
theorem dX9_left_23 : decode cX9_left 23 = .ok (.iload_n 2, 1) := by decide +kernel
theorem dX9_left_24 : decode cX9_left 24 = .ok (.invokestatic 184, 3) := by decide +kernel
theorem dX9_left_27 : decode cX9_left 27 = .ok (.invokestatic 122, 3) := by decide +kernel
theorem dX9_left_30 : decode cX9_left 30 = .ok (.ireturn, 1) := by decide +kernel
set_option maxRecDepth 20000 in
theorem ggX9_far_X1_placeOf : GoodIn wsX9_far wsX1_placeOf := goodIn_r _ [6, 7, 8, 36, 37, 38, 39, 40, 41, 42] (by decide +kernel) (by decide +kernel)
set_option maxRecDepth 20000 in
theorem gX9_far_X1_placeOf : GoodIn wsX9_far (wsV RX9 110 RX1 yX1_placeOf wsX1_placeOf) := goodIn_app (goodIn_of _ (by decide +kernel)) ggX9_far_X1_placeOf
set_option maxRecDepth 20000 in
theorem ggX9_far_X1_distance : GoodIn wsX9_far wsX1_distance := goodIn_r _ [12, 13, 14, 5, 15, 16, 17, 18, 19, 20, 21, 22, 23, 24, 36, 37, 38, 39, 40, 41, 42] (by decide +kernel) (by decide +kernel)
set_option maxRecDepth 20000 in
theorem gX9_far_X1_distance : GoodIn wsX9_far (wsV RX9 188 RX1 yX1_distance wsX1_distance) := goodIn_app (goodIn_of _ (by decide +kernel)) ggX9_far_X1_distance
theorem dX9_far_0 : decode cX9_far 0 = .ok (.aload_n 0, 1) := by decide +kernel
theorem dX9_far_1 : decode cX9_far 1 = .ok (.getfield 19, 3) := by decide +kernel
theorem dX9_far_4 : decode cX9_far 4 = .ok (.iload_n 1, 1) := by decide +kernel
theorem dX9_far_5 : decode cX9_far 5 = .ok (.invokevirtual 110, 3) := by decide +kernel
theorem dX9_far_8 : decode cX9_far 8 = .ok (.istore_n 3, 1) := by decide +kernel
theorem dX9_far_9 : decode cX9_far 9 = .ok (.aload_n 0, 1) := by decide +kernel
theorem dX9_far_10 : decode cX9_far 10 = .ok (.getfield 19, 3) := by decide +kernel
theorem dX9_far_13 : decode cX9_far 13 = .ok (.iload_n 2, 1) := by decide +kernel
theorem dX9_far_14 : decode cX9_far 14 = .ok (.invokevirtual 110, 3) := by decide +kernel
theorem dX9_far_17 : decode cX9_far 17 = .ok (.istore 4, 2) := by decide +kernel
theorem dX9_far_19 : decode cX9_far 19 = .ok (.iload_n 3, 1) := by decide +kernel
theorem dX9_far_20 : decode cX9_far 20 = .ok (.iconst (-1), 1) := by decide +kernel
theorem dX9_far_21 : decode cX9_far 21 = .ok (.if_icmp .eq 9, 3) := by decide +kernel
theorem dX9_far_24 : decode cX9_far 24 = .ok (.iload 4, 2) := by decide +kernel
theorem dX9_far_26 : decode cX9_far 26 = .ok (.iconst (-1), 1) := by decide +kernel
theorem dX9_far_27 : decode cX9_far 27 = .ok (.if_icmp .ne 5, 3) := by decide +kernel
theorem dX9_far_30 : decode cX9_far 30 = .ok (.iconst (-1), 1) := by decide +kernel
theorem dX9_far_31 : decode cX9_far 31 = .ok (.ireturn, 1) := by decide +kernel
theorem dX9_far_32 : decode cX9_far 32 = .ok (.aload_n 0, 1) := by decide +kernel
theorem dX9_far_33 : decode cX9_far 33 = .ok (.getfield 19, 3) := by decide +kernel
theorem dX9_far_36 : decode cX9_far 36 = .ok (.iload_n 3, 1) := by decide +kernel
theorem dX9_far_37 : decode cX9_far 37 = .ok (.iload 4, 2) := by decide +kernel
theorem dX9_far_39 : decode cX9_far 39 = .ok (.invokevirtual 188, 3) := by decide +kernel
theorem dX9_far_42 : decode cX9_far 42 = .ok (.ireturn, 1) := by decide +kernel
set_option maxRecDepth 20000 in
theorem ggX9_ways_X1_placeOf : GoodIn wsX9_ways wsX1_placeOf := goodIn_r _ [8, 9, 10, 61, 62, 63, 64, 65, 66, 67] (by decide +kernel) (by decide +kernel)
set_option maxRecDepth 20000 in
theorem gX9_ways_X1_placeOf : GoodIn wsX9_ways (wsV RX9 110 RX1 yX1_placeOf wsX1_placeOf) := goodIn_app (goodIn_of _ (by decide +kernel)) ggX9_ways_X1_placeOf
set_option maxRecDepth 20000 in
theorem ggX9_ways_X4_shortestWays : GoodIn wsX9_ways wsX4_shortestWays := goodIn_r _ [15, 16, 17, 18, 19, 20, 21, 7, 22, 23, 24, 25, 26, 27, 28, 29, 30, 31, 32, 33, 34, 14, 35, 36, 37, 38, 39, 40, 41, 42, 43, 44, 45, 46, 47, 48, 49, 68, 69, 70, 61, 62, 63, 64, 65, 66, 67] (by decide +kernel) (by decide +kernel)
set_option maxRecDepth 20000 in
theorem gX9_ways_X4_shortestWays : GoodIn wsX9_ways (wsV RX9 193 RX4 yX4_shortestWays wsX4_shortestWays) := goodIn_app (goodIn_of _ (by decide +kernel)) ggX9_ways_X4_shortestWays
theorem dX9_ways_0 : decode cX9_ways 0 = .ok (.aload_n 0, 1) := by decide +kernel
theorem dX9_ways_1 : decode cX9_ways 1 = .ok (.getfield 19, 3) := by decide +kernel
theorem dX9_ways_4 : decode cX9_ways 4 = .ok (.iload_n 1, 1) := by decide +kernel
theorem dX9_ways_5 : decode cX9_ways 5 = .ok (.invokevirtual 110, 3) := by decide +kernel
theorem dX9_ways_8 : decode cX9_ways 8 = .ok (.istore_n 3, 1) := by decide +kernel
theorem dX9_ways_9 : decode cX9_ways 9 = .ok (.aload_n 0, 1) := by decide +kernel
theorem dX9_ways_10 : decode cX9_ways 10 = .ok (.getfield 19, 3) := by decide +kernel
theorem dX9_ways_13 : decode cX9_ways 13 = .ok (.iload_n 2, 1) := by decide +kernel
theorem dX9_ways_14 : decode cX9_ways 14 = .ok (.invokevirtual 110, 3) := by decide +kernel
theorem dX9_ways_17 : decode cX9_ways 17 = .ok (.istore 4, 2) := by decide +kernel
theorem dX9_ways_19 : decode cX9_ways 19 = .ok (.iload_n 3, 1) := by decide +kernel
theorem dX9_ways_20 : decode cX9_ways 20 = .ok (.iconst (-1), 1) := by decide +kernel
theorem dX9_ways_21 : decode cX9_ways 21 = .ok (.if_icmp .eq 9, 3) := by decide +kernel
theorem dX9_ways_24 : decode cX9_ways 24 = .ok (.iload 4, 2) := by decide +kernel
theorem dX9_ways_26 : decode cX9_ways 26 = .ok (.iconst (-1), 1) := by decide +kernel
theorem dX9_ways_27 : decode cX9_ways 27 = .ok (.if_icmp .ne 7, 3) := by decide +kernel
theorem dX9_ways_30 : decode cX9_ways 30 = .ok (.ldc2_w 191, 3) := by decide +kernel
theorem dX9_ways_33 : decode cX9_ways 33 = .ok (.lreturn, 1) := by decide +kernel
theorem dX9_ways_34 : decode cX9_ways 34 = .ok (.aload_n 0, 1) := by decide +kernel
theorem dX9_ways_35 : decode cX9_ways 35 = .ok (.getfield 49, 3) := by decide +kernel
theorem dX9_ways_38 : decode cX9_ways 38 = .ok (.iload_n 3, 1) := by decide +kernel
theorem dX9_ways_39 : decode cX9_ways 39 = .ok (.iload 4, 2) := by decide +kernel
theorem dX9_ways_41 : decode cX9_ways 41 = .ok (.invokevirtual 193, 3) := by decide +kernel
theorem dX9_ways_44 : decode cX9_ways 44 = .ok (.lreturn, 1) := by decide +kernel
set_option maxRecDepth 20000 in
theorem ggX9_step_X1_placeOf : GoodIn wsX9_step wsX1_placeOf := goodIn_r _ [7, 8, 9, 67, 68, 69, 70, 71, 72, 73] (by decide +kernel) (by decide +kernel)
set_option maxRecDepth 20000 in
theorem gX9_step_X1_placeOf : GoodIn wsX9_step (wsV RX9 110 RX1 yX1_placeOf wsX1_placeOf) := goodIn_app (goodIn_of _ (by decide +kernel)) ggX9_step_X1_placeOf
set_option maxRecDepth 20000 in
theorem ggX9_step_X4_placeOnFirst : GoodIn wsX9_step wsX4_placeOnFirst := goodIn_r _ [14, 15, 16, 17, 18, 19, 6, 20, 21, 22, 23, 24, 25, 26, 27, 28, 29, 30, 31, 32, 33, 34, 35, 36, 37, 13, 38, 39, 40, 41, 42, 43, 44, 45, 46, 47, 48, 49, 50, 51, 52, 74, 75, 76, 67, 68, 69, 70, 71, 72, 73] (by decide +kernel) (by decide +kernel)
set_option maxRecDepth 20000 in
theorem gX9_step_X4_placeOnFirst : GoodIn wsX9_step (wsV RX9 197 RX4 yX4_placeOnFirst wsX4_placeOnFirst) := goodIn_app (goodIn_of _ (by decide +kernel)) ggX9_step_X4_placeOnFirst
set_option maxRecDepth 20000 in
theorem ggX9_step_X1_told : GoodIn wsX9_step wsX1_told := goodIn_r _ [55] (by decide +kernel) (by decide +kernel)
set_option maxRecDepth 20000 in
theorem gX9_step_X1_told : GoodIn wsX9_step (va_wsS RX9 137 yX1_told wsX1_told) := goodIn_app (goodIn_of _ (by decide +kernel)) ggX9_step_X1_told
theorem dX9_step_0 : decode cX9_step 0 = .ok (.aload_n 0, 1) := by decide +kernel
theorem dX9_step_1 : decode cX9_step 1 = .ok (.getfield 19, 3) := by decide +kernel
theorem dX9_step_4 : decode cX9_step 4 = .ok (.iload_n 1, 1) := by decide +kernel
theorem dX9_step_5 : decode cX9_step 5 = .ok (.invokevirtual 110, 3) := by decide +kernel
theorem dX9_step_8 : decode cX9_step 8 = .ok (.istore 4, 2) := by decide +kernel
theorem dX9_step_10 : decode cX9_step 10 = .ok (.aload_n 0, 1) := by decide +kernel
theorem dX9_step_11 : decode cX9_step 11 = .ok (.getfield 19, 3) := by decide +kernel
theorem dX9_step_14 : decode cX9_step 14 = .ok (.iload_n 2, 1) := by decide +kernel
theorem dX9_step_15 : decode cX9_step 15 = .ok (.invokevirtual 110, 3) := by decide +kernel
theorem dX9_step_18 : decode cX9_step 18 = .ok (.istore 5, 2) := by decide +kernel
theorem dX9_step_20 : decode cX9_step 20 = .ok (.iload 4, 2) := by decide +kernel
theorem dX9_step_22 : decode cX9_step 22 = .ok (.iconst (-1), 1) := by decide +kernel
theorem dX9_step_23 : decode cX9_step 23 = .ok (.if_icmp .eq 9, 3) := by decide +kernel
theorem dX9_step_26 : decode cX9_step 26 = .ok (.iload 5, 2) := by decide +kernel
theorem dX9_step_28 : decode cX9_step 28 = .ok (.iconst (-1), 1) := by decide +kernel
theorem dX9_step_29 : decode cX9_step 29 = .ok (.if_icmp .ne 5, 3) := by decide +kernel
theorem dX9_step_32 : decode cX9_step 32 = .ok (.iconst (-1), 1) := by decide +kernel
theorem dX9_step_33 : decode cX9_step 33 = .ok (.ireturn, 1) := by decide +kernel
theorem dX9_step_34 : decode cX9_step 34 = .ok (.aload_n 0, 1) := by decide +kernel
theorem dX9_step_35 : decode cX9_step 35 = .ok (.getfield 49, 3) := by decide +kernel
theorem dX9_step_38 : decode cX9_step 38 = .ok (.iload 4, 2) := by decide +kernel
theorem dX9_step_40 : decode cX9_step 40 = .ok (.iload 5, 2) := by decide +kernel
theorem dX9_step_42 : decode cX9_step 42 = .ok (.iload_n 3, 1) := by decide +kernel
theorem dX9_step_43 : decode cX9_step 43 = .ok (.invokevirtual 197, 3) := by decide +kernel
theorem dX9_step_46 : decode cX9_step 46 = .ok (.istore 6, 2) := by decide +kernel
theorem dX9_step_48 : decode cX9_step 48 = .ok (.iload 6, 2) := by decide +kernel
theorem dX9_step_50 : decode cX9_step 50 = .ok (.iconst (-1), 1) := by decide +kernel
theorem dX9_step_51 : decode cX9_step 51 = .ok (.if_icmp .ne 8, 3) := by decide +kernel
theorem dX9_step_54 : decode cX9_step 54 = .ok (.bipush (-9), 2) := by decide +kernel
theorem dX9_step_56 : decode cX9_step 56 = .ok (.goto 8, 3) := by decide +kernel
theorem dX9_step_59 : decode cX9_step 59 = .ok (.iload 6, 2) := by decide +kernel
theorem dX9_step_61 : decode cX9_step 61 = .ok (.invokestatic 137, 3) := by decide +kernel
theorem dX9_step_64 : decode cX9_step 64 = .ok (.ireturn, 1) := by decide +kernel
set_option maxRecDepth 20000 in
theorem ggX9_widest_X1_placeOf : GoodIn wsX9_widest wsX1_placeOf := goodIn_r _ [7, 8, 9, 58, 59, 60, 61, 62, 63, 64] (by decide +kernel) (by decide +kernel)
set_option maxRecDepth 20000 in
theorem gX9_widest_X1_placeOf : GoodIn wsX9_widest (wsV RX9 110 RX1 yX1_placeOf wsX1_placeOf) := goodIn_app (goodIn_of _ (by decide +kernel)) ggX9_widest_X1_placeOf
set_option maxRecDepth 20000 in
theorem ggX9_widest_X1_partOf : GoodIn wsX9_widest wsX1_partOf := goodIn_r _ [13, 14, 15, 16, 6, 17, 18, 19, 20, 21, 22, 23, 24, 25, 26, 27, 58, 59, 60, 61, 62, 63, 64] (by decide +kernel) (by decide +kernel)
set_option maxRecDepth 20000 in
theorem gX9_widest_X1_partOf : GoodIn wsX9_widest (wsV RX9 174 RX1 yX1_partOf wsX1_partOf) := goodIn_app (goodIn_of _ (by decide +kernel)) ggX9_widest_X1_partOf
set_option maxRecDepth 20000 in
theorem ggX9_widest_X4_greatestDistance : GoodIn wsX9_widest wsX4_greatestDistance := goodIn_r _ [32, 33, 34, 35, 36, 37, 38, 6, 39, 40, 41, 42, 31, 43, 44, 45, 16, 17, 46, 23, 24, 25, 26, 27, 65, 66, 67, 58, 59, 60, 61, 62, 63, 64] (by decide +kernel) (by decide +kernel)
set_option maxRecDepth 20000 in
theorem gX9_widest_X4_greatestDistance : GoodIn wsX9_widest (wsV RX9 201 RX4 yX4_greatestDistance wsX4_greatestDistance) := goodIn_app (goodIn_of _ (by decide +kernel)) ggX9_widest_X4_greatestDistance
theorem dX9_widest_0 : decode cX9_widest 0 = .ok (.aload_n 0, 1) := by decide +kernel
theorem dX9_widest_1 : decode cX9_widest 1 = .ok (.getfield 19, 3) := by decide +kernel
theorem dX9_widest_4 : decode cX9_widest 4 = .ok (.iload_n 1, 1) := by decide +kernel
theorem dX9_widest_5 : decode cX9_widest 5 = .ok (.invokevirtual 110, 3) := by decide +kernel
theorem dX9_widest_8 : decode cX9_widest 8 = .ok (.istore_n 2, 1) := by decide +kernel
theorem dX9_widest_9 : decode cX9_widest 9 = .ok (.iload_n 2, 1) := by decide +kernel
theorem dX9_widest_10 : decode cX9_widest 10 = .ok (.iconst (-1), 1) := by decide +kernel
theorem dX9_widest_11 : decode cX9_widest 11 = .ok (.if_icmp .ne 5, 3) := by decide +kernel
theorem dX9_widest_14 : decode cX9_widest 14 = .ok (.iconst (-1), 1) := by decide +kernel
theorem dX9_widest_15 : decode cX9_widest 15 = .ok (.ireturn, 1) := by decide +kernel
theorem dX9_widest_16 : decode cX9_widest 16 = .ok (.aload_n 0, 1) := by decide +kernel
theorem dX9_widest_17 : decode cX9_widest 17 = .ok (.getfield 49, 3) := by decide +kernel
theorem dX9_widest_20 : decode cX9_widest 20 = .ok (.aload_n 0, 1) := by decide +kernel
theorem dX9_widest_21 : decode cX9_widest 21 = .ok (.getfield 19, 3) := by decide +kernel
theorem dX9_widest_24 : decode cX9_widest 24 = .ok (.iload_n 2, 1) := by decide +kernel
theorem dX9_widest_25 : decode cX9_widest 25 = .ok (.invokevirtual 174, 3) := by decide +kernel
theorem dX9_widest_28 : decode cX9_widest 28 = .ok (.invokevirtual 201, 3) := by decide +kernel
theorem dX9_widest_31 : decode cX9_widest 31 = .ok (.ireturn, 1) := by decide +kernel
set_option maxRecDepth 20000 in
theorem ggX9_hand_X9_isSide : GoodIn wsX9_hand wsX9_isSide := goodIn_r _ [5] (by decide +kernel) (by decide +kernel)
set_option maxRecDepth 20000 in
theorem gX9_hand_X9_isSide : GoodIn wsX9_hand (va_wsS RX9 114 yX9_isSide wsX9_isSide) := goodIn_app (goodIn_of _ (by decide +kernel)) ggX9_hand_X9_isSide
set_option maxRecDepth 20000 in
theorem ggX9_hand_X8_handSteps : GoodIn wsX9_hand wsX8_handSteps := goodIn_r _ [10, 11, 12, 13, 14, 15, 16, 9, 17, 18, 19, 20, 21, 22, 23, 24, 25, 26, 27, 28, 29, 30, 31, 32, 33, 34, 35, 36, 37, 38, 39, 40, 41, 42, 43, 55, 56, 57, 58, 59, 60, 61, 62, 63, 64, 65, 66, 67] (by decide +kernel) (by decide +kernel)
set_option maxRecDepth 20000 in
theorem gX9_hand_X8_handSteps : GoodIn wsX9_hand (wsV RX9 204 RX8 yX8_handSteps wsX8_handSteps) := goodIn_app (goodIn_of _ (by decide +kernel)) ggX9_hand_X8_handSteps
theorem dX9_hand_0 : decode cX9_hand 0 = .ok (.iload_n 1, 1) := by decide +kernel
theorem dX9_hand_1 : decode cX9_hand 1 = .ok (.invokestatic 114, 3) := by decide +kernel
theorem dX9_hand_4 : decode cX9_hand 4 = .ok (.ifCond .ne 5, 3) := by decide +kernel
theorem dX9_hand_7 : decode cX9_hand 7 = .ok (.iconst (-1), 1) := by decide +kernel
theorem dX9_hand_8 : decode cX9_hand 8 = .ok (.ireturn, 1) := by decide +kernel
theorem dX9_hand_9 : decode cX9_hand 9 = .ok (.aload_n 0, 1) := by decide +kernel
theorem dX9_hand_10 : decode cX9_hand 10 = .ok (.getfield 56, 3) := by decide +kernel
theorem dX9_hand_13 : decode cX9_hand 13 = .ok (.iload_n 1, 1) := by decide +kernel
theorem dX9_hand_14 : decode cX9_hand 14 = .ok (.iload_n 2, 1) := by decide +kernel
theorem dX9_hand_15 : decode cX9_hand 15 = .ok (.invokevirtual 204, 3) := by decide +kernel
theorem dX9_hand_18 : decode cX9_hand 18 = .ok (.ireturn, 1) := by decide +kernel
set_option maxRecDepth 20000 in
theorem ggX9_handAt_X9_isSide : GoodIn wsX9_handAt wsX9_isSide := goodIn_r _ [5] (by decide +kernel) (by decide +kernel)
set_option maxRecDepth 20000 in
theorem gX9_handAt_X9_isSide : GoodIn wsX9_handAt (va_wsS RX9 114 yX9_isSide wsX9_isSide) := goodIn_app (goodIn_of _ (by decide +kernel)) ggX9_handAt_X9_isSide
set_option maxRecDepth 20000 in
theorem ggX9_handAt_X8_handPlace : GoodIn wsX9_handAt wsX8_handPlace := goodIn_r _ [10, 11, 12, 13, 14, 9, 15, 16, 17, 18, 19, 20, 21, 22, 23, 24, 25, 26, 27, 28, 29, 30, 31, 32, 33, 34, 35, 36, 37, 38, 39, 40, 41, 42, 57, 58, 59, 60, 61, 62, 63, 64, 65, 66, 67, 68, 69] (by decide +kernel) (by decide +kernel)
set_option maxRecDepth 20000 in
theorem gX9_handAt_X8_handPlace : GoodIn wsX9_handAt (wsV RX9 208 RX8 yX8_handPlace wsX8_handPlace) := goodIn_app (goodIn_of _ (by decide +kernel)) ggX9_handAt_X8_handPlace
set_option maxRecDepth 20000 in
theorem ggX9_handAt_X1_told : GoodIn wsX9_handAt wsX1_told := goodIn_r _ [45] (by decide +kernel) (by decide +kernel)
set_option maxRecDepth 20000 in
theorem gX9_handAt_X1_told : GoodIn wsX9_handAt (va_wsS RX9 137 yX1_told wsX1_told) := goodIn_app (goodIn_of _ (by decide +kernel)) ggX9_handAt_X1_told
theorem dX9_handAt_0 : decode cX9_handAt 0 = .ok (.iload_n 1, 1) := by decide +kernel
theorem dX9_handAt_1 : decode cX9_handAt 1 = .ok (.invokestatic 114, 3) := by decide +kernel
theorem dX9_handAt_4 : decode cX9_handAt 4 = .ok (.ifCond .ne 5, 3) := by decide +kernel
theorem dX9_handAt_7 : decode cX9_handAt 7 = .ok (.iconst (-1), 1) := by decide +kernel
theorem dX9_handAt_8 : decode cX9_handAt 8 = .ok (.ireturn, 1) := by decide +kernel
theorem dX9_handAt_9 : decode cX9_handAt 9 = .ok (.iload_n 3, 1) := by decide +kernel
theorem dX9_handAt_10 : decode cX9_handAt 10 = .ok (.ifCond .lt 10, 3) := by decide +kernel
theorem dX9_handAt_13 : decode cX9_handAt 13 = .ok (.iload_n 3, 1) := by decide +kernel
theorem dX9_handAt_14 : decode cX9_handAt 14 = .ok (.sipush 999, 3) := by decide +kernel
theorem dX9_handAt_17 : decode cX9_handAt 17 = .ok (.if_icmp .le 6, 3) := by decide +kernel
theorem dX9_handAt_20 : decode cX9_handAt 20 = .ok (.bipush (-2), 2) := by decide +kernel
theorem dX9_handAt_22 : decode cX9_handAt 22 = .ok (.ireturn, 1) := by decide +kernel
theorem dX9_handAt_23 : decode cX9_handAt 23 = .ok (.aload_n 0, 1) := by decide +kernel
theorem dX9_handAt_24 : decode cX9_handAt 24 = .ok (.getfield 56, 3) := by decide +kernel
theorem dX9_handAt_27 : decode cX9_handAt 27 = .ok (.iload_n 1, 1) := by decide +kernel
theorem dX9_handAt_28 : decode cX9_handAt 28 = .ok (.iload_n 2, 1) := by decide +kernel
theorem dX9_handAt_29 : decode cX9_handAt 29 = .ok (.iload_n 3, 1) := by decide +kernel
theorem dX9_handAt_30 : decode cX9_handAt 30 = .ok (.invokevirtual 208, 3) := by decide +kernel
theorem dX9_handAt_33 : decode cX9_handAt 33 = .ok (.invokestatic 137, 3) := by decide +kernel
theorem dX9_handAt_36 : decode cX9_handAt 36 = .ok (.ireturn, 1) := by decide +kernel
set_option maxRecDepth 20000 in
theorem ggX9_thread_X8_followThread : GoodIn wsX9_thread wsX8_followThread := goodIn_r _ [6, 7, 8, 9, 10, 11, 12, 13, 14, 15, 16, 17, 18, 19, 20, 5, 21, 22, 23, 24, 25, 26, 27, 28, 29, 30, 31, 32, 33, 34, 35, 36, 37, 38, 39, 40, 52, 53, 54, 55, 56, 57, 58, 59, 60, 61, 62, 63, 64] (by decide +kernel) (by decide +kernel)
set_option maxRecDepth 20000 in
theorem gX9_thread_X8_followThread : GoodIn wsX9_thread (wsV RX9 212 RX8 yX8_followThread wsX8_followThread) := goodIn_app (goodIn_of _ (by decide +kernel)) ggX9_thread_X8_followThread
theorem dX9_thread_0 : decode cX9_thread 0 = .ok (.aload_n 0, 1) := by decide +kernel
theorem dX9_thread_1 : decode cX9_thread 1 = .ok (.getfield 56, 3) := by decide +kernel
theorem dX9_thread_4 : decode cX9_thread 4 = .ok (.invokevirtual 212, 3) := by decide +kernel
theorem dX9_thread_7 : decode cX9_thread 7 = .ok (.ireturn, 1) := by decide +kernel
set_option maxRecDepth 20000 in
theorem ggX9_seen_X8_followThread : GoodIn wsX9_seen wsX8_followThread := goodIn_r _ [7, 8, 9, 10, 11, 12, 13, 14, 15, 16, 17, 18, 19, 20, 21, 6, 22, 23, 24, 25, 26, 27, 28, 29, 30, 31, 32, 33, 34, 35, 36, 37, 38, 39, 40, 41, 60, 61, 62, 63, 64, 65, 66, 67, 68, 69, 70, 71, 72] (by decide +kernel) (by decide +kernel)
set_option maxRecDepth 20000 in
theorem gX9_seen_X8_followThread : GoodIn wsX9_seen (wsV RX9 212 RX8 yX8_followThread wsX8_followThread) := goodIn_app (goodIn_of _ (by decide +kernel)) ggX9_seen_X8_followThread
set_option maxRecDepth 20000 in
theorem ggX9_seen_J13_bitCount_95d88 : GoodIn wsX9_seen wsJ13_bitCount_95d88 := goodIn_r _ [45, 46, 47, 48] (by decide +kernel) (by decide +kernel)
set_option maxRecDepth 20000 in
theorem gX9_seen_J13_bitCount_95d88 : GoodIn wsX9_seen (va_wsS RX9 165 yJ13_bitCount_95d88 wsJ13_bitCount_95d88) := goodIn_app (goodIn_of _ (by decide +kernel)) ggX9_seen_J13_bitCount_95d88
theorem dX9_seen_0 : decode cX9_seen 0 = .ok (.aload_n 0, 1) := by decide +kernel
theorem dX9_seen_1 : decode cX9_seen 1 = .ok (.getfield 56, 3) := by decide +kernel
theorem dX9_seen_4 : decode cX9_seen 4 = .ok (.invokevirtual 212, 3) := by decide +kernel
theorem dX9_seen_7 : decode cX9_seen 7 = .ok (.pop, 1) := by decide +kernel
theorem dX9_seen_8 : decode cX9_seen 8 = .ok (.aload_n 0, 1) := by decide +kernel
theorem dX9_seen_9 : decode cX9_seen 9 = .ok (.getfield 56, 3) := by decide +kernel
theorem dX9_seen_12 : decode cX9_seen 12 = .ok (.getfield 215, 3) := by decide +kernel
theorem dX9_seen_15 : decode cX9_seen 15 = .ok (.invokestatic 165, 3) := by decide +kernel
theorem dX9_seen_18 : decode cX9_seen 18 = .ok (.ireturn, 1) := by decide +kernel
set_option maxRecDepth 20000 in
theorem ggX9_lost_X1_placeOf : GoodIn wsX9_lost wsX1_placeOf := goodIn_r _ [11, 12, 13, 102, 103, 104, 105, 106, 107, 108] (by decide +kernel) (by decide +kernel)
set_option maxRecDepth 20000 in
theorem gX9_lost_X1_placeOf : GoodIn wsX9_lost (wsV RX9 110 RX1 yX1_placeOf wsX1_placeOf) := goodIn_app (goodIn_of _ (by decide +kernel)) ggX9_lost_X1_placeOf
set_option maxRecDepth 20000 in
theorem ggX9_lost_X1_partOf : GoodIn wsX9_lost wsX1_partOf := goodIn_r _ [17, 18, 19, 20, 10, 21, 22, 23, 24, 25, 26, 27, 28, 29, 30, 31, 102, 103, 104, 105, 106, 107, 108] (by decide +kernel) (by decide +kernel)
set_option maxRecDepth 20000 in
theorem gX9_lost_X1_partOf : GoodIn wsX9_lost (wsV RX9 174 RX1 yX1_partOf wsX1_partOf) := goodIn_app (goodIn_of _ (by decide +kernel)) ggX9_lost_X1_partOf
set_option maxRecDepth 20000 in
theorem ggX9_lost_X1_has : GoodIn wsX9_lost wsX1_has := goodIn_r _ [34] (by decide +kernel) (by decide +kernel)
set_option maxRecDepth 20000 in
theorem gX9_lost_X1_has : GoodIn wsX9_lost (va_wsS RX9 184 yX1_has wsX1_has) := goodIn_app (goodIn_of _ (by decide +kernel)) ggX9_lost_X1_has
set_option maxRecDepth 20000 in
theorem ggX9_lost_J13_bitCount_95d88 : GoodIn wsX9_lost wsJ13_bitCount_95d88 := goodIn_r _ [38, 39, 40, 41] (by decide +kernel) (by decide +kernel)
set_option maxRecDepth 20000 in
theorem gX9_lost_J13_bitCount_95d88 : GoodIn wsX9_lost (va_wsS RX9 165 yJ13_bitCount_95d88 wsJ13_bitCount_95d88) := goodIn_app (goodIn_of _ (by decide +kernel)) ggX9_lost_J13_bitCount_95d88
set_option maxRecDepth 20000 in
theorem ggX9_lost_X6_meanSteps : GoodIn wsX9_lost wsX6_meanSteps := goodIn_r _ [46, 47, 48, 49, 50, 51, 52, 20, 10, 21, 53, 54, 55, 45, 56, 57, 33, 34, 58, 59, 60, 61, 62, 63, 64, 65, 66, 67, 68, 27, 28, 29, 30, 31, 69, 70, 71, 72, 19, 26, 73, 36, 37, 38, 39, 40, 41, 74, 75, 76, 77, 78, 79, 80, 81, 82, 83, 84, 96, 97, 98, 99, 100, 101, 102, 103, 104, 105, 106, 107, 108] (by decide +kernel) (by decide +kernel)
set_option maxRecDepth 20000 in
theorem gX9_lost_X6_meanSteps : GoodIn wsX9_lost (wsV RX9 221 RX6 yX6_meanSteps wsX6_meanSteps) := goodIn_app (goodIn_of _ (by decide +kernel)) ggX9_lost_X6_meanSteps
theorem dX9_lost_0 : decode cX9_lost 0 = .ok (.aload_n 0, 1) := by decide +kernel
theorem dX9_lost_1 : decode cX9_lost 1 = .ok (.getfield 19, 3) := by decide +kernel
theorem dX9_lost_4 : decode cX9_lost 4 = .ok (.iload_n 1, 1) := by decide +kernel
theorem dX9_lost_5 : decode cX9_lost 5 = .ok (.invokevirtual 110, 3) := by decide +kernel
theorem dX9_lost_8 : decode cX9_lost 8 = .ok (.istore 4, 2) := by decide +kernel
theorem dX9_lost_10 : decode cX9_lost 10 = .ok (.aload_n 0, 1) := by decide +kernel
theorem dX9_lost_11 : decode cX9_lost 11 = .ok (.getfield 19, 3) := by decide +kernel
theorem dX9_lost_14 : decode cX9_lost 14 = .ok (.iload_n 2, 1) := by decide +kernel
theorem dX9_lost_15 : decode cX9_lost 15 = .ok (.invokevirtual 110, 3) := by decide +kernel
theorem dX9_lost_18 : decode cX9_lost 18 = .ok (.istore 5, 2) := by decide +kernel
theorem dX9_lost_20 : decode cX9_lost 20 = .ok (.iload 4, 2) := by decide +kernel
theorem dX9_lost_22 : decode cX9_lost 22 = .ok (.iconst (-1), 1) := by decide +kernel
theorem dX9_lost_23 : decode cX9_lost 23 = .ok (.if_icmp .eq 9, 3) := by decide +kernel
theorem dX9_lost_26 : decode cX9_lost 26 = .ok (.iload 5, 2) := by decide +kernel
theorem dX9_lost_28 : decode cX9_lost 28 = .ok (.iconst (-1), 1) := by decide +kernel
theorem dX9_lost_29 : decode cX9_lost 29 = .ok (.if_icmp .ne 7, 3) := by decide +kernel
theorem dX9_lost_32 : decode cX9_lost 32 = .ok (.ldc2_w 191, 3) := by decide +kernel
theorem dX9_lost_35 : decode cX9_lost 35 = .ok (.lreturn, 1) := by decide +kernel
theorem dX9_lost_36 : decode cX9_lost 36 = .ok (.aload_n 0, 1) := by decide +kernel
theorem dX9_lost_37 : decode cX9_lost 37 = .ok (.getfield 19, 3) := by decide +kernel
theorem dX9_lost_40 : decode cX9_lost 40 = .ok (.iload 4, 2) := by decide +kernel
theorem dX9_lost_42 : decode cX9_lost 42 = .ok (.invokevirtual 174, 3) := by decide +kernel
theorem dX9_lost_45 : decode cX9_lost 45 = .ok (.lstore 6, 2) := by decide +kernel
theorem dX9_lost_47 : decode cX9_lost 47 = .ok (.lload 6, 2) := by decide +kernel
theorem dX9_lost_49 : decode cX9_lost 49 = .ok (.iload 5, 2) := by decide +kernel
theorem dX9_lost_51 : decode cX9_lost 51 = .ok (.invokestatic 184, 3) := by decide +kernel
theorem dX9_lost_54 : decode cX9_lost 54 = .ok (.ifCond .eq 13, 3) := by decide +kernel
theorem dX9_lost_57 : decode cX9_lost 57 = .ok (.lload 6, 2) := by decide +kernel
theorem dX9_lost_59 : decode cX9_lost 59 = .ok (.invokestatic 165, 3) := by decide +kernel
theorem dX9_lost_62 : decode cX9_lost 62 = .ok (.bipush 10, 2) := by decide +kernel
theorem dX9_lost_64 : decode cX9_lost 64 = .ok (.if_icmp .le 7, 3) := by decide +kernel
theorem dX9_lost_67 : decode cX9_lost 67 = .ok (.ldc2_w 219, 3) := by decide +kernel
theorem dX9_lost_70 : decode cX9_lost 70 = .ok (.lreturn, 1) := by decide +kernel
theorem dX9_lost_71 : decode cX9_lost 71 = .ok (.aload_n 0, 1) := by decide +kernel
theorem dX9_lost_72 : decode cX9_lost 72 = .ok (.getfield 63, 3) := by decide +kernel
theorem dX9_lost_75 : decode cX9_lost 75 = .ok (.lload 6, 2) := by decide +kernel
theorem dX9_lost_77 : decode cX9_lost 77 = .ok (.iload 4, 2) := by decide +kernel
theorem dX9_lost_79 : decode cX9_lost 79 = .ok (.iload 5, 2) := by decide +kernel
theorem dX9_lost_81 : decode cX9_lost 81 = .ok (.invokevirtual 221, 3) := by decide +kernel
theorem dX9_lost_84 : decode cX9_lost 84 = .ok (.iload_n 3, 1) := by decide +kernel
theorem dX9_lost_85 : decode cX9_lost 85 = .ok (.ifCond .eq 13, 3) := by decide +kernel
theorem dX9_lost_88 : decode cX9_lost 88 = .ok (.aload_n 0, 1) := by decide +kernel
theorem dX9_lost_89 : decode cX9_lost 89 = .ok (.getfield 63, 3) := by decide +kernel
theorem dX9_lost_92 : decode cX9_lost 92 = .ok (.getfield 225, 3) := by decide +kernel
theorem dX9_lost_95 : decode cX9_lost 95 = .ok (.goto 10, 3) := by decide +kernel
theorem dX9_lost_98 : decode cX9_lost 98 = .ok (.aload_n 0, 1) := by decide +kernel
theorem dX9_lost_99 : decode cX9_lost 99 = .ok (.getfield 63, 3) := by decide +kernel
theorem dX9_lost_102 : decode cX9_lost 102 = .ok (.getfield 228, 3) := by decide +kernel
theorem dX9_lost_105 : decode cX9_lost 105 = .ok (.lreturn, 1) := by decide +kernel
set_option maxRecDepth 20000 in
theorem ggX9_trees_X1_placeOf : GoodIn wsX9_trees wsX1_placeOf := goodIn_r _ [9, 10, 11, 84, 85, 86, 87, 88, 89, 90] (by decide +kernel) (by decide +kernel)
set_option maxRecDepth 20000 in
theorem gX9_trees_X1_placeOf : GoodIn wsX9_trees (wsV RX9 110 RX1 yX1_placeOf wsX1_placeOf) := goodIn_app (goodIn_of _ (by decide +kernel)) ggX9_trees_X1_placeOf
set_option maxRecDepth 20000 in
theorem ggX9_trees_X1_partOf : GoodIn wsX9_trees wsX1_partOf := goodIn_r _ [15, 16, 17, 18, 8, 19, 20, 21, 22, 23, 24, 25, 26, 27, 28, 29, 84, 85, 86, 87, 88, 89, 90] (by decide +kernel) (by decide +kernel)
set_option maxRecDepth 20000 in
theorem gX9_trees_X1_partOf : GoodIn wsX9_trees (wsV RX9 174 RX1 yX1_partOf wsX1_partOf) := goodIn_app (goodIn_of _ (by decide +kernel)) ggX9_trees_X1_partOf
set_option maxRecDepth 20000 in
theorem ggX9_trees_J13_bitCount_95d88 : GoodIn wsX9_trees wsJ13_bitCount_95d88 := goodIn_r _ [33, 34, 35, 36] (by decide +kernel) (by decide +kernel)
set_option maxRecDepth 20000 in
theorem gX9_trees_J13_bitCount_95d88 : GoodIn wsX9_trees (va_wsS RX9 165 yJ13_bitCount_95d88 wsJ13_bitCount_95d88) := goodIn_app (goodIn_of _ (by decide +kernel)) ggX9_trees_J13_bitCount_95d88
set_option maxRecDepth 20000 in
theorem ggX9_trees_X6_treesOf : GoodIn wsX9_trees wsX6_treesOf := goodIn_r _ [41, 42, 43, 44, 45, 18, 8, 19, 46, 47, 48, 40, 49, 50, 51, 52, 53, 54, 55, 56, 57, 58, 59, 60, 61, 62, 63, 25, 26, 27, 28, 29, 64, 65, 66, 67, 17, 24, 68, 31, 32, 33, 34, 35, 36, 69, 70, 71, 72, 91, 92, 93, 94, 95, 96, 84, 85, 86, 87, 88, 89, 90] (by decide +kernel) (by decide +kernel)
set_option maxRecDepth 20000 in
theorem gX9_trees_X6_treesOf : GoodIn wsX9_trees (wsV RX9 231 RX6 yX6_treesOf wsX6_treesOf) := goodIn_app (goodIn_of _ (by decide +kernel)) ggX9_trees_X6_treesOf
theorem dX9_trees_0 : decode cX9_trees 0 = .ok (.aload_n 0, 1) := by decide +kernel
theorem dX9_trees_1 : decode cX9_trees 1 = .ok (.getfield 19, 3) := by decide +kernel
theorem dX9_trees_4 : decode cX9_trees 4 = .ok (.iload_n 1, 1) := by decide +kernel
theorem dX9_trees_5 : decode cX9_trees 5 = .ok (.invokevirtual 110, 3) := by decide +kernel
theorem dX9_trees_8 : decode cX9_trees 8 = .ok (.istore_n 2, 1) := by decide +kernel
theorem dX9_trees_9 : decode cX9_trees 9 = .ok (.iload_n 2, 1) := by decide +kernel
theorem dX9_trees_10 : decode cX9_trees 10 = .ok (.iconst (-1), 1) := by decide +kernel
theorem dX9_trees_11 : decode cX9_trees 11 = .ok (.if_icmp .ne 7, 3) := by decide +kernel
theorem dX9_trees_14 : decode cX9_trees 14 = .ok (.ldc2_w 191, 3) := by decide +kernel
theorem dX9_trees_17 : decode cX9_trees 17 = .ok (.lreturn, 1) := by decide +kernel
theorem dX9_trees_18 : decode cX9_trees 18 = .ok (.aload_n 0, 1) := by decide +kernel
theorem dX9_trees_19 : decode cX9_trees 19 = .ok (.getfield 19, 3) := by decide +kernel
theorem dX9_trees_22 : decode cX9_trees 22 = .ok (.iload_n 2, 1) := by decide +kernel
theorem dX9_trees_23 : decode cX9_trees 23 = .ok (.invokevirtual 174, 3) := by decide +kernel
theorem dX9_trees_26 : decode cX9_trees 26 = .ok (.lstore_n 3, 1) := by decide +kernel
theorem dX9_trees_27 : decode cX9_trees 27 = .ok (.lload_n 3, 1) := by decide +kernel
theorem dX9_trees_28 : decode cX9_trees 28 = .ok (.invokestatic 165, 3) := by decide +kernel
theorem dX9_trees_31 : decode cX9_trees 31 = .ok (.bipush 16, 2) := by decide +kernel
theorem dX9_trees_33 : decode cX9_trees 33 = .ok (.if_icmp .le 7, 3) := by decide +kernel
theorem dX9_trees_36 : decode cX9_trees 36 = .ok (.ldc2_w 219, 3) := by decide +kernel
theorem dX9_trees_39 : decode cX9_trees 39 = .ok (.lreturn, 1) := by decide +kernel
theorem dX9_trees_40 : decode cX9_trees 40 = .ok (.aload_n 0, 1) := by decide +kernel
theorem dX9_trees_41 : decode cX9_trees 41 = .ok (.getfield 63, 3) := by decide +kernel
theorem dX9_trees_44 : decode cX9_trees 44 = .ok (.lload_n 3, 1) := by decide +kernel
theorem dX9_trees_45 : decode cX9_trees 45 = .ok (.iload_n 2, 1) := by decide +kernel
theorem dX9_trees_46 : decode cX9_trees 46 = .ok (.invokevirtual 231, 3) := by decide +kernel
theorem dX9_trees_49 : decode cX9_trees 49 = .ok (.lreturn, 1) := by decide +kernel
set_option maxRecDepth 20000 in
theorem ggX9_breaks_X1_placeOf : GoodIn wsX9_breaks wsX1_placeOf := goodIn_r _ [7, 8, 9, 54, 55, 56, 57, 58, 59, 60] (by decide +kernel) (by decide +kernel)
set_option maxRecDepth 20000 in
theorem gX9_breaks_X1_placeOf : GoodIn wsX9_breaks (wsV RX9 110 RX1 yX1_placeOf wsX1_placeOf) := goodIn_app (goodIn_of _ (by decide +kernel)) ggX9_breaks_X1_placeOf
set_option maxRecDepth 20000 in
theorem ggX9_breaks_X0_fewestBroken : GoodIn wsX9_breaks wsX0_fewestBroken := goodIn_r _ [14, 15, 16, 17, 18, 19, 6, 20, 21, 22, 23, 24, 25, 26, 27, 28, 29, 30, 31, 32, 33, 34, 35, 36, 37, 38, 39, 40, 41, 42, 61, 54, 55, 56, 57, 58, 59, 60] (by decide +kernel) (by decide +kernel)
set_option maxRecDepth 20000 in
theorem gX9_breaks_X0_fewestBroken : GoodIn wsX9_breaks (wsV RX9 235 RX0 yX0_fewestBroken wsX0_fewestBroken) := goodIn_app (goodIn_of _ (by decide +kernel)) ggX9_breaks_X0_fewestBroken
theorem dX9_breaks_0 : decode cX9_breaks 0 = .ok (.aload_n 0, 1) := by decide +kernel
theorem dX9_breaks_1 : decode cX9_breaks 1 = .ok (.getfield 19, 3) := by decide +kernel
theorem dX9_breaks_4 : decode cX9_breaks 4 = .ok (.iload_n 1, 1) := by decide +kernel
theorem dX9_breaks_5 : decode cX9_breaks 5 = .ok (.invokevirtual 110, 3) := by decide +kernel
theorem dX9_breaks_8 : decode cX9_breaks 8 = .ok (.istore_n 3, 1) := by decide +kernel
theorem dX9_breaks_9 : decode cX9_breaks 9 = .ok (.aload_n 0, 1) := by decide +kernel
theorem dX9_breaks_10 : decode cX9_breaks 10 = .ok (.getfield 19, 3) := by decide +kernel
theorem dX9_breaks_13 : decode cX9_breaks 13 = .ok (.iload_n 2, 1) := by decide +kernel
theorem dX9_breaks_14 : decode cX9_breaks 14 = .ok (.invokevirtual 110, 3) := by decide +kernel
theorem dX9_breaks_17 : decode cX9_breaks 17 = .ok (.istore 4, 2) := by decide +kernel
theorem dX9_breaks_19 : decode cX9_breaks 19 = .ok (.iload_n 3, 1) := by decide +kernel
theorem dX9_breaks_20 : decode cX9_breaks 20 = .ok (.iconst (-1), 1) := by decide +kernel
theorem dX9_breaks_21 : decode cX9_breaks 21 = .ok (.if_icmp .eq 9, 3) := by decide +kernel
theorem dX9_breaks_24 : decode cX9_breaks 24 = .ok (.iload 4, 2) := by decide +kernel
theorem dX9_breaks_26 : decode cX9_breaks 26 = .ok (.iconst (-1), 1) := by decide +kernel
theorem dX9_breaks_27 : decode cX9_breaks 27 = .ok (.if_icmp .ne 5, 3) := by decide +kernel
theorem dX9_breaks_30 : decode cX9_breaks 30 = .ok (.iconst (-1), 1) := by decide +kernel
theorem dX9_breaks_31 : decode cX9_breaks 31 = .ok (.ireturn, 1) := by decide +kernel
theorem dX9_breaks_32 : decode cX9_breaks 32 = .ok (.aload_n 0, 1) := by decide +kernel
theorem dX9_breaks_33 : decode cX9_breaks 33 = .ok (.getfield 70, 3) := by decide +kernel
theorem dX9_breaks_36 : decode cX9_breaks 36 = .ok (.iload_n 3, 1) := by decide +kernel
theorem dX9_breaks_37 : decode cX9_breaks 37 = .ok (.iload 4, 2) := by decide +kernel
theorem dX9_breaks_39 : decode cX9_breaks 39 = .ok (.invokevirtual 235, 3) := by decide +kernel
theorem dX9_breaks_42 : decode cX9_breaks 42 = .ok (.ireturn, 1) := by decide +kernel
set_option maxRecDepth 20000 in
theorem ggX9_shortCut_X0_bestTakenAway : GoodIn wsX9_shortCut wsX0_bestTakenAway := goodIn_r _ [6, 7, 8, 9, 10, 11, 12, 13, 14, 15, 16, 17, 18, 19, 20, 21, 22, 23, 24, 25, 26, 27, 28, 29, 30, 31, 32, 33, 34, 35, 36, 37, 38, 39, 40, 41, 42, 5, 43, 44, 45, 46, 47, 48, 49, 50, 51, 52, 53, 54, 55, 67, 68, 69, 70, 71, 72, 73, 74] (by decide +kernel) (by decide +kernel)
set_option maxRecDepth 20000 in
theorem gX9_shortCut_X0_bestTakenAway : GoodIn wsX9_shortCut (wsV RX9 238 RX0 yX0_bestTakenAway wsX0_bestTakenAway) := goodIn_app (goodIn_of _ (by decide +kernel)) ggX9_shortCut_X0_bestTakenAway
theorem dX9_shortCut_0 : decode cX9_shortCut 0 = .ok (.aload_n 0, 1) := by decide +kernel
theorem dX9_shortCut_1 : decode cX9_shortCut 1 = .ok (.getfield 70, 3) := by decide +kernel
theorem dX9_shortCut_4 : decode cX9_shortCut 4 = .ok (.invokevirtual 238, 3) := by decide +kernel
theorem dX9_shortCut_7 : decode cX9_shortCut 7 = .ok (.ireturn, 1) := by decide +kernel
set_option maxRecDepth 20000 in
theorem ggX9_bar_X0_bestPutIn : GoodIn wsX9_bar wsX0_bestPutIn := goodIn_r _ [6, 7, 8, 9, 10, 11, 12, 13, 14, 15, 16, 17, 18, 19, 20, 21, 22, 23, 24, 25, 26, 27, 28, 29, 30, 31, 32, 33, 5, 34, 35, 36, 37, 38, 39, 40, 41, 42, 43, 44, 45, 46, 47, 48, 49, 50, 51, 63, 64, 65, 66, 67, 68, 69, 70] (by decide +kernel) (by decide +kernel)
set_option maxRecDepth 20000 in
theorem gX9_bar_X0_bestPutIn : GoodIn wsX9_bar (wsV RX9 241 RX0 yX0_bestPutIn wsX0_bestPutIn) := goodIn_app (goodIn_of _ (by decide +kernel)) ggX9_bar_X0_bestPutIn
theorem dX9_bar_0 : decode cX9_bar 0 = .ok (.aload_n 0, 1) := by decide +kernel
theorem dX9_bar_1 : decode cX9_bar 1 = .ok (.getfield 70, 3) := by decide +kernel
theorem dX9_bar_4 : decode cX9_bar 4 = .ok (.invokevirtual 241, 3) := by decide +kernel
theorem dX9_bar_7 : decode cX9_bar 7 = .ok (.ireturn, 1) := by decide +kernel
set_option maxRecDepth 20000 in
theorem ggX9_chase_X1_placeOf : GoodIn wsX9_chase wsX1_placeOf := goodIn_r _ [7, 8, 9, 74, 75, 76, 77, 78, 79, 80] (by decide +kernel) (by decide +kernel)
set_option maxRecDepth 20000 in
theorem gX9_chase_X1_placeOf : GoodIn wsX9_chase (wsV RX9 110 RX1 yX1_placeOf wsX1_placeOf) := goodIn_app (goodIn_of _ (by decide +kernel)) ggX9_chase_X1_placeOf
set_option maxRecDepth 20000 in
theorem ggX9_chase_X2_turnsTillWon : GoodIn wsX9_chase wsX2_turnsTillWon := goodIn_r _ [14, 15, 16, 17, 18, 19, 20, 13, 21, 22, 23, 6, 24, 25, 26, 27, 28, 29, 30, 31, 32, 33, 34, 35, 36, 37, 38, 39, 40, 41, 42, 43, 44, 45, 46, 47, 48, 49, 50, 51, 52, 53, 54, 55, 56, 57, 58, 59, 60, 61, 62, 81, 82, 83, 74, 75, 76, 77, 78, 79, 80] (by decide +kernel) (by decide +kernel)
set_option maxRecDepth 20000 in
theorem gX9_chase_X2_turnsTillWon : GoodIn wsX9_chase (wsV RX9 244 RX2 yX2_turnsTillWon wsX2_turnsTillWon) := goodIn_app (goodIn_of _ (by decide +kernel)) ggX9_chase_X2_turnsTillWon
theorem dX9_chase_0 : decode cX9_chase 0 = .ok (.aload_n 0, 1) := by decide +kernel
theorem dX9_chase_1 : decode cX9_chase 1 = .ok (.getfield 19, 3) := by decide +kernel
theorem dX9_chase_4 : decode cX9_chase 4 = .ok (.iload_n 1, 1) := by decide +kernel
theorem dX9_chase_5 : decode cX9_chase 5 = .ok (.invokevirtual 110, 3) := by decide +kernel
theorem dX9_chase_8 : decode cX9_chase 8 = .ok (.istore 4, 2) := by decide +kernel
theorem dX9_chase_10 : decode cX9_chase 10 = .ok (.aload_n 0, 1) := by decide +kernel
theorem dX9_chase_11 : decode cX9_chase 11 = .ok (.getfield 19, 3) := by decide +kernel
theorem dX9_chase_14 : decode cX9_chase 14 = .ok (.iload_n 2, 1) := by decide +kernel
theorem dX9_chase_15 : decode cX9_chase 15 = .ok (.invokevirtual 110, 3) := by decide +kernel
theorem dX9_chase_18 : decode cX9_chase 18 = .ok (.istore 5, 2) := by decide +kernel
theorem dX9_chase_20 : decode cX9_chase 20 = .ok (.iload 4, 2) := by decide +kernel
theorem dX9_chase_22 : decode cX9_chase 22 = .ok (.iconst (-1), 1) := by decide +kernel
theorem dX9_chase_23 : decode cX9_chase 23 = .ok (.if_icmp .eq 9, 3) := by decide +kernel
theorem dX9_chase_26 : decode cX9_chase 26 = .ok (.iload 5, 2) := by decide +kernel
theorem dX9_chase_28 : decode cX9_chase 28 = .ok (.iconst (-1), 1) := by decide +kernel
theorem dX9_chase_29 : decode cX9_chase 29 = .ok (.if_icmp .ne 5, 3) := by decide +kernel
theorem dX9_chase_32 : decode cX9_chase 32 = .ok (.iconst (-1), 1) := by decide +kernel
theorem dX9_chase_33 : decode cX9_chase 33 = .ok (.ireturn, 1) := by decide +kernel
theorem dX9_chase_34 : decode cX9_chase 34 = .ok (.aload_n 0, 1) := by decide +kernel
theorem dX9_chase_35 : decode cX9_chase 35 = .ok (.getfield 77, 3) := by decide +kernel
theorem dX9_chase_38 : decode cX9_chase 38 = .ok (.iload 4, 2) := by decide +kernel
theorem dX9_chase_40 : decode cX9_chase 40 = .ok (.iload 5, 2) := by decide +kernel
theorem dX9_chase_42 : decode cX9_chase 42 = .ok (.iload_n 3, 1) := by decide +kernel
theorem dX9_chase_43 : decode cX9_chase 43 = .ok (.invokevirtual 244, 3) := by decide +kernel
theorem dX9_chase_46 : decode cX9_chase 46 = .ok (.ireturn, 1) := by decide +kernel
set_option maxRecDepth 20000 in
theorem ggX9_same_X1_turnOf : GoodIn wsX9_same wsX1_turnOf := goodIn_r _ [7, 8, 9, 10, 11, 12, 13, 14, 6, 15, 16, 17, 18, 19, 20, 21, 22, 23, 24, 25, 26, 27, 28, 29, 30, 31, 32, 33, 34, 35, 36, 37, 38, 39, 40, 41, 42, 43, 44, 45, 46, 47, 48, 68, 69, 70, 71, 72, 73, 74] (by decide +kernel) (by decide +kernel)
set_option maxRecDepth 20000 in
theorem gX9_same_X1_turnOf : GoodIn wsX9_same (wsV RX9 248 RX1 yX1_turnOf wsX1_turnOf) := goodIn_app (goodIn_of _ (by decide +kernel)) ggX9_same_X1_turnOf
set_option maxRecDepth 20000 in
theorem ggX9_same_X1_looksLike : GoodIn wsX9_same wsX1_looksLike := goodIn_r _ [52, 9, 8, 17, 18, 68, 69, 70, 71, 72, 73, 74] (by decide +kernel) (by decide +kernel)
set_option maxRecDepth 20000 in
theorem gX9_same_X1_looksLike : GoodIn wsX9_same (wsV RX9 252 RX1 yX1_looksLike wsX1_looksLike) := goodIn_app (goodIn_of _ (by decide +kernel)) ggX9_same_X1_looksLike
set_option maxRecDepth 20000 in
theorem ggX9_same_X9_oneIf : GoodIn wsX9_same wsX9_oneIf := goodIn_r _ [56] (by decide +kernel) (by decide +kernel)
set_option maxRecDepth 20000 in
theorem gX9_same_X9_oneIf : GoodIn wsX9_same (va_wsS RX9 122 yX9_oneIf wsX9_oneIf) := goodIn_app (goodIn_of _ (by decide +kernel)) ggX9_same_X9_oneIf
theorem dX9_same_0 : decode cX9_same 0 = .ok (.iload_n 1, 1) := by decide +kernel
theorem dX9_same_1 : decode cX9_same 1 = .ok (.ifCond .lt 9, 3) := by decide +kernel
theorem dX9_same_4 : decode cX9_same 4 = .ok (.iload_n 1, 1) := by decide +kernel
theorem dX9_same_5 : decode cX9_same 5 = .ok (.bipush 8, 2) := by decide +kernel
theorem dX9_same_7 : decode cX9_same 7 = .ok (.if_icmp .lt 6, 3) := by decide +kernel
theorem dX9_same_10 : decode cX9_same 10 = .ok (.bipush (-2), 2) := by decide +kernel
theorem dX9_same_12 : decode cX9_same 12 = .ok (.ireturn, 1) := by decide +kernel
theorem dX9_same_13 : decode cX9_same 13 = .ok (.aload_n 0, 1) := by decide +kernel
theorem dX9_same_14 : decode cX9_same 14 = .ok (.getfield 23, 3) := by decide +kernel
theorem dX9_same_17 : decode cX9_same 17 = .ok (.aload_n 0, 1) := by decide +kernel
theorem dX9_same_18 : decode cX9_same 18 = .ok (.getfield 19, 3) := by decide +kernel
theorem dX9_same_21 : decode cX9_same 21 = .ok (.iload_n 1, 1) := by decide +kernel
theorem dX9_same_22 : decode cX9_same 22 = .ok (.invokevirtual 248, 3) := by decide +kernel
theorem dX9_same_25 : decode cX9_same 25 = .ok (.aload_n 0, 1) := by decide +kernel
theorem dX9_same_26 : decode cX9_same 26 = .ok (.getfield 23, 3) := by decide +kernel
theorem dX9_same_29 : decode cX9_same 29 = .ok (.aload_n 0, 1) := by decide +kernel
theorem dX9_same_30 : decode cX9_same 30 = .ok (.getfield 19, 3) := by decide +kernel
theorem dX9_same_33 : decode cX9_same 33 = .ok (.invokevirtual 252, 3) := by decide +kernel
theorem dX9_same_36 : decode cX9_same 36 = .ok (.invokestatic 122, 3) := by decide +kernel
theorem dX9_same_39 : decode cX9_same 39 = .ok (.ireturn, 1) := by decide +kernel
set_option maxRecDepth 20000 in
theorem ggX9_turn_X1_turnOf : GoodIn wsX9_turn wsX1_turnOf := goodIn_r _ [7, 8, 9, 10, 11, 12, 13, 14, 6, 15, 16, 17, 18, 19, 20, 21, 22, 23, 24, 25, 26, 27, 28, 29, 30, 31, 32, 33, 34, 35, 36, 37, 38, 39, 40, 41, 42, 43, 44, 45, 46, 47, 48, 72, 73, 74, 75, 76, 77, 78] (by decide +kernel) (by decide +kernel)
set_option maxRecDepth 20000 in
theorem gX9_turn_X1_turnOf : GoodIn wsX9_turn (wsV RX9 248 RX1 yX1_turnOf wsX1_turnOf) := goodIn_app (goodIn_of _ (by decide +kernel)) ggX9_turn_X1_turnOf
set_option maxRecDepth 20000 in
theorem ggX9_turn_X1_looksLike : GoodIn wsX9_turn wsX1_looksLike := goodIn_r _ [52, 9, 8, 17, 18, 72, 73, 74, 75, 76, 77, 78] (by decide +kernel) (by decide +kernel)
set_option maxRecDepth 20000 in
theorem gX9_turn_X1_looksLike : GoodIn wsX9_turn (wsV RX9 252 RX1 yX1_looksLike wsX1_looksLike) := goodIn_app (goodIn_of _ (by decide +kernel)) ggX9_turn_X1_looksLike
set_option maxRecDepth 20000 in
theorem ggX9_turn_X9_oneIf : GoodIn wsX9_turn wsX9_oneIf := goodIn_r _ [56] (by decide +kernel) (by decide +kernel)
set_option maxRecDepth 20000 in
theorem gX9_turn_X9_oneIf : GoodIn wsX9_turn (va_wsS RX9 122 yX9_oneIf wsX9_oneIf) := goodIn_app (goodIn_of _ (by decide +kernel)) ggX9_turn_X9_oneIf
set_option maxRecDepth 20000 in
theorem ggX9_turn_X1_copyFrom : GoodIn wsX9_turn wsX1_copyFrom := goodIn_r _ [60, 9, 8, 10, 11, 16, 17, 18, 72, 73, 74, 75, 76, 77, 78] (by decide +kernel) (by decide +kernel)
set_option maxRecDepth 20000 in
theorem gX9_turn_X1_copyFrom : GoodIn wsX9_turn (wsV RX9 256 RX1 yX1_copyFrom wsX1_copyFrom) := goodIn_app (goodIn_of _ (by decide +kernel)) ggX9_turn_X1_copyFrom
theorem dX9_turn_0 : decode cX9_turn 0 = .ok (.iload_n 1, 1) := by decide +kernel
theorem dX9_turn_1 : decode cX9_turn 1 = .ok (.ifCond .lt 9, 3) := by decide +kernel
theorem dX9_turn_4 : decode cX9_turn 4 = .ok (.iload_n 1, 1) := by decide +kernel
theorem dX9_turn_5 : decode cX9_turn 5 = .ok (.bipush 8, 2) := by decide +kernel
theorem dX9_turn_7 : decode cX9_turn 7 = .ok (.if_icmp .lt 6, 3) := by decide +kernel
theorem dX9_turn_10 : decode cX9_turn 10 = .ok (.bipush (-2), 2) := by decide +kernel
theorem dX9_turn_12 : decode cX9_turn 12 = .ok (.ireturn, 1) := by decide +kernel
theorem dX9_turn_13 : decode cX9_turn 13 = .ok (.aload_n 0, 1) := by decide +kernel
theorem dX9_turn_14 : decode cX9_turn 14 = .ok (.getfield 23, 3) := by decide +kernel
theorem dX9_turn_17 : decode cX9_turn 17 = .ok (.aload_n 0, 1) := by decide +kernel
theorem dX9_turn_18 : decode cX9_turn 18 = .ok (.getfield 19, 3) := by decide +kernel
theorem dX9_turn_21 : decode cX9_turn 21 = .ok (.iload_n 1, 1) := by decide +kernel
theorem dX9_turn_22 : decode cX9_turn 22 = .ok (.invokevirtual 248, 3) := by decide +kernel
theorem dX9_turn_25 : decode cX9_turn 25 = .ok (.aload_n 0, 1) := by decide +kernel
theorem dX9_turn_26 : decode cX9_turn 26 = .ok (.getfield 23, 3) := by decide +kernel
theorem dX9_turn_29 : decode cX9_turn 29 = .ok (.aload_n 0, 1) := by decide +kernel
theorem dX9_turn_30 : decode cX9_turn 30 = .ok (.getfield 19, 3) := by decide +kernel
theorem dX9_turn_33 : decode cX9_turn 33 = .ok (.invokevirtual 252, 3) := by decide +kernel
theorem dX9_turn_36 : decode cX9_turn 36 = .ok (.ifCond .ne 7, 3) := by decide +kernel
theorem dX9_turn_39 : decode cX9_turn 39 = .ok (.iconst 1, 1) := by decide +kernel
theorem dX9_turn_40 : decode cX9_turn 40 = .ok (.goto 4, 3) := by decide +kernel
theorem dX9_turn_43 : decode cX9_turn 43 = .ok (.iconst 0, 1) := by decide +kernel
theorem dX9_turn_44 : decode cX9_turn 44 = .ok (.invokestatic 122, 3) := by decide +kernel
theorem dX9_turn_47 : decode cX9_turn 47 = .ok (.istore_n 2, 1) := by decide +kernel
theorem dX9_turn_48 : decode cX9_turn 48 = .ok (.aload_n 0, 1) := by decide +kernel
theorem dX9_turn_49 : decode cX9_turn 49 = .ok (.getfield 19, 3) := by decide +kernel
theorem dX9_turn_52 : decode cX9_turn 52 = .ok (.aload_n 0, 1) := by decide +kernel
theorem dX9_turn_53 : decode cX9_turn 53 = .ok (.getfield 23, 3) := by decide +kernel
theorem dX9_turn_56 : decode cX9_turn 56 = .ok (.invokevirtual 256, 3) := by decide +kernel
theorem dX9_turn_59 : decode cX9_turn 59 = .ok (.iload_n 2, 1) := by decide +kernel
theorem dX9_turn_60 : decode cX9_turn 60 = .ok (.ireturn, 1) := by decide +kernel
theorem dX9_isSlot_0 : decode cX9_isSlot 0 = .ok (.iload_n 0, 1) := by decide +kernel
theorem dX9_isSlot_1 : decode cX9_isSlot 1 = .ok (.ifCond .lt 12, 3) := by decide +kernel
theorem dX9_isSlot_4 : decode cX9_isSlot 4 = .ok (.iload_n 0, 1) := by decide +kernel
theorem dX9_isSlot_5 : decode cX9_isSlot 5 = .ok (.iconst 2, 1) := by decide +kernel
theorem dX9_isSlot_6 : decode cX9_isSlot 6 = .ok (.if_icmp .ge 7, 3) := by decide +kernel
theorem dX9_isSlot_9 : decode cX9_isSlot 9 = .ok (.iconst 1, 1) := by decide +kernel
theorem dX9_isSlot_10 : decode cX9_isSlot 10 = .ok (.goto 4, 3) := by decide +kernel
theorem dX9_isSlot_13 : decode cX9_isSlot 13 = .ok (.iconst 0, 1) := by decide +kernel
theorem dX9_isSlot_14 : decode cX9_isSlot 14 = .ok (.ireturn, 1) := by decide +kernel
