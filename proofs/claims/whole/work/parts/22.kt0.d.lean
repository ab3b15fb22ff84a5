theorem dX7_parts_38 : decode cX7_parts 38 = .ok (.ldc2_w 29, 3) := by decide +kernel
theorem dX7_parts_41 : decode cX7_parts 41 = .ok (.lxor, 1) := by decide +kernel
theorem dX7_parts_42 : decode cX7_parts 42 = .ok (.land, 1) := by decide +kernel
theorem dX7_parts_43 : decode cX7_parts 43 = .ok (.lstore_n 2, 1) := by decide +kernel
theorem dX7_parts_44 : decode cX7_parts 44 = .ok (.iinc 1 1, 3) := by decide +kernel
theorem dX7_parts_47 : decode cX7_parts 47 = .ok (.iinc 4 1, 3) := by decide +kernel
theorem dX7_parts_50 : decode cX7_parts 50 = .ok (.goto (-37), 3) := by decide +kernel
theorem dX7_parts_53 : decode cX7_parts 53 = .ok (.iload_n 1, 1) := by decide +kernel
theorem dX7_parts_54 : decode cX7_parts 54 = .ok (.ireturn, 1) := by decide +kernel
set_option maxRecDepth 20000 in
theorem ggX7_cellsWithNeighbours_X1_neighbours : GoodIn wsX7_cellsWithNeighbours wsX1_neighbours := goodIn_r _ [7, 8, 9, 6, 10, 11, 12, 13, 14, 15, 16, 17, 18, 19, 20, 21, 22, 23, 28, 29, 30, 31, 32, 33, 34] (by decide +kernel) (by decide +kernel)
set_option maxRecDepth 20000 in
theorem gX7_cellsWithNeighbours_X1_neighbours : GoodIn wsX7_cellsWithNeighbours (wsV RX7 31 RX1 yX1_neighbours wsX1_neighbours) := goodIn_app (goodIn_of _ (by decide +kernel)) ggX7_cellsWithNeighbours_X1_neighbours
set_option maxRecDepth 20000 in
theorem ggX7_cellsWithNeighbours_X1_has : GoodIn wsX7_cellsWithNeighbours wsX1_has := goodIn_r _ [26] (by decide +kernel) (by decide +kernel)
set_option maxRecDepth 20000 in
theorem gX7_cellsWithNeighbours_X1_has : GoodIn wsX7_cellsWithNeighbours (va_wsS RX7 35 yX1_has wsX1_has) := goodIn_app (goodIn_of _ (by decide +kernel)) ggX7_cellsWithNeighbours_X1_has
theorem dX7_cellsWithNeighbours_0 : decode cX7_cellsWithNeighbours 0 = .ok (.iconst 0, 1) := by decide +kernel
theorem dX7_cellsWithNeighbours_1 : decode cX7_cellsWithNeighbours 1 = .ok (.istore_n 3, 1) := by decide +kernel
theorem dX7_cellsWithNeighbours_2 : decode cX7_cellsWithNeighbours 2 = .ok (.iconst 0, 1) := by decide +kernel
theorem dX7_cellsWithNeighbours_3 : decode cX7_cellsWithNeighbours 3 = .ok (.istore 4, 2) := by decide +kernel
theorem dX7_cellsWithNeighbours_5 : decode cX7_cellsWithNeighbours 5 = .ok (.iload 4, 2) := by decide +kernel
theorem dX7_cellsWithNeighbours_7 : decode cX7_cellsWithNeighbours 7 = .ok (.bipush 48, 2) := by decide +kernel
theorem dX7_cellsWithNeighbours_9 : decode cX7_cellsWithNeighbours 9 = .ok (.if_icmp .ge 50, 3) := by decide +kernel
theorem dX7_cellsWithNeighbours_12 : decode cX7_cellsWithNeighbours 12 = .ok (.aload_n 0, 1) := by decide +kernel
theorem dX7_cellsWithNeighbours_13 : decode cX7_cellsWithNeighbours 13 = .ok (.getfield 9, 3) := by decide +kernel
theorem dX7_cellsWithNeighbours_16 : decode cX7_cellsWithNeighbours 16 = .ok (.iload 4, 2) := by decide +kernel
theorem dX7_cellsWithNeighbours_18 : decode cX7_cellsWithNeighbours 18 = .ok (.invokevirtual 31, 3) := by decide +kernel
theorem dX7_cellsWithNeighbours_21 : decode cX7_cellsWithNeighbours 21 = .ok (.istore 5, 2) := by decide +kernel
theorem dX7_cellsWithNeighbours_23 : decode cX7_cellsWithNeighbours 23 = .ok (.aload_n 0, 1) := by decide +kernel
theorem dX7_cellsWithNeighbours_24 : decode cX7_cellsWithNeighbours 24 = .ok (.getfield 9, 3) := by decide +kernel
theorem dX7_cellsWithNeighbours_27 : decode cX7_cellsWithNeighbours 27 = .ok (.getfield 15, 3) := by decide +kernel
theorem dX7_cellsWithNeighbours_30 : decode cX7_cellsWithNeighbours 30 = .ok (.iload 4, 2) := by decide +kernel
theorem dX7_cellsWithNeighbours_32 : decode cX7_cellsWithNeighbours 32 = .ok (.invokestatic 35, 3) := by decide +kernel
theorem dX7_cellsWithNeighbours_35 : decode cX7_cellsWithNeighbours 35 = .ok (.ifCond .eq 18, 3) := by decide +kernel
theorem dX7_cellsWithNeighbours_38 : decode cX7_cellsWithNeighbours 38 = .ok (.iload 5, 2) := by decide +kernel
theorem dX7_cellsWithNeighbours_40 : decode cX7_cellsWithNeighbours 40 = .ok (.iload_n 1, 1) := by decide +kernel
theorem dX7_cellsWithNeighbours_41 : decode cX7_cellsWithNeighbours 41 = .ok (.if_icmp .lt 12, 3) := by decide +kernel
theorem dX7_cellsWithNeighbours_44 : decode cX7_cellsWithNeighbours 44 = .ok (.iload 5, 2) := by decide +kernel
theorem dX7_cellsWithNeighbours_46 : decode cX7_cellsWithNeighbours 46 = .ok (.iload_n 2, 1) := by decide +kernel
theorem dX7_cellsWithNeighbours_47 : decode cX7_cellsWithNeighbours 47 = .ok (.if_icmp .gt 6, 3) := by decide +kernel
theorem dX7_cellsWithNeighbours_50 : decode cX7_cellsWithNeighbours 50 = .ok (.iinc 3 1, 3) := by decide +kernel
theorem dX7_cellsWithNeighbours_53 : decode cX7_cellsWithNeighbours 53 = .ok (.iinc 4 1, 3) := by decide +kernel
theorem dX7_cellsWithNeighbours_56 : decode cX7_cellsWithNeighbours 56 = .ok (.goto (-51), 3) := by decide +kernel
theorem dX7_cellsWithNeighbours_59 : decode cX7_cellsWithNeighbours 59 = .ok (.iload_n 3, 1) := by decide +kernel
theorem dX7_cellsWithNeighbours_60 : decode cX7_cellsWithNeighbours 60 = .ok (.ireturn, 1) := by decide +kernel
set_option maxRecDepth 20000 in
theorem ggX7_isBridge_X1_neighbour : GoodIn wsX7_isBridge wsX1_neighbour := goodIn_r _ [6, 7, 8, 9, 5, 10, 11, 12, 13, 14, 15, 16, 17, 18, 19, 20, 47, 48, 49, 50, 51, 52, 53] (by decide +kernel) (by decide +kernel)
set_option maxRecDepth 20000 in
theorem gX7_isBridge_X1_neighbour : GoodIn wsX7_isBridge (wsV RX7 39 RX1 yX1_neighbour wsX1_neighbour) := goodIn_app (goodIn_of _ (by decide +kernel)) ggX7_isBridge_X1_neighbour
set_option maxRecDepth 20000 in
theorem ggX7_isBridge_X1_setOpen : GoodIn wsX7_isBridge wsX1_setOpen := goodIn_r _ [24, 25, 26, 27, 28, 12, 29, 11, 16, 17, 18, 5, 19, 20, 13, 14, 15, 30, 31, 32, 47, 48, 49, 50, 51, 52, 53] (by decide +kernel) (by decide +kernel)
set_option maxRecDepth 20000 in
theorem gX7_isBridge_X1_setOpen : GoodIn wsX7_isBridge (wsV RX7 43 RX1 yX1_setOpen wsX1_setOpen) := goodIn_app (goodIn_of _ (by decide +kernel)) ggX7_isBridge_X1_setOpen
set_option maxRecDepth 20000 in
theorem ggX7_isBridge_X1_partOf : GoodIn wsX7_isBridge wsX1_partOf := goodIn_r _ [36, 20, 30, 31, 5, 32, 37, 38, 39, 40, 41, 42, 43, 44, 12, 11, 47, 48, 49, 50, 51, 52, 53] (by decide +kernel) (by decide +kernel)
set_option maxRecDepth 20000 in
theorem gX7_isBridge_X1_partOf : GoodIn wsX7_isBridge (wsV RX7 25 RX1 yX1_partOf wsX1_partOf) := goodIn_app (goodIn_of _ (by decide +kernel)) ggX7_isBridge_X1_partOf
set_option maxRecDepth 20000 in
theorem ggX7_isBridge_X1_has : GoodIn wsX7_isBridge wsX1_has := goodIn_r _ [15] (by decide +kernel) (by decide +kernel)
set_option maxRecDepth 20000 in
theorem gX7_isBridge_X1_has : GoodIn wsX7_isBridge (va_wsS RX7 35 yX1_has wsX1_has) := goodIn_app (goodIn_of _ (by decide +kernel)) ggX7_isBridge_X1_has
theorem dX7_isBridge_0 : decode cX7_isBridge 0 = .ok (.aload_n 0, 1) := by decide +kernel
theorem dX7_isBridge_1 : decode cX7_isBridge 1 = .ok (.getfield 9, 3) := by decide +kernel
theorem dX7_isBridge_4 : decode cX7_isBridge 4 = .ok (.iload_n 1, 1) := by decide +kernel
theorem dX7_isBridge_5 : decode cX7_isBridge 5 = .ok (.iload_n 2, 1) := by decide +kernel
theorem dX7_isBridge_6 : decode cX7_isBridge 6 = .ok (.invokevirtual 39, 3) := by decide +kernel
theorem dX7_isBridge_9 : decode cX7_isBridge 9 = .ok (.istore_n 3, 1) := by decide +kernel
theorem dX7_isBridge_10 : decode cX7_isBridge 10 = .ok (.iload_n 3, 1) := by decide +kernel
theorem dX7_isBridge_11 : decode cX7_isBridge 11 = .ok (.iconst (-1), 1) := by decide +kernel
theorem dX7_isBridge_12 : decode cX7_isBridge 12 = .ok (.if_icmp .ne 5, 3) := by decide +kernel
theorem dX7_isBridge_15 : decode cX7_isBridge 15 = .ok (.iconst 0, 1) := by decide +kernel
theorem dX7_isBridge_16 : decode cX7_isBridge 16 = .ok (.ireturn, 1) := by decide +kernel
theorem dX7_isBridge_17 : decode cX7_isBridge 17 = .ok (.aload_n 0, 1) := by decide +kernel
theorem dX7_isBridge_18 : decode cX7_isBridge 18 = .ok (.getfield 9, 3) := by decide +kernel
theorem dX7_isBridge_21 : decode cX7_isBridge 21 = .ok (.iload_n 1, 1) := by decide +kernel
theorem dX7_isBridge_22 : decode cX7_isBridge 22 = .ok (.iload_n 2, 1) := by decide +kernel
theorem dX7_isBridge_23 : decode cX7_isBridge 23 = .ok (.iconst 0, 1) := by decide +kernel
theorem dX7_isBridge_24 : decode cX7_isBridge 24 = .ok (.invokevirtual 43, 3) := by decide +kernel
theorem dX7_isBridge_27 : decode cX7_isBridge 27 = .ok (.aload_n 0, 1) := by decide +kernel
theorem dX7_isBridge_28 : decode cX7_isBridge 28 = .ok (.getfield 9, 3) := by decide +kernel
theorem dX7_isBridge_31 : decode cX7_isBridge 31 = .ok (.iload_n 1, 1) := by decide +kernel
theorem dX7_isBridge_32 : decode cX7_isBridge 32 = .ok (.invokevirtual 25, 3) := by decide +kernel
theorem dX7_isBridge_35 : decode cX7_isBridge 35 = .ok (.iload_n 3, 1) := by decide +kernel
theorem dX7_isBridge_36 : decode cX7_isBridge 36 = .ok (.invokestatic 35, 3) := by decide +kernel
theorem dX7_isBridge_39 : decode cX7_isBridge 39 = .ok (.ifCond .ne 7, 3) := by decide +kernel
theorem dX7_isBridge_42 : decode cX7_isBridge 42 = .ok (.iconst 1, 1) := by decide +kernel
theorem dX7_isBridge_43 : decode cX7_isBridge 43 = .ok (.goto 4, 3) := by decide +kernel
theorem dX7_isBridge_46 : decode cX7_isBridge 46 = .ok (.iconst 0, 1) := by decide +kernel
theorem dX7_isBridge_47 : decode cX7_isBridge 47 = .ok (.istore 4, 2) := by decide +kernel
theorem dX7_isBridge_49 : decode cX7_isBridge 49 = .ok (.aload_n 0, 1) := by decide +kernel
theorem dX7_isBridge_50 : decode cX7_isBridge 50 = .ok (.getfield 9, 3) := by decide +kernel
theorem dX7_isBridge_53 : decode cX7_isBridge 53 = .ok (.iload_n 1, 1) := by decide +kernel
theorem dX7_isBridge_54 : decode cX7_isBridge 54 = .ok (.iload_n 2, 1) := by decide +kernel
theorem dX7_isBridge_55 : decode cX7_isBridge 55 = .ok (.iconst 1, 1) := by decide +kernel
theorem dX7_isBridge_56 : decode cX7_isBridge 56 = .ok (.invokevirtual 43, 3) := by decide +kernel
theorem dX7_isBridge_59 : decode cX7_isBridge 59 = .ok (.iload 4, 2) := by decide +kernel
theorem dX7_isBridge_61 : decode cX7_isBridge 61 = .ok (.ireturn, 1) := by decide +kernel
