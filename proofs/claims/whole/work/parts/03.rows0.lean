theorem inJ13 : ∀ w ∈ wsJ130, w ∈ lw_tbl := by decide +kernel
theorem inJ9 : ∀ w ∈ wsJ90, w ∈ lw_tbl := by decide +kernel
theorem dX0_init_0 : decode cX0_init 0 = .ok (.aload_n 0, 1) := by decide +kernel
theorem dX0_init_1 : decode cX0_init 1 = .ok (.invokespecial 3, 3) := by decide +kernel
theorem dX0_init_4 : decode cX0_init 4 = .ok (.aload_n 0, 1) := by decide +kernel
theorem dX0_init_5 : decode cX0_init 5 = .ok (.aload_n 1, 1) := by decide +kernel
theorem dX0_init_6 : decode cX0_init 6 = .ok (.putfield 9, 3) := by decide +kernel
theorem dX0_init_9 : decode cX0_init 9 = .ok (.return_, 1) := by decide +kernel
set_option maxRecDepth 20000 in
theorem ggX0_fewestBroken_X1_partOf : GoodIn wsX0_fewestBroken wsX1_partOf := goodIn_r _ [7, 8, 9, 10, 6, 11, 12, 13, 14, 15, 16, 17, 18, 19, 20, 21, 31, 32, 33, 34, 35, 36, 37] (by decide +kernel) (by decide +kernel)
set_option maxRecDepth 20000 in
theorem gX0_fewestBroken_X1_partOf : GoodIn wsX0_fewestBroken (wsV RX0 15 RX1 yX1_partOf wsX1_partOf) := goodIn_app (goodIn_of _ (by decide +kernel)) ggX0_fewestBroken_X1_partOf
set_option maxRecDepth 20000 in
theorem ggX0_fewestBroken_X1_has : GoodIn wsX0_fewestBroken wsX1_has := goodIn_r _ [24] (by decide +kernel) (by decide +kernel)
set_option maxRecDepth 20000 in
theorem gX0_fewestBroken_X1_has : GoodIn wsX0_fewestBroken (va_wsS RX0 21 yX1_has wsX1_has) := goodIn_app (goodIn_of _ (by decide +kernel)) ggX0_fewestBroken_X1_has
set_option maxRecDepth 20000 in
theorem ggX0_fewestBroken_X1_nearThroughHedges : GoodIn wsX0_fewestBroken wsX1_nearThroughHedges := goodIn_r _ [28, 8, 31, 32, 33, 34, 35, 36, 37] (by decide +kernel) (by decide +kernel)
set_option maxRecDepth 20000 in
theorem gX0_fewestBroken_X1_nearThroughHedges : GoodIn wsX0_fewestBroken (wsV RX0 25 RX1 yX1_nearThroughHedges wsX1_nearThroughHedges) := goodIn_app (goodIn_of _ (by decide +kernel)) ggX0_fewestBroken_X1_nearThroughHedges
set_option maxRecDepth 20000 in
theorem ggX0_fewestBroken_X1_flood : GoodIn wsX0_fewestBroken wsX1_flood := goodIn_r _ [15, 16, 17, 18, 6, 19, 20, 21, 31, 32, 33, 34, 35, 36, 37] (by decide +kernel) (by decide +kernel)
set_option maxRecDepth 20000 in
theorem gX0_fewestBroken_X1_flood : GoodIn wsX0_fewestBroken (wsV RX0 33 RX1 yX1_flood wsX1_flood) := goodIn_app (goodIn_of _ (by decide +kernel)) ggX0_fewestBroken_X1_flood
theorem dX0_fewestBroken_0 : decode cX0_fewestBroken 0 = .ok (.aload_n 0, 1) := by decide +kernel
theorem dX0_fewestBroken_1 : decode cX0_fewestBroken 1 = .ok (.getfield 9, 3) := by decide +kernel
theorem dX0_fewestBroken_4 : decode cX0_fewestBroken 4 = .ok (.iload_n 1, 1) := by decide +kernel
theorem dX0_fewestBroken_5 : decode cX0_fewestBroken 5 = .ok (.invokevirtual 15, 3) := by decide +kernel
theorem dX0_fewestBroken_8 : decode cX0_fewestBroken 8 = .ok (.lstore_n 3, 1) := by decide +kernel
theorem dX0_fewestBroken_9 : decode cX0_fewestBroken 9 = .ok (.iconst 0, 1) := by decide +kernel
theorem dX0_fewestBroken_10 : decode cX0_fewestBroken 10 = .ok (.istore 5, 2) := by decide +kernel
theorem dX0_fewestBroken_12 : decode cX0_fewestBroken 12 = .ok (.iload 5, 2) := by decide +kernel
theorem dX0_fewestBroken_14 : decode cX0_fewestBroken 14 = .ok (.bipush 36, 2) := by decide +kernel
theorem dX0_fewestBroken_16 : decode cX0_fewestBroken 16 = .ok (.if_icmp .ge 40, 3) := by decide +kernel
theorem dX0_fewestBroken_19 : decode cX0_fewestBroken 19 = .ok (.lload_n 3, 1) := by decide +kernel
theorem dX0_fewestBroken_20 : decode cX0_fewestBroken 20 = .ok (.iload_n 2, 1) := by decide +kernel
theorem dX0_fewestBroken_21 : decode cX0_fewestBroken 21 = .ok (.invokestatic 21, 3) := by decide +kernel
theorem dX0_fewestBroken_24 : decode cX0_fewestBroken 24 = .ok (.ifCond .ne 32, 3) := by decide +kernel
theorem dX0_fewestBroken_27 : decode cX0_fewestBroken 27 = .ok (.aload_n 0, 1) := by decide +kernel
theorem dX0_fewestBroken_28 : decode cX0_fewestBroken 28 = .ok (.getfield 9, 3) := by decide +kernel
theorem dX0_fewestBroken_31 : decode cX0_fewestBroken 31 = .ok (.aload_n 0, 1) := by decide +kernel
theorem dX0_fewestBroken_32 : decode cX0_fewestBroken 32 = .ok (.getfield 9, 3) := by decide +kernel
theorem dX0_fewestBroken_35 : decode cX0_fewestBroken 35 = .ok (.lload_n 3, 1) := by decide +kernel
theorem dX0_fewestBroken_36 : decode cX0_fewestBroken 36 = .ok (.invokevirtual 25, 3) := by decide +kernel
theorem dX0_fewestBroken_39 : decode cX0_fewestBroken 39 = .ok (.aload_n 0, 1) := by decide +kernel
theorem dX0_fewestBroken_40 : decode cX0_fewestBroken 40 = .ok (.getfield 9, 3) := by decide +kernel
theorem dX0_fewestBroken_43 : decode cX0_fewestBroken 43 = .ok (.getfield 29, 3) := by decide +kernel
theorem dX0_fewestBroken_46 : decode cX0_fewestBroken 46 = .ok (.invokevirtual 33, 3) := by decide +kernel
theorem dX0_fewestBroken_49 : decode cX0_fewestBroken 49 = .ok (.lstore_n 3, 1) := by decide +kernel
theorem dX0_fewestBroken_50 : decode cX0_fewestBroken 50 = .ok (.iinc 5 1, 3) := by decide +kernel
theorem dX0_fewestBroken_53 : decode cX0_fewestBroken 53 = .ok (.goto (-41), 3) := by decide +kernel
theorem dX0_fewestBroken_56 : decode cX0_fewestBroken 56 = .ok (.iload 5, 2) := by decide +kernel
theorem dX0_fewestBroken_58 : decode cX0_fewestBroken 58 = .ok (.ireturn, 1) := by decide +kernel
set_option maxRecDepth 20000 in
theorem ggX0_bestTakenAway_X1_distance : GoodIn wsX0_bestTakenAway wsX1_distance := goodIn_r _ [8, 9, 10, 7, 11, 12, 13, 14, 15, 16, 17, 18, 19, 20, 52, 53, 54, 55, 56, 57, 58] (by decide +kernel) (by decide +kernel)
set_option maxRecDepth 20000 in
theorem gX0_bestTakenAway_X1_distance : GoodIn wsX0_bestTakenAway (wsV RX0 44 RX1 yX1_distance wsX1_distance) := goodIn_app (goodIn_of _ (by decide +kernel)) ggX0_bestTakenAway_X1_distance
set_option maxRecDepth 20000 in
theorem ggX0_bestTakenAway_X1_isHedge : GoodIn wsX0_bestTakenAway wsX1_isHedge := goodIn_r _ [24, 25, 26, 27, 7, 28, 29, 12, 13, 14, 30, 31, 32, 33, 20, 19, 52, 53, 54, 55, 56, 57, 58] (by decide +kernel) (by decide +kernel)
set_option maxRecDepth 20000 in
theorem gX0_bestTakenAway_X1_isHedge : GoodIn wsX0_bestTakenAway (wsV RX0 48 RX1 yX1_isHedge wsX1_isHedge) := goodIn_app (goodIn_of _ (by decide +kernel)) ggX0_bestTakenAway_X1_isHedge
set_option maxRecDepth 20000 in
theorem ggX0_bestTakenAway_X0_distanceWith : GoodIn wsX0_bestTakenAway wsX0_distanceWith := goodIn_r _ [38, 1, 2, 3, 39, 40, 41, 7, 42, 43, 44, 45, 46, 19, 47, 20, 25, 26, 27, 28, 29, 12, 13, 14, 9, 10, 11, 4, 5, 6, 8, 15, 16, 17, 18, 51, 52, 53, 54, 55, 56, 57, 58] (by decide +kernel) (by decide +kernel)
set_option maxRecDepth 20000 in
theorem gX0_bestTakenAway_X0_distanceWith : GoodIn wsX0_bestTakenAway (wsV RX0 52 RX0 yX0_distanceWith wsX0_distanceWith) := goodIn_app (goodIn_of _ (by decide +kernel)) ggX0_bestTakenAway_X0_distanceWith
set_option maxRecDepth 20000 in
theorem ggX0_bestTakenAway_X1_told : GoodIn wsX0_bestTakenAway wsX1_told := goodIn_r _ [50] (by decide +kernel) (by decide +kernel)
set_option maxRecDepth 20000 in
theorem gX0_bestTakenAway_X1_told : GoodIn wsX0_bestTakenAway (va_wsS RX0 56 yX1_told wsX1_told) := goodIn_app (goodIn_of _ (by decide +kernel)) ggX0_bestTakenAway_X1_told
theorem dX0_bestTakenAway_0 : decode cX0_bestTakenAway 0 = .ok (.bipush (-9), 2) := by decide +kernel
theorem dX0_bestTakenAway_2 : decode cX0_bestTakenAway 2 = .ok (.istore_n 1, 1) := by decide +kernel
theorem dX0_bestTakenAway_3 : decode cX0_bestTakenAway 3 = .ok (.aload_n 0, 1) := by decide +kernel
theorem dX0_bestTakenAway_4 : decode cX0_bestTakenAway 4 = .ok (.getfield 9, 3) := by decide +kernel
theorem dX0_bestTakenAway_7 : decode cX0_bestTakenAway 7 = .ok (.aload_n 0, 1) := by decide +kernel
theorem dX0_bestTakenAway_8 : decode cX0_bestTakenAway 8 = .ok (.getfield 9, 3) := by decide +kernel
theorem dX0_bestTakenAway_11 : decode cX0_bestTakenAway 11 = .ok (.getfield 37, 3) := by decide +kernel
theorem dX0_bestTakenAway_14 : decode cX0_bestTakenAway 14 = .ok (.aload_n 0, 1) := by decide +kernel
theorem dX0_bestTakenAway_15 : decode cX0_bestTakenAway 15 = .ok (.getfield 9, 3) := by decide +kernel
theorem dX0_bestTakenAway_18 : decode cX0_bestTakenAway 18 = .ok (.getfield 41, 3) := by decide +kernel
theorem dX0_bestTakenAway_21 : decode cX0_bestTakenAway 21 = .ok (.invokevirtual 44, 3) := by decide +kernel
theorem dX0_bestTakenAway_24 : decode cX0_bestTakenAway 24 = .ok (.istore_n 2, 1) := by decide +kernel
theorem dX0_bestTakenAway_25 : decode cX0_bestTakenAway 25 = .ok (.iconst 0, 1) := by decide +kernel
theorem dX0_bestTakenAway_26 : decode cX0_bestTakenAway 26 = .ok (.istore_n 3, 1) := by decide +kernel
theorem dX0_bestTakenAway_27 : decode cX0_bestTakenAway 27 = .ok (.iload_n 3, 1) := by decide +kernel
theorem dX0_bestTakenAway_28 : decode cX0_bestTakenAway 28 = .ok (.bipush 48, 2) := by decide +kernel
theorem dX0_bestTakenAway_30 : decode cX0_bestTakenAway 30 = .ok (.if_icmp .ge 83, 3) := by decide +kernel
theorem dX0_bestTakenAway_33 : decode cX0_bestTakenAway 33 = .ok (.iconst 1, 1) := by decide +kernel
theorem dX0_bestTakenAway_34 : decode cX0_bestTakenAway 34 = .ok (.istore 4, 2) := by decide +kernel
theorem dX0_bestTakenAway_36 : decode cX0_bestTakenAway 36 = .ok (.iload 4, 2) := by decide +kernel
theorem dX0_bestTakenAway_38 : decode cX0_bestTakenAway 38 = .ok (.iconst 2, 1) := by decide +kernel
theorem dX0_bestTakenAway_39 : decode cX0_bestTakenAway 39 = .ok (.if_icmp .gt 68, 3) := by decide +kernel
theorem dX0_bestTakenAway_42 : decode cX0_bestTakenAway 42 = .ok (.aload_n 0, 1) := by decide +kernel
theorem dX0_bestTakenAway_43 : decode cX0_bestTakenAway 43 = .ok (.getfield 9, 3) := by decide +kernel
theorem dX0_bestTakenAway_46 : decode cX0_bestTakenAway 46 = .ok (.iload_n 3, 1) := by decide +kernel
theorem dX0_bestTakenAway_47 : decode cX0_bestTakenAway 47 = .ok (.iload 4, 2) := by decide +kernel
theorem dX0_bestTakenAway_49 : decode cX0_bestTakenAway 49 = .ok (.invokevirtual 48, 3) := by decide +kernel
theorem dX0_bestTakenAway_52 : decode cX0_bestTakenAway 52 = .ok (.ifCond .ne 6, 3) := by decide +kernel
theorem dX0_bestTakenAway_55 : decode cX0_bestTakenAway 55 = .ok (.goto 46, 3) := by decide +kernel
theorem dX0_bestTakenAway_58 : decode cX0_bestTakenAway 58 = .ok (.aload_n 0, 1) := by decide +kernel
theorem dX0_bestTakenAway_59 : decode cX0_bestTakenAway 59 = .ok (.iload_n 3, 1) := by decide +kernel
theorem dX0_bestTakenAway_60 : decode cX0_bestTakenAway 60 = .ok (.iload 4, 2) := by decide +kernel
theorem dX0_bestTakenAway_62 : decode cX0_bestTakenAway 62 = .ok (.iconst 1, 1) := by decide +kernel
theorem dX0_bestTakenAway_63 : decode cX0_bestTakenAway 63 = .ok (.invokevirtual 52, 3) := by decide +kernel
theorem dX0_bestTakenAway_66 : decode cX0_bestTakenAway 66 = .ok (.istore 5, 2) := by decide +kernel
theorem dX0_bestTakenAway_68 : decode cX0_bestTakenAway 68 = .ok (.iload 5, 2) := by decide +kernel
theorem dX0_bestTakenAway_70 : decode cX0_bestTakenAway 70 = .ok (.bipush (-9), 2) := by decide +kernel
theorem dX0_bestTakenAway_72 : decode cX0_bestTakenAway 72 = .ok (.if_icmp .eq 29, 3) := by decide +kernel
theorem dX0_bestTakenAway_75 : decode cX0_bestTakenAway 75 = .ok (.iload_n 2, 1) := by decide +kernel
theorem dX0_bestTakenAway_76 : decode cX0_bestTakenAway 76 = .ok (.bipush (-9), 2) := by decide +kernel
theorem dX0_bestTakenAway_78 : decode cX0_bestTakenAway 78 = .ok (.if_icmp .eq 9, 3) := by decide +kernel
theorem dX0_bestTakenAway_81 : decode cX0_bestTakenAway 81 = .ok (.iload 5, 2) := by decide +kernel
theorem dX0_bestTakenAway_83 : decode cX0_bestTakenAway 83 = .ok (.iload_n 2, 1) := by decide +kernel
theorem dX0_bestTakenAway_84 : decode cX0_bestTakenAway 84 = .ok (.if_icmp .ge 17, 3) := by decide +kernel
theorem dX0_bestTakenAway_87 : decode cX0_bestTakenAway 87 = .ok (.iload 5, 2) := by decide +kernel
theorem dX0_bestTakenAway_89 : decode cX0_bestTakenAway 89 = .ok (.istore_n 2, 1) := by decide +kernel
theorem dX0_bestTakenAway_90 : decode cX0_bestTakenAway 90 = .ok (.bipush 10, 2) := by decide +kernel
theorem dX0_bestTakenAway_92 : decode cX0_bestTakenAway 92 = .ok (.iload_n 3, 1) := by decide +kernel
theorem dX0_bestTakenAway_93 : decode cX0_bestTakenAway 93 = .ok (.invokestatic 56, 3) := by decide +kernel
theorem dX0_bestTakenAway_96 : decode cX0_bestTakenAway 96 = .ok (.imul, 1) := by decide +kernel
theorem dX0_bestTakenAway_97 : decode cX0_bestTakenAway 97 = .ok (.iload 4, 2) := by decide +kernel
theorem dX0_bestTakenAway_99 : decode cX0_bestTakenAway 99 = .ok (.iadd, 1) := by decide +kernel
theorem dX0_bestTakenAway_100 : decode cX0_bestTakenAway 100 = .ok (.istore_n 1, 1) := by decide +kernel
theorem dX0_bestTakenAway_101 : decode cX0_bestTakenAway 101 = .ok (.iinc 4 1, 3) := by decide +kernel
theorem dX0_bestTakenAway_104 : decode cX0_bestTakenAway 104 = .ok (.goto (-68), 3) := by decide +kernel
theorem dX0_bestTakenAway_107 : decode cX0_bestTakenAway 107 = .ok (.iinc 3 1, 3) := by decide +kernel
theorem dX0_bestTakenAway_110 : decode cX0_bestTakenAway 110 = .ok (.goto (-83), 3) := by decide +kernel
theorem dX0_bestTakenAway_113 : decode cX0_bestTakenAway 113 = .ok (.iload_n 1, 1) := by decide +kernel
theorem dX0_bestTakenAway_114 : decode cX0_bestTakenAway 114 = .ok (.ireturn, 1) := by decide +kernel
set_option maxRecDepth 20000 in
theorem ggX0_bestPutIn_X1_distance : GoodIn wsX0_bestPutIn wsX1_distance := goodIn_r _ [8, 9, 10, 7, 11, 12, 13, 14, 15, 16, 17, 18, 19, 20, 48, 49, 50, 51, 52, 53, 54] (by decide +kernel) (by decide +kernel)
set_option maxRecDepth 20000 in
theorem gX0_bestPutIn_X1_distance : GoodIn wsX0_bestPutIn (wsV RX0 44 RX1 yX1_distance wsX1_distance) := goodIn_app (goodIn_of _ (by decide +kernel)) ggX0_bestPutIn_X1_distance
set_option maxRecDepth 20000 in
theorem ggX0_bestPutIn_X1_isOpen : GoodIn wsX0_bestPutIn wsX1_isOpen := goodIn_r _ [24, 20, 19, 12, 13, 7, 14, 48, 49, 50, 51, 52, 53, 54] (by decide +kernel) (by decide +kernel)
set_option maxRecDepth 20000 in
theorem gX0_bestPutIn_X1_isOpen : GoodIn wsX0_bestPutIn (wsV RX0 60 RX1 yX1_isOpen wsX1_isOpen) := goodIn_app (goodIn_of _ (by decide +kernel)) ggX0_bestPutIn_X1_isOpen
set_option maxRecDepth 20000 in
theorem ggX0_bestPutIn_X0_distanceWith : GoodIn wsX0_bestPutIn wsX0_distanceWith := goodIn_r _ [29, 1, 2, 3, 30, 31, 32, 7, 33, 34, 35, 36, 37, 19, 38, 20, 39, 40, 41, 42, 43, 12, 13, 14, 9, 10, 11, 4, 5, 6, 8, 15, 16, 17, 18, 47, 48, 49, 50, 51, 52, 53, 54] (by decide +kernel) (by decide +kernel)
set_option maxRecDepth 20000 in
theorem gX0_bestPutIn_X0_distanceWith : GoodIn wsX0_bestPutIn (wsV RX0 52 RX0 yX0_distanceWith wsX0_distanceWith) := goodIn_app (goodIn_of _ (by decide +kernel)) ggX0_bestPutIn_X0_distanceWith
set_option maxRecDepth 20000 in
theorem ggX0_bestPutIn_X1_told : GoodIn wsX0_bestPutIn wsX1_told := goodIn_r _ [46] (by decide +kernel) (by decide +kernel)
set_option maxRecDepth 20000 in
theorem gX0_bestPutIn_X1_told : GoodIn wsX0_bestPutIn (va_wsS RX0 56 yX1_told wsX1_told) := goodIn_app (goodIn_of _ (by decide +kernel)) ggX0_bestPutIn_X1_told
theorem dX0_bestPutIn_0 : decode cX0_bestPutIn 0 = .ok (.bipush (-9), 2) := by decide +kernel
theorem dX0_bestPutIn_2 : decode cX0_bestPutIn 2 = .ok (.istore_n 1, 1) := by decide +kernel
theorem dX0_bestPutIn_3 : decode cX0_bestPutIn 3 = .ok (.aload_n 0, 1) := by decide +kernel
theorem dX0_bestPutIn_4 : decode cX0_bestPutIn 4 = .ok (.getfield 9, 3) := by decide +kernel
theorem dX0_bestPutIn_7 : decode cX0_bestPutIn 7 = .ok (.aload_n 0, 1) := by decide +kernel
theorem dX0_bestPutIn_8 : decode cX0_bestPutIn 8 = .ok (.getfield 9, 3) := by decide +kernel
theorem dX0_bestPutIn_11 : decode cX0_bestPutIn 11 = .ok (.getfield 37, 3) := by decide +kernel
theorem dX0_bestPutIn_14 : decode cX0_bestPutIn 14 = .ok (.aload_n 0, 1) := by decide +kernel
theorem dX0_bestPutIn_15 : decode cX0_bestPutIn 15 = .ok (.getfield 9, 3) := by decide +kernel
theorem dX0_bestPutIn_18 : decode cX0_bestPutIn 18 = .ok (.getfield 41, 3) := by decide +kernel
theorem dX0_bestPutIn_21 : decode cX0_bestPutIn 21 = .ok (.invokevirtual 44, 3) := by decide +kernel
theorem dX0_bestPutIn_24 : decode cX0_bestPutIn 24 = .ok (.istore_n 2, 1) := by decide +kernel
theorem dX0_bestPutIn_25 : decode cX0_bestPutIn 25 = .ok (.iconst 0, 1) := by decide +kernel
theorem dX0_bestPutIn_26 : decode cX0_bestPutIn 26 = .ok (.istore_n 3, 1) := by decide +kernel
theorem dX0_bestPutIn_27 : decode cX0_bestPutIn 27 = .ok (.iload_n 3, 1) := by decide +kernel
theorem dX0_bestPutIn_28 : decode cX0_bestPutIn 28 = .ok (.bipush 48, 2) := by decide +kernel
theorem dX0_bestPutIn_30 : decode cX0_bestPutIn 30 = .ok (.if_icmp .ge 83, 3) := by decide +kernel
theorem dX0_bestPutIn_33 : decode cX0_bestPutIn 33 = .ok (.iload_n 2, 1) := by decide +kernel
theorem dX0_bestPutIn_34 : decode cX0_bestPutIn 34 = .ok (.bipush (-9), 2) := by decide +kernel
theorem dX0_bestPutIn_36 : decode cX0_bestPutIn 36 = .ok (.if_icmp .eq 77, 3) := by decide +kernel
theorem dX0_bestPutIn_39 : decode cX0_bestPutIn 39 = .ok (.iconst 1, 1) := by decide +kernel
theorem dX0_bestPutIn_40 : decode cX0_bestPutIn 40 = .ok (.istore 4, 2) := by decide +kernel
theorem dX0_bestPutIn_42 : decode cX0_bestPutIn 42 = .ok (.iload 4, 2) := by decide +kernel
theorem dX0_bestPutIn_44 : decode cX0_bestPutIn 44 = .ok (.iconst 2, 1) := by decide +kernel
theorem dX0_bestPutIn_45 : decode cX0_bestPutIn 45 = .ok (.if_icmp .gt 62, 3) := by decide +kernel
theorem dX0_bestPutIn_48 : decode cX0_bestPutIn 48 = .ok (.aload_n 0, 1) := by decide +kernel
theorem dX0_bestPutIn_49 : decode cX0_bestPutIn 49 = .ok (.getfield 9, 3) := by decide +kernel
theorem dX0_bestPutIn_52 : decode cX0_bestPutIn 52 = .ok (.iload_n 3, 1) := by decide +kernel
theorem dX0_bestPutIn_53 : decode cX0_bestPutIn 53 = .ok (.iload 4, 2) := by decide +kernel
theorem dX0_bestPutIn_55 : decode cX0_bestPutIn 55 = .ok (.invokevirtual 60, 3) := by decide +kernel
theorem dX0_bestPutIn_58 : decode cX0_bestPutIn 58 = .ok (.ifCond .ne 6, 3) := by decide +kernel
theorem dX0_bestPutIn_61 : decode cX0_bestPutIn 61 = .ok (.goto 40, 3) := by decide +kernel
theorem dX0_bestPutIn_64 : decode cX0_bestPutIn 64 = .ok (.aload_n 0, 1) := by decide +kernel
theorem dX0_bestPutIn_65 : decode cX0_bestPutIn 65 = .ok (.iload_n 3, 1) := by decide +kernel
theorem dX0_bestPutIn_66 : decode cX0_bestPutIn 66 = .ok (.iload 4, 2) := by decide +kernel
theorem dX0_bestPutIn_68 : decode cX0_bestPutIn 68 = .ok (.iconst 0, 1) := by decide +kernel
theorem dX0_bestPutIn_69 : decode cX0_bestPutIn 69 = .ok (.invokevirtual 52, 3) := by decide +kernel
theorem dX0_bestPutIn_72 : decode cX0_bestPutIn 72 = .ok (.istore 5, 2) := by decide +kernel
theorem dX0_bestPutIn_74 : decode cX0_bestPutIn 74 = .ok (.iload 5, 2) := by decide +kernel
theorem dX0_bestPutIn_76 : decode cX0_bestPutIn 76 = .ok (.bipush (-9), 2) := by decide +kernel
theorem dX0_bestPutIn_78 : decode cX0_bestPutIn 78 = .ok (.if_icmp .eq 23, 3) := by decide +kernel
theorem dX0_bestPutIn_81 : decode cX0_bestPutIn 81 = .ok (.iload 5, 2) := by decide +kernel
theorem dX0_bestPutIn_83 : decode cX0_bestPutIn 83 = .ok (.iload_n 2, 1) := by decide +kernel
theorem dX0_bestPutIn_84 : decode cX0_bestPutIn 84 = .ok (.if_icmp .le 17, 3) := by decide +kernel
theorem dX0_bestPutIn_87 : decode cX0_bestPutIn 87 = .ok (.iload 5, 2) := by decide +kernel
theorem dX0_bestPutIn_89 : decode cX0_bestPutIn 89 = .ok (.istore_n 2, 1) := by decide +kernel
theorem dX0_bestPutIn_90 : decode cX0_bestPutIn 90 = .ok (.bipush 10, 2) := by decide +kernel
theorem dX0_bestPutIn_92 : decode cX0_bestPutIn 92 = .ok (.iload_n 3, 1) := by decide +kernel
theorem dX0_bestPutIn_93 : decode cX0_bestPutIn 93 = .ok (.invokestatic 56, 3) := by decide +kernel
theorem dX0_bestPutIn_96 : decode cX0_bestPutIn 96 = .ok (.imul, 1) := by decide +kernel
theorem dX0_bestPutIn_97 : decode cX0_bestPutIn 97 = .ok (.iload 4, 2) := by decide +kernel
theorem dX0_bestPutIn_99 : decode cX0_bestPutIn 99 = .ok (.iadd, 1) := by decide +kernel
theorem dX0_bestPutIn_100 : decode cX0_bestPutIn 100 = .ok (.istore_n 1, 1) := by decide +kernel
theorem dX0_bestPutIn_101 : decode cX0_bestPutIn 101 = .ok (.iinc 4 1, 3) := by decide +kernel
theorem dX0_bestPutIn_104 : decode cX0_bestPutIn 104 = .ok (.goto (-62), 3) := by decide +kernel
theorem dX0_bestPutIn_107 : decode cX0_bestPutIn 107 = .ok (.iinc 3 1, 3) := by decide +kernel
theorem dX0_bestPutIn_110 : decode cX0_bestPutIn 110 = .ok (.goto (-83), 3) := by decide +kernel
theorem dX0_bestPutIn_113 : decode cX0_bestPutIn 113 = .ok (.iload_n 1, 1) := by decide +kernel
theorem dX0_bestPutIn_114 : decode cX0_bestPutIn 114 = .ok (.ireturn, 1) := by decide +kernel
set_option maxRecDepth 20000 in
theorem ggX0_distanceWith_X1_setOpen : GoodIn wsX0_distanceWith wsX1_setOpen := goodIn_r _ [8, 9, 10, 11, 12, 13, 14, 15, 16, 17, 18, 7, 19, 20, 21, 22, 23, 24, 25, 26, 36, 37, 38, 39, 40, 41, 42] (by decide +kernel) (by decide +kernel)
set_option maxRecDepth 20000 in
theorem gX0_distanceWith_X1_setOpen : GoodIn wsX0_distanceWith (wsV RX0 63 RX1 yX1_setOpen wsX1_setOpen) := goodIn_app (goodIn_of _ (by decide +kernel)) ggX0_distanceWith_X1_setOpen
set_option maxRecDepth 20000 in
theorem ggX0_distanceWith_X1_distance : GoodIn wsX0_distanceWith wsX1_distance := goodIn_r _ [30, 24, 25, 7, 26, 21, 22, 23, 31, 32, 33, 34, 13, 15, 36, 37, 38, 39, 40, 41, 42] (by decide +kernel) (by decide +kernel)
set_option maxRecDepth 20000 in
theorem gX0_distanceWith_X1_distance : GoodIn wsX0_distanceWith (wsV RX0 44 RX1 yX1_distance wsX1_distance) := goodIn_app (goodIn_of _ (by decide +kernel)) ggX0_distanceWith_X1_distance
theorem dX0_distanceWith_0 : decode cX0_distanceWith 0 = .ok (.aload_n 0, 1) := by decide +kernel
theorem dX0_distanceWith_1 : decode cX0_distanceWith 1 = .ok (.getfield 9, 3) := by decide +kernel
theorem dX0_distanceWith_4 : decode cX0_distanceWith 4 = .ok (.iload_n 1, 1) := by decide +kernel
theorem dX0_distanceWith_5 : decode cX0_distanceWith 5 = .ok (.iload_n 2, 1) := by decide +kernel
theorem dX0_distanceWith_6 : decode cX0_distanceWith 6 = .ok (.iload_n 3, 1) := by decide +kernel
theorem dX0_distanceWith_7 : decode cX0_distanceWith 7 = .ok (.invokevirtual 63, 3) := by decide +kernel
theorem dX0_distanceWith_10 : decode cX0_distanceWith 10 = .ok (.aload_n 0, 1) := by decide +kernel
theorem dX0_distanceWith_11 : decode cX0_distanceWith 11 = .ok (.getfield 9, 3) := by decide +kernel
theorem dX0_distanceWith_14 : decode cX0_distanceWith 14 = .ok (.aload_n 0, 1) := by decide +kernel
theorem dX0_distanceWith_15 : decode cX0_distanceWith 15 = .ok (.getfield 9, 3) := by decide +kernel
theorem dX0_distanceWith_18 : decode cX0_distanceWith 18 = .ok (.getfield 37, 3) := by decide +kernel
theorem dX0_distanceWith_21 : decode cX0_distanceWith 21 = .ok (.aload_n 0, 1) := by decide +kernel
theorem dX0_distanceWith_22 : decode cX0_distanceWith 22 = .ok (.getfield 9, 3) := by decide +kernel
theorem dX0_distanceWith_25 : decode cX0_distanceWith 25 = .ok (.getfield 41, 3) := by decide +kernel
theorem dX0_distanceWith_28 : decode cX0_distanceWith 28 = .ok (.invokevirtual 44, 3) := by decide +kernel
theorem dX0_distanceWith_31 : decode cX0_distanceWith 31 = .ok (.istore 4, 2) := by decide +kernel
theorem dX0_distanceWith_33 : decode cX0_distanceWith 33 = .ok (.aload_n 0, 1) := by decide +kernel
theorem dX0_distanceWith_34 : decode cX0_distanceWith 34 = .ok (.getfield 9, 3) := by decide +kernel
theorem dX0_distanceWith_37 : decode cX0_distanceWith 37 = .ok (.iload_n 1, 1) := by decide +kernel
theorem dX0_distanceWith_38 : decode cX0_distanceWith 38 = .ok (.iload_n 2, 1) := by decide +kernel
theorem dX0_distanceWith_39 : decode cX0_distanceWith 39 = .ok (.iload_n 3, 1) := by decide +kernel
theorem dX0_distanceWith_40 : decode cX0_distanceWith 40 = .ok (.ifCond .ne 7, 3) := by decide +kernel
theorem dX0_distanceWith_43 : decode cX0_distanceWith 43 = .ok (.iconst 1, 1) := by decide +kernel
theorem dX0_distanceWith_44 : decode cX0_distanceWith 44 = .ok (.goto 4, 3) := by decide +kernel
theorem dX0_distanceWith_47 : decode cX0_distanceWith 47 = .ok (.iconst 0, 1) := by decide +kernel
theorem dX0_distanceWith_48 : decode cX0_distanceWith 48 = .ok (.invokevirtual 63, 3) := by decide +kernel
theorem dX0_distanceWith_51 : decode cX0_distanceWith 51 = .ok (.iload 4, 2) := by decide +kernel
theorem dX0_distanceWith_53 : decode cX0_distanceWith 53 = .ok (.ireturn, 1) := by decide +kernel
set_option maxRecDepth 20000 in
theorem ggX1_init_X1_shutAll : GoodIn wsX1_init wsX1_shutAll := goodIn_r _ [8, 9, 10, 11, 12, 13, 14, 15, 16, 17, 18, 19, 20, 21, 22] (by decide +kernel) (by decide +kernel)
set_option maxRecDepth 20000 in
theorem gX1_init_X1_shutAll : GoodIn wsX1_init (wsV RX1 9 RX1 yX1_shutAll wsX1_shutAll) := goodIn_app (goodIn_of _ (by decide +kernel)) ggX1_init_X1_shutAll
theorem dX1_init_0 : decode cX1_init 0 = .ok (.aload_n 0, 1) := by decide +kernel
theorem dX1_init_1 : decode cX1_init 1 = .ok (.invokespecial 3, 3) := by decide +kernel
theorem dX1_init_4 : decode cX1_init 4 = .ok (.aload_n 0, 1) := by decide +kernel
theorem dX1_init_5 : decode cX1_init 5 = .ok (.iconst 1, 1) := by decide +kernel
theorem dX1_init_6 : decode cX1_init 6 = .ok (.iconst 1, 1) := by decide +kernel
theorem dX1_init_7 : decode cX1_init 7 = .ok (.invokevirtual 9, 3) := by decide +kernel
theorem dX1_init_10 : decode cX1_init 10 = .ok (.return_, 1) := by decide +kernel
theorem dX1_bit_0 : decode cX1_bit 0 = .ok (.iload_n 0, 1) := by decide +kernel
theorem dX1_bit_1 : decode cX1_bit 1 = .ok (.ifCond .lt 9, 3) := by decide +kernel
theorem dX1_bit_4 : decode cX1_bit 4 = .ok (.iload_n 0, 1) := by decide +kernel
theorem dX1_bit_5 : decode cX1_bit 5 = .ok (.bipush 48, 2) := by decide +kernel
theorem dX1_bit_7 : decode cX1_bit 7 = .ok (.if_icmp .lt 7, 3) := by decide +kernel
theorem dX1_bit_10 : decode cX1_bit 10 = .ok (.lconst 0, 1) := by decide +kernel
theorem dX1_bit_11 : decode cX1_bit 11 = .ok (.goto 6, 3) := by decide +kernel
theorem dX1_bit_14 : decode cX1_bit 14 = .ok (.lconst 1, 1) := by decide +kernel
theorem dX1_bit_15 : decode cX1_bit 15 = .ok (.iload_n 0, 1) := by decide +kernel
theorem dX1_bit_16 : decode cX1_bit 16 = .ok (.lshl, 1) := by decide +kernel
theorem dX1_bit_17 : decode cX1_bit 17 = .ok (.lreturn, 1) := by decide +kernel
theorem dX1_has_0 : decode cX1_has 0 = .ok (.iload_n 2, 1) := by decide +kernel
theorem dX1_has_1 : decode cX1_has 1 = .ok (.ifCond .lt 23, 3) := by decide +kernel
theorem dX1_has_4 : decode cX1_has 4 = .ok (.iload_n 2, 1) := by decide +kernel
theorem dX1_has_5 : decode cX1_has 5 = .ok (.bipush 48, 2) := by decide +kernel
theorem dX1_has_7 : decode cX1_has 7 = .ok (.if_icmp .ge 17, 3) := by decide +kernel
theorem dX1_has_10 : decode cX1_has 10 = .ok (.lload_n 0, 1) := by decide +kernel
theorem dX1_has_11 : decode cX1_has 11 = .ok (.iload_n 2, 1) := by decide +kernel
theorem dX1_has_12 : decode cX1_has 12 = .ok (.lushr, 1) := by decide +kernel
theorem dX1_has_13 : decode cX1_has 13 = .ok (.lconst 1, 1) := by decide +kernel
theorem dX1_has_14 : decode cX1_has 14 = .ok (.land, 1) := by decide +kernel
theorem dX1_has_15 : decode cX1_has 15 = .ok (.lconst 0, 1) := by decide +kernel
theorem dX1_has_16 : decode cX1_has 16 = .ok (.lcmp, 1) := by decide +kernel
theorem dX1_has_17 : decode cX1_has 17 = .ok (.ifCond .eq 7, 3) := by decide +kernel
theorem dX1_has_20 : decode cX1_has 20 = .ok (.iconst 1, 1) := by decide +kernel
theorem dX1_has_21 : decode cX1_has 21 = .ok (.goto 4, 3) := by decide +kernel
theorem dX1_has_24 : decode cX1_has 24 = .ok (.iconst 0, 1) := by decide +kernel
theorem dX1_has_25 : decode cX1_has 25 = .ok (.ireturn, 1) := by decide +kernel
theorem dX1_told_0 : decode cX1_told 0 = .ok (.bipush 10, 2) := by decide +kernel
theorem dX1_told_2 : decode cX1_told 2 = .ok (.iload_n 0, 1) := by decide +kernel
theorem dX1_told_3 : decode cX1_told 3 = .ok (.bipush 8, 2) := by decide +kernel
theorem dX1_told_5 : decode cX1_told 5 = .ok (.idiv, 1) := by decide +kernel
theorem dX1_told_6 : decode cX1_told 6 = .ok (.imul, 1) := by decide +kernel
theorem dX1_told_7 : decode cX1_told 7 = .ok (.iload_n 0, 1) := by decide +kernel
theorem dX1_told_8 : decode cX1_told 8 = .ok (.bipush 8, 2) := by decide +kernel
theorem dX1_told_10 : decode cX1_told 10 = .ok (.irem, 1) := by decide +kernel
theorem dX1_told_11 : decode cX1_told 11 = .ok (.iadd, 1) := by decide +kernel
theorem dX1_told_12 : decode cX1_told 12 = .ok (.ireturn, 1) := by decide +kernel
set_option maxRecDepth 20000 in
theorem ggX1_least_J13_bitCount_95d88 : GoodIn wsX1_least wsJ13_bitCount_95d88 := goodIn_r _ [4, 5, 6, 7] (by decide +kernel) (by decide +kernel)
set_option maxRecDepth 20000 in
theorem gX1_least_J13_bitCount_95d88 : GoodIn wsX1_least (va_wsS RX1 15 yJ13_bitCount_95d88 wsJ13_bitCount_95d88) := goodIn_app (goodIn_of _ (by decide +kernel)) ggX1_least_J13_bitCount_95d88
theorem dX1_least_0 : decode cX1_least 0 = .ok (.lload_n 0, 1) := by decide +kernel
theorem dX1_least_1 : decode cX1_least 1 = .ok (.lconst 0, 1) := by decide +kernel
theorem dX1_least_2 : decode cX1_least 2 = .ok (.lcmp, 1) := by decide +kernel
theorem dX1_least_3 : decode cX1_least 3 = .ok (.ifCond .ne 7, 3) := by decide +kernel
theorem dX1_least_6 : decode cX1_least 6 = .ok (.iconst (-1), 1) := by decide +kernel
theorem dX1_least_7 : decode cX1_least 7 = .ok (.goto 12, 3) := by decide +kernel
theorem dX1_least_10 : decode cX1_least 10 = .ok (.lload_n 0, 1) := by decide +kernel
theorem dX1_least_11 : decode cX1_least 11 = .ok (.lload_n 0, 1) := by decide +kernel
theorem dX1_least_12 : decode cX1_least 12 = .ok (.lneg, 1) := by decide +kernel
theorem dX1_least_13 : decode cX1_least 13 = .ok (.land, 1) := by decide +kernel
theorem dX1_least_14 : decode cX1_least 14 = .ok (.lconst 1, 1) := by decide +kernel
theorem dX1_least_15 : decode cX1_least 15 = .ok (.lsub, 1) := by decide +kernel
theorem dX1_least_16 : decode cX1_least 16 = .ok (.invokestatic 15, 3) := by decide +kernel
theorem dX1_least_19 : decode cX1_least 19 = .ok (.ireturn, 1) := by decide +kernel
theorem dX1_placeOf_0 : decode cX1_placeOf 0 = .ok (.iload_n 1, 1) := by decide +kernel
theorem dX1_placeOf_1 : decode cX1_placeOf 1 = .ok (.bipush 10, 2) := by decide +kernel
theorem dX1_placeOf_3 : decode cX1_placeOf 3 = .ok (.idiv, 1) := by decide +kernel
theorem dX1_placeOf_4 : decode cX1_placeOf 4 = .ok (.istore_n 2, 1) := by decide +kernel
theorem dX1_placeOf_5 : decode cX1_placeOf 5 = .ok (.iload_n 1, 1) := by decide +kernel
theorem dX1_placeOf_6 : decode cX1_placeOf 6 = .ok (.bipush 10, 2) := by decide +kernel
theorem dX1_placeOf_8 : decode cX1_placeOf 8 = .ok (.irem, 1) := by decide +kernel
theorem dX1_placeOf_9 : decode cX1_placeOf 9 = .ok (.istore_n 3, 1) := by decide +kernel
theorem dX1_placeOf_10 : decode cX1_placeOf 10 = .ok (.iload_n 1, 1) := by decide +kernel
theorem dX1_placeOf_11 : decode cX1_placeOf 11 = .ok (.ifCond .lt 19, 3) := by decide +kernel
theorem dX1_placeOf_14 : decode cX1_placeOf 14 = .ok (.iload_n 2, 1) := by decide +kernel
theorem dX1_placeOf_15 : decode cX1_placeOf 15 = .ok (.aload_n 0, 1) := by decide +kernel
theorem dX1_placeOf_16 : decode cX1_placeOf 16 = .ok (.getfield 21, 3) := by decide +kernel
theorem dX1_placeOf_19 : decode cX1_placeOf 19 = .ok (.if_icmp .ge 11, 3) := by decide +kernel
theorem dX1_placeOf_22 : decode cX1_placeOf 22 = .ok (.iload_n 3, 1) := by decide +kernel
theorem dX1_placeOf_23 : decode cX1_placeOf 23 = .ok (.aload_n 0, 1) := by decide +kernel
theorem dX1_placeOf_24 : decode cX1_placeOf 24 = .ok (.getfield 25, 3) := by decide +kernel
theorem dX1_placeOf_27 : decode cX1_placeOf 27 = .ok (.if_icmp .lt 7, 3) := by decide +kernel
theorem dX1_placeOf_30 : decode cX1_placeOf 30 = .ok (.iconst (-1), 1) := by decide +kernel
theorem dX1_placeOf_31 : decode cX1_placeOf 31 = .ok (.goto 9, 3) := by decide +kernel
theorem dX1_placeOf_34 : decode cX1_placeOf 34 = .ok (.iload_n 2, 1) := by decide +kernel
theorem dX1_placeOf_35 : decode cX1_placeOf 35 = .ok (.bipush 8, 2) := by decide +kernel
theorem dX1_placeOf_37 : decode cX1_placeOf 37 = .ok (.imul, 1) := by decide +kernel
theorem dX1_placeOf_38 : decode cX1_placeOf 38 = .ok (.iload_n 3, 1) := by decide +kernel
theorem dX1_placeOf_39 : decode cX1_placeOf 39 = .ok (.iadd, 1) := by decide +kernel
theorem dX1_placeOf_40 : decode cX1_placeOf 40 = .ok (.ireturn, 1) := by decide +kernel
theorem dX1_size_0 : decode cX1_size 0 = .ok (.aload_n 0, 1) := by decide +kernel
theorem dX1_size_1 : decode cX1_size 1 = .ok (.getfield 21, 3) := by decide +kernel
theorem dX1_size_4 : decode cX1_size 4 = .ok (.aload_n 0, 1) := by decide +kernel
theorem dX1_size_5 : decode cX1_size 5 = .ok (.getfield 25, 3) := by decide +kernel
theorem dX1_size_8 : decode cX1_size 8 = .ok (.imul, 1) := by decide +kernel
theorem dX1_size_9 : decode cX1_size 9 = .ok (.ireturn, 1) := by decide +kernel
set_option maxRecDepth 20000 in
theorem ggX1_openings_J13_bitCount_95d88 : GoodIn wsX1_openings wsJ13_bitCount_95d88 := goodIn_r _ [6, 7, 8, 9] (by decide +kernel) (by decide +kernel)
set_option maxRecDepth 20000 in
theorem gX1_openings_J13_bitCount_95d88 : GoodIn wsX1_openings (va_wsS RX1 15 yJ13_bitCount_95d88 wsJ13_bitCount_95d88) := goodIn_app (goodIn_of _ (by decide +kernel)) ggX1_openings_J13_bitCount_95d88
theorem dX1_openings_0 : decode cX1_openings 0 = .ok (.aload_n 0, 1) := by decide +kernel
theorem dX1_openings_1 : decode cX1_openings 1 = .ok (.getfield 28, 3) := by decide +kernel
theorem dX1_openings_4 : decode cX1_openings 4 = .ok (.invokestatic 15, 3) := by decide +kernel
theorem dX1_openings_7 : decode cX1_openings 7 = .ok (.aload_n 0, 1) := by decide +kernel
theorem dX1_openings_8 : decode cX1_openings 8 = .ok (.getfield 32, 3) := by decide +kernel
theorem dX1_openings_11 : decode cX1_openings 11 = .ok (.invokestatic 15, 3) := by decide +kernel
theorem dX1_openings_14 : decode cX1_openings 14 = .ok (.iadd, 1) := by decide +kernel
theorem dX1_openings_15 : decode cX1_openings 15 = .ok (.ireturn, 1) := by decide +kernel
theorem dX1_shutAll_0 : decode cX1_shutAll 0 = .ok (.aload_n 0, 1) := by decide +kernel
theorem dX1_shutAll_1 : decode cX1_shutAll 1 = .ok (.iload_n 1, 1) := by decide +kernel
theorem dX1_shutAll_2 : decode cX1_shutAll 2 = .ok (.putfield 21, 3) := by decide +kernel
theorem dX1_shutAll_5 : decode cX1_shutAll 5 = .ok (.aload_n 0, 1) := by decide +kernel
theorem dX1_shutAll_6 : decode cX1_shutAll 6 = .ok (.iload_n 2, 1) := by decide +kernel
theorem dX1_shutAll_7 : decode cX1_shutAll 7 = .ok (.putfield 25, 3) := by decide +kernel
theorem dX1_shutAll_10 : decode cX1_shutAll 10 = .ok (.aload_n 0, 1) := by decide +kernel
theorem dX1_shutAll_11 : decode cX1_shutAll 11 = .ok (.lconst 0, 1) := by decide +kernel
theorem dX1_shutAll_12 : decode cX1_shutAll 12 = .ok (.putfield 35, 3) := by decide +kernel
theorem dX1_shutAll_15 : decode cX1_shutAll 15 = .ok (.iconst 0, 1) := by decide +kernel
theorem dX1_shutAll_16 : decode cX1_shutAll 16 = .ok (.istore_n 3, 1) := by decide +kernel
theorem dX1_shutAll_17 : decode cX1_shutAll 17 = .ok (.iload_n 3, 1) := by decide +kernel
theorem dX1_shutAll_18 : decode cX1_shutAll 18 = .ok (.iload_n 1, 1) := by decide +kernel
theorem dX1_shutAll_19 : decode cX1_shutAll 19 = .ok (.if_icmp .ge 34, 3) := by decide +kernel
theorem dX1_shutAll_22 : decode cX1_shutAll 22 = .ok (.iload_n 3, 1) := by decide +kernel
theorem dX1_shutAll_23 : decode cX1_shutAll 23 = .ok (.bipush 6, 2) := by decide +kernel
theorem dX1_shutAll_25 : decode cX1_shutAll 25 = .ok (.if_icmp .ge 28, 3) := by decide +kernel
theorem dX1_shutAll_28 : decode cX1_shutAll 28 = .ok (.aload_n 0, 1) := by decide +kernel
theorem dX1_shutAll_29 : decode cX1_shutAll 29 = .ok (.dup, 1) := by decide +kernel
theorem dX1_shutAll_30 : decode cX1_shutAll 30 = .ok (.getfield 35, 3) := by decide +kernel
theorem dX1_shutAll_33 : decode cX1_shutAll 33 = .ok (.lconst 1, 1) := by decide +kernel
theorem dX1_shutAll_34 : decode cX1_shutAll 34 = .ok (.iload_n 2, 1) := by decide +kernel
theorem dX1_shutAll_35 : decode cX1_shutAll 35 = .ok (.lshl, 1) := by decide +kernel
theorem dX1_shutAll_36 : decode cX1_shutAll 36 = .ok (.lconst 1, 1) := by decide +kernel
theorem dX1_shutAll_37 : decode cX1_shutAll 37 = .ok (.lsub, 1) := by decide +kernel
theorem dX1_shutAll_38 : decode cX1_shutAll 38 = .ok (.bipush 8, 2) := by decide +kernel
theorem dX1_shutAll_40 : decode cX1_shutAll 40 = .ok (.iload_n 3, 1) := by decide +kernel
theorem dX1_shutAll_41 : decode cX1_shutAll 41 = .ok (.imul, 1) := by decide +kernel
theorem dX1_shutAll_42 : decode cX1_shutAll 42 = .ok (.lshl, 1) := by decide +kernel
theorem dX1_shutAll_43 : decode cX1_shutAll 43 = .ok (.lor, 1) := by decide +kernel
theorem dX1_shutAll_44 : decode cX1_shutAll 44 = .ok (.putfield 35, 3) := by decide +kernel
theorem dX1_shutAll_47 : decode cX1_shutAll 47 = .ok (.iinc 3 1, 3) := by decide +kernel
theorem dX1_shutAll_50 : decode cX1_shutAll 50 = .ok (.goto (-33), 3) := by decide +kernel
theorem dX1_shutAll_53 : decode cX1_shutAll 53 = .ok (.aload_n 0, 1) := by decide +kernel
theorem dX1_shutAll_54 : decode cX1_shutAll 54 = .ok (.lconst 0, 1) := by decide +kernel
theorem dX1_shutAll_55 : decode cX1_shutAll 55 = .ok (.putfield 28, 3) := by decide +kernel
theorem dX1_shutAll_58 : decode cX1_shutAll 58 = .ok (.aload_n 0, 1) := by decide +kernel
theorem dX1_shutAll_59 : decode cX1_shutAll 59 = .ok (.lconst 0, 1) := by decide +kernel
theorem dX1_shutAll_60 : decode cX1_shutAll 60 = .ok (.putfield 32, 3) := by decide +kernel
theorem dX1_shutAll_63 : decode cX1_shutAll 63 = .ok (.aload_n 0, 1) := by decide +kernel
theorem dX1_shutAll_64 : decode cX1_shutAll 64 = .ok (.iconst 0, 1) := by decide +kernel
theorem dX1_shutAll_65 : decode cX1_shutAll 65 = .ok (.putfield 38, 3) := by decide +kernel
theorem dX1_shutAll_68 : decode cX1_shutAll 68 = .ok (.aload_n 0, 1) := by decide +kernel
theorem dX1_shutAll_69 : decode cX1_shutAll 69 = .ok (.iload_n 1, 1) := by decide +kernel
theorem dX1_shutAll_70 : decode cX1_shutAll 70 = .ok (.iconst 1, 1) := by decide +kernel
theorem dX1_shutAll_71 : decode cX1_shutAll 71 = .ok (.isub, 1) := by decide +kernel
theorem dX1_shutAll_72 : decode cX1_shutAll 72 = .ok (.bipush 8, 2) := by decide +kernel
theorem dX1_shutAll_74 : decode cX1_shutAll 74 = .ok (.imul, 1) := by decide +kernel
theorem dX1_shutAll_75 : decode cX1_shutAll 75 = .ok (.iload_n 2, 1) := by decide +kernel
theorem dX1_shutAll_76 : decode cX1_shutAll 76 = .ok (.iadd, 1) := by decide +kernel
theorem dX1_shutAll_77 : decode cX1_shutAll 77 = .ok (.iconst 1, 1) := by decide +kernel
theorem dX1_shutAll_78 : decode cX1_shutAll 78 = .ok (.isub, 1) := by decide +kernel
theorem dX1_shutAll_79 : decode cX1_shutAll 79 = .ok (.putfield 41, 3) := by decide +kernel
theorem dX1_shutAll_82 : decode cX1_shutAll 82 = .ok (.return_, 1) := by decide +kernel
theorem dX1_copyFrom_0 : decode cX1_copyFrom 0 = .ok (.aload_n 0, 1) := by decide +kernel
theorem dX1_copyFrom_1 : decode cX1_copyFrom 1 = .ok (.aload_n 1, 1) := by decide +kernel
theorem dX1_copyFrom_2 : decode cX1_copyFrom 2 = .ok (.getfield 21, 3) := by decide +kernel
theorem dX1_copyFrom_5 : decode cX1_copyFrom 5 = .ok (.putfield 21, 3) := by decide +kernel
theorem dX1_copyFrom_8 : decode cX1_copyFrom 8 = .ok (.aload_n 0, 1) := by decide +kernel
theorem dX1_copyFrom_9 : decode cX1_copyFrom 9 = .ok (.aload_n 1, 1) := by decide +kernel
theorem dX1_copyFrom_10 : decode cX1_copyFrom 10 = .ok (.getfield 25, 3) := by decide +kernel
theorem dX1_copyFrom_13 : decode cX1_copyFrom 13 = .ok (.putfield 25, 3) := by decide +kernel
theorem dX1_copyFrom_16 : decode cX1_copyFrom 16 = .ok (.aload_n 0, 1) := by decide +kernel
theorem dX1_copyFrom_17 : decode cX1_copyFrom 17 = .ok (.aload_n 1, 1) := by decide +kernel
theorem dX1_copyFrom_18 : decode cX1_copyFrom 18 = .ok (.getfield 38, 3) := by decide +kernel
theorem dX1_copyFrom_21 : decode cX1_copyFrom 21 = .ok (.putfield 38, 3) := by decide +kernel
theorem dX1_copyFrom_24 : decode cX1_copyFrom 24 = .ok (.aload_n 0, 1) := by decide +kernel
theorem dX1_copyFrom_25 : decode cX1_copyFrom 25 = .ok (.aload_n 1, 1) := by decide +kernel
theorem dX1_copyFrom_26 : decode cX1_copyFrom 26 = .ok (.getfield 41, 3) := by decide +kernel
theorem dX1_copyFrom_29 : decode cX1_copyFrom 29 = .ok (.putfield 41, 3) := by decide +kernel
theorem dX1_copyFrom_32 : decode cX1_copyFrom 32 = .ok (.aload_n 0, 1) := by decide +kernel
theorem dX1_copyFrom_33 : decode cX1_copyFrom 33 = .ok (.aload_n 1, 1) := by decide +kernel
theorem dX1_copyFrom_34 : decode cX1_copyFrom 34 = .ok (.getfield 35, 3) := by decide +kernel
theorem dX1_copyFrom_37 : decode cX1_copyFrom 37 = .ok (.putfield 35, 3) := by decide +kernel
theorem dX1_copyFrom_40 : decode cX1_copyFrom 40 = .ok (.aload_n 0, 1) := by decide +kernel
theorem dX1_copyFrom_41 : decode cX1_copyFrom 41 = .ok (.aload_n 1, 1) := by decide +kernel
theorem dX1_copyFrom_42 : decode cX1_copyFrom 42 = .ok (.getfield 28, 3) := by decide +kernel
theorem dX1_copyFrom_45 : decode cX1_copyFrom 45 = .ok (.putfield 28, 3) := by decide +kernel
theorem dX1_copyFrom_48 : decode cX1_copyFrom 48 = .ok (.aload_n 0, 1) := by decide +kernel
theorem dX1_copyFrom_49 : decode cX1_copyFrom 49 = .ok (.aload_n 1, 1) := by decide +kernel
theorem dX1_copyFrom_50 : decode cX1_copyFrom 50 = .ok (.getfield 32, 3) := by decide +kernel
theorem dX1_copyFrom_53 : decode cX1_copyFrom 53 = .ok (.putfield 32, 3) := by decide +kernel
theorem dX1_copyFrom_56 : decode cX1_copyFrom 56 = .ok (.return_, 1) := by decide +kernel
theorem dX1_looksLike_0 : decode cX1_looksLike 0 = .ok (.aload_n 0, 1) := by decide +kernel
theorem dX1_looksLike_1 : decode cX1_looksLike 1 = .ok (.getfield 21, 3) := by decide +kernel
theorem dX1_looksLike_4 : decode cX1_looksLike 4 = .ok (.aload_n 1, 1) := by decide +kernel
theorem dX1_looksLike_5 : decode cX1_looksLike 5 = .ok (.getfield 21, 3) := by decide +kernel
theorem dX1_looksLike_8 : decode cX1_looksLike 8 = .ok (.if_icmp .ne 42, 3) := by decide +kernel
theorem dX1_looksLike_11 : decode cX1_looksLike 11 = .ok (.aload_n 0, 1) := by decide +kernel
theorem dX1_looksLike_12 : decode cX1_looksLike 12 = .ok (.getfield 25, 3) := by decide +kernel
theorem dX1_looksLike_15 : decode cX1_looksLike 15 = .ok (.aload_n 1, 1) := by decide +kernel
theorem dX1_looksLike_16 : decode cX1_looksLike 16 = .ok (.getfield 25, 3) := by decide +kernel
theorem dX1_looksLike_19 : decode cX1_looksLike 19 = .ok (.if_icmp .ne 31, 3) := by decide +kernel
theorem dX1_looksLike_22 : decode cX1_looksLike 22 = .ok (.aload_n 0, 1) := by decide +kernel
theorem dX1_looksLike_23 : decode cX1_looksLike 23 = .ok (.getfield 28, 3) := by decide +kernel
theorem dX1_looksLike_26 : decode cX1_looksLike 26 = .ok (.aload_n 1, 1) := by decide +kernel
theorem dX1_looksLike_27 : decode cX1_looksLike 27 = .ok (.getfield 28, 3) := by decide +kernel
theorem dX1_looksLike_30 : decode cX1_looksLike 30 = .ok (.lcmp, 1) := by decide +kernel
theorem dX1_looksLike_31 : decode cX1_looksLike 31 = .ok (.ifCond .ne 19, 3) := by decide +kernel
theorem dX1_looksLike_34 : decode cX1_looksLike 34 = .ok (.aload_n 0, 1) := by decide +kernel
theorem dX1_looksLike_35 : decode cX1_looksLike 35 = .ok (.getfield 32, 3) := by decide +kernel
theorem dX1_looksLike_38 : decode cX1_looksLike 38 = .ok (.aload_n 1, 1) := by decide +kernel
theorem dX1_looksLike_39 : decode cX1_looksLike 39 = .ok (.getfield 32, 3) := by decide +kernel
theorem dX1_looksLike_42 : decode cX1_looksLike 42 = .ok (.lcmp, 1) := by decide +kernel
theorem dX1_looksLike_43 : decode cX1_looksLike 43 = .ok (.ifCond .ne 7, 3) := by decide +kernel
theorem dX1_looksLike_46 : decode cX1_looksLike 46 = .ok (.iconst 1, 1) := by decide +kernel
theorem dX1_looksLike_47 : decode cX1_looksLike 47 = .ok (.goto 4, 3) := by decide +kernel
theorem dX1_looksLike_50 : decode cX1_looksLike 50 = .ok (.iconst 0, 1) := by decide +kernel
theorem dX1_looksLike_51 : decode cX1_looksLike 51 = .ok (.ireturn, 1) := by decide +kernel
set_option maxRecDepth 20000 in
theorem ggX1_beside_X1_has : GoodIn wsX1_beside wsX1_has := goodIn_r _ [5] (by decide +kernel) (by decide +kernel)
set_option maxRecDepth 20000 in
theorem gX1_beside_X1_has : GoodIn wsX1_beside (va_wsS RX1 48 yX1_has wsX1_has) := goodIn_app (goodIn_of _ (by decide +kernel)) ggX1_beside_X1_has
theorem dX1_beside_0 : decode cX1_beside 0 = .ok (.iload_n 2, 1) := by decide +kernel
theorem dX1_beside_1 : decode cX1_beside 1 = .ok (.ifCond .lt 8, 3) := by decide +kernel
theorem dX1_beside_4 : decode cX1_beside 4 = .ok (.iload_n 2, 1) := by decide +kernel
theorem dX1_beside_5 : decode cX1_beside 5 = .ok (.iconst 4, 1) := by decide +kernel
theorem dX1_beside_6 : decode cX1_beside 6 = .ok (.if_icmp .lt 5, 3) := by decide +kernel
theorem dX1_beside_9 : decode cX1_beside 9 = .ok (.iconst (-1), 1) := by decide +kernel
theorem dX1_beside_10 : decode cX1_beside 10 = .ok (.ireturn, 1) := by decide +kernel
theorem dX1_beside_11 : decode cX1_beside 11 = .ok (.iload_n 1, 1) := by decide +kernel
theorem dX1_beside_12 : decode cX1_beside 12 = .ok (.getstatic 44, 3) := by decide +kernel
theorem dX1_beside_15 : decode cX1_beside 15 = .ok (.iload_n 2, 1) := by decide +kernel
theorem dX1_beside_16 : decode cX1_beside 16 = .ok (.iaload, 1) := by decide +kernel
theorem dX1_beside_17 : decode cX1_beside 17 = .ok (.iadd, 1) := by decide +kernel
theorem dX1_beside_18 : decode cX1_beside 18 = .ok (.istore_n 3, 1) := by decide +kernel
theorem dX1_beside_19 : decode cX1_beside 19 = .ok (.aload_n 0, 1) := by decide +kernel
theorem dX1_beside_20 : decode cX1_beside 20 = .ok (.getfield 35, 3) := by decide +kernel
theorem dX1_beside_23 : decode cX1_beside 23 = .ok (.iload_n 1, 1) := by decide +kernel
theorem dX1_beside_24 : decode cX1_beside 24 = .ok (.invokestatic 48, 3) := by decide +kernel
theorem dX1_beside_27 : decode cX1_beside 27 = .ok (.ifCond .eq 18, 3) := by decide +kernel
theorem dX1_beside_30 : decode cX1_beside 30 = .ok (.aload_n 0, 1) := by decide +kernel
theorem dX1_beside_31 : decode cX1_beside 31 = .ok (.getfield 35, 3) := by decide +kernel
theorem dX1_beside_34 : decode cX1_beside 34 = .ok (.iload_n 3, 1) := by decide +kernel
theorem dX1_beside_35 : decode cX1_beside 35 = .ok (.invokestatic 48, 3) := by decide +kernel
theorem dX1_beside_38 : decode cX1_beside 38 = .ok (.ifCond .eq 7, 3) := by decide +kernel
theorem dX1_beside_41 : decode cX1_beside 41 = .ok (.iload_n 3, 1) := by decide +kernel
theorem dX1_beside_42 : decode cX1_beside 42 = .ok (.goto 4, 3) := by decide +kernel
theorem dX1_beside_45 : decode cX1_beside 45 = .ok (.iconst (-1), 1) := by decide +kernel
theorem dX1_beside_46 : decode cX1_beside 46 = .ok (.ireturn, 1) := by decide +kernel
set_option maxRecDepth 20000 in
theorem ggX1_neighbour_X1_isOpen : GoodIn wsX1_neighbour wsX1_isOpen := goodIn_r _ [5, 6, 7, 8, 9, 4, 10, 16, 17, 18, 19, 20, 21, 22] (by decide +kernel) (by decide +kernel)
set_option maxRecDepth 20000 in
theorem gX1_neighbour_X1_isOpen : GoodIn wsX1_neighbour (wsV RX1 52 RX1 yX1_isOpen wsX1_isOpen) := goodIn_app (goodIn_of _ (by decide +kernel)) ggX1_neighbour_X1_isOpen
set_option maxRecDepth 20000 in
theorem ggX1_neighbour_X1_beside : GoodIn wsX1_neighbour wsX1_beside := goodIn_r _ [14, 15, 8, 9, 4, 10, 16, 17, 18, 19, 20, 21, 22] (by decide +kernel) (by decide +kernel)
set_option maxRecDepth 20000 in
theorem gX1_neighbour_X1_beside : GoodIn wsX1_neighbour (wsV RX1 56 RX1 yX1_beside wsX1_beside) := goodIn_app (goodIn_of _ (by decide +kernel)) ggX1_neighbour_X1_beside
theorem dX1_neighbour_0 : decode cX1_neighbour 0 = .ok (.aload_n 0, 1) := by decide +kernel
theorem dX1_neighbour_1 : decode cX1_neighbour 1 = .ok (.iload_n 1, 1) := by decide +kernel
theorem dX1_neighbour_2 : decode cX1_neighbour 2 = .ok (.iload_n 2, 1) := by decide +kernel
theorem dX1_neighbour_3 : decode cX1_neighbour 3 = .ok (.invokevirtual 52, 3) := by decide +kernel
theorem dX1_neighbour_6 : decode cX1_neighbour 6 = .ok (.ifCond .eq 12, 3) := by decide +kernel
theorem dX1_neighbour_9 : decode cX1_neighbour 9 = .ok (.aload_n 0, 1) := by decide +kernel
theorem dX1_neighbour_10 : decode cX1_neighbour 10 = .ok (.iload_n 1, 1) := by decide +kernel
theorem dX1_neighbour_11 : decode cX1_neighbour 11 = .ok (.iload_n 2, 1) := by decide +kernel
theorem dX1_neighbour_12 : decode cX1_neighbour 12 = .ok (.invokevirtual 56, 3) := by decide +kernel
theorem dX1_neighbour_15 : decode cX1_neighbour 15 = .ok (.goto 4, 3) := by decide +kernel
theorem dX1_neighbour_18 : decode cX1_neighbour 18 = .ok (.iconst (-1), 1) := by decide +kernel
theorem dX1_neighbour_19 : decode cX1_neighbour 19 = .ok (.ireturn, 1) := by decide +kernel
set_option maxRecDepth 20000 in
theorem ggX1_isOpen_X1_has : GoodIn wsX1_isOpen wsX1_has := goodIn_r _ [6] (by decide +kernel) (by decide +kernel)
set_option maxRecDepth 20000 in
theorem gX1_isOpen_X1_has : GoodIn wsX1_isOpen (va_wsS RX1 48 yX1_has wsX1_has) := goodIn_app (goodIn_of _ (by decide +kernel)) ggX1_isOpen_X1_has
theorem dX1_isOpen_0 : decode cX1_isOpen 0 = .ok (.iload_n 2, 1) := by decide +kernel
theorem dX1_isOpen_1 : decode cX1_isOpen 1 = .ok (.tableswitch 72 0 3 #[31, 43, 52, 61], 31) := by decide +kernel
theorem dX1_isOpen_32 : decode cX1_isOpen 32 = .ok (.aload_n 0, 1) := by decide +kernel
theorem dX1_isOpen_33 : decode cX1_isOpen 33 = .ok (.getfield 32, 3) := by decide +kernel
theorem dX1_isOpen_36 : decode cX1_isOpen 36 = .ok (.bipush 8, 2) := by decide +kernel
theorem dX1_isOpen_38 : decode cX1_isOpen 38 = .ok (.lshl, 1) := by decide +kernel
theorem dX1_isOpen_39 : decode cX1_isOpen 39 = .ok (.iload_n 1, 1) := by decide +kernel
theorem dX1_isOpen_40 : decode cX1_isOpen 40 = .ok (.invokestatic 48, 3) := by decide +kernel
theorem dX1_isOpen_43 : decode cX1_isOpen 43 = .ok (.ireturn, 1) := by decide +kernel
theorem dX1_isOpen_44 : decode cX1_isOpen 44 = .ok (.aload_n 0, 1) := by decide +kernel
theorem dX1_isOpen_45 : decode cX1_isOpen 45 = .ok (.getfield 28, 3) := by decide +kernel
theorem dX1_isOpen_48 : decode cX1_isOpen 48 = .ok (.iload_n 1, 1) := by decide +kernel
theorem dX1_isOpen_49 : decode cX1_isOpen 49 = .ok (.invokestatic 48, 3) := by decide +kernel
theorem dX1_isOpen_52 : decode cX1_isOpen 52 = .ok (.ireturn, 1) := by decide +kernel
theorem dX1_isOpen_53 : decode cX1_isOpen 53 = .ok (.aload_n 0, 1) := by decide +kernel
theorem dX1_isOpen_54 : decode cX1_isOpen 54 = .ok (.getfield 32, 3) := by decide +kernel
theorem dX1_isOpen_57 : decode cX1_isOpen 57 = .ok (.iload_n 1, 1) := by decide +kernel
theorem dX1_isOpen_58 : decode cX1_isOpen 58 = .ok (.invokestatic 48, 3) := by decide +kernel
theorem dX1_isOpen_61 : decode cX1_isOpen 61 = .ok (.ireturn, 1) := by decide +kernel
theorem dX1_isOpen_62 : decode cX1_isOpen 62 = .ok (.aload_n 0, 1) := by decide +kernel
theorem dX1_isOpen_63 : decode cX1_isOpen 63 = .ok (.getfield 28, 3) := by decide +kernel
theorem dX1_isOpen_66 : decode cX1_isOpen 66 = .ok (.iconst 1, 1) := by decide +kernel
theorem dX1_isOpen_67 : decode cX1_isOpen 67 = .ok (.lshl, 1) := by decide +kernel
theorem dX1_isOpen_68 : decode cX1_isOpen 68 = .ok (.iload_n 1, 1) := by decide +kernel
theorem dX1_isOpen_69 : decode cX1_isOpen 69 = .ok (.invokestatic 48, 3) := by decide +kernel
theorem dX1_isOpen_72 : decode cX1_isOpen 72 = .ok (.ireturn, 1) := by decide +kernel
theorem dX1_isOpen_73 : decode cX1_isOpen 73 = .ok (.iconst 0, 1) := by decide +kernel
theorem dX1_isOpen_74 : decode cX1_isOpen 74 = .ok (.ireturn, 1) := by decide +kernel
set_option maxRecDepth 20000 in
theorem ggX1_setOpen_X1_beside : GoodIn wsX1_setOpen wsX1_beside := goodIn_r _ [12, 13, 14, 15, 11, 16, 20, 21, 22, 23, 24, 25, 26] (by decide +kernel) (by decide +kernel)
set_option maxRecDepth 20000 in
theorem gX1_setOpen_X1_beside : GoodIn wsX1_setOpen (wsV RX1 56 RX1 yX1_beside wsX1_beside) := goodIn_app (goodIn_of _ (by decide +kernel)) ggX1_setOpen_X1_beside
set_option maxRecDepth 20000 in
theorem ggX1_setOpen_X1_bit : GoodIn wsX1_setOpen wsX1_bit := goodIn_r _ [19] (by decide +kernel) (by decide +kernel)
set_option maxRecDepth 20000 in
theorem gX1_setOpen_X1_bit : GoodIn wsX1_setOpen (va_wsS RX1 65 yX1_bit wsX1_bit) := goodIn_app (goodIn_of _ (by decide +kernel)) ggX1_setOpen_X1_bit
theorem dX1_setOpen_0 : decode cX1_setOpen 0 = .ok (.aload_n 0, 1) := by decide +kernel
theorem dX1_setOpen_1 : decode cX1_setOpen 1 = .ok (.iload_n 1, 1) := by decide +kernel
theorem dX1_setOpen_2 : decode cX1_setOpen 2 = .ok (.iload_n 2, 1) := by decide +kernel
theorem dX1_setOpen_3 : decode cX1_setOpen 3 = .ok (.invokevirtual 56, 3) := by decide +kernel
theorem dX1_setOpen_6 : decode cX1_setOpen 6 = .ok (.istore 4, 2) := by decide +kernel
theorem dX1_setOpen_8 : decode cX1_setOpen 8 = .ok (.iload 4, 2) := by decide +kernel
theorem dX1_setOpen_10 : decode cX1_setOpen 10 = .ok (.iconst (-1), 1) := by decide +kernel
theorem dX1_setOpen_11 : decode cX1_setOpen 11 = .ok (.if_icmp .ne 4, 3) := by decide +kernel
theorem dX1_setOpen_14 : decode cX1_setOpen 14 = .ok (.return_, 1) := by decide +kernel
theorem dX1_setOpen_15 : decode cX1_setOpen 15 = .ok (.iload_n 1, 1) := by decide +kernel
theorem dX1_setOpen_16 : decode cX1_setOpen 16 = .ok (.iload 4, 2) := by decide +kernel
theorem dX1_setOpen_18 : decode cX1_setOpen 18 = .ok (.invokestatic 60, 3) := by decide +kernel
theorem dX1_setOpen_21 : decode cX1_setOpen 21 = .ok (.invokestatic 65, 3) := by decide +kernel
theorem dX1_setOpen_24 : decode cX1_setOpen 24 = .ok (.lstore 5, 2) := by decide +kernel
theorem dX1_setOpen_26 : decode cX1_setOpen 26 = .ok (.iload_n 2, 1) := by decide +kernel
theorem dX1_setOpen_27 : decode cX1_setOpen 27 = .ok (.iconst 3, 1) := by decide +kernel
theorem dX1_setOpen_28 : decode cX1_setOpen 28 = .ok (.if_icmp .eq 8, 3) := by decide +kernel
theorem dX1_setOpen_31 : decode cX1_setOpen 31 = .ok (.iload_n 2, 1) := by decide +kernel
theorem dX1_setOpen_32 : decode cX1_setOpen 32 = .ok (.iconst 1, 1) := by decide +kernel
theorem dX1_setOpen_33 : decode cX1_setOpen 33 = .ok (.if_icmp .ne 35, 3) := by decide +kernel
theorem dX1_setOpen_36 : decode cX1_setOpen 36 = .ok (.aload_n 0, 1) := by decide +kernel
theorem dX1_setOpen_37 : decode cX1_setOpen 37 = .ok (.iload_n 3, 1) := by decide +kernel
theorem dX1_setOpen_38 : decode cX1_setOpen 38 = .ok (.ifCond .eq 13, 3) := by decide +kernel
theorem dX1_setOpen_41 : decode cX1_setOpen 41 = .ok (.aload_n 0, 1) := by decide +kernel
theorem dX1_setOpen_42 : decode cX1_setOpen 42 = .ok (.getfield 28, 3) := by decide +kernel
theorem dX1_setOpen_45 : decode cX1_setOpen 45 = .ok (.lload 5, 2) := by decide +kernel
theorem dX1_setOpen_47 : decode cX1_setOpen 47 = .ok (.lor, 1) := by decide +kernel
theorem dX1_setOpen_48 : decode cX1_setOpen 48 = .ok (.goto 14, 3) := by decide +kernel
theorem dX1_setOpen_51 : decode cX1_setOpen 51 = .ok (.aload_n 0, 1) := by decide +kernel
theorem dX1_setOpen_52 : decode cX1_setOpen 52 = .ok (.getfield 28, 3) := by decide +kernel
theorem dX1_setOpen_55 : decode cX1_setOpen 55 = .ok (.lload 5, 2) := by decide +kernel
theorem dX1_setOpen_57 : decode cX1_setOpen 57 = .ok (.ldc2_w 69, 3) := by decide +kernel
theorem dX1_setOpen_60 : decode cX1_setOpen 60 = .ok (.lxor, 1) := by decide +kernel
theorem dX1_setOpen_61 : decode cX1_setOpen 61 = .ok (.land, 1) := by decide +kernel
theorem dX1_setOpen_62 : decode cX1_setOpen 62 = .ok (.putfield 28, 3) := by decide +kernel
theorem dX1_setOpen_65 : decode cX1_setOpen 65 = .ok (.goto 32, 3) := by decide +kernel
theorem dX1_setOpen_68 : decode cX1_setOpen 68 = .ok (.aload_n 0, 1) := by decide +kernel
theorem dX1_setOpen_69 : decode cX1_setOpen 69 = .ok (.iload_n 3, 1) := by decide +kernel
theorem dX1_setOpen_70 : decode cX1_setOpen 70 = .ok (.ifCond .eq 13, 3) := by decide +kernel
theorem dX1_setOpen_73 : decode cX1_setOpen 73 = .ok (.aload_n 0, 1) := by decide +kernel
theorem dX1_setOpen_74 : decode cX1_setOpen 74 = .ok (.getfield 32, 3) := by decide +kernel
theorem dX1_setOpen_77 : decode cX1_setOpen 77 = .ok (.lload 5, 2) := by decide +kernel
theorem dX1_setOpen_79 : decode cX1_setOpen 79 = .ok (.lor, 1) := by decide +kernel
theorem dX1_setOpen_80 : decode cX1_setOpen 80 = .ok (.goto 14, 3) := by decide +kernel
theorem dX1_setOpen_83 : decode cX1_setOpen 83 = .ok (.aload_n 0, 1) := by decide +kernel
theorem dX1_setOpen_84 : decode cX1_setOpen 84 = .ok (.getfield 32, 3) := by decide +kernel
theorem dX1_setOpen_87 : decode cX1_setOpen 87 = .ok (.lload 5, 2) := by decide +kernel
theorem dX1_setOpen_89 : decode cX1_setOpen 89 = .ok (.ldc2_w 69, 3) := by decide +kernel
theorem dX1_setOpen_92 : decode cX1_setOpen 92 = .ok (.lxor, 1) := by decide +kernel
theorem dX1_setOpen_93 : decode cX1_setOpen 93 = .ok (.land, 1) := by decide +kernel
theorem dX1_setOpen_94 : decode cX1_setOpen 94 = .ok (.putfield 32, 3) := by decide +kernel
theorem dX1_setOpen_97 : decode cX1_setOpen 97 = .ok (.return_, 1) := by decide +kernel
set_option maxRecDepth 20000 in
theorem ggX1_isHedge_X1_beside : GoodIn wsX1_isHedge wsX1_beside := goodIn_r _ [5, 6, 7, 8, 4, 9, 16, 17, 18, 19, 20, 21, 22] (by decide +kernel) (by decide +kernel)
set_option maxRecDepth 20000 in
theorem gX1_isHedge_X1_beside : GoodIn wsX1_isHedge (wsV RX1 56 RX1 yX1_beside wsX1_beside) := goodIn_app (goodIn_of _ (by decide +kernel)) ggX1_isHedge_X1_beside
set_option maxRecDepth 20000 in
theorem ggX1_isHedge_X1_isOpen : GoodIn wsX1_isHedge wsX1_isOpen := goodIn_r _ [13, 14, 15, 7, 8, 4, 9, 16, 17, 18, 19, 20, 21, 22] (by decide +kernel) (by decide +kernel)
set_option maxRecDepth 20000 in
theorem gX1_isHedge_X1_isOpen : GoodIn wsX1_isHedge (wsV RX1 52 RX1 yX1_isOpen wsX1_isOpen) := goodIn_app (goodIn_of _ (by decide +kernel)) ggX1_isHedge_X1_isOpen
theorem dX1_isHedge_0 : decode cX1_isHedge 0 = .ok (.aload_n 0, 1) := by decide +kernel
theorem dX1_isHedge_1 : decode cX1_isHedge 1 = .ok (.iload_n 1, 1) := by decide +kernel
theorem dX1_isHedge_2 : decode cX1_isHedge 2 = .ok (.iload_n 2, 1) := by decide +kernel
theorem dX1_isHedge_3 : decode cX1_isHedge 3 = .ok (.invokevirtual 56, 3) := by decide +kernel
theorem dX1_isHedge_6 : decode cX1_isHedge 6 = .ok (.iconst (-1), 1) := by decide +kernel
theorem dX1_isHedge_7 : decode cX1_isHedge 7 = .ok (.if_icmp .eq 16, 3) := by decide +kernel
theorem dX1_isHedge_10 : decode cX1_isHedge 10 = .ok (.aload_n 0, 1) := by decide +kernel
theorem dX1_isHedge_11 : decode cX1_isHedge 11 = .ok (.iload_n 1, 1) := by decide +kernel
theorem dX1_isHedge_12 : decode cX1_isHedge 12 = .ok (.iload_n 2, 1) := by decide +kernel
theorem dX1_isHedge_13 : decode cX1_isHedge 13 = .ok (.invokevirtual 52, 3) := by decide +kernel
theorem dX1_isHedge_16 : decode cX1_isHedge 16 = .ok (.ifCond .ne 7, 3) := by decide +kernel
theorem dX1_isHedge_19 : decode cX1_isHedge 19 = .ok (.iconst 1, 1) := by decide +kernel
theorem dX1_isHedge_20 : decode cX1_isHedge 20 = .ok (.goto 4, 3) := by decide +kernel
theorem dX1_isHedge_23 : decode cX1_isHedge 23 = .ok (.iconst 0, 1) := by decide +kernel
theorem dX1_isHedge_24 : decode cX1_isHedge 24 = .ok (.ireturn, 1) := by decide +kernel
theorem dX1_near_0 : decode cX1_near 0 = .ok (.lload_n 1, 1) := by decide +kernel
theorem dX1_near_1 : decode cX1_near 1 = .ok (.lload_n 1, 1) := by decide +kernel
theorem dX1_near_2 : decode cX1_near 2 = .ok (.aload_n 0, 1) := by decide +kernel
theorem dX1_near_3 : decode cX1_near 3 = .ok (.getfield 28, 3) := by decide +kernel
theorem dX1_near_6 : decode cX1_near 6 = .ok (.land, 1) := by decide +kernel
theorem dX1_near_7 : decode cX1_near 7 = .ok (.iconst 1, 1) := by decide +kernel
theorem dX1_near_8 : decode cX1_near 8 = .ok (.lshl, 1) := by decide +kernel
theorem dX1_near_9 : decode cX1_near 9 = .ok (.lor, 1) := by decide +kernel
theorem dX1_near_10 : decode cX1_near 10 = .ok (.lload_n 1, 1) := by decide +kernel
theorem dX1_near_11 : decode cX1_near 11 = .ok (.iconst 1, 1) := by decide +kernel
theorem dX1_near_12 : decode cX1_near 12 = .ok (.lushr, 1) := by decide +kernel
theorem dX1_near_13 : decode cX1_near 13 = .ok (.aload_n 0, 1) := by decide +kernel
theorem dX1_near_14 : decode cX1_near 14 = .ok (.getfield 28, 3) := by decide +kernel
theorem dX1_near_17 : decode cX1_near 17 = .ok (.land, 1) := by decide +kernel
theorem dX1_near_18 : decode cX1_near 18 = .ok (.lor, 1) := by decide +kernel
theorem dX1_near_19 : decode cX1_near 19 = .ok (.lload_n 1, 1) := by decide +kernel
theorem dX1_near_20 : decode cX1_near 20 = .ok (.aload_n 0, 1) := by decide +kernel
theorem dX1_near_21 : decode cX1_near 21 = .ok (.getfield 32, 3) := by decide +kernel
theorem dX1_near_24 : decode cX1_near 24 = .ok (.land, 1) := by decide +kernel
theorem dX1_near_25 : decode cX1_near 25 = .ok (.bipush 8, 2) := by decide +kernel
theorem dX1_near_27 : decode cX1_near 27 = .ok (.lshl, 1) := by decide +kernel
theorem dX1_near_28 : decode cX1_near 28 = .ok (.lor, 1) := by decide +kernel
theorem dX1_near_29 : decode cX1_near 29 = .ok (.lload_n 1, 1) := by decide +kernel
theorem dX1_near_30 : decode cX1_near 30 = .ok (.bipush 8, 2) := by decide +kernel
theorem dX1_near_32 : decode cX1_near 32 = .ok (.lushr, 1) := by decide +kernel
theorem dX1_near_33 : decode cX1_near 33 = .ok (.aload_n 0, 1) := by decide +kernel
theorem dX1_near_34 : decode cX1_near 34 = .ok (.getfield 32, 3) := by decide +kernel
theorem dX1_near_37 : decode cX1_near 37 = .ok (.land, 1) := by decide +kernel
theorem dX1_near_38 : decode cX1_near 38 = .ok (.lor, 1) := by decide +kernel
theorem dX1_near_39 : decode cX1_near 39 = .ok (.lreturn, 1) := by decide +kernel
theorem dX1_nearThroughHedges_0 : decode cX1_nearThroughHedges 0 = .ok (.lload_n 1, 1) := by decide +kernel
theorem dX1_nearThroughHedges_1 : decode cX1_nearThroughHedges 1 = .ok (.lload_n 1, 1) := by decide +kernel
theorem dX1_nearThroughHedges_2 : decode cX1_nearThroughHedges 2 = .ok (.iconst 1, 1) := by decide +kernel
theorem dX1_nearThroughHedges_3 : decode cX1_nearThroughHedges 3 = .ok (.lshl, 1) := by decide +kernel
theorem dX1_nearThroughHedges_4 : decode cX1_nearThroughHedges 4 = .ok (.lor, 1) := by decide +kernel
theorem dX1_nearThroughHedges_5 : decode cX1_nearThroughHedges 5 = .ok (.lload_n 1, 1) := by decide +kernel
theorem dX1_nearThroughHedges_6 : decode cX1_nearThroughHedges 6 = .ok (.iconst 1, 1) := by decide +kernel
theorem dX1_nearThroughHedges_7 : decode cX1_nearThroughHedges 7 = .ok (.lushr, 1) := by decide +kernel
theorem dX1_nearThroughHedges_8 : decode cX1_nearThroughHedges 8 = .ok (.lor, 1) := by decide +kernel
theorem dX1_nearThroughHedges_9 : decode cX1_nearThroughHedges 9 = .ok (.lload_n 1, 1) := by decide +kernel
theorem dX1_nearThroughHedges_10 : decode cX1_nearThroughHedges 10 = .ok (.bipush 8, 2) := by decide +kernel
theorem dX1_nearThroughHedges_12 : decode cX1_nearThroughHedges 12 = .ok (.lshl, 1) := by decide +kernel
theorem dX1_nearThroughHedges_13 : decode cX1_nearThroughHedges 13 = .ok (.lor, 1) := by decide +kernel
theorem dX1_nearThroughHedges_14 : decode cX1_nearThroughHedges 14 = .ok (.lload_n 1, 1) := by decide +kernel
theorem dX1_nearThroughHedges_15 : decode cX1_nearThroughHedges 15 = .ok (.bipush 8, 2) := by decide +kernel
theorem dX1_nearThroughHedges_17 : decode cX1_nearThroughHedges 17 = .ok (.lushr, 1) := by decide +kernel
theorem dX1_nearThroughHedges_18 : decode cX1_nearThroughHedges 18 = .ok (.lor, 1) := by decide +kernel
theorem dX1_nearThroughHedges_19 : decode cX1_nearThroughHedges 19 = .ok (.aload_n 0, 1) := by decide +kernel
theorem dX1_nearThroughHedges_20 : decode cX1_nearThroughHedges 20 = .ok (.getfield 35, 3) := by decide +kernel
theorem dX1_nearThroughHedges_23 : decode cX1_nearThroughHedges 23 = .ok (.land, 1) := by decide +kernel
theorem dX1_nearThroughHedges_24 : decode cX1_nearThroughHedges 24 = .ok (.lreturn, 1) := by decide +kernel
set_option maxRecDepth 20000 in
theorem ggX1_neighbours_X1_bit : GoodIn wsX1_neighbours wsX1_bit := goodIn_r _ [4] (by decide +kernel) (by decide +kernel)
set_option maxRecDepth 20000 in
theorem gX1_neighbours_X1_bit : GoodIn wsX1_neighbours (va_wsS RX1 65 yX1_bit wsX1_bit) := goodIn_app (goodIn_of _ (by decide +kernel)) ggX1_neighbours_X1_bit
set_option maxRecDepth 20000 in
theorem ggX1_neighbours_X1_near : GoodIn wsX1_neighbours wsX1_near := goodIn_r _ [8, 9, 10, 18, 19, 20, 21, 22, 23, 24] (by decide +kernel) (by decide +kernel)
set_option maxRecDepth 20000 in
theorem gX1_neighbours_X1_near : GoodIn wsX1_neighbours (wsV RX1 71 RX1 yX1_near wsX1_near) := goodIn_app (goodIn_of _ (by decide +kernel)) ggX1_neighbours_X1_near
set_option maxRecDepth 20000 in
theorem ggX1_neighbours_J13_bitCount_95d88 : GoodIn wsX1_neighbours wsJ13_bitCount_95d88 := goodIn_r _ [14, 15, 16, 17] (by decide +kernel) (by decide +kernel)
set_option maxRecDepth 20000 in
theorem gX1_neighbours_J13_bitCount_95d88 : GoodIn wsX1_neighbours (va_wsS RX1 15 yJ13_bitCount_95d88 wsJ13_bitCount_95d88) := goodIn_app (goodIn_of _ (by decide +kernel)) ggX1_neighbours_J13_bitCount_95d88
theorem dX1_neighbours_0 : decode cX1_neighbours 0 = .ok (.aload_n 0, 1) := by decide +kernel
theorem dX1_neighbours_1 : decode cX1_neighbours 1 = .ok (.iload_n 1, 1) := by decide +kernel
theorem dX1_neighbours_2 : decode cX1_neighbours 2 = .ok (.invokestatic 65, 3) := by decide +kernel
theorem dX1_neighbours_5 : decode cX1_neighbours 5 = .ok (.invokevirtual 71, 3) := by decide +kernel
theorem dX1_neighbours_8 : decode cX1_neighbours 8 = .ok (.invokestatic 15, 3) := by decide +kernel
theorem dX1_neighbours_11 : decode cX1_neighbours 11 = .ok (.iconst 1, 1) := by decide +kernel
theorem dX1_neighbours_12 : decode cX1_neighbours 12 = .ok (.isub, 1) := by decide +kernel
theorem dX1_neighbours_13 : decode cX1_neighbours 13 = .ok (.ireturn, 1) := by decide +kernel
set_option maxRecDepth 20000 in
theorem ggX1_flood_X1_near : GoodIn wsX1_flood wsX1_near := goodIn_r _ [5, 6, 7, 8, 9, 10, 11, 12, 13, 14] (by decide +kernel) (by decide +kernel)
set_option maxRecDepth 20000 in
theorem gX1_flood_X1_near : GoodIn wsX1_flood (wsV RX1 71 RX1 yX1_near wsX1_near) := goodIn_app (goodIn_of _ (by decide +kernel)) ggX1_flood_X1_near
theorem dX1_flood_0 : decode cX1_flood 0 = .ok (.lload_n 1, 1) := by decide +kernel
theorem dX1_flood_1 : decode cX1_flood 1 = .ok (.lload_n 3, 1) := by decide +kernel
theorem dX1_flood_2 : decode cX1_flood 2 = .ok (.land, 1) := by decide +kernel
theorem dX1_flood_3 : decode cX1_flood 3 = .ok (.lstore 5, 2) := by decide +kernel
theorem dX1_flood_5 : decode cX1_flood 5 = .ok (.iconst 0, 1) := by decide +kernel
theorem dX1_flood_6 : decode cX1_flood 6 = .ok (.istore 7, 2) := by decide +kernel
theorem dX1_flood_8 : decode cX1_flood 8 = .ok (.iload 7, 2) := by decide +kernel
theorem dX1_flood_10 : decode cX1_flood 10 = .ok (.bipush 36, 2) := by decide +kernel
theorem dX1_flood_12 : decode cX1_flood 12 = .ok (.if_icmp .ge 34, 3) := by decide +kernel
theorem dX1_flood_15 : decode cX1_flood 15 = .ok (.aload_n 0, 1) := by decide +kernel
theorem dX1_flood_16 : decode cX1_flood 16 = .ok (.lload 5, 2) := by decide +kernel
theorem dX1_flood_18 : decode cX1_flood 18 = .ok (.invokevirtual 71, 3) := by decide +kernel
theorem dX1_flood_21 : decode cX1_flood 21 = .ok (.lload_n 3, 1) := by decide +kernel
theorem dX1_flood_22 : decode cX1_flood 22 = .ok (.land, 1) := by decide +kernel
theorem dX1_flood_23 : decode cX1_flood 23 = .ok (.lstore 8, 2) := by decide +kernel
theorem dX1_flood_25 : decode cX1_flood 25 = .ok (.lload 8, 2) := by decide +kernel
theorem dX1_flood_27 : decode cX1_flood 27 = .ok (.lload 5, 2) := by decide +kernel
theorem dX1_flood_29 : decode cX1_flood 29 = .ok (.lcmp, 1) := by decide +kernel
theorem dX1_flood_30 : decode cX1_flood 30 = .ok (.ifCond .ne 6, 3) := by decide +kernel
theorem dX1_flood_33 : decode cX1_flood 33 = .ok (.goto 13, 3) := by decide +kernel
theorem dX1_flood_36 : decode cX1_flood 36 = .ok (.lload 8, 2) := by decide +kernel
theorem dX1_flood_38 : decode cX1_flood 38 = .ok (.lstore 5, 2) := by decide +kernel
theorem dX1_flood_40 : decode cX1_flood 40 = .ok (.iinc 7 1, 3) := by decide +kernel
theorem dX1_flood_43 : decode cX1_flood 43 = .ok (.goto (-35), 3) := by decide +kernel
theorem dX1_flood_46 : decode cX1_flood 46 = .ok (.lload 5, 2) := by decide +kernel
theorem dX1_flood_48 : decode cX1_flood 48 = .ok (.lreturn, 1) := by decide +kernel
set_option maxRecDepth 20000 in
theorem ggX1_partOf_X1_bit : GoodIn wsX1_partOf wsX1_bit := goodIn_r _ [5] (by decide +kernel) (by decide +kernel)
set_option maxRecDepth 20000 in
theorem gX1_partOf_X1_bit : GoodIn wsX1_partOf (va_wsS RX1 65 yX1_bit wsX1_bit) := goodIn_app (goodIn_of _ (by decide +kernel)) ggX1_partOf_X1_bit
set_option maxRecDepth 20000 in
theorem ggX1_partOf_X1_flood : GoodIn wsX1_partOf wsX1_flood := goodIn_r _ [9, 10, 11, 12, 4, 13, 14, 15, 16, 17, 18, 19, 20, 21, 22] (by decide +kernel) (by decide +kernel)
set_option maxRecDepth 20000 in
theorem gX1_partOf_X1_flood : GoodIn wsX1_partOf (wsV RX1 75 RX1 yX1_flood wsX1_flood) := goodIn_app (goodIn_of _ (by decide +kernel)) ggX1_partOf_X1_flood
theorem dX1_partOf_0 : decode cX1_partOf 0 = .ok (.aload_n 0, 1) := by decide +kernel
theorem dX1_partOf_1 : decode cX1_partOf 1 = .ok (.iload_n 1, 1) := by decide +kernel
theorem dX1_partOf_2 : decode cX1_partOf 2 = .ok (.invokestatic 65, 3) := by decide +kernel
theorem dX1_partOf_5 : decode cX1_partOf 5 = .ok (.aload_n 0, 1) := by decide +kernel
theorem dX1_partOf_6 : decode cX1_partOf 6 = .ok (.getfield 35, 3) := by decide +kernel
theorem dX1_partOf_9 : decode cX1_partOf 9 = .ok (.invokevirtual 75, 3) := by decide +kernel
theorem dX1_partOf_12 : decode cX1_partOf 12 = .ok (.lreturn, 1) := by decide +kernel
set_option maxRecDepth 20000 in
theorem ggX1_distance_X1_bit : GoodIn wsX1_distance wsX1_bit := goodIn_r _ [4] (by decide +kernel) (by decide +kernel)
set_option maxRecDepth 20000 in
theorem gX1_distance_X1_bit : GoodIn wsX1_distance (va_wsS RX1 65 yX1_bit wsX1_bit) := goodIn_app (goodIn_of _ (by decide +kernel)) ggX1_distance_X1_bit
set_option maxRecDepth 20000 in
theorem ggX1_distance_X1_has : GoodIn wsX1_distance wsX1_has := goodIn_r _ [7] (by decide +kernel) (by decide +kernel)
set_option maxRecDepth 20000 in
theorem gX1_distance_X1_has : GoodIn wsX1_distance (va_wsS RX1 48 yX1_has wsX1_has) := goodIn_app (goodIn_of _ (by decide +kernel)) ggX1_distance_X1_has
set_option maxRecDepth 20000 in
theorem ggX1_distance_X1_near : GoodIn wsX1_distance wsX1_near := goodIn_r _ [11, 12, 13, 14, 15, 16, 17, 18, 19, 20] (by decide +kernel) (by decide +kernel)
set_option maxRecDepth 20000 in
theorem gX1_distance_X1_near : GoodIn wsX1_distance (wsV RX1 71 RX1 yX1_near wsX1_near) := goodIn_app (goodIn_of _ (by decide +kernel)) ggX1_distance_X1_near
theorem dX1_distance_0 : decode cX1_distance 0 = .ok (.iload_n 1, 1) := by decide +kernel
theorem dX1_distance_1 : decode cX1_distance 1 = .ok (.invokestatic 65, 3) := by decide +kernel
theorem dX1_distance_4 : decode cX1_distance 4 = .ok (.lstore_n 3, 1) := by decide +kernel
theorem dX1_distance_5 : decode cX1_distance 5 = .ok (.iconst 0, 1) := by decide +kernel
theorem dX1_distance_6 : decode cX1_distance 6 = .ok (.istore 5, 2) := by decide +kernel
theorem dX1_distance_8 : decode cX1_distance 8 = .ok (.iload 5, 2) := by decide +kernel
theorem dX1_distance_10 : decode cX1_distance 10 = .ok (.bipush 36, 2) := by decide +kernel
theorem dX1_distance_12 : decode cX1_distance 12 = .ok (.if_icmp .ge 26, 3) := by decide +kernel
theorem dX1_distance_15 : decode cX1_distance 15 = .ok (.lload_n 3, 1) := by decide +kernel
theorem dX1_distance_16 : decode cX1_distance 16 = .ok (.iload_n 2, 1) := by decide +kernel
theorem dX1_distance_17 : decode cX1_distance 17 = .ok (.invokestatic 48, 3) := by decide +kernel
theorem dX1_distance_20 : decode cX1_distance 20 = .ok (.ifCond .eq 6, 3) := by decide +kernel
theorem dX1_distance_23 : decode cX1_distance 23 = .ok (.iload 5, 2) := by decide +kernel
theorem dX1_distance_25 : decode cX1_distance 25 = .ok (.ireturn, 1) := by decide +kernel
theorem dX1_distance_26 : decode cX1_distance 26 = .ok (.aload_n 0, 1) := by decide +kernel
theorem dX1_distance_27 : decode cX1_distance 27 = .ok (.lload_n 3, 1) := by decide +kernel
theorem dX1_distance_28 : decode cX1_distance 28 = .ok (.invokevirtual 71, 3) := by decide +kernel
theorem dX1_distance_31 : decode cX1_distance 31 = .ok (.lstore_n 3, 1) := by decide +kernel
theorem dX1_distance_32 : decode cX1_distance 32 = .ok (.iinc 5 1, 3) := by decide +kernel
theorem dX1_distance_35 : decode cX1_distance 35 = .ok (.goto (-27), 3) := by decide +kernel
theorem dX1_distance_38 : decode cX1_distance 38 = .ok (.bipush (-9), 2) := by decide +kernel
theorem dX1_distance_40 : decode cX1_distance 40 = .ok (.ireturn, 1) := by decide +kernel
set_option maxRecDepth 20000 in
theorem ggX1_turnOf_X1_shutAll : GoodIn wsX1_turnOf wsX1_shutAll := goodIn_r _ [9, 2, 1, 10, 11, 12, 3, 4, 43, 44, 45, 46, 47, 48, 49] (by decide +kernel) (by decide +kernel)
set_option maxRecDepth 20000 in
theorem gX1_turnOf_X1_shutAll : GoodIn wsX1_turnOf (wsV RX1 9 RX1 yX1_shutAll wsX1_shutAll) := goodIn_app (goodIn_of _ (by decide +kernel)) ggX1_turnOf_X1_shutAll
set_option maxRecDepth 20000 in
theorem ggX1_turnOf_X1_isOpen : GoodIn wsX1_turnOf wsX1_isOpen := goodIn_r _ [16, 12, 11, 17, 18, 8, 19, 43, 44, 45, 46, 47, 48, 49] (by decide +kernel) (by decide +kernel)
set_option maxRecDepth 20000 in
theorem gX1_turnOf_X1_isOpen : GoodIn wsX1_turnOf (wsV RX1 52 RX1 yX1_isOpen wsX1_isOpen) := goodIn_app (goodIn_of _ (by decide +kernel)) ggX1_turnOf_X1_isOpen
set_option maxRecDepth 20000 in
theorem ggX1_turnOf_X1_turnedPlace : GoodIn wsX1_turnOf wsX1_turnedPlace := goodIn_r _ [23, 1, 2, 43, 44, 45, 46, 47, 48, 49] (by decide +kernel) (by decide +kernel)
set_option maxRecDepth 20000 in
theorem gX1_turnOf_X1_turnedPlace : GoodIn wsX1_turnOf (wsV RX1 79 RX1 yX1_turnedPlace wsX1_turnedPlace) := goodIn_app (goodIn_of _ (by decide +kernel)) ggX1_turnOf_X1_turnedPlace
set_option maxRecDepth 20000 in
theorem ggX1_turnOf_X1_turnedSide : GoodIn wsX1_turnOf wsX1_turnedSide := goodIn_r _ [26] (by decide +kernel) (by decide +kernel)
set_option maxRecDepth 20000 in
theorem gX1_turnOf_X1_turnedSide : GoodIn wsX1_turnOf (va_wsS RX1 82 yX1_turnedSide wsX1_turnedSide) := goodIn_app (goodIn_of _ (by decide +kernel)) ggX1_turnOf_X1_turnedSide
set_option maxRecDepth 20000 in
theorem ggX1_turnOf_X1_setOpen : GoodIn wsX1_turnOf wsX1_setOpen := goodIn_r _ [30, 31, 32, 33, 34, 11, 35, 12, 36, 37, 38, 8, 39, 10, 17, 18, 19, 40, 41, 42, 43, 44, 45, 46, 47, 48, 49] (by decide +kernel) (by decide +kernel)
set_option maxRecDepth 20000 in
theorem gX1_turnOf_X1_setOpen : GoodIn wsX1_turnOf (wsV RX1 85 RX1 yX1_setOpen wsX1_setOpen) := goodIn_app (goodIn_of _ (by decide +kernel)) ggX1_turnOf_X1_setOpen
theorem dX1_turnOf_0 : decode cX1_turnOf 0 = .ok (.iload_n 2, 1) := by decide +kernel
theorem dX1_turnOf_1 : decode cX1_turnOf 1 = .ok (.iconst 2, 1) := by decide +kernel
theorem dX1_turnOf_2 : decode cX1_turnOf 2 = .ok (.irem, 1) := by decide +kernel
theorem dX1_turnOf_3 : decode cX1_turnOf 3 = .ok (.iconst 1, 1) := by decide +kernel
theorem dX1_turnOf_4 : decode cX1_turnOf 4 = .ok (.if_icmp .ne 7, 3) := by decide +kernel
theorem dX1_turnOf_7 : decode cX1_turnOf 7 = .ok (.iconst 1, 1) := by decide +kernel
theorem dX1_turnOf_8 : decode cX1_turnOf 8 = .ok (.goto 4, 3) := by decide +kernel
theorem dX1_turnOf_11 : decode cX1_turnOf 11 = .ok (.iconst 0, 1) := by decide +kernel
theorem dX1_turnOf_12 : decode cX1_turnOf 12 = .ok (.istore_n 3, 1) := by decide +kernel
theorem dX1_turnOf_13 : decode cX1_turnOf 13 = .ok (.aload_n 0, 1) := by decide +kernel
theorem dX1_turnOf_14 : decode cX1_turnOf 14 = .ok (.iload_n 3, 1) := by decide +kernel
theorem dX1_turnOf_15 : decode cX1_turnOf 15 = .ok (.ifCond .eq 10, 3) := by decide +kernel
theorem dX1_turnOf_18 : decode cX1_turnOf 18 = .ok (.aload_n 1, 1) := by decide +kernel
theorem dX1_turnOf_19 : decode cX1_turnOf 19 = .ok (.getfield 25, 3) := by decide +kernel
theorem dX1_turnOf_22 : decode cX1_turnOf 22 = .ok (.goto 7, 3) := by decide +kernel
theorem dX1_turnOf_25 : decode cX1_turnOf 25 = .ok (.aload_n 1, 1) := by decide +kernel
theorem dX1_turnOf_26 : decode cX1_turnOf 26 = .ok (.getfield 21, 3) := by decide +kernel
theorem dX1_turnOf_29 : decode cX1_turnOf 29 = .ok (.iload_n 3, 1) := by decide +kernel
theorem dX1_turnOf_30 : decode cX1_turnOf 30 = .ok (.ifCond .eq 10, 3) := by decide +kernel
theorem dX1_turnOf_33 : decode cX1_turnOf 33 = .ok (.aload_n 1, 1) := by decide +kernel
theorem dX1_turnOf_34 : decode cX1_turnOf 34 = .ok (.getfield 21, 3) := by decide +kernel
theorem dX1_turnOf_37 : decode cX1_turnOf 37 = .ok (.goto 7, 3) := by decide +kernel
theorem dX1_turnOf_40 : decode cX1_turnOf 40 = .ok (.aload_n 1, 1) := by decide +kernel
theorem dX1_turnOf_41 : decode cX1_turnOf 41 = .ok (.getfield 25, 3) := by decide +kernel
theorem dX1_turnOf_44 : decode cX1_turnOf 44 = .ok (.invokevirtual 9, 3) := by decide +kernel
theorem dX1_turnOf_47 : decode cX1_turnOf 47 = .ok (.iconst 0, 1) := by decide +kernel
theorem dX1_turnOf_48 : decode cX1_turnOf 48 = .ok (.istore 4, 2) := by decide +kernel
theorem dX1_turnOf_50 : decode cX1_turnOf 50 = .ok (.iload 4, 2) := by decide +kernel
theorem dX1_turnOf_52 : decode cX1_turnOf 52 = .ok (.bipush 48, 2) := by decide +kernel
theorem dX1_turnOf_54 : decode cX1_turnOf 54 = .ok (.if_icmp .ge 53, 3) := by decide +kernel
theorem dX1_turnOf_57 : decode cX1_turnOf 57 = .ok (.iconst 1, 1) := by decide +kernel
theorem dX1_turnOf_58 : decode cX1_turnOf 58 = .ok (.istore 5, 2) := by decide +kernel
theorem dX1_turnOf_60 : decode cX1_turnOf 60 = .ok (.iload 5, 2) := by decide +kernel
theorem dX1_turnOf_62 : decode cX1_turnOf 62 = .ok (.iconst 2, 1) := by decide +kernel
theorem dX1_turnOf_63 : decode cX1_turnOf 63 = .ok (.if_icmp .gt 38, 3) := by decide +kernel
theorem dX1_turnOf_66 : decode cX1_turnOf 66 = .ok (.aload_n 1, 1) := by decide +kernel
theorem dX1_turnOf_67 : decode cX1_turnOf 67 = .ok (.iload 4, 2) := by decide +kernel
theorem dX1_turnOf_69 : decode cX1_turnOf 69 = .ok (.iload 5, 2) := by decide +kernel
theorem dX1_turnOf_71 : decode cX1_turnOf 71 = .ok (.invokevirtual 52, 3) := by decide +kernel
theorem dX1_turnOf_74 : decode cX1_turnOf 74 = .ok (.ifCond .eq 21, 3) := by decide +kernel
theorem dX1_turnOf_77 : decode cX1_turnOf 77 = .ok (.aload_n 0, 1) := by decide +kernel
theorem dX1_turnOf_78 : decode cX1_turnOf 78 = .ok (.aload_n 1, 1) := by decide +kernel
theorem dX1_turnOf_79 : decode cX1_turnOf 79 = .ok (.iload 4, 2) := by decide +kernel
theorem dX1_turnOf_81 : decode cX1_turnOf 81 = .ok (.iload_n 2, 1) := by decide +kernel
theorem dX1_turnOf_82 : decode cX1_turnOf 82 = .ok (.invokevirtual 79, 3) := by decide +kernel
theorem dX1_turnOf_85 : decode cX1_turnOf 85 = .ok (.iload 5, 2) := by decide +kernel
theorem dX1_turnOf_87 : decode cX1_turnOf 87 = .ok (.iload_n 2, 1) := by decide +kernel
theorem dX1_turnOf_88 : decode cX1_turnOf 88 = .ok (.invokestatic 82, 3) := by decide +kernel
theorem dX1_turnOf_91 : decode cX1_turnOf 91 = .ok (.iconst 1, 1) := by decide +kernel
theorem dX1_turnOf_92 : decode cX1_turnOf 92 = .ok (.invokevirtual 85, 3) := by decide +kernel
theorem dX1_turnOf_95 : decode cX1_turnOf 95 = .ok (.iinc 5 1, 3) := by decide +kernel
theorem dX1_turnOf_98 : decode cX1_turnOf 98 = .ok (.goto (-38), 3) := by decide +kernel
theorem dX1_turnOf_101 : decode cX1_turnOf 101 = .ok (.iinc 4 1, 3) := by decide +kernel
theorem dX1_turnOf_104 : decode cX1_turnOf 104 = .ok (.goto (-54), 3) := by decide +kernel
theorem dX1_turnOf_107 : decode cX1_turnOf 107 = .ok (.aload_n 0, 1) := by decide +kernel
theorem dX1_turnOf_108 : decode cX1_turnOf 108 = .ok (.aload_n 1, 1) := by decide +kernel
theorem dX1_turnOf_109 : decode cX1_turnOf 109 = .ok (.aload_n 1, 1) := by decide +kernel
theorem dX1_turnOf_110 : decode cX1_turnOf 110 = .ok (.getfield 38, 3) := by decide +kernel
theorem dX1_turnOf_113 : decode cX1_turnOf 113 = .ok (.iload_n 2, 1) := by decide +kernel
theorem dX1_turnOf_114 : decode cX1_turnOf 114 = .ok (.invokevirtual 79, 3) := by decide +kernel
theorem dX1_turnOf_117 : decode cX1_turnOf 117 = .ok (.putfield 38, 3) := by decide +kernel
theorem dX1_turnOf_120 : decode cX1_turnOf 120 = .ok (.aload_n 0, 1) := by decide +kernel
theorem dX1_turnOf_121 : decode cX1_turnOf 121 = .ok (.aload_n 1, 1) := by decide +kernel
theorem dX1_turnOf_122 : decode cX1_turnOf 122 = .ok (.aload_n 1, 1) := by decide +kernel
theorem dX1_turnOf_123 : decode cX1_turnOf 123 = .ok (.getfield 41, 3) := by decide +kernel
theorem dX1_turnOf_126 : decode cX1_turnOf 126 = .ok (.iload_n 2, 1) := by decide +kernel
theorem dX1_turnOf_127 : decode cX1_turnOf 127 = .ok (.invokevirtual 79, 3) := by decide +kernel
theorem dX1_turnOf_130 : decode cX1_turnOf 130 = .ok (.putfield 41, 3) := by decide +kernel
theorem dX1_turnOf_133 : decode cX1_turnOf 133 = .ok (.return_, 1) := by decide +kernel
theorem dX1_turnedPlace_0 : decode cX1_turnedPlace 0 = .ok (.iload_n 1, 1) := by decide +kernel
theorem dX1_turnedPlace_1 : decode cX1_turnedPlace 1 = .ok (.bipush 8, 2) := by decide +kernel
theorem dX1_turnedPlace_3 : decode cX1_turnedPlace 3 = .ok (.idiv, 1) := by decide +kernel
theorem dX1_turnedPlace_4 : decode cX1_turnedPlace 4 = .ok (.istore_n 3, 1) := by decide +kernel
theorem dX1_turnedPlace_5 : decode cX1_turnedPlace 5 = .ok (.iload_n 2, 1) := by decide +kernel
theorem dX1_turnedPlace_6 : decode cX1_turnedPlace 6 = .ok (.iconst 4, 1) := by decide +kernel
theorem dX1_turnedPlace_7 : decode cX1_turnedPlace 7 = .ok (.if_icmp .lt 17, 3) := by decide +kernel
theorem dX1_turnedPlace_10 : decode cX1_turnedPlace 10 = .ok (.aload_n 0, 1) := by decide +kernel
theorem dX1_turnedPlace_11 : decode cX1_turnedPlace 11 = .ok (.getfield 25, 3) := by decide +kernel
theorem dX1_turnedPlace_14 : decode cX1_turnedPlace 14 = .ok (.iconst 1, 1) := by decide +kernel
theorem dX1_turnedPlace_15 : decode cX1_turnedPlace 15 = .ok (.isub, 1) := by decide +kernel
theorem dX1_turnedPlace_16 : decode cX1_turnedPlace 16 = .ok (.iload_n 1, 1) := by decide +kernel
theorem dX1_turnedPlace_17 : decode cX1_turnedPlace 17 = .ok (.bipush 8, 2) := by decide +kernel
theorem dX1_turnedPlace_19 : decode cX1_turnedPlace 19 = .ok (.irem, 1) := by decide +kernel
theorem dX1_turnedPlace_20 : decode cX1_turnedPlace 20 = .ok (.isub, 1) := by decide +kernel
theorem dX1_turnedPlace_21 : decode cX1_turnedPlace 21 = .ok (.goto 7, 3) := by decide +kernel
theorem dX1_turnedPlace_24 : decode cX1_turnedPlace 24 = .ok (.iload_n 1, 1) := by decide +kernel
theorem dX1_turnedPlace_25 : decode cX1_turnedPlace 25 = .ok (.bipush 8, 2) := by decide +kernel
theorem dX1_turnedPlace_27 : decode cX1_turnedPlace 27 = .ok (.irem, 1) := by decide +kernel
theorem dX1_turnedPlace_28 : decode cX1_turnedPlace 28 = .ok (.istore 4, 2) := by decide +kernel
theorem dX1_turnedPlace_30 : decode cX1_turnedPlace 30 = .ok (.iload_n 2, 1) := by decide +kernel
theorem dX1_turnedPlace_31 : decode cX1_turnedPlace 31 = .ok (.iconst 4, 1) := by decide +kernel
theorem dX1_turnedPlace_32 : decode cX1_turnedPlace 32 = .ok (.irem, 1) := by decide +kernel
theorem dX1_turnedPlace_33 : decode cX1_turnedPlace 33 = .ok (.tableswitch 79 1 3 #[27, 42, 64], 27) := by decide +kernel
theorem dX1_turnedPlace_60 : decode cX1_turnedPlace 60 = .ok (.iload 4, 2) := by decide +kernel
theorem dX1_turnedPlace_62 : decode cX1_turnedPlace 62 = .ok (.bipush 8, 2) := by decide +kernel
theorem dX1_turnedPlace_64 : decode cX1_turnedPlace 64 = .ok (.imul, 1) := by decide +kernel
theorem dX1_turnedPlace_65 : decode cX1_turnedPlace 65 = .ok (.aload_n 0, 1) := by decide +kernel
theorem dX1_turnedPlace_66 : decode cX1_turnedPlace 66 = .ok (.getfield 21, 3) := by decide +kernel
theorem dX1_turnedPlace_69 : decode cX1_turnedPlace 69 = .ok (.iadd, 1) := by decide +kernel
theorem dX1_turnedPlace_70 : decode cX1_turnedPlace 70 = .ok (.iconst 1, 1) := by decide +kernel
theorem dX1_turnedPlace_71 : decode cX1_turnedPlace 71 = .ok (.isub, 1) := by decide +kernel
theorem dX1_turnedPlace_72 : decode cX1_turnedPlace 72 = .ok (.iload_n 3, 1) := by decide +kernel
theorem dX1_turnedPlace_73 : decode cX1_turnedPlace 73 = .ok (.isub, 1) := by decide +kernel
theorem dX1_turnedPlace_74 : decode cX1_turnedPlace 74 = .ok (.ireturn, 1) := by decide +kernel
theorem dX1_turnedPlace_75 : decode cX1_turnedPlace 75 = .ok (.aload_n 0, 1) := by decide +kernel
theorem dX1_turnedPlace_76 : decode cX1_turnedPlace 76 = .ok (.getfield 21, 3) := by decide +kernel
theorem dX1_turnedPlace_79 : decode cX1_turnedPlace 79 = .ok (.iconst 1, 1) := by decide +kernel
theorem dX1_turnedPlace_80 : decode cX1_turnedPlace 80 = .ok (.isub, 1) := by decide +kernel
theorem dX1_turnedPlace_81 : decode cX1_turnedPlace 81 = .ok (.iload_n 3, 1) := by decide +kernel
theorem dX1_turnedPlace_82 : decode cX1_turnedPlace 82 = .ok (.isub, 1) := by decide +kernel
theorem dX1_turnedPlace_83 : decode cX1_turnedPlace 83 = .ok (.bipush 8, 2) := by decide +kernel
theorem dX1_turnedPlace_85 : decode cX1_turnedPlace 85 = .ok (.imul, 1) := by decide +kernel
theorem dX1_turnedPlace_86 : decode cX1_turnedPlace 86 = .ok (.aload_n 0, 1) := by decide +kernel
theorem dX1_turnedPlace_87 : decode cX1_turnedPlace 87 = .ok (.getfield 25, 3) := by decide +kernel
theorem dX1_turnedPlace_90 : decode cX1_turnedPlace 90 = .ok (.iadd, 1) := by decide +kernel
theorem dX1_turnedPlace_91 : decode cX1_turnedPlace 91 = .ok (.iconst 1, 1) := by decide +kernel
theorem dX1_turnedPlace_92 : decode cX1_turnedPlace 92 = .ok (.isub, 1) := by decide +kernel
theorem dX1_turnedPlace_93 : decode cX1_turnedPlace 93 = .ok (.iload 4, 2) := by decide +kernel
theorem dX1_turnedPlace_95 : decode cX1_turnedPlace 95 = .ok (.isub, 1) := by decide +kernel
theorem dX1_turnedPlace_96 : decode cX1_turnedPlace 96 = .ok (.ireturn, 1) := by decide +kernel
theorem dX1_turnedPlace_97 : decode cX1_turnedPlace 97 = .ok (.aload_n 0, 1) := by decide +kernel
theorem dX1_turnedPlace_98 : decode cX1_turnedPlace 98 = .ok (.getfield 25, 3) := by decide +kernel
theorem dX1_turnedPlace_101 : decode cX1_turnedPlace 101 = .ok (.iconst 1, 1) := by decide +kernel
theorem dX1_turnedPlace_102 : decode cX1_turnedPlace 102 = .ok (.isub, 1) := by decide +kernel
theorem dX1_turnedPlace_103 : decode cX1_turnedPlace 103 = .ok (.iload 4, 2) := by decide +kernel
theorem dX1_turnedPlace_105 : decode cX1_turnedPlace 105 = .ok (.isub, 1) := by decide +kernel
theorem dX1_turnedPlace_106 : decode cX1_turnedPlace 106 = .ok (.bipush 8, 2) := by decide +kernel
theorem dX1_turnedPlace_108 : decode cX1_turnedPlace 108 = .ok (.imul, 1) := by decide +kernel
theorem dX1_turnedPlace_109 : decode cX1_turnedPlace 109 = .ok (.iload_n 3, 1) := by decide +kernel
theorem dX1_turnedPlace_110 : decode cX1_turnedPlace 110 = .ok (.iadd, 1) := by decide +kernel
theorem dX1_turnedPlace_111 : decode cX1_turnedPlace 111 = .ok (.ireturn, 1) := by decide +kernel
theorem dX1_turnedPlace_112 : decode cX1_turnedPlace 112 = .ok (.iload_n 3, 1) := by decide +kernel
theorem dX1_turnedPlace_113 : decode cX1_turnedPlace 113 = .ok (.bipush 8, 2) := by decide +kernel
theorem dX1_turnedPlace_115 : decode cX1_turnedPlace 115 = .ok (.imul, 1) := by decide +kernel
theorem dX1_turnedPlace_116 : decode cX1_turnedPlace 116 = .ok (.iload 4, 2) := by decide +kernel
theorem dX1_turnedPlace_118 : decode cX1_turnedPlace 118 = .ok (.iadd, 1) := by decide +kernel
theorem dX1_turnedPlace_119 : decode cX1_turnedPlace 119 = .ok (.ireturn, 1) := by decide +kernel
theorem dX1_turnedSide_0 : decode cX1_turnedSide 0 = .ok (.iload_n 1, 1) := by decide +kernel
theorem dX1_turnedSide_1 : decode cX1_turnedSide 1 = .ok (.iconst 4, 1) := by decide +kernel
theorem dX1_turnedSide_2 : decode cX1_turnedSide 2 = .ok (.if_icmp .lt 9, 3) := by decide +kernel
theorem dX1_turnedSide_5 : decode cX1_turnedSide 5 = .ok (.iconst 4, 1) := by decide +kernel
theorem dX1_turnedSide_6 : decode cX1_turnedSide 6 = .ok (.iload_n 0, 1) := by decide +kernel
theorem dX1_turnedSide_7 : decode cX1_turnedSide 7 = .ok (.isub, 1) := by decide +kernel
theorem dX1_turnedSide_8 : decode cX1_turnedSide 8 = .ok (.goto 4, 3) := by decide +kernel
theorem dX1_turnedSide_11 : decode cX1_turnedSide 11 = .ok (.iload_n 0, 1) := by decide +kernel
theorem dX1_turnedSide_12 : decode cX1_turnedSide 12 = .ok (.istore_n 2, 1) := by decide +kernel
theorem dX1_turnedSide_13 : decode cX1_turnedSide 13 = .ok (.iload_n 2, 1) := by decide +kernel
theorem dX1_turnedSide_14 : decode cX1_turnedSide 14 = .ok (.iload_n 1, 1) := by decide +kernel
theorem dX1_turnedSide_15 : decode cX1_turnedSide 15 = .ok (.iadd, 1) := by decide +kernel
theorem dX1_turnedSide_16 : decode cX1_turnedSide 16 = .ok (.iconst 4, 1) := by decide +kernel
theorem dX1_turnedSide_17 : decode cX1_turnedSide 17 = .ok (.irem, 1) := by decide +kernel
theorem dX1_turnedSide_18 : decode cX1_turnedSide 18 = .ok (.ireturn, 1) := by decide +kernel
theorem dX2_init_0 : decode cX2_init 0 = .ok (.aload_n 0, 1) := by decide +kernel
theorem dX2_init_1 : decode cX2_init 1 = .ok (.invokespecial 3, 3) := by decide +kernel
theorem dX2_init_4 : decode cX2_init 4 = .ok (.aload_n 0, 1) := by decide +kernel
theorem dX2_init_5 : decode cX2_init 5 = .ok (.aload_n 1, 1) := by decide +kernel
theorem dX2_init_6 : decode cX2_init 6 = .ok (.putfield 9, 3) := by decide +kernel
theorem dX2_init_9 : decode cX2_init 9 = .ok (.aload_n 0, 1) := by decide +kernel
theorem dX2_init_10 : decode cX2_init 10 = .ok (.bipush 48, 2) := by decide +kernel
theorem dX2_init_12 : decode cX2_init 12 = .ok (.newarray .long, 2) := by decide +kernel
theorem dX2_init_14 : decode cX2_init 14 = .ok (.putfield 15, 3) := by decide +kernel
theorem dX2_init_17 : decode cX2_init 17 = .ok (.aload_n 0, 1) := by decide +kernel
theorem dX2_init_18 : decode cX2_init 18 = .ok (.bipush 48, 2) := by decide +kernel
theorem dX2_init_20 : decode cX2_init 20 = .ok (.newarray .long, 2) := by decide +kernel
theorem dX2_init_22 : decode cX2_init 22 = .ok (.putfield 19, 3) := by decide +kernel
theorem dX2_init_25 : decode cX2_init 25 = .ok (.return_, 1) := by decide +kernel
set_option maxRecDepth 20000 in
theorem ggX2_turnsTillWon_X2_beginWith : GoodIn wsX2_turnsTillWon wsX2_beginWith := goodIn_r _ [8, 3, 9, 10, 11, 12, 51, 52, 53] (by decide +kernel) (by decide +kernel)
set_option maxRecDepth 20000 in
theorem gX2_turnsTillWon_X2_beginWith : GoodIn wsX2_turnsTillWon (wsV RX2 28 RX2 yX2_beginWith wsX2_beginWith) := goodIn_app (goodIn_of _ (by decide +kernel)) ggX2_turnsTillWon_X2_beginWith
set_option maxRecDepth 20000 in
theorem ggX2_turnsTillWon_X2_lookBackOverHunter : GoodIn wsX2_turnsTillWon wsX2_lookBackOverHunter := goodIn_r _ [16, 1, 2, 17, 18, 19, 3, 9, 10, 11, 12, 20, 21, 22, 23, 24, 25, 51, 52, 53, 54, 55, 56, 57, 58, 59, 60] (by decide +kernel) (by decide +kernel)
set_option maxRecDepth 20000 in
theorem gX2_turnsTillWon_X2_lookBackOverHunter : GoodIn wsX2_turnsTillWon (wsV RX2 32 RX2 yX2_lookBackOverHunter wsX2_lookBackOverHunter) := goodIn_app (goodIn_of _ (by decide +kernel)) ggX2_turnsTillWon_X2_lookBackOverHunter
set_option maxRecDepth 20000 in
theorem ggX2_turnsTillWon_X2_lookBackOverRunner : GoodIn wsX2_turnsTillWon wsX2_lookBackOverRunner := goodIn_r _ [29, 1, 18, 19, 3, 30, 31, 11, 32, 33, 34, 35, 7, 36, 17, 37, 38, 39, 40, 41, 42, 43, 44, 25, 24, 45, 46, 47, 48, 49, 50, 9, 10, 12, 51, 52, 53, 54, 55, 56, 57, 58, 59, 60] (by decide +kernel) (by decide +kernel)
set_option maxRecDepth 20000 in
theorem gX2_turnsTillWon_X2_lookBackOverRunner : GoodIn wsX2_turnsTillWon (wsV RX2 35 RX2 yX2_lookBackOverRunner wsX2_lookBackOverRunner) := goodIn_app (goodIn_of _ (by decide +kernel)) ggX2_turnsTillWon_X2_lookBackOverRunner
set_option maxRecDepth 20000 in
theorem ggX2_turnsTillWon_X1_has : GoodIn wsX2_turnsTillWon wsX1_has := goodIn_r _ [32] (by decide +kernel) (by decide +kernel)
set_option maxRecDepth 20000 in
theorem gX2_turnsTillWon_X1_has : GoodIn wsX2_turnsTillWon (va_wsS RX2 39 yX1_has wsX1_has) := goodIn_app (goodIn_of _ (by decide +kernel)) ggX2_turnsTillWon_X1_has
theorem dX2_turnsTillWon_0 : decode cX2_turnsTillWon 0 = .ok (.iload_n 1, 1) := by decide +kernel
theorem dX2_turnsTillWon_1 : decode cX2_turnsTillWon 1 = .ok (.aload_n 0, 1) := by decide +kernel
theorem dX2_turnsTillWon_2 : decode cX2_turnsTillWon 2 = .ok (.getfield 9, 3) := by decide +kernel
theorem dX2_turnsTillWon_5 : decode cX2_turnsTillWon 5 = .ok (.getfield 22, 3) := by decide +kernel
theorem dX2_turnsTillWon_8 : decode cX2_turnsTillWon 8 = .ok (.if_icmp .ne 14, 3) := by decide +kernel
theorem dX2_turnsTillWon_11 : decode cX2_turnsTillWon 11 = .ok (.iload_n 3, 1) := by decide +kernel
theorem dX2_turnsTillWon_12 : decode cX2_turnsTillWon 12 = .ok (.ifCond .eq 7, 3) := by decide +kernel
theorem dX2_turnsTillWon_15 : decode cX2_turnsTillWon 15 = .ok (.iconst 0, 1) := by decide +kernel
theorem dX2_turnsTillWon_16 : decode cX2_turnsTillWon 16 = .ok (.goto 5, 3) := by decide +kernel
theorem dX2_turnsTillWon_19 : decode cX2_turnsTillWon 19 = .ok (.bipush (-9), 2) := by decide +kernel
theorem dX2_turnsTillWon_21 : decode cX2_turnsTillWon 21 = .ok (.ireturn, 1) := by decide +kernel
theorem dX2_turnsTillWon_22 : decode cX2_turnsTillWon 22 = .ok (.iload_n 1, 1) := by decide +kernel
theorem dX2_turnsTillWon_23 : decode cX2_turnsTillWon 23 = .ok (.iload_n 2, 1) := by decide +kernel
theorem dX2_turnsTillWon_24 : decode cX2_turnsTillWon 24 = .ok (.if_icmp .eq 13, 3) := by decide +kernel
theorem dX2_turnsTillWon_27 : decode cX2_turnsTillWon 27 = .ok (.iload_n 1, 1) := by decide +kernel
theorem dX2_turnsTillWon_28 : decode cX2_turnsTillWon 28 = .ok (.ifCond .lt 9, 3) := by decide +kernel
theorem dX2_turnsTillWon_31 : decode cX2_turnsTillWon 31 = .ok (.iload_n 1, 1) := by decide +kernel
theorem dX2_turnsTillWon_32 : decode cX2_turnsTillWon 32 = .ok (.bipush 48, 2) := by decide +kernel
theorem dX2_turnsTillWon_34 : decode cX2_turnsTillWon 34 = .ok (.if_icmp .lt 14, 3) := by decide +kernel
theorem dX2_turnsTillWon_37 : decode cX2_turnsTillWon 37 = .ok (.iload_n 3, 1) := by decide +kernel
theorem dX2_turnsTillWon_38 : decode cX2_turnsTillWon 38 = .ok (.ifCond .eq 8, 3) := by decide +kernel
theorem dX2_turnsTillWon_41 : decode cX2_turnsTillWon 41 = .ok (.bipush (-9), 2) := by decide +kernel
theorem dX2_turnsTillWon_43 : decode cX2_turnsTillWon 43 = .ok (.goto 4, 3) := by decide +kernel
theorem dX2_turnsTillWon_46 : decode cX2_turnsTillWon 46 = .ok (.iconst 0, 1) := by decide +kernel
theorem dX2_turnsTillWon_47 : decode cX2_turnsTillWon 47 = .ok (.ireturn, 1) := by decide +kernel
theorem dX2_turnsTillWon_48 : decode cX2_turnsTillWon 48 = .ok (.aload_n 0, 1) := by decide +kernel
theorem dX2_turnsTillWon_49 : decode cX2_turnsTillWon 49 = .ok (.iload_n 3, 1) := by decide +kernel
theorem dX2_turnsTillWon_50 : decode cX2_turnsTillWon 50 = .ok (.invokevirtual 28, 3) := by decide +kernel
theorem dX2_turnsTillWon_53 : decode cX2_turnsTillWon 53 = .ok (.iconst 1, 1) := by decide +kernel
theorem dX2_turnsTillWon_54 : decode cX2_turnsTillWon 54 = .ok (.istore 4, 2) := by decide +kernel
theorem dX2_turnsTillWon_56 : decode cX2_turnsTillWon 56 = .ok (.iload 4, 2) := by decide +kernel
theorem dX2_turnsTillWon_58 : decode cX2_turnsTillWon 58 = .ok (.sipush 1296, 3) := by decide +kernel
theorem dX2_turnsTillWon_61 : decode cX2_turnsTillWon 61 = .ok (.if_icmp .gt 45, 3) := by decide +kernel
theorem dX2_turnsTillWon_64 : decode cX2_turnsTillWon 64 = .ok (.aload_n 0, 1) := by decide +kernel
theorem dX2_turnsTillWon_65 : decode cX2_turnsTillWon 65 = .ok (.iload_n 3, 1) := by decide +kernel
theorem dX2_turnsTillWon_66 : decode cX2_turnsTillWon 66 = .ok (.invokevirtual 32, 3) := by decide +kernel
theorem dX2_turnsTillWon_69 : decode cX2_turnsTillWon 69 = .ok (.aload_n 0, 1) := by decide +kernel
theorem dX2_turnsTillWon_70 : decode cX2_turnsTillWon 70 = .ok (.iload_n 3, 1) := by decide +kernel
theorem dX2_turnsTillWon_71 : decode cX2_turnsTillWon 71 = .ok (.invokevirtual 35, 3) := by decide +kernel
theorem dX2_turnsTillWon_74 : decode cX2_turnsTillWon 74 = .ok (.istore 5, 2) := by decide +kernel
theorem dX2_turnsTillWon_76 : decode cX2_turnsTillWon 76 = .ok (.aload_n 0, 1) := by decide +kernel
theorem dX2_turnsTillWon_77 : decode cX2_turnsTillWon 77 = .ok (.getfield 15, 3) := by decide +kernel
theorem dX2_turnsTillWon_80 : decode cX2_turnsTillWon 80 = .ok (.iload_n 1, 1) := by decide +kernel
theorem dX2_turnsTillWon_81 : decode cX2_turnsTillWon 81 = .ok (.laload, 1) := by decide +kernel
theorem dX2_turnsTillWon_82 : decode cX2_turnsTillWon 82 = .ok (.iload_n 2, 1) := by decide +kernel
theorem dX2_turnsTillWon_83 : decode cX2_turnsTillWon 83 = .ok (.invokestatic 39, 3) := by decide +kernel
theorem dX2_turnsTillWon_86 : decode cX2_turnsTillWon 86 = .ok (.ifCond .eq 6, 3) := by decide +kernel
theorem dX2_turnsTillWon_89 : decode cX2_turnsTillWon 89 = .ok (.iload 4, 2) := by decide +kernel
theorem dX2_turnsTillWon_91 : decode cX2_turnsTillWon 91 = .ok (.ireturn, 1) := by decide +kernel
theorem dX2_turnsTillWon_92 : decode cX2_turnsTillWon 92 = .ok (.iload 5, 2) := by decide +kernel
theorem dX2_turnsTillWon_94 : decode cX2_turnsTillWon 94 = .ok (.ifCond .ne 6, 3) := by decide +kernel
theorem dX2_turnsTillWon_97 : decode cX2_turnsTillWon 97 = .ok (.bipush (-9), 2) := by decide +kernel
theorem dX2_turnsTillWon_99 : decode cX2_turnsTillWon 99 = .ok (.ireturn, 1) := by decide +kernel
theorem dX2_turnsTillWon_100 : decode cX2_turnsTillWon 100 = .ok (.iinc 4 1, 3) := by decide +kernel
theorem dX2_turnsTillWon_103 : decode cX2_turnsTillWon 103 = .ok (.goto (-47), 3) := by decide +kernel
theorem dX2_turnsTillWon_106 : decode cX2_turnsTillWon 106 = .ok (.bipush (-9), 2) := by decide +kernel
theorem dX2_turnsTillWon_108 : decode cX2_turnsTillWon 108 = .ok (.ireturn, 1) := by decide +kernel
set_option maxRecDepth 20000 in
theorem ggX2_beginWith_X1_bit : GoodIn wsX2_beginWith wsX1_bit := goodIn_r _ [5] (by decide +kernel) (by decide +kernel)
set_option maxRecDepth 20000 in
theorem gX2_beginWith_X1_bit : GoodIn wsX2_beginWith (va_wsS RX2 43 yX1_bit wsX1_bit) := goodIn_app (goodIn_of _ (by decide +kernel)) ggX2_beginWith_X1_bit
theorem dX2_beginWith_0 : decode cX2_beginWith 0 = .ok (.iconst 0, 1) := by decide +kernel
theorem dX2_beginWith_1 : decode cX2_beginWith 1 = .ok (.istore_n 2, 1) := by decide +kernel
theorem dX2_beginWith_2 : decode cX2_beginWith 2 = .ok (.iload_n 2, 1) := by decide +kernel
theorem dX2_beginWith_3 : decode cX2_beginWith 3 = .ok (.bipush 48, 2) := by decide +kernel
theorem dX2_beginWith_5 : decode cX2_beginWith 5 = .ok (.if_icmp .ge 27, 3) := by decide +kernel
theorem dX2_beginWith_8 : decode cX2_beginWith 8 = .ok (.aload_n 0, 1) := by decide +kernel
theorem dX2_beginWith_9 : decode cX2_beginWith 9 = .ok (.getfield 15, 3) := by decide +kernel
theorem dX2_beginWith_12 : decode cX2_beginWith 12 = .ok (.iload_n 2, 1) := by decide +kernel
theorem dX2_beginWith_13 : decode cX2_beginWith 13 = .ok (.iload_n 1, 1) := by decide +kernel
theorem dX2_beginWith_14 : decode cX2_beginWith 14 = .ok (.ifCond .eq 7, 3) := by decide +kernel
theorem dX2_beginWith_17 : decode cX2_beginWith 17 = .ok (.lconst 0, 1) := by decide +kernel
theorem dX2_beginWith_18 : decode cX2_beginWith 18 = .ok (.goto 7, 3) := by decide +kernel
theorem dX2_beginWith_21 : decode cX2_beginWith 21 = .ok (.iload_n 2, 1) := by decide +kernel
theorem dX2_beginWith_22 : decode cX2_beginWith 22 = .ok (.invokestatic 43, 3) := by decide +kernel
theorem dX2_beginWith_25 : decode cX2_beginWith 25 = .ok (.lastore, 1) := by decide +kernel
theorem dX2_beginWith_26 : decode cX2_beginWith 26 = .ok (.iinc 2 1, 3) := by decide +kernel
theorem dX2_beginWith_29 : decode cX2_beginWith 29 = .ok (.goto (-27), 3) := by decide +kernel
theorem dX2_beginWith_32 : decode cX2_beginWith 32 = .ok (.return_, 1) := by decide +kernel
set_option maxRecDepth 20000 in
theorem ggX2_lookBackOverHunter_X1_bit : GoodIn wsX2_lookBackOverHunter wsX1_bit := goodIn_r _ [10] (by decide +kernel) (by decide +kernel)
set_option maxRecDepth 20000 in
theorem gX2_lookBackOverHunter_X1_bit : GoodIn wsX2_lookBackOverHunter (va_wsS RX2 43 yX1_bit wsX1_bit) := goodIn_app (goodIn_of _ (by decide +kernel)) ggX2_lookBackOverHunter_X1_bit
set_option maxRecDepth 20000 in
theorem ggX2_lookBackOverHunter_X1_near : GoodIn wsX2_lookBackOverHunter wsX1_near := goodIn_r _ [14, 15, 16, 20, 21, 22, 23, 24, 25, 26] (by decide +kernel) (by decide +kernel)
set_option maxRecDepth 20000 in
theorem gX2_lookBackOverHunter_X1_near : GoodIn wsX2_lookBackOverHunter (wsV RX2 53 RX1 yX1_near wsX1_near) := goodIn_app (goodIn_of _ (by decide +kernel)) ggX2_lookBackOverHunter_X1_near
theorem dX2_lookBackOverHunter_0 : decode cX2_lookBackOverHunter 0 = .ok (.iconst 0, 1) := by decide +kernel
theorem dX2_lookBackOverHunter_1 : decode cX2_lookBackOverHunter 1 = .ok (.istore_n 2, 1) := by decide +kernel
theorem dX2_lookBackOverHunter_2 : decode cX2_lookBackOverHunter 2 = .ok (.iload_n 2, 1) := by decide +kernel
theorem dX2_lookBackOverHunter_3 : decode cX2_lookBackOverHunter 3 = .ok (.bipush 48, 2) := by decide +kernel
theorem dX2_lookBackOverHunter_5 : decode cX2_lookBackOverHunter 5 = .ok (.if_icmp .ge 125, 3) := by decide +kernel
theorem dX2_lookBackOverHunter_8 : decode cX2_lookBackOverHunter 8 = .ok (.iload_n 2, 1) := by decide +kernel
theorem dX2_lookBackOverHunter_9 : decode cX2_lookBackOverHunter 9 = .ok (.aload_n 0, 1) := by decide +kernel
theorem dX2_lookBackOverHunter_10 : decode cX2_lookBackOverHunter 10 = .ok (.getfield 9, 3) := by decide +kernel
theorem dX2_lookBackOverHunter_13 : decode cX2_lookBackOverHunter 13 = .ok (.getfield 22, 3) := by decide +kernel
theorem dX2_lookBackOverHunter_16 : decode cX2_lookBackOverHunter 16 = .ok (.if_icmp .ne 39, 3) := by decide +kernel
theorem dX2_lookBackOverHunter_19 : decode cX2_lookBackOverHunter 19 = .ok (.aload_n 0, 1) := by decide +kernel
theorem dX2_lookBackOverHunter_20 : decode cX2_lookBackOverHunter 20 = .ok (.getfield 19, 3) := by decide +kernel
theorem dX2_lookBackOverHunter_23 : decode cX2_lookBackOverHunter 23 = .ok (.iload_n 2, 1) := by decide +kernel
theorem dX2_lookBackOverHunter_24 : decode cX2_lookBackOverHunter 24 = .ok (.iload_n 1, 1) := by decide +kernel
theorem dX2_lookBackOverHunter_25 : decode cX2_lookBackOverHunter 25 = .ok (.ifCond .eq 22, 3) := by decide +kernel
theorem dX2_lookBackOverHunter_28 : decode cX2_lookBackOverHunter 28 = .ok (.aload_n 0, 1) := by decide +kernel
theorem dX2_lookBackOverHunter_29 : decode cX2_lookBackOverHunter 29 = .ok (.getfield 9, 3) := by decide +kernel
theorem dX2_lookBackOverHunter_32 : decode cX2_lookBackOverHunter 32 = .ok (.getfield 47, 3) := by decide +kernel
theorem dX2_lookBackOverHunter_35 : decode cX2_lookBackOverHunter 35 = .ok (.iload_n 2, 1) := by decide +kernel
theorem dX2_lookBackOverHunter_36 : decode cX2_lookBackOverHunter 36 = .ok (.invokestatic 43, 3) := by decide +kernel
theorem dX2_lookBackOverHunter_39 : decode cX2_lookBackOverHunter 39 = .ok (.ldc2_w 51, 3) := by decide +kernel
theorem dX2_lookBackOverHunter_42 : decode cX2_lookBackOverHunter 42 = .ok (.lxor, 1) := by decide +kernel
theorem dX2_lookBackOverHunter_43 : decode cX2_lookBackOverHunter 43 = .ok (.land, 1) := by decide +kernel
theorem dX2_lookBackOverHunter_44 : decode cX2_lookBackOverHunter 44 = .ok (.goto 7, 3) := by decide +kernel
theorem dX2_lookBackOverHunter_47 : decode cX2_lookBackOverHunter 47 = .ok (.iload_n 2, 1) := by decide +kernel
theorem dX2_lookBackOverHunter_48 : decode cX2_lookBackOverHunter 48 = .ok (.invokestatic 43, 3) := by decide +kernel
theorem dX2_lookBackOverHunter_51 : decode cX2_lookBackOverHunter 51 = .ok (.lastore, 1) := by decide +kernel
theorem dX2_lookBackOverHunter_52 : decode cX2_lookBackOverHunter 52 = .ok (.goto 72, 3) := by decide +kernel
theorem dX2_lookBackOverHunter_55 : decode cX2_lookBackOverHunter 55 = .ok (.iload_n 1, 1) := by decide +kernel
theorem dX2_lookBackOverHunter_56 : decode cX2_lookBackOverHunter 56 = .ok (.ifCond .eq 49, 3) := by decide +kernel
theorem dX2_lookBackOverHunter_59 : decode cX2_lookBackOverHunter 59 = .ok (.aload_n 0, 1) := by decide +kernel
theorem dX2_lookBackOverHunter_60 : decode cX2_lookBackOverHunter 60 = .ok (.getfield 19, 3) := by decide +kernel
theorem dX2_lookBackOverHunter_63 : decode cX2_lookBackOverHunter 63 = .ok (.iload_n 2, 1) := by decide +kernel
theorem dX2_lookBackOverHunter_64 : decode cX2_lookBackOverHunter 64 = .ok (.aload_n 0, 1) := by decide +kernel
theorem dX2_lookBackOverHunter_65 : decode cX2_lookBackOverHunter 65 = .ok (.getfield 9, 3) := by decide +kernel
theorem dX2_lookBackOverHunter_68 : decode cX2_lookBackOverHunter 68 = .ok (.getfield 47, 3) := by decide +kernel
theorem dX2_lookBackOverHunter_71 : decode cX2_lookBackOverHunter 71 = .ok (.aload_n 0, 1) := by decide +kernel
theorem dX2_lookBackOverHunter_72 : decode cX2_lookBackOverHunter 72 = .ok (.getfield 9, 3) := by decide +kernel
theorem dX2_lookBackOverHunter_75 : decode cX2_lookBackOverHunter 75 = .ok (.aload_n 0, 1) := by decide +kernel
theorem dX2_lookBackOverHunter_76 : decode cX2_lookBackOverHunter 76 = .ok (.getfield 9, 3) := by decide +kernel
theorem dX2_lookBackOverHunter_79 : decode cX2_lookBackOverHunter 79 = .ok (.getfield 47, 3) := by decide +kernel
theorem dX2_lookBackOverHunter_82 : decode cX2_lookBackOverHunter 82 = .ok (.aload_n 0, 1) := by decide +kernel
theorem dX2_lookBackOverHunter_83 : decode cX2_lookBackOverHunter 83 = .ok (.getfield 15, 3) := by decide +kernel
theorem dX2_lookBackOverHunter_86 : decode cX2_lookBackOverHunter 86 = .ok (.iload_n 2, 1) := by decide +kernel
theorem dX2_lookBackOverHunter_87 : decode cX2_lookBackOverHunter 87 = .ok (.laload, 1) := by decide +kernel
theorem dX2_lookBackOverHunter_88 : decode cX2_lookBackOverHunter 88 = .ok (.ldc2_w 51, 3) := by decide +kernel
theorem dX2_lookBackOverHunter_91 : decode cX2_lookBackOverHunter 91 = .ok (.lxor, 1) := by decide +kernel
theorem dX2_lookBackOverHunter_92 : decode cX2_lookBackOverHunter 92 = .ok (.land, 1) := by decide +kernel
theorem dX2_lookBackOverHunter_93 : decode cX2_lookBackOverHunter 93 = .ok (.invokevirtual 53, 3) := by decide +kernel
theorem dX2_lookBackOverHunter_96 : decode cX2_lookBackOverHunter 96 = .ok (.ldc2_w 51, 3) := by decide +kernel
theorem dX2_lookBackOverHunter_99 : decode cX2_lookBackOverHunter 99 = .ok (.lxor, 1) := by decide +kernel
theorem dX2_lookBackOverHunter_100 : decode cX2_lookBackOverHunter 100 = .ok (.land, 1) := by decide +kernel
theorem dX2_lookBackOverHunter_101 : decode cX2_lookBackOverHunter 101 = .ok (.lastore, 1) := by decide +kernel
theorem dX2_lookBackOverHunter_102 : decode cX2_lookBackOverHunter 102 = .ok (.goto 22, 3) := by decide +kernel
theorem dX2_lookBackOverHunter_105 : decode cX2_lookBackOverHunter 105 = .ok (.aload_n 0, 1) := by decide +kernel
theorem dX2_lookBackOverHunter_106 : decode cX2_lookBackOverHunter 106 = .ok (.getfield 19, 3) := by decide +kernel
theorem dX2_lookBackOverHunter_109 : decode cX2_lookBackOverHunter 109 = .ok (.iload_n 2, 1) := by decide +kernel
theorem dX2_lookBackOverHunter_110 : decode cX2_lookBackOverHunter 110 = .ok (.aload_n 0, 1) := by decide +kernel
theorem dX2_lookBackOverHunter_111 : decode cX2_lookBackOverHunter 111 = .ok (.getfield 9, 3) := by decide +kernel
theorem dX2_lookBackOverHunter_114 : decode cX2_lookBackOverHunter 114 = .ok (.aload_n 0, 1) := by decide +kernel
theorem dX2_lookBackOverHunter_115 : decode cX2_lookBackOverHunter 115 = .ok (.getfield 15, 3) := by decide +kernel
theorem dX2_lookBackOverHunter_118 : decode cX2_lookBackOverHunter 118 = .ok (.iload_n 2, 1) := by decide +kernel
theorem dX2_lookBackOverHunter_119 : decode cX2_lookBackOverHunter 119 = .ok (.laload, 1) := by decide +kernel
theorem dX2_lookBackOverHunter_120 : decode cX2_lookBackOverHunter 120 = .ok (.invokevirtual 53, 3) := by decide +kernel
theorem dX2_lookBackOverHunter_123 : decode cX2_lookBackOverHunter 123 = .ok (.lastore, 1) := by decide +kernel
theorem dX2_lookBackOverHunter_124 : decode cX2_lookBackOverHunter 124 = .ok (.iinc 2 1, 3) := by decide +kernel
theorem dX2_lookBackOverHunter_127 : decode cX2_lookBackOverHunter 127 = .ok (.goto (-125), 3) := by decide +kernel
theorem dX2_lookBackOverHunter_130 : decode cX2_lookBackOverHunter 130 = .ok (.return_, 1) := by decide +kernel
set_option maxRecDepth 20000 in
theorem ggX2_lookBackOverRunner_X1_has : GoodIn wsX2_lookBackOverRunner wsX1_has := goodIn_r _ [8] (by decide +kernel) (by decide +kernel)
set_option maxRecDepth 20000 in
theorem gX2_lookBackOverRunner_X1_has : GoodIn wsX2_lookBackOverRunner (va_wsS RX2 39 yX1_has wsX1_has) := goodIn_app (goodIn_of _ (by decide +kernel)) ggX2_lookBackOverRunner_X1_has
set_option maxRecDepth 20000 in
theorem ggX2_lookBackOverRunner_X2_overChoices : GoodIn wsX2_lookBackOverRunner wsX2_overChoices := goodIn_r _ [13, 14, 1, 15, 16, 17, 7, 18, 19, 20, 21, 22, 23, 24, 25, 6, 8, 26, 27, 28, 29, 30, 34, 35, 36, 37, 38, 39, 40, 41, 42, 43] (by decide +kernel) (by decide +kernel)
set_option maxRecDepth 20000 in
theorem gX2_lookBackOverRunner_X2_overChoices : GoodIn wsX2_lookBackOverRunner (wsV RX2 57 RX2 yX2_overChoices wsX2_overChoices) := goodIn_app (goodIn_of _ (by decide +kernel)) ggX2_lookBackOverRunner_X2_overChoices
set_option maxRecDepth 20000 in
theorem ggX2_lookBackOverRunner_X1_bit : GoodIn wsX2_lookBackOverRunner wsX1_bit := goodIn_r _ [33] (by decide +kernel) (by decide +kernel)
set_option maxRecDepth 20000 in
theorem gX2_lookBackOverRunner_X1_bit : GoodIn wsX2_lookBackOverRunner (va_wsS RX2 43 yX1_bit wsX1_bit) := goodIn_app (goodIn_of _ (by decide +kernel)) ggX2_lookBackOverRunner_X1_bit
theorem dX2_lookBackOverRunner_0 : decode cX2_lookBackOverRunner 0 = .ok (.iconst 0, 1) := by decide +kernel
theorem dX2_lookBackOverRunner_1 : decode cX2_lookBackOverRunner 1 = .ok (.istore_n 2, 1) := by decide +kernel
theorem dX2_lookBackOverRunner_2 : decode cX2_lookBackOverRunner 2 = .ok (.iconst 0, 1) := by decide +kernel
theorem dX2_lookBackOverRunner_3 : decode cX2_lookBackOverRunner 3 = .ok (.istore_n 3, 1) := by decide +kernel
theorem dX2_lookBackOverRunner_4 : decode cX2_lookBackOverRunner 4 = .ok (.iload_n 3, 1) := by decide +kernel
theorem dX2_lookBackOverRunner_5 : decode cX2_lookBackOverRunner 5 = .ok (.bipush 48, 2) := by decide +kernel
theorem dX2_lookBackOverRunner_7 : decode cX2_lookBackOverRunner 7 = .ok (.if_icmp .ge 88, 3) := by decide +kernel
theorem dX2_lookBackOverRunner_10 : decode cX2_lookBackOverRunner 10 = .ok (.aload_n 0, 1) := by decide +kernel
theorem dX2_lookBackOverRunner_11 : decode cX2_lookBackOverRunner 11 = .ok (.getfield 9, 3) := by decide +kernel
theorem dX2_lookBackOverRunner_14 : decode cX2_lookBackOverRunner 14 = .ok (.getfield 47, 3) := by decide +kernel
theorem dX2_lookBackOverRunner_17 : decode cX2_lookBackOverRunner 17 = .ok (.iload_n 3, 1) := by decide +kernel
theorem dX2_lookBackOverRunner_18 : decode cX2_lookBackOverRunner 18 = .ok (.invokestatic 39, 3) := by decide +kernel
theorem dX2_lookBackOverRunner_21 : decode cX2_lookBackOverRunner 21 = .ok (.ifCond .eq 68, 3) := by decide +kernel
theorem dX2_lookBackOverRunner_24 : decode cX2_lookBackOverRunner 24 = .ok (.aload_n 0, 1) := by decide +kernel
theorem dX2_lookBackOverRunner_25 : decode cX2_lookBackOverRunner 25 = .ok (.iload_n 3, 1) := by decide +kernel
theorem dX2_lookBackOverRunner_26 : decode cX2_lookBackOverRunner 26 = .ok (.iload_n 1, 1) := by decide +kernel
theorem dX2_lookBackOverRunner_27 : decode cX2_lookBackOverRunner 27 = .ok (.invokevirtual 57, 3) := by decide +kernel
theorem dX2_lookBackOverRunner_30 : decode cX2_lookBackOverRunner 30 = .ok (.lstore 4, 2) := by decide +kernel
theorem dX2_lookBackOverRunner_32 : decode cX2_lookBackOverRunner 32 = .ok (.iload_n 1, 1) := by decide +kernel
theorem dX2_lookBackOverRunner_33 : decode cX2_lookBackOverRunner 33 = .ok (.ifCond .eq 17, 3) := by decide +kernel
theorem dX2_lookBackOverRunner_36 : decode cX2_lookBackOverRunner 36 = .ok (.lload 4, 2) := by decide +kernel
theorem dX2_lookBackOverRunner_38 : decode cX2_lookBackOverRunner 38 = .ok (.iload_n 3, 1) := by decide +kernel
theorem dX2_lookBackOverRunner_39 : decode cX2_lookBackOverRunner 39 = .ok (.invokestatic 43, 3) := by decide +kernel
theorem dX2_lookBackOverRunner_42 : decode cX2_lookBackOverRunner 42 = .ok (.ldc2_w 51, 3) := by decide +kernel
theorem dX2_lookBackOverRunner_45 : decode cX2_lookBackOverRunner 45 = .ok (.lxor, 1) := by decide +kernel
theorem dX2_lookBackOverRunner_46 : decode cX2_lookBackOverRunner 46 = .ok (.land, 1) := by decide +kernel
theorem dX2_lookBackOverRunner_47 : decode cX2_lookBackOverRunner 47 = .ok (.goto 10, 3) := by decide +kernel
theorem dX2_lookBackOverRunner_50 : decode cX2_lookBackOverRunner 50 = .ok (.lload 4, 2) := by decide +kernel
theorem dX2_lookBackOverRunner_52 : decode cX2_lookBackOverRunner 52 = .ok (.iload_n 3, 1) := by decide +kernel
theorem dX2_lookBackOverRunner_53 : decode cX2_lookBackOverRunner 53 = .ok (.invokestatic 43, 3) := by decide +kernel
theorem dX2_lookBackOverRunner_56 : decode cX2_lookBackOverRunner 56 = .ok (.lor, 1) := by decide +kernel
theorem dX2_lookBackOverRunner_57 : decode cX2_lookBackOverRunner 57 = .ok (.lstore 4, 2) := by decide +kernel
theorem dX2_lookBackOverRunner_59 : decode cX2_lookBackOverRunner 59 = .ok (.iload_n 2, 1) := by decide +kernel
theorem dX2_lookBackOverRunner_60 : decode cX2_lookBackOverRunner 60 = .ok (.ifCond .ne 15, 3) := by decide +kernel
theorem dX2_lookBackOverRunner_63 : decode cX2_lookBackOverRunner 63 = .ok (.lload 4, 2) := by decide +kernel
theorem dX2_lookBackOverRunner_65 : decode cX2_lookBackOverRunner 65 = .ok (.aload_n 0, 1) := by decide +kernel
theorem dX2_lookBackOverRunner_66 : decode cX2_lookBackOverRunner 66 = .ok (.getfield 15, 3) := by decide +kernel
theorem dX2_lookBackOverRunner_69 : decode cX2_lookBackOverRunner 69 = .ok (.iload_n 3, 1) := by decide +kernel
theorem dX2_lookBackOverRunner_70 : decode cX2_lookBackOverRunner 70 = .ok (.laload, 1) := by decide +kernel
theorem dX2_lookBackOverRunner_71 : decode cX2_lookBackOverRunner 71 = .ok (.lcmp, 1) := by decide +kernel
theorem dX2_lookBackOverRunner_72 : decode cX2_lookBackOverRunner 72 = .ok (.ifCond .eq 7, 3) := by decide +kernel
theorem dX2_lookBackOverRunner_75 : decode cX2_lookBackOverRunner 75 = .ok (.iconst 1, 1) := by decide +kernel
theorem dX2_lookBackOverRunner_76 : decode cX2_lookBackOverRunner 76 = .ok (.goto 4, 3) := by decide +kernel
theorem dX2_lookBackOverRunner_79 : decode cX2_lookBackOverRunner 79 = .ok (.iconst 0, 1) := by decide +kernel
theorem dX2_lookBackOverRunner_80 : decode cX2_lookBackOverRunner 80 = .ok (.istore_n 2, 1) := by decide +kernel
theorem dX2_lookBackOverRunner_81 : decode cX2_lookBackOverRunner 81 = .ok (.aload_n 0, 1) := by decide +kernel
theorem dX2_lookBackOverRunner_82 : decode cX2_lookBackOverRunner 82 = .ok (.getfield 15, 3) := by decide +kernel
theorem dX2_lookBackOverRunner_85 : decode cX2_lookBackOverRunner 85 = .ok (.iload_n 3, 1) := by decide +kernel
theorem dX2_lookBackOverRunner_86 : decode cX2_lookBackOverRunner 86 = .ok (.lload 4, 2) := by decide +kernel
theorem dX2_lookBackOverRunner_88 : decode cX2_lookBackOverRunner 88 = .ok (.lastore, 1) := by decide +kernel
theorem dX2_lookBackOverRunner_89 : decode cX2_lookBackOverRunner 89 = .ok (.iinc 3 1, 3) := by decide +kernel
theorem dX2_lookBackOverRunner_92 : decode cX2_lookBackOverRunner 92 = .ok (.goto (-88), 3) := by decide +kernel
theorem dX2_lookBackOverRunner_95 : decode cX2_lookBackOverRunner 95 = .ok (.iload_n 2, 1) := by decide +kernel
theorem dX2_lookBackOverRunner_96 : decode cX2_lookBackOverRunner 96 = .ok (.ireturn, 1) := by decide +kernel
set_option maxRecDepth 20000 in
theorem ggX2_overChoices_X1_neighbour : GoodIn wsX2_overChoices wsX1_neighbour := goodIn_r _ [7, 8, 9, 10, 6, 11, 12, 13, 14, 15, 16, 17, 18, 19, 20, 21, 25, 26, 27, 28, 29, 30, 31] (by decide +kernel) (by decide +kernel)
set_option maxRecDepth 20000 in
theorem gX2_overChoices_X1_neighbour : GoodIn wsX2_overChoices (wsV RX2 61 RX1 yX1_neighbour wsX1_neighbour) := goodIn_app (goodIn_of _ (by decide +kernel)) ggX2_overChoices_X1_neighbour
theorem dX2_overChoices_0 : decode cX2_overChoices 0 = .ok (.aload_n 0, 1) := by decide +kernel
theorem dX2_overChoices_1 : decode cX2_overChoices 1 = .ok (.getfield 19, 3) := by decide +kernel
theorem dX2_overChoices_4 : decode cX2_overChoices 4 = .ok (.iload_n 1, 1) := by decide +kernel
theorem dX2_overChoices_5 : decode cX2_overChoices 5 = .ok (.laload, 1) := by decide +kernel
theorem dX2_overChoices_6 : decode cX2_overChoices 6 = .ok (.lstore_n 3, 1) := by decide +kernel
theorem dX2_overChoices_7 : decode cX2_overChoices 7 = .ok (.iconst 0, 1) := by decide +kernel
theorem dX2_overChoices_8 : decode cX2_overChoices 8 = .ok (.istore 5, 2) := by decide +kernel
theorem dX2_overChoices_10 : decode cX2_overChoices 10 = .ok (.iload 5, 2) := by decide +kernel
theorem dX2_overChoices_12 : decode cX2_overChoices 12 = .ok (.iconst 4, 1) := by decide +kernel
theorem dX2_overChoices_13 : decode cX2_overChoices 13 = .ok (.if_icmp .ge 53, 3) := by decide +kernel
theorem dX2_overChoices_16 : decode cX2_overChoices 16 = .ok (.aload_n 0, 1) := by decide +kernel
theorem dX2_overChoices_17 : decode cX2_overChoices 17 = .ok (.getfield 9, 3) := by decide +kernel
theorem dX2_overChoices_20 : decode cX2_overChoices 20 = .ok (.iload_n 1, 1) := by decide +kernel
theorem dX2_overChoices_21 : decode cX2_overChoices 21 = .ok (.iload 5, 2) := by decide +kernel
theorem dX2_overChoices_23 : decode cX2_overChoices 23 = .ok (.invokevirtual 61, 3) := by decide +kernel
theorem dX2_overChoices_26 : decode cX2_overChoices 26 = .ok (.istore 6, 2) := by decide +kernel
theorem dX2_overChoices_28 : decode cX2_overChoices 28 = .ok (.iload 6, 2) := by decide +kernel
theorem dX2_overChoices_30 : decode cX2_overChoices 30 = .ok (.iconst (-1), 1) := by decide +kernel
theorem dX2_overChoices_31 : decode cX2_overChoices 31 = .ok (.if_icmp .eq 29, 3) := by decide +kernel
theorem dX2_overChoices_34 : decode cX2_overChoices 34 = .ok (.iload_n 2, 1) := by decide +kernel
theorem dX2_overChoices_35 : decode cX2_overChoices 35 = .ok (.ifCond .eq 15, 3) := by decide +kernel
theorem dX2_overChoices_38 : decode cX2_overChoices 38 = .ok (.lload_n 3, 1) := by decide +kernel
theorem dX2_overChoices_39 : decode cX2_overChoices 39 = .ok (.aload_n 0, 1) := by decide +kernel
theorem dX2_overChoices_40 : decode cX2_overChoices 40 = .ok (.getfield 19, 3) := by decide +kernel
theorem dX2_overChoices_43 : decode cX2_overChoices 43 = .ok (.iload 6, 2) := by decide +kernel
theorem dX2_overChoices_45 : decode cX2_overChoices 45 = .ok (.laload, 1) := by decide +kernel
theorem dX2_overChoices_46 : decode cX2_overChoices 46 = .ok (.lor, 1) := by decide +kernel
theorem dX2_overChoices_47 : decode cX2_overChoices 47 = .ok (.goto 12, 3) := by decide +kernel
theorem dX2_overChoices_50 : decode cX2_overChoices 50 = .ok (.lload_n 3, 1) := by decide +kernel
theorem dX2_overChoices_51 : decode cX2_overChoices 51 = .ok (.aload_n 0, 1) := by decide +kernel
theorem dX2_overChoices_52 : decode cX2_overChoices 52 = .ok (.getfield 19, 3) := by decide +kernel
theorem dX2_overChoices_55 : decode cX2_overChoices 55 = .ok (.iload 6, 2) := by decide +kernel
theorem dX2_overChoices_57 : decode cX2_overChoices 57 = .ok (.laload, 1) := by decide +kernel
theorem dX2_overChoices_58 : decode cX2_overChoices 58 = .ok (.land, 1) := by decide +kernel
theorem dX2_overChoices_59 : decode cX2_overChoices 59 = .ok (.lstore_n 3, 1) := by decide +kernel
theorem dX2_overChoices_60 : decode cX2_overChoices 60 = .ok (.iinc 5 1, 3) := by decide +kernel
theorem dX2_overChoices_63 : decode cX2_overChoices 63 = .ok (.goto (-53), 3) := by decide +kernel
theorem dX2_overChoices_66 : decode cX2_overChoices 66 = .ok (.lload_n 3, 1) := by decide +kernel
theorem dX2_overChoices_67 : decode cX2_overChoices 67 = .ok (.lreturn, 1) := by decide +kernel
theorem dX3_init_0 : decode cX3_init 0 = .ok (.aload_n 0, 1) := by decide +kernel
theorem dX3_init_1 : decode cX3_init 1 = .ok (.invokespecial 3, 3) := by decide +kernel
theorem dX3_init_4 : decode cX3_init 4 = .ok (.aload_n 0, 1) := by decide +kernel
theorem dX3_init_5 : decode cX3_init 5 = .ok (.aload_n 1, 1) := by decide +kernel
theorem dX3_init_6 : decode cX3_init 6 = .ok (.putfield 9, 3) := by decide +kernel
theorem dX3_init_9 : decode cX3_init 9 = .ok (.aload_n 0, 1) := by decide +kernel
theorem dX3_init_10 : decode cX3_init 10 = .ok (.bipush 60, 2) := by decide +kernel
theorem dX3_init_12 : decode cX3_init 12 = .ok (.newarray .int, 2) := by decide +kernel
theorem dX3_init_14 : decode cX3_init 14 = .ok (.putfield 15, 3) := by decide +kernel
theorem dX3_init_17 : decode cX3_init 17 = .ok (.aload_n 0, 1) := by decide +kernel
theorem dX3_init_18 : decode cX3_init 18 = .ok (.bipush 48, 2) := by decide +kernel
theorem dX3_init_20 : decode cX3_init 20 = .ok (.newarray .int, 2) := by decide +kernel
theorem dX3_init_22 : decode cX3_init 22 = .ok (.putfield 19, 3) := by decide +kernel
theorem dX3_init_25 : decode cX3_init 25 = .ok (.return_, 1) := by decide +kernel
theorem dX3_draw_0 : decode cX3_draw 0 = .ok (.aload_n 0, 1) := by decide +kernel
theorem dX3_draw_1 : decode cX3_draw 1 = .ok (.aload_n 0, 1) := by decide +kernel
theorem dX3_draw_2 : decode cX3_draw 2 = .ok (.getfield 22, 3) := by decide +kernel
theorem dX3_draw_5 : decode cX3_draw 5 = .ok (.ldc2_w 26, 3) := by decide +kernel
theorem dX3_draw_8 : decode cX3_draw 8 = .ok (.lmul, 1) := by decide +kernel
theorem dX3_draw_9 : decode cX3_draw 9 = .ok (.ldc2_w 28, 3) := by decide +kernel
theorem dX3_draw_12 : decode cX3_draw 12 = .ok (.ladd, 1) := by decide +kernel
theorem dX3_draw_13 : decode cX3_draw 13 = .ok (.putfield 22, 3) := by decide +kernel
theorem dX3_draw_16 : decode cX3_draw 16 = .ok (.iload_n 1, 1) := by decide +kernel
theorem dX3_draw_17 : decode cX3_draw 17 = .ok (.iconst 1, 1) := by decide +kernel
theorem dX3_draw_18 : decode cX3_draw 18 = .ok (.if_icmp .ge 7, 3) := by decide +kernel
theorem dX3_draw_21 : decode cX3_draw 21 = .ok (.iconst 0, 1) := by decide +kernel
theorem dX3_draw_22 : decode cX3_draw 22 = .ok (.goto 14, 3) := by decide +kernel
theorem dX3_draw_25 : decode cX3_draw 25 = .ok (.aload_n 0, 1) := by decide +kernel
theorem dX3_draw_26 : decode cX3_draw 26 = .ok (.getfield 22, 3) := by decide +kernel
theorem dX3_draw_29 : decode cX3_draw 29 = .ok (.bipush 33, 2) := by decide +kernel
theorem dX3_draw_31 : decode cX3_draw 31 = .ok (.lushr, 1) := by decide +kernel
theorem dX3_draw_32 : decode cX3_draw 32 = .ok (.iload_n 1, 1) := by decide +kernel
theorem dX3_draw_33 : decode cX3_draw 33 = .ok (.i2l, 1) := by decide +kernel
theorem dX3_draw_34 : decode cX3_draw 34 = .ok (.lrem, 1) := by decide +kernel
theorem dX3_draw_35 : decode cX3_draw 35 = .ok (.l2i, 1) := by decide +kernel
theorem dX3_draw_36 : decode cX3_draw 36 = .ok (.ireturn, 1) := by decide +kernel
set_option maxRecDepth 20000 in
theorem ggX3_joinParts_X3_listHedges : GoodIn wsX3_joinParts wsX3_listHedges := goodIn_r _ [8, 3, 2, 9, 10, 11, 12, 13, 14, 15, 16, 17, 18, 19, 20, 21, 22, 23, 24, 25, 26, 27, 65, 66, 67, 68, 69, 70, 71, 72, 73, 74, 75] (by decide +kernel) (by decide +kernel)
set_option maxRecDepth 20000 in
theorem gX3_joinParts_X3_listHedges : GoodIn wsX3_joinParts (wsV RX3 30 RX3 yX3_listHedges wsX3_listHedges) := goodIn_app (goodIn_of _ (by decide +kernel)) ggX3_joinParts_X3_listHedges
set_option maxRecDepth 20000 in
theorem ggX3_joinParts_X3_shuffle : GoodIn wsX3_joinParts wsX3_shuffle := goodIn_r _ [31, 32, 33, 34, 35, 2, 36, 37, 38, 7, 39, 1, 40, 41, 65, 66, 67, 68] (by decide +kernel) (by decide +kernel)
set_option maxRecDepth 20000 in
theorem gX3_joinParts_X3_shuffle : GoodIn wsX3_joinParts (wsV RX3 34 RX3 yX3_shuffle wsX3_shuffle) := goodIn_app (goodIn_of _ (by decide +kernel)) ggX3_joinParts_X3_shuffle
set_option maxRecDepth 20000 in
theorem ggX3_joinParts_X1_partOf : GoodIn wsX3_joinParts wsX1_partOf := goodIn_r _ [45, 18, 46, 47, 12, 48, 49, 50, 51, 52, 53, 54, 55, 56, 27, 26, 69, 70, 71, 72, 73, 74, 75] (by decide +kernel) (by decide +kernel)
set_option maxRecDepth 20000 in
theorem gX3_joinParts_X1_partOf : GoodIn wsX3_joinParts (wsV RX3 38 RX1 yX1_partOf wsX1_partOf) := goodIn_app (goodIn_of _ (by decide +kernel)) ggX3_joinParts_X1_partOf
set_option maxRecDepth 20000 in
theorem ggX3_joinParts_X1_beside : GoodIn wsX3_joinParts wsX1_beside := goodIn_r _ [17, 18, 19, 20, 12, 21, 69, 70, 71, 72, 73, 74, 75] (by decide +kernel) (by decide +kernel)
set_option maxRecDepth 20000 in
theorem gX3_joinParts_X1_beside : GoodIn wsX3_joinParts (wsV RX3 44 RX1 yX1_beside wsX1_beside) := goodIn_app (goodIn_of _ (by decide +kernel)) ggX3_joinParts_X1_beside
set_option maxRecDepth 20000 in
theorem ggX3_joinParts_X1_has : GoodIn wsX3_joinParts wsX1_has := goodIn_r _ [21] (by decide +kernel) (by decide +kernel)
set_option maxRecDepth 20000 in
theorem gX3_joinParts_X1_has : GoodIn wsX3_joinParts (va_wsS RX3 48 yX1_has wsX1_has) := goodIn_app (goodIn_of _ (by decide +kernel)) ggX3_joinParts_X1_has
set_option maxRecDepth 20000 in
theorem ggX3_joinParts_X1_setOpen : GoodIn wsX3_joinParts wsX1_setOpen := goodIn_r _ [62, 63, 33, 34, 35, 27, 64, 26, 14, 15, 16, 12, 17, 18, 19, 20, 21, 46, 47, 48, 69, 70, 71, 72, 73, 74, 75] (by decide +kernel) (by decide +kernel)
set_option maxRecDepth 20000 in
theorem gX3_joinParts_X1_setOpen : GoodIn wsX3_joinParts (wsV RX3 52 RX1 yX1_setOpen wsX1_setOpen) := goodIn_app (goodIn_of _ (by decide +kernel)) ggX3_joinParts_X1_setOpen
theorem dX3_joinParts_0 : decode cX3_joinParts 0 = .ok (.aload_n 0, 1) := by decide +kernel
theorem dX3_joinParts_1 : decode cX3_joinParts 1 = .ok (.lload_n 1, 1) := by decide +kernel
theorem dX3_joinParts_2 : decode cX3_joinParts 2 = .ok (.putfield 22, 3) := by decide +kernel
theorem dX3_joinParts_5 : decode cX3_joinParts 5 = .ok (.aload_n 0, 1) := by decide +kernel
theorem dX3_joinParts_6 : decode cX3_joinParts 6 = .ok (.invokevirtual 30, 3) := by decide +kernel
theorem dX3_joinParts_9 : decode cX3_joinParts 9 = .ok (.istore_n 3, 1) := by decide +kernel
theorem dX3_joinParts_10 : decode cX3_joinParts 10 = .ok (.aload_n 0, 1) := by decide +kernel
theorem dX3_joinParts_11 : decode cX3_joinParts 11 = .ok (.iload_n 3, 1) := by decide +kernel
theorem dX3_joinParts_12 : decode cX3_joinParts 12 = .ok (.invokevirtual 34, 3) := by decide +kernel
theorem dX3_joinParts_15 : decode cX3_joinParts 15 = .ok (.iconst 0, 1) := by decide +kernel
theorem dX3_joinParts_16 : decode cX3_joinParts 16 = .ok (.istore 4, 2) := by decide +kernel
theorem dX3_joinParts_18 : decode cX3_joinParts 18 = .ok (.iload 4, 2) := by decide +kernel
theorem dX3_joinParts_20 : decode cX3_joinParts 20 = .ok (.iload_n 3, 1) := by decide +kernel
theorem dX3_joinParts_21 : decode cX3_joinParts 21 = .ok (.if_icmp .ge 76, 3) := by decide +kernel
theorem dX3_joinParts_24 : decode cX3_joinParts 24 = .ok (.iload 4, 2) := by decide +kernel
theorem dX3_joinParts_26 : decode cX3_joinParts 26 = .ok (.bipush 60, 2) := by decide +kernel
theorem dX3_joinParts_28 : decode cX3_joinParts 28 = .ok (.if_icmp .ge 69, 3) := by decide +kernel
theorem dX3_joinParts_31 : decode cX3_joinParts 31 = .ok (.aload_n 0, 1) := by decide +kernel
theorem dX3_joinParts_32 : decode cX3_joinParts 32 = .ok (.getfield 15, 3) := by decide +kernel
theorem dX3_joinParts_35 : decode cX3_joinParts 35 = .ok (.iload 4, 2) := by decide +kernel
theorem dX3_joinParts_37 : decode cX3_joinParts 37 = .ok (.iaload, 1) := by decide +kernel
theorem dX3_joinParts_38 : decode cX3_joinParts 38 = .ok (.iconst 4, 1) := by decide +kernel
theorem dX3_joinParts_39 : decode cX3_joinParts 39 = .ok (.idiv, 1) := by decide +kernel
theorem dX3_joinParts_40 : decode cX3_joinParts 40 = .ok (.istore 5, 2) := by decide +kernel
theorem dX3_joinParts_42 : decode cX3_joinParts 42 = .ok (.aload_n 0, 1) := by decide +kernel
theorem dX3_joinParts_43 : decode cX3_joinParts 43 = .ok (.getfield 15, 3) := by decide +kernel
theorem dX3_joinParts_46 : decode cX3_joinParts 46 = .ok (.iload 4, 2) := by decide +kernel
theorem dX3_joinParts_48 : decode cX3_joinParts 48 = .ok (.iaload, 1) := by decide +kernel
theorem dX3_joinParts_49 : decode cX3_joinParts 49 = .ok (.iconst 4, 1) := by decide +kernel
theorem dX3_joinParts_50 : decode cX3_joinParts 50 = .ok (.irem, 1) := by decide +kernel
theorem dX3_joinParts_51 : decode cX3_joinParts 51 = .ok (.istore 6, 2) := by decide +kernel
theorem dX3_joinParts_53 : decode cX3_joinParts 53 = .ok (.aload_n 0, 1) := by decide +kernel
theorem dX3_joinParts_54 : decode cX3_joinParts 54 = .ok (.getfield 9, 3) := by decide +kernel
theorem dX3_joinParts_57 : decode cX3_joinParts 57 = .ok (.iload 5, 2) := by decide +kernel
theorem dX3_joinParts_59 : decode cX3_joinParts 59 = .ok (.invokevirtual 38, 3) := by decide +kernel
theorem dX3_joinParts_62 : decode cX3_joinParts 62 = .ok (.aload_n 0, 1) := by decide +kernel
theorem dX3_joinParts_63 : decode cX3_joinParts 63 = .ok (.getfield 9, 3) := by decide +kernel
theorem dX3_joinParts_66 : decode cX3_joinParts 66 = .ok (.iload 5, 2) := by decide +kernel
theorem dX3_joinParts_68 : decode cX3_joinParts 68 = .ok (.iload 6, 2) := by decide +kernel
theorem dX3_joinParts_70 : decode cX3_joinParts 70 = .ok (.invokevirtual 44, 3) := by decide +kernel
theorem dX3_joinParts_73 : decode cX3_joinParts 73 = .ok (.invokestatic 48, 3) := by decide +kernel
theorem dX3_joinParts_76 : decode cX3_joinParts 76 = .ok (.ifCond .ne 15, 3) := by decide +kernel
theorem dX3_joinParts_79 : decode cX3_joinParts 79 = .ok (.aload_n 0, 1) := by decide +kernel
theorem dX3_joinParts_80 : decode cX3_joinParts 80 = .ok (.getfield 9, 3) := by decide +kernel
theorem dX3_joinParts_83 : decode cX3_joinParts 83 = .ok (.iload 5, 2) := by decide +kernel
theorem dX3_joinParts_85 : decode cX3_joinParts 85 = .ok (.iload 6, 2) := by decide +kernel
theorem dX3_joinParts_87 : decode cX3_joinParts 87 = .ok (.iconst 1, 1) := by decide +kernel
theorem dX3_joinParts_88 : decode cX3_joinParts 88 = .ok (.invokevirtual 52, 3) := by decide +kernel
theorem dX3_joinParts_91 : decode cX3_joinParts 91 = .ok (.iinc 4 1, 3) := by decide +kernel
theorem dX3_joinParts_94 : decode cX3_joinParts 94 = .ok (.goto (-76), 3) := by decide +kernel
theorem dX3_joinParts_97 : decode cX3_joinParts 97 = .ok (.return_, 1) := by decide +kernel
set_option maxRecDepth 20000 in
theorem ggX3_listHedges_X1_isHedge : GoodIn wsX3_listHedges wsX1_isHedge := goodIn_r _ [7, 8, 9, 10, 6, 11, 12, 13, 14, 15, 16, 17, 18, 19, 20, 21, 26, 27, 28, 29, 30, 31, 32] (by decide +kernel) (by decide +kernel)
set_option maxRecDepth 20000 in
theorem gX3_listHedges_X1_isHedge : GoodIn wsX3_listHedges (wsV RX3 56 RX1 yX1_isHedge wsX1_isHedge) := goodIn_app (goodIn_of _ (by decide +kernel)) ggX3_listHedges_X1_isHedge
theorem dX3_listHedges_0 : decode cX3_listHedges 0 = .ok (.iconst 0, 1) := by decide +kernel
theorem dX3_listHedges_1 : decode cX3_listHedges 1 = .ok (.istore_n 1, 1) := by decide +kernel
theorem dX3_listHedges_2 : decode cX3_listHedges 2 = .ok (.iconst 0, 1) := by decide +kernel
theorem dX3_listHedges_3 : decode cX3_listHedges 3 = .ok (.istore_n 2, 1) := by decide +kernel
theorem dX3_listHedges_4 : decode cX3_listHedges 4 = .ok (.iload_n 2, 1) := by decide +kernel
theorem dX3_listHedges_5 : decode cX3_listHedges 5 = .ok (.bipush 48, 2) := by decide +kernel
theorem dX3_listHedges_7 : decode cX3_listHedges 7 = .ok (.if_icmp .ge 54, 3) := by decide +kernel
theorem dX3_listHedges_10 : decode cX3_listHedges 10 = .ok (.iconst 1, 1) := by decide +kernel
theorem dX3_listHedges_11 : decode cX3_listHedges 11 = .ok (.istore_n 3, 1) := by decide +kernel
theorem dX3_listHedges_12 : decode cX3_listHedges 12 = .ok (.iload_n 3, 1) := by decide +kernel
theorem dX3_listHedges_13 : decode cX3_listHedges 13 = .ok (.iconst 2, 1) := by decide +kernel
theorem dX3_listHedges_14 : decode cX3_listHedges 14 = .ok (.if_icmp .gt 41, 3) := by decide +kernel
theorem dX3_listHedges_17 : decode cX3_listHedges 17 = .ok (.aload_n 0, 1) := by decide +kernel
theorem dX3_listHedges_18 : decode cX3_listHedges 18 = .ok (.getfield 9, 3) := by decide +kernel
theorem dX3_listHedges_21 : decode cX3_listHedges 21 = .ok (.iload_n 2, 1) := by decide +kernel
theorem dX3_listHedges_22 : decode cX3_listHedges 22 = .ok (.iload_n 3, 1) := by decide +kernel
theorem dX3_listHedges_23 : decode cX3_listHedges 23 = .ok (.invokevirtual 56, 3) := by decide +kernel
theorem dX3_listHedges_26 : decode cX3_listHedges 26 = .ok (.ifCond .eq 23, 3) := by decide +kernel
theorem dX3_listHedges_29 : decode cX3_listHedges 29 = .ok (.iload_n 1, 1) := by decide +kernel
theorem dX3_listHedges_30 : decode cX3_listHedges 30 = .ok (.bipush 60, 2) := by decide +kernel
theorem dX3_listHedges_32 : decode cX3_listHedges 32 = .ok (.if_icmp .ge 17, 3) := by decide +kernel
theorem dX3_listHedges_35 : decode cX3_listHedges 35 = .ok (.aload_n 0, 1) := by decide +kernel
theorem dX3_listHedges_36 : decode cX3_listHedges 36 = .ok (.getfield 15, 3) := by decide +kernel
theorem dX3_listHedges_39 : decode cX3_listHedges 39 = .ok (.iload_n 1, 1) := by decide +kernel
theorem dX3_listHedges_40 : decode cX3_listHedges 40 = .ok (.iload_n 2, 1) := by decide +kernel
theorem dX3_listHedges_41 : decode cX3_listHedges 41 = .ok (.iconst 4, 1) := by decide +kernel
theorem dX3_listHedges_42 : decode cX3_listHedges 42 = .ok (.imul, 1) := by decide +kernel
theorem dX3_listHedges_43 : decode cX3_listHedges 43 = .ok (.iload_n 3, 1) := by decide +kernel
theorem dX3_listHedges_44 : decode cX3_listHedges 44 = .ok (.iadd, 1) := by decide +kernel
theorem dX3_listHedges_45 : decode cX3_listHedges 45 = .ok (.iastore, 1) := by decide +kernel
theorem dX3_listHedges_46 : decode cX3_listHedges 46 = .ok (.iinc 1 1, 3) := by decide +kernel
theorem dX3_listHedges_49 : decode cX3_listHedges 49 = .ok (.iinc 3 1, 3) := by decide +kernel
theorem dX3_listHedges_52 : decode cX3_listHedges 52 = .ok (.goto (-40), 3) := by decide +kernel
theorem dX3_listHedges_55 : decode cX3_listHedges 55 = .ok (.iinc 2 1, 3) := by decide +kernel
theorem dX3_listHedges_58 : decode cX3_listHedges 58 = .ok (.goto (-54), 3) := by decide +kernel
theorem dX3_listHedges_61 : decode cX3_listHedges 61 = .ok (.iload_n 1, 1) := by decide +kernel
theorem dX3_listHedges_62 : decode cX3_listHedges 62 = .ok (.ireturn, 1) := by decide +kernel
set_option maxRecDepth 20000 in
theorem ggX3_shuffle_X3_draw : GoodIn wsX3_shuffle wsX3_draw := goodIn_r _ [10, 11, 12, 13, 14, 15, 16, 17] (by decide +kernel) (by decide +kernel)
set_option maxRecDepth 20000 in
theorem gX3_shuffle_X3_draw : GoodIn wsX3_shuffle (wsV RX3 65 RX3 yX3_draw wsX3_draw) := goodIn_app (goodIn_of _ (by decide +kernel)) ggX3_shuffle_X3_draw
theorem dX3_shuffle_0 : decode cX3_shuffle 0 = .ok (.iload_n 1, 1) := by decide +kernel
theorem dX3_shuffle_1 : decode cX3_shuffle 1 = .ok (.bipush 60, 2) := by decide +kernel
theorem dX3_shuffle_3 : decode cX3_shuffle 3 = .ok (.invokestatic 60, 3) := by decide +kernel
theorem dX3_shuffle_6 : decode cX3_shuffle 6 = .ok (.iconst 1, 1) := by decide +kernel
theorem dX3_shuffle_7 : decode cX3_shuffle 7 = .ok (.isub, 1) := by decide +kernel
theorem dX3_shuffle_8 : decode cX3_shuffle 8 = .ok (.istore_n 2, 1) := by decide +kernel
theorem dX3_shuffle_9 : decode cX3_shuffle 9 = .ok (.iload_n 2, 1) := by decide +kernel
theorem dX3_shuffle_10 : decode cX3_shuffle 10 = .ok (.iconst 1, 1) := by decide +kernel
theorem dX3_shuffle_11 : decode cX3_shuffle 11 = .ok (.if_icmp .lt 45, 3) := by decide +kernel
theorem dX3_shuffle_14 : decode cX3_shuffle 14 = .ok (.aload_n 0, 1) := by decide +kernel
theorem dX3_shuffle_15 : decode cX3_shuffle 15 = .ok (.iload_n 2, 1) := by decide +kernel
theorem dX3_shuffle_16 : decode cX3_shuffle 16 = .ok (.iconst 1, 1) := by decide +kernel
theorem dX3_shuffle_17 : decode cX3_shuffle 17 = .ok (.iadd, 1) := by decide +kernel
theorem dX3_shuffle_18 : decode cX3_shuffle 18 = .ok (.invokevirtual 65, 3) := by decide +kernel
theorem dX3_shuffle_21 : decode cX3_shuffle 21 = .ok (.istore_n 3, 1) := by decide +kernel
theorem dX3_shuffle_22 : decode cX3_shuffle 22 = .ok (.aload_n 0, 1) := by decide +kernel
theorem dX3_shuffle_23 : decode cX3_shuffle 23 = .ok (.getfield 15, 3) := by decide +kernel
theorem dX3_shuffle_26 : decode cX3_shuffle 26 = .ok (.iload_n 2, 1) := by decide +kernel
theorem dX3_shuffle_27 : decode cX3_shuffle 27 = .ok (.iaload, 1) := by decide +kernel
theorem dX3_shuffle_28 : decode cX3_shuffle 28 = .ok (.istore 4, 2) := by decide +kernel
theorem dX3_shuffle_30 : decode cX3_shuffle 30 = .ok (.aload_n 0, 1) := by decide +kernel
theorem dX3_shuffle_31 : decode cX3_shuffle 31 = .ok (.getfield 15, 3) := by decide +kernel
theorem dX3_shuffle_34 : decode cX3_shuffle 34 = .ok (.iload_n 2, 1) := by decide +kernel
theorem dX3_shuffle_35 : decode cX3_shuffle 35 = .ok (.aload_n 0, 1) := by decide +kernel
theorem dX3_shuffle_36 : decode cX3_shuffle 36 = .ok (.getfield 15, 3) := by decide +kernel
theorem dX3_shuffle_39 : decode cX3_shuffle 39 = .ok (.iload_n 3, 1) := by decide +kernel
theorem dX3_shuffle_40 : decode cX3_shuffle 40 = .ok (.iaload, 1) := by decide +kernel
theorem dX3_shuffle_41 : decode cX3_shuffle 41 = .ok (.iastore, 1) := by decide +kernel
theorem dX3_shuffle_42 : decode cX3_shuffle 42 = .ok (.aload_n 0, 1) := by decide +kernel
theorem dX3_shuffle_43 : decode cX3_shuffle 43 = .ok (.getfield 15, 3) := by decide +kernel
theorem dX3_shuffle_46 : decode cX3_shuffle 46 = .ok (.iload_n 3, 1) := by decide +kernel
theorem dX3_shuffle_47 : decode cX3_shuffle 47 = .ok (.iload 4, 2) := by decide +kernel
theorem dX3_shuffle_49 : decode cX3_shuffle 49 = .ok (.iastore, 1) := by decide +kernel
theorem dX3_shuffle_50 : decode cX3_shuffle 50 = .ok (.iinc 2 (-1), 3) := by decide +kernel
theorem dX3_shuffle_53 : decode cX3_shuffle 53 = .ok (.goto (-44), 3) := by decide +kernel
theorem dX3_shuffle_56 : decode cX3_shuffle 56 = .ok (.return_, 1) := by decide +kernel
set_option maxRecDepth 20000 in
theorem ggX3_wander_X1_bit : GoodIn wsX3_wander wsX1_bit := goodIn_r _ [8] (by decide +kernel) (by decide +kernel)
set_option maxRecDepth 20000 in
theorem gX3_wander_X1_bit : GoodIn wsX3_wander (va_wsS RX3 69 yX1_bit wsX1_bit) := goodIn_app (goodIn_of _ (by decide +kernel)) ggX3_wander_X1_bit
set_option maxRecDepth 20000 in
theorem ggX3_wander_X3_newSides : GoodIn wsX3_wander wsX3_newSides := goodIn_r _ [13, 14, 15, 16, 12, 17, 2, 4, 18, 19, 20, 21, 7, 22, 23, 24, 25, 26, 27, 51, 52, 53, 54, 55, 56, 57, 58, 59, 60, 61] (by decide +kernel) (by decide +kernel)
set_option maxRecDepth 20000 in
theorem gX3_wander_X3_newSides : GoodIn wsX3_wander (wsV RX3 72 RX3 yX3_newSides wsX3_newSides) := goodIn_app (goodIn_of _ (by decide +kernel)) ggX3_wander_X3_newSides
set_option maxRecDepth 20000 in
theorem ggX3_wander_X3_draw : GoodIn wsX3_wander wsX3_draw := goodIn_r _ [31, 1, 32, 33, 51, 52, 53, 54] (by decide +kernel) (by decide +kernel)
set_option maxRecDepth 20000 in
theorem gX3_wander_X3_draw : GoodIn wsX3_wander (wsV RX3 65 RX3 yX3_draw wsX3_draw) := goodIn_app (goodIn_of _ (by decide +kernel)) ggX3_wander_X3_draw
set_option maxRecDepth 20000 in
theorem ggX3_wander_X3_newSide : GoodIn wsX3_wander wsX3_newSide := goodIn_r _ [37, 14, 15, 16, 12, 17, 2, 4, 18, 19, 20, 21, 7, 22, 23, 24, 25, 26, 27, 51, 52, 53, 54, 55, 56, 57, 58, 59, 60, 61] (by decide +kernel) (by decide +kernel)
set_option maxRecDepth 20000 in
theorem gX3_wander_X3_newSide : GoodIn wsX3_wander (wsV RX3 76 RX3 yX3_newSide wsX3_newSide) := goodIn_app (goodIn_of _ (by decide +kernel)) ggX3_wander_X3_newSide
set_option maxRecDepth 20000 in
theorem ggX3_wander_X1_beside : GoodIn wsX3_wander wsX1_beside := goodIn_r _ [22, 23, 24, 25, 7, 26, 55, 56, 57, 58, 59, 60, 61] (by decide +kernel) (by decide +kernel)
set_option maxRecDepth 20000 in
theorem gX3_wander_X1_beside : GoodIn wsX3_wander (wsV RX3 44 RX1 yX1_beside wsX1_beside) := goodIn_app (goodIn_of _ (by decide +kernel)) ggX3_wander_X1_beside
set_option maxRecDepth 20000 in
theorem ggX3_wander_X1_setOpen : GoodIn wsX3_wander wsX1_setOpen := goodIn_r _ [41, 42, 43, 44, 45, 46, 47, 48, 49, 20, 21, 7, 22, 23, 24, 25, 26, 50, 6, 8, 55, 56, 57, 58, 59, 60, 61] (by decide +kernel) (by decide +kernel)
set_option maxRecDepth 20000 in
theorem gX3_wander_X1_setOpen : GoodIn wsX3_wander (wsV RX3 52 RX1 yX1_setOpen wsX1_setOpen) := goodIn_app (goodIn_of _ (by decide +kernel)) ggX3_wander_X1_setOpen
set_option maxRecDepth 20000 in
theorem ggX3_wander_X1_has : GoodIn wsX3_wander wsX1_has := goodIn_r _ [26] (by decide +kernel) (by decide +kernel)
set_option maxRecDepth 20000 in
theorem gX3_wander_X1_has : GoodIn wsX3_wander (va_wsS RX3 48 yX1_has wsX1_has) := goodIn_app (goodIn_of _ (by decide +kernel)) ggX3_wander_X1_has
theorem dX3_wander_0 : decode cX3_wander 0 = .ok (.aload_n 0, 1) := by decide +kernel
theorem dX3_wander_1 : decode cX3_wander 1 = .ok (.lload_n 1, 1) := by decide +kernel
theorem dX3_wander_2 : decode cX3_wander 2 = .ok (.putfield 22, 3) := by decide +kernel
theorem dX3_wander_5 : decode cX3_wander 5 = .ok (.iconst 0, 1) := by decide +kernel
theorem dX3_wander_6 : decode cX3_wander 6 = .ok (.istore_n 3, 1) := by decide +kernel
theorem dX3_wander_7 : decode cX3_wander 7 = .ok (.iload_n 3, 1) := by decide +kernel
theorem dX3_wander_8 : decode cX3_wander 8 = .ok (.invokestatic 69, 3) := by decide +kernel
theorem dX3_wander_11 : decode cX3_wander 11 = .ok (.lstore 4, 2) := by decide +kernel
theorem dX3_wander_13 : decode cX3_wander 13 = .ok (.iconst 0, 1) := by decide +kernel
theorem dX3_wander_14 : decode cX3_wander 14 = .ok (.istore 6, 2) := by decide +kernel
theorem dX3_wander_16 : decode cX3_wander 16 = .ok (.iload 6, 2) := by decide +kernel
theorem dX3_wander_18 : decode cX3_wander 18 = .ok (.bipush 72, 2) := by decide +kernel
theorem dX3_wander_20 : decode cX3_wander 20 = .ok (.if_icmp .ge 118, 3) := by decide +kernel
theorem dX3_wander_23 : decode cX3_wander 23 = .ok (.aload_n 0, 1) := by decide +kernel
theorem dX3_wander_24 : decode cX3_wander 24 = .ok (.iload_n 3, 1) := by decide +kernel
theorem dX3_wander_25 : decode cX3_wander 25 = .ok (.lload 4, 2) := by decide +kernel
theorem dX3_wander_27 : decode cX3_wander 27 = .ok (.invokevirtual 72, 3) := by decide +kernel
theorem dX3_wander_30 : decode cX3_wander 30 = .ok (.istore 7, 2) := by decide +kernel
theorem dX3_wander_32 : decode cX3_wander 32 = .ok (.iload 7, 2) := by decide +kernel
theorem dX3_wander_34 : decode cX3_wander 34 = .ok (.ifCond .le 72, 3) := by decide +kernel
theorem dX3_wander_37 : decode cX3_wander 37 = .ok (.aload_n 0, 1) := by decide +kernel
theorem dX3_wander_38 : decode cX3_wander 38 = .ok (.iload_n 3, 1) := by decide +kernel
theorem dX3_wander_39 : decode cX3_wander 39 = .ok (.lload 4, 2) := by decide +kernel
theorem dX3_wander_41 : decode cX3_wander 41 = .ok (.aload_n 0, 1) := by decide +kernel
theorem dX3_wander_42 : decode cX3_wander 42 = .ok (.iload 7, 2) := by decide +kernel
theorem dX3_wander_44 : decode cX3_wander 44 = .ok (.invokevirtual 65, 3) := by decide +kernel
theorem dX3_wander_47 : decode cX3_wander 47 = .ok (.invokevirtual 76, 3) := by decide +kernel
theorem dX3_wander_50 : decode cX3_wander 50 = .ok (.istore 8, 2) := by decide +kernel
theorem dX3_wander_52 : decode cX3_wander 52 = .ok (.aload_n 0, 1) := by decide +kernel
theorem dX3_wander_53 : decode cX3_wander 53 = .ok (.getfield 9, 3) := by decide +kernel
theorem dX3_wander_56 : decode cX3_wander 56 = .ok (.iload_n 3, 1) := by decide +kernel
theorem dX3_wander_57 : decode cX3_wander 57 = .ok (.iload 8, 2) := by decide +kernel
theorem dX3_wander_59 : decode cX3_wander 59 = .ok (.invokevirtual 44, 3) := by decide +kernel
theorem dX3_wander_62 : decode cX3_wander 62 = .ok (.istore 9, 2) := by decide +kernel
theorem dX3_wander_64 : decode cX3_wander 64 = .ok (.iload 9, 2) := by decide +kernel
theorem dX3_wander_66 : decode cX3_wander 66 = .ok (.iconst (-1), 1) := by decide +kernel
theorem dX3_wander_67 : decode cX3_wander 67 = .ok (.if_icmp .ne 4, 3) := by decide +kernel
theorem dX3_wander_70 : decode cX3_wander 70 = .ok (.return_, 1) := by decide +kernel
theorem dX3_wander_71 : decode cX3_wander 71 = .ok (.aload_n 0, 1) := by decide +kernel
theorem dX3_wander_72 : decode cX3_wander 72 = .ok (.getfield 9, 3) := by decide +kernel
theorem dX3_wander_75 : decode cX3_wander 75 = .ok (.iload_n 3, 1) := by decide +kernel
theorem dX3_wander_76 : decode cX3_wander 76 = .ok (.iload 8, 2) := by decide +kernel
theorem dX3_wander_78 : decode cX3_wander 78 = .ok (.iconst 1, 1) := by decide +kernel
theorem dX3_wander_79 : decode cX3_wander 79 = .ok (.invokevirtual 52, 3) := by decide +kernel
theorem dX3_wander_82 : decode cX3_wander 82 = .ok (.aload_n 0, 1) := by decide +kernel
theorem dX3_wander_83 : decode cX3_wander 83 = .ok (.getfield 19, 3) := by decide +kernel
theorem dX3_wander_86 : decode cX3_wander 86 = .ok (.iload 9, 2) := by decide +kernel
theorem dX3_wander_88 : decode cX3_wander 88 = .ok (.iload_n 3, 1) := by decide +kernel
theorem dX3_wander_89 : decode cX3_wander 89 = .ok (.iastore, 1) := by decide +kernel
theorem dX3_wander_90 : decode cX3_wander 90 = .ok (.lload 4, 2) := by decide +kernel
theorem dX3_wander_92 : decode cX3_wander 92 = .ok (.iload 9, 2) := by decide +kernel
theorem dX3_wander_94 : decode cX3_wander 94 = .ok (.invokestatic 69, 3) := by decide +kernel
theorem dX3_wander_97 : decode cX3_wander 97 = .ok (.lor, 1) := by decide +kernel
theorem dX3_wander_98 : decode cX3_wander 98 = .ok (.lstore 4, 2) := by decide +kernel
theorem dX3_wander_100 : decode cX3_wander 100 = .ok (.iload 9, 2) := by decide +kernel
theorem dX3_wander_102 : decode cX3_wander 102 = .ok (.istore_n 3, 1) := by decide +kernel
theorem dX3_wander_103 : decode cX3_wander 103 = .ok (.goto 29, 3) := by decide +kernel
theorem dX3_wander_106 : decode cX3_wander 106 = .ok (.iload_n 3, 1) := by decide +kernel
theorem dX3_wander_107 : decode cX3_wander 107 = .ok (.ifCond .eq 17, 3) := by decide +kernel
theorem dX3_wander_110 : decode cX3_wander 110 = .ok (.aload_n 0, 1) := by decide +kernel
theorem dX3_wander_111 : decode cX3_wander 111 = .ok (.getfield 9, 3) := by decide +kernel
theorem dX3_wander_114 : decode cX3_wander 114 = .ok (.getfield 80, 3) := by decide +kernel
theorem dX3_wander_117 : decode cX3_wander 117 = .ok (.iload_n 3, 1) := by decide +kernel
theorem dX3_wander_118 : decode cX3_wander 118 = .ok (.invokestatic 48, 3) := by decide +kernel
theorem dX3_wander_121 : decode cX3_wander 121 = .ok (.ifCond .ne 4, 3) := by decide +kernel
theorem dX3_wander_124 : decode cX3_wander 124 = .ok (.return_, 1) := by decide +kernel
theorem dX3_wander_125 : decode cX3_wander 125 = .ok (.aload_n 0, 1) := by decide +kernel
theorem dX3_wander_126 : decode cX3_wander 126 = .ok (.getfield 19, 3) := by decide +kernel
theorem dX3_wander_129 : decode cX3_wander 129 = .ok (.iload_n 3, 1) := by decide +kernel
theorem dX3_wander_130 : decode cX3_wander 130 = .ok (.iaload, 1) := by decide +kernel
theorem dX3_wander_131 : decode cX3_wander 131 = .ok (.istore_n 3, 1) := by decide +kernel
theorem dX3_wander_132 : decode cX3_wander 132 = .ok (.iinc 6 1, 3) := by decide +kernel
theorem dX3_wander_135 : decode cX3_wander 135 = .ok (.goto (-119), 3) := by decide +kernel
theorem dX3_wander_138 : decode cX3_wander 138 = .ok (.return_, 1) := by decide +kernel
set_option maxRecDepth 20000 in
theorem ggX3_isNew_X1_beside : GoodIn wsX3_isNew wsX1_beside := goodIn_r _ [8, 9, 10, 11, 7, 12, 18, 19, 20, 21, 22, 23, 24] (by decide +kernel) (by decide +kernel)
set_option maxRecDepth 20000 in
theorem gX3_isNew_X1_beside : GoodIn wsX3_isNew (wsV RX3 44 RX1 yX1_beside wsX1_beside) := goodIn_app (goodIn_of _ (by decide +kernel)) ggX3_isNew_X1_beside
set_option maxRecDepth 20000 in
theorem ggX3_isNew_X1_has : GoodIn wsX3_isNew wsX1_has := goodIn_r _ [12] (by decide +kernel) (by decide +kernel)
set_option maxRecDepth 20000 in
theorem gX3_isNew_X1_has : GoodIn wsX3_isNew (va_wsS RX3 48 yX1_has wsX1_has) := goodIn_app (goodIn_of _ (by decide +kernel)) ggX3_isNew_X1_has
theorem dX3_isNew_0 : decode cX3_isNew 0 = .ok (.aload_n 0, 1) := by decide +kernel
theorem dX3_isNew_1 : decode cX3_isNew 1 = .ok (.getfield 9, 3) := by decide +kernel
theorem dX3_isNew_4 : decode cX3_isNew 4 = .ok (.getfield 80, 3) := by decide +kernel
theorem dX3_isNew_7 : decode cX3_isNew 7 = .ok (.lload_n 3, 1) := by decide +kernel
theorem dX3_isNew_8 : decode cX3_isNew 8 = .ok (.ldc2_w 83, 3) := by decide +kernel
theorem dX3_isNew_11 : decode cX3_isNew 11 = .ok (.lxor, 1) := by decide +kernel
theorem dX3_isNew_12 : decode cX3_isNew 12 = .ok (.land, 1) := by decide +kernel
theorem dX3_isNew_13 : decode cX3_isNew 13 = .ok (.aload_n 0, 1) := by decide +kernel
theorem dX3_isNew_14 : decode cX3_isNew 14 = .ok (.getfield 9, 3) := by decide +kernel
theorem dX3_isNew_17 : decode cX3_isNew 17 = .ok (.iload_n 1, 1) := by decide +kernel
theorem dX3_isNew_18 : decode cX3_isNew 18 = .ok (.iload_n 2, 1) := by decide +kernel
theorem dX3_isNew_19 : decode cX3_isNew 19 = .ok (.invokevirtual 44, 3) := by decide +kernel
theorem dX3_isNew_22 : decode cX3_isNew 22 = .ok (.invokestatic 48, 3) := by decide +kernel
theorem dX3_isNew_25 : decode cX3_isNew 25 = .ok (.ireturn, 1) := by decide +kernel
set_option maxRecDepth 20000 in
theorem ggX3_newSides_X3_isNew : GoodIn wsX3_newSides wsX3_isNew := goodIn_r _ [5, 6, 7, 8, 9, 10, 11, 12, 13, 14, 15, 16, 17, 18, 19, 20, 21, 22, 23, 24, 25, 26, 27, 28, 29] (by decide +kernel) (by decide +kernel)
set_option maxRecDepth 20000 in
theorem gX3_newSides_X3_isNew : GoodIn wsX3_newSides (wsV RX3 85 RX3 yX3_isNew wsX3_isNew) := goodIn_app (goodIn_of _ (by decide +kernel)) ggX3_newSides_X3_isNew
theorem dX3_newSides_0 : decode cX3_newSides 0 = .ok (.iconst 0, 1) := by decide +kernel
theorem dX3_newSides_1 : decode cX3_newSides 1 = .ok (.istore 4, 2) := by decide +kernel
theorem dX3_newSides_3 : decode cX3_newSides 3 = .ok (.iconst 0, 1) := by decide +kernel
theorem dX3_newSides_4 : decode cX3_newSides 4 = .ok (.istore 5, 2) := by decide +kernel
theorem dX3_newSides_6 : decode cX3_newSides 6 = .ok (.iload 5, 2) := by decide +kernel
theorem dX3_newSides_8 : decode cX3_newSides 8 = .ok (.iconst 4, 1) := by decide +kernel
theorem dX3_newSides_9 : decode cX3_newSides 9 = .ok (.if_icmp .ge 23, 3) := by decide +kernel
theorem dX3_newSides_12 : decode cX3_newSides 12 = .ok (.aload_n 0, 1) := by decide +kernel
theorem dX3_newSides_13 : decode cX3_newSides 13 = .ok (.iload_n 1, 1) := by decide +kernel
theorem dX3_newSides_14 : decode cX3_newSides 14 = .ok (.iload 5, 2) := by decide +kernel
theorem dX3_newSides_16 : decode cX3_newSides 16 = .ok (.lload_n 2, 1) := by decide +kernel
theorem dX3_newSides_17 : decode cX3_newSides 17 = .ok (.invokevirtual 85, 3) := by decide +kernel
theorem dX3_newSides_20 : decode cX3_newSides 20 = .ok (.ifCond .eq 6, 3) := by decide +kernel
theorem dX3_newSides_23 : decode cX3_newSides 23 = .ok (.iinc 4 1, 3) := by decide +kernel
theorem dX3_newSides_26 : decode cX3_newSides 26 = .ok (.iinc 5 1, 3) := by decide +kernel
theorem dX3_newSides_29 : decode cX3_newSides 29 = .ok (.goto (-23), 3) := by decide +kernel
theorem dX3_newSides_32 : decode cX3_newSides 32 = .ok (.iload 4, 2) := by decide +kernel
theorem dX3_newSides_34 : decode cX3_newSides 34 = .ok (.ireturn, 1) := by decide +kernel
set_option maxRecDepth 20000 in
theorem ggX3_newSide_X3_isNew : GoodIn wsX3_newSide wsX3_isNew := goodIn_r _ [5, 6, 7, 8, 9, 10, 11, 12, 13, 14, 15, 16, 17, 18, 19, 20, 21, 22, 23, 24, 25, 26, 27, 28, 29] (by decide +kernel) (by decide +kernel)
set_option maxRecDepth 20000 in
theorem gX3_newSide_X3_isNew : GoodIn wsX3_newSide (wsV RX3 85 RX3 yX3_isNew wsX3_isNew) := goodIn_app (goodIn_of _ (by decide +kernel)) ggX3_newSide_X3_isNew
theorem dX3_newSide_0 : decode cX3_newSide 0 = .ok (.iconst 0, 1) := by decide +kernel
theorem dX3_newSide_1 : decode cX3_newSide 1 = .ok (.istore 5, 2) := by decide +kernel
theorem dX3_newSide_3 : decode cX3_newSide 3 = .ok (.iconst 0, 1) := by decide +kernel
theorem dX3_newSide_4 : decode cX3_newSide 4 = .ok (.istore 6, 2) := by decide +kernel
theorem dX3_newSide_6 : decode cX3_newSide 6 = .ok (.iload 6, 2) := by decide +kernel
theorem dX3_newSide_8 : decode cX3_newSide 8 = .ok (.iconst 4, 1) := by decide +kernel
theorem dX3_newSide_9 : decode cX3_newSide 9 = .ok (.if_icmp .ge 33, 3) := by decide +kernel
theorem dX3_newSide_12 : decode cX3_newSide 12 = .ok (.aload_n 0, 1) := by decide +kernel
theorem dX3_newSide_13 : decode cX3_newSide 13 = .ok (.iload_n 1, 1) := by decide +kernel
theorem dX3_newSide_14 : decode cX3_newSide 14 = .ok (.iload 6, 2) := by decide +kernel
theorem dX3_newSide_16 : decode cX3_newSide 16 = .ok (.lload_n 2, 1) := by decide +kernel
theorem dX3_newSide_17 : decode cX3_newSide 17 = .ok (.invokevirtual 85, 3) := by decide +kernel
theorem dX3_newSide_20 : decode cX3_newSide 20 = .ok (.ifCond .eq 16, 3) := by decide +kernel
theorem dX3_newSide_23 : decode cX3_newSide 23 = .ok (.iload 5, 2) := by decide +kernel
theorem dX3_newSide_25 : decode cX3_newSide 25 = .ok (.iload 4, 2) := by decide +kernel
theorem dX3_newSide_27 : decode cX3_newSide 27 = .ok (.if_icmp .ne 6, 3) := by decide +kernel
theorem dX3_newSide_30 : decode cX3_newSide 30 = .ok (.iload 6, 2) := by decide +kernel
theorem dX3_newSide_32 : decode cX3_newSide 32 = .ok (.ireturn, 1) := by decide +kernel
theorem dX3_newSide_33 : decode cX3_newSide 33 = .ok (.iinc 5 1, 3) := by decide +kernel
theorem dX3_newSide_36 : decode cX3_newSide 36 = .ok (.iinc 6 1, 3) := by decide +kernel
theorem dX3_newSide_39 : decode cX3_newSide 39 = .ok (.goto (-33), 3) := by decide +kernel
theorem dX3_newSide_42 : decode cX3_newSide 42 = .ok (.iconst 4, 1) := by decide +kernel
theorem dX3_newSide_43 : decode cX3_newSide 43 = .ok (.ireturn, 1) := by decide +kernel
theorem dX4_init_0 : decode cX4_init 0 = .ok (.aload_n 0, 1) := by decide +kernel
theorem dX4_init_1 : decode cX4_init 1 = .ok (.invokespecial 3, 3) := by decide +kernel
theorem dX4_init_4 : decode cX4_init 4 = .ok (.aload_n 0, 1) := by decide +kernel
theorem dX4_init_5 : decode cX4_init 5 = .ok (.aload_n 1, 1) := by decide +kernel
theorem dX4_init_6 : decode cX4_init 6 = .ok (.putfield 9, 3) := by decide +kernel
theorem dX4_init_9 : decode cX4_init 9 = .ok (.aload_n 0, 1) := by decide +kernel
theorem dX4_init_10 : decode cX4_init 10 = .ok (.bipush 36, 2) := by decide +kernel
theorem dX4_init_12 : decode cX4_init 12 = .ok (.newarray .long, 2) := by decide +kernel
theorem dX4_init_14 : decode cX4_init 14 = .ok (.putfield 15, 3) := by decide +kernel
theorem dX4_init_17 : decode cX4_init 17 = .ok (.aload_n 0, 1) := by decide +kernel
theorem dX4_init_18 : decode cX4_init 18 = .ok (.bipush 48, 2) := by decide +kernel
theorem dX4_init_20 : decode cX4_init 20 = .ok (.newarray .long, 2) := by decide +kernel
theorem dX4_init_22 : decode cX4_init 22 = .ok (.putfield 19, 3) := by decide +kernel
theorem dX4_init_25 : decode cX4_init 25 = .ok (.return_, 1) := by decide +kernel
set_option maxRecDepth 20000 in
theorem ggX4_shortestWays_X1_has : GoodIn wsX4_shortestWays wsX1_has := goodIn_r _ [8] (by decide +kernel) (by decide +kernel)
set_option maxRecDepth 20000 in
theorem gX4_shortestWays_X1_has : GoodIn wsX4_shortestWays (va_wsS RX4 28 yX1_has wsX1_has) := goodIn_app (goodIn_of _ (by decide +kernel)) ggX4_shortestWays_X1_has
set_option maxRecDepth 20000 in
theorem ggX4_shortestWays_X1_bit : GoodIn wsX4_shortestWays wsX1_bit := goodIn_r _ [11] (by decide +kernel) (by decide +kernel)
set_option maxRecDepth 20000 in
theorem gX4_shortestWays_X1_bit : GoodIn wsX4_shortestWays (va_wsS RX4 32 yX1_bit wsX1_bit) := goodIn_app (goodIn_of _ (by decide +kernel)) ggX4_shortestWays_X1_bit
set_option maxRecDepth 20000 in
theorem ggX4_shortestWays_X1_near : GoodIn wsX4_shortestWays wsX1_near := goodIn_r _ [15, 16, 17, 40, 41, 42, 43, 44, 45, 46] (by decide +kernel) (by decide +kernel)
set_option maxRecDepth 20000 in
theorem gX4_shortestWays_X1_near : GoodIn wsX4_shortestWays (wsV RX4 36 RX1 yX1_near wsX1_near) := goodIn_app (goodIn_of _ (by decide +kernel)) ggX4_shortestWays_X1_near
set_option maxRecDepth 20000 in
theorem ggX4_shortestWays_X4_waysInto : GoodIn wsX4_shortestWays wsX4_waysInto := goodIn_r _ [22, 1, 3, 23, 24, 25, 7, 26, 27, 28, 29, 30, 17, 16, 31, 6, 8, 32, 33, 34, 35, 36, 5, 37, 38, 39, 40, 41, 42, 43, 44, 45, 46] (by decide +kernel) (by decide +kernel)
set_option maxRecDepth 20000 in
theorem gX4_shortestWays_X4_waysInto : GoodIn wsX4_shortestWays (wsV RX4 42 RX4 yX4_waysInto wsX4_waysInto) := goodIn_app (goodIn_of _ (by decide +kernel)) ggX4_shortestWays_X4_waysInto
theorem dX4_shortestWays_0 : decode cX4_shortestWays 0 = .ok (.aload_n 0, 1) := by decide +kernel
theorem dX4_shortestWays_1 : decode cX4_shortestWays 1 = .ok (.getfield 9, 3) := by decide +kernel
theorem dX4_shortestWays_4 : decode cX4_shortestWays 4 = .ok (.getfield 22, 3) := by decide +kernel
theorem dX4_shortestWays_7 : decode cX4_shortestWays 7 = .ok (.iload_n 1, 1) := by decide +kernel
theorem dX4_shortestWays_8 : decode cX4_shortestWays 8 = .ok (.invokestatic 28, 3) := by decide +kernel
theorem dX4_shortestWays_11 : decode cX4_shortestWays 11 = .ok (.ifCond .ne 5, 3) := by decide +kernel
theorem dX4_shortestWays_14 : decode cX4_shortestWays 14 = .ok (.lconst 0, 1) := by decide +kernel
theorem dX4_shortestWays_15 : decode cX4_shortestWays 15 = .ok (.lreturn, 1) := by decide +kernel
theorem dX4_shortestWays_16 : decode cX4_shortestWays 16 = .ok (.aload_n 0, 1) := by decide +kernel
theorem dX4_shortestWays_17 : decode cX4_shortestWays 17 = .ok (.getfield 19, 3) := by decide +kernel
theorem dX4_shortestWays_20 : decode cX4_shortestWays 20 = .ok (.iload_n 1, 1) := by decide +kernel
theorem dX4_shortestWays_21 : decode cX4_shortestWays 21 = .ok (.lconst 1, 1) := by decide +kernel
theorem dX4_shortestWays_22 : decode cX4_shortestWays 22 = .ok (.lastore, 1) := by decide +kernel
theorem dX4_shortestWays_23 : decode cX4_shortestWays 23 = .ok (.iload_n 1, 1) := by decide +kernel
theorem dX4_shortestWays_24 : decode cX4_shortestWays 24 = .ok (.invokestatic 32, 3) := by decide +kernel
theorem dX4_shortestWays_27 : decode cX4_shortestWays 27 = .ok (.lstore_n 3, 1) := by decide +kernel
theorem dX4_shortestWays_28 : decode cX4_shortestWays 28 = .ok (.lload_n 3, 1) := by decide +kernel
theorem dX4_shortestWays_29 : decode cX4_shortestWays 29 = .ok (.lstore 5, 2) := by decide +kernel
theorem dX4_shortestWays_31 : decode cX4_shortestWays 31 = .ok (.iconst 0, 1) := by decide +kernel
theorem dX4_shortestWays_32 : decode cX4_shortestWays 32 = .ok (.istore 7, 2) := by decide +kernel
theorem dX4_shortestWays_34 : decode cX4_shortestWays 34 = .ok (.iload 7, 2) := by decide +kernel
theorem dX4_shortestWays_36 : decode cX4_shortestWays 36 = .ok (.bipush 36, 2) := by decide +kernel
theorem dX4_shortestWays_38 : decode cX4_shortestWays 38 = .ok (.if_icmp .ge 99, 3) := by decide +kernel
theorem dX4_shortestWays_41 : decode cX4_shortestWays 41 = .ok (.lload 5, 2) := by decide +kernel
theorem dX4_shortestWays_43 : decode cX4_shortestWays 43 = .ok (.lconst 0, 1) := by decide +kernel
theorem dX4_shortestWays_44 : decode cX4_shortestWays 44 = .ok (.lcmp, 1) := by decide +kernel
theorem dX4_shortestWays_45 : decode cX4_shortestWays 45 = .ok (.ifCond .eq 92, 3) := by decide +kernel
theorem dX4_shortestWays_48 : decode cX4_shortestWays 48 = .ok (.lload 5, 2) := by decide +kernel
theorem dX4_shortestWays_50 : decode cX4_shortestWays 50 = .ok (.iload_n 2, 1) := by decide +kernel
theorem dX4_shortestWays_51 : decode cX4_shortestWays 51 = .ok (.invokestatic 28, 3) := by decide +kernel
theorem dX4_shortestWays_54 : decode cX4_shortestWays 54 = .ok (.ifCond .eq 10, 3) := by decide +kernel
theorem dX4_shortestWays_57 : decode cX4_shortestWays 57 = .ok (.aload_n 0, 1) := by decide +kernel
theorem dX4_shortestWays_58 : decode cX4_shortestWays 58 = .ok (.getfield 19, 3) := by decide +kernel
theorem dX4_shortestWays_61 : decode cX4_shortestWays 61 = .ok (.iload_n 2, 1) := by decide +kernel
theorem dX4_shortestWays_62 : decode cX4_shortestWays 62 = .ok (.laload, 1) := by decide +kernel
theorem dX4_shortestWays_63 : decode cX4_shortestWays 63 = .ok (.lreturn, 1) := by decide +kernel
theorem dX4_shortestWays_64 : decode cX4_shortestWays 64 = .ok (.aload_n 0, 1) := by decide +kernel
theorem dX4_shortestWays_65 : decode cX4_shortestWays 65 = .ok (.getfield 9, 3) := by decide +kernel
theorem dX4_shortestWays_68 : decode cX4_shortestWays 68 = .ok (.lload 5, 2) := by decide +kernel
theorem dX4_shortestWays_70 : decode cX4_shortestWays 70 = .ok (.invokevirtual 36, 3) := by decide +kernel
theorem dX4_shortestWays_73 : decode cX4_shortestWays 73 = .ok (.lload_n 3, 1) := by decide +kernel
theorem dX4_shortestWays_74 : decode cX4_shortestWays 74 = .ok (.ldc2_w 40, 3) := by decide +kernel
theorem dX4_shortestWays_77 : decode cX4_shortestWays 77 = .ok (.lxor, 1) := by decide +kernel
theorem dX4_shortestWays_78 : decode cX4_shortestWays 78 = .ok (.land, 1) := by decide +kernel
theorem dX4_shortestWays_79 : decode cX4_shortestWays 79 = .ok (.lstore 8, 2) := by decide +kernel
theorem dX4_shortestWays_81 : decode cX4_shortestWays 81 = .ok (.iconst 0, 1) := by decide +kernel
theorem dX4_shortestWays_82 : decode cX4_shortestWays 82 = .ok (.istore 10, 2) := by decide +kernel
theorem dX4_shortestWays_84 : decode cX4_shortestWays 84 = .ok (.iload 10, 2) := by decide +kernel
theorem dX4_shortestWays_86 : decode cX4_shortestWays 86 = .ok (.bipush 48, 2) := by decide +kernel
theorem dX4_shortestWays_88 : decode cX4_shortestWays 88 = .ok (.if_icmp .ge 34, 3) := by decide +kernel
theorem dX4_shortestWays_91 : decode cX4_shortestWays 91 = .ok (.lload 8, 2) := by decide +kernel
theorem dX4_shortestWays_93 : decode cX4_shortestWays 93 = .ok (.iload 10, 2) := by decide +kernel
theorem dX4_shortestWays_95 : decode cX4_shortestWays 95 = .ok (.invokestatic 28, 3) := by decide +kernel
theorem dX4_shortestWays_98 : decode cX4_shortestWays 98 = .ok (.ifCond .eq 18, 3) := by decide +kernel
theorem dX4_shortestWays_101 : decode cX4_shortestWays 101 = .ok (.aload_n 0, 1) := by decide +kernel
theorem dX4_shortestWays_102 : decode cX4_shortestWays 102 = .ok (.getfield 19, 3) := by decide +kernel
theorem dX4_shortestWays_105 : decode cX4_shortestWays 105 = .ok (.iload 10, 2) := by decide +kernel
theorem dX4_shortestWays_107 : decode cX4_shortestWays 107 = .ok (.aload_n 0, 1) := by decide +kernel
theorem dX4_shortestWays_108 : decode cX4_shortestWays 108 = .ok (.iload 10, 2) := by decide +kernel
theorem dX4_shortestWays_110 : decode cX4_shortestWays 110 = .ok (.lload 5, 2) := by decide +kernel
theorem dX4_shortestWays_112 : decode cX4_shortestWays 112 = .ok (.invokevirtual 42, 3) := by decide +kernel
theorem dX4_shortestWays_115 : decode cX4_shortestWays 115 = .ok (.lastore, 1) := by decide +kernel
theorem dX4_shortestWays_116 : decode cX4_shortestWays 116 = .ok (.iinc 10 1, 3) := by decide +kernel
theorem dX4_shortestWays_119 : decode cX4_shortestWays 119 = .ok (.goto (-35), 3) := by decide +kernel
theorem dX4_shortestWays_122 : decode cX4_shortestWays 122 = .ok (.lload_n 3, 1) := by decide +kernel
theorem dX4_shortestWays_123 : decode cX4_shortestWays 123 = .ok (.lload 8, 2) := by decide +kernel
theorem dX4_shortestWays_125 : decode cX4_shortestWays 125 = .ok (.lor, 1) := by decide +kernel
theorem dX4_shortestWays_126 : decode cX4_shortestWays 126 = .ok (.lstore_n 3, 1) := by decide +kernel
theorem dX4_shortestWays_127 : decode cX4_shortestWays 127 = .ok (.lload 8, 2) := by decide +kernel
theorem dX4_shortestWays_129 : decode cX4_shortestWays 129 = .ok (.lstore 5, 2) := by decide +kernel
theorem dX4_shortestWays_131 : decode cX4_shortestWays 131 = .ok (.iinc 7 1, 3) := by decide +kernel
theorem dX4_shortestWays_134 : decode cX4_shortestWays 134 = .ok (.goto (-100), 3) := by decide +kernel
theorem dX4_shortestWays_137 : decode cX4_shortestWays 137 = .ok (.lconst 0, 1) := by decide +kernel
theorem dX4_shortestWays_138 : decode cX4_shortestWays 138 = .ok (.lreturn, 1) := by decide +kernel
set_option maxRecDepth 20000 in
theorem ggX4_waysInto_X1_neighbour : GoodIn wsX4_waysInto wsX1_neighbour := goodIn_r _ [7, 8, 9, 10, 6, 11, 12, 13, 14, 15, 16, 17, 18, 19, 20, 21, 26, 27, 28, 29, 30, 31, 32] (by decide +kernel) (by decide +kernel)
set_option maxRecDepth 20000 in
theorem gX4_waysInto_X1_neighbour : GoodIn wsX4_waysInto (wsV RX4 46 RX1 yX1_neighbour wsX1_neighbour) := goodIn_app (goodIn_of _ (by decide +kernel)) ggX4_waysInto_X1_neighbour
set_option maxRecDepth 20000 in
theorem ggX4_waysInto_X1_has : GoodIn wsX4_waysInto wsX1_has := goodIn_r _ [16] (by decide +kernel) (by decide +kernel)
set_option maxRecDepth 20000 in
theorem gX4_waysInto_X1_has : GoodIn wsX4_waysInto (va_wsS RX4 28 yX1_has wsX1_has) := goodIn_app (goodIn_of _ (by decide +kernel)) ggX4_waysInto_X1_has
theorem dX4_waysInto_0 : decode cX4_waysInto 0 = .ok (.lconst 0, 1) := by decide +kernel
theorem dX4_waysInto_1 : decode cX4_waysInto 1 = .ok (.lstore 4, 2) := by decide +kernel
theorem dX4_waysInto_3 : decode cX4_waysInto 3 = .ok (.iconst 0, 1) := by decide +kernel
theorem dX4_waysInto_4 : decode cX4_waysInto 4 = .ok (.istore 6, 2) := by decide +kernel
theorem dX4_waysInto_6 : decode cX4_waysInto 6 = .ok (.iload 6, 2) := by decide +kernel
theorem dX4_waysInto_8 : decode cX4_waysInto 8 = .ok (.iconst 4, 1) := by decide +kernel
theorem dX4_waysInto_9 : decode cX4_waysInto 9 = .ok (.if_icmp .ge 48, 3) := by decide +kernel
theorem dX4_waysInto_12 : decode cX4_waysInto 12 = .ok (.aload_n 0, 1) := by decide +kernel
theorem dX4_waysInto_13 : decode cX4_waysInto 13 = .ok (.getfield 9, 3) := by decide +kernel
theorem dX4_waysInto_16 : decode cX4_waysInto 16 = .ok (.iload_n 1, 1) := by decide +kernel
theorem dX4_waysInto_17 : decode cX4_waysInto 17 = .ok (.iload 6, 2) := by decide +kernel
theorem dX4_waysInto_19 : decode cX4_waysInto 19 = .ok (.invokevirtual 46, 3) := by decide +kernel
theorem dX4_waysInto_22 : decode cX4_waysInto 22 = .ok (.istore 7, 2) := by decide +kernel
theorem dX4_waysInto_24 : decode cX4_waysInto 24 = .ok (.iload 7, 2) := by decide +kernel
theorem dX4_waysInto_26 : decode cX4_waysInto 26 = .ok (.iconst (-1), 1) := by decide +kernel
theorem dX4_waysInto_27 : decode cX4_waysInto 27 = .ok (.if_icmp .eq 24, 3) := by decide +kernel
theorem dX4_waysInto_30 : decode cX4_waysInto 30 = .ok (.lload_n 2, 1) := by decide +kernel
theorem dX4_waysInto_31 : decode cX4_waysInto 31 = .ok (.iload 7, 2) := by decide +kernel
theorem dX4_waysInto_33 : decode cX4_waysInto 33 = .ok (.invokestatic 28, 3) := by decide +kernel
theorem dX4_waysInto_36 : decode cX4_waysInto 36 = .ok (.ifCond .eq 15, 3) := by decide +kernel
theorem dX4_waysInto_39 : decode cX4_waysInto 39 = .ok (.lload 4, 2) := by decide +kernel
theorem dX4_waysInto_41 : decode cX4_waysInto 41 = .ok (.aload_n 0, 1) := by decide +kernel
theorem dX4_waysInto_42 : decode cX4_waysInto 42 = .ok (.getfield 19, 3) := by decide +kernel
theorem dX4_waysInto_45 : decode cX4_waysInto 45 = .ok (.iload 7, 2) := by decide +kernel
theorem dX4_waysInto_47 : decode cX4_waysInto 47 = .ok (.laload, 1) := by decide +kernel
theorem dX4_waysInto_48 : decode cX4_waysInto 48 = .ok (.ladd, 1) := by decide +kernel
theorem dX4_waysInto_49 : decode cX4_waysInto 49 = .ok (.lstore 4, 2) := by decide +kernel
theorem dX4_waysInto_51 : decode cX4_waysInto 51 = .ok (.iinc 6 1, 3) := by decide +kernel
theorem dX4_waysInto_54 : decode cX4_waysInto 54 = .ok (.goto (-48), 3) := by decide +kernel
theorem dX4_waysInto_57 : decode cX4_waysInto 57 = .ok (.lload 4, 2) := by decide +kernel
theorem dX4_waysInto_59 : decode cX4_waysInto 59 = .ok (.lreturn, 1) := by decide +kernel
set_option maxRecDepth 20000 in
theorem ggX4_placeOnFirst_X1_distance : GoodIn wsX4_placeOnFirst wsX1_distance := goodIn_r _ [7, 8, 9, 6, 10, 11, 12, 13, 14, 15, 16, 17, 18, 19, 44, 45, 46, 47, 48, 49, 50] (by decide +kernel) (by decide +kernel)
set_option maxRecDepth 20000 in
theorem gX4_placeOnFirst_X1_distance : GoodIn wsX4_placeOnFirst (wsV RX4 50 RX1 yX1_distance wsX1_distance) := goodIn_app (goodIn_of _ (by decide +kernel)) ggX4_placeOnFirst_X1_distance
set_option maxRecDepth 20000 in
theorem ggX4_placeOnFirst_X1_bit : GoodIn wsX4_placeOnFirst wsX1_bit := goodIn_r _ [10] (by decide +kernel) (by decide +kernel)
set_option maxRecDepth 20000 in
theorem gX4_placeOnFirst_X1_bit : GoodIn wsX4_placeOnFirst (va_wsS RX4 32 yX1_bit wsX1_bit) := goodIn_app (goodIn_of _ (by decide +kernel)) ggX4_placeOnFirst_X1_bit
set_option maxRecDepth 20000 in
theorem ggX4_placeOnFirst_X1_near : GoodIn wsX4_placeOnFirst wsX1_near := goodIn_r _ [17, 18, 19, 44, 45, 46, 47, 48, 49, 50] (by decide +kernel) (by decide +kernel)
set_option maxRecDepth 20000 in
theorem gX4_placeOnFirst_X1_near : GoodIn wsX4_placeOnFirst (wsV RX4 36 RX1 yX1_near wsX1_near) := goodIn_app (goodIn_of _ (by decide +kernel)) ggX4_placeOnFirst_X1_near
set_option maxRecDepth 20000 in
theorem ggX4_placeOnFirst_X4_firstInto : GoodIn wsX4_placeOnFirst wsX4_firstInto := goodIn_r _ [26, 1, 2, 27, 28, 29, 6, 30, 31, 32, 33, 34, 19, 18, 11, 12, 13, 35, 36, 37, 38, 39, 40, 41, 42, 43, 44, 45, 46, 47, 48, 49, 50] (by decide +kernel) (by decide +kernel)
set_option maxRecDepth 20000 in
theorem gX4_placeOnFirst_X4_firstInto : GoodIn wsX4_placeOnFirst (wsV RX4 53 RX4 yX4_firstInto wsX4_firstInto) := goodIn_app (goodIn_of _ (by decide +kernel)) ggX4_placeOnFirst_X4_firstInto
theorem dX4_placeOnFirst_0 : decode cX4_placeOnFirst 0 = .ok (.aload_n 0, 1) := by decide +kernel
theorem dX4_placeOnFirst_1 : decode cX4_placeOnFirst 1 = .ok (.getfield 9, 3) := by decide +kernel
theorem dX4_placeOnFirst_4 : decode cX4_placeOnFirst 4 = .ok (.iload_n 1, 1) := by decide +kernel
theorem dX4_placeOnFirst_5 : decode cX4_placeOnFirst 5 = .ok (.iload_n 2, 1) := by decide +kernel
theorem dX4_placeOnFirst_6 : decode cX4_placeOnFirst 6 = .ok (.invokevirtual 50, 3) := by decide +kernel
theorem dX4_placeOnFirst_9 : decode cX4_placeOnFirst 9 = .ok (.istore 4, 2) := by decide +kernel
theorem dX4_placeOnFirst_11 : decode cX4_placeOnFirst 11 = .ok (.iload 4, 2) := by decide +kernel
theorem dX4_placeOnFirst_13 : decode cX4_placeOnFirst 13 = .ok (.bipush (-9), 2) := by decide +kernel
theorem dX4_placeOnFirst_15 : decode cX4_placeOnFirst 15 = .ok (.if_icmp .eq 13, 3) := by decide +kernel
theorem dX4_placeOnFirst_18 : decode cX4_placeOnFirst 18 = .ok (.iload_n 3, 1) := by decide +kernel
theorem dX4_placeOnFirst_19 : decode cX4_placeOnFirst 19 = .ok (.ifCond .lt 9, 3) := by decide +kernel
theorem dX4_placeOnFirst_22 : decode cX4_placeOnFirst 22 = .ok (.iload_n 3, 1) := by decide +kernel
theorem dX4_placeOnFirst_23 : decode cX4_placeOnFirst 23 = .ok (.iload 4, 2) := by decide +kernel
theorem dX4_placeOnFirst_25 : decode cX4_placeOnFirst 25 = .ok (.if_icmp .le 5, 3) := by decide +kernel
theorem dX4_placeOnFirst_28 : decode cX4_placeOnFirst 28 = .ok (.iconst (-1), 1) := by decide +kernel
theorem dX4_placeOnFirst_29 : decode cX4_placeOnFirst 29 = .ok (.ireturn, 1) := by decide +kernel
theorem dX4_placeOnFirst_30 : decode cX4_placeOnFirst 30 = .ok (.aload_n 0, 1) := by decide +kernel
theorem dX4_placeOnFirst_31 : decode cX4_placeOnFirst 31 = .ok (.getfield 15, 3) := by decide +kernel
theorem dX4_placeOnFirst_34 : decode cX4_placeOnFirst 34 = .ok (.iconst 0, 1) := by decide +kernel
theorem dX4_placeOnFirst_35 : decode cX4_placeOnFirst 35 = .ok (.iload_n 2, 1) := by decide +kernel
theorem dX4_placeOnFirst_36 : decode cX4_placeOnFirst 36 = .ok (.invokestatic 32, 3) := by decide +kernel
theorem dX4_placeOnFirst_39 : decode cX4_placeOnFirst 39 = .ok (.lastore, 1) := by decide +kernel
theorem dX4_placeOnFirst_40 : decode cX4_placeOnFirst 40 = .ok (.iconst 1, 1) := by decide +kernel
theorem dX4_placeOnFirst_41 : decode cX4_placeOnFirst 41 = .ok (.istore 5, 2) := by decide +kernel
theorem dX4_placeOnFirst_43 : decode cX4_placeOnFirst 43 = .ok (.iload 5, 2) := by decide +kernel
theorem dX4_placeOnFirst_45 : decode cX4_placeOnFirst 45 = .ok (.iload 4, 2) := by decide +kernel
theorem dX4_placeOnFirst_47 : decode cX4_placeOnFirst 47 = .ok (.if_icmp .ge 39, 3) := by decide +kernel
theorem dX4_placeOnFirst_50 : decode cX4_placeOnFirst 50 = .ok (.iload 5, 2) := by decide +kernel
theorem dX4_placeOnFirst_52 : decode cX4_placeOnFirst 52 = .ok (.bipush 36, 2) := by decide +kernel
theorem dX4_placeOnFirst_54 : decode cX4_placeOnFirst 54 = .ok (.if_icmp .ge 32, 3) := by decide +kernel
theorem dX4_placeOnFirst_57 : decode cX4_placeOnFirst 57 = .ok (.aload_n 0, 1) := by decide +kernel
theorem dX4_placeOnFirst_58 : decode cX4_placeOnFirst 58 = .ok (.getfield 15, 3) := by decide +kernel
theorem dX4_placeOnFirst_61 : decode cX4_placeOnFirst 61 = .ok (.iload 5, 2) := by decide +kernel
theorem dX4_placeOnFirst_63 : decode cX4_placeOnFirst 63 = .ok (.aload_n 0, 1) := by decide +kernel
theorem dX4_placeOnFirst_64 : decode cX4_placeOnFirst 64 = .ok (.getfield 9, 3) := by decide +kernel
theorem dX4_placeOnFirst_67 : decode cX4_placeOnFirst 67 = .ok (.aload_n 0, 1) := by decide +kernel
theorem dX4_placeOnFirst_68 : decode cX4_placeOnFirst 68 = .ok (.getfield 15, 3) := by decide +kernel
theorem dX4_placeOnFirst_71 : decode cX4_placeOnFirst 71 = .ok (.iload 5, 2) := by decide +kernel
theorem dX4_placeOnFirst_73 : decode cX4_placeOnFirst 73 = .ok (.iconst 1, 1) := by decide +kernel
theorem dX4_placeOnFirst_74 : decode cX4_placeOnFirst 74 = .ok (.isub, 1) := by decide +kernel
theorem dX4_placeOnFirst_75 : decode cX4_placeOnFirst 75 = .ok (.laload, 1) := by decide +kernel
theorem dX4_placeOnFirst_76 : decode cX4_placeOnFirst 76 = .ok (.invokevirtual 36, 3) := by decide +kernel
theorem dX4_placeOnFirst_79 : decode cX4_placeOnFirst 79 = .ok (.lastore, 1) := by decide +kernel
theorem dX4_placeOnFirst_80 : decode cX4_placeOnFirst 80 = .ok (.iinc 5 1, 3) := by decide +kernel
theorem dX4_placeOnFirst_83 : decode cX4_placeOnFirst 83 = .ok (.goto (-40), 3) := by decide +kernel
theorem dX4_placeOnFirst_86 : decode cX4_placeOnFirst 86 = .ok (.iload_n 1, 1) := by decide +kernel
theorem dX4_placeOnFirst_87 : decode cX4_placeOnFirst 87 = .ok (.istore 5, 2) := by decide +kernel
theorem dX4_placeOnFirst_89 : decode cX4_placeOnFirst 89 = .ok (.iconst 1, 1) := by decide +kernel
theorem dX4_placeOnFirst_90 : decode cX4_placeOnFirst 90 = .ok (.istore 6, 2) := by decide +kernel
theorem dX4_placeOnFirst_92 : decode cX4_placeOnFirst 92 = .ok (.iload 6, 2) := by decide +kernel
theorem dX4_placeOnFirst_94 : decode cX4_placeOnFirst 94 = .ok (.iload_n 3, 1) := by decide +kernel
theorem dX4_placeOnFirst_95 : decode cX4_placeOnFirst 95 = .ok (.if_icmp .gt 22, 3) := by decide +kernel
theorem dX4_placeOnFirst_98 : decode cX4_placeOnFirst 98 = .ok (.aload_n 0, 1) := by decide +kernel
theorem dX4_placeOnFirst_99 : decode cX4_placeOnFirst 99 = .ok (.iload 5, 2) := by decide +kernel
theorem dX4_placeOnFirst_101 : decode cX4_placeOnFirst 101 = .ok (.iload 4, 2) := by decide +kernel
theorem dX4_placeOnFirst_103 : decode cX4_placeOnFirst 103 = .ok (.iload 6, 2) := by decide +kernel
theorem dX4_placeOnFirst_105 : decode cX4_placeOnFirst 105 = .ok (.isub, 1) := by decide +kernel
theorem dX4_placeOnFirst_106 : decode cX4_placeOnFirst 106 = .ok (.invokevirtual 53, 3) := by decide +kernel
theorem dX4_placeOnFirst_109 : decode cX4_placeOnFirst 109 = .ok (.istore 5, 2) := by decide +kernel
theorem dX4_placeOnFirst_111 : decode cX4_placeOnFirst 111 = .ok (.iinc 6 1, 3) := by decide +kernel
theorem dX4_placeOnFirst_114 : decode cX4_placeOnFirst 114 = .ok (.goto (-22), 3) := by decide +kernel
theorem dX4_placeOnFirst_117 : decode cX4_placeOnFirst 117 = .ok (.iload 5, 2) := by decide +kernel
theorem dX4_placeOnFirst_119 : decode cX4_placeOnFirst 119 = .ok (.ireturn, 1) := by decide +kernel
set_option maxRecDepth 20000 in
theorem ggX4_firstInto_X1_neighbour : GoodIn wsX4_firstInto wsX1_neighbour := goodIn_r _ [7, 8, 9, 10, 6, 11, 12, 13, 14, 15, 16, 17, 18, 19, 20, 21, 26, 27, 28, 29, 30, 31, 32] (by decide +kernel) (by decide +kernel)
set_option maxRecDepth 20000 in
theorem gX4_firstInto_X1_neighbour : GoodIn wsX4_firstInto (wsV RX4 46 RX1 yX1_neighbour wsX1_neighbour) := goodIn_app (goodIn_of _ (by decide +kernel)) ggX4_firstInto_X1_neighbour
set_option maxRecDepth 20000 in
theorem ggX4_firstInto_X1_has : GoodIn wsX4_firstInto wsX1_has := goodIn_r _ [16] (by decide +kernel) (by decide +kernel)
set_option maxRecDepth 20000 in
theorem gX4_firstInto_X1_has : GoodIn wsX4_firstInto (va_wsS RX4 28 yX1_has wsX1_has) := goodIn_app (goodIn_of _ (by decide +kernel)) ggX4_firstInto_X1_has
theorem dX4_firstInto_0 : decode cX4_firstInto 0 = .ok (.iconst 0, 1) := by decide +kernel
theorem dX4_firstInto_1 : decode cX4_firstInto 1 = .ok (.istore_n 3, 1) := by decide +kernel
theorem dX4_firstInto_2 : decode cX4_firstInto 2 = .ok (.iload_n 3, 1) := by decide +kernel
theorem dX4_firstInto_3 : decode cX4_firstInto 3 = .ok (.iconst 4, 1) := by decide +kernel
theorem dX4_firstInto_4 : decode cX4_firstInto 4 = .ok (.if_icmp .ge 53, 3) := by decide +kernel
theorem dX4_firstInto_7 : decode cX4_firstInto 7 = .ok (.iload_n 2, 1) := by decide +kernel
theorem dX4_firstInto_8 : decode cX4_firstInto 8 = .ok (.ifCond .lt 49, 3) := by decide +kernel
theorem dX4_firstInto_11 : decode cX4_firstInto 11 = .ok (.iload_n 2, 1) := by decide +kernel
theorem dX4_firstInto_12 : decode cX4_firstInto 12 = .ok (.bipush 36, 2) := by decide +kernel
theorem dX4_firstInto_14 : decode cX4_firstInto 14 = .ok (.if_icmp .ge 43, 3) := by decide +kernel
theorem dX4_firstInto_17 : decode cX4_firstInto 17 = .ok (.aload_n 0, 1) := by decide +kernel
theorem dX4_firstInto_18 : decode cX4_firstInto 18 = .ok (.getfield 9, 3) := by decide +kernel
theorem dX4_firstInto_21 : decode cX4_firstInto 21 = .ok (.iload_n 1, 1) := by decide +kernel
theorem dX4_firstInto_22 : decode cX4_firstInto 22 = .ok (.iload_n 3, 1) := by decide +kernel
theorem dX4_firstInto_23 : decode cX4_firstInto 23 = .ok (.invokevirtual 46, 3) := by decide +kernel
theorem dX4_firstInto_26 : decode cX4_firstInto 26 = .ok (.istore 4, 2) := by decide +kernel
theorem dX4_firstInto_28 : decode cX4_firstInto 28 = .ok (.iload 4, 2) := by decide +kernel
theorem dX4_firstInto_30 : decode cX4_firstInto 30 = .ok (.iconst (-1), 1) := by decide +kernel
theorem dX4_firstInto_31 : decode cX4_firstInto 31 = .ok (.if_icmp .eq 20, 3) := by decide +kernel
theorem dX4_firstInto_34 : decode cX4_firstInto 34 = .ok (.aload_n 0, 1) := by decide +kernel
theorem dX4_firstInto_35 : decode cX4_firstInto 35 = .ok (.getfield 15, 3) := by decide +kernel
theorem dX4_firstInto_38 : decode cX4_firstInto 38 = .ok (.iload_n 2, 1) := by decide +kernel
theorem dX4_firstInto_39 : decode cX4_firstInto 39 = .ok (.laload, 1) := by decide +kernel
theorem dX4_firstInto_40 : decode cX4_firstInto 40 = .ok (.iload 4, 2) := by decide +kernel
theorem dX4_firstInto_42 : decode cX4_firstInto 42 = .ok (.invokestatic 28, 3) := by decide +kernel
theorem dX4_firstInto_45 : decode cX4_firstInto 45 = .ok (.ifCond .eq 6, 3) := by decide +kernel
theorem dX4_firstInto_48 : decode cX4_firstInto 48 = .ok (.iload 4, 2) := by decide +kernel
theorem dX4_firstInto_50 : decode cX4_firstInto 50 = .ok (.ireturn, 1) := by decide +kernel
theorem dX4_firstInto_51 : decode cX4_firstInto 51 = .ok (.iinc 3 1, 3) := by decide +kernel
theorem dX4_firstInto_54 : decode cX4_firstInto 54 = .ok (.goto (-52), 3) := by decide +kernel
theorem dX4_firstInto_57 : decode cX4_firstInto 57 = .ok (.iload_n 1, 1) := by decide +kernel
theorem dX4_firstInto_58 : decode cX4_firstInto 58 = .ok (.ireturn, 1) := by decide +kernel
set_option maxRecDepth 20000 in
theorem ggX4_greatestDistance_X1_has : GoodIn wsX4_greatestDistance wsX1_has := goodIn_r _ [8] (by decide +kernel) (by decide +kernel)
set_option maxRecDepth 20000 in
theorem gX4_greatestDistance_X1_has : GoodIn wsX4_greatestDistance (va_wsS RX4 28 yX1_has wsX1_has) := goodIn_app (goodIn_of _ (by decide +kernel)) ggX4_greatestDistance_X1_has
set_option maxRecDepth 20000 in
theorem ggX4_greatestDistance_X4_stepsToAll : GoodIn wsX4_greatestDistance wsX4_stepsToAll := goodIn_r _ [13, 14, 15, 16, 7, 17, 18, 19, 20, 21, 22, 23, 24, 25, 26, 27, 28, 29, 30, 31, 32, 33] (by decide +kernel) (by decide +kernel)
set_option maxRecDepth 20000 in
theorem gX4_greatestDistance_X4_stepsToAll : GoodIn wsX4_greatestDistance (wsV RX4 56 RX4 yX4_stepsToAll wsX4_stepsToAll) := goodIn_app (goodIn_of _ (by decide +kernel)) ggX4_greatestDistance_X4_stepsToAll
theorem dX4_greatestDistance_0 : decode cX4_greatestDistance 0 = .ok (.iconst 0, 1) := by decide +kernel
theorem dX4_greatestDistance_1 : decode cX4_greatestDistance 1 = .ok (.istore_n 3, 1) := by decide +kernel
theorem dX4_greatestDistance_2 : decode cX4_greatestDistance 2 = .ok (.iconst 0, 1) := by decide +kernel
theorem dX4_greatestDistance_3 : decode cX4_greatestDistance 3 = .ok (.istore 4, 2) := by decide +kernel
theorem dX4_greatestDistance_5 : decode cX4_greatestDistance 5 = .ok (.iload 4, 2) := by decide +kernel
theorem dX4_greatestDistance_7 : decode cX4_greatestDistance 7 = .ok (.bipush 48, 2) := by decide +kernel
theorem dX4_greatestDistance_9 : decode cX4_greatestDistance 9 = .ok (.if_icmp .ge 30, 3) := by decide +kernel
theorem dX4_greatestDistance_12 : decode cX4_greatestDistance 12 = .ok (.lload_n 1, 1) := by decide +kernel
theorem dX4_greatestDistance_13 : decode cX4_greatestDistance 13 = .ok (.iload 4, 2) := by decide +kernel
theorem dX4_greatestDistance_15 : decode cX4_greatestDistance 15 = .ok (.invokestatic 28, 3) := by decide +kernel
theorem dX4_greatestDistance_18 : decode cX4_greatestDistance 18 = .ok (.ifCond .eq 15, 3) := by decide +kernel
theorem dX4_greatestDistance_21 : decode cX4_greatestDistance 21 = .ok (.iload_n 3, 1) := by decide +kernel
theorem dX4_greatestDistance_22 : decode cX4_greatestDistance 22 = .ok (.aload_n 0, 1) := by decide +kernel
theorem dX4_greatestDistance_23 : decode cX4_greatestDistance 23 = .ok (.iload 4, 2) := by decide +kernel
theorem dX4_greatestDistance_25 : decode cX4_greatestDistance 25 = .ok (.lload_n 1, 1) := by decide +kernel
theorem dX4_greatestDistance_26 : decode cX4_greatestDistance 26 = .ok (.invokevirtual 56, 3) := by decide +kernel
theorem dX4_greatestDistance_29 : decode cX4_greatestDistance 29 = .ok (.invokestatic 60, 3) := by decide +kernel
theorem dX4_greatestDistance_32 : decode cX4_greatestDistance 32 = .ok (.istore_n 3, 1) := by decide +kernel
theorem dX4_greatestDistance_33 : decode cX4_greatestDistance 33 = .ok (.iinc 4 1, 3) := by decide +kernel
theorem dX4_greatestDistance_36 : decode cX4_greatestDistance 36 = .ok (.goto (-31), 3) := by decide +kernel
theorem dX4_greatestDistance_39 : decode cX4_greatestDistance 39 = .ok (.iload_n 3, 1) := by decide +kernel
theorem dX4_greatestDistance_40 : decode cX4_greatestDistance 40 = .ok (.ireturn, 1) := by decide +kernel
set_option maxRecDepth 20000 in
theorem ggX4_stepsToAll_X1_bit : GoodIn wsX4_stepsToAll wsX1_bit := goodIn_r _ [5] (by decide +kernel) (by decide +kernel)
set_option maxRecDepth 20000 in
theorem gX4_stepsToAll_X1_bit : GoodIn wsX4_stepsToAll (va_wsS RX4 32 yX1_bit wsX1_bit) := goodIn_app (goodIn_of _ (by decide +kernel)) ggX4_stepsToAll_X1_bit
set_option maxRecDepth 20000 in
theorem ggX4_stepsToAll_X1_near : GoodIn wsX4_stepsToAll wsX1_near := goodIn_r _ [9, 10, 11, 15, 16, 17, 18, 19, 20, 21] (by decide +kernel) (by decide +kernel)
set_option maxRecDepth 20000 in
theorem gX4_stepsToAll_X1_near : GoodIn wsX4_stepsToAll (wsV RX4 36 RX1 yX1_near wsX1_near) := goodIn_app (goodIn_of _ (by decide +kernel)) ggX4_stepsToAll_X1_near
theorem dX4_stepsToAll_0 : decode cX4_stepsToAll 0 = .ok (.iload_n 1, 1) := by decide +kernel
theorem dX4_stepsToAll_1 : decode cX4_stepsToAll 1 = .ok (.invokestatic 32, 3) := by decide +kernel
theorem dX4_stepsToAll_4 : decode cX4_stepsToAll 4 = .ok (.lstore 4, 2) := by decide +kernel
theorem dX4_stepsToAll_6 : decode cX4_stepsToAll 6 = .ok (.iconst 0, 1) := by decide +kernel
theorem dX4_stepsToAll_7 : decode cX4_stepsToAll 7 = .ok (.istore 6, 2) := by decide +kernel
theorem dX4_stepsToAll_9 : decode cX4_stepsToAll 9 = .ok (.iload 6, 2) := by decide +kernel
theorem dX4_stepsToAll_11 : decode cX4_stepsToAll 11 = .ok (.bipush 36, 2) := by decide +kernel
theorem dX4_stepsToAll_13 : decode cX4_stepsToAll 13 = .ok (.if_icmp .ge 27, 3) := by decide +kernel
theorem dX4_stepsToAll_16 : decode cX4_stepsToAll 16 = .ok (.lload 4, 2) := by decide +kernel
theorem dX4_stepsToAll_18 : decode cX4_stepsToAll 18 = .ok (.lload_n 2, 1) := by decide +kernel
theorem dX4_stepsToAll_19 : decode cX4_stepsToAll 19 = .ok (.lcmp, 1) := by decide +kernel
theorem dX4_stepsToAll_20 : decode cX4_stepsToAll 20 = .ok (.ifCond .eq 20, 3) := by decide +kernel
theorem dX4_stepsToAll_23 : decode cX4_stepsToAll 23 = .ok (.aload_n 0, 1) := by decide +kernel
theorem dX4_stepsToAll_24 : decode cX4_stepsToAll 24 = .ok (.getfield 9, 3) := by decide +kernel
theorem dX4_stepsToAll_27 : decode cX4_stepsToAll 27 = .ok (.lload 4, 2) := by decide +kernel
theorem dX4_stepsToAll_29 : decode cX4_stepsToAll 29 = .ok (.invokevirtual 36, 3) := by decide +kernel
theorem dX4_stepsToAll_32 : decode cX4_stepsToAll 32 = .ok (.lstore 4, 2) := by decide +kernel
theorem dX4_stepsToAll_34 : decode cX4_stepsToAll 34 = .ok (.iinc 6 1, 3) := by decide +kernel
theorem dX4_stepsToAll_37 : decode cX4_stepsToAll 37 = .ok (.goto (-28), 3) := by decide +kernel
theorem dX4_stepsToAll_40 : decode cX4_stepsToAll 40 = .ok (.iload 6, 2) := by decide +kernel
theorem dX4_stepsToAll_42 : decode cX4_stepsToAll 42 = .ok (.ireturn, 1) := by decide +kernel
theorem dX5_init_0 : decode cX5_init 0 = .ok (.aload_n 0, 1) := by decide +kernel
theorem dX5_init_1 : decode cX5_init 1 = .ok (.invokespecial 3, 3) := by decide +kernel
theorem dX5_init_4 : decode cX5_init 4 = .ok (.aload_n 0, 1) := by decide +kernel
theorem dX5_init_5 : decode cX5_init 5 = .ok (.bipush 41, 2) := by decide +kernel
theorem dX5_init_7 : decode cX5_init 7 = .ok (.newarray .int, 2) := by decide +kernel
theorem dX5_init_9 : decode cX5_init 9 = .ok (.putfield 9, 3) := by decide +kernel
theorem dX5_init_12 : decode cX5_init 12 = .ok (.aload_n 0, 1) := by decide +kernel
theorem dX5_init_13 : decode cX5_init 13 = .ok (.iconst 0, 1) := by decide +kernel
theorem dX5_init_14 : decode cX5_init 14 = .ok (.putfield 15, 3) := by decide +kernel
theorem dX5_init_17 : decode cX5_init 17 = .ok (.return_, 1) := by decide +kernel
theorem dX5_append_0 : decode cX5_append 0 = .ok (.iload_n 1, 1) := by decide +kernel
theorem dX5_append_1 : decode cX5_append 1 = .ok (.iconst 1, 1) := by decide +kernel
theorem dX5_append_2 : decode cX5_append 2 = .ok (.isub, 1) := by decide +kernel
theorem dX5_append_3 : decode cX5_append 3 = .ok (.istore 4, 2) := by decide +kernel
theorem dX5_append_5 : decode cX5_append 5 = .ok (.iload 4, 2) := by decide +kernel
theorem dX5_append_7 : decode cX5_append 7 = .ok (.ifCond .lt 49, 3) := by decide +kernel
theorem dX5_append_10 : decode cX5_append 10 = .ok (.aload_n 0, 1) := by decide +kernel
theorem dX5_append_11 : decode cX5_append 11 = .ok (.getfield 15, 3) := by decide +kernel
theorem dX5_append_14 : decode cX5_append 14 = .ok (.bipush 41, 2) := by decide +kernel
theorem dX5_append_16 : decode cX5_append 16 = .ok (.if_icmp .ge 40, 3) := by decide +kernel
theorem dX5_append_19 : decode cX5_append 19 = .ok (.aload_n 0, 1) := by decide +kernel
theorem dX5_append_20 : decode cX5_append 20 = .ok (.getfield 9, 3) := by decide +kernel
theorem dX5_append_23 : decode cX5_append 23 = .ok (.aload_n 0, 1) := by decide +kernel
theorem dX5_append_24 : decode cX5_append 24 = .ok (.getfield 15, 3) := by decide +kernel
theorem dX5_append_27 : decode cX5_append 27 = .ok (.lload_n 2, 1) := by decide +kernel
theorem dX5_append_28 : decode cX5_append 28 = .ok (.bipush 8, 2) := by decide +kernel
theorem dX5_append_30 : decode cX5_append 30 = .ok (.iload 4, 2) := by decide +kernel
theorem dX5_append_32 : decode cX5_append 32 = .ok (.imul, 1) := by decide +kernel
theorem dX5_append_33 : decode cX5_append 33 = .ok (.lushr, 1) := by decide +kernel
theorem dX5_append_34 : decode cX5_append 34 = .ok (.ldc2_w 19, 3) := by decide +kernel
theorem dX5_append_37 : decode cX5_append 37 = .ok (.land, 1) := by decide +kernel
theorem dX5_append_38 : decode cX5_append 38 = .ok (.l2i, 1) := by decide +kernel
theorem dX5_append_39 : decode cX5_append 39 = .ok (.iastore, 1) := by decide +kernel
theorem dX5_append_40 : decode cX5_append 40 = .ok (.aload_n 0, 1) := by decide +kernel
theorem dX5_append_41 : decode cX5_append 41 = .ok (.dup, 1) := by decide +kernel
theorem dX5_append_42 : decode cX5_append 42 = .ok (.getfield 15, 3) := by decide +kernel
theorem dX5_append_45 : decode cX5_append 45 = .ok (.iconst 1, 1) := by decide +kernel
theorem dX5_append_46 : decode cX5_append 46 = .ok (.iadd, 1) := by decide +kernel
theorem dX5_append_47 : decode cX5_append 47 = .ok (.putfield 15, 3) := by decide +kernel
theorem dX5_append_50 : decode cX5_append 50 = .ok (.iinc 4 (-1), 3) := by decide +kernel
theorem dX5_append_53 : decode cX5_append 53 = .ok (.goto (-48), 3) := by decide +kernel
theorem dX5_append_56 : decode cX5_append 56 = .ok (.return_, 1) := by decide +kernel
set_option maxRecDepth 20000 in
theorem ggX5_firstFault_X5_rowMayEnd : GoodIn wsX5_firstFault wsX5_rowMayEnd := goodIn_r _ [6] (by decide +kernel) (by decide +kernel)
set_option maxRecDepth 20000 in
theorem gX5_firstFault_X5_rowMayEnd : GoodIn wsX5_firstFault (va_wsS RX5 21 yX5_rowMayEnd wsX5_rowMayEnd) := goodIn_app (goodIn_of _ (by decide +kernel)) ggX5_firstFault_X5_rowMayEnd
set_option maxRecDepth 20000 in
theorem ggX5_firstFault_X5_figureFits : GoodIn wsX5_firstFault wsX5_figureFits := goodIn_r _ [9, 10, 11, 5, 12, 13, 14, 15] (by decide +kernel) (by decide +kernel)
set_option maxRecDepth 20000 in
theorem gX5_firstFault_X5_figureFits : GoodIn wsX5_firstFault (va_wsS RX5 25 yX5_figureFits wsX5_figureFits) := goodIn_app (goodIn_of _ (by decide +kernel)) ggX5_firstFault_X5_figureFits
set_option maxRecDepth 20000 in
theorem ggX5_firstFault_X5_opensRight : GoodIn wsX5_firstFault wsX5_opensRight := goodIn_r _ [12] (by decide +kernel) (by decide +kernel)
set_option maxRecDepth 20000 in
theorem gX5_firstFault_X5_opensRight : GoodIn wsX5_firstFault (va_wsS RX5 29 yX5_opensRight wsX5_opensRight) := goodIn_app (goodIn_of _ (by decide +kernel)) ggX5_firstFault_X5_opensRight
set_option maxRecDepth 20000 in
theorem ggX5_firstFault_X5_opensDown : GoodIn wsX5_firstFault wsX5_opensDown := goodIn_r _ [15] (by decide +kernel) (by decide +kernel)
set_option maxRecDepth 20000 in
theorem gX5_firstFault_X5_opensDown : GoodIn wsX5_firstFault (va_wsS RX5 33 yX5_opensDown wsX5_opensDown) := goodIn_app (goodIn_of _ (by decide +kernel)) ggX5_firstFault_X5_opensDown
theorem dX5_firstFault_0 : decode cX5_firstFault 0 = .ok (.iconst 0, 1) := by decide +kernel
theorem dX5_firstFault_1 : decode cX5_firstFault 1 = .ok (.istore_n 1, 1) := by decide +kernel
theorem dX5_firstFault_2 : decode cX5_firstFault 2 = .ok (.iconst 0, 1) := by decide +kernel
theorem dX5_firstFault_3 : decode cX5_firstFault 3 = .ok (.istore_n 2, 1) := by decide +kernel
theorem dX5_firstFault_4 : decode cX5_firstFault 4 = .ok (.iconst 0, 1) := by decide +kernel
theorem dX5_firstFault_5 : decode cX5_firstFault 5 = .ok (.istore_n 3, 1) := by decide +kernel
theorem dX5_firstFault_6 : decode cX5_firstFault 6 = .ok (.iconst 0, 1) := by decide +kernel
theorem dX5_firstFault_7 : decode cX5_firstFault 7 = .ok (.istore 4, 2) := by decide +kernel
theorem dX5_firstFault_9 : decode cX5_firstFault 9 = .ok (.iconst 0, 1) := by decide +kernel
theorem dX5_firstFault_10 : decode cX5_firstFault 10 = .ok (.istore 5, 2) := by decide +kernel
theorem dX5_firstFault_12 : decode cX5_firstFault 12 = .ok (.iconst 0, 1) := by decide +kernel
theorem dX5_firstFault_13 : decode cX5_firstFault 13 = .ok (.istore 6, 2) := by decide +kernel
theorem dX5_firstFault_15 : decode cX5_firstFault 15 = .ok (.iload 6, 2) := by decide +kernel
theorem dX5_firstFault_17 : decode cX5_firstFault 17 = .ok (.aload_n 0, 1) := by decide +kernel
theorem dX5_firstFault_18 : decode cX5_firstFault 18 = .ok (.getfield 15, 3) := by decide +kernel
theorem dX5_firstFault_21 : decode cX5_firstFault 21 = .ok (.if_icmp .ge 127, 3) := by decide +kernel
theorem dX5_firstFault_24 : decode cX5_firstFault 24 = .ok (.iload 6, 2) := by decide +kernel
theorem dX5_firstFault_26 : decode cX5_firstFault 26 = .ok (.bipush 41, 2) := by decide +kernel
theorem dX5_firstFault_28 : decode cX5_firstFault 28 = .ok (.if_icmp .ge 120, 3) := by decide +kernel
theorem dX5_firstFault_31 : decode cX5_firstFault 31 = .ok (.aload_n 0, 1) := by decide +kernel
theorem dX5_firstFault_32 : decode cX5_firstFault 32 = .ok (.getfield 9, 3) := by decide +kernel
theorem dX5_firstFault_35 : decode cX5_firstFault 35 = .ok (.iload 6, 2) := by decide +kernel
theorem dX5_firstFault_37 : decode cX5_firstFault 37 = .ok (.iaload, 1) := by decide +kernel
theorem dX5_firstFault_38 : decode cX5_firstFault 38 = .ok (.bipush 48, 2) := by decide +kernel
theorem dX5_firstFault_40 : decode cX5_firstFault 40 = .ok (.isub, 1) := by decide +kernel
theorem dX5_firstFault_41 : decode cX5_firstFault 41 = .ok (.istore 7, 2) := by decide +kernel
theorem dX5_firstFault_43 : decode cX5_firstFault 43 = .ok (.aload_n 0, 1) := by decide +kernel
theorem dX5_firstFault_44 : decode cX5_firstFault 44 = .ok (.getfield 9, 3) := by decide +kernel
theorem dX5_firstFault_47 : decode cX5_firstFault 47 = .ok (.iload 6, 2) := by decide +kernel
theorem dX5_firstFault_49 : decode cX5_firstFault 49 = .ok (.iaload, 1) := by decide +kernel
theorem dX5_firstFault_50 : decode cX5_firstFault 50 = .ok (.bipush 47, 2) := by decide +kernel
theorem dX5_firstFault_52 : decode cX5_firstFault 52 = .ok (.if_icmp .ne 34, 3) := by decide +kernel
theorem dX5_firstFault_55 : decode cX5_firstFault 55 = .ok (.iload_n 1, 1) := by decide +kernel
theorem dX5_firstFault_56 : decode cX5_firstFault 56 = .ok (.iconst 5, 1) := by decide +kernel
theorem dX5_firstFault_57 : decode cX5_firstFault 57 = .ok (.if_icmp .ge 29, 3) := by decide +kernel
theorem dX5_firstFault_60 : decode cX5_firstFault 60 = .ok (.iload_n 2, 1) := by decide +kernel
theorem dX5_firstFault_61 : decode cX5_firstFault 61 = .ok (.iload_n 3, 1) := by decide +kernel
theorem dX5_firstFault_62 : decode cX5_firstFault 62 = .ok (.iload 4, 2) := by decide +kernel
theorem dX5_firstFault_64 : decode cX5_firstFault 64 = .ok (.invokestatic 21, 3) := by decide +kernel
theorem dX5_firstFault_67 : decode cX5_firstFault 67 = .ok (.ifCond .eq 19, 3) := by decide +kernel
theorem dX5_firstFault_70 : decode cX5_firstFault 70 = .ok (.iload_n 2, 1) := by decide +kernel
theorem dX5_firstFault_71 : decode cX5_firstFault 71 = .ok (.istore_n 3, 1) := by decide +kernel
theorem dX5_firstFault_72 : decode cX5_firstFault 72 = .ok (.iinc 1 1, 3) := by decide +kernel
theorem dX5_firstFault_75 : decode cX5_firstFault 75 = .ok (.iconst 0, 1) := by decide +kernel
theorem dX5_firstFault_76 : decode cX5_firstFault 76 = .ok (.istore_n 2, 1) := by decide +kernel
theorem dX5_firstFault_77 : decode cX5_firstFault 77 = .ok (.iconst 0, 1) := by decide +kernel
theorem dX5_firstFault_78 : decode cX5_firstFault 78 = .ok (.istore 4, 2) := by decide +kernel
theorem dX5_firstFault_80 : decode cX5_firstFault 80 = .ok (.iconst 0, 1) := by decide +kernel
theorem dX5_firstFault_81 : decode cX5_firstFault 81 = .ok (.istore 5, 2) := by decide +kernel
theorem dX5_firstFault_83 : decode cX5_firstFault 83 = .ok (.goto 59, 3) := by decide +kernel
theorem dX5_firstFault_86 : decode cX5_firstFault 86 = .ok (.iload 7, 2) := by decide +kernel
theorem dX5_firstFault_88 : decode cX5_firstFault 88 = .ok (.iload_n 1, 1) := by decide +kernel
theorem dX5_firstFault_89 : decode cX5_firstFault 89 = .ok (.iload_n 2, 1) := by decide +kernel
theorem dX5_firstFault_90 : decode cX5_firstFault 90 = .ok (.iload_n 3, 1) := by decide +kernel
theorem dX5_firstFault_91 : decode cX5_firstFault 91 = .ok (.ifCond .ne 8, 3) := by decide +kernel
theorem dX5_firstFault_94 : decode cX5_firstFault 94 = .ok (.bipush 6, 2) := by decide +kernel
theorem dX5_firstFault_96 : decode cX5_firstFault 96 = .ok (.goto 4, 3) := by decide +kernel
theorem dX5_firstFault_99 : decode cX5_firstFault 99 = .ok (.iload_n 3, 1) := by decide +kernel
theorem dX5_firstFault_100 : decode cX5_firstFault 100 = .ok (.invokestatic 25, 3) := by decide +kernel
theorem dX5_firstFault_103 : decode cX5_firstFault 103 = .ok (.ifCond .eq 36, 3) := by decide +kernel
theorem dX5_firstFault_106 : decode cX5_firstFault 106 = .ok (.iinc 2 1, 3) := by decide +kernel
theorem dX5_firstFault_109 : decode cX5_firstFault 109 = .ok (.iload 7, 2) := by decide +kernel
theorem dX5_firstFault_111 : decode cX5_firstFault 111 = .ok (.invokestatic 29, 3) := by decide +kernel
theorem dX5_firstFault_114 : decode cX5_firstFault 114 = .ok (.istore 4, 2) := by decide +kernel
theorem dX5_firstFault_116 : decode cX5_firstFault 116 = .ok (.iload 5, 2) := by decide +kernel
theorem dX5_firstFault_118 : decode cX5_firstFault 118 = .ok (.ifCond .ne 11, 3) := by decide +kernel
theorem dX5_firstFault_121 : decode cX5_firstFault 121 = .ok (.iload 7, 2) := by decide +kernel
theorem dX5_firstFault_123 : decode cX5_firstFault 123 = .ok (.invokestatic 33, 3) := by decide +kernel
theorem dX5_firstFault_126 : decode cX5_firstFault 126 = .ok (.ifCond .eq 7, 3) := by decide +kernel
theorem dX5_firstFault_129 : decode cX5_firstFault 129 = .ok (.iconst 1, 1) := by decide +kernel
theorem dX5_firstFault_130 : decode cX5_firstFault 130 = .ok (.goto 4, 3) := by decide +kernel
theorem dX5_firstFault_133 : decode cX5_firstFault 133 = .ok (.iconst 0, 1) := by decide +kernel
theorem dX5_firstFault_134 : decode cX5_firstFault 134 = .ok (.istore 5, 2) := by decide +kernel
theorem dX5_firstFault_136 : decode cX5_firstFault 136 = .ok (.goto 6, 3) := by decide +kernel
theorem dX5_firstFault_139 : decode cX5_firstFault 139 = .ok (.iload 6, 2) := by decide +kernel
theorem dX5_firstFault_141 : decode cX5_firstFault 141 = .ok (.ireturn, 1) := by decide +kernel
theorem dX5_firstFault_142 : decode cX5_firstFault 142 = .ok (.iinc 6 1, 3) := by decide +kernel
theorem dX5_firstFault_145 : decode cX5_firstFault 145 = .ok (.goto (-130), 3) := by decide +kernel
theorem dX5_firstFault_148 : decode cX5_firstFault 148 = .ok (.iload_n 2, 1) := by decide +kernel
theorem dX5_firstFault_149 : decode cX5_firstFault 149 = .ok (.iload_n 3, 1) := by decide +kernel
theorem dX5_firstFault_150 : decode cX5_firstFault 150 = .ok (.iload 4, 2) := by decide +kernel
theorem dX5_firstFault_152 : decode cX5_firstFault 152 = .ok (.invokestatic 21, 3) := by decide +kernel
theorem dX5_firstFault_155 : decode cX5_firstFault 155 = .ok (.ifCond .eq 13, 3) := by decide +kernel
theorem dX5_firstFault_158 : decode cX5_firstFault 158 = .ok (.iload 5, 2) := by decide +kernel
theorem dX5_firstFault_160 : decode cX5_firstFault 160 = .ok (.ifCond .ne 8, 3) := by decide +kernel
theorem dX5_firstFault_163 : decode cX5_firstFault 163 = .ok (.bipush (-9), 2) := by decide +kernel
theorem dX5_firstFault_165 : decode cX5_firstFault 165 = .ok (.goto 7, 3) := by decide +kernel
theorem dX5_firstFault_168 : decode cX5_firstFault 168 = .ok (.aload_n 0, 1) := by decide +kernel
theorem dX5_firstFault_169 : decode cX5_firstFault 169 = .ok (.getfield 15, 3) := by decide +kernel
theorem dX5_firstFault_172 : decode cX5_firstFault 172 = .ok (.ireturn, 1) := by decide +kernel
theorem dX5_rowMayEnd_0 : decode cX5_rowMayEnd 0 = .ok (.iload_n 0, 1) := by decide +kernel
theorem dX5_rowMayEnd_1 : decode cX5_rowMayEnd 1 = .ok (.ifCond .le 20, 3) := by decide +kernel
theorem dX5_rowMayEnd_4 : decode cX5_rowMayEnd 4 = .ok (.iload_n 2, 1) := by decide +kernel
theorem dX5_rowMayEnd_5 : decode cX5_rowMayEnd 5 = .ok (.ifCond .ne 16, 3) := by decide +kernel
theorem dX5_rowMayEnd_8 : decode cX5_rowMayEnd 8 = .ok (.iload_n 1, 1) := by decide +kernel
theorem dX5_rowMayEnd_9 : decode cX5_rowMayEnd 9 = .ok (.ifCond .eq 8, 3) := by decide +kernel
theorem dX5_rowMayEnd_12 : decode cX5_rowMayEnd 12 = .ok (.iload_n 0, 1) := by decide +kernel
theorem dX5_rowMayEnd_13 : decode cX5_rowMayEnd 13 = .ok (.iload_n 1, 1) := by decide +kernel
theorem dX5_rowMayEnd_14 : decode cX5_rowMayEnd 14 = .ok (.if_icmp .ne 7, 3) := by decide +kernel
theorem dX5_rowMayEnd_17 : decode cX5_rowMayEnd 17 = .ok (.iconst 1, 1) := by decide +kernel
theorem dX5_rowMayEnd_18 : decode cX5_rowMayEnd 18 = .ok (.goto 4, 3) := by decide +kernel
theorem dX5_rowMayEnd_21 : decode cX5_rowMayEnd 21 = .ok (.iconst 0, 1) := by decide +kernel
theorem dX5_rowMayEnd_22 : decode cX5_rowMayEnd 22 = .ok (.ireturn, 1) := by decide +kernel
set_option maxRecDepth 20000 in
theorem ggX5_figureFits_X5_opensRight : GoodIn wsX5_figureFits wsX5_opensRight := goodIn_r _ [4] (by decide +kernel) (by decide +kernel)
set_option maxRecDepth 20000 in
theorem gX5_figureFits_X5_opensRight : GoodIn wsX5_figureFits (va_wsS RX5 29 yX5_opensRight wsX5_opensRight) := goodIn_app (goodIn_of _ (by decide +kernel)) ggX5_figureFits_X5_opensRight
set_option maxRecDepth 20000 in
theorem ggX5_figureFits_X5_opensDown : GoodIn wsX5_figureFits wsX5_opensDown := goodIn_r _ [7] (by decide +kernel) (by decide +kernel)
set_option maxRecDepth 20000 in
theorem gX5_figureFits_X5_opensDown : GoodIn wsX5_figureFits (va_wsS RX5 33 yX5_opensDown wsX5_opensDown) := goodIn_app (goodIn_of _ (by decide +kernel)) ggX5_figureFits_X5_opensDown
theorem dX5_figureFits_0 : decode cX5_figureFits 0 = .ok (.iload_n 0, 1) := by decide +kernel
theorem dX5_figureFits_1 : decode cX5_figureFits 1 = .ok (.ifCond .lt 43, 3) := by decide +kernel
theorem dX5_figureFits_4 : decode cX5_figureFits 4 = .ok (.iload_n 0, 1) := by decide +kernel
theorem dX5_figureFits_5 : decode cX5_figureFits 5 = .ok (.iconst 3, 1) := by decide +kernel
theorem dX5_figureFits_6 : decode cX5_figureFits 6 = .ok (.if_icmp .gt 38, 3) := by decide +kernel
theorem dX5_figureFits_9 : decode cX5_figureFits 9 = .ok (.iload_n 2, 1) := by decide +kernel
theorem dX5_figureFits_10 : decode cX5_figureFits 10 = .ok (.iload_n 3, 1) := by decide +kernel
theorem dX5_figureFits_11 : decode cX5_figureFits 11 = .ok (.if_icmp .ge 33, 3) := by decide +kernel
theorem dX5_figureFits_14 : decode cX5_figureFits 14 = .ok (.iload_n 0, 1) := by decide +kernel
theorem dX5_figureFits_15 : decode cX5_figureFits 15 = .ok (.invokestatic 29, 3) := by decide +kernel
theorem dX5_figureFits_18 : decode cX5_figureFits 18 = .ok (.ifCond .eq 10, 3) := by decide +kernel
theorem dX5_figureFits_21 : decode cX5_figureFits 21 = .ok (.iload_n 2, 1) := by decide +kernel
theorem dX5_figureFits_22 : decode cX5_figureFits 22 = .ok (.iload_n 3, 1) := by decide +kernel
theorem dX5_figureFits_23 : decode cX5_figureFits 23 = .ok (.iconst 1, 1) := by decide +kernel
theorem dX5_figureFits_24 : decode cX5_figureFits 24 = .ok (.isub, 1) := by decide +kernel
theorem dX5_figureFits_25 : decode cX5_figureFits 25 = .ok (.if_icmp .eq 19, 3) := by decide +kernel
theorem dX5_figureFits_28 : decode cX5_figureFits 28 = .ok (.iload_n 0, 1) := by decide +kernel
theorem dX5_figureFits_29 : decode cX5_figureFits 29 = .ok (.invokestatic 33, 3) := by decide +kernel
theorem dX5_figureFits_32 : decode cX5_figureFits 32 = .ok (.ifCond .eq 8, 3) := by decide +kernel
theorem dX5_figureFits_35 : decode cX5_figureFits 35 = .ok (.iload_n 1, 1) := by decide +kernel
theorem dX5_figureFits_36 : decode cX5_figureFits 36 = .ok (.iconst 5, 1) := by decide +kernel
theorem dX5_figureFits_37 : decode cX5_figureFits 37 = .ok (.if_icmp .eq 7, 3) := by decide +kernel
theorem dX5_figureFits_40 : decode cX5_figureFits 40 = .ok (.iconst 1, 1) := by decide +kernel
theorem dX5_figureFits_41 : decode cX5_figureFits 41 = .ok (.goto 4, 3) := by decide +kernel
theorem dX5_figureFits_44 : decode cX5_figureFits 44 = .ok (.iconst 0, 1) := by decide +kernel
theorem dX5_figureFits_45 : decode cX5_figureFits 45 = .ok (.ireturn, 1) := by decide +kernel
theorem dX5_opensRight_0 : decode cX5_opensRight 0 = .ok (.iload_n 0, 1) := by decide +kernel
theorem dX5_opensRight_1 : decode cX5_opensRight 1 = .ok (.iconst 1, 1) := by decide +kernel
theorem dX5_opensRight_2 : decode cX5_opensRight 2 = .ok (.iand, 1) := by decide +kernel
theorem dX5_opensRight_3 : decode cX5_opensRight 3 = .ok (.ifCond .eq 7, 3) := by decide +kernel
theorem dX5_opensRight_6 : decode cX5_opensRight 6 = .ok (.iconst 1, 1) := by decide +kernel
theorem dX5_opensRight_7 : decode cX5_opensRight 7 = .ok (.goto 4, 3) := by decide +kernel
theorem dX5_opensRight_10 : decode cX5_opensRight 10 = .ok (.iconst 0, 1) := by decide +kernel
theorem dX5_opensRight_11 : decode cX5_opensRight 11 = .ok (.ireturn, 1) := by decide +kernel
theorem dX5_opensDown_0 : decode cX5_opensDown 0 = .ok (.iload_n 0, 1) := by decide +kernel
theorem dX5_opensDown_1 : decode cX5_opensDown 1 = .ok (.iconst 2, 1) := by decide +kernel
theorem dX5_opensDown_2 : decode cX5_opensDown 2 = .ok (.iand, 1) := by decide +kernel
theorem dX5_opensDown_3 : decode cX5_opensDown 3 = .ok (.ifCond .eq 7, 3) := by decide +kernel
theorem dX5_opensDown_6 : decode cX5_opensDown 6 = .ok (.iconst 1, 1) := by decide +kernel
theorem dX5_opensDown_7 : decode cX5_opensDown 7 = .ok (.goto 4, 3) := by decide +kernel
theorem dX5_opensDown_10 : decode cX5_opensDown 10 = .ok (.iconst 0, 1) := by decide +kernel
theorem dX5_opensDown_11 : decode cX5_opensDown 11 = .ok (.ireturn, 1) := by decide +kernel
set_option maxRecDepth 20000 in
theorem ggX5_copyTo_X5_firstWidth : GoodIn wsX5_copyTo wsX5_firstWidth := goodIn_r _ [7, 1, 2, 45, 46] (by decide +kernel) (by decide +kernel)
set_option maxRecDepth 20000 in
theorem gX5_copyTo_X5_firstWidth : GoodIn wsX5_copyTo (wsV RX5 36 RX5 yX5_firstWidth wsX5_firstWidth) := goodIn_app (goodIn_of _ (by decide +kernel)) ggX5_copyTo_X5_firstWidth
set_option maxRecDepth 20000 in
theorem ggX5_copyTo_X1_shutAll : GoodIn wsX5_copyTo wsX1_shutAll := goodIn_r _ [12, 13, 14, 15, 16, 17, 18, 19, 47, 48, 49, 50, 51, 52, 53] (by decide +kernel) (by decide +kernel)
set_option maxRecDepth 20000 in
theorem gX5_copyTo_X1_shutAll : GoodIn wsX5_copyTo (wsV RX5 40 RX1 yX1_shutAll wsX1_shutAll) := goodIn_app (goodIn_of _ (by decide +kernel)) ggX5_copyTo_X1_shutAll
set_option maxRecDepth 20000 in
theorem ggX5_copyTo_X5_opensRight : GoodIn wsX5_copyTo wsX5_opensRight := goodIn_r _ [22] (by decide +kernel) (by decide +kernel)
set_option maxRecDepth 20000 in
theorem gX5_copyTo_X5_opensRight : GoodIn wsX5_copyTo (va_wsS RX5 29 yX5_opensRight wsX5_opensRight) := goodIn_app (goodIn_of _ (by decide +kernel)) ggX5_copyTo_X5_opensRight
set_option maxRecDepth 20000 in
theorem ggX5_copyTo_X1_setOpen : GoodIn wsX5_copyTo wsX1_setOpen := goodIn_r _ [26, 27, 28, 29, 30, 16, 31, 17, 32, 33, 34, 11, 35, 15, 36, 37, 38, 39, 40, 41, 47, 48, 49, 50, 51, 52, 53] (by decide +kernel) (by decide +kernel)
set_option maxRecDepth 20000 in
theorem gX5_copyTo_X1_setOpen : GoodIn wsX5_copyTo (wsV RX5 46 RX1 yX1_setOpen wsX1_setOpen) := goodIn_app (goodIn_of _ (by decide +kernel)) ggX5_copyTo_X1_setOpen
set_option maxRecDepth 20000 in
theorem ggX5_copyTo_X5_opensDown : GoodIn wsX5_copyTo wsX5_opensDown := goodIn_r _ [44] (by decide +kernel) (by decide +kernel)
set_option maxRecDepth 20000 in
theorem gX5_copyTo_X5_opensDown : GoodIn wsX5_copyTo (va_wsS RX5 33 yX5_opensDown wsX5_opensDown) := goodIn_app (goodIn_of _ (by decide +kernel)) ggX5_copyTo_X5_opensDown
theorem dX5_copyTo_0 : decode cX5_copyTo 0 = .ok (.aload_n 0, 1) := by decide +kernel
theorem dX5_copyTo_1 : decode cX5_copyTo 1 = .ok (.invokevirtual 36, 3) := by decide +kernel
theorem dX5_copyTo_4 : decode cX5_copyTo 4 = .ok (.istore_n 2, 1) := by decide +kernel
theorem dX5_copyTo_5 : decode cX5_copyTo 5 = .ok (.iload_n 2, 1) := by decide +kernel
theorem dX5_copyTo_6 : decode cX5_copyTo 6 = .ok (.iconst 1, 1) := by decide +kernel
theorem dX5_copyTo_7 : decode cX5_copyTo 7 = .ok (.if_icmp .ge 4, 3) := by decide +kernel
theorem dX5_copyTo_10 : decode cX5_copyTo 10 = .ok (.return_, 1) := by decide +kernel
theorem dX5_copyTo_11 : decode cX5_copyTo 11 = .ok (.aload_n 1, 1) := by decide +kernel
theorem dX5_copyTo_12 : decode cX5_copyTo 12 = .ok (.aload_n 0, 1) := by decide +kernel
theorem dX5_copyTo_13 : decode cX5_copyTo 13 = .ok (.getfield 15, 3) := by decide +kernel
theorem dX5_copyTo_16 : decode cX5_copyTo 16 = .ok (.iconst 1, 1) := by decide +kernel
theorem dX5_copyTo_17 : decode cX5_copyTo 17 = .ok (.iadd, 1) := by decide +kernel
theorem dX5_copyTo_18 : decode cX5_copyTo 18 = .ok (.iload_n 2, 1) := by decide +kernel
theorem dX5_copyTo_19 : decode cX5_copyTo 19 = .ok (.iconst 1, 1) := by decide +kernel
theorem dX5_copyTo_20 : decode cX5_copyTo 20 = .ok (.iadd, 1) := by decide +kernel
theorem dX5_copyTo_21 : decode cX5_copyTo 21 = .ok (.idiv, 1) := by decide +kernel
theorem dX5_copyTo_22 : decode cX5_copyTo 22 = .ok (.iload_n 2, 1) := by decide +kernel
theorem dX5_copyTo_23 : decode cX5_copyTo 23 = .ok (.invokevirtual 40, 3) := by decide +kernel
theorem dX5_copyTo_26 : decode cX5_copyTo 26 = .ok (.iconst 0, 1) := by decide +kernel
theorem dX5_copyTo_27 : decode cX5_copyTo 27 = .ok (.istore_n 3, 1) := by decide +kernel
theorem dX5_copyTo_28 : decode cX5_copyTo 28 = .ok (.iload_n 3, 1) := by decide +kernel
theorem dX5_copyTo_29 : decode cX5_copyTo 29 = .ok (.aload_n 0, 1) := by decide +kernel
theorem dX5_copyTo_30 : decode cX5_copyTo 30 = .ok (.getfield 15, 3) := by decide +kernel
theorem dX5_copyTo_33 : decode cX5_copyTo 33 = .ok (.if_icmp .ge 76, 3) := by decide +kernel
theorem dX5_copyTo_36 : decode cX5_copyTo 36 = .ok (.iload_n 3, 1) := by decide +kernel
theorem dX5_copyTo_37 : decode cX5_copyTo 37 = .ok (.bipush 41, 2) := by decide +kernel
theorem dX5_copyTo_39 : decode cX5_copyTo 39 = .ok (.if_icmp .ge 70, 3) := by decide +kernel
theorem dX5_copyTo_42 : decode cX5_copyTo 42 = .ok (.iload_n 3, 1) := by decide +kernel
theorem dX5_copyTo_43 : decode cX5_copyTo 43 = .ok (.iload_n 2, 1) := by decide +kernel
theorem dX5_copyTo_44 : decode cX5_copyTo 44 = .ok (.iconst 1, 1) := by decide +kernel
theorem dX5_copyTo_45 : decode cX5_copyTo 45 = .ok (.iadd, 1) := by decide +kernel
theorem dX5_copyTo_46 : decode cX5_copyTo 46 = .ok (.irem, 1) := by decide +kernel
theorem dX5_copyTo_47 : decode cX5_copyTo 47 = .ok (.istore 4, 2) := by decide +kernel
theorem dX5_copyTo_49 : decode cX5_copyTo 49 = .ok (.iload 4, 2) := by decide +kernel
theorem dX5_copyTo_51 : decode cX5_copyTo 51 = .ok (.iload_n 2, 1) := by decide +kernel
theorem dX5_copyTo_52 : decode cX5_copyTo 52 = .ok (.if_icmp .ge 51, 3) := by decide +kernel
theorem dX5_copyTo_55 : decode cX5_copyTo 55 = .ok (.iload_n 3, 1) := by decide +kernel
theorem dX5_copyTo_56 : decode cX5_copyTo 56 = .ok (.iload_n 2, 1) := by decide +kernel
theorem dX5_copyTo_57 : decode cX5_copyTo 57 = .ok (.iconst 1, 1) := by decide +kernel
theorem dX5_copyTo_58 : decode cX5_copyTo 58 = .ok (.iadd, 1) := by decide +kernel
theorem dX5_copyTo_59 : decode cX5_copyTo 59 = .ok (.idiv, 1) := by decide +kernel
theorem dX5_copyTo_60 : decode cX5_copyTo 60 = .ok (.bipush 8, 2) := by decide +kernel
theorem dX5_copyTo_62 : decode cX5_copyTo 62 = .ok (.imul, 1) := by decide +kernel
theorem dX5_copyTo_63 : decode cX5_copyTo 63 = .ok (.iload 4, 2) := by decide +kernel
theorem dX5_copyTo_65 : decode cX5_copyTo 65 = .ok (.iadd, 1) := by decide +kernel
theorem dX5_copyTo_66 : decode cX5_copyTo 66 = .ok (.istore 5, 2) := by decide +kernel
theorem dX5_copyTo_68 : decode cX5_copyTo 68 = .ok (.aload_n 0, 1) := by decide +kernel
theorem dX5_copyTo_69 : decode cX5_copyTo 69 = .ok (.getfield 9, 3) := by decide +kernel
theorem dX5_copyTo_72 : decode cX5_copyTo 72 = .ok (.iload_n 3, 1) := by decide +kernel
theorem dX5_copyTo_73 : decode cX5_copyTo 73 = .ok (.iaload, 1) := by decide +kernel
theorem dX5_copyTo_74 : decode cX5_copyTo 74 = .ok (.bipush 48, 2) := by decide +kernel
theorem dX5_copyTo_76 : decode cX5_copyTo 76 = .ok (.isub, 1) := by decide +kernel
theorem dX5_copyTo_77 : decode cX5_copyTo 77 = .ok (.istore 6, 2) := by decide +kernel
theorem dX5_copyTo_79 : decode cX5_copyTo 79 = .ok (.aload_n 1, 1) := by decide +kernel
theorem dX5_copyTo_80 : decode cX5_copyTo 80 = .ok (.iload 5, 2) := by decide +kernel
theorem dX5_copyTo_82 : decode cX5_copyTo 82 = .ok (.iconst 1, 1) := by decide +kernel
theorem dX5_copyTo_83 : decode cX5_copyTo 83 = .ok (.iload 6, 2) := by decide +kernel
theorem dX5_copyTo_85 : decode cX5_copyTo 85 = .ok (.invokestatic 29, 3) := by decide +kernel
theorem dX5_copyTo_88 : decode cX5_copyTo 88 = .ok (.invokevirtual 46, 3) := by decide +kernel
theorem dX5_copyTo_91 : decode cX5_copyTo 91 = .ok (.aload_n 1, 1) := by decide +kernel
theorem dX5_copyTo_92 : decode cX5_copyTo 92 = .ok (.iload 5, 2) := by decide +kernel
theorem dX5_copyTo_94 : decode cX5_copyTo 94 = .ok (.iconst 2, 1) := by decide +kernel
theorem dX5_copyTo_95 : decode cX5_copyTo 95 = .ok (.iload 6, 2) := by decide +kernel
theorem dX5_copyTo_97 : decode cX5_copyTo 97 = .ok (.invokestatic 33, 3) := by decide +kernel
theorem dX5_copyTo_100 : decode cX5_copyTo 100 = .ok (.invokevirtual 46, 3) := by decide +kernel
theorem dX5_copyTo_103 : decode cX5_copyTo 103 = .ok (.iinc 3 1, 3) := by decide +kernel
theorem dX5_copyTo_106 : decode cX5_copyTo 106 = .ok (.goto (-78), 3) := by decide +kernel
theorem dX5_copyTo_109 : decode cX5_copyTo 109 = .ok (.return_, 1) := by decide +kernel
theorem dX5_firstWidth_0 : decode cX5_firstWidth 0 = .ok (.iconst 0, 1) := by decide +kernel
theorem dX5_firstWidth_1 : decode cX5_firstWidth 1 = .ok (.istore_n 1, 1) := by decide +kernel
theorem dX5_firstWidth_2 : decode cX5_firstWidth 2 = .ok (.iload_n 1, 1) := by decide +kernel
theorem dX5_firstWidth_3 : decode cX5_firstWidth 3 = .ok (.aload_n 0, 1) := by decide +kernel
theorem dX5_firstWidth_4 : decode cX5_firstWidth 4 = .ok (.getfield 15, 3) := by decide +kernel
theorem dX5_firstWidth_7 : decode cX5_firstWidth 7 = .ok (.if_icmp .ge 26, 3) := by decide +kernel
theorem dX5_firstWidth_10 : decode cX5_firstWidth 10 = .ok (.iload_n 1, 1) := by decide +kernel
theorem dX5_firstWidth_11 : decode cX5_firstWidth 11 = .ok (.bipush 6, 2) := by decide +kernel
theorem dX5_firstWidth_13 : decode cX5_firstWidth 13 = .ok (.if_icmp .ge 20, 3) := by decide +kernel
theorem dX5_firstWidth_16 : decode cX5_firstWidth 16 = .ok (.aload_n 0, 1) := by decide +kernel
theorem dX5_firstWidth_17 : decode cX5_firstWidth 17 = .ok (.getfield 9, 3) := by decide +kernel
theorem dX5_firstWidth_20 : decode cX5_firstWidth 20 = .ok (.iload_n 1, 1) := by decide +kernel
theorem dX5_firstWidth_21 : decode cX5_firstWidth 21 = .ok (.iaload, 1) := by decide +kernel
theorem dX5_firstWidth_22 : decode cX5_firstWidth 22 = .ok (.bipush 47, 2) := by decide +kernel
theorem dX5_firstWidth_24 : decode cX5_firstWidth 24 = .ok (.if_icmp .eq 9, 3) := by decide +kernel
theorem dX5_firstWidth_27 : decode cX5_firstWidth 27 = .ok (.iinc 1 1, 3) := by decide +kernel
theorem dX5_firstWidth_30 : decode cX5_firstWidth 30 = .ok (.goto (-28), 3) := by decide +kernel
theorem dX5_firstWidth_33 : decode cX5_firstWidth 33 = .ok (.iload_n 1, 1) := by decide +kernel
theorem dX5_firstWidth_34 : decode cX5_firstWidth 34 = .ok (.ireturn, 1) := by decide +kernel
theorem dX6_init_0 : decode cX6_init 0 = .ok (.aload_n 0, 1) := by decide +kernel
theorem dX6_init_1 : decode cX6_init 1 = .ok (.invokespecial 3, 3) := by decide +kernel
theorem dX6_init_4 : decode cX6_init 4 = .ok (.aload_n 0, 1) := by decide +kernel
theorem dX6_init_5 : decode cX6_init 5 = .ok (.aload_n 1, 1) := by decide +kernel
theorem dX6_init_6 : decode cX6_init 6 = .ok (.putfield 9, 3) := by decide +kernel
theorem dX6_init_9 : decode cX6_init 9 = .ok (.aload_n 0, 1) := by decide +kernel
theorem dX6_init_10 : decode cX6_init 10 = .ok (.bipush 16, 2) := by decide +kernel
theorem dX6_init_12 : decode cX6_init 12 = .ok (.newarray .int, 2) := by decide +kernel
theorem dX6_init_14 : decode cX6_init 14 = .ok (.putfield 15, 3) := by decide +kernel
theorem dX6_init_17 : decode cX6_init 17 = .ok (.aload_n 0, 1) := by decide +kernel
theorem dX6_init_18 : decode cX6_init 18 = .ok (.bipush 16, 2) := by decide +kernel
theorem dX6_init_20 : decode cX6_init 20 = .ok (.bipush 17, 2) := by decide +kernel
theorem dX6_init_22 : decode cX6_init 22 = .ok (.multianewarray 19 2, 4) := by decide +kernel
theorem dX6_init_26 : decode cX6_init 26 = .ok (.putfield 21, 3) := by decide +kernel
theorem dX6_init_29 : decode cX6_init 29 = .ok (.return_, 1) := by decide +kernel
set_option maxRecDepth 20000 in
theorem ggX6_meanSteps_X1_bit : GoodIn wsX6_meanSteps wsX1_bit := goodIn_r _ [9] (by decide +kernel) (by decide +kernel)
set_option maxRecDepth 20000 in
theorem gX6_meanSteps_X1_bit : GoodIn wsX6_meanSteps (va_wsS RX6 31 yX1_bit wsX1_bit) := goodIn_app (goodIn_of _ (by decide +kernel)) ggX6_meanSteps_X1_bit
set_option maxRecDepth 20000 in
theorem ggX6_meanSteps_X6_list : GoodIn wsX6_meanSteps wsX6_list := goodIn_r _ [14, 4, 15, 16, 8, 17, 18, 19, 20, 13, 21, 22, 58, 59, 60, 61, 62, 63] (by decide +kernel) (by decide +kernel)
set_option maxRecDepth 20000 in
theorem gX6_meanSteps_X6_list : GoodIn wsX6_meanSteps (wsV RX6 39 RX6 yX6_list wsX6_list) := goodIn_app (goodIn_of _ (by decide +kernel)) ggX6_meanSteps_X6_list
set_option maxRecDepth 20000 in
theorem ggX6_meanSteps_X6_add : GoodIn wsX6_meanSteps wsX6_add := goodIn_r _ [21, 4, 22, 58, 59, 60, 61, 62, 63] (by decide +kernel) (by decide +kernel)
set_option maxRecDepth 20000 in
theorem gX6_meanSteps_X6_add : GoodIn wsX6_meanSteps (wsV RX6 43 RX6 yX6_add wsX6_add) := goodIn_app (goodIn_of _ (by decide +kernel)) ggX6_meanSteps_X6_add
set_option maxRecDepth 20000 in
theorem ggX6_meanSteps_X6_fillTable : GoodIn wsX6_meanSteps wsX6_fillTable := goodIn_r _ [26, 4, 27, 22, 5, 3, 6, 7, 8, 9, 28, 29, 30, 31, 32, 33, 15, 16, 17, 34, 35, 36, 37, 38, 39, 40, 41, 42, 43, 44, 45, 46, 58, 59, 60, 61, 62, 63, 64, 65, 66, 67, 68, 69, 70] (by decide +kernel) (by decide +kernel)
set_option maxRecDepth 20000 in
theorem gX6_meanSteps_X6_fillTable : GoodIn wsX6_meanSteps (wsV RX6 47 RX6 yX6_fillTable wsX6_fillTable) := goodIn_app (goodIn_of _ (by decide +kernel)) ggX6_meanSteps_X6_fillTable
set_option maxRecDepth 20000 in
theorem ggX6_meanSteps_X6_eliminate : GoodIn wsX6_meanSteps wsX6_eliminate := goodIn_r _ [50, 4, 5, 58, 59, 60, 61, 62, 63] (by decide +kernel) (by decide +kernel)
set_option maxRecDepth 20000 in
theorem gX6_meanSteps_X6_eliminate : GoodIn wsX6_meanSteps (wsV RX6 50 RX6 yX6_eliminate wsX6_eliminate) := goodIn_app (goodIn_of _ (by decide +kernel)) ggX6_meanSteps_X6_eliminate
set_option maxRecDepth 20000 in
theorem ggX6_meanSteps_X6_setFraction : GoodIn wsX6_meanSteps wsX6_setFraction := goodIn_r _ [54, 1, 2, 55, 56, 13, 57, 58, 59, 60, 61, 62, 63] (by decide +kernel) (by decide +kernel)
set_option maxRecDepth 20000 in
theorem gX6_meanSteps_X6_setFraction : GoodIn wsX6_meanSteps (wsV RX6 57 RX6 yX6_setFraction wsX6_setFraction) := goodIn_app (goodIn_of _ (by decide +kernel)) ggX6_meanSteps_X6_setFraction
theorem dX6_meanSteps_0 : decode cX6_meanSteps 0 = .ok (.aload_n 0, 1) := by decide +kernel
theorem dX6_meanSteps_1 : decode cX6_meanSteps 1 = .ok (.lconst 0, 1) := by decide +kernel
theorem dX6_meanSteps_2 : decode cX6_meanSteps 2 = .ok (.putfield 24, 3) := by decide +kernel
theorem dX6_meanSteps_5 : decode cX6_meanSteps 5 = .ok (.aload_n 0, 1) := by decide +kernel
theorem dX6_meanSteps_6 : decode cX6_meanSteps 6 = .ok (.lconst 1, 1) := by decide +kernel
theorem dX6_meanSteps_7 : decode cX6_meanSteps 7 = .ok (.putfield 28, 3) := by decide +kernel
theorem dX6_meanSteps_10 : decode cX6_meanSteps 10 = .ok (.iload_n 3, 1) := by decide +kernel
theorem dX6_meanSteps_11 : decode cX6_meanSteps 11 = .ok (.iload 4, 2) := by decide +kernel
theorem dX6_meanSteps_13 : decode cX6_meanSteps 13 = .ok (.if_icmp .ne 4, 3) := by decide +kernel
theorem dX6_meanSteps_16 : decode cX6_meanSteps 16 = .ok (.return_, 1) := by decide +kernel
theorem dX6_meanSteps_17 : decode cX6_meanSteps 17 = .ok (.aload_n 0, 1) := by decide +kernel
theorem dX6_meanSteps_18 : decode cX6_meanSteps 18 = .ok (.lload_n 1, 1) := by decide +kernel
theorem dX6_meanSteps_19 : decode cX6_meanSteps 19 = .ok (.iload_n 3, 1) := by decide +kernel
theorem dX6_meanSteps_20 : decode cX6_meanSteps 20 = .ok (.invokestatic 31, 3) := by decide +kernel
theorem dX6_meanSteps_23 : decode cX6_meanSteps 23 = .ok (.ldc2_w 37, 3) := by decide +kernel
theorem dX6_meanSteps_26 : decode cX6_meanSteps 26 = .ok (.lxor, 1) := by decide +kernel
theorem dX6_meanSteps_27 : decode cX6_meanSteps 27 = .ok (.land, 1) := by decide +kernel
theorem dX6_meanSteps_28 : decode cX6_meanSteps 28 = .ok (.iload 4, 2) := by decide +kernel
theorem dX6_meanSteps_30 : decode cX6_meanSteps 30 = .ok (.invokestatic 31, 3) := by decide +kernel
theorem dX6_meanSteps_33 : decode cX6_meanSteps 33 = .ok (.ldc2_w 37, 3) := by decide +kernel
theorem dX6_meanSteps_36 : decode cX6_meanSteps 36 = .ok (.lxor, 1) := by decide +kernel
theorem dX6_meanSteps_37 : decode cX6_meanSteps 37 = .ok (.land, 1) := by decide +kernel
theorem dX6_meanSteps_38 : decode cX6_meanSteps 38 = .ok (.invokevirtual 39, 3) := by decide +kernel
theorem dX6_meanSteps_41 : decode cX6_meanSteps 41 = .ok (.aload_n 0, 1) := by decide +kernel
theorem dX6_meanSteps_42 : decode cX6_meanSteps 42 = .ok (.iload_n 3, 1) := by decide +kernel
theorem dX6_meanSteps_43 : decode cX6_meanSteps 43 = .ok (.invokevirtual 43, 3) := by decide +kernel
theorem dX6_meanSteps_46 : decode cX6_meanSteps 46 = .ok (.aload_n 0, 1) := by decide +kernel
theorem dX6_meanSteps_47 : decode cX6_meanSteps 47 = .ok (.invokevirtual 47, 3) := by decide +kernel
theorem dX6_meanSteps_50 : decode cX6_meanSteps 50 = .ok (.aload_n 0, 1) := by decide +kernel
theorem dX6_meanSteps_51 : decode cX6_meanSteps 51 = .ok (.invokevirtual 50, 3) := by decide +kernel
theorem dX6_meanSteps_54 : decode cX6_meanSteps 54 = .ok (.aload_n 0, 1) := by decide +kernel
theorem dX6_meanSteps_55 : decode cX6_meanSteps 55 = .ok (.getfield 53, 3) := by decide +kernel
theorem dX6_meanSteps_58 : decode cX6_meanSteps 58 = .ok (.iconst 1, 1) := by decide +kernel
theorem dX6_meanSteps_59 : decode cX6_meanSteps 59 = .ok (.if_icmp .lt 50, 3) := by decide +kernel
theorem dX6_meanSteps_62 : decode cX6_meanSteps 62 = .ok (.aload_n 0, 1) := by decide +kernel
theorem dX6_meanSteps_63 : decode cX6_meanSteps 63 = .ok (.getfield 53, 3) := by decide +kernel
theorem dX6_meanSteps_66 : decode cX6_meanSteps 66 = .ok (.bipush 16, 2) := by decide +kernel
theorem dX6_meanSteps_68 : decode cX6_meanSteps 68 = .ok (.if_icmp .gt 41, 3) := by decide +kernel
theorem dX6_meanSteps_71 : decode cX6_meanSteps 71 = .ok (.aload_n 0, 1) := by decide +kernel
theorem dX6_meanSteps_72 : decode cX6_meanSteps 72 = .ok (.aload_n 0, 1) := by decide +kernel
theorem dX6_meanSteps_73 : decode cX6_meanSteps 73 = .ok (.getfield 21, 3) := by decide +kernel
theorem dX6_meanSteps_76 : decode cX6_meanSteps 76 = .ok (.aload_n 0, 1) := by decide +kernel
theorem dX6_meanSteps_77 : decode cX6_meanSteps 77 = .ok (.getfield 53, 3) := by decide +kernel
theorem dX6_meanSteps_80 : decode cX6_meanSteps 80 = .ok (.iconst 1, 1) := by decide +kernel
theorem dX6_meanSteps_81 : decode cX6_meanSteps 81 = .ok (.isub, 1) := by decide +kernel
theorem dX6_meanSteps_82 : decode cX6_meanSteps 82 = .ok (.aaload, 1) := by decide +kernel
theorem dX6_meanSteps_83 : decode cX6_meanSteps 83 = .ok (.aload_n 0, 1) := by decide +kernel
theorem dX6_meanSteps_84 : decode cX6_meanSteps 84 = .ok (.getfield 53, 3) := by decide +kernel
theorem dX6_meanSteps_87 : decode cX6_meanSteps 87 = .ok (.laload, 1) := by decide +kernel
theorem dX6_meanSteps_88 : decode cX6_meanSteps 88 = .ok (.aload_n 0, 1) := by decide +kernel
theorem dX6_meanSteps_89 : decode cX6_meanSteps 89 = .ok (.getfield 21, 3) := by decide +kernel
theorem dX6_meanSteps_92 : decode cX6_meanSteps 92 = .ok (.aload_n 0, 1) := by decide +kernel
theorem dX6_meanSteps_93 : decode cX6_meanSteps 93 = .ok (.getfield 53, 3) := by decide +kernel
theorem dX6_meanSteps_96 : decode cX6_meanSteps 96 = .ok (.iconst 1, 1) := by decide +kernel
theorem dX6_meanSteps_97 : decode cX6_meanSteps 97 = .ok (.isub, 1) := by decide +kernel
theorem dX6_meanSteps_98 : decode cX6_meanSteps 98 = .ok (.aaload, 1) := by decide +kernel
theorem dX6_meanSteps_99 : decode cX6_meanSteps 99 = .ok (.aload_n 0, 1) := by decide +kernel
theorem dX6_meanSteps_100 : decode cX6_meanSteps 100 = .ok (.getfield 53, 3) := by decide +kernel
theorem dX6_meanSteps_103 : decode cX6_meanSteps 103 = .ok (.iconst 1, 1) := by decide +kernel
theorem dX6_meanSteps_104 : decode cX6_meanSteps 104 = .ok (.isub, 1) := by decide +kernel
theorem dX6_meanSteps_105 : decode cX6_meanSteps 105 = .ok (.laload, 1) := by decide +kernel
theorem dX6_meanSteps_106 : decode cX6_meanSteps 106 = .ok (.invokevirtual 57, 3) := by decide +kernel
theorem dX6_meanSteps_109 : decode cX6_meanSteps 109 = .ok (.return_, 1) := by decide +kernel
set_option maxRecDepth 20000 in
theorem ggX6_treesOf_X1_bit : GoodIn wsX6_treesOf wsX1_bit := goodIn_r _ [7] (by decide +kernel) (by decide +kernel)
set_option maxRecDepth 20000 in
theorem gX6_treesOf_X1_bit : GoodIn wsX6_treesOf (va_wsS RX6 31 yX1_bit wsX1_bit) := goodIn_app (goodIn_of _ (by decide +kernel)) ggX6_treesOf_X1_bit
set_option maxRecDepth 20000 in
theorem ggX6_treesOf_X6_list : GoodIn wsX6_treesOf wsX6_list := goodIn_r _ [12, 2, 13, 14, 6, 15, 16, 17, 18, 11, 19, 20, 49, 50, 51, 52, 53, 54] (by decide +kernel) (by decide +kernel)
set_option maxRecDepth 20000 in
theorem gX6_treesOf_X6_list : GoodIn wsX6_treesOf (wsV RX6 39 RX6 yX6_list wsX6_list) := goodIn_app (goodIn_of _ (by decide +kernel)) ggX6_treesOf_X6_list
set_option maxRecDepth 20000 in
theorem ggX6_treesOf_X6_fillTable : GoodIn wsX6_treesOf wsX6_fillTable := goodIn_r _ [24, 2, 25, 20, 3, 1, 4, 5, 6, 7, 26, 27, 28, 29, 30, 31, 13, 14, 15, 32, 33, 34, 35, 36, 37, 38, 39, 40, 41, 42, 43, 44, 49, 50, 51, 52, 53, 54, 55, 56, 57, 58, 59, 60, 61] (by decide +kernel) (by decide +kernel)
set_option maxRecDepth 20000 in
theorem gX6_treesOf_X6_fillTable : GoodIn wsX6_treesOf (wsV RX6 47 RX6 yX6_fillTable wsX6_fillTable) := goodIn_app (goodIn_of _ (by decide +kernel)) ggX6_treesOf_X6_fillTable
set_option maxRecDepth 20000 in
theorem ggX6_treesOf_X6_eliminate : GoodIn wsX6_treesOf wsX6_eliminate := goodIn_r _ [48, 2, 3, 49, 50, 51, 52, 53, 54] (by decide +kernel) (by decide +kernel)
set_option maxRecDepth 20000 in
theorem gX6_treesOf_X6_eliminate : GoodIn wsX6_treesOf (wsV RX6 50 RX6 yX6_eliminate wsX6_eliminate) := goodIn_app (goodIn_of _ (by decide +kernel)) ggX6_treesOf_X6_eliminate
theorem dX6_treesOf_0 : decode cX6_treesOf 0 = .ok (.aload_n 0, 1) := by decide +kernel
theorem dX6_treesOf_1 : decode cX6_treesOf 1 = .ok (.lload_n 1, 1) := by decide +kernel
theorem dX6_treesOf_2 : decode cX6_treesOf 2 = .ok (.iload_n 3, 1) := by decide +kernel
theorem dX6_treesOf_3 : decode cX6_treesOf 3 = .ok (.invokestatic 31, 3) := by decide +kernel
theorem dX6_treesOf_6 : decode cX6_treesOf 6 = .ok (.ldc2_w 37, 3) := by decide +kernel
theorem dX6_treesOf_9 : decode cX6_treesOf 9 = .ok (.lxor, 1) := by decide +kernel
theorem dX6_treesOf_10 : decode cX6_treesOf 10 = .ok (.land, 1) := by decide +kernel
theorem dX6_treesOf_11 : decode cX6_treesOf 11 = .ok (.invokevirtual 39, 3) := by decide +kernel
theorem dX6_treesOf_14 : decode cX6_treesOf 14 = .ok (.aload_n 0, 1) := by decide +kernel
theorem dX6_treesOf_15 : decode cX6_treesOf 15 = .ok (.invokevirtual 47, 3) := by decide +kernel
theorem dX6_treesOf_18 : decode cX6_treesOf 18 = .ok (.aload_n 0, 1) := by decide +kernel
theorem dX6_treesOf_19 : decode cX6_treesOf 19 = .ok (.invokevirtual 50, 3) := by decide +kernel
theorem dX6_treesOf_22 : decode cX6_treesOf 22 = .ok (.aload_n 0, 1) := by decide +kernel
theorem dX6_treesOf_23 : decode cX6_treesOf 23 = .ok (.getfield 53, 3) := by decide +kernel
theorem dX6_treesOf_26 : decode cX6_treesOf 26 = .ok (.iconst 1, 1) := by decide +kernel
theorem dX6_treesOf_27 : decode cX6_treesOf 27 = .ok (.if_icmp .lt 12, 3) := by decide +kernel
theorem dX6_treesOf_30 : decode cX6_treesOf 30 = .ok (.aload_n 0, 1) := by decide +kernel
theorem dX6_treesOf_31 : decode cX6_treesOf 31 = .ok (.getfield 53, 3) := by decide +kernel
theorem dX6_treesOf_34 : decode cX6_treesOf 34 = .ok (.bipush 16, 2) := by decide +kernel
theorem dX6_treesOf_36 : decode cX6_treesOf 36 = .ok (.if_icmp .le 7, 3) := by decide +kernel
theorem dX6_treesOf_39 : decode cX6_treesOf 39 = .ok (.lconst 1, 1) := by decide +kernel
theorem dX6_treesOf_40 : decode cX6_treesOf 40 = .ok (.goto 21, 3) := by decide +kernel
theorem dX6_treesOf_43 : decode cX6_treesOf 43 = .ok (.aload_n 0, 1) := by decide +kernel
theorem dX6_treesOf_44 : decode cX6_treesOf 44 = .ok (.getfield 21, 3) := by decide +kernel
theorem dX6_treesOf_47 : decode cX6_treesOf 47 = .ok (.aload_n 0, 1) := by decide +kernel
theorem dX6_treesOf_48 : decode cX6_treesOf 48 = .ok (.getfield 53, 3) := by decide +kernel
theorem dX6_treesOf_51 : decode cX6_treesOf 51 = .ok (.iconst 1, 1) := by decide +kernel
theorem dX6_treesOf_52 : decode cX6_treesOf 52 = .ok (.isub, 1) := by decide +kernel
theorem dX6_treesOf_53 : decode cX6_treesOf 53 = .ok (.aaload, 1) := by decide +kernel
theorem dX6_treesOf_54 : decode cX6_treesOf 54 = .ok (.aload_n 0, 1) := by decide +kernel
theorem dX6_treesOf_55 : decode cX6_treesOf 55 = .ok (.getfield 53, 3) := by decide +kernel
theorem dX6_treesOf_58 : decode cX6_treesOf 58 = .ok (.iconst 1, 1) := by decide +kernel
theorem dX6_treesOf_59 : decode cX6_treesOf 59 = .ok (.isub, 1) := by decide +kernel
theorem dX6_treesOf_60 : decode cX6_treesOf 60 = .ok (.laload, 1) := by decide +kernel
theorem dX6_treesOf_61 : decode cX6_treesOf 61 = .ok (.lreturn, 1) := by decide +kernel
set_option maxRecDepth 20000 in
theorem ggX6_list_X1_has : GoodIn wsX6_list wsX1_has := goodIn_r _ [5] (by decide +kernel) (by decide +kernel)
set_option maxRecDepth 20000 in
theorem gX6_list_X1_has : GoodIn wsX6_list (va_wsS RX6 61 yX1_has wsX1_has) := goodIn_app (goodIn_of _ (by decide +kernel)) ggX6_list_X1_has
set_option maxRecDepth 20000 in
theorem ggX6_list_X6_add : GoodIn wsX6_list wsX6_add := goodIn_r _ [10, 1, 11, 12, 13, 14, 15, 16, 17] (by decide +kernel) (by decide +kernel)
set_option maxRecDepth 20000 in
theorem gX6_list_X6_add : GoodIn wsX6_list (wsV RX6 43 RX6 yX6_add wsX6_add) := goodIn_app (goodIn_of _ (by decide +kernel)) ggX6_list_X6_add
theorem dX6_list_0 : decode cX6_list 0 = .ok (.aload_n 0, 1) := by decide +kernel
theorem dX6_list_1 : decode cX6_list 1 = .ok (.iconst 0, 1) := by decide +kernel
theorem dX6_list_2 : decode cX6_list 2 = .ok (.putfield 53, 3) := by decide +kernel
theorem dX6_list_5 : decode cX6_list 5 = .ok (.iconst 0, 1) := by decide +kernel
theorem dX6_list_6 : decode cX6_list 6 = .ok (.istore_n 3, 1) := by decide +kernel
theorem dX6_list_7 : decode cX6_list 7 = .ok (.iload_n 3, 1) := by decide +kernel
theorem dX6_list_8 : decode cX6_list 8 = .ok (.bipush 48, 2) := by decide +kernel
theorem dX6_list_10 : decode cX6_list 10 = .ok (.if_icmp .ge 22, 3) := by decide +kernel
theorem dX6_list_13 : decode cX6_list 13 = .ok (.lload_n 1, 1) := by decide +kernel
theorem dX6_list_14 : decode cX6_list 14 = .ok (.iload_n 3, 1) := by decide +kernel
theorem dX6_list_15 : decode cX6_list 15 = .ok (.invokestatic 61, 3) := by decide +kernel
theorem dX6_list_18 : decode cX6_list 18 = .ok (.ifCond .eq 8, 3) := by decide +kernel
theorem dX6_list_21 : decode cX6_list 21 = .ok (.aload_n 0, 1) := by decide +kernel
theorem dX6_list_22 : decode cX6_list 22 = .ok (.iload_n 3, 1) := by decide +kernel
theorem dX6_list_23 : decode cX6_list 23 = .ok (.invokevirtual 43, 3) := by decide +kernel
theorem dX6_list_26 : decode cX6_list 26 = .ok (.iinc 3 1, 3) := by decide +kernel
theorem dX6_list_29 : decode cX6_list 29 = .ok (.goto (-22), 3) := by decide +kernel
theorem dX6_list_32 : decode cX6_list 32 = .ok (.return_, 1) := by decide +kernel
theorem dX6_add_0 : decode cX6_add 0 = .ok (.aload_n 0, 1) := by decide +kernel
theorem dX6_add_1 : decode cX6_add 1 = .ok (.getfield 53, 3) := by decide +kernel
theorem dX6_add_4 : decode cX6_add 4 = .ok (.bipush 16, 2) := by decide +kernel
theorem dX6_add_6 : decode cX6_add 6 = .ok (.if_icmp .ge 23, 3) := by decide +kernel
theorem dX6_add_9 : decode cX6_add 9 = .ok (.aload_n 0, 1) := by decide +kernel
theorem dX6_add_10 : decode cX6_add 10 = .ok (.getfield 15, 3) := by decide +kernel
theorem dX6_add_13 : decode cX6_add 13 = .ok (.aload_n 0, 1) := by decide +kernel
theorem dX6_add_14 : decode cX6_add 14 = .ok (.getfield 53, 3) := by decide +kernel
theorem dX6_add_17 : decode cX6_add 17 = .ok (.iload_n 1, 1) := by decide +kernel
theorem dX6_add_18 : decode cX6_add 18 = .ok (.iastore, 1) := by decide +kernel
theorem dX6_add_19 : decode cX6_add 19 = .ok (.aload_n 0, 1) := by decide +kernel
theorem dX6_add_20 : decode cX6_add 20 = .ok (.dup, 1) := by decide +kernel
theorem dX6_add_21 : decode cX6_add 21 = .ok (.getfield 53, 3) := by decide +kernel
theorem dX6_add_24 : decode cX6_add 24 = .ok (.iconst 1, 1) := by decide +kernel
theorem dX6_add_25 : decode cX6_add 25 = .ok (.iadd, 1) := by decide +kernel
theorem dX6_add_26 : decode cX6_add 26 = .ok (.putfield 53, 3) := by decide +kernel
theorem dX6_add_29 : decode cX6_add 29 = .ok (.return_, 1) := by decide +kernel
set_option maxRecDepth 20000 in
theorem ggX6_fillTable_X1_bit : GoodIn wsX6_fillTable wsX1_bit := goodIn_r _ [9] (by decide +kernel) (by decide +kernel)
set_option maxRecDepth 20000 in
theorem gX6_fillTable_X1_bit : GoodIn wsX6_fillTable (va_wsS RX6 31 yX1_bit wsX1_bit) := goodIn_app (goodIn_of _ (by decide +kernel)) ggX6_fillTable_X1_bit
set_option maxRecDepth 20000 in
theorem ggX6_fillTable_X1_near : GoodIn wsX6_fillTable wsX1_near := goodIn_r _ [13, 14, 15, 38, 39, 40, 41, 42, 43, 44] (by decide +kernel) (by decide +kernel)
set_option maxRecDepth 20000 in
theorem gX6_fillTable_X1_near : GoodIn wsX6_fillTable (wsV RX6 65 RX1 yX1_near wsX1_near) := goodIn_app (goodIn_of _ (by decide +kernel)) ggX6_fillTable_X1_near
set_option maxRecDepth 20000 in
theorem ggX6_fillTable_X1_has : GoodIn wsX6_fillTable wsX1_has := goodIn_r _ [18] (by decide +kernel) (by decide +kernel)
set_option maxRecDepth 20000 in
theorem gX6_fillTable_X1_has : GoodIn wsX6_fillTable (va_wsS RX6 61 yX1_has wsX1_has) := goodIn_app (goodIn_of _ (by decide +kernel)) ggX6_fillTable_X1_has
set_option maxRecDepth 20000 in
theorem ggX6_fillTable_X1_neighbours : GoodIn wsX6_fillTable wsX1_neighbours := goodIn_r _ [22, 23, 7, 8, 9, 24, 11, 12, 13, 14, 15, 25, 26, 27, 28, 29, 30, 31, 38, 39, 40, 41, 42, 43, 44] (by decide +kernel) (by decide +kernel)
set_option maxRecDepth 20000 in
theorem gX6_fillTable_X1_neighbours : GoodIn wsX6_fillTable (wsV RX6 69 RX1 yX1_neighbours wsX1_neighbours) := goodIn_app (goodIn_of _ (by decide +kernel)) ggX6_fillTable_X1_neighbours
theorem dX6_fillTable_0 : decode cX6_fillTable 0 = .ok (.iconst 0, 1) := by decide +kernel
theorem dX6_fillTable_1 : decode cX6_fillTable 1 = .ok (.istore_n 1, 1) := by decide +kernel
theorem dX6_fillTable_2 : decode cX6_fillTable 2 = .ok (.iload_n 1, 1) := by decide +kernel
theorem dX6_fillTable_3 : decode cX6_fillTable 3 = .ok (.aload_n 0, 1) := by decide +kernel
theorem dX6_fillTable_4 : decode cX6_fillTable 4 = .ok (.getfield 53, 3) := by decide +kernel
theorem dX6_fillTable_7 : decode cX6_fillTable 7 = .ok (.if_icmp .ge 128, 3) := by decide +kernel
theorem dX6_fillTable_10 : decode cX6_fillTable 10 = .ok (.iload_n 1, 1) := by decide +kernel
theorem dX6_fillTable_11 : decode cX6_fillTable 11 = .ok (.bipush 16, 2) := by decide +kernel
theorem dX6_fillTable_13 : decode cX6_fillTable 13 = .ok (.if_icmp .ge 122, 3) := by decide +kernel
theorem dX6_fillTable_16 : decode cX6_fillTable 16 = .ok (.aload_n 0, 1) := by decide +kernel
theorem dX6_fillTable_17 : decode cX6_fillTable 17 = .ok (.getfield 9, 3) := by decide +kernel
theorem dX6_fillTable_20 : decode cX6_fillTable 20 = .ok (.aload_n 0, 1) := by decide +kernel
theorem dX6_fillTable_21 : decode cX6_fillTable 21 = .ok (.getfield 15, 3) := by decide +kernel
theorem dX6_fillTable_24 : decode cX6_fillTable 24 = .ok (.iload_n 1, 1) := by decide +kernel
theorem dX6_fillTable_25 : decode cX6_fillTable 25 = .ok (.iaload, 1) := by decide +kernel
theorem dX6_fillTable_26 : decode cX6_fillTable 26 = .ok (.invokestatic 31, 3) := by decide +kernel
theorem dX6_fillTable_29 : decode cX6_fillTable 29 = .ok (.invokevirtual 65, 3) := by decide +kernel
theorem dX6_fillTable_32 : decode cX6_fillTable 32 = .ok (.lstore_n 2, 1) := by decide +kernel
theorem dX6_fillTable_33 : decode cX6_fillTable 33 = .ok (.iconst 0, 1) := by decide +kernel
theorem dX6_fillTable_34 : decode cX6_fillTable 34 = .ok (.istore 4, 2) := by decide +kernel
theorem dX6_fillTable_36 : decode cX6_fillTable 36 = .ok (.iload 4, 2) := by decide +kernel
theorem dX6_fillTable_38 : decode cX6_fillTable 38 = .ok (.aload_n 0, 1) := by decide +kernel
theorem dX6_fillTable_39 : decode cX6_fillTable 39 = .ok (.getfield 53, 3) := by decide +kernel
theorem dX6_fillTable_42 : decode cX6_fillTable 42 = .ok (.if_icmp .ge 46, 3) := by decide +kernel
theorem dX6_fillTable_45 : decode cX6_fillTable 45 = .ok (.iload 4, 2) := by decide +kernel
theorem dX6_fillTable_47 : decode cX6_fillTable 47 = .ok (.bipush 16, 2) := by decide +kernel
theorem dX6_fillTable_49 : decode cX6_fillTable 49 = .ok (.if_icmp .ge 39, 3) := by decide +kernel
theorem dX6_fillTable_52 : decode cX6_fillTable 52 = .ok (.aload_n 0, 1) := by decide +kernel
theorem dX6_fillTable_53 : decode cX6_fillTable 53 = .ok (.getfield 21, 3) := by decide +kernel
theorem dX6_fillTable_56 : decode cX6_fillTable 56 = .ok (.iload_n 1, 1) := by decide +kernel
theorem dX6_fillTable_57 : decode cX6_fillTable 57 = .ok (.aaload, 1) := by decide +kernel
theorem dX6_fillTable_58 : decode cX6_fillTable 58 = .ok (.iload 4, 2) := by decide +kernel
theorem dX6_fillTable_60 : decode cX6_fillTable 60 = .ok (.lload_n 2, 1) := by decide +kernel
theorem dX6_fillTable_61 : decode cX6_fillTable 61 = .ok (.aload_n 0, 1) := by decide +kernel
theorem dX6_fillTable_62 : decode cX6_fillTable 62 = .ok (.getfield 15, 3) := by decide +kernel
theorem dX6_fillTable_65 : decode cX6_fillTable 65 = .ok (.iload 4, 2) := by decide +kernel
theorem dX6_fillTable_67 : decode cX6_fillTable 67 = .ok (.iaload, 1) := by decide +kernel
theorem dX6_fillTable_68 : decode cX6_fillTable 68 = .ok (.invokestatic 61, 3) := by decide +kernel
theorem dX6_fillTable_71 : decode cX6_fillTable 71 = .ok (.ifCond .eq 9, 3) := by decide +kernel
theorem dX6_fillTable_74 : decode cX6_fillTable 74 = .ok (.ldc2_w 37, 3) := by decide +kernel
theorem dX6_fillTable_77 : decode cX6_fillTable 77 = .ok (.goto 4, 3) := by decide +kernel
theorem dX6_fillTable_80 : decode cX6_fillTable 80 = .ok (.lconst 0, 1) := by decide +kernel
theorem dX6_fillTable_81 : decode cX6_fillTable 81 = .ok (.lastore, 1) := by decide +kernel
theorem dX6_fillTable_82 : decode cX6_fillTable 82 = .ok (.iinc 4 1, 3) := by decide +kernel
theorem dX6_fillTable_85 : decode cX6_fillTable 85 = .ok (.goto (-49), 3) := by decide +kernel
theorem dX6_fillTable_88 : decode cX6_fillTable 88 = .ok (.aload_n 0, 1) := by decide +kernel
theorem dX6_fillTable_89 : decode cX6_fillTable 89 = .ok (.getfield 21, 3) := by decide +kernel
theorem dX6_fillTable_92 : decode cX6_fillTable 92 = .ok (.iload_n 1, 1) := by decide +kernel
theorem dX6_fillTable_93 : decode cX6_fillTable 93 = .ok (.aaload, 1) := by decide +kernel
theorem dX6_fillTable_94 : decode cX6_fillTable 94 = .ok (.iload_n 1, 1) := by decide +kernel
theorem dX6_fillTable_95 : decode cX6_fillTable 95 = .ok (.aload_n 0, 1) := by decide +kernel
theorem dX6_fillTable_96 : decode cX6_fillTable 96 = .ok (.getfield 9, 3) := by decide +kernel
theorem dX6_fillTable_99 : decode cX6_fillTable 99 = .ok (.aload_n 0, 1) := by decide +kernel
theorem dX6_fillTable_100 : decode cX6_fillTable 100 = .ok (.getfield 15, 3) := by decide +kernel
theorem dX6_fillTable_103 : decode cX6_fillTable 103 = .ok (.iload_n 1, 1) := by decide +kernel
theorem dX6_fillTable_104 : decode cX6_fillTable 104 = .ok (.iaload, 1) := by decide +kernel
theorem dX6_fillTable_105 : decode cX6_fillTable 105 = .ok (.invokevirtual 69, 3) := by decide +kernel
theorem dX6_fillTable_108 : decode cX6_fillTable 108 = .ok (.i2l, 1) := by decide +kernel
theorem dX6_fillTable_109 : decode cX6_fillTable 109 = .ok (.lastore, 1) := by decide +kernel
theorem dX6_fillTable_110 : decode cX6_fillTable 110 = .ok (.aload_n 0, 1) := by decide +kernel
theorem dX6_fillTable_111 : decode cX6_fillTable 111 = .ok (.getfield 21, 3) := by decide +kernel
theorem dX6_fillTable_114 : decode cX6_fillTable 114 = .ok (.iload_n 1, 1) := by decide +kernel
theorem dX6_fillTable_115 : decode cX6_fillTable 115 = .ok (.aaload, 1) := by decide +kernel
theorem dX6_fillTable_116 : decode cX6_fillTable 116 = .ok (.aload_n 0, 1) := by decide +kernel
theorem dX6_fillTable_117 : decode cX6_fillTable 117 = .ok (.getfield 53, 3) := by decide +kernel
theorem dX6_fillTable_120 : decode cX6_fillTable 120 = .ok (.aload_n 0, 1) := by decide +kernel
theorem dX6_fillTable_121 : decode cX6_fillTable 121 = .ok (.getfield 21, 3) := by decide +kernel
theorem dX6_fillTable_124 : decode cX6_fillTable 124 = .ok (.iload_n 1, 1) := by decide +kernel
theorem dX6_fillTable_125 : decode cX6_fillTable 125 = .ok (.aaload, 1) := by decide +kernel
theorem dX6_fillTable_126 : decode cX6_fillTable 126 = .ok (.iload_n 1, 1) := by decide +kernel
theorem dX6_fillTable_127 : decode cX6_fillTable 127 = .ok (.laload, 1) := by decide +kernel
theorem dX6_fillTable_128 : decode cX6_fillTable 128 = .ok (.lastore, 1) := by decide +kernel
theorem dX6_fillTable_129 : decode cX6_fillTable 129 = .ok (.iinc 1 1, 3) := by decide +kernel
theorem dX6_fillTable_132 : decode cX6_fillTable 132 = .ok (.goto (-130), 3) := by decide +kernel
theorem dX6_fillTable_135 : decode cX6_fillTable 135 = .ok (.return_, 1) := by decide +kernel
theorem dX6_eliminate_0 : decode cX6_eliminate 0 = .ok (.lconst 1, 1) := by decide +kernel
theorem dX6_eliminate_1 : decode cX6_eliminate 1 = .ok (.lstore_n 1, 1) := by decide +kernel
theorem dX6_eliminate_2 : decode cX6_eliminate 2 = .ok (.iconst 0, 1) := by decide +kernel
theorem dX6_eliminate_3 : decode cX6_eliminate 3 = .ok (.istore_n 3, 1) := by decide +kernel
theorem dX6_eliminate_4 : decode cX6_eliminate 4 = .ok (.iload_n 3, 1) := by decide +kernel
theorem dX6_eliminate_5 : decode cX6_eliminate 5 = .ok (.aload_n 0, 1) := by decide +kernel
theorem dX6_eliminate_6 : decode cX6_eliminate 6 = .ok (.getfield 53, 3) := by decide +kernel
theorem dX6_eliminate_9 : decode cX6_eliminate 9 = .ok (.iconst 1, 1) := by decide +kernel
theorem dX6_eliminate_10 : decode cX6_eliminate 10 = .ok (.isub, 1) := by decide +kernel
theorem dX6_eliminate_11 : decode cX6_eliminate 11 = .ok (.if_icmp .ge 133, 3) := by decide +kernel
theorem dX6_eliminate_14 : decode cX6_eliminate 14 = .ok (.iload_n 3, 1) := by decide +kernel
theorem dX6_eliminate_15 : decode cX6_eliminate 15 = .ok (.bipush 16, 2) := by decide +kernel
theorem dX6_eliminate_17 : decode cX6_eliminate 17 = .ok (.if_icmp .ge 127, 3) := by decide +kernel
theorem dX6_eliminate_20 : decode cX6_eliminate 20 = .ok (.aload_n 0, 1) := by decide +kernel
theorem dX6_eliminate_21 : decode cX6_eliminate 21 = .ok (.getfield 21, 3) := by decide +kernel
theorem dX6_eliminate_24 : decode cX6_eliminate 24 = .ok (.iload_n 3, 1) := by decide +kernel
theorem dX6_eliminate_25 : decode cX6_eliminate 25 = .ok (.aaload, 1) := by decide +kernel
theorem dX6_eliminate_26 : decode cX6_eliminate 26 = .ok (.iload_n 3, 1) := by decide +kernel
theorem dX6_eliminate_27 : decode cX6_eliminate 27 = .ok (.laload, 1) := by decide +kernel
theorem dX6_eliminate_28 : decode cX6_eliminate 28 = .ok (.lstore 4, 2) := by decide +kernel
theorem dX6_eliminate_30 : decode cX6_eliminate 30 = .ok (.iload_n 3, 1) := by decide +kernel
theorem dX6_eliminate_31 : decode cX6_eliminate 31 = .ok (.iconst 1, 1) := by decide +kernel
theorem dX6_eliminate_32 : decode cX6_eliminate 32 = .ok (.iadd, 1) := by decide +kernel
theorem dX6_eliminate_33 : decode cX6_eliminate 33 = .ok (.istore 6, 2) := by decide +kernel
theorem dX6_eliminate_35 : decode cX6_eliminate 35 = .ok (.iload 6, 2) := by decide +kernel
theorem dX6_eliminate_37 : decode cX6_eliminate 37 = .ok (.aload_n 0, 1) := by decide +kernel
theorem dX6_eliminate_38 : decode cX6_eliminate 38 = .ok (.getfield 53, 3) := by decide +kernel
theorem dX6_eliminate_41 : decode cX6_eliminate 41 = .ok (.if_icmp .ge 94, 3) := by decide +kernel
theorem dX6_eliminate_44 : decode cX6_eliminate 44 = .ok (.iload 6, 2) := by decide +kernel
theorem dX6_eliminate_46 : decode cX6_eliminate 46 = .ok (.bipush 16, 2) := by decide +kernel
theorem dX6_eliminate_48 : decode cX6_eliminate 48 = .ok (.if_icmp .ge 87, 3) := by decide +kernel
theorem dX6_eliminate_51 : decode cX6_eliminate 51 = .ok (.iload_n 3, 1) := by decide +kernel
theorem dX6_eliminate_52 : decode cX6_eliminate 52 = .ok (.iconst 1, 1) := by decide +kernel
theorem dX6_eliminate_53 : decode cX6_eliminate 53 = .ok (.iadd, 1) := by decide +kernel
theorem dX6_eliminate_54 : decode cX6_eliminate 54 = .ok (.istore 7, 2) := by decide +kernel
theorem dX6_eliminate_56 : decode cX6_eliminate 56 = .ok (.iload 7, 2) := by decide +kernel
theorem dX6_eliminate_58 : decode cX6_eliminate 58 = .ok (.aload_n 0, 1) := by decide +kernel
theorem dX6_eliminate_59 : decode cX6_eliminate 59 = .ok (.getfield 53, 3) := by decide +kernel
theorem dX6_eliminate_62 : decode cX6_eliminate 62 = .ok (.if_icmp .gt 67, 3) := by decide +kernel
theorem dX6_eliminate_65 : decode cX6_eliminate 65 = .ok (.iload 7, 2) := by decide +kernel
theorem dX6_eliminate_67 : decode cX6_eliminate 67 = .ok (.bipush 16, 2) := by decide +kernel
theorem dX6_eliminate_69 : decode cX6_eliminate 69 = .ok (.if_icmp .gt 60, 3) := by decide +kernel
theorem dX6_eliminate_72 : decode cX6_eliminate 72 = .ok (.lload_n 1, 1) := by decide +kernel
theorem dX6_eliminate_73 : decode cX6_eliminate 73 = .ok (.lconst 0, 1) := by decide +kernel
theorem dX6_eliminate_74 : decode cX6_eliminate 74 = .ok (.lcmp, 1) := by decide +kernel
theorem dX6_eliminate_75 : decode cX6_eliminate 75 = .ok (.ifCond .eq 54, 3) := by decide +kernel
theorem dX6_eliminate_78 : decode cX6_eliminate 78 = .ok (.aload_n 0, 1) := by decide +kernel
theorem dX6_eliminate_79 : decode cX6_eliminate 79 = .ok (.getfield 21, 3) := by decide +kernel
theorem dX6_eliminate_82 : decode cX6_eliminate 82 = .ok (.iload 6, 2) := by decide +kernel
theorem dX6_eliminate_84 : decode cX6_eliminate 84 = .ok (.aaload, 1) := by decide +kernel
theorem dX6_eliminate_85 : decode cX6_eliminate 85 = .ok (.iload 7, 2) := by decide +kernel
theorem dX6_eliminate_87 : decode cX6_eliminate 87 = .ok (.aload_n 0, 1) := by decide +kernel
theorem dX6_eliminate_88 : decode cX6_eliminate 88 = .ok (.getfield 21, 3) := by decide +kernel
theorem dX6_eliminate_91 : decode cX6_eliminate 91 = .ok (.iload 6, 2) := by decide +kernel
theorem dX6_eliminate_93 : decode cX6_eliminate 93 = .ok (.aaload, 1) := by decide +kernel
theorem dX6_eliminate_94 : decode cX6_eliminate 94 = .ok (.iload 7, 2) := by decide +kernel
theorem dX6_eliminate_96 : decode cX6_eliminate 96 = .ok (.laload, 1) := by decide +kernel
theorem dX6_eliminate_97 : decode cX6_eliminate 97 = .ok (.lload 4, 2) := by decide +kernel
theorem dX6_eliminate_99 : decode cX6_eliminate 99 = .ok (.lmul, 1) := by decide +kernel
theorem dX6_eliminate_100 : decode cX6_eliminate 100 = .ok (.aload_n 0, 1) := by decide +kernel
theorem dX6_eliminate_101 : decode cX6_eliminate 101 = .ok (.getfield 21, 3) := by decide +kernel
theorem dX6_eliminate_104 : decode cX6_eliminate 104 = .ok (.iload 6, 2) := by decide +kernel
theorem dX6_eliminate_106 : decode cX6_eliminate 106 = .ok (.aaload, 1) := by decide +kernel
theorem dX6_eliminate_107 : decode cX6_eliminate 107 = .ok (.iload_n 3, 1) := by decide +kernel
theorem dX6_eliminate_108 : decode cX6_eliminate 108 = .ok (.laload, 1) := by decide +kernel
theorem dX6_eliminate_109 : decode cX6_eliminate 109 = .ok (.aload_n 0, 1) := by decide +kernel
theorem dX6_eliminate_110 : decode cX6_eliminate 110 = .ok (.getfield 21, 3) := by decide +kernel
theorem dX6_eliminate_113 : decode cX6_eliminate 113 = .ok (.iload_n 3, 1) := by decide +kernel
theorem dX6_eliminate_114 : decode cX6_eliminate 114 = .ok (.aaload, 1) := by decide +kernel
theorem dX6_eliminate_115 : decode cX6_eliminate 115 = .ok (.iload 7, 2) := by decide +kernel
theorem dX6_eliminate_117 : decode cX6_eliminate 117 = .ok (.laload, 1) := by decide +kernel
theorem dX6_eliminate_118 : decode cX6_eliminate 118 = .ok (.lmul, 1) := by decide +kernel
theorem dX6_eliminate_119 : decode cX6_eliminate 119 = .ok (.lsub, 1) := by decide +kernel
theorem dX6_eliminate_120 : decode cX6_eliminate 120 = .ok (.lload_n 1, 1) := by decide +kernel
theorem dX6_eliminate_121 : decode cX6_eliminate 121 = .ok (.ldiv, 1) := by decide +kernel
theorem dX6_eliminate_122 : decode cX6_eliminate 122 = .ok (.lastore, 1) := by decide +kernel
theorem dX6_eliminate_123 : decode cX6_eliminate 123 = .ok (.iinc 7 1, 3) := by decide +kernel
theorem dX6_eliminate_126 : decode cX6_eliminate 126 = .ok (.goto (-70), 3) := by decide +kernel
theorem dX6_eliminate_129 : decode cX6_eliminate 129 = .ok (.iinc 6 1, 3) := by decide +kernel
theorem dX6_eliminate_132 : decode cX6_eliminate 132 = .ok (.goto (-97), 3) := by decide +kernel
theorem dX6_eliminate_135 : decode cX6_eliminate 135 = .ok (.lload 4, 2) := by decide +kernel
theorem dX6_eliminate_137 : decode cX6_eliminate 137 = .ok (.lstore_n 1, 1) := by decide +kernel
theorem dX6_eliminate_138 : decode cX6_eliminate 138 = .ok (.iinc 3 1, 3) := by decide +kernel
theorem dX6_eliminate_141 : decode cX6_eliminate 141 = .ok (.goto (-137), 3) := by decide +kernel
theorem dX6_eliminate_144 : decode cX6_eliminate 144 = .ok (.return_, 1) := by decide +kernel
set_option maxRecDepth 20000 in
theorem ggX6_setFraction_X6_commonDivisor : GoodIn wsX6_setFraction wsX6_commonDivisor := goodIn_r _ [6] (by decide +kernel) (by decide +kernel)
set_option maxRecDepth 20000 in
theorem gX6_setFraction_X6_commonDivisor : GoodIn wsX6_setFraction (va_wsS RX6 73 yX6_commonDivisor wsX6_commonDivisor) := goodIn_app (goodIn_of _ (by decide +kernel)) ggX6_setFraction_X6_commonDivisor
theorem dX6_setFraction_0 : decode cX6_setFraction 0 = .ok (.lload_n 1, 1) := by decide +kernel
theorem dX6_setFraction_1 : decode cX6_setFraction 1 = .ok (.lload_n 3, 1) := by decide +kernel
theorem dX6_setFraction_2 : decode cX6_setFraction 2 = .ok (.invokestatic 73, 3) := by decide +kernel
theorem dX6_setFraction_5 : decode cX6_setFraction 5 = .ok (.lstore 5, 2) := by decide +kernel
theorem dX6_setFraction_7 : decode cX6_setFraction 7 = .ok (.lload 5, 2) := by decide +kernel
theorem dX6_setFraction_9 : decode cX6_setFraction 9 = .ok (.lconst 0, 1) := by decide +kernel
theorem dX6_setFraction_10 : decode cX6_setFraction 10 = .ok (.lcmp, 1) := by decide +kernel
theorem dX6_setFraction_11 : decode cX6_setFraction 11 = .ok (.ifCond .eq 19, 3) := by decide +kernel
theorem dX6_setFraction_14 : decode cX6_setFraction 14 = .ok (.aload_n 0, 1) := by decide +kernel
theorem dX6_setFraction_15 : decode cX6_setFraction 15 = .ok (.lload_n 1, 1) := by decide +kernel
theorem dX6_setFraction_16 : decode cX6_setFraction 16 = .ok (.lload 5, 2) := by decide +kernel
theorem dX6_setFraction_18 : decode cX6_setFraction 18 = .ok (.ldiv, 1) := by decide +kernel
theorem dX6_setFraction_19 : decode cX6_setFraction 19 = .ok (.putfield 24, 3) := by decide +kernel
theorem dX6_setFraction_22 : decode cX6_setFraction 22 = .ok (.aload_n 0, 1) := by decide +kernel
theorem dX6_setFraction_23 : decode cX6_setFraction 23 = .ok (.lload_n 3, 1) := by decide +kernel
theorem dX6_setFraction_24 : decode cX6_setFraction 24 = .ok (.lload 5, 2) := by decide +kernel
theorem dX6_setFraction_26 : decode cX6_setFraction 26 = .ok (.ldiv, 1) := by decide +kernel
theorem dX6_setFraction_27 : decode cX6_setFraction 27 = .ok (.putfield 28, 3) := by decide +kernel
theorem dX6_setFraction_30 : decode cX6_setFraction 30 = .ok (.return_, 1) := by decide +kernel
theorem dX6_commonDivisor_0 : decode cX6_commonDivisor 0 = .ok (.lload_n 0, 1) := by decide +kernel
theorem dX6_commonDivisor_1 : decode cX6_commonDivisor 1 = .ok (.lstore 4, 2) := by decide +kernel
theorem dX6_commonDivisor_3 : decode cX6_commonDivisor 3 = .ok (.lload_n 2, 1) := by decide +kernel
theorem dX6_commonDivisor_4 : decode cX6_commonDivisor 4 = .ok (.lstore 6, 2) := by decide +kernel
theorem dX6_commonDivisor_6 : decode cX6_commonDivisor 6 = .ok (.iconst 0, 1) := by decide +kernel
theorem dX6_commonDivisor_7 : decode cX6_commonDivisor 7 = .ok (.istore 8, 2) := by decide +kernel
theorem dX6_commonDivisor_9 : decode cX6_commonDivisor 9 = .ok (.iload 8, 2) := by decide +kernel
theorem dX6_commonDivisor_11 : decode cX6_commonDivisor 11 = .ok (.bipush 100, 2) := by decide +kernel
theorem dX6_commonDivisor_13 : decode cX6_commonDivisor 13 = .ok (.if_icmp .ge 31, 3) := by decide +kernel
theorem dX6_commonDivisor_16 : decode cX6_commonDivisor 16 = .ok (.lload 6, 2) := by decide +kernel
theorem dX6_commonDivisor_18 : decode cX6_commonDivisor 18 = .ok (.lconst 0, 1) := by decide +kernel
theorem dX6_commonDivisor_19 : decode cX6_commonDivisor 19 = .ok (.lcmp, 1) := by decide +kernel
theorem dX6_commonDivisor_20 : decode cX6_commonDivisor 20 = .ok (.ifCond .eq 24, 3) := by decide +kernel
theorem dX6_commonDivisor_23 : decode cX6_commonDivisor 23 = .ok (.lload 4, 2) := by decide +kernel
theorem dX6_commonDivisor_25 : decode cX6_commonDivisor 25 = .ok (.lload 6, 2) := by decide +kernel
theorem dX6_commonDivisor_27 : decode cX6_commonDivisor 27 = .ok (.lrem, 1) := by decide +kernel
theorem dX6_commonDivisor_28 : decode cX6_commonDivisor 28 = .ok (.lstore 9, 2) := by decide +kernel
theorem dX6_commonDivisor_30 : decode cX6_commonDivisor 30 = .ok (.lload 6, 2) := by decide +kernel
theorem dX6_commonDivisor_32 : decode cX6_commonDivisor 32 = .ok (.lstore 4, 2) := by decide +kernel
theorem dX6_commonDivisor_34 : decode cX6_commonDivisor 34 = .ok (.lload 9, 2) := by decide +kernel
theorem dX6_commonDivisor_36 : decode cX6_commonDivisor 36 = .ok (.lstore 6, 2) := by decide +kernel
theorem dX6_commonDivisor_38 : decode cX6_commonDivisor 38 = .ok (.iinc 8 1, 3) := by decide +kernel
theorem dX6_commonDivisor_41 : decode cX6_commonDivisor 41 = .ok (.goto (-32), 3) := by decide +kernel
theorem dX6_commonDivisor_44 : decode cX6_commonDivisor 44 = .ok (.lload 4, 2) := by decide +kernel
theorem dX6_commonDivisor_46 : decode cX6_commonDivisor 46 = .ok (.lreturn, 1) := by decide +kernel
theorem dX7_init_0 : decode cX7_init 0 = .ok (.aload_n 0, 1) := by decide +kernel
theorem dX7_init_1 : decode cX7_init 1 = .ok (.invokespecial 3, 3) := by decide +kernel
theorem dX7_init_4 : decode cX7_init 4 = .ok (.aload_n 0, 1) := by decide +kernel
theorem dX7_init_5 : decode cX7_init 5 = .ok (.aload_n 1, 1) := by decide +kernel
theorem dX7_init_6 : decode cX7_init 6 = .ok (.putfield 9, 3) := by decide +kernel
theorem dX7_init_9 : decode cX7_init 9 = .ok (.return_, 1) := by decide +kernel
set_option maxRecDepth 20000 in
theorem ggX7_parts_X1_least : GoodIn wsX7_parts wsX1_least := goodIn_r _ [7, 8, 9, 10, 11, 12, 13, 14] (by decide +kernel) (by decide +kernel)
set_option maxRecDepth 20000 in
theorem gX7_parts_X1_least : GoodIn wsX7_parts (va_wsS RX7 21 yX1_least wsX1_least) := goodIn_app (goodIn_of _ (by decide +kernel)) ggX7_parts_X1_least
set_option maxRecDepth 20000 in
theorem ggX7_parts_X1_partOf : GoodIn wsX7_parts wsX1_partOf := goodIn_r _ [18, 19, 20, 21, 6, 22, 23, 24, 25, 26, 27, 28, 29, 30, 31, 32, 34, 35, 36, 37, 38, 39, 40] (by decide +kernel) (by decide +kernel)
set_option maxRecDepth 20000 in
theorem gX7_parts_X1_partOf : GoodIn wsX7_parts (wsV RX7 25 RX1 yX1_partOf wsX1_partOf) := goodIn_app (goodIn_of _ (by decide +kernel)) ggX7_parts_X1_partOf
theorem dX7_parts_0 : decode cX7_parts 0 = .ok (.iconst 0, 1) := by decide +kernel
theorem dX7_parts_1 : decode cX7_parts 1 = .ok (.istore_n 1, 1) := by decide +kernel
theorem dX7_parts_2 : decode cX7_parts 2 = .ok (.aload_n 0, 1) := by decide +kernel
theorem dX7_parts_3 : decode cX7_parts 3 = .ok (.getfield 9, 3) := by decide +kernel
theorem dX7_parts_6 : decode cX7_parts 6 = .ok (.getfield 15, 3) := by decide +kernel
theorem dX7_parts_9 : decode cX7_parts 9 = .ok (.lstore_n 2, 1) := by decide +kernel
theorem dX7_parts_10 : decode cX7_parts 10 = .ok (.iconst 0, 1) := by decide +kernel
theorem dX7_parts_11 : decode cX7_parts 11 = .ok (.istore 4, 2) := by decide +kernel
theorem dX7_parts_13 : decode cX7_parts 13 = .ok (.iload 4, 2) := by decide +kernel
theorem dX7_parts_15 : decode cX7_parts 15 = .ok (.bipush 36, 2) := by decide +kernel
theorem dX7_parts_17 : decode cX7_parts 17 = .ok (.if_icmp .ge 36, 3) := by decide +kernel
theorem dX7_parts_20 : decode cX7_parts 20 = .ok (.lload_n 2, 1) := by decide +kernel
theorem dX7_parts_21 : decode cX7_parts 21 = .ok (.lconst 0, 1) := by decide +kernel
theorem dX7_parts_22 : decode cX7_parts 22 = .ok (.lcmp, 1) := by decide +kernel
theorem dX7_parts_23 : decode cX7_parts 23 = .ok (.ifCond .eq 30, 3) := by decide +kernel
theorem dX7_parts_26 : decode cX7_parts 26 = .ok (.lload_n 2, 1) := by decide +kernel
theorem dX7_parts_27 : decode cX7_parts 27 = .ok (.aload_n 0, 1) := by decide +kernel
theorem dX7_parts_28 : decode cX7_parts 28 = .ok (.getfield 9, 3) := by decide +kernel
theorem dX7_parts_31 : decode cX7_parts 31 = .ok (.lload_n 2, 1) := by decide +kernel
theorem dX7_parts_32 : decode cX7_parts 32 = .ok (.invokestatic 21, 3) := by decide +kernel
theorem dX7_parts_35 : decode cX7_parts 35 = .ok (.invokevirtual 25, 3) := by decide +kernel
