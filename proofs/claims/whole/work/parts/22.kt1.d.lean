set_option maxRecDepth 20000 in
theorem ggX7_bridges_X7_isBridge : GoodIn wsX7_bridges wsX7_isBridge := goodIn_r _ [5, 6, 7, 8, 9, 10, 11, 12, 13, 14, 15, 16, 17, 18, 19, 20, 21, 22, 23, 24, 25, 26, 27, 28, 29, 30, 31, 32, 33, 34, 35, 36, 37, 38, 39, 40, 41, 42, 43, 44, 45, 46, 47, 48, 49, 50, 51, 52, 53, 54, 55, 56, 57, 58] (by decide +kernel) (by decide +kernel)
set_option maxRecDepth 20000 in
theorem gX7_bridges_X7_isBridge : GoodIn wsX7_bridges (wsV RX7 47 RX7 yX7_isBridge wsX7_isBridge) := goodIn_app (goodIn_of _ (by decide +kernel)) ggX7_bridges_X7_isBridge
theorem dX7_bridges_0 : decode cX7_bridges 0 = .ok (.iconst 0, 1) := by decide +kernel
theorem dX7_bridges_1 : decode cX7_bridges 1 = .ok (.istore_n 1, 1) := by decide +kernel
theorem dX7_bridges_2 : decode cX7_bridges 2 = .ok (.iconst 0, 1) := by decide +kernel
theorem dX7_bridges_3 : decode cX7_bridges 3 = .ok (.istore_n 2, 1) := by decide +kernel
theorem dX7_bridges_4 : decode cX7_bridges 4 = .ok (.iload_n 2, 1) := by decide +kernel
theorem dX7_bridges_5 : decode cX7_bridges 5 = .ok (.bipush 48, 2) := by decide +kernel
theorem dX7_bridges_7 : decode cX7_bridges 7 = .ok (.if_icmp .ge 34, 3) := by decide +kernel
theorem dX7_bridges_10 : decode cX7_bridges 10 = .ok (.iconst 1, 1) := by decide +kernel
theorem dX7_bridges_11 : decode cX7_bridges 11 = .ok (.istore_n 3, 1) := by decide +kernel
theorem dX7_bridges_12 : decode cX7_bridges 12 = .ok (.iload_n 3, 1) := by decide +kernel
theorem dX7_bridges_13 : decode cX7_bridges 13 = .ok (.iconst 2, 1) := by decide +kernel
theorem dX7_bridges_14 : decode cX7_bridges 14 = .ok (.if_icmp .gt 21, 3) := by decide +kernel
theorem dX7_bridges_17 : decode cX7_bridges 17 = .ok (.aload_n 0, 1) := by decide +kernel
theorem dX7_bridges_18 : decode cX7_bridges 18 = .ok (.iload_n 2, 1) := by decide +kernel
theorem dX7_bridges_19 : decode cX7_bridges 19 = .ok (.iload_n 3, 1) := by decide +kernel
theorem dX7_bridges_20 : decode cX7_bridges 20 = .ok (.invokevirtual 47, 3) := by decide +kernel
theorem dX7_bridges_23 : decode cX7_bridges 23 = .ok (.ifCond .eq 6, 3) := by decide +kernel
theorem dX7_bridges_26 : decode cX7_bridges 26 = .ok (.iinc 1 1, 3) := by decide +kernel
theorem dX7_bridges_29 : decode cX7_bridges 29 = .ok (.iinc 3 1, 3) := by decide +kernel
theorem dX7_bridges_32 : decode cX7_bridges 32 = .ok (.goto (-20), 3) := by decide +kernel
theorem dX7_bridges_35 : decode cX7_bridges 35 = .ok (.iinc 2 1, 3) := by decide +kernel
theorem dX7_bridges_38 : decode cX7_bridges 38 = .ok (.goto (-34), 3) := by decide +kernel
theorem dX7_bridges_41 : decode cX7_bridges 41 = .ok (.iload_n 1, 1) := by decide +kernel
theorem dX7_bridges_42 : decode cX7_bridges 42 = .ok (.ireturn, 1) := by decide +kernel
set_option maxRecDepth 20000 in
theorem ggX7_mustCells_X1_bit : GoodIn wsX7_mustCells wsX1_bit := goodIn_r _ [9] (by decide +kernel) (by decide +kernel)
set_option maxRecDepth 20000 in
theorem gX7_mustCells_X1_bit : GoodIn wsX7_mustCells (va_wsS RX7 55 yX1_bit wsX1_bit) := goodIn_app (goodIn_of _ (by decide +kernel)) ggX7_mustCells_X1_bit
set_option maxRecDepth 20000 in
theorem ggX7_mustCells_X1_flood : GoodIn wsX7_mustCells wsX1_flood := goodIn_r _ [13, 14, 15, 16, 8, 17, 18, 19, 24, 25, 26, 27, 28, 29, 30] (by decide +kernel) (by decide +kernel)
set_option maxRecDepth 20000 in
theorem gX7_mustCells_X1_flood : GoodIn wsX7_mustCells (wsV RX7 58 RX1 yX1_flood wsX1_flood) := goodIn_app (goodIn_of _ (by decide +kernel)) ggX7_mustCells_X1_flood
set_option maxRecDepth 20000 in
theorem ggX7_mustCells_X1_has : GoodIn wsX7_mustCells wsX1_has := goodIn_r _ [22] (by decide +kernel) (by decide +kernel)
set_option maxRecDepth 20000 in
theorem gX7_mustCells_X1_has : GoodIn wsX7_mustCells (va_wsS RX7 35 yX1_has wsX1_has) := goodIn_app (goodIn_of _ (by decide +kernel)) ggX7_mustCells_X1_has
theorem dX7_mustCells_0 : decode cX7_mustCells 0 = .ok (.aload_n 0, 1) := by decide +kernel
theorem dX7_mustCells_1 : decode cX7_mustCells 1 = .ok (.getfield 9, 3) := by decide +kernel
theorem dX7_mustCells_4 : decode cX7_mustCells 4 = .ok (.getfield 51, 3) := by decide +kernel
theorem dX7_mustCells_7 : decode cX7_mustCells 7 = .ok (.invokestatic 55, 3) := by decide +kernel
theorem dX7_mustCells_10 : decode cX7_mustCells 10 = .ok (.lstore_n 1, 1) := by decide +kernel
theorem dX7_mustCells_11 : decode cX7_mustCells 11 = .ok (.aload_n 0, 1) := by decide +kernel
theorem dX7_mustCells_12 : decode cX7_mustCells 12 = .ok (.getfield 9, 3) := by decide +kernel
theorem dX7_mustCells_15 : decode cX7_mustCells 15 = .ok (.lload_n 1, 1) := by decide +kernel
theorem dX7_mustCells_16 : decode cX7_mustCells 16 = .ok (.aload_n 0, 1) := by decide +kernel
theorem dX7_mustCells_17 : decode cX7_mustCells 17 = .ok (.getfield 9, 3) := by decide +kernel
theorem dX7_mustCells_20 : decode cX7_mustCells 20 = .ok (.getfield 15, 3) := by decide +kernel
theorem dX7_mustCells_23 : decode cX7_mustCells 23 = .ok (.invokevirtual 58, 3) := by decide +kernel
theorem dX7_mustCells_26 : decode cX7_mustCells 26 = .ok (.lstore_n 3, 1) := by decide +kernel
theorem dX7_mustCells_27 : decode cX7_mustCells 27 = .ok (.lload_n 3, 1) := by decide +kernel
theorem dX7_mustCells_28 : decode cX7_mustCells 28 = .ok (.aload_n 0, 1) := by decide +kernel
theorem dX7_mustCells_29 : decode cX7_mustCells 29 = .ok (.getfield 9, 3) := by decide +kernel
theorem dX7_mustCells_32 : decode cX7_mustCells 32 = .ok (.getfield 62, 3) := by decide +kernel
theorem dX7_mustCells_35 : decode cX7_mustCells 35 = .ok (.invokestatic 35, 3) := by decide +kernel
theorem dX7_mustCells_38 : decode cX7_mustCells 38 = .ok (.ifCond .ne 5, 3) := by decide +kernel
theorem dX7_mustCells_41 : decode cX7_mustCells 41 = .ok (.lconst 0, 1) := by decide +kernel
theorem dX7_mustCells_42 : decode cX7_mustCells 42 = .ok (.lreturn, 1) := by decide +kernel
theorem dX7_mustCells_43 : decode cX7_mustCells 43 = .ok (.lload_n 1, 1) := by decide +kernel
theorem dX7_mustCells_44 : decode cX7_mustCells 44 = .ok (.aload_n 0, 1) := by decide +kernel
theorem dX7_mustCells_45 : decode cX7_mustCells 45 = .ok (.getfield 9, 3) := by decide +kernel
theorem dX7_mustCells_48 : decode cX7_mustCells 48 = .ok (.getfield 62, 3) := by decide +kernel
theorem dX7_mustCells_51 : decode cX7_mustCells 51 = .ok (.invokestatic 55, 3) := by decide +kernel
theorem dX7_mustCells_54 : decode cX7_mustCells 54 = .ok (.lor, 1) := by decide +kernel
theorem dX7_mustCells_55 : decode cX7_mustCells 55 = .ok (.lstore 5, 2) := by decide +kernel
theorem dX7_mustCells_57 : decode cX7_mustCells 57 = .ok (.iconst 0, 1) := by decide +kernel
theorem dX7_mustCells_58 : decode cX7_mustCells 58 = .ok (.istore 7, 2) := by decide +kernel
theorem dX7_mustCells_60 : decode cX7_mustCells 60 = .ok (.iload 7, 2) := by decide +kernel
theorem dX7_mustCells_62 : decode cX7_mustCells 62 = .ok (.bipush 48, 2) := by decide +kernel
theorem dX7_mustCells_64 : decode cX7_mustCells 64 = .ok (.if_icmp .ge 64, 3) := by decide +kernel
theorem dX7_mustCells_67 : decode cX7_mustCells 67 = .ok (.lload_n 3, 1) := by decide +kernel
theorem dX7_mustCells_68 : decode cX7_mustCells 68 = .ok (.iload 7, 2) := by decide +kernel
theorem dX7_mustCells_70 : decode cX7_mustCells 70 = .ok (.invokestatic 55, 3) := by decide +kernel
theorem dX7_mustCells_73 : decode cX7_mustCells 73 = .ok (.ldc2_w 29, 3) := by decide +kernel
theorem dX7_mustCells_76 : decode cX7_mustCells 76 = .ok (.lxor, 1) := by decide +kernel
theorem dX7_mustCells_77 : decode cX7_mustCells 77 = .ok (.land, 1) := by decide +kernel
theorem dX7_mustCells_78 : decode cX7_mustCells 78 = .ok (.lstore 8, 2) := by decide +kernel
theorem dX7_mustCells_80 : decode cX7_mustCells 80 = .ok (.lload_n 3, 1) := by decide +kernel
theorem dX7_mustCells_81 : decode cX7_mustCells 81 = .ok (.iload 7, 2) := by decide +kernel
theorem dX7_mustCells_83 : decode cX7_mustCells 83 = .ok (.invokestatic 35, 3) := by decide +kernel
theorem dX7_mustCells_86 : decode cX7_mustCells 86 = .ok (.ifCond .eq 36, 3) := by decide +kernel
theorem dX7_mustCells_89 : decode cX7_mustCells 89 = .ok (.aload_n 0, 1) := by decide +kernel
theorem dX7_mustCells_90 : decode cX7_mustCells 90 = .ok (.getfield 9, 3) := by decide +kernel
theorem dX7_mustCells_93 : decode cX7_mustCells 93 = .ok (.lload_n 1, 1) := by decide +kernel
theorem dX7_mustCells_94 : decode cX7_mustCells 94 = .ok (.lload 8, 2) := by decide +kernel
theorem dX7_mustCells_96 : decode cX7_mustCells 96 = .ok (.invokevirtual 58, 3) := by decide +kernel
theorem dX7_mustCells_99 : decode cX7_mustCells 99 = .ok (.aload_n 0, 1) := by decide +kernel
theorem dX7_mustCells_100 : decode cX7_mustCells 100 = .ok (.getfield 9, 3) := by decide +kernel
theorem dX7_mustCells_103 : decode cX7_mustCells 103 = .ok (.getfield 62, 3) := by decide +kernel
theorem dX7_mustCells_106 : decode cX7_mustCells 106 = .ok (.invokestatic 35, 3) := by decide +kernel
theorem dX7_mustCells_109 : decode cX7_mustCells 109 = .ok (.ifCond .ne 13, 3) := by decide +kernel
theorem dX7_mustCells_112 : decode cX7_mustCells 112 = .ok (.lload 5, 2) := by decide +kernel
theorem dX7_mustCells_114 : decode cX7_mustCells 114 = .ok (.iload 7, 2) := by decide +kernel
theorem dX7_mustCells_116 : decode cX7_mustCells 116 = .ok (.invokestatic 55, 3) := by decide +kernel
theorem dX7_mustCells_119 : decode cX7_mustCells 119 = .ok (.lor, 1) := by decide +kernel
theorem dX7_mustCells_120 : decode cX7_mustCells 120 = .ok (.lstore 5, 2) := by decide +kernel
theorem dX7_mustCells_122 : decode cX7_mustCells 122 = .ok (.iinc 7 1, 3) := by decide +kernel
theorem dX7_mustCells_125 : decode cX7_mustCells 125 = .ok (.goto (-65), 3) := by decide +kernel
theorem dX7_mustCells_128 : decode cX7_mustCells 128 = .ok (.lload 5, 2) := by decide +kernel
theorem dX7_mustCells_130 : decode cX7_mustCells 130 = .ok (.lreturn, 1) := by decide +kernel
set_option maxRecDepth 20000 in
theorem ggX7_isDeadEnd_X1_bit : GoodIn wsX7_isDeadEnd wsX1_bit := goodIn_r _ [6] (by decide +kernel) (by decide +kernel)
set_option maxRecDepth 20000 in
theorem gX7_isDeadEnd_X1_bit : GoodIn wsX7_isDeadEnd (va_wsS RX7 55 yX1_bit wsX1_bit) := goodIn_app (goodIn_of _ (by decide +kernel)) ggX7_isDeadEnd_X1_bit
set_option maxRecDepth 20000 in
theorem ggX7_isDeadEnd_X1_near : GoodIn wsX7_isDeadEnd wsX1_near := goodIn_r _ [10, 11, 12, 21, 22, 23, 24, 25, 26, 27] (by decide +kernel) (by decide +kernel)
set_option maxRecDepth 20000 in
theorem gX7_isDeadEnd_X1_near : GoodIn wsX7_isDeadEnd (wsV RX7 69 RX1 yX1_near wsX1_near) := goodIn_app (goodIn_of _ (by decide +kernel)) ggX7_isDeadEnd_X1_near
set_option maxRecDepth 20000 in
theorem ggX7_isDeadEnd_J13_bitCount_95d88 : GoodIn wsX7_isDeadEnd wsJ13_bitCount_95d88 := goodIn_r _ [16, 17, 18, 19] (by decide +kernel) (by decide +kernel)
set_option maxRecDepth 20000 in
theorem gX7_isDeadEnd_J13_bitCount_95d88 : GoodIn wsX7_isDeadEnd (va_wsS RX7 73 yJ13_bitCount_95d88 wsJ13_bitCount_95d88) := goodIn_app (goodIn_of _ (by decide +kernel)) ggX7_isDeadEnd_J13_bitCount_95d88
theorem dX7_isDeadEnd_0 : decode cX7_isDeadEnd 0 = .ok (.aload_n 0, 1) := by decide +kernel
theorem dX7_isDeadEnd_1 : decode cX7_isDeadEnd 1 = .ok (.getfield 9, 3) := by decide +kernel
theorem dX7_isDeadEnd_4 : decode cX7_isDeadEnd 4 = .ok (.iload_n 1, 1) := by decide +kernel
theorem dX7_isDeadEnd_5 : decode cX7_isDeadEnd 5 = .ok (.invokestatic 55, 3) := by decide +kernel
theorem dX7_isDeadEnd_8 : decode cX7_isDeadEnd 8 = .ok (.invokevirtual 69, 3) := by decide +kernel
theorem dX7_isDeadEnd_11 : decode cX7_isDeadEnd 11 = .ok (.lload_n 2, 1) := by decide +kernel
theorem dX7_isDeadEnd_12 : decode cX7_isDeadEnd 12 = .ok (.land, 1) := by decide +kernel
theorem dX7_isDeadEnd_13 : decode cX7_isDeadEnd 13 = .ok (.iload_n 1, 1) := by decide +kernel
theorem dX7_isDeadEnd_14 : decode cX7_isDeadEnd 14 = .ok (.invokestatic 55, 3) := by decide +kernel
theorem dX7_isDeadEnd_17 : decode cX7_isDeadEnd 17 = .ok (.ldc2_w 29, 3) := by decide +kernel
theorem dX7_isDeadEnd_20 : decode cX7_isDeadEnd 20 = .ok (.lxor, 1) := by decide +kernel
theorem dX7_isDeadEnd_21 : decode cX7_isDeadEnd 21 = .ok (.land, 1) := by decide +kernel
theorem dX7_isDeadEnd_22 : decode cX7_isDeadEnd 22 = .ok (.lstore 4, 2) := by decide +kernel
theorem dX7_isDeadEnd_24 : decode cX7_isDeadEnd 24 = .ok (.lload 4, 2) := by decide +kernel
theorem dX7_isDeadEnd_26 : decode cX7_isDeadEnd 26 = .ok (.invokestatic 73, 3) := by decide +kernel
theorem dX7_isDeadEnd_29 : decode cX7_isDeadEnd 29 = .ok (.iconst 1, 1) := by decide +kernel
theorem dX7_isDeadEnd_30 : decode cX7_isDeadEnd 30 = .ok (.if_icmp .gt 7, 3) := by decide +kernel
theorem dX7_isDeadEnd_33 : decode cX7_isDeadEnd 33 = .ok (.iconst 1, 1) := by decide +kernel
theorem dX7_isDeadEnd_34 : decode cX7_isDeadEnd 34 = .ok (.goto 4, 3) := by decide +kernel
theorem dX7_isDeadEnd_37 : decode cX7_isDeadEnd 37 = .ok (.iconst 0, 1) := by decide +kernel
theorem dX7_isDeadEnd_38 : decode cX7_isDeadEnd 38 = .ok (.ireturn, 1) := by decide +kernel
set_option maxRecDepth 20000 in
theorem ggX7_leftCells_X7_isDeadEnd : GoodIn wsX7_leftCells wsX7_isDeadEnd := goodIn_r _ [10, 1, 5, 11, 12, 13, 14, 15, 16, 17, 18, 19, 20, 21, 22, 23, 24, 25, 26, 27, 28, 29, 30, 31, 32, 33, 34, 35] (by decide +kernel) (by decide +kernel)
set_option maxRecDepth 20000 in
theorem gX7_leftCells_X7_isDeadEnd : GoodIn wsX7_leftCells (wsV RX7 65 RX7 yX7_isDeadEnd wsX7_isDeadEnd) := goodIn_app (goodIn_of _ (by decide +kernel)) ggX7_leftCells_X7_isDeadEnd
set_option maxRecDepth 20000 in
theorem ggX7_leftCells_X1_bit : GoodIn wsX7_leftCells wsX1_bit := goodIn_r _ [14] (by decide +kernel) (by decide +kernel)
set_option maxRecDepth 20000 in
theorem gX7_leftCells_X1_bit : GoodIn wsX7_leftCells (va_wsS RX7 55 yX1_bit wsX1_bit) := goodIn_app (goodIn_of _ (by decide +kernel)) ggX7_leftCells_X1_bit
theorem dX7_leftCells_0 : decode cX7_leftCells 0 = .ok (.aload_n 0, 1) := by decide +kernel
theorem dX7_leftCells_1 : decode cX7_leftCells 1 = .ok (.getfield 9, 3) := by decide +kernel
theorem dX7_leftCells_4 : decode cX7_leftCells 4 = .ok (.getfield 15, 3) := by decide +kernel
theorem dX7_leftCells_7 : decode cX7_leftCells 7 = .ok (.lstore_n 1, 1) := by decide +kernel
theorem dX7_leftCells_8 : decode cX7_leftCells 8 = .ok (.iconst 0, 1) := by decide +kernel
theorem dX7_leftCells_9 : decode cX7_leftCells 9 = .ok (.istore_n 3, 1) := by decide +kernel
theorem dX7_leftCells_10 : decode cX7_leftCells 10 = .ok (.iload_n 3, 1) := by decide +kernel
theorem dX7_leftCells_11 : decode cX7_leftCells 11 = .ok (.bipush 36, 2) := by decide +kernel
theorem dX7_leftCells_13 : decode cX7_leftCells 13 = .ok (.if_icmp .ge 84, 3) := by decide +kernel
theorem dX7_leftCells_16 : decode cX7_leftCells 16 = .ok (.lload_n 1, 1) := by decide +kernel
theorem dX7_leftCells_17 : decode cX7_leftCells 17 = .ok (.lstore 4, 2) := by decide +kernel
theorem dX7_leftCells_19 : decode cX7_leftCells 19 = .ok (.iconst 0, 1) := by decide +kernel
theorem dX7_leftCells_20 : decode cX7_leftCells 20 = .ok (.istore 6, 2) := by decide +kernel
theorem dX7_leftCells_22 : decode cX7_leftCells 22 = .ok (.iload 6, 2) := by decide +kernel
theorem dX7_leftCells_24 : decode cX7_leftCells 24 = .ok (.bipush 48, 2) := by decide +kernel
theorem dX7_leftCells_26 : decode cX7_leftCells 26 = .ok (.if_icmp .ge 55, 3) := by decide +kernel
theorem dX7_leftCells_29 : decode cX7_leftCells 29 = .ok (.iload 6, 2) := by decide +kernel
theorem dX7_leftCells_31 : decode cX7_leftCells 31 = .ok (.aload_n 0, 1) := by decide +kernel
theorem dX7_leftCells_32 : decode cX7_leftCells 32 = .ok (.getfield 9, 3) := by decide +kernel
theorem dX7_leftCells_35 : decode cX7_leftCells 35 = .ok (.getfield 51, 3) := by decide +kernel
theorem dX7_leftCells_38 : decode cX7_leftCells 38 = .ok (.if_icmp .eq 37, 3) := by decide +kernel
theorem dX7_leftCells_41 : decode cX7_leftCells 41 = .ok (.iload 6, 2) := by decide +kernel
theorem dX7_leftCells_43 : decode cX7_leftCells 43 = .ok (.aload_n 0, 1) := by decide +kernel
theorem dX7_leftCells_44 : decode cX7_leftCells 44 = .ok (.getfield 9, 3) := by decide +kernel
theorem dX7_leftCells_47 : decode cX7_leftCells 47 = .ok (.getfield 62, 3) := by decide +kernel
theorem dX7_leftCells_50 : decode cX7_leftCells 50 = .ok (.if_icmp .eq 25, 3) := by decide +kernel
theorem dX7_leftCells_53 : decode cX7_leftCells 53 = .ok (.aload_n 0, 1) := by decide +kernel
theorem dX7_leftCells_54 : decode cX7_leftCells 54 = .ok (.iload 6, 2) := by decide +kernel
theorem dX7_leftCells_56 : decode cX7_leftCells 56 = .ok (.lload_n 1, 1) := by decide +kernel
theorem dX7_leftCells_57 : decode cX7_leftCells 57 = .ok (.invokevirtual 65, 3) := by decide +kernel
theorem dX7_leftCells_60 : decode cX7_leftCells 60 = .ok (.ifCond .eq 15, 3) := by decide +kernel
theorem dX7_leftCells_63 : decode cX7_leftCells 63 = .ok (.lload_n 1, 1) := by decide +kernel
theorem dX7_leftCells_64 : decode cX7_leftCells 64 = .ok (.iload 6, 2) := by decide +kernel
theorem dX7_leftCells_66 : decode cX7_leftCells 66 = .ok (.invokestatic 55, 3) := by decide +kernel
theorem dX7_leftCells_69 : decode cX7_leftCells 69 = .ok (.ldc2_w 29, 3) := by decide +kernel
theorem dX7_leftCells_72 : decode cX7_leftCells 72 = .ok (.lxor, 1) := by decide +kernel
theorem dX7_leftCells_73 : decode cX7_leftCells 73 = .ok (.land, 1) := by decide +kernel
theorem dX7_leftCells_74 : decode cX7_leftCells 74 = .ok (.lstore_n 1, 1) := by decide +kernel
theorem dX7_leftCells_75 : decode cX7_leftCells 75 = .ok (.iinc 6 1, 3) := by decide +kernel
theorem dX7_leftCells_78 : decode cX7_leftCells 78 = .ok (.goto (-56), 3) := by decide +kernel
theorem dX7_leftCells_81 : decode cX7_leftCells 81 = .ok (.lload_n 1, 1) := by decide +kernel
theorem dX7_leftCells_82 : decode cX7_leftCells 82 = .ok (.lload 4, 2) := by decide +kernel
theorem dX7_leftCells_84 : decode cX7_leftCells 84 = .ok (.lcmp, 1) := by decide +kernel
theorem dX7_leftCells_85 : decode cX7_leftCells 85 = .ok (.ifCond .ne 6, 3) := by decide +kernel
theorem dX7_leftCells_88 : decode cX7_leftCells 88 = .ok (.goto 9, 3) := by decide +kernel
theorem dX7_leftCells_91 : decode cX7_leftCells 91 = .ok (.iinc 3 1, 3) := by decide +kernel
theorem dX7_leftCells_94 : decode cX7_leftCells 94 = .ok (.goto (-84), 3) := by decide +kernel
theorem dX7_leftCells_97 : decode cX7_leftCells 97 = .ok (.lload_n 1, 1) := by decide +kernel
theorem dX7_leftCells_98 : decode cX7_leftCells 98 = .ok (.lreturn, 1) := by decide +kernel
theorem dX8_beginByHand_0 : decode cX8_beginByHand 0 = .ok (.aload_n 0, 1) := by decide +kernel
theorem dX8_beginByHand_1 : decode cX8_beginByHand 1 = .ok (.aload_n 0, 1) := by decide +kernel
theorem dX8_beginByHand_2 : decode cX8_beginByHand 2 = .ok (.getfield 9, 3) := by decide +kernel
theorem dX8_beginByHand_5 : decode cX8_beginByHand 5 = .ok (.getfield 19, 3) := by decide +kernel
theorem dX8_beginByHand_8 : decode cX8_beginByHand 8 = .ok (.putfield 25, 3) := by decide +kernel
theorem dX8_beginByHand_11 : decode cX8_beginByHand 11 = .ok (.aload_n 0, 1) := by decide +kernel
theorem dX8_beginByHand_12 : decode cX8_beginByHand 12 = .ok (.iload_n 1, 1) := by decide +kernel
theorem dX8_beginByHand_13 : decode cX8_beginByHand 13 = .ok (.putfield 28, 3) := by decide +kernel
theorem dX8_beginByHand_16 : decode cX8_beginByHand 16 = .ok (.aload_n 0, 1) := by decide +kernel
theorem dX8_beginByHand_17 : decode cX8_beginByHand 17 = .ok (.iload_n 2, 1) := by decide +kernel
theorem dX8_beginByHand_18 : decode cX8_beginByHand 18 = .ok (.ifCond .eq 7, 3) := by decide +kernel
theorem dX8_beginByHand_21 : decode cX8_beginByHand 21 = .ok (.iconst 1, 1) := by decide +kernel
theorem dX8_beginByHand_22 : decode cX8_beginByHand 22 = .ok (.goto 4, 3) := by decide +kernel
theorem dX8_beginByHand_25 : decode cX8_beginByHand 25 = .ok (.iconst 3, 1) := by decide +kernel
theorem dX8_beginByHand_26 : decode cX8_beginByHand 26 = .ok (.putfield 31, 3) := by decide +kernel
theorem dX8_beginByHand_29 : decode cX8_beginByHand 29 = .ok (.return_, 1) := by decide +kernel
set_option maxRecDepth 20000 in
theorem ggX8_goByHand_X1_neighbour : GoodIn wsX8_goByHand wsX1_neighbour := goodIn_r _ [9, 10, 11, 12, 8, 13, 14, 15, 16, 17, 18, 19, 20, 21, 22, 23, 30, 31, 32, 33, 34, 35, 36] (by decide +kernel) (by decide +kernel)
set_option maxRecDepth 20000 in
theorem gX8_goByHand_X1_neighbour : GoodIn wsX8_goByHand (wsV RX8 34 RX1 yX1_neighbour wsX1_neighbour) := goodIn_app (goodIn_of _ (by decide +kernel)) ggX8_goByHand_X1_neighbour
theorem dX8_goByHand_0 : decode cX8_goByHand 0 = .ok (.iconst 0, 1) := by decide +kernel
theorem dX8_goByHand_1 : decode cX8_goByHand 1 = .ok (.istore_n 1, 1) := by decide +kernel
theorem dX8_goByHand_2 : decode cX8_goByHand 2 = .ok (.iload_n 1, 1) := by decide +kernel
theorem dX8_goByHand_3 : decode cX8_goByHand 3 = .ok (.iconst 4, 1) := by decide +kernel
theorem dX8_goByHand_4 : decode cX8_goByHand 4 = .ok (.if_icmp .ge 59, 3) := by decide +kernel
theorem dX8_goByHand_7 : decode cX8_goByHand 7 = .ok (.aload_n 0, 1) := by decide +kernel
theorem dX8_goByHand_8 : decode cX8_goByHand 8 = .ok (.getfield 28, 3) := by decide +kernel
theorem dX8_goByHand_11 : decode cX8_goByHand 11 = .ok (.aload_n 0, 1) := by decide +kernel
theorem dX8_goByHand_12 : decode cX8_goByHand 12 = .ok (.getfield 31, 3) := by decide +kernel
theorem dX8_goByHand_15 : decode cX8_goByHand 15 = .ok (.iadd, 1) := by decide +kernel
theorem dX8_goByHand_16 : decode cX8_goByHand 16 = .ok (.iload_n 1, 1) := by decide +kernel
theorem dX8_goByHand_17 : decode cX8_goByHand 17 = .ok (.iconst 4, 1) := by decide +kernel
theorem dX8_goByHand_18 : decode cX8_goByHand 18 = .ok (.aload_n 0, 1) := by decide +kernel
theorem dX8_goByHand_19 : decode cX8_goByHand 19 = .ok (.getfield 31, 3) := by decide +kernel
theorem dX8_goByHand_22 : decode cX8_goByHand 22 = .ok (.isub, 1) := by decide +kernel
theorem dX8_goByHand_23 : decode cX8_goByHand 23 = .ok (.imul, 1) := by decide +kernel
theorem dX8_goByHand_24 : decode cX8_goByHand 24 = .ok (.iadd, 1) := by decide +kernel
theorem dX8_goByHand_25 : decode cX8_goByHand 25 = .ok (.iconst 4, 1) := by decide +kernel
theorem dX8_goByHand_26 : decode cX8_goByHand 26 = .ok (.irem, 1) := by decide +kernel
theorem dX8_goByHand_27 : decode cX8_goByHand 27 = .ok (.istore_n 2, 1) := by decide +kernel
theorem dX8_goByHand_28 : decode cX8_goByHand 28 = .ok (.aload_n 0, 1) := by decide +kernel
theorem dX8_goByHand_29 : decode cX8_goByHand 29 = .ok (.getfield 9, 3) := by decide +kernel
theorem dX8_goByHand_32 : decode cX8_goByHand 32 = .ok (.aload_n 0, 1) := by decide +kernel
theorem dX8_goByHand_33 : decode cX8_goByHand 33 = .ok (.getfield 25, 3) := by decide +kernel
theorem dX8_goByHand_36 : decode cX8_goByHand 36 = .ok (.iload_n 2, 1) := by decide +kernel
theorem dX8_goByHand_37 : decode cX8_goByHand 37 = .ok (.invokevirtual 34, 3) := by decide +kernel
theorem dX8_goByHand_40 : decode cX8_goByHand 40 = .ok (.istore_n 3, 1) := by decide +kernel
theorem dX8_goByHand_41 : decode cX8_goByHand 41 = .ok (.iload_n 3, 1) := by decide +kernel
theorem dX8_goByHand_42 : decode cX8_goByHand 42 = .ok (.iconst (-1), 1) := by decide +kernel
theorem dX8_goByHand_43 : decode cX8_goByHand 43 = .ok (.if_icmp .eq 14, 3) := by decide +kernel
theorem dX8_goByHand_46 : decode cX8_goByHand 46 = .ok (.aload_n 0, 1) := by decide +kernel
theorem dX8_goByHand_47 : decode cX8_goByHand 47 = .ok (.iload_n 3, 1) := by decide +kernel
theorem dX8_goByHand_48 : decode cX8_goByHand 48 = .ok (.putfield 25, 3) := by decide +kernel
theorem dX8_goByHand_51 : decode cX8_goByHand 51 = .ok (.aload_n 0, 1) := by decide +kernel
theorem dX8_goByHand_52 : decode cX8_goByHand 52 = .ok (.iload_n 2, 1) := by decide +kernel
theorem dX8_goByHand_53 : decode cX8_goByHand 53 = .ok (.putfield 28, 3) := by decide +kernel
theorem dX8_goByHand_56 : decode cX8_goByHand 56 = .ok (.return_, 1) := by decide +kernel
theorem dX8_goByHand_57 : decode cX8_goByHand 57 = .ok (.iinc 1 1, 3) := by decide +kernel
theorem dX8_goByHand_60 : decode cX8_goByHand 60 = .ok (.goto (-58), 3) := by decide +kernel
theorem dX8_goByHand_63 : decode cX8_goByHand 63 = .ok (.return_, 1) := by decide +kernel
set_option maxRecDepth 20000 in
theorem ggX8_handSteps_X8_beginByHand : GoodIn wsX8_handSteps wsX8_beginByHand := goodIn_r _ [8, 2, 9, 1, 10, 11, 35, 36, 37, 38, 39, 40, 41, 42, 43, 44, 45, 46, 47] (by decide +kernel) (by decide +kernel)
set_option maxRecDepth 20000 in
theorem gX8_handSteps_X8_beginByHand : GoodIn wsX8_handSteps (wsV RX8 38 RX8 yX8_beginByHand wsX8_beginByHand) := goodIn_app (goodIn_of _ (by decide +kernel)) ggX8_handSteps_X8_beginByHand
set_option maxRecDepth 20000 in
theorem ggX8_handSteps_X8_goByHand : GoodIn wsX8_handSteps wsX8_goByHand := goodIn_r _ [15, 10, 11, 2, 1, 16, 17, 18, 19, 20, 21, 22, 23, 24, 25, 26, 27, 28, 29, 30, 31, 32, 33, 34, 35, 36, 37, 38, 39, 40, 41, 42, 43, 44, 45, 46, 47] (by decide +kernel) (by decide +kernel)
set_option maxRecDepth 20000 in
theorem gX8_handSteps_X8_goByHand : GoodIn wsX8_handSteps (wsV RX8 45 RX8 yX8_goByHand wsX8_goByHand) := goodIn_app (goodIn_of _ (by decide +kernel)) ggX8_handSteps_X8_goByHand
theorem dX8_handSteps_0 : decode cX8_handSteps 0 = .ok (.aload_n 0, 1) := by decide +kernel
theorem dX8_handSteps_1 : decode cX8_handSteps 1 = .ok (.iload_n 1, 1) := by decide +kernel
theorem dX8_handSteps_2 : decode cX8_handSteps 2 = .ok (.iload_n 2, 1) := by decide +kernel
theorem dX8_handSteps_3 : decode cX8_handSteps 3 = .ok (.invokevirtual 38, 3) := by decide +kernel
theorem dX8_handSteps_6 : decode cX8_handSteps 6 = .ok (.iconst 0, 1) := by decide +kernel
theorem dX8_handSteps_7 : decode cX8_handSteps 7 = .ok (.istore_n 3, 1) := by decide +kernel
theorem dX8_handSteps_8 : decode cX8_handSteps 8 = .ok (.iload_n 3, 1) := by decide +kernel
theorem dX8_handSteps_9 : decode cX8_handSteps 9 = .ok (.sipush 144, 3) := by decide +kernel
theorem dX8_handSteps_12 : decode cX8_handSteps 12 = .ok (.if_icmp .gt 29, 3) := by decide +kernel
theorem dX8_handSteps_15 : decode cX8_handSteps 15 = .ok (.aload_n 0, 1) := by decide +kernel
theorem dX8_handSteps_16 : decode cX8_handSteps 16 = .ok (.getfield 25, 3) := by decide +kernel
theorem dX8_handSteps_19 : decode cX8_handSteps 19 = .ok (.aload_n 0, 1) := by decide +kernel
theorem dX8_handSteps_20 : decode cX8_handSteps 20 = .ok (.getfield 9, 3) := by decide +kernel
theorem dX8_handSteps_23 : decode cX8_handSteps 23 = .ok (.getfield 42, 3) := by decide +kernel
theorem dX8_handSteps_26 : decode cX8_handSteps 26 = .ok (.if_icmp .ne 5, 3) := by decide +kernel
theorem dX8_handSteps_29 : decode cX8_handSteps 29 = .ok (.iload_n 3, 1) := by decide +kernel
theorem dX8_handSteps_30 : decode cX8_handSteps 30 = .ok (.ireturn, 1) := by decide +kernel
theorem dX8_handSteps_31 : decode cX8_handSteps 31 = .ok (.aload_n 0, 1) := by decide +kernel
theorem dX8_handSteps_32 : decode cX8_handSteps 32 = .ok (.invokevirtual 45, 3) := by decide +kernel
theorem dX8_handSteps_35 : decode cX8_handSteps 35 = .ok (.iinc 3 1, 3) := by decide +kernel
theorem dX8_handSteps_38 : decode cX8_handSteps 38 = .ok (.goto (-30), 3) := by decide +kernel
theorem dX8_handSteps_41 : decode cX8_handSteps 41 = .ok (.bipush (-9), 2) := by decide +kernel
theorem dX8_handSteps_43 : decode cX8_handSteps 43 = .ok (.ireturn, 1) := by decide +kernel
set_option maxRecDepth 20000 in
theorem ggX8_handPlace_X8_beginByHand : GoodIn wsX8_handPlace wsX8_beginByHand := goodIn_r _ [6, 7, 8, 1, 9, 10, 34, 35, 36, 37, 38, 39, 40, 41, 42, 43, 44, 45, 46] (by decide +kernel) (by decide +kernel)
set_option maxRecDepth 20000 in
theorem gX8_handPlace_X8_beginByHand : GoodIn wsX8_handPlace (wsV RX8 38 RX8 yX8_beginByHand wsX8_beginByHand) := goodIn_app (goodIn_of _ (by decide +kernel)) ggX8_handPlace_X8_beginByHand
set_option maxRecDepth 20000 in
theorem ggX8_handPlace_X8_goByHand : GoodIn wsX8_handPlace wsX8_goByHand := goodIn_r _ [14, 9, 10, 7, 1, 15, 16, 17, 18, 19, 20, 21, 22, 23, 24, 25, 26, 27, 28, 29, 30, 31, 32, 33, 34, 35, 36, 37, 38, 39, 40, 41, 42, 43, 44, 45, 46] (by decide +kernel) (by decide +kernel)
set_option maxRecDepth 20000 in
theorem gX8_handPlace_X8_goByHand : GoodIn wsX8_handPlace (wsV RX8 45 RX8 yX8_goByHand wsX8_goByHand) := goodIn_app (goodIn_of _ (by decide +kernel)) ggX8_handPlace_X8_goByHand
theorem dX8_handPlace_0 : decode cX8_handPlace 0 = .ok (.aload_n 0, 1) := by decide +kernel
theorem dX8_handPlace_1 : decode cX8_handPlace 1 = .ok (.iload_n 1, 1) := by decide +kernel
theorem dX8_handPlace_2 : decode cX8_handPlace 2 = .ok (.iload_n 2, 1) := by decide +kernel
theorem dX8_handPlace_3 : decode cX8_handPlace 3 = .ok (.invokevirtual 38, 3) := by decide +kernel
theorem dX8_handPlace_6 : decode cX8_handPlace 6 = .ok (.iconst 0, 1) := by decide +kernel
theorem dX8_handPlace_7 : decode cX8_handPlace 7 = .ok (.istore 4, 2) := by decide +kernel
theorem dX8_handPlace_9 : decode cX8_handPlace 9 = .ok (.iload 4, 2) := by decide +kernel
theorem dX8_handPlace_11 : decode cX8_handPlace 11 = .ok (.iload_n 3, 1) := by decide +kernel
theorem dX8_handPlace_12 : decode cX8_handPlace 12 = .ok (.if_icmp .ge 21, 3) := by decide +kernel
theorem dX8_handPlace_15 : decode cX8_handPlace 15 = .ok (.iload 4, 2) := by decide +kernel
theorem dX8_handPlace_17 : decode cX8_handPlace 17 = .ok (.sipush 999, 3) := by decide +kernel
theorem dX8_handPlace_20 : decode cX8_handPlace 20 = .ok (.if_icmp .ge 13, 3) := by decide +kernel
theorem dX8_handPlace_23 : decode cX8_handPlace 23 = .ok (.aload_n 0, 1) := by decide +kernel
theorem dX8_handPlace_24 : decode cX8_handPlace 24 = .ok (.invokevirtual 45, 3) := by decide +kernel
theorem dX8_handPlace_27 : decode cX8_handPlace 27 = .ok (.iinc 4 1, 3) := by decide +kernel
theorem dX8_handPlace_30 : decode cX8_handPlace 30 = .ok (.goto (-21), 3) := by decide +kernel
theorem dX8_handPlace_33 : decode cX8_handPlace 33 = .ok (.aload_n 0, 1) := by decide +kernel
theorem dX8_handPlace_34 : decode cX8_handPlace 34 = .ok (.getfield 25, 3) := by decide +kernel
theorem dX8_handPlace_37 : decode cX8_handPlace 37 = .ok (.ireturn, 1) := by decide +kernel
set_option maxRecDepth 20000 in
theorem ggX8_firstNew_X1_neighbour : GoodIn wsX8_firstNew wsX1_neighbour := goodIn_r _ [8, 9, 10, 11, 7, 12, 13, 14, 15, 16, 17, 18, 19, 20, 21, 22, 30, 31, 32, 33, 34, 35, 36] (by decide +kernel) (by decide +kernel)
set_option maxRecDepth 20000 in
theorem gX8_firstNew_X1_neighbour : GoodIn wsX8_firstNew (wsV RX8 34 RX1 yX1_neighbour wsX1_neighbour) := goodIn_app (goodIn_of _ (by decide +kernel)) ggX8_firstNew_X1_neighbour
set_option maxRecDepth 20000 in
theorem ggX8_firstNew_X1_has : GoodIn wsX8_firstNew wsX1_has := goodIn_r _ [17] (by decide +kernel) (by decide +kernel)
set_option maxRecDepth 20000 in
theorem gX8_firstNew_X1_has : GoodIn wsX8_firstNew (va_wsS RX8 63 yX1_has wsX1_has) := goodIn_app (goodIn_of _ (by decide +kernel)) ggX8_firstNew_X1_has
theorem dX8_firstNew_0 : decode cX8_firstNew 0 = .ok (.iconst 0, 1) := by decide +kernel
theorem dX8_firstNew_1 : decode cX8_firstNew 1 = .ok (.istore_n 1, 1) := by decide +kernel
theorem dX8_firstNew_2 : decode cX8_firstNew 2 = .ok (.iload_n 1, 1) := by decide +kernel
theorem dX8_firstNew_3 : decode cX8_firstNew 3 = .ok (.iconst 4, 1) := by decide +kernel
theorem dX8_firstNew_4 : decode cX8_firstNew 4 = .ok (.if_icmp .ge 40, 3) := by decide +kernel
theorem dX8_firstNew_7 : decode cX8_firstNew 7 = .ok (.aload_n 0, 1) := by decide +kernel
theorem dX8_firstNew_8 : decode cX8_firstNew 8 = .ok (.getfield 9, 3) := by decide +kernel
theorem dX8_firstNew_11 : decode cX8_firstNew 11 = .ok (.aload_n 0, 1) := by decide +kernel
theorem dX8_firstNew_12 : decode cX8_firstNew 12 = .ok (.getfield 25, 3) := by decide +kernel
theorem dX8_firstNew_15 : decode cX8_firstNew 15 = .ok (.iload_n 1, 1) := by decide +kernel
theorem dX8_firstNew_16 : decode cX8_firstNew 16 = .ok (.invokevirtual 34, 3) := by decide +kernel
theorem dX8_firstNew_19 : decode cX8_firstNew 19 = .ok (.istore_n 2, 1) := by decide +kernel
theorem dX8_firstNew_20 : decode cX8_firstNew 20 = .ok (.iload_n 2, 1) := by decide +kernel
theorem dX8_firstNew_21 : decode cX8_firstNew 21 = .ok (.iconst (-1), 1) := by decide +kernel
theorem dX8_firstNew_22 : decode cX8_firstNew 22 = .ok (.if_icmp .eq 16, 3) := by decide +kernel
theorem dX8_firstNew_25 : decode cX8_firstNew 25 = .ok (.aload_n 0, 1) := by decide +kernel
theorem dX8_firstNew_26 : decode cX8_firstNew 26 = .ok (.getfield 52, 3) := by decide +kernel
theorem dX8_firstNew_29 : decode cX8_firstNew 29 = .ok (.iload_n 2, 1) := by decide +kernel
theorem dX8_firstNew_30 : decode cX8_firstNew 30 = .ok (.invokestatic 63, 3) := by decide +kernel
theorem dX8_firstNew_33 : decode cX8_firstNew 33 = .ok (.ifCond .ne 5, 3) := by decide +kernel
theorem dX8_firstNew_36 : decode cX8_firstNew 36 = .ok (.iload_n 2, 1) := by decide +kernel
theorem dX8_firstNew_37 : decode cX8_firstNew 37 = .ok (.ireturn, 1) := by decide +kernel
theorem dX8_firstNew_38 : decode cX8_firstNew 38 = .ok (.iinc 1 1, 3) := by decide +kernel
theorem dX8_firstNew_41 : decode cX8_firstNew 41 = .ok (.goto (-39), 3) := by decide +kernel
theorem dX8_firstNew_44 : decode cX8_firstNew 44 = .ok (.iconst (-1), 1) := by decide +kernel
theorem dX8_firstNew_45 : decode cX8_firstNew 45 = .ok (.ireturn, 1) := by decide +kernel
set_option maxRecDepth 20000 in
theorem ggX8_followThread_X1_bit : GoodIn wsX8_followThread wsX1_bit := goodIn_r _ [11] (by decide +kernel) (by decide +kernel)
set_option maxRecDepth 20000 in
theorem gX8_followThread_X1_bit : GoodIn wsX8_followThread (va_wsS RX8 48 yX1_bit wsX1_bit) := goodIn_app (goodIn_of _ (by decide +kernel)) ggX8_followThread_X1_bit
set_option maxRecDepth 20000 in
theorem ggX8_followThread_X8_firstNew : GoodIn wsX8_followThread wsX8_firstNew := goodIn_r _ [16, 1, 3, 4, 17, 18, 19, 10, 20, 21, 22, 23, 24, 25, 26, 27, 28, 29, 30, 31, 32, 33, 34, 35, 36, 37, 38, 39, 40, 41, 42, 43, 44, 45, 46, 47, 48] (by decide +kernel) (by decide +kernel)
set_option maxRecDepth 20000 in
theorem gX8_followThread_X8_firstNew : GoodIn wsX8_followThread (wsV RX8 56 RX8 yX8_firstNew wsX8_firstNew) := goodIn_app (goodIn_of _ (by decide +kernel)) ggX8_followThread_X8_firstNew
set_option maxRecDepth 20000 in
theorem ggX8_followThread_X1_has : GoodIn wsX8_followThread wsX1_has := goodIn_r _ [29] (by decide +kernel) (by decide +kernel)
set_option maxRecDepth 20000 in
theorem gX8_followThread_X1_has : GoodIn wsX8_followThread (va_wsS RX8 63 yX1_has wsX1_has) := goodIn_app (goodIn_of _ (by decide +kernel)) ggX8_followThread_X1_has
theorem dX8_followThread_0 : decode cX8_followThread 0 = .ok (.aload_n 0, 1) := by decide +kernel
theorem dX8_followThread_1 : decode cX8_followThread 1 = .ok (.aload_n 0, 1) := by decide +kernel
theorem dX8_followThread_2 : decode cX8_followThread 2 = .ok (.getfield 9, 3) := by decide +kernel
theorem dX8_followThread_5 : decode cX8_followThread 5 = .ok (.getfield 19, 3) := by decide +kernel
theorem dX8_followThread_8 : decode cX8_followThread 8 = .ok (.putfield 25, 3) := by decide +kernel
theorem dX8_followThread_11 : decode cX8_followThread 11 = .ok (.aload_n 0, 1) := by decide +kernel
theorem dX8_followThread_12 : decode cX8_followThread 12 = .ok (.aload_n 0, 1) := by decide +kernel
theorem dX8_followThread_13 : decode cX8_followThread 13 = .ok (.getfield 25, 3) := by decide +kernel
theorem dX8_followThread_16 : decode cX8_followThread 16 = .ok (.invokestatic 48, 3) := by decide +kernel
theorem dX8_followThread_19 : decode cX8_followThread 19 = .ok (.putfield 52, 3) := by decide +kernel
theorem dX8_followThread_22 : decode cX8_followThread 22 = .ok (.iconst 0, 1) := by decide +kernel
theorem dX8_followThread_23 : decode cX8_followThread 23 = .ok (.istore_n 1, 1) := by decide +kernel
theorem dX8_followThread_24 : decode cX8_followThread 24 = .ok (.iload_n 1, 1) := by decide +kernel
theorem dX8_followThread_25 : decode cX8_followThread 25 = .ok (.bipush 72, 2) := by decide +kernel
theorem dX8_followThread_27 : decode cX8_followThread 27 = .ok (.if_icmp .gt 113, 3) := by decide +kernel
theorem dX8_followThread_30 : decode cX8_followThread 30 = .ok (.aload_n 0, 1) := by decide +kernel
theorem dX8_followThread_31 : decode cX8_followThread 31 = .ok (.getfield 25, 3) := by decide +kernel
theorem dX8_followThread_34 : decode cX8_followThread 34 = .ok (.aload_n 0, 1) := by decide +kernel
theorem dX8_followThread_35 : decode cX8_followThread 35 = .ok (.getfield 9, 3) := by decide +kernel
theorem dX8_followThread_38 : decode cX8_followThread 38 = .ok (.getfield 42, 3) := by decide +kernel
theorem dX8_followThread_41 : decode cX8_followThread 41 = .ok (.if_icmp .ne 5, 3) := by decide +kernel
theorem dX8_followThread_44 : decode cX8_followThread 44 = .ok (.iload_n 1, 1) := by decide +kernel
theorem dX8_followThread_45 : decode cX8_followThread 45 = .ok (.ireturn, 1) := by decide +kernel
theorem dX8_followThread_46 : decode cX8_followThread 46 = .ok (.aload_n 0, 1) := by decide +kernel
theorem dX8_followThread_47 : decode cX8_followThread 47 = .ok (.invokevirtual 56, 3) := by decide +kernel
theorem dX8_followThread_50 : decode cX8_followThread 50 = .ok (.istore_n 2, 1) := by decide +kernel
theorem dX8_followThread_51 : decode cX8_followThread 51 = .ok (.iload_n 2, 1) := by decide +kernel
theorem dX8_followThread_52 : decode cX8_followThread 52 = .ok (.iconst (-1), 1) := by decide +kernel
theorem dX8_followThread_53 : decode cX8_followThread 53 = .ok (.if_icmp .eq 34, 3) := by decide +kernel
theorem dX8_followThread_56 : decode cX8_followThread 56 = .ok (.aload_n 0, 1) := by decide +kernel
theorem dX8_followThread_57 : decode cX8_followThread 57 = .ok (.getfield 15, 3) := by decide +kernel
theorem dX8_followThread_60 : decode cX8_followThread 60 = .ok (.iload_n 2, 1) := by decide +kernel
theorem dX8_followThread_61 : decode cX8_followThread 61 = .ok (.aload_n 0, 1) := by decide +kernel
theorem dX8_followThread_62 : decode cX8_followThread 62 = .ok (.getfield 25, 3) := by decide +kernel
theorem dX8_followThread_65 : decode cX8_followThread 65 = .ok (.iastore, 1) := by decide +kernel
theorem dX8_followThread_66 : decode cX8_followThread 66 = .ok (.aload_n 0, 1) := by decide +kernel
theorem dX8_followThread_67 : decode cX8_followThread 67 = .ok (.dup, 1) := by decide +kernel
theorem dX8_followThread_68 : decode cX8_followThread 68 = .ok (.getfield 52, 3) := by decide +kernel
theorem dX8_followThread_71 : decode cX8_followThread 71 = .ok (.iload_n 2, 1) := by decide +kernel
theorem dX8_followThread_72 : decode cX8_followThread 72 = .ok (.invokestatic 48, 3) := by decide +kernel
theorem dX8_followThread_75 : decode cX8_followThread 75 = .ok (.lor, 1) := by decide +kernel
theorem dX8_followThread_76 : decode cX8_followThread 76 = .ok (.putfield 52, 3) := by decide +kernel
theorem dX8_followThread_79 : decode cX8_followThread 79 = .ok (.aload_n 0, 1) := by decide +kernel
theorem dX8_followThread_80 : decode cX8_followThread 80 = .ok (.iload_n 2, 1) := by decide +kernel
theorem dX8_followThread_81 : decode cX8_followThread 81 = .ok (.putfield 25, 3) := by decide +kernel
theorem dX8_followThread_84 : decode cX8_followThread 84 = .ok (.goto 50, 3) := by decide +kernel
theorem dX8_followThread_87 : decode cX8_followThread 87 = .ok (.aload_n 0, 1) := by decide +kernel
theorem dX8_followThread_88 : decode cX8_followThread 88 = .ok (.getfield 25, 3) := by decide +kernel
theorem dX8_followThread_91 : decode cX8_followThread 91 = .ok (.aload_n 0, 1) := by decide +kernel
theorem dX8_followThread_92 : decode cX8_followThread 92 = .ok (.getfield 9, 3) := by decide +kernel
theorem dX8_followThread_95 : decode cX8_followThread 95 = .ok (.getfield 19, 3) := by decide +kernel
theorem dX8_followThread_98 : decode cX8_followThread 98 = .ok (.if_icmp .eq 20, 3) := by decide +kernel
theorem dX8_followThread_101 : decode cX8_followThread 101 = .ok (.aload_n 0, 1) := by decide +kernel
theorem dX8_followThread_102 : decode cX8_followThread 102 = .ok (.getfield 9, 3) := by decide +kernel
theorem dX8_followThread_105 : decode cX8_followThread 105 = .ok (.getfield 60, 3) := by decide +kernel
theorem dX8_followThread_108 : decode cX8_followThread 108 = .ok (.aload_n 0, 1) := by decide +kernel
theorem dX8_followThread_109 : decode cX8_followThread 109 = .ok (.getfield 25, 3) := by decide +kernel
theorem dX8_followThread_112 : decode cX8_followThread 112 = .ok (.invokestatic 63, 3) := by decide +kernel
theorem dX8_followThread_115 : decode cX8_followThread 115 = .ok (.ifCond .ne 6, 3) := by decide +kernel
theorem dX8_followThread_118 : decode cX8_followThread 118 = .ok (.bipush (-9), 2) := by decide +kernel
theorem dX8_followThread_120 : decode cX8_followThread 120 = .ok (.ireturn, 1) := by decide +kernel
theorem dX8_followThread_121 : decode cX8_followThread 121 = .ok (.aload_n 0, 1) := by decide +kernel
theorem dX8_followThread_122 : decode cX8_followThread 122 = .ok (.aload_n 0, 1) := by decide +kernel
theorem dX8_followThread_123 : decode cX8_followThread 123 = .ok (.getfield 15, 3) := by decide +kernel
theorem dX8_followThread_126 : decode cX8_followThread 126 = .ok (.aload_n 0, 1) := by decide +kernel
theorem dX8_followThread_127 : decode cX8_followThread 127 = .ok (.getfield 25, 3) := by decide +kernel
theorem dX8_followThread_130 : decode cX8_followThread 130 = .ok (.iaload, 1) := by decide +kernel
theorem dX8_followThread_131 : decode cX8_followThread 131 = .ok (.putfield 25, 3) := by decide +kernel
theorem dX8_followThread_134 : decode cX8_followThread 134 = .ok (.iinc 1 1, 3) := by decide +kernel
theorem dX8_followThread_137 : decode cX8_followThread 137 = .ok (.goto (-113), 3) := by decide +kernel
theorem dX8_followThread_140 : decode cX8_followThread 140 = .ok (.bipush (-9), 2) := by decide +kernel
theorem dX8_followThread_142 : decode cX8_followThread 142 = .ok (.ireturn, 1) := by decide +kernel
