set_option maxRecDepth 20000 in
theorem ggX10_chase_X10_isCell : GoodIn wsX10_chase wsX10_isCell := goodIn_r _ [7, 8, 9, 51, 52, 53, 54, 55, 56, 57, 58, 59, 60, 61, 62, 63, 64, 65, 66, 67, 68, 69, 70, 71, 72, 73, 74, 75, 76, 77, 78, 79, 80, 81, 82, 83, 84] (by decide +kernel) (by decide +kernel)
set_option maxRecDepth 20000 in
theorem gX10_chase_X10_isCell : GoodIn wsX10_chase (wsV RX10 151 RX10 yX10_isCell wsX10_isCell) := goodIn_app (goodIn_of _ (by decide +kernel)) ggX10_chase_X10_isCell
set_option maxRecDepth 20000 in
theorem ggX10_chase_X10_layTurns : GoodIn wsX10_chase wsX10_layTurns := goodIn_r _ [13, 2, 14, 15, 16, 6, 17, 8, 9, 18, 19, 20, 21, 22, 23, 24, 25, 26, 27, 28, 29, 30, 31, 32, 33, 34, 35, 36, 37, 38, 39, 40, 41, 42, 43, 44, 45, 46, 47, 51, 52, 53, 54, 55, 56, 57, 58, 59, 60, 61, 62, 63, 64, 65, 66, 67, 68, 69, 70, 71, 72, 73, 74, 75, 76, 77, 78, 79, 80, 81, 82, 83, 84] (by decide +kernel) (by decide +kernel)
set_option maxRecDepth 20000 in
theorem gX10_chase_X10_layTurns : GoodIn wsX10_chase (wsV RX10 245 RX10 yX10_layTurns wsX10_layTurns) := goodIn_app (goodIn_of _ (by decide +kernel)) ggX10_chase_X10_layTurns
set_option maxRecDepth 20000 in
theorem ggX10_chase_X10_index : GoodIn wsX10_chase wsX10_index := goodIn_r _ [50] (by decide +kernel) (by decide +kernel)
set_option maxRecDepth 20000 in
theorem gX10_chase_X10_index : GoodIn wsX10_chase (va_wsS RX10 157 yX10_index wsX10_index) := goodIn_app (goodIn_of _ (by decide +kernel)) ggX10_chase_X10_index
theorem dX10_chase_0 : decode cX10_chase 0 = .ok (.aload_n 0, 1) := by decide +kernel
theorem dX10_chase_1 : decode cX10_chase 1 = .ok (.iconst 0, 1) := by decide +kernel
theorem dX10_chase_2 : decode cX10_chase 2 = .ok (.putfield 79, 3) := by decide +kernel
theorem dX10_chase_5 : decode cX10_chase 5 = .ok (.aload_n 0, 1) := by decide +kernel
theorem dX10_chase_6 : decode cX10_chase 6 = .ok (.iload_n 1, 1) := by decide +kernel
theorem dX10_chase_7 : decode cX10_chase 7 = .ok (.invokevirtual 151, 3) := by decide +kernel
theorem dX10_chase_10 : decode cX10_chase 10 = .ok (.ifCond .eq 11, 3) := by decide +kernel
theorem dX10_chase_13 : decode cX10_chase 13 = .ok (.aload_n 0, 1) := by decide +kernel
theorem dX10_chase_14 : decode cX10_chase 14 = .ok (.iload_n 2, 1) := by decide +kernel
theorem dX10_chase_15 : decode cX10_chase 15 = .ok (.invokevirtual 151, 3) := by decide +kernel
theorem dX10_chase_18 : decode cX10_chase 18 = .ok (.ifCond .ne 5, 3) := by decide +kernel
theorem dX10_chase_21 : decode cX10_chase 21 = .ok (.iconst (-1), 1) := by decide +kernel
theorem dX10_chase_22 : decode cX10_chase 22 = .ok (.ireturn, 1) := by decide +kernel
theorem dX10_chase_23 : decode cX10_chase 23 = .ok (.aload_n 0, 1) := by decide +kernel
theorem dX10_chase_24 : decode cX10_chase 24 = .ok (.iload_n 3, 1) := by decide +kernel
theorem dX10_chase_25 : decode cX10_chase 25 = .ok (.invokevirtual 245, 3) := by decide +kernel
theorem dX10_chase_28 : decode cX10_chase 28 = .ok (.aload_n 0, 1) := by decide +kernel
theorem dX10_chase_29 : decode cX10_chase 29 = .ok (.getfield 70, 3) := by decide +kernel
theorem dX10_chase_32 : decode cX10_chase 32 = .ok (.bipush 36, 2) := by decide +kernel
theorem dX10_chase_34 : decode cX10_chase 34 = .ok (.iload_n 1, 1) := by decide +kernel
theorem dX10_chase_35 : decode cX10_chase 35 = .ok (.invokestatic 157, 3) := by decide +kernel
theorem dX10_chase_38 : decode cX10_chase 38 = .ok (.imul, 1) := by decide +kernel
theorem dX10_chase_39 : decode cX10_chase 39 = .ok (.iload_n 2, 1) := by decide +kernel
theorem dX10_chase_40 : decode cX10_chase 40 = .ok (.invokestatic 157, 3) := by decide +kernel
theorem dX10_chase_43 : decode cX10_chase 43 = .ok (.iadd, 1) := by decide +kernel
theorem dX10_chase_44 : decode cX10_chase 44 = .ok (.iaload, 1) := by decide +kernel
theorem dX10_chase_45 : decode cX10_chase 45 = .ok (.istore 4, 2) := by decide +kernel
theorem dX10_chase_47 : decode cX10_chase 47 = .ok (.iload 4, 2) := by decide +kernel
theorem dX10_chase_49 : decode cX10_chase 49 = .ok (.sipush 9999, 3) := by decide +kernel
theorem dX10_chase_52 : decode cX10_chase 52 = .ok (.if_icmp .ge 8, 3) := by decide +kernel
theorem dX10_chase_55 : decode cX10_chase 55 = .ok (.iload 4, 2) := by decide +kernel
theorem dX10_chase_57 : decode cX10_chase 57 = .ok (.goto 5, 3) := by decide +kernel
theorem dX10_chase_60 : decode cX10_chase 60 = .ok (.bipush (-9), 2) := by decide +kernel
theorem dX10_chase_62 : decode cX10_chase 62 = .ok (.ireturn, 1) := by decide +kernel
theorem dX10_turnedAt_0 : decode cX10_turnedAt 0 = .ok (.iload_n 1, 1) := by decide +kernel
theorem dX10_turnedAt_1 : decode cX10_turnedAt 1 = .ok (.bipush 6, 2) := by decide +kernel
theorem dX10_turnedAt_3 : decode cX10_turnedAt 3 = .ok (.idiv, 1) := by decide +kernel
theorem dX10_turnedAt_4 : decode cX10_turnedAt 4 = .ok (.istore_n 3, 1) := by decide +kernel
theorem dX10_turnedAt_5 : decode cX10_turnedAt 5 = .ok (.iload_n 2, 1) := by decide +kernel
theorem dX10_turnedAt_6 : decode cX10_turnedAt 6 = .ok (.iconst 3, 1) := by decide +kernel
theorem dX10_turnedAt_7 : decode cX10_turnedAt 7 = .ok (.if_icmp .le 17, 3) := by decide +kernel
theorem dX10_turnedAt_10 : decode cX10_turnedAt 10 = .ok (.aload_n 0, 1) := by decide +kernel
theorem dX10_turnedAt_11 : decode cX10_turnedAt 11 = .ok (.getfield 17, 3) := by decide +kernel
theorem dX10_turnedAt_14 : decode cX10_turnedAt 14 = .ok (.iconst 1, 1) := by decide +kernel
theorem dX10_turnedAt_15 : decode cX10_turnedAt 15 = .ok (.isub, 1) := by decide +kernel
theorem dX10_turnedAt_16 : decode cX10_turnedAt 16 = .ok (.iload_n 1, 1) := by decide +kernel
theorem dX10_turnedAt_17 : decode cX10_turnedAt 17 = .ok (.bipush 6, 2) := by decide +kernel
theorem dX10_turnedAt_19 : decode cX10_turnedAt 19 = .ok (.irem, 1) := by decide +kernel
theorem dX10_turnedAt_20 : decode cX10_turnedAt 20 = .ok (.isub, 1) := by decide +kernel
theorem dX10_turnedAt_21 : decode cX10_turnedAt 21 = .ok (.goto 7, 3) := by decide +kernel
theorem dX10_turnedAt_24 : decode cX10_turnedAt 24 = .ok (.iload_n 1, 1) := by decide +kernel
theorem dX10_turnedAt_25 : decode cX10_turnedAt 25 = .ok (.bipush 6, 2) := by decide +kernel
theorem dX10_turnedAt_27 : decode cX10_turnedAt 27 = .ok (.irem, 1) := by decide +kernel
theorem dX10_turnedAt_28 : decode cX10_turnedAt 28 = .ok (.istore 4, 2) := by decide +kernel
theorem dX10_turnedAt_30 : decode cX10_turnedAt 30 = .ok (.aload_n 0, 1) := by decide +kernel
theorem dX10_turnedAt_31 : decode cX10_turnedAt 31 = .ok (.getfield 13, 3) := by decide +kernel
theorem dX10_turnedAt_34 : decode cX10_turnedAt 34 = .ok (.istore 5, 2) := by decide +kernel
theorem dX10_turnedAt_36 : decode cX10_turnedAt 36 = .ok (.aload_n 0, 1) := by decide +kernel
theorem dX10_turnedAt_37 : decode cX10_turnedAt 37 = .ok (.getfield 17, 3) := by decide +kernel
theorem dX10_turnedAt_40 : decode cX10_turnedAt 40 = .ok (.istore 6, 2) := by decide +kernel
theorem dX10_turnedAt_42 : decode cX10_turnedAt 42 = .ok (.iconst 0, 1) := by decide +kernel
theorem dX10_turnedAt_43 : decode cX10_turnedAt 43 = .ok (.istore 7, 2) := by decide +kernel
theorem dX10_turnedAt_45 : decode cX10_turnedAt 45 = .ok (.iload 7, 2) := by decide +kernel
theorem dX10_turnedAt_47 : decode cX10_turnedAt 47 = .ok (.iload_n 2, 1) := by decide +kernel
theorem dX10_turnedAt_48 : decode cX10_turnedAt 48 = .ok (.iconst 4, 1) := by decide +kernel
theorem dX10_turnedAt_49 : decode cX10_turnedAt 49 = .ok (.irem, 1) := by decide +kernel
theorem dX10_turnedAt_50 : decode cX10_turnedAt 50 = .ok (.if_icmp .ge 36, 3) := by decide +kernel
theorem dX10_turnedAt_53 : decode cX10_turnedAt 53 = .ok (.iload_n 3, 1) := by decide +kernel
theorem dX10_turnedAt_54 : decode cX10_turnedAt 54 = .ok (.istore 8, 2) := by decide +kernel
theorem dX10_turnedAt_56 : decode cX10_turnedAt 56 = .ok (.iload 4, 2) := by decide +kernel
theorem dX10_turnedAt_58 : decode cX10_turnedAt 58 = .ok (.istore_n 3, 1) := by decide +kernel
theorem dX10_turnedAt_59 : decode cX10_turnedAt 59 = .ok (.iload 5, 2) := by decide +kernel
theorem dX10_turnedAt_61 : decode cX10_turnedAt 61 = .ok (.iconst 1, 1) := by decide +kernel
theorem dX10_turnedAt_62 : decode cX10_turnedAt 62 = .ok (.isub, 1) := by decide +kernel
theorem dX10_turnedAt_63 : decode cX10_turnedAt 63 = .ok (.iload 8, 2) := by decide +kernel
theorem dX10_turnedAt_65 : decode cX10_turnedAt 65 = .ok (.isub, 1) := by decide +kernel
theorem dX10_turnedAt_66 : decode cX10_turnedAt 66 = .ok (.istore 4, 2) := by decide +kernel
theorem dX10_turnedAt_68 : decode cX10_turnedAt 68 = .ok (.iload 5, 2) := by decide +kernel
theorem dX10_turnedAt_70 : decode cX10_turnedAt 70 = .ok (.istore 9, 2) := by decide +kernel
theorem dX10_turnedAt_72 : decode cX10_turnedAt 72 = .ok (.iload 6, 2) := by decide +kernel
theorem dX10_turnedAt_74 : decode cX10_turnedAt 74 = .ok (.istore 5, 2) := by decide +kernel
theorem dX10_turnedAt_76 : decode cX10_turnedAt 76 = .ok (.iload 9, 2) := by decide +kernel
theorem dX10_turnedAt_78 : decode cX10_turnedAt 78 = .ok (.istore 6, 2) := by decide +kernel
theorem dX10_turnedAt_80 : decode cX10_turnedAt 80 = .ok (.iinc 7 1, 3) := by decide +kernel
theorem dX10_turnedAt_83 : decode cX10_turnedAt 83 = .ok (.goto (-38), 3) := by decide +kernel
theorem dX10_turnedAt_86 : decode cX10_turnedAt 86 = .ok (.bipush 6, 2) := by decide +kernel
theorem dX10_turnedAt_88 : decode cX10_turnedAt 88 = .ok (.iload_n 3, 1) := by decide +kernel
theorem dX10_turnedAt_89 : decode cX10_turnedAt 89 = .ok (.imul, 1) := by decide +kernel
theorem dX10_turnedAt_90 : decode cX10_turnedAt 90 = .ok (.iload 4, 2) := by decide +kernel
theorem dX10_turnedAt_92 : decode cX10_turnedAt 92 = .ok (.iadd, 1) := by decide +kernel
theorem dX10_turnedAt_93 : decode cX10_turnedAt 93 = .ok (.ireturn, 1) := by decide +kernel
theorem dX10_turnedSide_0 : decode cX10_turnedSide 0 = .ok (.iload_n 1, 1) := by decide +kernel
theorem dX10_turnedSide_1 : decode cX10_turnedSide 1 = .ok (.iconst 3, 1) := by decide +kernel
theorem dX10_turnedSide_2 : decode cX10_turnedSide 2 = .ok (.if_icmp .le 16, 3) := by decide +kernel
theorem dX10_turnedSide_5 : decode cX10_turnedSide 5 = .ok (.iload_n 0, 1) := by decide +kernel
theorem dX10_turnedSide_6 : decode cX10_turnedSide 6 = .ok (.iconst 2, 1) := by decide +kernel
theorem dX10_turnedSide_7 : decode cX10_turnedSide 7 = .ok (.irem, 1) := by decide +kernel
theorem dX10_turnedSide_8 : decode cX10_turnedSide 8 = .ok (.iconst 1, 1) := by decide +kernel
theorem dX10_turnedSide_9 : decode cX10_turnedSide 9 = .ok (.if_icmp .ne 9, 3) := by decide +kernel
theorem dX10_turnedSide_12 : decode cX10_turnedSide 12 = .ok (.iconst 4, 1) := by decide +kernel
theorem dX10_turnedSide_13 : decode cX10_turnedSide 13 = .ok (.iload_n 0, 1) := by decide +kernel
theorem dX10_turnedSide_14 : decode cX10_turnedSide 14 = .ok (.isub, 1) := by decide +kernel
theorem dX10_turnedSide_15 : decode cX10_turnedSide 15 = .ok (.goto 4, 3) := by decide +kernel
theorem dX10_turnedSide_18 : decode cX10_turnedSide 18 = .ok (.iload_n 0, 1) := by decide +kernel
theorem dX10_turnedSide_19 : decode cX10_turnedSide 19 = .ok (.istore_n 2, 1) := by decide +kernel
theorem dX10_turnedSide_20 : decode cX10_turnedSide 20 = .ok (.iload_n 2, 1) := by decide +kernel
theorem dX10_turnedSide_21 : decode cX10_turnedSide 21 = .ok (.iload_n 1, 1) := by decide +kernel
theorem dX10_turnedSide_22 : decode cX10_turnedSide 22 = .ok (.iadd, 1) := by decide +kernel
theorem dX10_turnedSide_23 : decode cX10_turnedSide 23 = .ok (.iconst 4, 1) := by decide +kernel
theorem dX10_turnedSide_24 : decode cX10_turnedSide 24 = .ok (.irem, 1) := by decide +kernel
theorem dX10_turnedSide_25 : decode cX10_turnedSide 25 = .ok (.ireturn, 1) := by decide +kernel
set_option maxRecDepth 20000 in
theorem ggX10_layTurned_X10_isThere : GoodIn wsX10_layTurned wsX10_isThere := goodIn_r _ [11, 1, 2, 32, 33, 34, 35, 36, 37, 38, 39, 40, 41, 42, 43, 44, 45, 46, 47, 48, 49, 50, 51, 52, 53, 54, 55, 56, 57, 58, 59, 60, 61, 62, 63, 64, 65] (by decide +kernel) (by decide +kernel)
set_option maxRecDepth 20000 in
theorem gX10_layTurned_X10_isThere : GoodIn wsX10_layTurned (wsV RX10 125 RX10 yX10_isThere wsX10_isThere) := goodIn_app (goodIn_of _ (by decide +kernel)) ggX10_layTurned_X10_isThere
set_option maxRecDepth 20000 in
theorem ggX10_layTurned_X10_turnedSide : GoodIn wsX10_layTurned wsX10_turnedSide := goodIn_r _ [14] (by decide +kernel) (by decide +kernel)
set_option maxRecDepth 20000 in
theorem gX10_layTurned_X10_turnedSide : GoodIn wsX10_layTurned (va_wsS RX10 254 yX10_turnedSide wsX10_turnedSide) := goodIn_app (goodIn_of _ (by decide +kernel)) ggX10_layTurned_X10_turnedSide
set_option maxRecDepth 20000 in
theorem ggX10_layTurned_X10_isOpen : GoodIn wsX10_layTurned wsX10_isOpen := goodIn_r _ [18, 19, 20, 21, 22, 23, 10, 24, 1, 2, 25, 26, 27, 32, 33, 34, 35, 36, 37, 38, 39, 40, 41, 42, 43, 44, 45, 46, 47, 48, 49, 50, 51, 52, 53, 54, 55, 56, 57, 58, 59, 60, 61, 62, 63, 64, 65] (by decide +kernel) (by decide +kernel)
set_option maxRecDepth 20000 in
theorem gX10_layTurned_X10_isOpen : GoodIn wsX10_layTurned (wsV RX10 160 RX10 yX10_isOpen wsX10_isOpen) := goodIn_app (goodIn_of _ (by decide +kernel)) ggX10_layTurned_X10_isOpen
set_option maxRecDepth 20000 in
theorem ggX10_layTurned_X10_in : GoodIn wsX10_layTurned wsX10_in := goodIn_r _ [27] (by decide +kernel) (by decide +kernel)
set_option maxRecDepth 20000 in
theorem gX10_layTurned_X10_in : GoodIn wsX10_layTurned (va_wsS RX10 84 yX10_in wsX10_in) := goodIn_app (goodIn_of _ (by decide +kernel)) ggX10_layTurned_X10_in
set_option maxRecDepth 20000 in
theorem ggX10_layTurned_X10_turnedAt : GoodIn wsX10_layTurned wsX10_turnedAt := goodIn_r _ [31, 2, 1, 32, 33, 34, 35, 36, 37, 38, 39, 40, 41, 42, 43, 44, 45, 46, 47, 48, 49, 50, 51, 52, 53, 54, 55, 56, 57, 58, 59, 60, 61, 62, 63, 64, 65] (by decide +kernel) (by decide +kernel)
set_option maxRecDepth 20000 in
theorem gX10_layTurned_X10_turnedAt : GoodIn wsX10_layTurned (wsV RX10 259 RX10 yX10_turnedAt wsX10_turnedAt) := goodIn_app (goodIn_of _ (by decide +kernel)) ggX10_layTurned_X10_turnedAt
theorem dX10_layTurned_0 : decode cX10_layTurned 0 = .ok (.aload_n 0, 1) := by decide +kernel
theorem dX10_layTurned_1 : decode cX10_layTurned 1 = .ok (.iload_n 1, 1) := by decide +kernel
theorem dX10_layTurned_2 : decode cX10_layTurned 2 = .ok (.iconst 2, 1) := by decide +kernel
theorem dX10_layTurned_3 : decode cX10_layTurned 3 = .ok (.irem, 1) := by decide +kernel
theorem dX10_layTurned_4 : decode cX10_layTurned 4 = .ok (.ifCond .ne 10, 3) := by decide +kernel
theorem dX10_layTurned_7 : decode cX10_layTurned 7 = .ok (.aload_n 0, 1) := by decide +kernel
theorem dX10_layTurned_8 : decode cX10_layTurned 8 = .ok (.getfield 13, 3) := by decide +kernel
theorem dX10_layTurned_11 : decode cX10_layTurned 11 = .ok (.goto 7, 3) := by decide +kernel
theorem dX10_layTurned_14 : decode cX10_layTurned 14 = .ok (.aload_n 0, 1) := by decide +kernel
theorem dX10_layTurned_15 : decode cX10_layTurned 15 = .ok (.getfield 17, 3) := by decide +kernel
theorem dX10_layTurned_18 : decode cX10_layTurned 18 = .ok (.putfield 248, 3) := by decide +kernel
theorem dX10_layTurned_21 : decode cX10_layTurned 21 = .ok (.aload_n 0, 1) := by decide +kernel
theorem dX10_layTurned_22 : decode cX10_layTurned 22 = .ok (.iload_n 1, 1) := by decide +kernel
theorem dX10_layTurned_23 : decode cX10_layTurned 23 = .ok (.iconst 2, 1) := by decide +kernel
theorem dX10_layTurned_24 : decode cX10_layTurned 24 = .ok (.irem, 1) := by decide +kernel
theorem dX10_layTurned_25 : decode cX10_layTurned 25 = .ok (.ifCond .ne 10, 3) := by decide +kernel
theorem dX10_layTurned_28 : decode cX10_layTurned 28 = .ok (.aload_n 0, 1) := by decide +kernel
theorem dX10_layTurned_29 : decode cX10_layTurned 29 = .ok (.getfield 17, 3) := by decide +kernel
theorem dX10_layTurned_32 : decode cX10_layTurned 32 = .ok (.goto 7, 3) := by decide +kernel
theorem dX10_layTurned_35 : decode cX10_layTurned 35 = .ok (.aload_n 0, 1) := by decide +kernel
theorem dX10_layTurned_36 : decode cX10_layTurned 36 = .ok (.getfield 13, 3) := by decide +kernel
theorem dX10_layTurned_39 : decode cX10_layTurned 39 = .ok (.putfield 251, 3) := by decide +kernel
theorem dX10_layTurned_42 : decode cX10_layTurned 42 = .ok (.iconst 0, 1) := by decide +kernel
theorem dX10_layTurned_43 : decode cX10_layTurned 43 = .ok (.istore_n 2, 1) := by decide +kernel
theorem dX10_layTurned_44 : decode cX10_layTurned 44 = .ok (.iload_n 2, 1) := by decide +kernel
theorem dX10_layTurned_45 : decode cX10_layTurned 45 = .ok (.bipush 36, 2) := by decide +kernel
theorem dX10_layTurned_47 : decode cX10_layTurned 47 = .ok (.if_icmp .ge 16, 3) := by decide +kernel
theorem dX10_layTurned_50 : decode cX10_layTurned 50 = .ok (.aload_n 0, 1) := by decide +kernel
theorem dX10_layTurned_51 : decode cX10_layTurned 51 = .ok (.getfield 76, 3) := by decide +kernel
theorem dX10_layTurned_54 : decode cX10_layTurned 54 = .ok (.iload_n 2, 1) := by decide +kernel
theorem dX10_layTurned_55 : decode cX10_layTurned 55 = .ok (.iconst 0, 1) := by decide +kernel
theorem dX10_layTurned_56 : decode cX10_layTurned 56 = .ok (.iastore, 1) := by decide +kernel
theorem dX10_layTurned_57 : decode cX10_layTurned 57 = .ok (.iinc 2 1, 3) := by decide +kernel
theorem dX10_layTurned_60 : decode cX10_layTurned 60 = .ok (.goto (-16), 3) := by decide +kernel
theorem dX10_layTurned_63 : decode cX10_layTurned 63 = .ok (.iconst 0, 1) := by decide +kernel
theorem dX10_layTurned_64 : decode cX10_layTurned 64 = .ok (.istore_n 2, 1) := by decide +kernel
theorem dX10_layTurned_65 : decode cX10_layTurned 65 = .ok (.iload_n 2, 1) := by decide +kernel
theorem dX10_layTurned_66 : decode cX10_layTurned 66 = .ok (.bipush 36, 2) := by decide +kernel
theorem dX10_layTurned_68 : decode cX10_layTurned 68 = .ok (.if_icmp .ge 75, 3) := by decide +kernel
theorem dX10_layTurned_71 : decode cX10_layTurned 71 = .ok (.iconst 0, 1) := by decide +kernel
theorem dX10_layTurned_72 : decode cX10_layTurned 72 = .ok (.istore_n 3, 1) := by decide +kernel
theorem dX10_layTurned_73 : decode cX10_layTurned 73 = .ok (.iload_n 3, 1) := by decide +kernel
theorem dX10_layTurned_74 : decode cX10_layTurned 74 = .ok (.iconst 4, 1) := by decide +kernel
theorem dX10_layTurned_75 : decode cX10_layTurned 75 = .ok (.if_icmp .ge 62, 3) := by decide +kernel
theorem dX10_layTurned_78 : decode cX10_layTurned 78 = .ok (.aload_n 0, 1) := by decide +kernel
theorem dX10_layTurned_79 : decode cX10_layTurned 79 = .ok (.iload_n 2, 1) := by decide +kernel
theorem dX10_layTurned_80 : decode cX10_layTurned 80 = .ok (.invokevirtual 125, 3) := by decide +kernel
theorem dX10_layTurned_83 : decode cX10_layTurned 83 = .ok (.ifCond .eq 54, 3) := by decide +kernel
theorem dX10_layTurned_86 : decode cX10_layTurned 86 = .ok (.iload_n 3, 1) := by decide +kernel
theorem dX10_layTurned_87 : decode cX10_layTurned 87 = .ok (.iload_n 1, 1) := by decide +kernel
theorem dX10_layTurned_88 : decode cX10_layTurned 88 = .ok (.invokestatic 254, 3) := by decide +kernel
theorem dX10_layTurned_91 : decode cX10_layTurned 91 = .ok (.istore 4, 2) := by decide +kernel
theorem dX10_layTurned_93 : decode cX10_layTurned 93 = .ok (.aload_n 0, 1) := by decide +kernel
theorem dX10_layTurned_94 : decode cX10_layTurned 94 = .ok (.iload_n 2, 1) := by decide +kernel
theorem dX10_layTurned_95 : decode cX10_layTurned 95 = .ok (.iload_n 3, 1) := by decide +kernel
theorem dX10_layTurned_96 : decode cX10_layTurned 96 = .ok (.invokevirtual 160, 3) := by decide +kernel
theorem dX10_layTurned_99 : decode cX10_layTurned 99 = .ok (.ifCond .eq 32, 3) := by decide +kernel
theorem dX10_layTurned_102 : decode cX10_layTurned 102 = .ok (.iload 4, 2) := by decide +kernel
theorem dX10_layTurned_104 : decode cX10_layTurned 104 = .ok (.i2l, 1) := by decide +kernel
theorem dX10_layTurned_105 : decode cX10_layTurned 105 = .ok (.lconst 1, 1) := by decide +kernel
theorem dX10_layTurned_106 : decode cX10_layTurned 106 = .ok (.ldc2_w 257, 3) := by decide +kernel
theorem dX10_layTurned_109 : decode cX10_layTurned 109 = .ok (.invokestatic 84, 3) := by decide +kernel
theorem dX10_layTurned_112 : decode cX10_layTurned 112 = .ok (.ifCond .eq 19, 3) := by decide +kernel
theorem dX10_layTurned_115 : decode cX10_layTurned 115 = .ok (.aload_n 0, 1) := by decide +kernel
theorem dX10_layTurned_116 : decode cX10_layTurned 116 = .ok (.getfield 76, 3) := by decide +kernel
theorem dX10_layTurned_119 : decode cX10_layTurned 119 = .ok (.aload_n 0, 1) := by decide +kernel
theorem dX10_layTurned_120 : decode cX10_layTurned 120 = .ok (.iload_n 2, 1) := by decide +kernel
theorem dX10_layTurned_121 : decode cX10_layTurned 121 = .ok (.iload_n 1, 1) := by decide +kernel
theorem dX10_layTurned_122 : decode cX10_layTurned 122 = .ok (.invokevirtual 259, 3) := by decide +kernel
theorem dX10_layTurned_125 : decode cX10_layTurned 125 = .ok (.dup2, 1) := by decide +kernel
theorem dX10_layTurned_126 : decode cX10_layTurned 126 = .ok (.iaload, 1) := by decide +kernel
theorem dX10_layTurned_127 : decode cX10_layTurned 127 = .ok (.iload 4, 2) := by decide +kernel
theorem dX10_layTurned_129 : decode cX10_layTurned 129 = .ok (.iadd, 1) := by decide +kernel
theorem dX10_layTurned_130 : decode cX10_layTurned 130 = .ok (.iastore, 1) := by decide +kernel
theorem dX10_layTurned_131 : decode cX10_layTurned 131 = .ok (.iinc 3 1, 3) := by decide +kernel
theorem dX10_layTurned_134 : decode cX10_layTurned 134 = .ok (.goto (-61), 3) := by decide +kernel
theorem dX10_layTurned_137 : decode cX10_layTurned 137 = .ok (.iinc 2 1, 3) := by decide +kernel
theorem dX10_layTurned_140 : decode cX10_layTurned 140 = .ok (.goto (-75), 3) := by decide +kernel
theorem dX10_layTurned_143 : decode cX10_layTurned 143 = .ok (.return_, 1) := by decide +kernel
set_option maxRecDepth 20000 in
theorem ggX10_isSame_X10_figureOf : GoodIn wsX10_isSame wsX10_figureOf := goodIn_r _ [10, 11, 12, 13, 14, 15, 16, 17, 18, 19, 20, 21, 22, 23, 24, 25, 26, 27, 28, 29, 30, 31, 32, 33, 34, 35, 36, 37, 38, 39, 40, 41, 42, 43, 44, 45, 46] (by decide +kernel) (by decide +kernel)
set_option maxRecDepth 20000 in
theorem gX10_isSame_X10_figureOf : GoodIn wsX10_isSame (wsV RX10 167 RX10 yX10_figureOf wsX10_figureOf) := goodIn_app (goodIn_of _ (by decide +kernel)) ggX10_isSame_X10_figureOf
theorem dX10_isSame_0 : decode cX10_isSame 0 = .ok (.aload_n 0, 1) := by decide +kernel
theorem dX10_isSame_1 : decode cX10_isSame 1 = .ok (.getfield 248, 3) := by decide +kernel
theorem dX10_isSame_4 : decode cX10_isSame 4 = .ok (.aload_n 0, 1) := by decide +kernel
theorem dX10_isSame_5 : decode cX10_isSame 5 = .ok (.getfield 13, 3) := by decide +kernel
theorem dX10_isSame_8 : decode cX10_isSame 8 = .ok (.if_icmp .ne 18, 3) := by decide +kernel
theorem dX10_isSame_11 : decode cX10_isSame 11 = .ok (.aload_n 0, 1) := by decide +kernel
theorem dX10_isSame_12 : decode cX10_isSame 12 = .ok (.getfield 251, 3) := by decide +kernel
theorem dX10_isSame_15 : decode cX10_isSame 15 = .ok (.aload_n 0, 1) := by decide +kernel
theorem dX10_isSame_16 : decode cX10_isSame 16 = .ok (.getfield 17, 3) := by decide +kernel
theorem dX10_isSame_19 : decode cX10_isSame 19 = .ok (.if_icmp .ne 7, 3) := by decide +kernel
theorem dX10_isSame_22 : decode cX10_isSame 22 = .ok (.iconst 1, 1) := by decide +kernel
theorem dX10_isSame_23 : decode cX10_isSame 23 = .ok (.goto 4, 3) := by decide +kernel
theorem dX10_isSame_26 : decode cX10_isSame 26 = .ok (.iconst 0, 1) := by decide +kernel
theorem dX10_isSame_27 : decode cX10_isSame 27 = .ok (.istore_n 1, 1) := by decide +kernel
theorem dX10_isSame_28 : decode cX10_isSame 28 = .ok (.iconst 0, 1) := by decide +kernel
theorem dX10_isSame_29 : decode cX10_isSame 29 = .ok (.istore_n 2, 1) := by decide +kernel
theorem dX10_isSame_30 : decode cX10_isSame 30 = .ok (.iload_n 2, 1) := by decide +kernel
theorem dX10_isSame_31 : decode cX10_isSame 31 = .ok (.bipush 36, 2) := by decide +kernel
theorem dX10_isSame_33 : decode cX10_isSame 33 = .ok (.if_icmp .ge 33, 3) := by decide +kernel
theorem dX10_isSame_36 : decode cX10_isSame 36 = .ok (.iload_n 1, 1) := by decide +kernel
theorem dX10_isSame_37 : decode cX10_isSame 37 = .ok (.ifCond .eq 21, 3) := by decide +kernel
theorem dX10_isSame_40 : decode cX10_isSame 40 = .ok (.aload_n 0, 1) := by decide +kernel
theorem dX10_isSame_41 : decode cX10_isSame 41 = .ok (.getfield 76, 3) := by decide +kernel
theorem dX10_isSame_44 : decode cX10_isSame 44 = .ok (.iload_n 2, 1) := by decide +kernel
theorem dX10_isSame_45 : decode cX10_isSame 45 = .ok (.iaload, 1) := by decide +kernel
theorem dX10_isSame_46 : decode cX10_isSame 46 = .ok (.aload_n 0, 1) := by decide +kernel
theorem dX10_isSame_47 : decode cX10_isSame 47 = .ok (.iload_n 2, 1) := by decide +kernel
theorem dX10_isSame_48 : decode cX10_isSame 48 = .ok (.invokevirtual 167, 3) := by decide +kernel
theorem dX10_isSame_51 : decode cX10_isSame 51 = .ok (.if_icmp .ne 7, 3) := by decide +kernel
theorem dX10_isSame_54 : decode cX10_isSame 54 = .ok (.iconst 1, 1) := by decide +kernel
theorem dX10_isSame_55 : decode cX10_isSame 55 = .ok (.goto 4, 3) := by decide +kernel
theorem dX10_isSame_58 : decode cX10_isSame 58 = .ok (.iconst 0, 1) := by decide +kernel
theorem dX10_isSame_59 : decode cX10_isSame 59 = .ok (.istore_n 1, 1) := by decide +kernel
theorem dX10_isSame_60 : decode cX10_isSame 60 = .ok (.iinc 2 1, 3) := by decide +kernel
theorem dX10_isSame_63 : decode cX10_isSame 63 = .ok (.goto (-33), 3) := by decide +kernel
theorem dX10_isSame_66 : decode cX10_isSame 66 = .ok (.iload_n 1, 1) := by decide +kernel
theorem dX10_isSame_67 : decode cX10_isSame 67 = .ok (.ireturn, 1) := by decide +kernel
set_option maxRecDepth 20000 in
theorem ggX10_same_X10_in : GoodIn wsX10_same wsX10_in := goodIn_r _ [6] (by decide +kernel) (by decide +kernel)
set_option maxRecDepth 20000 in
theorem gX10_same_X10_in : GoodIn wsX10_same (va_wsS RX10 84 yX10_in wsX10_in) := goodIn_app (goodIn_of _ (by decide +kernel)) ggX10_same_X10_in
set_option maxRecDepth 20000 in
theorem ggX10_same_X10_layTurned : GoodIn wsX10_same wsX10_layTurned := goodIn_r _ [10, 11, 12, 13, 14, 15, 16, 17, 18, 19, 5, 20, 21, 22, 23, 24, 25, 26, 27, 28, 29, 30, 31, 32, 33, 3, 4, 6, 34, 35, 36, 37, 46, 47, 48, 49, 50, 51, 52, 53, 54, 55, 56, 57, 58, 59, 60, 61, 62, 63, 64, 65, 66, 67, 68, 69, 70, 71, 72, 73, 74, 75, 76, 77, 78, 79] (by decide +kernel) (by decide +kernel)
set_option maxRecDepth 20000 in
theorem gX10_same_X10_layTurned : GoodIn wsX10_same (wsV RX10 264 RX10 yX10_layTurned wsX10_layTurned) := goodIn_app (goodIn_of _ (by decide +kernel)) ggX10_same_X10_layTurned
set_option maxRecDepth 20000 in
theorem ggX10_same_X10_isSame : GoodIn wsX10_same wsX10_isSame := goodIn_r _ [41, 13, 11, 14, 12, 15, 42, 43, 44, 5, 45, 28, 29, 46, 47, 48, 49, 50, 51, 52, 53, 54, 55, 56, 57, 58, 59, 60, 61, 62, 63, 64, 65, 66, 67, 68, 69, 70, 71, 72, 73, 74, 75, 76, 77, 78, 79] (by decide +kernel) (by decide +kernel)
set_option maxRecDepth 20000 in
theorem gX10_same_X10_isSame : GoodIn wsX10_same (wsV RX10 267 RX10 yX10_isSame wsX10_isSame) := goodIn_app (goodIn_of _ (by decide +kernel)) ggX10_same_X10_isSame
theorem dX10_same_0 : decode cX10_same 0 = .ok (.aload_n 0, 1) := by decide +kernel
theorem dX10_same_1 : decode cX10_same 1 = .ok (.iconst 0, 1) := by decide +kernel
theorem dX10_same_2 : decode cX10_same 2 = .ok (.putfield 79, 3) := by decide +kernel
theorem dX10_same_5 : decode cX10_same 5 = .ok (.iload_n 1, 1) := by decide +kernel
theorem dX10_same_6 : decode cX10_same 6 = .ok (.i2l, 1) := by decide +kernel
theorem dX10_same_7 : decode cX10_same 7 = .ok (.lconst 0, 1) := by decide +kernel
theorem dX10_same_8 : decode cX10_same 8 = .ok (.ldc2_w 262, 3) := by decide +kernel
theorem dX10_same_11 : decode cX10_same 11 = .ok (.invokestatic 84, 3) := by decide +kernel
theorem dX10_same_14 : decode cX10_same 14 = .ok (.ifCond .ne 6, 3) := by decide +kernel
theorem dX10_same_17 : decode cX10_same 17 = .ok (.bipush (-2), 2) := by decide +kernel
theorem dX10_same_19 : decode cX10_same 19 = .ok (.ireturn, 1) := by decide +kernel
theorem dX10_same_20 : decode cX10_same 20 = .ok (.aload_n 0, 1) := by decide +kernel
theorem dX10_same_21 : decode cX10_same 21 = .ok (.iload_n 1, 1) := by decide +kernel
theorem dX10_same_22 : decode cX10_same 22 = .ok (.invokevirtual 264, 3) := by decide +kernel
theorem dX10_same_25 : decode cX10_same 25 = .ok (.aload_n 0, 1) := by decide +kernel
theorem dX10_same_26 : decode cX10_same 26 = .ok (.invokevirtual 267, 3) := by decide +kernel
theorem dX10_same_29 : decode cX10_same 29 = .ok (.ifCond .eq 7, 3) := by decide +kernel
theorem dX10_same_32 : decode cX10_same 32 = .ok (.iconst 1, 1) := by decide +kernel
theorem dX10_same_33 : decode cX10_same 33 = .ok (.goto 4, 3) := by decide +kernel
theorem dX10_same_36 : decode cX10_same 36 = .ok (.iconst 0, 1) := by decide +kernel
theorem dX10_same_37 : decode cX10_same 37 = .ok (.ireturn, 1) := by decide +kernel
set_option maxRecDepth 20000 in
theorem ggX10_turn_X10_in : GoodIn wsX10_turn wsX10_in := goodIn_r _ [15] (by decide +kernel) (by decide +kernel)
set_option maxRecDepth 20000 in
theorem gX10_turn_X10_in : GoodIn wsX10_turn (va_wsS RX10 84 yX10_in wsX10_in) := goodIn_app (goodIn_of _ (by decide +kernel)) ggX10_turn_X10_in
set_option maxRecDepth 20000 in
theorem ggX10_turn_X10_layTurned : GoodIn wsX10_turn wsX10_layTurned := goodIn_r _ [19, 6, 8, 5, 7, 10, 20, 21, 22, 23, 14, 24, 25, 26, 27, 28, 29, 30, 31, 9, 11, 32, 33, 34, 35, 12, 13, 15, 36, 37, 38, 39, 48, 49, 50, 51, 52, 53, 54, 55, 56, 57, 58, 59, 60, 61, 62, 63, 64, 65, 66, 67, 68, 69, 70, 71, 72, 73, 74, 75, 76, 77, 78, 79, 80, 81] (by decide +kernel) (by decide +kernel)
set_option maxRecDepth 20000 in
theorem gX10_turn_X10_layTurned : GoodIn wsX10_turn (wsV RX10 264 RX10 yX10_layTurned wsX10_layTurned) := goodIn_app (goodIn_of _ (by decide +kernel)) ggX10_turn_X10_layTurned
set_option maxRecDepth 20000 in
theorem ggX10_turn_X10_isSame : GoodIn wsX10_turn wsX10_isSame := goodIn_r _ [43, 5, 6, 7, 8, 10, 44, 45, 46, 14, 47, 9, 11, 48, 49, 50, 51, 52, 53, 54, 55, 56, 57, 58, 59, 60, 61, 62, 63, 64, 65, 66, 67, 68, 69, 70, 71, 72, 73, 74, 75, 76, 77, 78, 79, 80, 81] (by decide +kernel) (by decide +kernel)
set_option maxRecDepth 20000 in
theorem gX10_turn_X10_isSame : GoodIn wsX10_turn (wsV RX10 267 RX10 yX10_isSame wsX10_isSame) := goodIn_app (goodIn_of _ (by decide +kernel)) ggX10_turn_X10_isSame
set_option maxRecDepth 20000 in
theorem ggX10_turn_X10_turnedAt : GoodIn wsX10_turn wsX10_turnedAt := goodIn_r _ [39, 8, 6, 48, 49, 50, 51, 52, 53, 54, 55, 56, 57, 58, 59, 60, 61, 62, 63, 64, 65, 66, 67, 68, 69, 70, 71, 72, 73, 74, 75, 76, 77, 78, 79, 80, 81] (by decide +kernel) (by decide +kernel)
set_option maxRecDepth 20000 in
theorem gX10_turn_X10_turnedAt : GoodIn wsX10_turn (wsV RX10 259 RX10 yX10_turnedAt wsX10_turnedAt) := goodIn_app (goodIn_of _ (by decide +kernel)) ggX10_turn_X10_turnedAt
theorem dX10_turn_0 : decode cX10_turn 0 = .ok (.aload_n 0, 1) := by decide +kernel
theorem dX10_turn_1 : decode cX10_turn 1 = .ok (.iconst 0, 1) := by decide +kernel
theorem dX10_turn_2 : decode cX10_turn 2 = .ok (.putfield 79, 3) := by decide +kernel
theorem dX10_turn_5 : decode cX10_turn 5 = .ok (.iload_n 1, 1) := by decide +kernel
theorem dX10_turn_6 : decode cX10_turn 6 = .ok (.i2l, 1) := by decide +kernel
theorem dX10_turn_7 : decode cX10_turn 7 = .ok (.lconst 0, 1) := by decide +kernel
theorem dX10_turn_8 : decode cX10_turn 8 = .ok (.ldc2_w 262, 3) := by decide +kernel
theorem dX10_turn_11 : decode cX10_turn 11 = .ok (.invokestatic 84, 3) := by decide +kernel
theorem dX10_turn_14 : decode cX10_turn 14 = .ok (.ifCond .ne 6, 3) := by decide +kernel
theorem dX10_turn_17 : decode cX10_turn 17 = .ok (.bipush (-2), 2) := by decide +kernel
theorem dX10_turn_19 : decode cX10_turn 19 = .ok (.ireturn, 1) := by decide +kernel
theorem dX10_turn_20 : decode cX10_turn 20 = .ok (.aload_n 0, 1) := by decide +kernel
theorem dX10_turn_21 : decode cX10_turn 21 = .ok (.iload_n 1, 1) := by decide +kernel
theorem dX10_turn_22 : decode cX10_turn 22 = .ok (.invokevirtual 264, 3) := by decide +kernel
theorem dX10_turn_25 : decode cX10_turn 25 = .ok (.aload_n 0, 1) := by decide +kernel
theorem dX10_turn_26 : decode cX10_turn 26 = .ok (.invokevirtual 267, 3) := by decide +kernel
theorem dX10_turn_29 : decode cX10_turn 29 = .ok (.ifCond .eq 7, 3) := by decide +kernel
theorem dX10_turn_32 : decode cX10_turn 32 = .ok (.iconst 0, 1) := by decide +kernel
theorem dX10_turn_33 : decode cX10_turn 33 = .ok (.goto 4, 3) := by decide +kernel
theorem dX10_turn_36 : decode cX10_turn 36 = .ok (.iconst 1, 1) := by decide +kernel
theorem dX10_turn_37 : decode cX10_turn 37 = .ok (.istore_n 2, 1) := by decide +kernel
theorem dX10_turn_38 : decode cX10_turn 38 = .ok (.aload_n 0, 1) := by decide +kernel
theorem dX10_turn_39 : decode cX10_turn 39 = .ok (.aload_n 0, 1) := by decide +kernel
theorem dX10_turn_40 : decode cX10_turn 40 = .ok (.aload_n 0, 1) := by decide +kernel
theorem dX10_turn_41 : decode cX10_turn 41 = .ok (.getfield 103, 3) := by decide +kernel
theorem dX10_turn_44 : decode cX10_turn 44 = .ok (.iload_n 1, 1) := by decide +kernel
theorem dX10_turn_45 : decode cX10_turn 45 = .ok (.invokevirtual 259, 3) := by decide +kernel
theorem dX10_turn_48 : decode cX10_turn 48 = .ok (.putfield 103, 3) := by decide +kernel
theorem dX10_turn_51 : decode cX10_turn 51 = .ok (.aload_n 0, 1) := by decide +kernel
theorem dX10_turn_52 : decode cX10_turn 52 = .ok (.aload_n 0, 1) := by decide +kernel
theorem dX10_turn_53 : decode cX10_turn 53 = .ok (.aload_n 0, 1) := by decide +kernel
theorem dX10_turn_54 : decode cX10_turn 54 = .ok (.getfield 106, 3) := by decide +kernel
theorem dX10_turn_57 : decode cX10_turn 57 = .ok (.iload_n 1, 1) := by decide +kernel
theorem dX10_turn_58 : decode cX10_turn 58 = .ok (.invokevirtual 259, 3) := by decide +kernel
theorem dX10_turn_61 : decode cX10_turn 61 = .ok (.putfield 106, 3) := by decide +kernel
theorem dX10_turn_64 : decode cX10_turn 64 = .ok (.aload_n 0, 1) := by decide +kernel
theorem dX10_turn_65 : decode cX10_turn 65 = .ok (.aload_n 0, 1) := by decide +kernel
theorem dX10_turn_66 : decode cX10_turn 66 = .ok (.getfield 248, 3) := by decide +kernel
theorem dX10_turn_69 : decode cX10_turn 69 = .ok (.putfield 13, 3) := by decide +kernel
theorem dX10_turn_72 : decode cX10_turn 72 = .ok (.aload_n 0, 1) := by decide +kernel
theorem dX10_turn_73 : decode cX10_turn 73 = .ok (.aload_n 0, 1) := by decide +kernel
theorem dX10_turn_74 : decode cX10_turn 74 = .ok (.getfield 251, 3) := by decide +kernel
theorem dX10_turn_77 : decode cX10_turn 77 = .ok (.putfield 17, 3) := by decide +kernel
theorem dX10_turn_80 : decode cX10_turn 80 = .ok (.iconst 0, 1) := by decide +kernel
theorem dX10_turn_81 : decode cX10_turn 81 = .ok (.istore_n 3, 1) := by decide +kernel
theorem dX10_turn_82 : decode cX10_turn 82 = .ok (.iload_n 3, 1) := by decide +kernel
theorem dX10_turn_83 : decode cX10_turn 83 = .ok (.bipush 36, 2) := by decide +kernel
theorem dX10_turn_85 : decode cX10_turn 85 = .ok (.if_icmp .ge 53, 3) := by decide +kernel
theorem dX10_turn_88 : decode cX10_turn 88 = .ok (.aload_n 0, 1) := by decide +kernel
theorem dX10_turn_89 : decode cX10_turn 89 = .ok (.getfield 20, 3) := by decide +kernel
theorem dX10_turn_92 : decode cX10_turn 92 = .ok (.iload_n 3, 1) := by decide +kernel
theorem dX10_turn_93 : decode cX10_turn 93 = .ok (.aload_n 0, 1) := by decide +kernel
theorem dX10_turn_94 : decode cX10_turn 94 = .ok (.getfield 76, 3) := by decide +kernel
theorem dX10_turn_97 : decode cX10_turn 97 = .ok (.iload_n 3, 1) := by decide +kernel
theorem dX10_turn_98 : decode cX10_turn 98 = .ok (.iaload, 1) := by decide +kernel
theorem dX10_turn_99 : decode cX10_turn 99 = .ok (.iconst 2, 1) := by decide +kernel
theorem dX10_turn_100 : decode cX10_turn 100 = .ok (.irem, 1) := by decide +kernel
theorem dX10_turn_101 : decode cX10_turn 101 = .ok (.iconst 1, 1) := by decide +kernel
theorem dX10_turn_102 : decode cX10_turn 102 = .ok (.if_icmp .ne 7, 3) := by decide +kernel
theorem dX10_turn_105 : decode cX10_turn 105 = .ok (.iconst 1, 1) := by decide +kernel
theorem dX10_turn_106 : decode cX10_turn 106 = .ok (.goto 4, 3) := by decide +kernel
theorem dX10_turn_109 : decode cX10_turn 109 = .ok (.iconst 0, 1) := by decide +kernel
theorem dX10_turn_110 : decode cX10_turn 110 = .ok (.bastore, 1) := by decide +kernel
theorem dX10_turn_111 : decode cX10_turn 111 = .ok (.aload_n 0, 1) := by decide +kernel
theorem dX10_turn_112 : decode cX10_turn 112 = .ok (.getfield 24, 3) := by decide +kernel
theorem dX10_turn_115 : decode cX10_turn 115 = .ok (.iload_n 3, 1) := by decide +kernel
theorem dX10_turn_116 : decode cX10_turn 116 = .ok (.aload_n 0, 1) := by decide +kernel
theorem dX10_turn_117 : decode cX10_turn 117 = .ok (.getfield 76, 3) := by decide +kernel
theorem dX10_turn_120 : decode cX10_turn 120 = .ok (.iload_n 3, 1) := by decide +kernel
theorem dX10_turn_121 : decode cX10_turn 121 = .ok (.iaload, 1) := by decide +kernel
theorem dX10_turn_122 : decode cX10_turn 122 = .ok (.iconst 1, 1) := by decide +kernel
theorem dX10_turn_123 : decode cX10_turn 123 = .ok (.if_icmp .le 7, 3) := by decide +kernel
theorem dX10_turn_126 : decode cX10_turn 126 = .ok (.iconst 1, 1) := by decide +kernel
theorem dX10_turn_127 : decode cX10_turn 127 = .ok (.goto 4, 3) := by decide +kernel
theorem dX10_turn_130 : decode cX10_turn 130 = .ok (.iconst 0, 1) := by decide +kernel
theorem dX10_turn_131 : decode cX10_turn 131 = .ok (.bastore, 1) := by decide +kernel
theorem dX10_turn_132 : decode cX10_turn 132 = .ok (.iinc 3 1, 3) := by decide +kernel
theorem dX10_turn_135 : decode cX10_turn 135 = .ok (.goto (-53), 3) := by decide +kernel
theorem dX10_turn_138 : decode cX10_turn 138 = .ok (.iload_n 2, 1) := by decide +kernel
theorem dX10_turn_139 : decode cX10_turn 139 = .ok (.ireturn, 1) := by decide +kernel
set_option maxRecDepth 20000 in
theorem ggX10_keep_X10_in : GoodIn wsX10_keep wsX10_in := goodIn_r _ [12] (by decide +kernel) (by decide +kernel)
set_option maxRecDepth 20000 in
theorem gX10_keep_X10_in : GoodIn wsX10_keep (va_wsS RX10 84 yX10_in wsX10_in) := goodIn_app (goodIn_of _ (by decide +kernel)) ggX10_keep_X10_in
set_option maxRecDepth 20000 in
theorem ggX10_keep_X10_figureOf : GoodIn wsX10_keep wsX10_figureOf := goodIn_r _ [16, 17, 18, 19, 20, 21, 22, 23, 24, 25, 26, 27, 28, 29, 30, 31, 32, 33, 34, 35, 36, 37, 38, 39, 40, 41, 42, 43, 44, 45, 46, 47, 48, 49, 50, 51, 52] (by decide +kernel) (by decide +kernel)
set_option maxRecDepth 20000 in
theorem gX10_keep_X10_figureOf : GoodIn wsX10_keep (wsV RX10 167 RX10 yX10_figureOf wsX10_figureOf) := goodIn_app (goodIn_of _ (by decide +kernel)) ggX10_keep_X10_figureOf
theorem dX10_keep_0 : decode cX10_keep 0 = .ok (.aload_n 0, 1) := by decide +kernel
theorem dX10_keep_1 : decode cX10_keep 1 = .ok (.iconst 0, 1) := by decide +kernel
theorem dX10_keep_2 : decode cX10_keep 2 = .ok (.putfield 79, 3) := by decide +kernel
theorem dX10_keep_5 : decode cX10_keep 5 = .ok (.iload_n 1, 1) := by decide +kernel
theorem dX10_keep_6 : decode cX10_keep 6 = .ok (.i2l, 1) := by decide +kernel
theorem dX10_keep_7 : decode cX10_keep 7 = .ok (.lconst 0, 1) := by decide +kernel
theorem dX10_keep_8 : decode cX10_keep 8 = .ok (.lconst 1, 1) := by decide +kernel
theorem dX10_keep_9 : decode cX10_keep 9 = .ok (.invokestatic 84, 3) := by decide +kernel
theorem dX10_keep_12 : decode cX10_keep 12 = .ok (.ifCond .ne 5, 3) := by decide +kernel
theorem dX10_keep_15 : decode cX10_keep 15 = .ok (.iconst (-1), 1) := by decide +kernel
theorem dX10_keep_16 : decode cX10_keep 16 = .ok (.ireturn, 1) := by decide +kernel
theorem dX10_keep_17 : decode cX10_keep 17 = .ok (.aload_n 0, 1) := by decide +kernel
theorem dX10_keep_18 : decode cX10_keep 18 = .ok (.getfield 36, 3) := by decide +kernel
theorem dX10_keep_21 : decode cX10_keep 21 = .ok (.iload_n 1, 1) := by decide +kernel
theorem dX10_keep_22 : decode cX10_keep 22 = .ok (.iconst 1, 1) := by decide +kernel
theorem dX10_keep_23 : decode cX10_keep 23 = .ok (.bastore, 1) := by decide +kernel
theorem dX10_keep_24 : decode cX10_keep 24 = .ok (.iconst 0, 1) := by decide +kernel
theorem dX10_keep_25 : decode cX10_keep 25 = .ok (.istore_n 2, 1) := by decide +kernel
theorem dX10_keep_26 : decode cX10_keep 26 = .ok (.iload_n 2, 1) := by decide +kernel
theorem dX10_keep_27 : decode cX10_keep 27 = .ok (.bipush 36, 2) := by decide +kernel
theorem dX10_keep_29 : decode cX10_keep 29 = .ok (.if_icmp .ge 25, 3) := by decide +kernel
theorem dX10_keep_32 : decode cX10_keep 32 = .ok (.aload_n 0, 1) := by decide +kernel
theorem dX10_keep_33 : decode cX10_keep 33 = .ok (.getfield 30, 3) := by decide +kernel
theorem dX10_keep_36 : decode cX10_keep 36 = .ok (.bipush 36, 2) := by decide +kernel
theorem dX10_keep_38 : decode cX10_keep 38 = .ok (.iload_n 1, 1) := by decide +kernel
theorem dX10_keep_39 : decode cX10_keep 39 = .ok (.imul, 1) := by decide +kernel
theorem dX10_keep_40 : decode cX10_keep 40 = .ok (.iload_n 2, 1) := by decide +kernel
theorem dX10_keep_41 : decode cX10_keep 41 = .ok (.iadd, 1) := by decide +kernel
theorem dX10_keep_42 : decode cX10_keep 42 = .ok (.aload_n 0, 1) := by decide +kernel
theorem dX10_keep_43 : decode cX10_keep 43 = .ok (.iload_n 2, 1) := by decide +kernel
theorem dX10_keep_44 : decode cX10_keep 44 = .ok (.invokevirtual 167, 3) := by decide +kernel
theorem dX10_keep_47 : decode cX10_keep 47 = .ok (.iastore, 1) := by decide +kernel
theorem dX10_keep_48 : decode cX10_keep 48 = .ok (.iinc 2 1, 3) := by decide +kernel
theorem dX10_keep_51 : decode cX10_keep 51 = .ok (.goto (-25), 3) := by decide +kernel
theorem dX10_keep_54 : decode cX10_keep 54 = .ok (.aload_n 0, 1) := by decide +kernel
theorem dX10_keep_55 : decode cX10_keep 55 = .ok (.getfield 33, 3) := by decide +kernel
theorem dX10_keep_58 : decode cX10_keep 58 = .ok (.iconst 4, 1) := by decide +kernel
theorem dX10_keep_59 : decode cX10_keep 59 = .ok (.iload_n 1, 1) := by decide +kernel
theorem dX10_keep_60 : decode cX10_keep 60 = .ok (.imul, 1) := by decide +kernel
theorem dX10_keep_61 : decode cX10_keep 61 = .ok (.aload_n 0, 1) := by decide +kernel
theorem dX10_keep_62 : decode cX10_keep 62 = .ok (.getfield 13, 3) := by decide +kernel
theorem dX10_keep_65 : decode cX10_keep 65 = .ok (.iastore, 1) := by decide +kernel
theorem dX10_keep_66 : decode cX10_keep 66 = .ok (.aload_n 0, 1) := by decide +kernel
theorem dX10_keep_67 : decode cX10_keep 67 = .ok (.getfield 33, 3) := by decide +kernel
theorem dX10_keep_70 : decode cX10_keep 70 = .ok (.iconst 4, 1) := by decide +kernel
theorem dX10_keep_71 : decode cX10_keep 71 = .ok (.iload_n 1, 1) := by decide +kernel
theorem dX10_keep_72 : decode cX10_keep 72 = .ok (.imul, 1) := by decide +kernel
theorem dX10_keep_73 : decode cX10_keep 73 = .ok (.iconst 1, 1) := by decide +kernel
theorem dX10_keep_74 : decode cX10_keep 74 = .ok (.iadd, 1) := by decide +kernel
theorem dX10_keep_75 : decode cX10_keep 75 = .ok (.aload_n 0, 1) := by decide +kernel
theorem dX10_keep_76 : decode cX10_keep 76 = .ok (.getfield 17, 3) := by decide +kernel
theorem dX10_keep_79 : decode cX10_keep 79 = .ok (.iastore, 1) := by decide +kernel
theorem dX10_keep_80 : decode cX10_keep 80 = .ok (.aload_n 0, 1) := by decide +kernel
theorem dX10_keep_81 : decode cX10_keep 81 = .ok (.getfield 33, 3) := by decide +kernel
theorem dX10_keep_84 : decode cX10_keep 84 = .ok (.iconst 4, 1) := by decide +kernel
theorem dX10_keep_85 : decode cX10_keep 85 = .ok (.iload_n 1, 1) := by decide +kernel
theorem dX10_keep_86 : decode cX10_keep 86 = .ok (.imul, 1) := by decide +kernel
theorem dX10_keep_87 : decode cX10_keep 87 = .ok (.iconst 2, 1) := by decide +kernel
theorem dX10_keep_88 : decode cX10_keep 88 = .ok (.iadd, 1) := by decide +kernel
theorem dX10_keep_89 : decode cX10_keep 89 = .ok (.aload_n 0, 1) := by decide +kernel
theorem dX10_keep_90 : decode cX10_keep 90 = .ok (.getfield 103, 3) := by decide +kernel
theorem dX10_keep_93 : decode cX10_keep 93 = .ok (.iastore, 1) := by decide +kernel
theorem dX10_keep_94 : decode cX10_keep 94 = .ok (.aload_n 0, 1) := by decide +kernel
theorem dX10_keep_95 : decode cX10_keep 95 = .ok (.getfield 33, 3) := by decide +kernel
theorem dX10_keep_98 : decode cX10_keep 98 = .ok (.iconst 4, 1) := by decide +kernel
theorem dX10_keep_99 : decode cX10_keep 99 = .ok (.iload_n 1, 1) := by decide +kernel
theorem dX10_keep_100 : decode cX10_keep 100 = .ok (.imul, 1) := by decide +kernel
theorem dX10_keep_101 : decode cX10_keep 101 = .ok (.iconst 3, 1) := by decide +kernel
theorem dX10_keep_102 : decode cX10_keep 102 = .ok (.iadd, 1) := by decide +kernel
theorem dX10_keep_103 : decode cX10_keep 103 = .ok (.aload_n 0, 1) := by decide +kernel
theorem dX10_keep_104 : decode cX10_keep 104 = .ok (.getfield 106, 3) := by decide +kernel
theorem dX10_keep_107 : decode cX10_keep 107 = .ok (.iastore, 1) := by decide +kernel
theorem dX10_keep_108 : decode cX10_keep 108 = .ok (.aload_n 0, 1) := by decide +kernel
theorem dX10_keep_109 : decode cX10_keep 109 = .ok (.getfield 13, 3) := by decide +kernel
theorem dX10_keep_112 : decode cX10_keep 112 = .ok (.aload_n 0, 1) := by decide +kernel
theorem dX10_keep_113 : decode cX10_keep 113 = .ok (.getfield 17, 3) := by decide +kernel
theorem dX10_keep_116 : decode cX10_keep 116 = .ok (.imul, 1) := by decide +kernel
theorem dX10_keep_117 : decode cX10_keep 117 = .ok (.ireturn, 1) := by decide +kernel
set_option maxRecDepth 20000 in
theorem ggX10_again_X10_in : GoodIn wsX10_again wsX10_in := goodIn_r _ [14] (by decide +kernel) (by decide +kernel)
set_option maxRecDepth 20000 in
theorem gX10_again_X10_in : GoodIn wsX10_again (va_wsS RX10 84 yX10_in wsX10_in) := goodIn_app (goodIn_of _ (by decide +kernel)) ggX10_again_X10_in
theorem dX10_again_0 : decode cX10_again 0 = .ok (.aload_n 0, 1) := by decide +kernel
theorem dX10_again_1 : decode cX10_again 1 = .ok (.iconst 0, 1) := by decide +kernel
theorem dX10_again_2 : decode cX10_again 2 = .ok (.putfield 79, 3) := by decide +kernel
theorem dX10_again_5 : decode cX10_again 5 = .ok (.iload_n 1, 1) := by decide +kernel
theorem dX10_again_6 : decode cX10_again 6 = .ok (.i2l, 1) := by decide +kernel
theorem dX10_again_7 : decode cX10_again 7 = .ok (.lconst 0, 1) := by decide +kernel
theorem dX10_again_8 : decode cX10_again 8 = .ok (.lconst 1, 1) := by decide +kernel
theorem dX10_again_9 : decode cX10_again 9 = .ok (.invokestatic 84, 3) := by decide +kernel
theorem dX10_again_12 : decode cX10_again 12 = .ok (.ifCond .ne 5, 3) := by decide +kernel
theorem dX10_again_15 : decode cX10_again 15 = .ok (.iconst (-1), 1) := by decide +kernel
theorem dX10_again_16 : decode cX10_again 16 = .ok (.ireturn, 1) := by decide +kernel
theorem dX10_again_17 : decode cX10_again 17 = .ok (.aload_n 0, 1) := by decide +kernel
theorem dX10_again_18 : decode cX10_again 18 = .ok (.getfield 36, 3) := by decide +kernel
theorem dX10_again_21 : decode cX10_again 21 = .ok (.iload_n 1, 1) := by decide +kernel
theorem dX10_again_22 : decode cX10_again 22 = .ok (.baload, 1) := by decide +kernel
theorem dX10_again_23 : decode cX10_again 23 = .ok (.ifCond .ne 6, 3) := by decide +kernel
theorem dX10_again_26 : decode cX10_again 26 = .ok (.bipush (-3), 2) := by decide +kernel
theorem dX10_again_28 : decode cX10_again 28 = .ok (.ireturn, 1) := by decide +kernel
theorem dX10_again_29 : decode cX10_again 29 = .ok (.aload_n 0, 1) := by decide +kernel
theorem dX10_again_30 : decode cX10_again 30 = .ok (.aload_n 0, 1) := by decide +kernel
theorem dX10_again_31 : decode cX10_again 31 = .ok (.getfield 33, 3) := by decide +kernel
theorem dX10_again_34 : decode cX10_again 34 = .ok (.iconst 4, 1) := by decide +kernel
theorem dX10_again_35 : decode cX10_again 35 = .ok (.iload_n 1, 1) := by decide +kernel
theorem dX10_again_36 : decode cX10_again 36 = .ok (.imul, 1) := by decide +kernel
theorem dX10_again_37 : decode cX10_again 37 = .ok (.iaload, 1) := by decide +kernel
theorem dX10_again_38 : decode cX10_again 38 = .ok (.putfield 13, 3) := by decide +kernel
theorem dX10_again_41 : decode cX10_again 41 = .ok (.aload_n 0, 1) := by decide +kernel
theorem dX10_again_42 : decode cX10_again 42 = .ok (.aload_n 0, 1) := by decide +kernel
theorem dX10_again_43 : decode cX10_again 43 = .ok (.getfield 33, 3) := by decide +kernel
theorem dX10_again_46 : decode cX10_again 46 = .ok (.iconst 4, 1) := by decide +kernel
theorem dX10_again_47 : decode cX10_again 47 = .ok (.iload_n 1, 1) := by decide +kernel
theorem dX10_again_48 : decode cX10_again 48 = .ok (.imul, 1) := by decide +kernel
theorem dX10_again_49 : decode cX10_again 49 = .ok (.iconst 1, 1) := by decide +kernel
theorem dX10_again_50 : decode cX10_again 50 = .ok (.iadd, 1) := by decide +kernel
theorem dX10_again_51 : decode cX10_again 51 = .ok (.iaload, 1) := by decide +kernel
theorem dX10_again_52 : decode cX10_again 52 = .ok (.putfield 17, 3) := by decide +kernel
theorem dX10_again_55 : decode cX10_again 55 = .ok (.aload_n 0, 1) := by decide +kernel
theorem dX10_again_56 : decode cX10_again 56 = .ok (.aload_n 0, 1) := by decide +kernel
theorem dX10_again_57 : decode cX10_again 57 = .ok (.getfield 33, 3) := by decide +kernel
theorem dX10_again_60 : decode cX10_again 60 = .ok (.iconst 4, 1) := by decide +kernel
theorem dX10_again_61 : decode cX10_again 61 = .ok (.iload_n 1, 1) := by decide +kernel
theorem dX10_again_62 : decode cX10_again 62 = .ok (.imul, 1) := by decide +kernel
theorem dX10_again_63 : decode cX10_again 63 = .ok (.iconst 2, 1) := by decide +kernel
theorem dX10_again_64 : decode cX10_again 64 = .ok (.iadd, 1) := by decide +kernel
theorem dX10_again_65 : decode cX10_again 65 = .ok (.iaload, 1) := by decide +kernel
theorem dX10_again_66 : decode cX10_again 66 = .ok (.putfield 103, 3) := by decide +kernel
theorem dX10_again_69 : decode cX10_again 69 = .ok (.aload_n 0, 1) := by decide +kernel
theorem dX10_again_70 : decode cX10_again 70 = .ok (.aload_n 0, 1) := by decide +kernel
theorem dX10_again_71 : decode cX10_again 71 = .ok (.getfield 33, 3) := by decide +kernel
theorem dX10_again_74 : decode cX10_again 74 = .ok (.iconst 4, 1) := by decide +kernel
theorem dX10_again_75 : decode cX10_again 75 = .ok (.iload_n 1, 1) := by decide +kernel
theorem dX10_again_76 : decode cX10_again 76 = .ok (.imul, 1) := by decide +kernel
theorem dX10_again_77 : decode cX10_again 77 = .ok (.iconst 3, 1) := by decide +kernel
theorem dX10_again_78 : decode cX10_again 78 = .ok (.iadd, 1) := by decide +kernel
theorem dX10_again_79 : decode cX10_again 79 = .ok (.iaload, 1) := by decide +kernel
theorem dX10_again_80 : decode cX10_again 80 = .ok (.putfield 106, 3) := by decide +kernel
theorem dX10_again_83 : decode cX10_again 83 = .ok (.iconst 0, 1) := by decide +kernel
theorem dX10_again_84 : decode cX10_again 84 = .ok (.istore_n 2, 1) := by decide +kernel
theorem dX10_again_85 : decode cX10_again 85 = .ok (.iload_n 2, 1) := by decide +kernel
theorem dX10_again_86 : decode cX10_again 86 = .ok (.bipush 36, 2) := by decide +kernel
theorem dX10_again_88 : decode cX10_again 88 = .ok (.if_icmp .ge 63, 3) := by decide +kernel
theorem dX10_again_91 : decode cX10_again 91 = .ok (.aload_n 0, 1) := by decide +kernel
theorem dX10_again_92 : decode cX10_again 92 = .ok (.getfield 20, 3) := by decide +kernel
theorem dX10_again_95 : decode cX10_again 95 = .ok (.iload_n 2, 1) := by decide +kernel
theorem dX10_again_96 : decode cX10_again 96 = .ok (.aload_n 0, 1) := by decide +kernel
theorem dX10_again_97 : decode cX10_again 97 = .ok (.getfield 30, 3) := by decide +kernel
theorem dX10_again_100 : decode cX10_again 100 = .ok (.bipush 36, 2) := by decide +kernel
theorem dX10_again_102 : decode cX10_again 102 = .ok (.iload_n 1, 1) := by decide +kernel
theorem dX10_again_103 : decode cX10_again 103 = .ok (.imul, 1) := by decide +kernel
theorem dX10_again_104 : decode cX10_again 104 = .ok (.iload_n 2, 1) := by decide +kernel
theorem dX10_again_105 : decode cX10_again 105 = .ok (.iadd, 1) := by decide +kernel
theorem dX10_again_106 : decode cX10_again 106 = .ok (.iaload, 1) := by decide +kernel
theorem dX10_again_107 : decode cX10_again 107 = .ok (.iconst 2, 1) := by decide +kernel
theorem dX10_again_108 : decode cX10_again 108 = .ok (.irem, 1) := by decide +kernel
theorem dX10_again_109 : decode cX10_again 109 = .ok (.iconst 1, 1) := by decide +kernel
theorem dX10_again_110 : decode cX10_again 110 = .ok (.if_icmp .ne 7, 3) := by decide +kernel
theorem dX10_again_113 : decode cX10_again 113 = .ok (.iconst 1, 1) := by decide +kernel
theorem dX10_again_114 : decode cX10_again 114 = .ok (.goto 4, 3) := by decide +kernel
theorem dX10_again_117 : decode cX10_again 117 = .ok (.iconst 0, 1) := by decide +kernel
theorem dX10_again_118 : decode cX10_again 118 = .ok (.bastore, 1) := by decide +kernel
theorem dX10_again_119 : decode cX10_again 119 = .ok (.aload_n 0, 1) := by decide +kernel
theorem dX10_again_120 : decode cX10_again 120 = .ok (.getfield 24, 3) := by decide +kernel
theorem dX10_again_123 : decode cX10_again 123 = .ok (.iload_n 2, 1) := by decide +kernel
theorem dX10_again_124 : decode cX10_again 124 = .ok (.aload_n 0, 1) := by decide +kernel
theorem dX10_again_125 : decode cX10_again 125 = .ok (.getfield 30, 3) := by decide +kernel
theorem dX10_again_128 : decode cX10_again 128 = .ok (.bipush 36, 2) := by decide +kernel
theorem dX10_again_130 : decode cX10_again 130 = .ok (.iload_n 1, 1) := by decide +kernel
theorem dX10_again_131 : decode cX10_again 131 = .ok (.imul, 1) := by decide +kernel
theorem dX10_again_132 : decode cX10_again 132 = .ok (.iload_n 2, 1) := by decide +kernel
theorem dX10_again_133 : decode cX10_again 133 = .ok (.iadd, 1) := by decide +kernel
theorem dX10_again_134 : decode cX10_again 134 = .ok (.iaload, 1) := by decide +kernel
theorem dX10_again_135 : decode cX10_again 135 = .ok (.iconst 1, 1) := by decide +kernel
theorem dX10_again_136 : decode cX10_again 136 = .ok (.if_icmp .le 7, 3) := by decide +kernel
theorem dX10_again_139 : decode cX10_again 139 = .ok (.iconst 1, 1) := by decide +kernel
theorem dX10_again_140 : decode cX10_again 140 = .ok (.goto 4, 3) := by decide +kernel
theorem dX10_again_143 : decode cX10_again 143 = .ok (.iconst 0, 1) := by decide +kernel
theorem dX10_again_144 : decode cX10_again 144 = .ok (.bastore, 1) := by decide +kernel
theorem dX10_again_145 : decode cX10_again 145 = .ok (.iinc 2 1, 3) := by decide +kernel
theorem dX10_again_148 : decode cX10_again 148 = .ok (.goto (-63), 3) := by decide +kernel
theorem dX10_again_151 : decode cX10_again 151 = .ok (.aload_n 0, 1) := by decide +kernel
theorem dX10_again_152 : decode cX10_again 152 = .ok (.getfield 13, 3) := by decide +kernel
theorem dX10_again_155 : decode cX10_again 155 = .ok (.aload_n 0, 1) := by decide +kernel
theorem dX10_again_156 : decode cX10_again 156 = .ok (.getfield 17, 3) := by decide +kernel
theorem dX10_again_159 : decode cX10_again 159 = .ok (.imul, 1) := by decide +kernel
theorem dX10_again_160 : decode cX10_again 160 = .ok (.ireturn, 1) := by decide +kernel
