set_option maxRecDepth 20000 in
theorem ggX10_makeList_X10_isThere : GoodIn wsX10_makeList wsX10_isThere := goodIn_r _ [7, 8, 9, 45, 46, 47, 48, 49, 50, 51, 52, 53, 54, 55, 56, 57, 58, 59, 60, 61, 62, 63, 64, 65, 66, 67, 68, 69, 70, 71, 72, 73, 74, 75, 76, 77, 78] (by decide +kernel) (by decide +kernel)
set_option maxRecDepth 20000 in
theorem gX10_makeList_X10_isThere : GoodIn wsX10_makeList (wsV RX10 125 RX10 yX10_isThere wsX10_isThere) := goodIn_app (goodIn_of _ (by decide +kernel)) ggX10_makeList_X10_isThere
set_option maxRecDepth 20000 in
theorem ggX10_makeList_X10_beside : GoodIn wsX10_makeList wsX10_beside := goodIn_r _ [13, 8, 9, 14, 15, 6, 16, 45, 46, 47, 48, 49, 50, 51, 52, 53, 54, 55, 56, 57, 58, 59, 60, 61, 62, 63, 64, 65, 66, 67, 68, 69, 70, 71, 72, 73, 74, 75, 76, 77, 78] (by decide +kernel) (by decide +kernel)
set_option maxRecDepth 20000 in
theorem gX10_makeList_X10_beside : GoodIn wsX10_makeList (wsV RX10 113 RX10 yX10_beside wsX10_beside) := goodIn_app (goodIn_of _ (by decide +kernel)) ggX10_makeList_X10_beside
set_option maxRecDepth 20000 in
theorem ggX10_makeList_X10_next : GoodIn wsX10_makeList wsX10_next := goodIn_r _ [20, 21, 22, 23, 45, 46, 47, 48, 49, 50, 51, 52, 53, 54, 55, 56, 57, 58, 59, 60, 61, 62, 63, 64, 65, 66, 67, 68, 69, 70, 71, 72, 73, 74, 75, 76, 77, 78] (by decide +kernel) (by decide +kernel)
set_option maxRecDepth 20000 in
theorem gX10_makeList_X10_next : GoodIn wsX10_makeList (wsV RX10 129 RX10 yX10_next wsX10_next) := goodIn_app (goodIn_of _ (by decide +kernel)) ggX10_makeList_X10_next
set_option maxRecDepth 20000 in
theorem ggX10_makeList_X10_layParts : GoodIn wsX10_makeList wsX10_layParts := goodIn_r _ [27, 2, 28, 3, 4, 5, 6, 7, 8, 9, 29, 30, 31, 32, 33, 34, 35, 36, 37, 38, 39, 40, 10, 11, 12, 13, 14, 15, 16, 45, 46, 47, 48, 49, 50, 51, 52, 53, 54, 55, 56, 57, 58, 59, 60, 61, 62, 63, 64, 65, 66, 67, 68, 69, 70, 71, 72, 73, 74, 75, 76, 77, 78] (by decide +kernel) (by decide +kernel)
set_option maxRecDepth 20000 in
theorem gX10_makeList_X10_layParts : GoodIn wsX10_makeList (wsV RX10 133 RX10 yX10_layParts wsX10_layParts) := goodIn_app (goodIn_of _ (by decide +kernel)) ggX10_makeList_X10_layParts
set_option maxRecDepth 20000 in
theorem ggX10_makeList_X10_set : GoodIn wsX10_makeList wsX10_set := goodIn_r _ [44, 39, 40, 10, 11, 12, 6, 13, 8, 9, 14, 15, 16, 45, 46, 47, 48, 49, 50, 51, 52, 53, 54, 55, 56, 57, 58, 59, 60, 61, 62, 63, 64, 65, 66, 67, 68, 69, 70, 71, 72, 73, 74, 75, 76, 77, 78] (by decide +kernel) (by decide +kernel)
set_option maxRecDepth 20000 in
theorem gX10_makeList_X10_set : GoodIn wsX10_makeList (wsV RX10 136 RX10 yX10_set wsX10_set) := goodIn_app (goodIn_of _ (by decide +kernel)) ggX10_makeList_X10_set
theorem dX10_makeList_0 : decode cX10_makeList 0 = .ok (.iconst 0, 1) := by decide +kernel
theorem dX10_makeList_1 : decode cX10_makeList 1 = .ok (.istore_n 1, 1) := by decide +kernel
theorem dX10_makeList_2 : decode cX10_makeList 2 = .ok (.iconst 0, 1) := by decide +kernel
theorem dX10_makeList_3 : decode cX10_makeList 3 = .ok (.istore_n 2, 1) := by decide +kernel
theorem dX10_makeList_4 : decode cX10_makeList 4 = .ok (.iload_n 2, 1) := by decide +kernel
theorem dX10_makeList_5 : decode cX10_makeList 5 = .ok (.bipush 36, 2) := by decide +kernel
theorem dX10_makeList_7 : decode cX10_makeList 7 = .ok (.if_icmp .ge 55, 3) := by decide +kernel
theorem dX10_makeList_10 : decode cX10_makeList 10 = .ok (.iconst 1, 1) := by decide +kernel
theorem dX10_makeList_11 : decode cX10_makeList 11 = .ok (.istore_n 3, 1) := by decide +kernel
theorem dX10_makeList_12 : decode cX10_makeList 12 = .ok (.iload_n 3, 1) := by decide +kernel
theorem dX10_makeList_13 : decode cX10_makeList 13 = .ok (.iconst 3, 1) := by decide +kernel
theorem dX10_makeList_14 : decode cX10_makeList 14 = .ok (.if_icmp .ge 42, 3) := by decide +kernel
theorem dX10_makeList_17 : decode cX10_makeList 17 = .ok (.aload_n 0, 1) := by decide +kernel
theorem dX10_makeList_18 : decode cX10_makeList 18 = .ok (.iload_n 2, 1) := by decide +kernel
theorem dX10_makeList_19 : decode cX10_makeList 19 = .ok (.invokevirtual 125, 3) := by decide +kernel
theorem dX10_makeList_22 : decode cX10_makeList 22 = .ok (.ifCond .eq 28, 3) := by decide +kernel
theorem dX10_makeList_25 : decode cX10_makeList 25 = .ok (.aload_n 0, 1) := by decide +kernel
theorem dX10_makeList_26 : decode cX10_makeList 26 = .ok (.iload_n 2, 1) := by decide +kernel
theorem dX10_makeList_27 : decode cX10_makeList 27 = .ok (.iload_n 3, 1) := by decide +kernel
theorem dX10_makeList_28 : decode cX10_makeList 28 = .ok (.invokevirtual 113, 3) := by decide +kernel
theorem dX10_makeList_31 : decode cX10_makeList 31 = .ok (.bipush (-9), 2) := by decide +kernel
theorem dX10_makeList_33 : decode cX10_makeList 33 = .ok (.if_icmp .eq 17, 3) := by decide +kernel
theorem dX10_makeList_36 : decode cX10_makeList 36 = .ok (.aload_n 0, 1) := by decide +kernel
theorem dX10_makeList_37 : decode cX10_makeList 37 = .ok (.getfield 73, 3) := by decide +kernel
theorem dX10_makeList_40 : decode cX10_makeList 40 = .ok (.iload_n 1, 1) := by decide +kernel
theorem dX10_makeList_41 : decode cX10_makeList 41 = .ok (.iconst 4, 1) := by decide +kernel
theorem dX10_makeList_42 : decode cX10_makeList 42 = .ok (.iload_n 2, 1) := by decide +kernel
theorem dX10_makeList_43 : decode cX10_makeList 43 = .ok (.imul, 1) := by decide +kernel
theorem dX10_makeList_44 : decode cX10_makeList 44 = .ok (.iload_n 3, 1) := by decide +kernel
theorem dX10_makeList_45 : decode cX10_makeList 45 = .ok (.iadd, 1) := by decide +kernel
theorem dX10_makeList_46 : decode cX10_makeList 46 = .ok (.iastore, 1) := by decide +kernel
theorem dX10_makeList_47 : decode cX10_makeList 47 = .ok (.iinc 1 1, 3) := by decide +kernel
theorem dX10_makeList_50 : decode cX10_makeList 50 = .ok (.iinc 3 1, 3) := by decide +kernel
theorem dX10_makeList_53 : decode cX10_makeList 53 = .ok (.goto (-41), 3) := by decide +kernel
theorem dX10_makeList_56 : decode cX10_makeList 56 = .ok (.iinc 2 1, 3) := by decide +kernel
theorem dX10_makeList_59 : decode cX10_makeList 59 = .ok (.goto (-55), 3) := by decide +kernel
theorem dX10_makeList_62 : decode cX10_makeList 62 = .ok (.iload_n 1, 1) := by decide +kernel
theorem dX10_makeList_63 : decode cX10_makeList 63 = .ok (.iconst 1, 1) := by decide +kernel
theorem dX10_makeList_64 : decode cX10_makeList 64 = .ok (.isub, 1) := by decide +kernel
theorem dX10_makeList_65 : decode cX10_makeList 65 = .ok (.istore_n 2, 1) := by decide +kernel
theorem dX10_makeList_66 : decode cX10_makeList 66 = .ok (.iload_n 2, 1) := by decide +kernel
theorem dX10_makeList_67 : decode cX10_makeList 67 = .ok (.ifCond .le 45, 3) := by decide +kernel
theorem dX10_makeList_70 : decode cX10_makeList 70 = .ok (.aload_n 0, 1) := by decide +kernel
theorem dX10_makeList_71 : decode cX10_makeList 71 = .ok (.iload_n 2, 1) := by decide +kernel
theorem dX10_makeList_72 : decode cX10_makeList 72 = .ok (.iconst 1, 1) := by decide +kernel
theorem dX10_makeList_73 : decode cX10_makeList 73 = .ok (.iadd, 1) := by decide +kernel
theorem dX10_makeList_74 : decode cX10_makeList 74 = .ok (.invokevirtual 129, 3) := by decide +kernel
theorem dX10_makeList_77 : decode cX10_makeList 77 = .ok (.istore_n 3, 1) := by decide +kernel
theorem dX10_makeList_78 : decode cX10_makeList 78 = .ok (.aload_n 0, 1) := by decide +kernel
theorem dX10_makeList_79 : decode cX10_makeList 79 = .ok (.getfield 73, 3) := by decide +kernel
theorem dX10_makeList_82 : decode cX10_makeList 82 = .ok (.iload_n 2, 1) := by decide +kernel
theorem dX10_makeList_83 : decode cX10_makeList 83 = .ok (.iaload, 1) := by decide +kernel
theorem dX10_makeList_84 : decode cX10_makeList 84 = .ok (.istore 4, 2) := by decide +kernel
theorem dX10_makeList_86 : decode cX10_makeList 86 = .ok (.aload_n 0, 1) := by decide +kernel
theorem dX10_makeList_87 : decode cX10_makeList 87 = .ok (.getfield 73, 3) := by decide +kernel
theorem dX10_makeList_90 : decode cX10_makeList 90 = .ok (.iload_n 2, 1) := by decide +kernel
theorem dX10_makeList_91 : decode cX10_makeList 91 = .ok (.aload_n 0, 1) := by decide +kernel
theorem dX10_makeList_92 : decode cX10_makeList 92 = .ok (.getfield 73, 3) := by decide +kernel
theorem dX10_makeList_95 : decode cX10_makeList 95 = .ok (.iload_n 3, 1) := by decide +kernel
theorem dX10_makeList_96 : decode cX10_makeList 96 = .ok (.iaload, 1) := by decide +kernel
theorem dX10_makeList_97 : decode cX10_makeList 97 = .ok (.iastore, 1) := by decide +kernel
theorem dX10_makeList_98 : decode cX10_makeList 98 = .ok (.aload_n 0, 1) := by decide +kernel
theorem dX10_makeList_99 : decode cX10_makeList 99 = .ok (.getfield 73, 3) := by decide +kernel
theorem dX10_makeList_102 : decode cX10_makeList 102 = .ok (.iload_n 3, 1) := by decide +kernel
theorem dX10_makeList_103 : decode cX10_makeList 103 = .ok (.iload 4, 2) := by decide +kernel
theorem dX10_makeList_105 : decode cX10_makeList 105 = .ok (.iastore, 1) := by decide +kernel
theorem dX10_makeList_106 : decode cX10_makeList 106 = .ok (.iinc 2 (-1), 3) := by decide +kernel
theorem dX10_makeList_109 : decode cX10_makeList 109 = .ok (.goto (-43), 3) := by decide +kernel
theorem dX10_makeList_112 : decode cX10_makeList 112 = .ok (.iconst 0, 1) := by decide +kernel
theorem dX10_makeList_113 : decode cX10_makeList 113 = .ok (.istore_n 2, 1) := by decide +kernel
theorem dX10_makeList_114 : decode cX10_makeList 114 = .ok (.iload_n 2, 1) := by decide +kernel
theorem dX10_makeList_115 : decode cX10_makeList 115 = .ok (.iload_n 1, 1) := by decide +kernel
theorem dX10_makeList_116 : decode cX10_makeList 116 = .ok (.if_icmp .ge 62, 3) := by decide +kernel
theorem dX10_makeList_119 : decode cX10_makeList 119 = .ok (.aload_n 0, 1) := by decide +kernel
theorem dX10_makeList_120 : decode cX10_makeList 120 = .ok (.getfield 73, 3) := by decide +kernel
theorem dX10_makeList_123 : decode cX10_makeList 123 = .ok (.iload_n 2, 1) := by decide +kernel
theorem dX10_makeList_124 : decode cX10_makeList 124 = .ok (.iaload, 1) := by decide +kernel
theorem dX10_makeList_125 : decode cX10_makeList 125 = .ok (.iconst 4, 1) := by decide +kernel
theorem dX10_makeList_126 : decode cX10_makeList 126 = .ok (.idiv, 1) := by decide +kernel
theorem dX10_makeList_127 : decode cX10_makeList 127 = .ok (.istore_n 3, 1) := by decide +kernel
theorem dX10_makeList_128 : decode cX10_makeList 128 = .ok (.aload_n 0, 1) := by decide +kernel
theorem dX10_makeList_129 : decode cX10_makeList 129 = .ok (.getfield 73, 3) := by decide +kernel
theorem dX10_makeList_132 : decode cX10_makeList 132 = .ok (.iload_n 2, 1) := by decide +kernel
theorem dX10_makeList_133 : decode cX10_makeList 133 = .ok (.iaload, 1) := by decide +kernel
theorem dX10_makeList_134 : decode cX10_makeList 134 = .ok (.iconst 4, 1) := by decide +kernel
theorem dX10_makeList_135 : decode cX10_makeList 135 = .ok (.irem, 1) := by decide +kernel
theorem dX10_makeList_136 : decode cX10_makeList 136 = .ok (.istore 4, 2) := by decide +kernel
theorem dX10_makeList_138 : decode cX10_makeList 138 = .ok (.aload_n 0, 1) := by decide +kernel
theorem dX10_makeList_139 : decode cX10_makeList 139 = .ok (.invokevirtual 133, 3) := by decide +kernel
theorem dX10_makeList_142 : decode cX10_makeList 142 = .ok (.pop, 1) := by decide +kernel
theorem dX10_makeList_143 : decode cX10_makeList 143 = .ok (.aload_n 0, 1) := by decide +kernel
theorem dX10_makeList_144 : decode cX10_makeList 144 = .ok (.getfield 52, 3) := by decide +kernel
theorem dX10_makeList_147 : decode cX10_makeList 147 = .ok (.iload_n 3, 1) := by decide +kernel
theorem dX10_makeList_148 : decode cX10_makeList 148 = .ok (.iaload, 1) := by decide +kernel
theorem dX10_makeList_149 : decode cX10_makeList 149 = .ok (.aload_n 0, 1) := by decide +kernel
theorem dX10_makeList_150 : decode cX10_makeList 150 = .ok (.getfield 52, 3) := by decide +kernel
theorem dX10_makeList_153 : decode cX10_makeList 153 = .ok (.aload_n 0, 1) := by decide +kernel
theorem dX10_makeList_154 : decode cX10_makeList 154 = .ok (.iload_n 3, 1) := by decide +kernel
theorem dX10_makeList_155 : decode cX10_makeList 155 = .ok (.iload 4, 2) := by decide +kernel
theorem dX10_makeList_157 : decode cX10_makeList 157 = .ok (.invokevirtual 113, 3) := by decide +kernel
theorem dX10_makeList_160 : decode cX10_makeList 160 = .ok (.iaload, 1) := by decide +kernel
theorem dX10_makeList_161 : decode cX10_makeList 161 = .ok (.if_icmp .eq 11, 3) := by decide +kernel
theorem dX10_makeList_164 : decode cX10_makeList 164 = .ok (.aload_n 0, 1) := by decide +kernel
theorem dX10_makeList_165 : decode cX10_makeList 165 = .ok (.iload_n 3, 1) := by decide +kernel
theorem dX10_makeList_166 : decode cX10_makeList 166 = .ok (.iload 4, 2) := by decide +kernel
theorem dX10_makeList_168 : decode cX10_makeList 168 = .ok (.iconst 1, 1) := by decide +kernel
theorem dX10_makeList_169 : decode cX10_makeList 169 = .ok (.invokevirtual 136, 3) := by decide +kernel
theorem dX10_makeList_172 : decode cX10_makeList 172 = .ok (.iinc 2 1, 3) := by decide +kernel
theorem dX10_makeList_175 : decode cX10_makeList 175 = .ok (.goto (-61), 3) := by decide +kernel
theorem dX10_makeList_178 : decode cX10_makeList 178 = .ok (.return_, 1) := by decide +kernel
set_option maxRecDepth 20000 in
theorem ggX10_freshSides_X10_beside : GoodIn wsX10_freshSides wsX10_beside := goodIn_r _ [6, 7, 8, 9, 10, 5, 11, 12, 13, 14, 15, 16, 17, 18, 19, 20, 21, 22, 23, 24, 25, 26, 27, 28, 29, 30, 31, 32, 33, 34, 35, 36, 37, 38, 39, 40, 41, 42, 43, 44, 45] (by decide +kernel) (by decide +kernel)
set_option maxRecDepth 20000 in
theorem gX10_freshSides_X10_beside : GoodIn wsX10_freshSides (wsV RX10 113 RX10 yX10_beside wsX10_beside) := goodIn_app (goodIn_of _ (by decide +kernel)) ggX10_freshSides_X10_beside
theorem dX10_freshSides_0 : decode cX10_freshSides 0 = .ok (.iconst 0, 1) := by decide +kernel
theorem dX10_freshSides_1 : decode cX10_freshSides 1 = .ok (.istore_n 2, 1) := by decide +kernel
theorem dX10_freshSides_2 : decode cX10_freshSides 2 = .ok (.iconst 0, 1) := by decide +kernel
theorem dX10_freshSides_3 : decode cX10_freshSides 3 = .ok (.istore_n 3, 1) := by decide +kernel
theorem dX10_freshSides_4 : decode cX10_freshSides 4 = .ok (.iload_n 3, 1) := by decide +kernel
theorem dX10_freshSides_5 : decode cX10_freshSides 5 = .ok (.iconst 4, 1) := by decide +kernel
theorem dX10_freshSides_6 : decode cX10_freshSides 6 = .ok (.if_icmp .ge 42, 3) := by decide +kernel
theorem dX10_freshSides_9 : decode cX10_freshSides 9 = .ok (.iload_n 2, 1) := by decide +kernel
theorem dX10_freshSides_10 : decode cX10_freshSides 10 = .ok (.aload_n 0, 1) := by decide +kernel
theorem dX10_freshSides_11 : decode cX10_freshSides 11 = .ok (.iload_n 1, 1) := by decide +kernel
theorem dX10_freshSides_12 : decode cX10_freshSides 12 = .ok (.iload_n 3, 1) := by decide +kernel
theorem dX10_freshSides_13 : decode cX10_freshSides 13 = .ok (.invokevirtual 113, 3) := by decide +kernel
theorem dX10_freshSides_16 : decode cX10_freshSides 16 = .ok (.bipush (-9), 2) := by decide +kernel
theorem dX10_freshSides_18 : decode cX10_freshSides 18 = .ok (.if_icmp .eq 21, 3) := by decide +kernel
theorem dX10_freshSides_21 : decode cX10_freshSides 21 = .ok (.aload_n 0, 1) := by decide +kernel
theorem dX10_freshSides_22 : decode cX10_freshSides 22 = .ok (.getfield 58, 3) := by decide +kernel
theorem dX10_freshSides_25 : decode cX10_freshSides 25 = .ok (.aload_n 0, 1) := by decide +kernel
theorem dX10_freshSides_26 : decode cX10_freshSides 26 = .ok (.iload_n 1, 1) := by decide +kernel
theorem dX10_freshSides_27 : decode cX10_freshSides 27 = .ok (.iload_n 3, 1) := by decide +kernel
theorem dX10_freshSides_28 : decode cX10_freshSides 28 = .ok (.invokevirtual 113, 3) := by decide +kernel
theorem dX10_freshSides_31 : decode cX10_freshSides 31 = .ok (.baload, 1) := by decide +kernel
theorem dX10_freshSides_32 : decode cX10_freshSides 32 = .ok (.ifCond .ne 7, 3) := by decide +kernel
theorem dX10_freshSides_35 : decode cX10_freshSides 35 = .ok (.iconst 1, 1) := by decide +kernel
theorem dX10_freshSides_36 : decode cX10_freshSides 36 = .ok (.goto 4, 3) := by decide +kernel
theorem dX10_freshSides_39 : decode cX10_freshSides 39 = .ok (.iconst 0, 1) := by decide +kernel
theorem dX10_freshSides_40 : decode cX10_freshSides 40 = .ok (.iadd, 1) := by decide +kernel
theorem dX10_freshSides_41 : decode cX10_freshSides 41 = .ok (.istore_n 2, 1) := by decide +kernel
theorem dX10_freshSides_42 : decode cX10_freshSides 42 = .ok (.iinc 3 1, 3) := by decide +kernel
theorem dX10_freshSides_45 : decode cX10_freshSides 45 = .ok (.goto (-41), 3) := by decide +kernel
theorem dX10_freshSides_48 : decode cX10_freshSides 48 = .ok (.iload_n 2, 1) := by decide +kernel
theorem dX10_freshSides_49 : decode cX10_freshSides 49 = .ok (.ireturn, 1) := by decide +kernel
set_option maxRecDepth 20000 in
theorem ggX10_makePath_X10_freshSides : GoodIn wsX10_makePath wsX10_freshSides := goodIn_r _ [7, 1, 8, 9, 10, 6, 11, 12, 13, 14, 15, 16, 30, 31, 32, 33, 34, 35, 36, 37, 38, 39, 40, 41, 42, 43, 44, 45, 46, 47, 48, 49, 50, 51, 52, 53, 54, 55, 56, 57, 58, 59, 60, 61, 62, 63] (by decide +kernel) (by decide +kernel)
set_option maxRecDepth 20000 in
theorem gX10_makePath_X10_freshSides : GoodIn wsX10_makePath (wsV RX10 140 RX10 yX10_freshSides wsX10_freshSides) := goodIn_app (goodIn_of _ (by decide +kernel)) ggX10_makePath_X10_freshSides
set_option maxRecDepth 20000 in
theorem ggX10_makePath_X10_next : GoodIn wsX10_makePath wsX10_next := goodIn_r _ [20, 21, 22, 23, 30, 31, 32, 33, 34, 35, 36, 37, 38, 39, 40, 41, 42, 43, 44, 45, 46, 47, 48, 49, 50, 51, 52, 53, 54, 55, 56, 57, 58, 59, 60, 61, 62, 63] (by decide +kernel) (by decide +kernel)
set_option maxRecDepth 20000 in
theorem gX10_makePath_X10_next : GoodIn wsX10_makePath (wsV RX10 129 RX10 yX10_next wsX10_next) := goodIn_app (goodIn_of _ (by decide +kernel)) ggX10_makePath_X10_next
set_option maxRecDepth 20000 in
theorem ggX10_makePath_X10_beside : GoodIn wsX10_makePath wsX10_beside := goodIn_r _ [11, 12, 13, 14, 15, 6, 16, 30, 31, 32, 33, 34, 35, 36, 37, 38, 39, 40, 41, 42, 43, 44, 45, 46, 47, 48, 49, 50, 51, 52, 53, 54, 55, 56, 57, 58, 59, 60, 61, 62, 63] (by decide +kernel) (by decide +kernel)
set_option maxRecDepth 20000 in
theorem gX10_makePath_X10_beside : GoodIn wsX10_makePath (wsV RX10 113 RX10 yX10_beside wsX10_beside) := goodIn_app (goodIn_of _ (by decide +kernel)) ggX10_makePath_X10_beside
set_option maxRecDepth 20000 in
theorem ggX10_makePath_X10_set : GoodIn wsX10_makePath wsX10_set := goodIn_r _ [27, 28, 29, 8, 9, 10, 6, 11, 12, 13, 14, 15, 16, 30, 31, 32, 33, 34, 35, 36, 37, 38, 39, 40, 41, 42, 43, 44, 45, 46, 47, 48, 49, 50, 51, 52, 53, 54, 55, 56, 57, 58, 59, 60, 61, 62, 63] (by decide +kernel) (by decide +kernel)
set_option maxRecDepth 20000 in
theorem gX10_makePath_X10_set : GoodIn wsX10_makePath (wsV RX10 136 RX10 yX10_set wsX10_set) := goodIn_app (goodIn_of _ (by decide +kernel)) ggX10_makePath_X10_set
theorem dX10_makePath_0 : decode cX10_makePath 0 = .ok (.iconst 0, 1) := by decide +kernel
theorem dX10_makePath_1 : decode cX10_makePath 1 = .ok (.istore_n 1, 1) := by decide +kernel
theorem dX10_makePath_2 : decode cX10_makePath 2 = .ok (.iload_n 1, 1) := by decide +kernel
theorem dX10_makePath_3 : decode cX10_makePath 3 = .ok (.bipush 36, 2) := by decide +kernel
theorem dX10_makePath_5 : decode cX10_makePath 5 = .ok (.if_icmp .ge 16, 3) := by decide +kernel
theorem dX10_makePath_8 : decode cX10_makePath 8 = .ok (.aload_n 0, 1) := by decide +kernel
theorem dX10_makePath_9 : decode cX10_makePath 9 = .ok (.getfield 58, 3) := by decide +kernel
theorem dX10_makePath_12 : decode cX10_makePath 12 = .ok (.iload_n 1, 1) := by decide +kernel
theorem dX10_makePath_13 : decode cX10_makePath 13 = .ok (.iconst 0, 1) := by decide +kernel
theorem dX10_makePath_14 : decode cX10_makePath 14 = .ok (.bastore, 1) := by decide +kernel
theorem dX10_makePath_15 : decode cX10_makePath 15 = .ok (.iinc 1 1, 3) := by decide +kernel
theorem dX10_makePath_18 : decode cX10_makePath 18 = .ok (.goto (-16), 3) := by decide +kernel
theorem dX10_makePath_21 : decode cX10_makePath 21 = .ok (.iconst 0, 1) := by decide +kernel
theorem dX10_makePath_22 : decode cX10_makePath 22 = .ok (.istore_n 1, 1) := by decide +kernel
theorem dX10_makePath_23 : decode cX10_makePath 23 = .ok (.aload_n 0, 1) := by decide +kernel
theorem dX10_makePath_24 : decode cX10_makePath 24 = .ok (.getfield 58, 3) := by decide +kernel
theorem dX10_makePath_27 : decode cX10_makePath 27 = .ok (.iconst 0, 1) := by decide +kernel
theorem dX10_makePath_28 : decode cX10_makePath 28 = .ok (.iconst 1, 1) := by decide +kernel
theorem dX10_makePath_29 : decode cX10_makePath 29 = .ok (.bastore, 1) := by decide +kernel
theorem dX10_makePath_30 : decode cX10_makePath 30 = .ok (.aload_n 0, 1) := by decide +kernel
theorem dX10_makePath_31 : decode cX10_makePath 31 = .ok (.getfield 55, 3) := by decide +kernel
theorem dX10_makePath_34 : decode cX10_makePath 34 = .ok (.iconst 0, 1) := by decide +kernel
theorem dX10_makePath_35 : decode cX10_makePath 35 = .ok (.bipush (-9), 2) := by decide +kernel
theorem dX10_makePath_37 : decode cX10_makePath 37 = .ok (.iastore, 1) := by decide +kernel
theorem dX10_makePath_38 : decode cX10_makePath 38 = .ok (.iload_n 1, 1) := by decide +kernel
theorem dX10_makePath_39 : decode cX10_makePath 39 = .ok (.bipush (-9), 2) := by decide +kernel
theorem dX10_makePath_41 : decode cX10_makePath 41 = .ok (.if_icmp .eq 143, 3) := by decide +kernel
theorem dX10_makePath_44 : decode cX10_makePath 44 = .ok (.aload_n 0, 1) := by decide +kernel
theorem dX10_makePath_45 : decode cX10_makePath 45 = .ok (.iload_n 1, 1) := by decide +kernel
theorem dX10_makePath_46 : decode cX10_makePath 46 = .ok (.invokevirtual 140, 3) := by decide +kernel
theorem dX10_makePath_49 : decode cX10_makePath 49 = .ok (.istore_n 2, 1) := by decide +kernel
theorem dX10_makePath_50 : decode cX10_makePath 50 = .ok (.iload_n 2, 1) := by decide +kernel
theorem dX10_makePath_51 : decode cX10_makePath 51 = .ok (.ifCond .ne 13, 3) := by decide +kernel
theorem dX10_makePath_54 : decode cX10_makePath 54 = .ok (.aload_n 0, 1) := by decide +kernel
theorem dX10_makePath_55 : decode cX10_makePath 55 = .ok (.getfield 55, 3) := by decide +kernel
theorem dX10_makePath_58 : decode cX10_makePath 58 = .ok (.iload_n 1, 1) := by decide +kernel
theorem dX10_makePath_59 : decode cX10_makePath 59 = .ok (.iaload, 1) := by decide +kernel
theorem dX10_makePath_60 : decode cX10_makePath 60 = .ok (.istore_n 1, 1) := by decide +kernel
theorem dX10_makePath_61 : decode cX10_makePath 61 = .ok (.goto 120, 3) := by decide +kernel
theorem dX10_makePath_64 : decode cX10_makePath 64 = .ok (.aload_n 0, 1) := by decide +kernel
theorem dX10_makePath_65 : decode cX10_makePath 65 = .ok (.iload_n 2, 1) := by decide +kernel
theorem dX10_makePath_66 : decode cX10_makePath 66 = .ok (.invokevirtual 129, 3) := by decide +kernel
theorem dX10_makePath_69 : decode cX10_makePath 69 = .ok (.istore_n 3, 1) := by decide +kernel
theorem dX10_makePath_70 : decode cX10_makePath 70 = .ok (.iconst 0, 1) := by decide +kernel
theorem dX10_makePath_71 : decode cX10_makePath 71 = .ok (.istore 4, 2) := by decide +kernel
theorem dX10_makePath_73 : decode cX10_makePath 73 = .ok (.aload_n 0, 1) := by decide +kernel
theorem dX10_makePath_74 : decode cX10_makePath 74 = .ok (.iload_n 1, 1) := by decide +kernel
theorem dX10_makePath_75 : decode cX10_makePath 75 = .ok (.iload 4, 2) := by decide +kernel
theorem dX10_makePath_77 : decode cX10_makePath 77 = .ok (.invokevirtual 113, 3) := by decide +kernel
theorem dX10_makePath_80 : decode cX10_makePath 80 = .ok (.bipush (-9), 2) := by decide +kernel
theorem dX10_makePath_82 : decode cX10_makePath 82 = .ok (.if_icmp .eq 22, 3) := by decide +kernel
theorem dX10_makePath_85 : decode cX10_makePath 85 = .ok (.aload_n 0, 1) := by decide +kernel
theorem dX10_makePath_86 : decode cX10_makePath 86 = .ok (.getfield 58, 3) := by decide +kernel
theorem dX10_makePath_89 : decode cX10_makePath 89 = .ok (.aload_n 0, 1) := by decide +kernel
theorem dX10_makePath_90 : decode cX10_makePath 90 = .ok (.iload_n 1, 1) := by decide +kernel
theorem dX10_makePath_91 : decode cX10_makePath 91 = .ok (.iload 4, 2) := by decide +kernel
theorem dX10_makePath_93 : decode cX10_makePath 93 = .ok (.invokevirtual 113, 3) := by decide +kernel
theorem dX10_makePath_96 : decode cX10_makePath 96 = .ok (.baload, 1) := by decide +kernel
theorem dX10_makePath_97 : decode cX10_makePath 97 = .ok (.ifCond .ne 7, 3) := by decide +kernel
theorem dX10_makePath_100 : decode cX10_makePath 100 = .ok (.iload_n 3, 1) := by decide +kernel
theorem dX10_makePath_101 : decode cX10_makePath 101 = .ok (.ifCond .le 44, 3) := by decide +kernel
theorem dX10_makePath_104 : decode cX10_makePath 104 = .ok (.iload_n 3, 1) := by decide +kernel
theorem dX10_makePath_105 : decode cX10_makePath 105 = .ok (.aload_n 0, 1) := by decide +kernel
theorem dX10_makePath_106 : decode cX10_makePath 106 = .ok (.iload_n 1, 1) := by decide +kernel
theorem dX10_makePath_107 : decode cX10_makePath 107 = .ok (.iload 4, 2) := by decide +kernel
theorem dX10_makePath_109 : decode cX10_makePath 109 = .ok (.invokevirtual 113, 3) := by decide +kernel
theorem dX10_makePath_112 : decode cX10_makePath 112 = .ok (.bipush (-9), 2) := by decide +kernel
theorem dX10_makePath_114 : decode cX10_makePath 114 = .ok (.if_icmp .eq 22, 3) := by decide +kernel
theorem dX10_makePath_117 : decode cX10_makePath 117 = .ok (.aload_n 0, 1) := by decide +kernel
theorem dX10_makePath_118 : decode cX10_makePath 118 = .ok (.getfield 58, 3) := by decide +kernel
theorem dX10_makePath_121 : decode cX10_makePath 121 = .ok (.aload_n 0, 1) := by decide +kernel
theorem dX10_makePath_122 : decode cX10_makePath 122 = .ok (.iload_n 1, 1) := by decide +kernel
theorem dX10_makePath_123 : decode cX10_makePath 123 = .ok (.iload 4, 2) := by decide +kernel
theorem dX10_makePath_125 : decode cX10_makePath 125 = .ok (.invokevirtual 113, 3) := by decide +kernel
theorem dX10_makePath_128 : decode cX10_makePath 128 = .ok (.baload, 1) := by decide +kernel
theorem dX10_makePath_129 : decode cX10_makePath 129 = .ok (.ifCond .ne 7, 3) := by decide +kernel
theorem dX10_makePath_132 : decode cX10_makePath 132 = .ok (.iconst 1, 1) := by decide +kernel
theorem dX10_makePath_133 : decode cX10_makePath 133 = .ok (.goto 4, 3) := by decide +kernel
theorem dX10_makePath_136 : decode cX10_makePath 136 = .ok (.iconst 0, 1) := by decide +kernel
theorem dX10_makePath_137 : decode cX10_makePath 137 = .ok (.isub, 1) := by decide +kernel
theorem dX10_makePath_138 : decode cX10_makePath 138 = .ok (.istore_n 3, 1) := by decide +kernel
theorem dX10_makePath_139 : decode cX10_makePath 139 = .ok (.iinc 4 1, 3) := by decide +kernel
theorem dX10_makePath_142 : decode cX10_makePath 142 = .ok (.goto (-69), 3) := by decide +kernel
theorem dX10_makePath_145 : decode cX10_makePath 145 = .ok (.aload_n 0, 1) := by decide +kernel
theorem dX10_makePath_146 : decode cX10_makePath 146 = .ok (.iload_n 1, 1) := by decide +kernel
theorem dX10_makePath_147 : decode cX10_makePath 147 = .ok (.iload 4, 2) := by decide +kernel
theorem dX10_makePath_149 : decode cX10_makePath 149 = .ok (.iconst 1, 1) := by decide +kernel
theorem dX10_makePath_150 : decode cX10_makePath 150 = .ok (.invokevirtual 136, 3) := by decide +kernel
theorem dX10_makePath_153 : decode cX10_makePath 153 = .ok (.aload_n 0, 1) := by decide +kernel
theorem dX10_makePath_154 : decode cX10_makePath 154 = .ok (.iload_n 1, 1) := by decide +kernel
theorem dX10_makePath_155 : decode cX10_makePath 155 = .ok (.iload 4, 2) := by decide +kernel
theorem dX10_makePath_157 : decode cX10_makePath 157 = .ok (.invokevirtual 113, 3) := by decide +kernel
theorem dX10_makePath_160 : decode cX10_makePath 160 = .ok (.istore 5, 2) := by decide +kernel
theorem dX10_makePath_162 : decode cX10_makePath 162 = .ok (.aload_n 0, 1) := by decide +kernel
theorem dX10_makePath_163 : decode cX10_makePath 163 = .ok (.getfield 55, 3) := by decide +kernel
theorem dX10_makePath_166 : decode cX10_makePath 166 = .ok (.iload 5, 2) := by decide +kernel
theorem dX10_makePath_168 : decode cX10_makePath 168 = .ok (.iload_n 1, 1) := by decide +kernel
theorem dX10_makePath_169 : decode cX10_makePath 169 = .ok (.iastore, 1) := by decide +kernel
theorem dX10_makePath_170 : decode cX10_makePath 170 = .ok (.aload_n 0, 1) := by decide +kernel
theorem dX10_makePath_171 : decode cX10_makePath 171 = .ok (.getfield 58, 3) := by decide +kernel
theorem dX10_makePath_174 : decode cX10_makePath 174 = .ok (.iload 5, 2) := by decide +kernel
theorem dX10_makePath_176 : decode cX10_makePath 176 = .ok (.iconst 1, 1) := by decide +kernel
theorem dX10_makePath_177 : decode cX10_makePath 177 = .ok (.bastore, 1) := by decide +kernel
theorem dX10_makePath_178 : decode cX10_makePath 178 = .ok (.iload 5, 2) := by decide +kernel
theorem dX10_makePath_180 : decode cX10_makePath 180 = .ok (.istore_n 1, 1) := by decide +kernel
theorem dX10_makePath_181 : decode cX10_makePath 181 = .ok (.goto (-143), 3) := by decide +kernel
theorem dX10_makePath_184 : decode cX10_makePath 184 = .ok (.return_, 1) := by decide +kernel
set_option maxRecDepth 20000 in
theorem ggX10_make_X10_in : GoodIn wsX10_make wsX10_in := goodIn_r _ [7] (by decide +kernel) (by decide +kernel)
set_option maxRecDepth 20000 in
theorem gX10_make_X10_in : GoodIn wsX10_make (va_wsS RX10 84 yX10_in wsX10_in) := goodIn_app (goodIn_of _ (by decide +kernel)) ggX10_make_X10_in
set_option maxRecDepth 20000 in
theorem ggX10_make_X10_shutAll : GoodIn wsX10_make wsX10_shutAll := goodIn_r _ [11, 12, 13, 14, 15, 16, 17, 67, 68, 69, 70, 71, 72, 73, 74, 75, 76, 77, 78, 79, 80, 81, 82, 83, 84, 85, 86, 87, 88, 89, 90, 91, 92, 93, 94, 95, 96, 97, 98, 99, 100] (by decide +kernel) (by decide +kernel)
set_option maxRecDepth 20000 in
theorem gX10_make_X10_shutAll : GoodIn wsX10_make (wsV RX10 109 RX10 yX10_shutAll wsX10_shutAll) := goodIn_app (goodIn_of _ (by decide +kernel)) ggX10_make_X10_shutAll
set_option maxRecDepth 20000 in
theorem ggX10_make_X10_makeList : GoodIn wsX10_make wsX10_makeList := goodIn_r _ [21, 22, 23, 24, 25, 26, 6, 27, 12, 13, 28, 29, 30, 31, 4, 5, 7, 32, 33, 34, 35, 3, 36, 37, 38, 39, 40, 41, 42, 43, 44, 45, 46, 47, 48, 49, 50, 51, 52, 14, 15, 53, 54, 55, 56, 67, 68, 69, 70, 71, 72, 73, 74, 75, 76, 77, 78, 79, 80, 81, 82, 83, 84, 85, 86, 87, 88, 89, 90, 91, 92, 93, 94, 95, 96, 97, 98, 99, 100] (by decide +kernel) (by decide +kernel)
set_option maxRecDepth 20000 in
theorem gX10_make_X10_makeList : GoodIn wsX10_make (wsV RX10 145 RX10 yX10_makeList wsX10_makeList) := goodIn_app (goodIn_of _ (by decide +kernel)) ggX10_make_X10_makeList
set_option maxRecDepth 20000 in
theorem ggX10_make_X10_makePath : GoodIn wsX10_make wsX10_makePath := goodIn_r _ [60, 61, 62, 63, 64, 65, 6, 66, 28, 29, 30, 31, 12, 13, 4, 5, 7, 32, 33, 34, 35, 3, 36, 37, 53, 54, 55, 56, 14, 15, 67, 68, 69, 70, 71, 72, 73, 74, 75, 76, 77, 78, 79, 80, 81, 82, 83, 84, 85, 86, 87, 88, 89, 90, 91, 92, 93, 94, 95, 96, 97, 98, 99, 100] (by decide +kernel) (by decide +kernel)
set_option maxRecDepth 20000 in
theorem gX10_make_X10_makePath : GoodIn wsX10_make (wsV RX10 148 RX10 yX10_makePath wsX10_makePath) := goodIn_app (goodIn_of _ (by decide +kernel)) ggX10_make_X10_makePath
theorem dX10_make_0 : decode cX10_make 0 = .ok (.aload_n 0, 1) := by decide +kernel
theorem dX10_make_1 : decode cX10_make 1 = .ok (.iconst 0, 1) := by decide +kernel
theorem dX10_make_2 : decode cX10_make 2 = .ok (.putfield 79, 3) := by decide +kernel
theorem dX10_make_5 : decode cX10_make 5 = .ok (.iload_n 1, 1) := by decide +kernel
theorem dX10_make_6 : decode cX10_make 6 = .ok (.i2l, 1) := by decide +kernel
theorem dX10_make_7 : decode cX10_make 7 = .ok (.lconst 1, 1) := by decide +kernel
theorem dX10_make_8 : decode cX10_make 8 = .ok (.ldc2_w 143, 3) := by decide +kernel
theorem dX10_make_11 : decode cX10_make 11 = .ok (.invokestatic 84, 3) := by decide +kernel
theorem dX10_make_14 : decode cX10_make 14 = .ok (.ifCond .eq 26, 3) := by decide +kernel
theorem dX10_make_17 : decode cX10_make 17 = .ok (.iload_n 2, 1) := by decide +kernel
theorem dX10_make_18 : decode cX10_make 18 = .ok (.i2l, 1) := by decide +kernel
theorem dX10_make_19 : decode cX10_make 19 = .ok (.lconst 1, 1) := by decide +kernel
theorem dX10_make_20 : decode cX10_make 20 = .ok (.ldc2_w 143, 3) := by decide +kernel
theorem dX10_make_23 : decode cX10_make 23 = .ok (.invokestatic 84, 3) := by decide +kernel
theorem dX10_make_26 : decode cX10_make 26 = .ok (.ifCond .eq 14, 3) := by decide +kernel
theorem dX10_make_29 : decode cX10_make 29 = .ok (.iload 5, 2) := by decide +kernel
theorem dX10_make_31 : decode cX10_make 31 = .ok (.i2l, 1) := by decide +kernel
theorem dX10_make_32 : decode cX10_make 32 = .ok (.lconst 0, 1) := by decide +kernel
theorem dX10_make_33 : decode cX10_make 33 = .ok (.lconst 1, 1) := by decide +kernel
theorem dX10_make_34 : decode cX10_make 34 = .ok (.invokestatic 84, 3) := by decide +kernel
theorem dX10_make_37 : decode cX10_make 37 = .ok (.ifCond .ne 6, 3) := by decide +kernel
theorem dX10_make_40 : decode cX10_make 40 = .ok (.bipush (-2), 2) := by decide +kernel
theorem dX10_make_42 : decode cX10_make 42 = .ok (.ireturn, 1) := by decide +kernel
theorem dX10_make_43 : decode cX10_make 43 = .ok (.aload_n 0, 1) := by decide +kernel
theorem dX10_make_44 : decode cX10_make 44 = .ok (.iload_n 1, 1) := by decide +kernel
theorem dX10_make_45 : decode cX10_make 45 = .ok (.iload_n 2, 1) := by decide +kernel
theorem dX10_make_46 : decode cX10_make 46 = .ok (.invokevirtual 109, 3) := by decide +kernel
theorem dX10_make_49 : decode cX10_make 49 = .ok (.aload_n 0, 1) := by decide +kernel
theorem dX10_make_50 : decode cX10_make 50 = .ok (.lload_n 3, 1) := by decide +kernel
theorem dX10_make_51 : decode cX10_make 51 = .ok (.putfield 117, 3) := by decide +kernel
theorem dX10_make_54 : decode cX10_make 54 = .ok (.iload 5, 2) := by decide +kernel
theorem dX10_make_56 : decode cX10_make 56 = .ok (.ifCond .ne 10, 3) := by decide +kernel
theorem dX10_make_59 : decode cX10_make 59 = .ok (.aload_n 0, 1) := by decide +kernel
theorem dX10_make_60 : decode cX10_make 60 = .ok (.invokevirtual 145, 3) := by decide +kernel
theorem dX10_make_63 : decode cX10_make 63 = .ok (.goto 7, 3) := by decide +kernel
theorem dX10_make_66 : decode cX10_make 66 = .ok (.aload_n 0, 1) := by decide +kernel
theorem dX10_make_67 : decode cX10_make 67 = .ok (.invokevirtual 148, 3) := by decide +kernel
theorem dX10_make_70 : decode cX10_make 70 = .ok (.iload_n 1, 1) := by decide +kernel
theorem dX10_make_71 : decode cX10_make 71 = .ok (.iload_n 2, 1) := by decide +kernel
theorem dX10_make_72 : decode cX10_make 72 = .ok (.imul, 1) := by decide +kernel
theorem dX10_make_73 : decode cX10_make 73 = .ok (.ireturn, 1) := by decide +kernel
set_option maxRecDepth 20000 in
theorem ggX10_open_X10_isCell : GoodIn wsX10_open wsX10_isCell := goodIn_r _ [6, 7, 8, 29, 30, 31, 32, 33, 34, 35, 36, 37, 38, 39, 40, 41, 42, 43, 44, 45, 46, 47, 48, 49, 50, 51, 52, 53, 54, 55, 56, 57, 58, 59, 60, 61, 62] (by decide +kernel) (by decide +kernel)
set_option maxRecDepth 20000 in
theorem gX10_open_X10_isCell : GoodIn wsX10_open (wsV RX10 151 RX10 yX10_isCell wsX10_isCell) := goodIn_app (goodIn_of _ (by decide +kernel)) ggX10_open_X10_isCell
set_option maxRecDepth 20000 in
theorem ggX10_open_X10_isSide : GoodIn wsX10_open wsX10_isSide := goodIn_r _ [11, 12, 13, 14, 5, 15] (by decide +kernel) (by decide +kernel)
set_option maxRecDepth 20000 in
theorem gX10_open_X10_isSide : GoodIn wsX10_open (va_wsS RX10 154 yX10_isSide wsX10_isSide) := goodIn_app (goodIn_of _ (by decide +kernel)) ggX10_open_X10_isSide
set_option maxRecDepth 20000 in
theorem ggX10_open_X10_index : GoodIn wsX10_open wsX10_index := goodIn_r _ [18] (by decide +kernel) (by decide +kernel)
set_option maxRecDepth 20000 in
theorem gX10_open_X10_index : GoodIn wsX10_open (va_wsS RX10 157 yX10_index wsX10_index) := goodIn_app (goodIn_of _ (by decide +kernel)) ggX10_open_X10_index
set_option maxRecDepth 20000 in
theorem ggX10_open_X10_isOpen : GoodIn wsX10_open wsX10_isOpen := goodIn_r _ [22, 23, 24, 25, 26, 27, 5, 28, 7, 8, 13, 14, 15, 29, 30, 31, 32, 33, 34, 35, 36, 37, 38, 39, 40, 41, 42, 43, 44, 45, 46, 47, 48, 49, 50, 51, 52, 53, 54, 55, 56, 57, 58, 59, 60, 61, 62] (by decide +kernel) (by decide +kernel)
set_option maxRecDepth 20000 in
theorem gX10_open_X10_isOpen : GoodIn wsX10_open (wsV RX10 160 RX10 yX10_isOpen wsX10_isOpen) := goodIn_app (goodIn_of _ (by decide +kernel)) ggX10_open_X10_isOpen
theorem dX10_open_0 : decode cX10_open 0 = .ok (.aload_n 0, 1) := by decide +kernel
theorem dX10_open_1 : decode cX10_open 1 = .ok (.iconst 0, 1) := by decide +kernel
theorem dX10_open_2 : decode cX10_open 2 = .ok (.putfield 79, 3) := by decide +kernel
theorem dX10_open_5 : decode cX10_open 5 = .ok (.aload_n 0, 1) := by decide +kernel
theorem dX10_open_6 : decode cX10_open 6 = .ok (.iload_n 1, 1) := by decide +kernel
theorem dX10_open_7 : decode cX10_open 7 = .ok (.invokevirtual 151, 3) := by decide +kernel
theorem dX10_open_10 : decode cX10_open 10 = .ok (.ifCond .eq 10, 3) := by decide +kernel
theorem dX10_open_13 : decode cX10_open 13 = .ok (.iload_n 2, 1) := by decide +kernel
theorem dX10_open_14 : decode cX10_open 14 = .ok (.invokestatic 154, 3) := by decide +kernel
theorem dX10_open_17 : decode cX10_open 17 = .ok (.ifCond .ne 5, 3) := by decide +kernel
theorem dX10_open_20 : decode cX10_open 20 = .ok (.iconst (-1), 1) := by decide +kernel
theorem dX10_open_21 : decode cX10_open 21 = .ok (.ireturn, 1) := by decide +kernel
theorem dX10_open_22 : decode cX10_open 22 = .ok (.aload_n 0, 1) := by decide +kernel
theorem dX10_open_23 : decode cX10_open 23 = .ok (.iload_n 1, 1) := by decide +kernel
theorem dX10_open_24 : decode cX10_open 24 = .ok (.invokestatic 157, 3) := by decide +kernel
theorem dX10_open_27 : decode cX10_open 27 = .ok (.iload_n 2, 1) := by decide +kernel
theorem dX10_open_28 : decode cX10_open 28 = .ok (.invokevirtual 160, 3) := by decide +kernel
theorem dX10_open_31 : decode cX10_open 31 = .ok (.ifCond .eq 7, 3) := by decide +kernel
theorem dX10_open_34 : decode cX10_open 34 = .ok (.iconst 1, 1) := by decide +kernel
theorem dX10_open_35 : decode cX10_open 35 = .ok (.goto 4, 3) := by decide +kernel
theorem dX10_open_38 : decode cX10_open 38 = .ok (.iconst 0, 1) := by decide +kernel
theorem dX10_open_39 : decode cX10_open 39 = .ok (.ireturn, 1) := by decide +kernel
set_option maxRecDepth 20000 in
theorem ggX10_hedge_X10_isCell : GoodIn wsX10_hedge wsX10_isCell := goodIn_r _ [6, 7, 8, 33, 34, 35, 36, 37, 38, 39, 40, 41, 42, 43, 44, 45, 46, 47, 48, 49, 50, 51, 52, 53, 54, 55, 56, 57, 58, 59, 60, 61, 62, 63, 64, 65, 66] (by decide +kernel) (by decide +kernel)
set_option maxRecDepth 20000 in
theorem gX10_hedge_X10_isCell : GoodIn wsX10_hedge (wsV RX10 151 RX10 yX10_isCell wsX10_isCell) := goodIn_app (goodIn_of _ (by decide +kernel)) ggX10_hedge_X10_isCell
set_option maxRecDepth 20000 in
theorem ggX10_hedge_X10_isSide : GoodIn wsX10_hedge wsX10_isSide := goodIn_r _ [11, 12, 13, 14, 5, 15] (by decide +kernel) (by decide +kernel)
set_option maxRecDepth 20000 in
theorem gX10_hedge_X10_isSide : GoodIn wsX10_hedge (va_wsS RX10 154 yX10_isSide wsX10_isSide) := goodIn_app (goodIn_of _ (by decide +kernel)) ggX10_hedge_X10_isSide
set_option maxRecDepth 20000 in
theorem ggX10_hedge_X10_index : GoodIn wsX10_hedge wsX10_index := goodIn_r _ [18] (by decide +kernel) (by decide +kernel)
set_option maxRecDepth 20000 in
theorem gX10_hedge_X10_index : GoodIn wsX10_hedge (va_wsS RX10 157 yX10_index wsX10_index) := goodIn_app (goodIn_of _ (by decide +kernel)) ggX10_hedge_X10_index
set_option maxRecDepth 20000 in
theorem ggX10_hedge_X10_beside : GoodIn wsX10_hedge wsX10_beside := goodIn_r _ [22, 7, 8, 13, 14, 5, 15, 33, 34, 35, 36, 37, 38, 39, 40, 41, 42, 43, 44, 45, 46, 47, 48, 49, 50, 51, 52, 53, 54, 55, 56, 57, 58, 59, 60, 61, 62, 63, 64, 65, 66] (by decide +kernel) (by decide +kernel)
set_option maxRecDepth 20000 in
theorem gX10_hedge_X10_beside : GoodIn wsX10_hedge (wsV RX10 113 RX10 yX10_beside wsX10_beside) := goodIn_app (goodIn_of _ (by decide +kernel)) ggX10_hedge_X10_beside
set_option maxRecDepth 20000 in
theorem ggX10_hedge_X10_isOpen : GoodIn wsX10_hedge wsX10_isOpen := goodIn_r _ [26, 27, 28, 19, 20, 21, 5, 22, 7, 8, 13, 14, 15, 33, 34, 35, 36, 37, 38, 39, 40, 41, 42, 43, 44, 45, 46, 47, 48, 49, 50, 51, 52, 53, 54, 55, 56, 57, 58, 59, 60, 61, 62, 63, 64, 65, 66] (by decide +kernel) (by decide +kernel)
set_option maxRecDepth 20000 in
theorem gX10_hedge_X10_isOpen : GoodIn wsX10_hedge (wsV RX10 160 RX10 yX10_isOpen wsX10_isOpen) := goodIn_app (goodIn_of _ (by decide +kernel)) ggX10_hedge_X10_isOpen
set_option maxRecDepth 20000 in
theorem ggX10_hedge_X10_set : GoodIn wsX10_hedge wsX10_set := goodIn_r _ [32, 27, 28, 19, 20, 21, 5, 22, 7, 8, 13, 14, 15, 33, 34, 35, 36, 37, 38, 39, 40, 41, 42, 43, 44, 45, 46, 47, 48, 49, 50, 51, 52, 53, 54, 55, 56, 57, 58, 59, 60, 61, 62, 63, 64, 65, 66] (by decide +kernel) (by decide +kernel)
set_option maxRecDepth 20000 in
theorem gX10_hedge_X10_set : GoodIn wsX10_hedge (wsV RX10 136 RX10 yX10_set wsX10_set) := goodIn_app (goodIn_of _ (by decide +kernel)) ggX10_hedge_X10_set
theorem dX10_hedge_0 : decode cX10_hedge 0 = .ok (.aload_n 0, 1) := by decide +kernel
theorem dX10_hedge_1 : decode cX10_hedge 1 = .ok (.iconst 0, 1) := by decide +kernel
theorem dX10_hedge_2 : decode cX10_hedge 2 = .ok (.putfield 79, 3) := by decide +kernel
theorem dX10_hedge_5 : decode cX10_hedge 5 = .ok (.aload_n 0, 1) := by decide +kernel
theorem dX10_hedge_6 : decode cX10_hedge 6 = .ok (.iload_n 1, 1) := by decide +kernel
theorem dX10_hedge_7 : decode cX10_hedge 7 = .ok (.invokevirtual 151, 3) := by decide +kernel
theorem dX10_hedge_10 : decode cX10_hedge 10 = .ok (.ifCond .eq 10, 3) := by decide +kernel
theorem dX10_hedge_13 : decode cX10_hedge 13 = .ok (.iload_n 2, 1) := by decide +kernel
theorem dX10_hedge_14 : decode cX10_hedge 14 = .ok (.invokestatic 154, 3) := by decide +kernel
theorem dX10_hedge_17 : decode cX10_hedge 17 = .ok (.ifCond .ne 5, 3) := by decide +kernel
theorem dX10_hedge_20 : decode cX10_hedge 20 = .ok (.iconst (-1), 1) := by decide +kernel
theorem dX10_hedge_21 : decode cX10_hedge 21 = .ok (.ireturn, 1) := by decide +kernel
theorem dX10_hedge_22 : decode cX10_hedge 22 = .ok (.aload_n 0, 1) := by decide +kernel
theorem dX10_hedge_23 : decode cX10_hedge 23 = .ok (.iload_n 1, 1) := by decide +kernel
theorem dX10_hedge_24 : decode cX10_hedge 24 = .ok (.invokestatic 157, 3) := by decide +kernel
theorem dX10_hedge_27 : decode cX10_hedge 27 = .ok (.iload_n 2, 1) := by decide +kernel
theorem dX10_hedge_28 : decode cX10_hedge 28 = .ok (.invokevirtual 113, 3) := by decide +kernel
theorem dX10_hedge_31 : decode cX10_hedge 31 = .ok (.bipush (-9), 2) := by decide +kernel
theorem dX10_hedge_33 : decode cX10_hedge 33 = .ok (.if_icmp .ne 6, 3) := by decide +kernel
theorem dX10_hedge_36 : decode cX10_hedge 36 = .ok (.bipush (-3), 2) := by decide +kernel
theorem dX10_hedge_38 : decode cX10_hedge 38 = .ok (.ireturn, 1) := by decide +kernel
theorem dX10_hedge_39 : decode cX10_hedge 39 = .ok (.aload_n 0, 1) := by decide +kernel
theorem dX10_hedge_40 : decode cX10_hedge 40 = .ok (.iload_n 1, 1) := by decide +kernel
theorem dX10_hedge_41 : decode cX10_hedge 41 = .ok (.invokestatic 157, 3) := by decide +kernel
theorem dX10_hedge_44 : decode cX10_hedge 44 = .ok (.iload_n 2, 1) := by decide +kernel
theorem dX10_hedge_45 : decode cX10_hedge 45 = .ok (.invokevirtual 160, 3) := by decide +kernel
theorem dX10_hedge_48 : decode cX10_hedge 48 = .ok (.ifCond .eq 7, 3) := by decide +kernel
theorem dX10_hedge_51 : decode cX10_hedge 51 = .ok (.iconst 1, 1) := by decide +kernel
theorem dX10_hedge_52 : decode cX10_hedge 52 = .ok (.goto 4, 3) := by decide +kernel
theorem dX10_hedge_55 : decode cX10_hedge 55 = .ok (.iconst 0, 1) := by decide +kernel
theorem dX10_hedge_56 : decode cX10_hedge 56 = .ok (.istore 4, 2) := by decide +kernel
theorem dX10_hedge_58 : decode cX10_hedge 58 = .ok (.aload_n 0, 1) := by decide +kernel
theorem dX10_hedge_59 : decode cX10_hedge 59 = .ok (.iload_n 1, 1) := by decide +kernel
theorem dX10_hedge_60 : decode cX10_hedge 60 = .ok (.invokestatic 157, 3) := by decide +kernel
theorem dX10_hedge_63 : decode cX10_hedge 63 = .ok (.iload_n 2, 1) := by decide +kernel
theorem dX10_hedge_64 : decode cX10_hedge 64 = .ok (.iload_n 3, 1) := by decide +kernel
theorem dX10_hedge_65 : decode cX10_hedge 65 = .ok (.invokevirtual 136, 3) := by decide +kernel
theorem dX10_hedge_68 : decode cX10_hedge 68 = .ok (.iload 4, 2) := by decide +kernel
theorem dX10_hedge_70 : decode cX10_hedge 70 = .ok (.ireturn, 1) := by decide +kernel
set_option maxRecDepth 20000 in
theorem ggX10_gates_X10_isCell : GoodIn wsX10_gates wsX10_isCell := goodIn_r _ [8, 9, 10, 17, 18, 19, 20, 21, 22, 23, 24, 25, 26, 27, 28, 29, 30, 31, 32, 33, 34, 35, 36, 37, 38, 39, 40, 41, 42, 43, 44, 45, 46, 47, 48, 49, 50] (by decide +kernel) (by decide +kernel)
set_option maxRecDepth 20000 in
theorem gX10_gates_X10_isCell : GoodIn wsX10_gates (wsV RX10 151 RX10 yX10_isCell wsX10_isCell) := goodIn_app (goodIn_of _ (by decide +kernel)) ggX10_gates_X10_isCell
set_option maxRecDepth 20000 in
theorem ggX10_gates_X10_code : GoodIn wsX10_gates wsX10_code := goodIn_r _ [13] (by decide +kernel) (by decide +kernel)
set_option maxRecDepth 20000 in
theorem gX10_gates_X10_code : GoodIn wsX10_gates (va_wsS RX10 164 yX10_code wsX10_code) := goodIn_app (goodIn_of _ (by decide +kernel)) ggX10_gates_X10_code
set_option maxRecDepth 20000 in
theorem ggX10_gates_X10_index : GoodIn wsX10_gates wsX10_index := goodIn_r _ [16] (by decide +kernel) (by decide +kernel)
set_option maxRecDepth 20000 in
theorem gX10_gates_X10_index : GoodIn wsX10_gates (va_wsS RX10 157 yX10_index wsX10_index) := goodIn_app (goodIn_of _ (by decide +kernel)) ggX10_gates_X10_index
theorem dX10_gates_0 : decode cX10_gates 0 = .ok (.aload_n 0, 1) := by decide +kernel
theorem dX10_gates_1 : decode cX10_gates 1 = .ok (.iconst 0, 1) := by decide +kernel
theorem dX10_gates_2 : decode cX10_gates 2 = .ok (.putfield 79, 3) := by decide +kernel
theorem dX10_gates_5 : decode cX10_gates 5 = .ok (.aload_n 0, 1) := by decide +kernel
theorem dX10_gates_6 : decode cX10_gates 6 = .ok (.iload_n 1, 1) := by decide +kernel
theorem dX10_gates_7 : decode cX10_gates 7 = .ok (.invokevirtual 151, 3) := by decide +kernel
theorem dX10_gates_10 : decode cX10_gates 10 = .ok (.ifCond .eq 11, 3) := by decide +kernel
theorem dX10_gates_13 : decode cX10_gates 13 = .ok (.aload_n 0, 1) := by decide +kernel
theorem dX10_gates_14 : decode cX10_gates 14 = .ok (.iload_n 2, 1) := by decide +kernel
theorem dX10_gates_15 : decode cX10_gates 15 = .ok (.invokevirtual 151, 3) := by decide +kernel
theorem dX10_gates_18 : decode cX10_gates 18 = .ok (.ifCond .ne 5, 3) := by decide +kernel
theorem dX10_gates_21 : decode cX10_gates 21 = .ok (.iconst (-1), 1) := by decide +kernel
theorem dX10_gates_22 : decode cX10_gates 22 = .ok (.ireturn, 1) := by decide +kernel
theorem dX10_gates_23 : decode cX10_gates 23 = .ok (.bipush 100, 2) := by decide +kernel
theorem dX10_gates_25 : decode cX10_gates 25 = .ok (.aload_n 0, 1) := by decide +kernel
theorem dX10_gates_26 : decode cX10_gates 26 = .ok (.getfield 103, 3) := by decide +kernel
theorem dX10_gates_29 : decode cX10_gates 29 = .ok (.invokestatic 164, 3) := by decide +kernel
theorem dX10_gates_32 : decode cX10_gates 32 = .ok (.imul, 1) := by decide +kernel
theorem dX10_gates_33 : decode cX10_gates 33 = .ok (.aload_n 0, 1) := by decide +kernel
theorem dX10_gates_34 : decode cX10_gates 34 = .ok (.getfield 106, 3) := by decide +kernel
theorem dX10_gates_37 : decode cX10_gates 37 = .ok (.invokestatic 164, 3) := by decide +kernel
theorem dX10_gates_40 : decode cX10_gates 40 = .ok (.iadd, 1) := by decide +kernel
theorem dX10_gates_41 : decode cX10_gates 41 = .ok (.istore_n 3, 1) := by decide +kernel
theorem dX10_gates_42 : decode cX10_gates 42 = .ok (.aload_n 0, 1) := by decide +kernel
theorem dX10_gates_43 : decode cX10_gates 43 = .ok (.iload_n 1, 1) := by decide +kernel
theorem dX10_gates_44 : decode cX10_gates 44 = .ok (.invokestatic 157, 3) := by decide +kernel
theorem dX10_gates_47 : decode cX10_gates 47 = .ok (.putfield 103, 3) := by decide +kernel
theorem dX10_gates_50 : decode cX10_gates 50 = .ok (.aload_n 0, 1) := by decide +kernel
theorem dX10_gates_51 : decode cX10_gates 51 = .ok (.iload_n 2, 1) := by decide +kernel
theorem dX10_gates_52 : decode cX10_gates 52 = .ok (.invokestatic 157, 3) := by decide +kernel
theorem dX10_gates_55 : decode cX10_gates 55 = .ok (.putfield 106, 3) := by decide +kernel
theorem dX10_gates_58 : decode cX10_gates 58 = .ok (.iload_n 3, 1) := by decide +kernel
theorem dX10_gates_59 : decode cX10_gates 59 = .ok (.ireturn, 1) := by decide +kernel
theorem dX10_figureOf_0 : decode cX10_figureOf 0 = .ok (.aload_n 0, 1) := by decide +kernel
theorem dX10_figureOf_1 : decode cX10_figureOf 1 = .ok (.getfield 20, 3) := by decide +kernel
theorem dX10_figureOf_4 : decode cX10_figureOf 4 = .ok (.iload_n 1, 1) := by decide +kernel
theorem dX10_figureOf_5 : decode cX10_figureOf 5 = .ok (.baload, 1) := by decide +kernel
theorem dX10_figureOf_6 : decode cX10_figureOf 6 = .ok (.ifCond .eq 7, 3) := by decide +kernel
theorem dX10_figureOf_9 : decode cX10_figureOf 9 = .ok (.iconst 1, 1) := by decide +kernel
theorem dX10_figureOf_10 : decode cX10_figureOf 10 = .ok (.goto 4, 3) := by decide +kernel
theorem dX10_figureOf_13 : decode cX10_figureOf 13 = .ok (.iconst 0, 1) := by decide +kernel
theorem dX10_figureOf_14 : decode cX10_figureOf 14 = .ok (.aload_n 0, 1) := by decide +kernel
theorem dX10_figureOf_15 : decode cX10_figureOf 15 = .ok (.getfield 24, 3) := by decide +kernel
theorem dX10_figureOf_18 : decode cX10_figureOf 18 = .ok (.iload_n 1, 1) := by decide +kernel
theorem dX10_figureOf_19 : decode cX10_figureOf 19 = .ok (.baload, 1) := by decide +kernel
theorem dX10_figureOf_20 : decode cX10_figureOf 20 = .ok (.ifCond .eq 7, 3) := by decide +kernel
theorem dX10_figureOf_23 : decode cX10_figureOf 23 = .ok (.iconst 2, 1) := by decide +kernel
theorem dX10_figureOf_24 : decode cX10_figureOf 24 = .ok (.goto 4, 3) := by decide +kernel
theorem dX10_figureOf_27 : decode cX10_figureOf 27 = .ok (.iconst 0, 1) := by decide +kernel
theorem dX10_figureOf_28 : decode cX10_figureOf 28 = .ok (.iadd, 1) := by decide +kernel
theorem dX10_figureOf_29 : decode cX10_figureOf 29 = .ok (.ireturn, 1) := by decide +kernel
set_option maxRecDepth 20000 in
theorem ggX10_figure_X10_isCell : GoodIn wsX10_figure wsX10_isCell := goodIn_r _ [6, 7, 8, 18, 19, 20, 21, 22, 23, 24, 25, 26, 27, 28, 29, 30, 31, 32, 33, 34, 35, 36, 37, 38, 39, 40, 41, 42, 43, 44, 45, 46, 47, 48, 49, 50, 51] (by decide +kernel) (by decide +kernel)
set_option maxRecDepth 20000 in
theorem gX10_figure_X10_isCell : GoodIn wsX10_figure (wsV RX10 151 RX10 yX10_isCell wsX10_isCell) := goodIn_app (goodIn_of _ (by decide +kernel)) ggX10_figure_X10_isCell
set_option maxRecDepth 20000 in
theorem ggX10_figure_X10_index : GoodIn wsX10_figure wsX10_index := goodIn_r _ [11] (by decide +kernel) (by decide +kernel)
set_option maxRecDepth 20000 in
theorem gX10_figure_X10_index : GoodIn wsX10_figure (va_wsS RX10 157 yX10_index wsX10_index) := goodIn_app (goodIn_of _ (by decide +kernel)) ggX10_figure_X10_index
set_option maxRecDepth 20000 in
theorem ggX10_figure_X10_figureOf : GoodIn wsX10_figure wsX10_figureOf := goodIn_r _ [15, 16, 17, 18, 19, 20, 21, 22, 23, 24, 25, 26, 27, 28, 29, 30, 31, 32, 33, 34, 35, 36, 37, 38, 39, 40, 41, 42, 43, 44, 45, 46, 47, 48, 49, 50, 51] (by decide +kernel) (by decide +kernel)
set_option maxRecDepth 20000 in
theorem gX10_figure_X10_figureOf : GoodIn wsX10_figure (wsV RX10 167 RX10 yX10_figureOf wsX10_figureOf) := goodIn_app (goodIn_of _ (by decide +kernel)) ggX10_figure_X10_figureOf
theorem dX10_figure_0 : decode cX10_figure 0 = .ok (.aload_n 0, 1) := by decide +kernel
theorem dX10_figure_1 : decode cX10_figure 1 = .ok (.iconst 0, 1) := by decide +kernel
theorem dX10_figure_2 : decode cX10_figure 2 = .ok (.putfield 79, 3) := by decide +kernel
theorem dX10_figure_5 : decode cX10_figure 5 = .ok (.aload_n 0, 1) := by decide +kernel
theorem dX10_figure_6 : decode cX10_figure 6 = .ok (.iload_n 1, 1) := by decide +kernel
theorem dX10_figure_7 : decode cX10_figure 7 = .ok (.invokevirtual 151, 3) := by decide +kernel
theorem dX10_figure_10 : decode cX10_figure 10 = .ok (.ifCond .eq 14, 3) := by decide +kernel
theorem dX10_figure_13 : decode cX10_figure 13 = .ok (.aload_n 0, 1) := by decide +kernel
theorem dX10_figure_14 : decode cX10_figure 14 = .ok (.iload_n 1, 1) := by decide +kernel
theorem dX10_figure_15 : decode cX10_figure 15 = .ok (.invokestatic 157, 3) := by decide +kernel
theorem dX10_figure_18 : decode cX10_figure 18 = .ok (.invokevirtual 167, 3) := by decide +kernel
theorem dX10_figure_21 : decode cX10_figure 21 = .ok (.goto 4, 3) := by decide +kernel
theorem dX10_figure_24 : decode cX10_figure 24 = .ok (.iconst (-1), 1) := by decide +kernel
theorem dX10_figure_25 : decode cX10_figure 25 = .ok (.ireturn, 1) := by decide +kernel
theorem dX10_openings_0 : decode cX10_openings 0 = .ok (.iconst 0, 1) := by decide +kernel
theorem dX10_openings_1 : decode cX10_openings 1 = .ok (.istore_n 1, 1) := by decide +kernel
theorem dX10_openings_2 : decode cX10_openings 2 = .ok (.iconst 0, 1) := by decide +kernel
theorem dX10_openings_3 : decode cX10_openings 3 = .ok (.istore_n 2, 1) := by decide +kernel
theorem dX10_openings_4 : decode cX10_openings 4 = .ok (.iload_n 2, 1) := by decide +kernel
theorem dX10_openings_5 : decode cX10_openings 5 = .ok (.bipush 36, 2) := by decide +kernel
theorem dX10_openings_7 : decode cX10_openings 7 = .ok (.if_icmp .ge 41, 3) := by decide +kernel
theorem dX10_openings_10 : decode cX10_openings 10 = .ok (.iload_n 1, 1) := by decide +kernel
theorem dX10_openings_11 : decode cX10_openings 11 = .ok (.aload_n 0, 1) := by decide +kernel
theorem dX10_openings_12 : decode cX10_openings 12 = .ok (.getfield 20, 3) := by decide +kernel
theorem dX10_openings_15 : decode cX10_openings 15 = .ok (.iload_n 2, 1) := by decide +kernel
theorem dX10_openings_16 : decode cX10_openings 16 = .ok (.baload, 1) := by decide +kernel
theorem dX10_openings_17 : decode cX10_openings 17 = .ok (.ifCond .eq 7, 3) := by decide +kernel
theorem dX10_openings_20 : decode cX10_openings 20 = .ok (.iconst 1, 1) := by decide +kernel
theorem dX10_openings_21 : decode cX10_openings 21 = .ok (.goto 4, 3) := by decide +kernel
theorem dX10_openings_24 : decode cX10_openings 24 = .ok (.iconst 0, 1) := by decide +kernel
theorem dX10_openings_25 : decode cX10_openings 25 = .ok (.aload_n 0, 1) := by decide +kernel
theorem dX10_openings_26 : decode cX10_openings 26 = .ok (.getfield 24, 3) := by decide +kernel
theorem dX10_openings_29 : decode cX10_openings 29 = .ok (.iload_n 2, 1) := by decide +kernel
theorem dX10_openings_30 : decode cX10_openings 30 = .ok (.baload, 1) := by decide +kernel
theorem dX10_openings_31 : decode cX10_openings 31 = .ok (.ifCond .eq 7, 3) := by decide +kernel
theorem dX10_openings_34 : decode cX10_openings 34 = .ok (.iconst 1, 1) := by decide +kernel
theorem dX10_openings_35 : decode cX10_openings 35 = .ok (.goto 4, 3) := by decide +kernel
theorem dX10_openings_38 : decode cX10_openings 38 = .ok (.iconst 0, 1) := by decide +kernel
theorem dX10_openings_39 : decode cX10_openings 39 = .ok (.iadd, 1) := by decide +kernel
theorem dX10_openings_40 : decode cX10_openings 40 = .ok (.iadd, 1) := by decide +kernel
theorem dX10_openings_41 : decode cX10_openings 41 = .ok (.istore_n 1, 1) := by decide +kernel
theorem dX10_openings_42 : decode cX10_openings 42 = .ok (.iinc 2 1, 3) := by decide +kernel
theorem dX10_openings_45 : decode cX10_openings 45 = .ok (.goto (-41), 3) := by decide +kernel
theorem dX10_openings_48 : decode cX10_openings 48 = .ok (.iload_n 1, 1) := by decide +kernel
theorem dX10_openings_49 : decode cX10_openings 49 = .ok (.ireturn, 1) := by decide +kernel
set_option maxRecDepth 20000 in
theorem ggX10_neighbours_X10_isOpen : GoodIn wsX10_neighbours wsX10_isOpen := goodIn_r _ [5, 6, 7, 8, 9, 10, 4, 11, 12, 13, 14, 15, 16, 17, 18, 19, 20, 21, 22, 23, 24, 25, 26, 27, 28, 29, 30, 31, 32, 33, 34, 35, 36, 37, 38, 39, 40, 41, 42, 43, 44, 45, 46, 47, 48, 49, 50] (by decide +kernel) (by decide +kernel)
set_option maxRecDepth 20000 in
theorem gX10_neighbours_X10_isOpen : GoodIn wsX10_neighbours (wsV RX10 160 RX10 yX10_isOpen wsX10_isOpen) := goodIn_app (goodIn_of _ (by decide +kernel)) ggX10_neighbours_X10_isOpen
theorem dX10_neighbours_0 : decode cX10_neighbours 0 = .ok (.iconst 0, 1) := by decide +kernel
theorem dX10_neighbours_1 : decode cX10_neighbours 1 = .ok (.istore_n 2, 1) := by decide +kernel
theorem dX10_neighbours_2 : decode cX10_neighbours 2 = .ok (.iconst 0, 1) := by decide +kernel
theorem dX10_neighbours_3 : decode cX10_neighbours 3 = .ok (.istore_n 3, 1) := by decide +kernel
theorem dX10_neighbours_4 : decode cX10_neighbours 4 = .ok (.iload_n 3, 1) := by decide +kernel
theorem dX10_neighbours_5 : decode cX10_neighbours 5 = .ok (.iconst 4, 1) := by decide +kernel
theorem dX10_neighbours_6 : decode cX10_neighbours 6 = .ok (.if_icmp .ge 26, 3) := by decide +kernel
theorem dX10_neighbours_9 : decode cX10_neighbours 9 = .ok (.iload_n 2, 1) := by decide +kernel
theorem dX10_neighbours_10 : decode cX10_neighbours 10 = .ok (.aload_n 0, 1) := by decide +kernel
theorem dX10_neighbours_11 : decode cX10_neighbours 11 = .ok (.iload_n 1, 1) := by decide +kernel
theorem dX10_neighbours_12 : decode cX10_neighbours 12 = .ok (.iload_n 3, 1) := by decide +kernel
theorem dX10_neighbours_13 : decode cX10_neighbours 13 = .ok (.invokevirtual 160, 3) := by decide +kernel
theorem dX10_neighbours_16 : decode cX10_neighbours 16 = .ok (.ifCond .eq 7, 3) := by decide +kernel
theorem dX10_neighbours_19 : decode cX10_neighbours 19 = .ok (.iconst 1, 1) := by decide +kernel
theorem dX10_neighbours_20 : decode cX10_neighbours 20 = .ok (.goto 4, 3) := by decide +kernel
theorem dX10_neighbours_23 : decode cX10_neighbours 23 = .ok (.iconst 0, 1) := by decide +kernel
theorem dX10_neighbours_24 : decode cX10_neighbours 24 = .ok (.iadd, 1) := by decide +kernel
theorem dX10_neighbours_25 : decode cX10_neighbours 25 = .ok (.istore_n 2, 1) := by decide +kernel
theorem dX10_neighbours_26 : decode cX10_neighbours 26 = .ok (.iinc 3 1, 3) := by decide +kernel
theorem dX10_neighbours_29 : decode cX10_neighbours 29 = .ok (.goto (-25), 3) := by decide +kernel
theorem dX10_neighbours_32 : decode cX10_neighbours 32 = .ok (.iload_n 2, 1) := by decide +kernel
theorem dX10_neighbours_33 : decode cX10_neighbours 33 = .ok (.ireturn, 1) := by decide +kernel
set_option maxRecDepth 20000 in
theorem ggX10_isBridge_X10_set : GoodIn wsX10_isBridge wsX10_set := goodIn_r _ [6, 7, 8, 9, 10, 11, 5, 12, 13, 14, 15, 16, 17, 28, 29, 30, 31, 32, 33, 34, 35, 36, 37, 38, 39, 40, 41, 42, 43, 44, 45, 46, 47, 48, 49, 50, 51, 52, 53, 54, 55, 56, 57, 58, 59, 60, 61] (by decide +kernel) (by decide +kernel)
set_option maxRecDepth 20000 in
theorem gX10_isBridge_X10_set : GoodIn wsX10_isBridge (wsV RX10 136 RX10 yX10_set wsX10_set) := goodIn_app (goodIn_of _ (by decide +kernel)) ggX10_isBridge_X10_set
set_option maxRecDepth 20000 in
theorem ggX10_isBridge_X10_layFar : GoodIn wsX10_isBridge wsX10_layFar := goodIn_r _ [21, 1, 22, 23, 24, 25, 26, 5, 27, 7, 8, 9, 10, 11, 12, 13, 14, 15, 16, 17, 28, 29, 30, 31, 32, 33, 34, 35, 36, 37, 38, 39, 40, 41, 42, 43, 44, 45, 46, 47, 48, 49, 50, 51, 52, 53, 54, 55, 56, 57, 58, 59, 60, 61] (by decide +kernel) (by decide +kernel)
set_option maxRecDepth 20000 in
theorem gX10_isBridge_X10_layFar : GoodIn wsX10_isBridge (wsV RX10 170 RX10 yX10_layFar wsX10_layFar) := goodIn_app (goodIn_of _ (by decide +kernel)) ggX10_isBridge_X10_layFar
set_option maxRecDepth 20000 in
theorem ggX10_isBridge_X10_beside : GoodIn wsX10_isBridge wsX10_beside := goodIn_r _ [12, 13, 14, 15, 16, 5, 17, 28, 29, 30, 31, 32, 33, 34, 35, 36, 37, 38, 39, 40, 41, 42, 43, 44, 45, 46, 47, 48, 49, 50, 51, 52, 53, 54, 55, 56, 57, 58, 59, 60, 61] (by decide +kernel) (by decide +kernel)
set_option maxRecDepth 20000 in
theorem gX10_isBridge_X10_beside : GoodIn wsX10_isBridge (wsV RX10 113 RX10 yX10_beside wsX10_beside) := goodIn_app (goodIn_of _ (by decide +kernel)) ggX10_isBridge_X10_beside
theorem dX10_isBridge_0 : decode cX10_isBridge 0 = .ok (.aload_n 0, 1) := by decide +kernel
theorem dX10_isBridge_1 : decode cX10_isBridge 1 = .ok (.iload_n 1, 1) := by decide +kernel
theorem dX10_isBridge_2 : decode cX10_isBridge 2 = .ok (.iload_n 2, 1) := by decide +kernel
theorem dX10_isBridge_3 : decode cX10_isBridge 3 = .ok (.iconst 0, 1) := by decide +kernel
theorem dX10_isBridge_4 : decode cX10_isBridge 4 = .ok (.invokevirtual 136, 3) := by decide +kernel
theorem dX10_isBridge_7 : decode cX10_isBridge 7 = .ok (.aload_n 0, 1) := by decide +kernel
theorem dX10_isBridge_8 : decode cX10_isBridge 8 = .ok (.iload_n 1, 1) := by decide +kernel
theorem dX10_isBridge_9 : decode cX10_isBridge 9 = .ok (.invokevirtual 170, 3) := by decide +kernel
theorem dX10_isBridge_12 : decode cX10_isBridge 12 = .ok (.aload_n 0, 1) := by decide +kernel
theorem dX10_isBridge_13 : decode cX10_isBridge 13 = .ok (.getfield 39, 3) := by decide +kernel
theorem dX10_isBridge_16 : decode cX10_isBridge 16 = .ok (.aload_n 0, 1) := by decide +kernel
theorem dX10_isBridge_17 : decode cX10_isBridge 17 = .ok (.iload_n 1, 1) := by decide +kernel
theorem dX10_isBridge_18 : decode cX10_isBridge 18 = .ok (.iload_n 2, 1) := by decide +kernel
theorem dX10_isBridge_19 : decode cX10_isBridge 19 = .ok (.invokevirtual 113, 3) := by decide +kernel
theorem dX10_isBridge_22 : decode cX10_isBridge 22 = .ok (.iaload, 1) := by decide +kernel
theorem dX10_isBridge_23 : decode cX10_isBridge 23 = .ok (.sipush 9999, 3) := by decide +kernel
theorem dX10_isBridge_26 : decode cX10_isBridge 26 = .ok (.if_icmp .ne 7, 3) := by decide +kernel
theorem dX10_isBridge_29 : decode cX10_isBridge 29 = .ok (.iconst 1, 1) := by decide +kernel
theorem dX10_isBridge_30 : decode cX10_isBridge 30 = .ok (.goto 4, 3) := by decide +kernel
theorem dX10_isBridge_33 : decode cX10_isBridge 33 = .ok (.iconst 0, 1) := by decide +kernel
theorem dX10_isBridge_34 : decode cX10_isBridge 34 = .ok (.istore_n 3, 1) := by decide +kernel
theorem dX10_isBridge_35 : decode cX10_isBridge 35 = .ok (.aload_n 0, 1) := by decide +kernel
theorem dX10_isBridge_36 : decode cX10_isBridge 36 = .ok (.iload_n 1, 1) := by decide +kernel
theorem dX10_isBridge_37 : decode cX10_isBridge 37 = .ok (.iload_n 2, 1) := by decide +kernel
theorem dX10_isBridge_38 : decode cX10_isBridge 38 = .ok (.iconst 1, 1) := by decide +kernel
theorem dX10_isBridge_39 : decode cX10_isBridge 39 = .ok (.invokevirtual 136, 3) := by decide +kernel
theorem dX10_isBridge_42 : decode cX10_isBridge 42 = .ok (.iload_n 3, 1) := by decide +kernel
theorem dX10_isBridge_43 : decode cX10_isBridge 43 = .ok (.ireturn, 1) := by decide +kernel
set_option maxRecDepth 20000 in
theorem ggX10_bridges_X10_isBridge : GoodIn wsX10_bridges wsX10_isBridge := goodIn_r _ [7, 8, 9, 10, 11, 6, 12, 1, 2, 13, 14, 15, 16, 17, 18, 19, 20, 21, 22, 23, 24, 25, 26, 27, 28, 29, 30, 31, 32, 33, 34, 35, 36, 37, 38, 39, 40, 41, 42, 43, 44, 45, 46, 47, 48, 49, 50, 51, 52, 53, 54, 55, 56, 57, 58, 59, 60, 61, 62, 63, 64, 65] (by decide +kernel) (by decide +kernel)
set_option maxRecDepth 20000 in
theorem gX10_bridges_X10_isBridge : GoodIn wsX10_bridges (wsV RX10 174 RX10 yX10_isBridge wsX10_isBridge) := goodIn_app (goodIn_of _ (by decide +kernel)) ggX10_bridges_X10_isBridge
theorem dX10_bridges_0 : decode cX10_bridges 0 = .ok (.iconst 0, 1) := by decide +kernel
theorem dX10_bridges_1 : decode cX10_bridges 1 = .ok (.istore_n 1, 1) := by decide +kernel
theorem dX10_bridges_2 : decode cX10_bridges 2 = .ok (.iconst 0, 1) := by decide +kernel
theorem dX10_bridges_3 : decode cX10_bridges 3 = .ok (.istore_n 2, 1) := by decide +kernel
theorem dX10_bridges_4 : decode cX10_bridges 4 = .ok (.iload_n 2, 1) := by decide +kernel
theorem dX10_bridges_5 : decode cX10_bridges 5 = .ok (.bipush 36, 2) := by decide +kernel
theorem dX10_bridges_7 : decode cX10_bridges 7 = .ok (.if_icmp .ge 61, 3) := by decide +kernel
theorem dX10_bridges_10 : decode cX10_bridges 10 = .ok (.iload_n 1, 1) := by decide +kernel
theorem dX10_bridges_11 : decode cX10_bridges 11 = .ok (.aload_n 0, 1) := by decide +kernel
theorem dX10_bridges_12 : decode cX10_bridges 12 = .ok (.getfield 20, 3) := by decide +kernel
theorem dX10_bridges_15 : decode cX10_bridges 15 = .ok (.iload_n 2, 1) := by decide +kernel
theorem dX10_bridges_16 : decode cX10_bridges 16 = .ok (.baload, 1) := by decide +kernel
theorem dX10_bridges_17 : decode cX10_bridges 17 = .ok (.ifCond .eq 16, 3) := by decide +kernel
theorem dX10_bridges_20 : decode cX10_bridges 20 = .ok (.aload_n 0, 1) := by decide +kernel
theorem dX10_bridges_21 : decode cX10_bridges 21 = .ok (.iload_n 2, 1) := by decide +kernel
theorem dX10_bridges_22 : decode cX10_bridges 22 = .ok (.iconst 1, 1) := by decide +kernel
theorem dX10_bridges_23 : decode cX10_bridges 23 = .ok (.invokevirtual 174, 3) := by decide +kernel
theorem dX10_bridges_26 : decode cX10_bridges 26 = .ok (.ifCond .eq 7, 3) := by decide +kernel
theorem dX10_bridges_29 : decode cX10_bridges 29 = .ok (.iconst 1, 1) := by decide +kernel
theorem dX10_bridges_30 : decode cX10_bridges 30 = .ok (.goto 4, 3) := by decide +kernel
theorem dX10_bridges_33 : decode cX10_bridges 33 = .ok (.iconst 0, 1) := by decide +kernel
theorem dX10_bridges_34 : decode cX10_bridges 34 = .ok (.iadd, 1) := by decide +kernel
theorem dX10_bridges_35 : decode cX10_bridges 35 = .ok (.istore_n 1, 1) := by decide +kernel
theorem dX10_bridges_36 : decode cX10_bridges 36 = .ok (.iload_n 1, 1) := by decide +kernel
theorem dX10_bridges_37 : decode cX10_bridges 37 = .ok (.aload_n 0, 1) := by decide +kernel
theorem dX10_bridges_38 : decode cX10_bridges 38 = .ok (.getfield 24, 3) := by decide +kernel
theorem dX10_bridges_41 : decode cX10_bridges 41 = .ok (.iload_n 2, 1) := by decide +kernel
theorem dX10_bridges_42 : decode cX10_bridges 42 = .ok (.baload, 1) := by decide +kernel
theorem dX10_bridges_43 : decode cX10_bridges 43 = .ok (.ifCond .eq 16, 3) := by decide +kernel
theorem dX10_bridges_46 : decode cX10_bridges 46 = .ok (.aload_n 0, 1) := by decide +kernel
theorem dX10_bridges_47 : decode cX10_bridges 47 = .ok (.iload_n 2, 1) := by decide +kernel
theorem dX10_bridges_48 : decode cX10_bridges 48 = .ok (.iconst 2, 1) := by decide +kernel
theorem dX10_bridges_49 : decode cX10_bridges 49 = .ok (.invokevirtual 174, 3) := by decide +kernel
theorem dX10_bridges_52 : decode cX10_bridges 52 = .ok (.ifCond .eq 7, 3) := by decide +kernel
theorem dX10_bridges_55 : decode cX10_bridges 55 = .ok (.iconst 1, 1) := by decide +kernel
theorem dX10_bridges_56 : decode cX10_bridges 56 = .ok (.goto 4, 3) := by decide +kernel
theorem dX10_bridges_59 : decode cX10_bridges 59 = .ok (.iconst 0, 1) := by decide +kernel
theorem dX10_bridges_60 : decode cX10_bridges 60 = .ok (.iadd, 1) := by decide +kernel
theorem dX10_bridges_61 : decode cX10_bridges 61 = .ok (.istore_n 1, 1) := by decide +kernel
theorem dX10_bridges_62 : decode cX10_bridges 62 = .ok (.iinc 2 1, 3) := by decide +kernel
theorem dX10_bridges_65 : decode cX10_bridges 65 = .ok (.goto (-61), 3) := by decide +kernel
theorem dX10_bridges_68 : decode cX10_bridges 68 = .ok (.iload_n 1, 1) := by decide +kernel
theorem dX10_bridges_69 : decode cX10_bridges 69 = .ok (.ireturn, 1) := by decide +kernel
set_option maxRecDepth 20000 in
theorem ggX10_farOf_X10_layFar : GoodIn wsX10_farOf wsX10_layFar := goodIn_r _ [6, 1, 7, 8, 9, 10, 11, 5, 12, 13, 14, 15, 16, 17, 18, 19, 20, 21, 22, 23, 24, 25, 26, 27, 28, 29, 30, 31, 32, 33, 34, 35, 36, 37, 38, 39, 40, 41, 42, 43, 44, 45, 46, 47, 48, 49, 50, 51, 52, 53, 54, 55, 56, 57] (by decide +kernel) (by decide +kernel)
set_option maxRecDepth 20000 in
theorem gX10_farOf_X10_layFar : GoodIn wsX10_farOf (wsV RX10 170 RX10 yX10_layFar wsX10_layFar) := goodIn_app (goodIn_of _ (by decide +kernel)) ggX10_farOf_X10_layFar
theorem dX10_farOf_0 : decode cX10_farOf 0 = .ok (.aload_n 0, 1) := by decide +kernel
theorem dX10_farOf_1 : decode cX10_farOf 1 = .ok (.iload_n 1, 1) := by decide +kernel
theorem dX10_farOf_2 : decode cX10_farOf 2 = .ok (.invokevirtual 170, 3) := by decide +kernel
theorem dX10_farOf_5 : decode cX10_farOf 5 = .ok (.aload_n 0, 1) := by decide +kernel
theorem dX10_farOf_6 : decode cX10_farOf 6 = .ok (.getfield 39, 3) := by decide +kernel
theorem dX10_farOf_9 : decode cX10_farOf 9 = .ok (.iload_n 2, 1) := by decide +kernel
theorem dX10_farOf_10 : decode cX10_farOf 10 = .ok (.iaload, 1) := by decide +kernel
theorem dX10_farOf_11 : decode cX10_farOf 11 = .ok (.ireturn, 1) := by decide +kernel
set_option maxRecDepth 20000 in
theorem ggX10_isMust_X10_farOf : GoodIn wsX10_isMust wsX10_farOf := goodIn_r _ [8, 9, 10, 11, 12, 7, 13, 14, 3, 15, 16, 17, 18, 19, 20, 21, 22, 23, 24, 25, 26, 27, 28, 29, 30, 31, 32, 33, 34, 35, 36, 37, 38, 39, 40, 41, 42, 43, 44, 45, 46, 47, 48, 49, 50, 51, 52, 53, 54, 55, 56, 57, 58, 59, 60, 61, 62, 63] (by decide +kernel) (by decide +kernel)
set_option maxRecDepth 20000 in
theorem gX10_isMust_X10_farOf : GoodIn wsX10_isMust (wsV RX10 177 RX10 yX10_farOf wsX10_farOf) := goodIn_app (goodIn_of _ (by decide +kernel)) ggX10_isMust_X10_farOf
theorem dX10_isMust_0 : decode cX10_isMust 0 = .ok (.aload_n 0, 1) := by decide +kernel
theorem dX10_isMust_1 : decode cX10_isMust 1 = .ok (.aload_n 0, 1) := by decide +kernel
theorem dX10_isMust_2 : decode cX10_isMust 2 = .ok (.getfield 103, 3) := by decide +kernel
theorem dX10_isMust_5 : decode cX10_isMust 5 = .ok (.aload_n 0, 1) := by decide +kernel
theorem dX10_isMust_6 : decode cX10_isMust 6 = .ok (.getfield 106, 3) := by decide +kernel
theorem dX10_isMust_9 : decode cX10_isMust 9 = .ok (.invokevirtual 177, 3) := by decide +kernel
theorem dX10_isMust_12 : decode cX10_isMust 12 = .ok (.sipush 9999, 3) := by decide +kernel
theorem dX10_isMust_15 : decode cX10_isMust 15 = .ok (.if_icmp .ne 5, 3) := by decide +kernel
theorem dX10_isMust_18 : decode cX10_isMust 18 = .ok (.iconst 0, 1) := by decide +kernel
theorem dX10_isMust_19 : decode cX10_isMust 19 = .ok (.ireturn, 1) := by decide +kernel
theorem dX10_isMust_20 : decode cX10_isMust 20 = .ok (.iload_n 1, 1) := by decide +kernel
theorem dX10_isMust_21 : decode cX10_isMust 21 = .ok (.aload_n 0, 1) := by decide +kernel
theorem dX10_isMust_22 : decode cX10_isMust 22 = .ok (.getfield 103, 3) := by decide +kernel
theorem dX10_isMust_25 : decode cX10_isMust 25 = .ok (.if_icmp .eq 11, 3) := by decide +kernel
theorem dX10_isMust_28 : decode cX10_isMust 28 = .ok (.iload_n 1, 1) := by decide +kernel
theorem dX10_isMust_29 : decode cX10_isMust 29 = .ok (.aload_n 0, 1) := by decide +kernel
theorem dX10_isMust_30 : decode cX10_isMust 30 = .ok (.getfield 106, 3) := by decide +kernel
theorem dX10_isMust_33 : decode cX10_isMust 33 = .ok (.if_icmp .ne 5, 3) := by decide +kernel
theorem dX10_isMust_36 : decode cX10_isMust 36 = .ok (.iconst 1, 1) := by decide +kernel
theorem dX10_isMust_37 : decode cX10_isMust 37 = .ok (.ireturn, 1) := by decide +kernel
theorem dX10_isMust_38 : decode cX10_isMust 38 = .ok (.aload_n 0, 1) := by decide +kernel
theorem dX10_isMust_39 : decode cX10_isMust 39 = .ok (.getfield 49, 3) := by decide +kernel
theorem dX10_isMust_42 : decode cX10_isMust 42 = .ok (.iload_n 1, 1) := by decide +kernel
theorem dX10_isMust_43 : decode cX10_isMust 43 = .ok (.iconst 1, 1) := by decide +kernel
theorem dX10_isMust_44 : decode cX10_isMust 44 = .ok (.bastore, 1) := by decide +kernel
theorem dX10_isMust_45 : decode cX10_isMust 45 = .ok (.aload_n 0, 1) := by decide +kernel
theorem dX10_isMust_46 : decode cX10_isMust 46 = .ok (.aload_n 0, 1) := by decide +kernel
theorem dX10_isMust_47 : decode cX10_isMust 47 = .ok (.getfield 103, 3) := by decide +kernel
theorem dX10_isMust_50 : decode cX10_isMust 50 = .ok (.aload_n 0, 1) := by decide +kernel
theorem dX10_isMust_51 : decode cX10_isMust 51 = .ok (.getfield 106, 3) := by decide +kernel
theorem dX10_isMust_54 : decode cX10_isMust 54 = .ok (.invokevirtual 177, 3) := by decide +kernel
theorem dX10_isMust_57 : decode cX10_isMust 57 = .ok (.sipush 9999, 3) := by decide +kernel
theorem dX10_isMust_60 : decode cX10_isMust 60 = .ok (.if_icmp .ne 7, 3) := by decide +kernel
theorem dX10_isMust_63 : decode cX10_isMust 63 = .ok (.iconst 1, 1) := by decide +kernel
theorem dX10_isMust_64 : decode cX10_isMust 64 = .ok (.goto 4, 3) := by decide +kernel
theorem dX10_isMust_67 : decode cX10_isMust 67 = .ok (.iconst 0, 1) := by decide +kernel
theorem dX10_isMust_68 : decode cX10_isMust 68 = .ok (.istore_n 2, 1) := by decide +kernel
theorem dX10_isMust_69 : decode cX10_isMust 69 = .ok (.aload_n 0, 1) := by decide +kernel
theorem dX10_isMust_70 : decode cX10_isMust 70 = .ok (.getfield 49, 3) := by decide +kernel
theorem dX10_isMust_73 : decode cX10_isMust 73 = .ok (.iload_n 1, 1) := by decide +kernel
theorem dX10_isMust_74 : decode cX10_isMust 74 = .ok (.iconst 0, 1) := by decide +kernel
theorem dX10_isMust_75 : decode cX10_isMust 75 = .ok (.bastore, 1) := by decide +kernel
theorem dX10_isMust_76 : decode cX10_isMust 76 = .ok (.iload_n 2, 1) := by decide +kernel
theorem dX10_isMust_77 : decode cX10_isMust 77 = .ok (.ireturn, 1) := by decide +kernel
set_option maxRecDepth 20000 in
theorem ggX10_still_X10_isOpen : GoodIn wsX10_still wsX10_isOpen := goodIn_r _ [6, 7, 8, 9, 10, 11, 5, 12, 13, 14, 15, 16, 17, 18, 19, 20, 21, 22, 23, 24, 25, 26, 27, 28, 29, 30, 31, 32, 33, 34, 35, 36, 37, 38, 39, 40, 41, 42, 43, 44, 45, 46, 47, 48, 49, 50, 51] (by decide +kernel) (by decide +kernel)
set_option maxRecDepth 20000 in
theorem gX10_still_X10_isOpen : GoodIn wsX10_still (wsV RX10 160 RX10 yX10_isOpen wsX10_isOpen) := goodIn_app (goodIn_of _ (by decide +kernel)) ggX10_still_X10_isOpen
set_option maxRecDepth 20000 in
theorem ggX10_still_X10_beside : GoodIn wsX10_still wsX10_beside := goodIn_r _ [12, 13, 14, 15, 16, 5, 17, 18, 19, 20, 21, 22, 23, 24, 25, 26, 27, 28, 29, 30, 31, 32, 33, 34, 35, 36, 37, 38, 39, 40, 41, 42, 43, 44, 45, 46, 47, 48, 49, 50, 51] (by decide +kernel) (by decide +kernel)
set_option maxRecDepth 20000 in
theorem gX10_still_X10_beside : GoodIn wsX10_still (wsV RX10 113 RX10 yX10_beside wsX10_beside) := goodIn_app (goodIn_of _ (by decide +kernel)) ggX10_still_X10_beside
theorem dX10_still_0 : decode cX10_still 0 = .ok (.iconst 0, 1) := by decide +kernel
theorem dX10_still_1 : decode cX10_still 1 = .ok (.istore_n 2, 1) := by decide +kernel
theorem dX10_still_2 : decode cX10_still 2 = .ok (.iconst 0, 1) := by decide +kernel
theorem dX10_still_3 : decode cX10_still 3 = .ok (.istore_n 3, 1) := by decide +kernel
theorem dX10_still_4 : decode cX10_still 4 = .ok (.iload_n 3, 1) := by decide +kernel
theorem dX10_still_5 : decode cX10_still 5 = .ok (.iconst 4, 1) := by decide +kernel
theorem dX10_still_6 : decode cX10_still 6 = .ok (.if_icmp .ge 40, 3) := by decide +kernel
theorem dX10_still_9 : decode cX10_still 9 = .ok (.iload_n 2, 1) := by decide +kernel
theorem dX10_still_10 : decode cX10_still 10 = .ok (.aload_n 0, 1) := by decide +kernel
theorem dX10_still_11 : decode cX10_still 11 = .ok (.iload_n 1, 1) := by decide +kernel
theorem dX10_still_12 : decode cX10_still 12 = .ok (.iload_n 3, 1) := by decide +kernel
theorem dX10_still_13 : decode cX10_still 13 = .ok (.invokevirtual 160, 3) := by decide +kernel
theorem dX10_still_16 : decode cX10_still 16 = .ok (.ifCond .eq 21, 3) := by decide +kernel
theorem dX10_still_19 : decode cX10_still 19 = .ok (.aload_n 0, 1) := by decide +kernel
theorem dX10_still_20 : decode cX10_still 20 = .ok (.getfield 49, 3) := by decide +kernel
theorem dX10_still_23 : decode cX10_still 23 = .ok (.aload_n 0, 1) := by decide +kernel
theorem dX10_still_24 : decode cX10_still 24 = .ok (.iload_n 1, 1) := by decide +kernel
theorem dX10_still_25 : decode cX10_still 25 = .ok (.iload_n 3, 1) := by decide +kernel
theorem dX10_still_26 : decode cX10_still 26 = .ok (.invokevirtual 113, 3) := by decide +kernel
theorem dX10_still_29 : decode cX10_still 29 = .ok (.baload, 1) := by decide +kernel
theorem dX10_still_30 : decode cX10_still 30 = .ok (.ifCond .ne 7, 3) := by decide +kernel
theorem dX10_still_33 : decode cX10_still 33 = .ok (.iconst 1, 1) := by decide +kernel
theorem dX10_still_34 : decode cX10_still 34 = .ok (.goto 4, 3) := by decide +kernel
theorem dX10_still_37 : decode cX10_still 37 = .ok (.iconst 0, 1) := by decide +kernel
theorem dX10_still_38 : decode cX10_still 38 = .ok (.iadd, 1) := by decide +kernel
theorem dX10_still_39 : decode cX10_still 39 = .ok (.istore_n 2, 1) := by decide +kernel
theorem dX10_still_40 : decode cX10_still 40 = .ok (.iinc 3 1, 3) := by decide +kernel
theorem dX10_still_43 : decode cX10_still 43 = .ok (.goto (-39), 3) := by decide +kernel
theorem dX10_still_46 : decode cX10_still 46 = .ok (.iload_n 2, 1) := by decide +kernel
theorem dX10_still_47 : decode cX10_still 47 = .ok (.ireturn, 1) := by decide +kernel
set_option maxRecDepth 20000 in
theorem ggX10_fill_X10_isThere : GoodIn wsX10_fill wsX10_isThere := goodIn_r _ [8, 9, 10, 28, 29, 30, 31, 32, 33, 34, 35, 36, 37, 38, 39, 40, 41, 42, 43, 44, 45, 46, 47, 48, 49, 50, 51, 52, 53, 54, 55, 56, 57, 58, 59, 60, 61] (by decide +kernel) (by decide +kernel)
set_option maxRecDepth 20000 in
theorem gX10_fill_X10_isThere : GoodIn wsX10_fill (wsV RX10 125 RX10 yX10_isThere wsX10_isThere) := goodIn_app (goodIn_of _ (by decide +kernel)) ggX10_fill_X10_isThere
set_option maxRecDepth 20000 in
theorem ggX10_fill_X10_still : GoodIn wsX10_fill wsX10_still := goodIn_r _ [14, 1, 15, 16, 17, 7, 18, 19, 20, 21, 22, 23, 24, 9, 10, 25, 26, 27, 28, 29, 30, 31, 32, 33, 34, 35, 36, 37, 38, 39, 40, 41, 42, 43, 44, 45, 46, 47, 48, 49, 50, 51, 52, 53, 54, 55, 56, 57, 58, 59, 60, 61] (by decide +kernel) (by decide +kernel)
set_option maxRecDepth 20000 in
theorem gX10_fill_X10_still : GoodIn wsX10_fill (wsV RX10 180 RX10 yX10_still wsX10_still) := goodIn_app (goodIn_of _ (by decide +kernel)) ggX10_fill_X10_still
theorem dX10_fill_0 : decode cX10_fill 0 = .ok (.iconst 1, 1) := by decide +kernel
theorem dX10_fill_1 : decode cX10_fill 1 = .ok (.istore_n 1, 1) := by decide +kernel
theorem dX10_fill_2 : decode cX10_fill 2 = .ok (.iload_n 1, 1) := by decide +kernel
theorem dX10_fill_3 : decode cX10_fill 3 = .ok (.ifCond .eq 73, 3) := by decide +kernel
theorem dX10_fill_6 : decode cX10_fill 6 = .ok (.iconst 0, 1) := by decide +kernel
theorem dX10_fill_7 : decode cX10_fill 7 = .ok (.istore_n 1, 1) := by decide +kernel
theorem dX10_fill_8 : decode cX10_fill 8 = .ok (.iconst 0, 1) := by decide +kernel
theorem dX10_fill_9 : decode cX10_fill 9 = .ok (.istore_n 2, 1) := by decide +kernel
theorem dX10_fill_10 : decode cX10_fill 10 = .ok (.iload_n 2, 1) := by decide +kernel
theorem dX10_fill_11 : decode cX10_fill 11 = .ok (.bipush 36, 2) := by decide +kernel
theorem dX10_fill_13 : decode cX10_fill 13 = .ok (.if_icmp .ge 60, 3) := by decide +kernel
theorem dX10_fill_16 : decode cX10_fill 16 = .ok (.aload_n 0, 1) := by decide +kernel
theorem dX10_fill_17 : decode cX10_fill 17 = .ok (.iload_n 2, 1) := by decide +kernel
theorem dX10_fill_18 : decode cX10_fill 18 = .ok (.invokevirtual 125, 3) := by decide +kernel
theorem dX10_fill_21 : decode cX10_fill 21 = .ok (.ifCond .eq 46, 3) := by decide +kernel
theorem dX10_fill_24 : decode cX10_fill 24 = .ok (.aload_n 0, 1) := by decide +kernel
theorem dX10_fill_25 : decode cX10_fill 25 = .ok (.getfield 49, 3) := by decide +kernel
theorem dX10_fill_28 : decode cX10_fill 28 = .ok (.iload_n 2, 1) := by decide +kernel
theorem dX10_fill_29 : decode cX10_fill 29 = .ok (.baload, 1) := by decide +kernel
theorem dX10_fill_30 : decode cX10_fill 30 = .ok (.ifCond .ne 37, 3) := by decide +kernel
theorem dX10_fill_33 : decode cX10_fill 33 = .ok (.iload_n 2, 1) := by decide +kernel
theorem dX10_fill_34 : decode cX10_fill 34 = .ok (.aload_n 0, 1) := by decide +kernel
theorem dX10_fill_35 : decode cX10_fill 35 = .ok (.getfield 103, 3) := by decide +kernel
theorem dX10_fill_38 : decode cX10_fill 38 = .ok (.if_icmp .eq 29, 3) := by decide +kernel
theorem dX10_fill_41 : decode cX10_fill 41 = .ok (.iload_n 2, 1) := by decide +kernel
theorem dX10_fill_42 : decode cX10_fill 42 = .ok (.aload_n 0, 1) := by decide +kernel
theorem dX10_fill_43 : decode cX10_fill 43 = .ok (.getfield 106, 3) := by decide +kernel
theorem dX10_fill_46 : decode cX10_fill 46 = .ok (.if_icmp .eq 21, 3) := by decide +kernel
theorem dX10_fill_49 : decode cX10_fill 49 = .ok (.aload_n 0, 1) := by decide +kernel
theorem dX10_fill_50 : decode cX10_fill 50 = .ok (.iload_n 2, 1) := by decide +kernel
theorem dX10_fill_51 : decode cX10_fill 51 = .ok (.invokevirtual 180, 3) := by decide +kernel
theorem dX10_fill_54 : decode cX10_fill 54 = .ok (.iconst 2, 1) := by decide +kernel
theorem dX10_fill_55 : decode cX10_fill 55 = .ok (.if_icmp .ge 12, 3) := by decide +kernel
theorem dX10_fill_58 : decode cX10_fill 58 = .ok (.aload_n 0, 1) := by decide +kernel
theorem dX10_fill_59 : decode cX10_fill 59 = .ok (.getfield 49, 3) := by decide +kernel
theorem dX10_fill_62 : decode cX10_fill 62 = .ok (.iload_n 2, 1) := by decide +kernel
theorem dX10_fill_63 : decode cX10_fill 63 = .ok (.iconst 1, 1) := by decide +kernel
theorem dX10_fill_64 : decode cX10_fill 64 = .ok (.bastore, 1) := by decide +kernel
theorem dX10_fill_65 : decode cX10_fill 65 = .ok (.iconst 1, 1) := by decide +kernel
theorem dX10_fill_66 : decode cX10_fill 66 = .ok (.istore_n 1, 1) := by decide +kernel
theorem dX10_fill_67 : decode cX10_fill 67 = .ok (.iinc 2 1, 3) := by decide +kernel
theorem dX10_fill_70 : decode cX10_fill 70 = .ok (.goto (-60), 3) := by decide +kernel
theorem dX10_fill_73 : decode cX10_fill 73 = .ok (.goto (-71), 3) := by decide +kernel
theorem dX10_fill_76 : decode cX10_fill 76 = .ok (.iconst 0, 1) := by decide +kernel
theorem dX10_fill_77 : decode cX10_fill 77 = .ok (.istore_n 2, 1) := by decide +kernel
theorem dX10_fill_78 : decode cX10_fill 78 = .ok (.iconst 0, 1) := by decide +kernel
theorem dX10_fill_79 : decode cX10_fill 79 = .ok (.istore_n 3, 1) := by decide +kernel
theorem dX10_fill_80 : decode cX10_fill 80 = .ok (.iload_n 3, 1) := by decide +kernel
theorem dX10_fill_81 : decode cX10_fill 81 = .ok (.bipush 36, 2) := by decide +kernel
theorem dX10_fill_83 : decode cX10_fill 83 = .ok (.if_icmp .ge 34, 3) := by decide +kernel
theorem dX10_fill_86 : decode cX10_fill 86 = .ok (.iload_n 2, 1) := by decide +kernel
theorem dX10_fill_87 : decode cX10_fill 87 = .ok (.aload_n 0, 1) := by decide +kernel
theorem dX10_fill_88 : decode cX10_fill 88 = .ok (.iload_n 3, 1) := by decide +kernel
theorem dX10_fill_89 : decode cX10_fill 89 = .ok (.invokevirtual 125, 3) := by decide +kernel
theorem dX10_fill_92 : decode cX10_fill 92 = .ok (.ifCond .eq 16, 3) := by decide +kernel
theorem dX10_fill_95 : decode cX10_fill 95 = .ok (.aload_n 0, 1) := by decide +kernel
theorem dX10_fill_96 : decode cX10_fill 96 = .ok (.getfield 49, 3) := by decide +kernel
theorem dX10_fill_99 : decode cX10_fill 99 = .ok (.iload_n 3, 1) := by decide +kernel
theorem dX10_fill_100 : decode cX10_fill 100 = .ok (.baload, 1) := by decide +kernel
theorem dX10_fill_101 : decode cX10_fill 101 = .ok (.ifCond .ne 7, 3) := by decide +kernel
theorem dX10_fill_104 : decode cX10_fill 104 = .ok (.iconst 1, 1) := by decide +kernel
theorem dX10_fill_105 : decode cX10_fill 105 = .ok (.goto 4, 3) := by decide +kernel
theorem dX10_fill_108 : decode cX10_fill 108 = .ok (.iconst 0, 1) := by decide +kernel
theorem dX10_fill_109 : decode cX10_fill 109 = .ok (.iadd, 1) := by decide +kernel
theorem dX10_fill_110 : decode cX10_fill 110 = .ok (.istore_n 2, 1) := by decide +kernel
theorem dX10_fill_111 : decode cX10_fill 111 = .ok (.iinc 3 1, 3) := by decide +kernel
theorem dX10_fill_114 : decode cX10_fill 114 = .ok (.goto (-34), 3) := by decide +kernel
theorem dX10_fill_117 : decode cX10_fill 117 = .ok (.iload_n 2, 1) := by decide +kernel
theorem dX10_fill_118 : decode cX10_fill 118 = .ok (.ireturn, 1) := by decide +kernel
theorem dX10_clearShut_0 : decode cX10_clearShut 0 = .ok (.iconst 0, 1) := by decide +kernel
theorem dX10_clearShut_1 : decode cX10_clearShut 1 = .ok (.istore_n 1, 1) := by decide +kernel
theorem dX10_clearShut_2 : decode cX10_clearShut 2 = .ok (.iload_n 1, 1) := by decide +kernel
theorem dX10_clearShut_3 : decode cX10_clearShut 3 = .ok (.bipush 36, 2) := by decide +kernel
theorem dX10_clearShut_5 : decode cX10_clearShut 5 = .ok (.if_icmp .ge 16, 3) := by decide +kernel
theorem dX10_clearShut_8 : decode cX10_clearShut 8 = .ok (.aload_n 0, 1) := by decide +kernel
theorem dX10_clearShut_9 : decode cX10_clearShut 9 = .ok (.getfield 49, 3) := by decide +kernel
theorem dX10_clearShut_12 : decode cX10_clearShut 12 = .ok (.iload_n 1, 1) := by decide +kernel
theorem dX10_clearShut_13 : decode cX10_clearShut 13 = .ok (.iconst 0, 1) := by decide +kernel
theorem dX10_clearShut_14 : decode cX10_clearShut 14 = .ok (.bastore, 1) := by decide +kernel
theorem dX10_clearShut_15 : decode cX10_clearShut 15 = .ok (.iinc 1 1, 3) := by decide +kernel
theorem dX10_clearShut_18 : decode cX10_clearShut 18 = .ok (.goto (-16), 3) := by decide +kernel
theorem dX10_clearShut_21 : decode cX10_clearShut 21 = .ok (.return_, 1) := by decide +kernel
set_option maxRecDepth 20000 in
theorem ggX10_about_X10_isThere : GoodIn wsX10_about wsX10_isThere := goodIn_r _ [11, 2, 3, 80, 81, 82, 83, 84, 85, 86, 87, 88, 89, 90, 91, 92, 93, 94, 95, 96, 97, 98, 99, 100, 101, 102, 103, 104, 105, 106, 107, 108, 109, 110, 111, 112, 113] (by decide +kernel) (by decide +kernel)
set_option maxRecDepth 20000 in
theorem gX10_about_X10_isThere : GoodIn wsX10_about (wsV RX10 125 RX10 yX10_isThere wsX10_isThere) := goodIn_app (goodIn_of _ (by decide +kernel)) ggX10_about_X10_isThere
set_option maxRecDepth 20000 in
theorem ggX10_about_X10_neighbours : GoodIn wsX10_about wsX10_neighbours := goodIn_r _ [15, 16, 17, 18, 10, 19, 20, 21, 22, 23, 24, 25, 2, 3, 26, 27, 28, 80, 81, 82, 83, 84, 85, 86, 87, 88, 89, 90, 91, 92, 93, 94, 95, 96, 97, 98, 99, 100, 101, 102, 103, 104, 105, 106, 107, 108, 109, 110, 111, 112, 113] (by decide +kernel) (by decide +kernel)
set_option maxRecDepth 20000 in
theorem gX10_about_X10_neighbours : GoodIn wsX10_about (wsV RX10 183 RX10 yX10_neighbours wsX10_neighbours) := goodIn_app (goodIn_of _ (by decide +kernel)) ggX10_about_X10_neighbours
set_option maxRecDepth 20000 in
theorem ggX10_about_X10_isMust : GoodIn wsX10_about wsX10_isMust := goodIn_r _ [32, 4, 5, 33, 34, 35, 36, 10, 37, 38, 39, 40, 41, 42, 43, 16, 17, 18, 19, 20, 21, 22, 23, 24, 25, 2, 3, 26, 27, 28, 80, 81, 82, 83, 84, 85, 86, 87, 88, 89, 90, 91, 92, 93, 94, 95, 96, 97, 98, 99, 100, 101, 102, 103, 104, 105, 106, 107, 108, 109, 110, 111, 112, 113] (by decide +kernel) (by decide +kernel)
set_option maxRecDepth 20000 in
theorem gX10_about_X10_isMust : GoodIn wsX10_about (wsV RX10 186 RX10 yX10_isMust wsX10_isMust) := goodIn_app (goodIn_of _ (by decide +kernel)) ggX10_about_X10_isMust
set_option maxRecDepth 20000 in
theorem ggX10_about_X10_openings : GoodIn wsX10_about wsX10_openings := goodIn_r _ [47, 20, 21, 80, 81, 82, 83, 84, 85, 86, 87, 88, 89, 90, 91, 92, 93, 94, 95, 96, 97, 98, 99, 100, 101, 102, 103, 104, 105, 106, 107, 108, 109, 110, 111, 112, 113] (by decide +kernel) (by decide +kernel)
set_option maxRecDepth 20000 in
theorem gX10_about_X10_openings : GoodIn wsX10_about (wsV RX10 189 RX10 yX10_openings wsX10_openings) := goodIn_app (goodIn_of _ (by decide +kernel)) ggX10_about_X10_openings
set_option maxRecDepth 20000 in
theorem ggX10_about_X10_layParts : GoodIn wsX10_about wsX10_layParts := goodIn_r _ [51, 52, 38, 7, 8, 9, 10, 11, 2, 3, 39, 40, 41, 42, 43, 33, 16, 17, 18, 19, 20, 21, 22, 23, 24, 25, 26, 27, 28, 80, 81, 82, 83, 84, 85, 86, 87, 88, 89, 90, 91, 92, 93, 94, 95, 96, 97, 98, 99, 100, 101, 102, 103, 104, 105, 106, 107, 108, 109, 110, 111, 112, 113] (by decide +kernel) (by decide +kernel)
set_option maxRecDepth 20000 in
theorem gX10_about_X10_layParts : GoodIn wsX10_about (wsV RX10 133 RX10 yX10_layParts wsX10_layParts) := goodIn_app (goodIn_of _ (by decide +kernel)) ggX10_about_X10_layParts
set_option maxRecDepth 20000 in
theorem ggX10_about_X10_bridges : GoodIn wsX10_about wsX10_bridges := goodIn_r _ [56, 20, 21, 57, 58, 59, 10, 60, 38, 61, 62, 63, 64, 22, 23, 24, 25, 2, 3, 26, 27, 28, 39, 40, 41, 42, 43, 33, 16, 17, 18, 19, 80, 81, 82, 83, 84, 85, 86, 87, 88, 89, 90, 91, 92, 93, 94, 95, 96, 97, 98, 99, 100, 101, 102, 103, 104, 105, 106, 107, 108, 109, 110, 111, 112, 113] (by decide +kernel) (by decide +kernel)
set_option maxRecDepth 20000 in
theorem gX10_about_X10_bridges : GoodIn wsX10_about (wsV RX10 192 RX10 yX10_bridges wsX10_bridges) := goodIn_app (goodIn_of _ (by decide +kernel)) ggX10_about_X10_bridges
set_option maxRecDepth 20000 in
theorem ggX10_about_X10_fill : GoodIn wsX10_about wsX10_fill := goodIn_r _ [68, 33, 4, 5, 7, 8, 9, 10, 11, 2, 3, 69, 70, 71, 72, 16, 17, 18, 19, 20, 21, 22, 23, 24, 25, 26, 27, 28, 80, 81, 82, 83, 84, 85, 86, 87, 88, 89, 90, 91, 92, 93, 94, 95, 96, 97, 98, 99, 100, 101, 102, 103, 104, 105, 106, 107, 108, 109, 110, 111, 112, 113] (by decide +kernel) (by decide +kernel)
set_option maxRecDepth 20000 in
theorem gX10_about_X10_fill : GoodIn wsX10_about (wsV RX10 195 RX10 yX10_fill wsX10_fill) := goodIn_app (goodIn_of _ (by decide +kernel)) ggX10_about_X10_fill
set_option maxRecDepth 20000 in
theorem ggX10_about_X10_clearShut : GoodIn wsX10_about wsX10_clearShut := goodIn_r _ [76, 33, 80, 81, 82, 83, 84, 85, 86, 87, 88, 89, 90, 91, 92, 93, 94, 95, 96, 97, 98, 99, 100, 101, 102, 103, 104, 105, 106, 107, 108, 109, 110, 111, 112, 113] (by decide +kernel) (by decide +kernel)
set_option maxRecDepth 20000 in
theorem gX10_about_X10_clearShut : GoodIn wsX10_about (wsV RX10 198 RX10 yX10_clearShut wsX10_clearShut) := goodIn_app (goodIn_of _ (by decide +kernel)) ggX10_about_X10_clearShut
set_option maxRecDepth 20000 in
theorem ggX10_about_X10_code : GoodIn wsX10_about wsX10_code := goodIn_r _ [79] (by decide +kernel) (by decide +kernel)
set_option maxRecDepth 20000 in
theorem gX10_about_X10_code : GoodIn wsX10_about (va_wsS RX10 164 yX10_code wsX10_code) := goodIn_app (goodIn_of _ (by decide +kernel)) ggX10_about_X10_code
theorem dX10_about_0 : decode cX10_about 0 = .ok (.aload_n 0, 1) := by decide +kernel
theorem dX10_about_1 : decode cX10_about 1 = .ok (.iconst 0, 1) := by decide +kernel
theorem dX10_about_2 : decode cX10_about 2 = .ok (.putfield 79, 3) := by decide +kernel
theorem dX10_about_5 : decode cX10_about 5 = .ok (.iconst 0, 1) := by decide +kernel
theorem dX10_about_6 : decode cX10_about 6 = .ok (.istore_n 2, 1) := by decide +kernel
theorem dX10_about_7 : decode cX10_about 7 = .ok (.iconst 0, 1) := by decide +kernel
theorem dX10_about_8 : decode cX10_about 8 = .ok (.istore_n 3, 1) := by decide +kernel
theorem dX10_about_9 : decode cX10_about 9 = .ok (.iconst 0, 1) := by decide +kernel
theorem dX10_about_10 : decode cX10_about 10 = .ok (.istore 4, 2) := by decide +kernel
theorem dX10_about_12 : decode cX10_about 12 = .ok (.iconst 0, 1) := by decide +kernel
theorem dX10_about_13 : decode cX10_about 13 = .ok (.istore 5, 2) := by decide +kernel
theorem dX10_about_15 : decode cX10_about 15 = .ok (.iload 5, 2) := by decide +kernel
theorem dX10_about_17 : decode cX10_about 17 = .ok (.bipush 36, 2) := by decide +kernel
theorem dX10_about_19 : decode cX10_about 19 = .ok (.if_icmp .ge 63, 3) := by decide +kernel
theorem dX10_about_22 : decode cX10_about 22 = .ok (.iload_n 2, 1) := by decide +kernel
theorem dX10_about_23 : decode cX10_about 23 = .ok (.aload_n 0, 1) := by decide +kernel
theorem dX10_about_24 : decode cX10_about 24 = .ok (.iload 5, 2) := by decide +kernel
theorem dX10_about_26 : decode cX10_about 26 = .ok (.invokevirtual 125, 3) := by decide +kernel
theorem dX10_about_29 : decode cX10_about 29 = .ok (.ifCond .eq 17, 3) := by decide +kernel
theorem dX10_about_32 : decode cX10_about 32 = .ok (.aload_n 0, 1) := by decide +kernel
theorem dX10_about_33 : decode cX10_about 33 = .ok (.iload 5, 2) := by decide +kernel
theorem dX10_about_35 : decode cX10_about 35 = .ok (.invokevirtual 183, 3) := by decide +kernel
theorem dX10_about_38 : decode cX10_about 38 = .ok (.iconst 1, 1) := by decide +kernel
theorem dX10_about_39 : decode cX10_about 39 = .ok (.if_icmp .ne 7, 3) := by decide +kernel
theorem dX10_about_42 : decode cX10_about 42 = .ok (.iconst 1, 1) := by decide +kernel
theorem dX10_about_43 : decode cX10_about 43 = .ok (.goto 4, 3) := by decide +kernel
theorem dX10_about_46 : decode cX10_about 46 = .ok (.iconst 0, 1) := by decide +kernel
theorem dX10_about_47 : decode cX10_about 47 = .ok (.iadd, 1) := by decide +kernel
theorem dX10_about_48 : decode cX10_about 48 = .ok (.istore_n 2, 1) := by decide +kernel
theorem dX10_about_49 : decode cX10_about 49 = .ok (.iload_n 3, 1) := by decide +kernel
theorem dX10_about_50 : decode cX10_about 50 = .ok (.aload_n 0, 1) := by decide +kernel
theorem dX10_about_51 : decode cX10_about 51 = .ok (.iload 5, 2) := by decide +kernel
theorem dX10_about_53 : decode cX10_about 53 = .ok (.invokevirtual 125, 3) := by decide +kernel
theorem dX10_about_56 : decode cX10_about 56 = .ok (.ifCond .eq 17, 3) := by decide +kernel
theorem dX10_about_59 : decode cX10_about 59 = .ok (.aload_n 0, 1) := by decide +kernel
theorem dX10_about_60 : decode cX10_about 60 = .ok (.iload 5, 2) := by decide +kernel
theorem dX10_about_62 : decode cX10_about 62 = .ok (.invokevirtual 183, 3) := by decide +kernel
theorem dX10_about_65 : decode cX10_about 65 = .ok (.iconst 2, 1) := by decide +kernel
theorem dX10_about_66 : decode cX10_about 66 = .ok (.if_icmp .le 7, 3) := by decide +kernel
theorem dX10_about_69 : decode cX10_about 69 = .ok (.iconst 1, 1) := by decide +kernel
theorem dX10_about_70 : decode cX10_about 70 = .ok (.goto 4, 3) := by decide +kernel
theorem dX10_about_73 : decode cX10_about 73 = .ok (.iconst 0, 1) := by decide +kernel
theorem dX10_about_74 : decode cX10_about 74 = .ok (.iadd, 1) := by decide +kernel
theorem dX10_about_75 : decode cX10_about 75 = .ok (.istore_n 3, 1) := by decide +kernel
theorem dX10_about_76 : decode cX10_about 76 = .ok (.iinc 5 1, 3) := by decide +kernel
theorem dX10_about_79 : decode cX10_about 79 = .ok (.goto (-64), 3) := by decide +kernel
theorem dX10_about_82 : decode cX10_about 82 = .ok (.iconst 0, 1) := by decide +kernel
theorem dX10_about_83 : decode cX10_about 83 = .ok (.istore 5, 2) := by decide +kernel
theorem dX10_about_85 : decode cX10_about 85 = .ok (.iload 5, 2) := by decide +kernel
theorem dX10_about_87 : decode cX10_about 87 = .ok (.bipush 36, 2) := by decide +kernel
theorem dX10_about_89 : decode cX10_about 89 = .ok (.if_icmp .ge 43, 3) := by decide +kernel
theorem dX10_about_92 : decode cX10_about 92 = .ok (.iload_n 1, 1) := by decide +kernel
theorem dX10_about_93 : decode cX10_about 93 = .ok (.bipush 9, 2) := by decide +kernel
theorem dX10_about_95 : decode cX10_about 95 = .ok (.if_icmp .ne 37, 3) := by decide +kernel
theorem dX10_about_98 : decode cX10_about 98 = .ok (.iload 4, 2) := by decide +kernel
theorem dX10_about_100 : decode cX10_about 100 = .ok (.aload_n 0, 1) := by decide +kernel
theorem dX10_about_101 : decode cX10_about 101 = .ok (.iload 5, 2) := by decide +kernel
theorem dX10_about_103 : decode cX10_about 103 = .ok (.invokevirtual 125, 3) := by decide +kernel
theorem dX10_about_106 : decode cX10_about 106 = .ok (.ifCond .eq 16, 3) := by decide +kernel
theorem dX10_about_109 : decode cX10_about 109 = .ok (.aload_n 0, 1) := by decide +kernel
theorem dX10_about_110 : decode cX10_about 110 = .ok (.iload 5, 2) := by decide +kernel
theorem dX10_about_112 : decode cX10_about 112 = .ok (.invokevirtual 186, 3) := by decide +kernel
theorem dX10_about_115 : decode cX10_about 115 = .ok (.ifCond .eq 7, 3) := by decide +kernel
theorem dX10_about_118 : decode cX10_about 118 = .ok (.iconst 1, 1) := by decide +kernel
theorem dX10_about_119 : decode cX10_about 119 = .ok (.goto 4, 3) := by decide +kernel
theorem dX10_about_122 : decode cX10_about 122 = .ok (.iconst 0, 1) := by decide +kernel
theorem dX10_about_123 : decode cX10_about 123 = .ok (.iadd, 1) := by decide +kernel
theorem dX10_about_124 : decode cX10_about 124 = .ok (.istore 4, 2) := by decide +kernel
theorem dX10_about_126 : decode cX10_about 126 = .ok (.iinc 5 1, 3) := by decide +kernel
theorem dX10_about_129 : decode cX10_about 129 = .ok (.goto (-44), 3) := by decide +kernel
theorem dX10_about_132 : decode cX10_about 132 = .ok (.iload_n 1, 1) := by decide +kernel
theorem dX10_about_133 : decode cX10_about 133 = .ok (.tableswitch 167 0 13 #[71, 81, 86, 91, 96, 101, 121, 123, 125, 130, 133, 146, 154, 162], 71) := by decide +kernel
theorem dX10_about_204 : decode cX10_about 204 = .ok (.aload_n 0, 1) := by decide +kernel
theorem dX10_about_205 : decode cX10_about 205 = .ok (.getfield 13, 3) := by decide +kernel
theorem dX10_about_208 : decode cX10_about 208 = .ok (.aload_n 0, 1) := by decide +kernel
theorem dX10_about_209 : decode cX10_about 209 = .ok (.getfield 17, 3) := by decide +kernel
theorem dX10_about_212 : decode cX10_about 212 = .ok (.imul, 1) := by decide +kernel
theorem dX10_about_213 : decode cX10_about 213 = .ok (.ireturn, 1) := by decide +kernel
theorem dX10_about_214 : decode cX10_about 214 = .ok (.aload_n 0, 1) := by decide +kernel
theorem dX10_about_215 : decode cX10_about 215 = .ok (.getfield 13, 3) := by decide +kernel
theorem dX10_about_218 : decode cX10_about 218 = .ok (.ireturn, 1) := by decide +kernel
theorem dX10_about_219 : decode cX10_about 219 = .ok (.aload_n 0, 1) := by decide +kernel
theorem dX10_about_220 : decode cX10_about 220 = .ok (.getfield 17, 3) := by decide +kernel
theorem dX10_about_223 : decode cX10_about 223 = .ok (.ireturn, 1) := by decide +kernel
theorem dX10_about_224 : decode cX10_about 224 = .ok (.aload_n 0, 1) := by decide +kernel
theorem dX10_about_225 : decode cX10_about 225 = .ok (.invokevirtual 189, 3) := by decide +kernel
theorem dX10_about_228 : decode cX10_about 228 = .ok (.ireturn, 1) := by decide +kernel
theorem dX10_about_229 : decode cX10_about 229 = .ok (.aload_n 0, 1) := by decide +kernel
theorem dX10_about_230 : decode cX10_about 230 = .ok (.invokevirtual 133, 3) := by decide +kernel
theorem dX10_about_233 : decode cX10_about 233 = .ok (.ireturn, 1) := by decide +kernel
theorem dX10_about_234 : decode cX10_about 234 = .ok (.aload_n 0, 1) := by decide +kernel
theorem dX10_about_235 : decode cX10_about 235 = .ok (.invokevirtual 189, 3) := by decide +kernel
theorem dX10_about_238 : decode cX10_about 238 = .ok (.aload_n 0, 1) := by decide +kernel
theorem dX10_about_239 : decode cX10_about 239 = .ok (.getfield 13, 3) := by decide +kernel
theorem dX10_about_242 : decode cX10_about 242 = .ok (.aload_n 0, 1) := by decide +kernel
theorem dX10_about_243 : decode cX10_about 243 = .ok (.getfield 17, 3) := by decide +kernel
theorem dX10_about_246 : decode cX10_about 246 = .ok (.imul, 1) := by decide +kernel
theorem dX10_about_247 : decode cX10_about 247 = .ok (.isub, 1) := by decide +kernel
theorem dX10_about_248 : decode cX10_about 248 = .ok (.aload_n 0, 1) := by decide +kernel
theorem dX10_about_249 : decode cX10_about 249 = .ok (.invokevirtual 133, 3) := by decide +kernel
theorem dX10_about_252 : decode cX10_about 252 = .ok (.iadd, 1) := by decide +kernel
theorem dX10_about_253 : decode cX10_about 253 = .ok (.ireturn, 1) := by decide +kernel
theorem dX10_about_254 : decode cX10_about 254 = .ok (.iload_n 2, 1) := by decide +kernel
theorem dX10_about_255 : decode cX10_about 255 = .ok (.ireturn, 1) := by decide +kernel
theorem dX10_about_256 : decode cX10_about 256 = .ok (.iload_n 3, 1) := by decide +kernel
theorem dX10_about_257 : decode cX10_about 257 = .ok (.ireturn, 1) := by decide +kernel
theorem dX10_about_258 : decode cX10_about 258 = .ok (.aload_n 0, 1) := by decide +kernel
theorem dX10_about_259 : decode cX10_about 259 = .ok (.invokevirtual 192, 3) := by decide +kernel
theorem dX10_about_262 : decode cX10_about 262 = .ok (.ireturn, 1) := by decide +kernel
theorem dX10_about_263 : decode cX10_about 263 = .ok (.iload 4, 2) := by decide +kernel
theorem dX10_about_265 : decode cX10_about 265 = .ok (.ireturn, 1) := by decide +kernel
theorem dX10_about_266 : decode cX10_about 266 = .ok (.aload_n 0, 1) := by decide +kernel
theorem dX10_about_267 : decode cX10_about 267 = .ok (.invokevirtual 195, 3) := by decide +kernel
theorem dX10_about_270 : decode cX10_about 270 = .ok (.istore 5, 2) := by decide +kernel
theorem dX10_about_272 : decode cX10_about 272 = .ok (.aload_n 0, 1) := by decide +kernel
theorem dX10_about_273 : decode cX10_about 273 = .ok (.invokevirtual 198, 3) := by decide +kernel
theorem dX10_about_276 : decode cX10_about 276 = .ok (.iload 5, 2) := by decide +kernel
theorem dX10_about_278 : decode cX10_about 278 = .ok (.ireturn, 1) := by decide +kernel
theorem dX10_about_279 : decode cX10_about 279 = .ok (.aload_n 0, 1) := by decide +kernel
theorem dX10_about_280 : decode cX10_about 280 = .ok (.getfield 103, 3) := by decide +kernel
theorem dX10_about_283 : decode cX10_about 283 = .ok (.invokestatic 164, 3) := by decide +kernel
theorem dX10_about_286 : decode cX10_about 286 = .ok (.ireturn, 1) := by decide +kernel
theorem dX10_about_287 : decode cX10_about 287 = .ok (.aload_n 0, 1) := by decide +kernel
theorem dX10_about_288 : decode cX10_about 288 = .ok (.getfield 106, 3) := by decide +kernel
theorem dX10_about_291 : decode cX10_about 291 = .ok (.invokestatic 164, 3) := by decide +kernel
theorem dX10_about_294 : decode cX10_about 294 = .ok (.ireturn, 1) := by decide +kernel
theorem dX10_about_295 : decode cX10_about 295 = .ok (.aload_n 0, 1) := by decide +kernel
theorem dX10_about_296 : decode cX10_about 296 = .ok (.getfield 88, 3) := by decide +kernel
theorem dX10_about_299 : decode cX10_about 299 = .ok (.ireturn, 1) := by decide +kernel
theorem dX10_about_300 : decode cX10_about 300 = .ok (.bipush (-2), 2) := by decide +kernel
theorem dX10_about_302 : decode cX10_about 302 = .ok (.ireturn, 1) := by decide +kernel
