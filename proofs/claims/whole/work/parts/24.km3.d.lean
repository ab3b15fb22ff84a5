theorem dX10_reduce_0 : decode cX10_reduce 0 = .ok (.lconst 1, 1) := by decide +kernel
theorem dX10_reduce_1 : decode cX10_reduce 1 = .ok (.lstore_n 2, 1) := by decide +kernel
theorem dX10_reduce_2 : decode cX10_reduce 2 = .ok (.iconst 0, 1) := by decide +kernel
theorem dX10_reduce_3 : decode cX10_reduce 3 = .ok (.istore 4, 2) := by decide +kernel
theorem dX10_reduce_5 : decode cX10_reduce 5 = .ok (.iload 4, 2) := by decide +kernel
theorem dX10_reduce_7 : decode cX10_reduce 7 = .ok (.iload_n 1, 1) := by decide +kernel
theorem dX10_reduce_8 : decode cX10_reduce 8 = .ok (.iconst 1, 1) := by decide +kernel
theorem dX10_reduce_9 : decode cX10_reduce 9 = .ok (.isub, 1) := by decide +kernel
theorem dX10_reduce_10 : decode cX10_reduce 10 = .ok (.if_icmp .ge 136, 3) := by decide +kernel
theorem dX10_reduce_13 : decode cX10_reduce 13 = .ok (.iload 4, 2) := by decide +kernel
theorem dX10_reduce_15 : decode cX10_reduce 15 = .ok (.iconst 1, 1) := by decide +kernel
theorem dX10_reduce_16 : decode cX10_reduce 16 = .ok (.iadd, 1) := by decide +kernel
theorem dX10_reduce_17 : decode cX10_reduce 17 = .ok (.istore 5, 2) := by decide +kernel
theorem dX10_reduce_19 : decode cX10_reduce 19 = .ok (.iload 5, 2) := by decide +kernel
theorem dX10_reduce_21 : decode cX10_reduce 21 = .ok (.iload_n 1, 1) := by decide +kernel
theorem dX10_reduce_22 : decode cX10_reduce 22 = .ok (.if_icmp .ge 104, 3) := by decide +kernel
theorem dX10_reduce_25 : decode cX10_reduce 25 = .ok (.iload 4, 2) := by decide +kernel
theorem dX10_reduce_27 : decode cX10_reduce 27 = .ok (.iconst 1, 1) := by decide +kernel
theorem dX10_reduce_28 : decode cX10_reduce 28 = .ok (.iadd, 1) := by decide +kernel
theorem dX10_reduce_29 : decode cX10_reduce 29 = .ok (.istore 6, 2) := by decide +kernel
theorem dX10_reduce_31 : decode cX10_reduce 31 = .ok (.iload 6, 2) := by decide +kernel
theorem dX10_reduce_33 : decode cX10_reduce 33 = .ok (.iload_n 1, 1) := by decide +kernel
theorem dX10_reduce_34 : decode cX10_reduce 34 = .ok (.if_icmp .gt 86, 3) := by decide +kernel
theorem dX10_reduce_37 : decode cX10_reduce 37 = .ok (.iload 6, 2) := by decide +kernel
theorem dX10_reduce_39 : decode cX10_reduce 39 = .ok (.bipush 16, 2) := by decide +kernel
theorem dX10_reduce_41 : decode cX10_reduce 41 = .ok (.if_icmp .ge 79, 3) := by decide +kernel
theorem dX10_reduce_44 : decode cX10_reduce 44 = .ok (.aload_n 0, 1) := by decide +kernel
theorem dX10_reduce_45 : decode cX10_reduce 45 = .ok (.getfield 61, 3) := by decide +kernel
theorem dX10_reduce_48 : decode cX10_reduce 48 = .ok (.bipush 16, 2) := by decide +kernel
theorem dX10_reduce_50 : decode cX10_reduce 50 = .ok (.iload 5, 2) := by decide +kernel
theorem dX10_reduce_52 : decode cX10_reduce 52 = .ok (.imul, 1) := by decide +kernel
theorem dX10_reduce_53 : decode cX10_reduce 53 = .ok (.iload 6, 2) := by decide +kernel
theorem dX10_reduce_55 : decode cX10_reduce 55 = .ok (.iadd, 1) := by decide +kernel
theorem dX10_reduce_56 : decode cX10_reduce 56 = .ok (.aload_n 0, 1) := by decide +kernel
theorem dX10_reduce_57 : decode cX10_reduce 57 = .ok (.getfield 61, 3) := by decide +kernel
theorem dX10_reduce_60 : decode cX10_reduce 60 = .ok (.bipush 16, 2) := by decide +kernel
theorem dX10_reduce_62 : decode cX10_reduce 62 = .ok (.iload 4, 2) := by decide +kernel
theorem dX10_reduce_64 : decode cX10_reduce 64 = .ok (.imul, 1) := by decide +kernel
theorem dX10_reduce_65 : decode cX10_reduce 65 = .ok (.iload 4, 2) := by decide +kernel
theorem dX10_reduce_67 : decode cX10_reduce 67 = .ok (.iadd, 1) := by decide +kernel
theorem dX10_reduce_68 : decode cX10_reduce 68 = .ok (.laload, 1) := by decide +kernel
theorem dX10_reduce_69 : decode cX10_reduce 69 = .ok (.aload_n 0, 1) := by decide +kernel
theorem dX10_reduce_70 : decode cX10_reduce 70 = .ok (.getfield 61, 3) := by decide +kernel
theorem dX10_reduce_73 : decode cX10_reduce 73 = .ok (.bipush 16, 2) := by decide +kernel
theorem dX10_reduce_75 : decode cX10_reduce 75 = .ok (.iload 5, 2) := by decide +kernel
theorem dX10_reduce_77 : decode cX10_reduce 77 = .ok (.imul, 1) := by decide +kernel
theorem dX10_reduce_78 : decode cX10_reduce 78 = .ok (.iload 6, 2) := by decide +kernel
theorem dX10_reduce_80 : decode cX10_reduce 80 = .ok (.iadd, 1) := by decide +kernel
theorem dX10_reduce_81 : decode cX10_reduce 81 = .ok (.laload, 1) := by decide +kernel
theorem dX10_reduce_82 : decode cX10_reduce 82 = .ok (.lmul, 1) := by decide +kernel
theorem dX10_reduce_83 : decode cX10_reduce 83 = .ok (.aload_n 0, 1) := by decide +kernel
theorem dX10_reduce_84 : decode cX10_reduce 84 = .ok (.getfield 61, 3) := by decide +kernel
theorem dX10_reduce_87 : decode cX10_reduce 87 = .ok (.bipush 16, 2) := by decide +kernel
theorem dX10_reduce_89 : decode cX10_reduce 89 = .ok (.iload 5, 2) := by decide +kernel
theorem dX10_reduce_91 : decode cX10_reduce 91 = .ok (.imul, 1) := by decide +kernel
theorem dX10_reduce_92 : decode cX10_reduce 92 = .ok (.iload 4, 2) := by decide +kernel
theorem dX10_reduce_94 : decode cX10_reduce 94 = .ok (.iadd, 1) := by decide +kernel
theorem dX10_reduce_95 : decode cX10_reduce 95 = .ok (.laload, 1) := by decide +kernel
theorem dX10_reduce_96 : decode cX10_reduce 96 = .ok (.aload_n 0, 1) := by decide +kernel
theorem dX10_reduce_97 : decode cX10_reduce 97 = .ok (.getfield 61, 3) := by decide +kernel
theorem dX10_reduce_100 : decode cX10_reduce 100 = .ok (.bipush 16, 2) := by decide +kernel
theorem dX10_reduce_102 : decode cX10_reduce 102 = .ok (.iload 4, 2) := by decide +kernel
theorem dX10_reduce_104 : decode cX10_reduce 104 = .ok (.imul, 1) := by decide +kernel
theorem dX10_reduce_105 : decode cX10_reduce 105 = .ok (.iload 6, 2) := by decide +kernel
theorem dX10_reduce_107 : decode cX10_reduce 107 = .ok (.iadd, 1) := by decide +kernel
theorem dX10_reduce_108 : decode cX10_reduce 108 = .ok (.laload, 1) := by decide +kernel
theorem dX10_reduce_109 : decode cX10_reduce 109 = .ok (.lmul, 1) := by decide +kernel
theorem dX10_reduce_110 : decode cX10_reduce 110 = .ok (.lsub, 1) := by decide +kernel
theorem dX10_reduce_111 : decode cX10_reduce 111 = .ok (.lload_n 2, 1) := by decide +kernel
theorem dX10_reduce_112 : decode cX10_reduce 112 = .ok (.ldiv, 1) := by decide +kernel
theorem dX10_reduce_113 : decode cX10_reduce 113 = .ok (.lastore, 1) := by decide +kernel
theorem dX10_reduce_114 : decode cX10_reduce 114 = .ok (.iinc 6 1, 3) := by decide +kernel
theorem dX10_reduce_117 : decode cX10_reduce 117 = .ok (.goto (-86), 3) := by decide +kernel
theorem dX10_reduce_120 : decode cX10_reduce 120 = .ok (.iinc 5 1, 3) := by decide +kernel
theorem dX10_reduce_123 : decode cX10_reduce 123 = .ok (.goto (-104), 3) := by decide +kernel
theorem dX10_reduce_126 : decode cX10_reduce 126 = .ok (.aload_n 0, 1) := by decide +kernel
theorem dX10_reduce_127 : decode cX10_reduce 127 = .ok (.getfield 61, 3) := by decide +kernel
theorem dX10_reduce_130 : decode cX10_reduce 130 = .ok (.bipush 16, 2) := by decide +kernel
theorem dX10_reduce_132 : decode cX10_reduce 132 = .ok (.iload 4, 2) := by decide +kernel
theorem dX10_reduce_134 : decode cX10_reduce 134 = .ok (.imul, 1) := by decide +kernel
theorem dX10_reduce_135 : decode cX10_reduce 135 = .ok (.iload 4, 2) := by decide +kernel
theorem dX10_reduce_137 : decode cX10_reduce 137 = .ok (.iadd, 1) := by decide +kernel
theorem dX10_reduce_138 : decode cX10_reduce 138 = .ok (.laload, 1) := by decide +kernel
theorem dX10_reduce_139 : decode cX10_reduce 139 = .ok (.lstore_n 2, 1) := by decide +kernel
theorem dX10_reduce_140 : decode cX10_reduce 140 = .ok (.iinc 4 1, 3) := by decide +kernel
theorem dX10_reduce_143 : decode cX10_reduce 143 = .ok (.goto (-138), 3) := by decide +kernel
theorem dX10_reduce_146 : decode cX10_reduce 146 = .ok (.return_, 1) := by decide +kernel
set_option maxRecDepth 20000 in
theorem ggX10_lost_X10_isCell : GoodIn wsX10_lost wsX10_isCell := goodIn_r _ [12, 13, 14, 62, 63, 64, 65, 66, 67, 68, 69, 70, 71, 72, 73, 74, 75, 76, 77, 78, 79, 80, 81, 82, 83, 84, 85, 86, 87, 88, 89, 90, 91, 92, 93, 94, 95] (by decide +kernel) (by decide +kernel)
set_option maxRecDepth 20000 in
theorem gX10_lost_X10_isCell : GoodIn wsX10_lost (wsV RX10 151 RX10 yX10_isCell wsX10_isCell) := goodIn_app (goodIn_of _ (by decide +kernel)) ggX10_lost_X10_isCell
set_option maxRecDepth 20000 in
theorem ggX10_lost_X10_index : GoodIn wsX10_lost wsX10_index := goodIn_r _ [17] (by decide +kernel) (by decide +kernel)
set_option maxRecDepth 20000 in
theorem gX10_lost_X10_index : GoodIn wsX10_lost (va_wsS RX10 157 yX10_index wsX10_index) := goodIn_app (goodIn_of _ (by decide +kernel)) ggX10_lost_X10_index
set_option maxRecDepth 20000 in
theorem ggX10_lost_X10_layMembers : GoodIn wsX10_lost wsX10_layMembers := goodIn_r _ [21, 3, 6, 5, 22, 23, 24, 11, 25, 26, 27, 28, 29, 30, 13, 14, 31, 32, 33, 34, 35, 36, 37, 38, 39, 40, 41, 42, 43, 44, 45, 46, 47, 48, 49, 62, 63, 64, 65, 66, 67, 68, 69, 70, 71, 72, 73, 74, 75, 76, 77, 78, 79, 80, 81, 82, 83, 84, 85, 86, 87, 88, 89, 90, 91, 92, 93, 94, 95] (by decide +kernel) (by decide +kernel)
set_option maxRecDepth 20000 in
theorem gX10_lost_X10_layMembers : GoodIn wsX10_lost (wsV RX10 221 RX10 yX10_layMembers wsX10_layMembers) := goodIn_app (goodIn_of _ (by decide +kernel)) ggX10_lost_X10_layMembers
set_option maxRecDepth 20000 in
theorem ggX10_lost_X10_layMatrix : GoodIn wsX10_lost wsX10_layMatrix := goodIn_r _ [53, 7, 5, 6, 54, 55, 56, 11, 57, 37, 38, 39, 40, 41, 42, 43, 44, 45, 46, 13, 14, 47, 48, 49, 62, 63, 64, 65, 66, 67, 68, 69, 70, 71, 72, 73, 74, 75, 76, 77, 78, 79, 80, 81, 82, 83, 84, 85, 86, 87, 88, 89, 90, 91, 92, 93, 94, 95] (by decide +kernel) (by decide +kernel)
set_option maxRecDepth 20000 in
theorem gX10_lost_X10_layMatrix : GoodIn wsX10_lost (wsV RX10 226 RX10 yX10_layMatrix wsX10_layMatrix) := goodIn_app (goodIn_of _ (by decide +kernel)) ggX10_lost_X10_layMatrix
set_option maxRecDepth 20000 in
theorem ggX10_lost_X10_reduce : GoodIn wsX10_lost wsX10_reduce := goodIn_r _ [61, 7, 62, 63, 64, 65, 66, 67, 68, 69, 70, 71, 72, 73, 74, 75, 76, 77, 78, 79, 80, 81, 82, 83, 84, 85, 86, 87, 88, 89, 90, 91, 92, 93, 94, 95] (by decide +kernel) (by decide +kernel)
set_option maxRecDepth 20000 in
theorem gX10_lost_X10_reduce : GoodIn wsX10_lost (wsV RX10 229 RX10 yX10_reduce wsX10_reduce) := goodIn_app (goodIn_of _ (by decide +kernel)) ggX10_lost_X10_reduce
theorem dX10_lost_0 : decode cX10_lost 0 = .ok (.aload_n 0, 1) := by decide +kernel
theorem dX10_lost_1 : decode cX10_lost 1 = .ok (.iconst 0, 1) := by decide +kernel
theorem dX10_lost_2 : decode cX10_lost 2 = .ok (.putfield 79, 3) := by decide +kernel
theorem dX10_lost_5 : decode cX10_lost 5 = .ok (.aload_n 0, 1) := by decide +kernel
theorem dX10_lost_6 : decode cX10_lost 6 = .ok (.iload_n 1, 1) := by decide +kernel
theorem dX10_lost_7 : decode cX10_lost 7 = .ok (.invokevirtual 151, 3) := by decide +kernel
theorem dX10_lost_10 : decode cX10_lost 10 = .ok (.ifCond .eq 11, 3) := by decide +kernel
theorem dX10_lost_13 : decode cX10_lost 13 = .ok (.aload_n 0, 1) := by decide +kernel
theorem dX10_lost_14 : decode cX10_lost 14 = .ok (.iload_n 2, 1) := by decide +kernel
theorem dX10_lost_15 : decode cX10_lost 15 = .ok (.invokevirtual 151, 3) := by decide +kernel
theorem dX10_lost_18 : decode cX10_lost 18 = .ok (.ifCond .ne 7, 3) := by decide +kernel
theorem dX10_lost_21 : decode cX10_lost 21 = .ok (.ldc2_w 201, 3) := by decide +kernel
theorem dX10_lost_24 : decode cX10_lost 24 = .ok (.lreturn, 1) := by decide +kernel
theorem dX10_lost_25 : decode cX10_lost 25 = .ok (.aload_n 0, 1) := by decide +kernel
theorem dX10_lost_26 : decode cX10_lost 26 = .ok (.iload_n 1, 1) := by decide +kernel
theorem dX10_lost_27 : decode cX10_lost 27 = .ok (.invokestatic 157, 3) := by decide +kernel
theorem dX10_lost_30 : decode cX10_lost 30 = .ok (.bipush (-9), 2) := by decide +kernel
theorem dX10_lost_32 : decode cX10_lost 32 = .ok (.invokevirtual 221, 3) := by decide +kernel
theorem dX10_lost_35 : decode cX10_lost 35 = .ok (.istore 4, 2) := by decide +kernel
theorem dX10_lost_37 : decode cX10_lost 37 = .ok (.aload_n 0, 1) := by decide +kernel
theorem dX10_lost_38 : decode cX10_lost 38 = .ok (.getfield 52, 3) := by decide +kernel
theorem dX10_lost_41 : decode cX10_lost 41 = .ok (.iload_n 1, 1) := by decide +kernel
theorem dX10_lost_42 : decode cX10_lost 42 = .ok (.invokestatic 157, 3) := by decide +kernel
theorem dX10_lost_45 : decode cX10_lost 45 = .ok (.iaload, 1) := by decide +kernel
theorem dX10_lost_46 : decode cX10_lost 46 = .ok (.aload_n 0, 1) := by decide +kernel
theorem dX10_lost_47 : decode cX10_lost 47 = .ok (.getfield 52, 3) := by decide +kernel
theorem dX10_lost_50 : decode cX10_lost 50 = .ok (.iload_n 2, 1) := by decide +kernel
theorem dX10_lost_51 : decode cX10_lost 51 = .ok (.invokestatic 157, 3) := by decide +kernel
theorem dX10_lost_54 : decode cX10_lost 54 = .ok (.iaload, 1) := by decide +kernel
theorem dX10_lost_55 : decode cX10_lost 55 = .ok (.if_icmp .ne 10, 3) := by decide +kernel
theorem dX10_lost_58 : decode cX10_lost 58 = .ok (.iload 4, 2) := by decide +kernel
theorem dX10_lost_60 : decode cX10_lost 60 = .ok (.bipush 10, 2) := by decide +kernel
theorem dX10_lost_62 : decode cX10_lost 62 = .ok (.if_icmp .le 7, 3) := by decide +kernel
theorem dX10_lost_65 : decode cX10_lost 65 = .ok (.ldc2_w 224, 3) := by decide +kernel
theorem dX10_lost_68 : decode cX10_lost 68 = .ok (.lreturn, 1) := by decide +kernel
theorem dX10_lost_69 : decode cX10_lost 69 = .ok (.iload_n 1, 1) := by decide +kernel
theorem dX10_lost_70 : decode cX10_lost 70 = .ok (.iload_n 2, 1) := by decide +kernel
theorem dX10_lost_71 : decode cX10_lost 71 = .ok (.if_icmp .ne 13, 3) := by decide +kernel
theorem dX10_lost_74 : decode cX10_lost 74 = .ok (.iload_n 3, 1) := by decide +kernel
theorem dX10_lost_75 : decode cX10_lost 75 = .ok (.ifCond .eq 7, 3) := by decide +kernel
theorem dX10_lost_78 : decode cX10_lost 78 = .ok (.lconst 0, 1) := by decide +kernel
theorem dX10_lost_79 : decode cX10_lost 79 = .ok (.goto 4, 3) := by decide +kernel
theorem dX10_lost_82 : decode cX10_lost 82 = .ok (.lconst 1, 1) := by decide +kernel
theorem dX10_lost_83 : decode cX10_lost 83 = .ok (.lreturn, 1) := by decide +kernel
theorem dX10_lost_84 : decode cX10_lost 84 = .ok (.aload_n 0, 1) := by decide +kernel
theorem dX10_lost_85 : decode cX10_lost 85 = .ok (.iload_n 1, 1) := by decide +kernel
theorem dX10_lost_86 : decode cX10_lost 86 = .ok (.invokestatic 157, 3) := by decide +kernel
theorem dX10_lost_89 : decode cX10_lost 89 = .ok (.iload_n 2, 1) := by decide +kernel
theorem dX10_lost_90 : decode cX10_lost 90 = .ok (.invokestatic 157, 3) := by decide +kernel
theorem dX10_lost_93 : decode cX10_lost 93 = .ok (.invokevirtual 221, 3) := by decide +kernel
theorem dX10_lost_96 : decode cX10_lost 96 = .ok (.istore 4, 2) := by decide +kernel
theorem dX10_lost_98 : decode cX10_lost 98 = .ok (.aload_n 0, 1) := by decide +kernel
theorem dX10_lost_99 : decode cX10_lost 99 = .ok (.getfield 64, 3) := by decide +kernel
theorem dX10_lost_102 : decode cX10_lost 102 = .ok (.iload 4, 2) := by decide +kernel
theorem dX10_lost_104 : decode cX10_lost 104 = .ok (.iconst 1, 1) := by decide +kernel
theorem dX10_lost_105 : decode cX10_lost 105 = .ok (.isub, 1) := by decide +kernel
theorem dX10_lost_106 : decode cX10_lost 106 = .ok (.iaload, 1) := by decide +kernel
theorem dX10_lost_107 : decode cX10_lost 107 = .ok (.istore 5, 2) := by decide +kernel
theorem dX10_lost_109 : decode cX10_lost 109 = .ok (.aload_n 0, 1) := by decide +kernel
theorem dX10_lost_110 : decode cX10_lost 110 = .ok (.getfield 67, 3) := by decide +kernel
theorem dX10_lost_113 : decode cX10_lost 113 = .ok (.iload_n 1, 1) := by decide +kernel
theorem dX10_lost_114 : decode cX10_lost 114 = .ok (.invokestatic 157, 3) := by decide +kernel
theorem dX10_lost_117 : decode cX10_lost 117 = .ok (.iaload, 1) := by decide +kernel
theorem dX10_lost_118 : decode cX10_lost 118 = .ok (.istore 6, 2) := by decide +kernel
theorem dX10_lost_120 : decode cX10_lost 120 = .ok (.aload_n 0, 1) := by decide +kernel
theorem dX10_lost_121 : decode cX10_lost 121 = .ok (.getfield 64, 3) := by decide +kernel
theorem dX10_lost_124 : decode cX10_lost 124 = .ok (.iload 4, 2) := by decide +kernel
theorem dX10_lost_126 : decode cX10_lost 126 = .ok (.iconst 1, 1) := by decide +kernel
theorem dX10_lost_127 : decode cX10_lost 127 = .ok (.isub, 1) := by decide +kernel
theorem dX10_lost_128 : decode cX10_lost 128 = .ok (.iload_n 1, 1) := by decide +kernel
theorem dX10_lost_129 : decode cX10_lost 129 = .ok (.invokestatic 157, 3) := by decide +kernel
theorem dX10_lost_132 : decode cX10_lost 132 = .ok (.iastore, 1) := by decide +kernel
theorem dX10_lost_133 : decode cX10_lost 133 = .ok (.aload_n 0, 1) := by decide +kernel
theorem dX10_lost_134 : decode cX10_lost 134 = .ok (.getfield 64, 3) := by decide +kernel
theorem dX10_lost_137 : decode cX10_lost 137 = .ok (.iload 6, 2) := by decide +kernel
theorem dX10_lost_139 : decode cX10_lost 139 = .ok (.iload 5, 2) := by decide +kernel
theorem dX10_lost_141 : decode cX10_lost 141 = .ok (.iastore, 1) := by decide +kernel
theorem dX10_lost_142 : decode cX10_lost 142 = .ok (.aload_n 0, 1) := by decide +kernel
theorem dX10_lost_143 : decode cX10_lost 143 = .ok (.getfield 67, 3) := by decide +kernel
theorem dX10_lost_146 : decode cX10_lost 146 = .ok (.iload 5, 2) := by decide +kernel
theorem dX10_lost_148 : decode cX10_lost 148 = .ok (.iload 6, 2) := by decide +kernel
theorem dX10_lost_150 : decode cX10_lost 150 = .ok (.iastore, 1) := by decide +kernel
theorem dX10_lost_151 : decode cX10_lost 151 = .ok (.aload_n 0, 1) := by decide +kernel
theorem dX10_lost_152 : decode cX10_lost 152 = .ok (.getfield 67, 3) := by decide +kernel
theorem dX10_lost_155 : decode cX10_lost 155 = .ok (.iload_n 1, 1) := by decide +kernel
theorem dX10_lost_156 : decode cX10_lost 156 = .ok (.invokestatic 157, 3) := by decide +kernel
theorem dX10_lost_159 : decode cX10_lost 159 = .ok (.iload 4, 2) := by decide +kernel
theorem dX10_lost_161 : decode cX10_lost 161 = .ok (.iconst 1, 1) := by decide +kernel
theorem dX10_lost_162 : decode cX10_lost 162 = .ok (.isub, 1) := by decide +kernel
theorem dX10_lost_163 : decode cX10_lost 163 = .ok (.iastore, 1) := by decide +kernel
theorem dX10_lost_164 : decode cX10_lost 164 = .ok (.aload_n 0, 1) := by decide +kernel
theorem dX10_lost_165 : decode cX10_lost 165 = .ok (.iload 4, 2) := by decide +kernel
theorem dX10_lost_167 : decode cX10_lost 167 = .ok (.invokevirtual 226, 3) := by decide +kernel
theorem dX10_lost_170 : decode cX10_lost 170 = .ok (.aload_n 0, 1) := by decide +kernel
theorem dX10_lost_171 : decode cX10_lost 171 = .ok (.iload 4, 2) := by decide +kernel
theorem dX10_lost_173 : decode cX10_lost 173 = .ok (.invokevirtual 229, 3) := by decide +kernel
theorem dX10_lost_176 : decode cX10_lost 176 = .ok (.aload_n 0, 1) := by decide +kernel
theorem dX10_lost_177 : decode cX10_lost 177 = .ok (.getfield 61, 3) := by decide +kernel
theorem dX10_lost_180 : decode cX10_lost 180 = .ok (.bipush 16, 2) := by decide +kernel
theorem dX10_lost_182 : decode cX10_lost 182 = .ok (.iload 4, 2) := by decide +kernel
theorem dX10_lost_184 : decode cX10_lost 184 = .ok (.iconst 1, 1) := by decide +kernel
theorem dX10_lost_185 : decode cX10_lost 185 = .ok (.isub, 1) := by decide +kernel
theorem dX10_lost_186 : decode cX10_lost 186 = .ok (.imul, 1) := by decide +kernel
theorem dX10_lost_187 : decode cX10_lost 187 = .ok (.iload 4, 2) := by decide +kernel
theorem dX10_lost_189 : decode cX10_lost 189 = .ok (.iadd, 1) := by decide +kernel
theorem dX10_lost_190 : decode cX10_lost 190 = .ok (.laload, 1) := by decide +kernel
theorem dX10_lost_191 : decode cX10_lost 191 = .ok (.lstore 7, 2) := by decide +kernel
theorem dX10_lost_193 : decode cX10_lost 193 = .ok (.aload_n 0, 1) := by decide +kernel
theorem dX10_lost_194 : decode cX10_lost 194 = .ok (.getfield 61, 3) := by decide +kernel
theorem dX10_lost_197 : decode cX10_lost 197 = .ok (.bipush 16, 2) := by decide +kernel
theorem dX10_lost_199 : decode cX10_lost 199 = .ok (.iload 4, 2) := by decide +kernel
theorem dX10_lost_201 : decode cX10_lost 201 = .ok (.iconst 1, 1) := by decide +kernel
theorem dX10_lost_202 : decode cX10_lost 202 = .ok (.isub, 1) := by decide +kernel
theorem dX10_lost_203 : decode cX10_lost 203 = .ok (.imul, 1) := by decide +kernel
theorem dX10_lost_204 : decode cX10_lost 204 = .ok (.iload 4, 2) := by decide +kernel
theorem dX10_lost_206 : decode cX10_lost 206 = .ok (.iadd, 1) := by decide +kernel
theorem dX10_lost_207 : decode cX10_lost 207 = .ok (.iconst 1, 1) := by decide +kernel
theorem dX10_lost_208 : decode cX10_lost 208 = .ok (.isub, 1) := by decide +kernel
theorem dX10_lost_209 : decode cX10_lost 209 = .ok (.laload, 1) := by decide +kernel
theorem dX10_lost_210 : decode cX10_lost 210 = .ok (.lstore 9, 2) := by decide +kernel
theorem dX10_lost_212 : decode cX10_lost 212 = .ok (.lload 7, 2) := by decide +kernel
theorem dX10_lost_214 : decode cX10_lost 214 = .ok (.lstore 11, 2) := by decide +kernel
theorem dX10_lost_216 : decode cX10_lost 216 = .ok (.lload 9, 2) := by decide +kernel
theorem dX10_lost_218 : decode cX10_lost 218 = .ok (.lstore 13, 2) := by decide +kernel
theorem dX10_lost_220 : decode cX10_lost 220 = .ok (.lload 13, 2) := by decide +kernel
theorem dX10_lost_222 : decode cX10_lost 222 = .ok (.lconst 0, 1) := by decide +kernel
theorem dX10_lost_223 : decode cX10_lost 223 = .ok (.lcmp, 1) := by decide +kernel
theorem dX10_lost_224 : decode cX10_lost 224 = .ok (.ifCond .eq 21, 3) := by decide +kernel
theorem dX10_lost_227 : decode cX10_lost 227 = .ok (.lload 11, 2) := by decide +kernel
theorem dX10_lost_229 : decode cX10_lost 229 = .ok (.lload 13, 2) := by decide +kernel
theorem dX10_lost_231 : decode cX10_lost 231 = .ok (.lrem, 1) := by decide +kernel
theorem dX10_lost_232 : decode cX10_lost 232 = .ok (.lstore 15, 2) := by decide +kernel
theorem dX10_lost_234 : decode cX10_lost 234 = .ok (.lload 13, 2) := by decide +kernel
theorem dX10_lost_236 : decode cX10_lost 236 = .ok (.lstore 11, 2) := by decide +kernel
theorem dX10_lost_238 : decode cX10_lost 238 = .ok (.lload 15, 2) := by decide +kernel
theorem dX10_lost_240 : decode cX10_lost 240 = .ok (.lstore 13, 2) := by decide +kernel
theorem dX10_lost_242 : decode cX10_lost 242 = .ok (.goto (-22), 3) := by decide +kernel
theorem dX10_lost_245 : decode cX10_lost 245 = .ok (.lload 11, 2) := by decide +kernel
theorem dX10_lost_247 : decode cX10_lost 247 = .ok (.lconst 0, 1) := by decide +kernel
theorem dX10_lost_248 : decode cX10_lost 248 = .ok (.lcmp, 1) := by decide +kernel
theorem dX10_lost_249 : decode cX10_lost 249 = .ok (.ifCond .ge 9, 3) := by decide +kernel
theorem dX10_lost_252 : decode cX10_lost 252 = .ok (.lload 11, 2) := by decide +kernel
theorem dX10_lost_254 : decode cX10_lost 254 = .ok (.lneg, 1) := by decide +kernel
theorem dX10_lost_255 : decode cX10_lost 255 = .ok (.goto 5, 3) := by decide +kernel
theorem dX10_lost_258 : decode cX10_lost 258 = .ok (.lload 11, 2) := by decide +kernel
theorem dX10_lost_260 : decode cX10_lost 260 = .ok (.lstore 11, 2) := by decide +kernel
theorem dX10_lost_262 : decode cX10_lost 262 = .ok (.iload_n 3, 1) := by decide +kernel
theorem dX10_lost_263 : decode cX10_lost 263 = .ok (.ifCond .eq 11, 3) := by decide +kernel
theorem dX10_lost_266 : decode cX10_lost 266 = .ok (.lload 7, 2) := by decide +kernel
theorem dX10_lost_268 : decode cX10_lost 268 = .ok (.lload 11, 2) := by decide +kernel
theorem dX10_lost_270 : decode cX10_lost 270 = .ok (.ldiv, 1) := by decide +kernel
theorem dX10_lost_271 : decode cX10_lost 271 = .ok (.goto 8, 3) := by decide +kernel
theorem dX10_lost_274 : decode cX10_lost 274 = .ok (.lload 9, 2) := by decide +kernel
theorem dX10_lost_276 : decode cX10_lost 276 = .ok (.lload 11, 2) := by decide +kernel
theorem dX10_lost_278 : decode cX10_lost 278 = .ok (.ldiv, 1) := by decide +kernel
theorem dX10_lost_279 : decode cX10_lost 279 = .ok (.lreturn, 1) := by decide +kernel
set_option maxRecDepth 20000 in
theorem ggX10_trees_X10_isCell : GoodIn wsX10_trees wsX10_isCell := goodIn_r _ [9, 10, 11, 62, 63, 64, 65, 66, 67, 68, 69, 70, 71, 72, 73, 74, 75, 76, 77, 78, 79, 80, 81, 82, 83, 84, 85, 86, 87, 88, 89, 90, 91, 92, 93, 94, 95] (by decide +kernel) (by decide +kernel)
set_option maxRecDepth 20000 in
theorem gX10_trees_X10_isCell : GoodIn wsX10_trees (wsV RX10 151 RX10 yX10_isCell wsX10_isCell) := goodIn_app (goodIn_of _ (by decide +kernel)) ggX10_trees_X10_isCell
set_option maxRecDepth 20000 in
theorem ggX10_trees_X10_index : GoodIn wsX10_trees wsX10_index := goodIn_r _ [14] (by decide +kernel) (by decide +kernel)
set_option maxRecDepth 20000 in
theorem gX10_trees_X10_index : GoodIn wsX10_trees (va_wsS RX10 157 yX10_index wsX10_index) := goodIn_app (goodIn_of _ (by decide +kernel)) ggX10_trees_X10_index
set_option maxRecDepth 20000 in
theorem ggX10_trees_X10_layMembers : GoodIn wsX10_trees wsX10_layMembers := goodIn_r _ [18, 19, 20, 21, 22, 23, 24, 8, 25, 26, 27, 28, 29, 30, 10, 11, 31, 32, 33, 34, 35, 36, 37, 38, 39, 40, 41, 42, 43, 44, 45, 46, 47, 48, 49, 62, 63, 64, 65, 66, 67, 68, 69, 70, 71, 72, 73, 74, 75, 76, 77, 78, 79, 80, 81, 82, 83, 84, 85, 86, 87, 88, 89, 90, 91, 92, 93, 94, 95] (by decide +kernel) (by decide +kernel)
set_option maxRecDepth 20000 in
theorem gX10_trees_X10_layMembers : GoodIn wsX10_trees (wsV RX10 221 RX10 yX10_layMembers wsX10_layMembers) := goodIn_app (goodIn_of _ (by decide +kernel)) ggX10_trees_X10_layMembers
set_option maxRecDepth 20000 in
theorem ggX10_trees_X10_layMatrix : GoodIn wsX10_trees wsX10_layMatrix := goodIn_r _ [53, 4, 21, 20, 54, 55, 56, 8, 57, 37, 38, 39, 40, 41, 42, 43, 44, 45, 46, 10, 11, 47, 48, 49, 62, 63, 64, 65, 66, 67, 68, 69, 70, 71, 72, 73, 74, 75, 76, 77, 78, 79, 80, 81, 82, 83, 84, 85, 86, 87, 88, 89, 90, 91, 92, 93, 94, 95] (by decide +kernel) (by decide +kernel)
set_option maxRecDepth 20000 in
theorem gX10_trees_X10_layMatrix : GoodIn wsX10_trees (wsV RX10 226 RX10 yX10_layMatrix wsX10_layMatrix) := goodIn_app (goodIn_of _ (by decide +kernel)) ggX10_trees_X10_layMatrix
set_option maxRecDepth 20000 in
theorem ggX10_trees_X10_reduce : GoodIn wsX10_trees wsX10_reduce := goodIn_r _ [61, 4, 62, 63, 64, 65, 66, 67, 68, 69, 70, 71, 72, 73, 74, 75, 76, 77, 78, 79, 80, 81, 82, 83, 84, 85, 86, 87, 88, 89, 90, 91, 92, 93, 94, 95] (by decide +kernel) (by decide +kernel)
set_option maxRecDepth 20000 in
theorem gX10_trees_X10_reduce : GoodIn wsX10_trees (wsV RX10 229 RX10 yX10_reduce wsX10_reduce) := goodIn_app (goodIn_of _ (by decide +kernel)) ggX10_trees_X10_reduce
theorem dX10_trees_0 : decode cX10_trees 0 = .ok (.aload_n 0, 1) := by decide +kernel
theorem dX10_trees_1 : decode cX10_trees 1 = .ok (.iconst 0, 1) := by decide +kernel
theorem dX10_trees_2 : decode cX10_trees 2 = .ok (.putfield 79, 3) := by decide +kernel
theorem dX10_trees_5 : decode cX10_trees 5 = .ok (.aload_n 0, 1) := by decide +kernel
theorem dX10_trees_6 : decode cX10_trees 6 = .ok (.iload_n 1, 1) := by decide +kernel
theorem dX10_trees_7 : decode cX10_trees 7 = .ok (.invokevirtual 151, 3) := by decide +kernel
theorem dX10_trees_10 : decode cX10_trees 10 = .ok (.ifCond .ne 7, 3) := by decide +kernel
theorem dX10_trees_13 : decode cX10_trees 13 = .ok (.ldc2_w 201, 3) := by decide +kernel
theorem dX10_trees_16 : decode cX10_trees 16 = .ok (.lreturn, 1) := by decide +kernel
theorem dX10_trees_17 : decode cX10_trees 17 = .ok (.aload_n 0, 1) := by decide +kernel
theorem dX10_trees_18 : decode cX10_trees 18 = .ok (.iload_n 1, 1) := by decide +kernel
theorem dX10_trees_19 : decode cX10_trees 19 = .ok (.invokestatic 157, 3) := by decide +kernel
theorem dX10_trees_22 : decode cX10_trees 22 = .ok (.bipush (-9), 2) := by decide +kernel
theorem dX10_trees_24 : decode cX10_trees 24 = .ok (.invokevirtual 221, 3) := by decide +kernel
theorem dX10_trees_27 : decode cX10_trees 27 = .ok (.istore_n 2, 1) := by decide +kernel
theorem dX10_trees_28 : decode cX10_trees 28 = .ok (.iload_n 2, 1) := by decide +kernel
theorem dX10_trees_29 : decode cX10_trees 29 = .ok (.bipush 16, 2) := by decide +kernel
theorem dX10_trees_31 : decode cX10_trees 31 = .ok (.if_icmp .le 7, 3) := by decide +kernel
theorem dX10_trees_34 : decode cX10_trees 34 = .ok (.ldc2_w 224, 3) := by decide +kernel
theorem dX10_trees_37 : decode cX10_trees 37 = .ok (.lreturn, 1) := by decide +kernel
theorem dX10_trees_38 : decode cX10_trees 38 = .ok (.iload_n 2, 1) := by decide +kernel
theorem dX10_trees_39 : decode cX10_trees 39 = .ok (.iconst 1, 1) := by decide +kernel
theorem dX10_trees_40 : decode cX10_trees 40 = .ok (.if_icmp .ne 5, 3) := by decide +kernel
theorem dX10_trees_43 : decode cX10_trees 43 = .ok (.lconst 1, 1) := by decide +kernel
theorem dX10_trees_44 : decode cX10_trees 44 = .ok (.lreturn, 1) := by decide +kernel
theorem dX10_trees_45 : decode cX10_trees 45 = .ok (.aload_n 0, 1) := by decide +kernel
theorem dX10_trees_46 : decode cX10_trees 46 = .ok (.iload_n 1, 1) := by decide +kernel
theorem dX10_trees_47 : decode cX10_trees 47 = .ok (.invokestatic 157, 3) := by decide +kernel
theorem dX10_trees_50 : decode cX10_trees 50 = .ok (.iload_n 1, 1) := by decide +kernel
theorem dX10_trees_51 : decode cX10_trees 51 = .ok (.invokestatic 157, 3) := by decide +kernel
theorem dX10_trees_54 : decode cX10_trees 54 = .ok (.invokevirtual 221, 3) := by decide +kernel
theorem dX10_trees_57 : decode cX10_trees 57 = .ok (.istore_n 2, 1) := by decide +kernel
theorem dX10_trees_58 : decode cX10_trees 58 = .ok (.aload_n 0, 1) := by decide +kernel
theorem dX10_trees_59 : decode cX10_trees 59 = .ok (.iload_n 2, 1) := by decide +kernel
theorem dX10_trees_60 : decode cX10_trees 60 = .ok (.invokevirtual 226, 3) := by decide +kernel
theorem dX10_trees_63 : decode cX10_trees 63 = .ok (.aload_n 0, 1) := by decide +kernel
theorem dX10_trees_64 : decode cX10_trees 64 = .ok (.iload_n 2, 1) := by decide +kernel
theorem dX10_trees_65 : decode cX10_trees 65 = .ok (.invokevirtual 229, 3) := by decide +kernel
theorem dX10_trees_68 : decode cX10_trees 68 = .ok (.aload_n 0, 1) := by decide +kernel
theorem dX10_trees_69 : decode cX10_trees 69 = .ok (.getfield 61, 3) := by decide +kernel
theorem dX10_trees_72 : decode cX10_trees 72 = .ok (.bipush 16, 2) := by decide +kernel
theorem dX10_trees_74 : decode cX10_trees 74 = .ok (.iload_n 2, 1) := by decide +kernel
theorem dX10_trees_75 : decode cX10_trees 75 = .ok (.iconst 1, 1) := by decide +kernel
theorem dX10_trees_76 : decode cX10_trees 76 = .ok (.isub, 1) := by decide +kernel
theorem dX10_trees_77 : decode cX10_trees 77 = .ok (.imul, 1) := by decide +kernel
theorem dX10_trees_78 : decode cX10_trees 78 = .ok (.iload_n 2, 1) := by decide +kernel
theorem dX10_trees_79 : decode cX10_trees 79 = .ok (.iadd, 1) := by decide +kernel
theorem dX10_trees_80 : decode cX10_trees 80 = .ok (.iconst 1, 1) := by decide +kernel
theorem dX10_trees_81 : decode cX10_trees 81 = .ok (.isub, 1) := by decide +kernel
theorem dX10_trees_82 : decode cX10_trees 82 = .ok (.laload, 1) := by decide +kernel
theorem dX10_trees_83 : decode cX10_trees 83 = .ok (.lreturn, 1) := by decide +kernel
set_option maxRecDepth 20000 in
theorem ggX10_breaks_X10_isCell : GoodIn wsX10_breaks wsX10_isCell := goodIn_r _ [7, 8, 9, 30, 31, 32, 33, 34, 35, 36, 37, 38, 39, 40, 41, 42, 43, 44, 45, 46, 47, 48, 49, 50, 51, 52, 53, 54, 55, 56, 57, 58, 59, 60, 61, 62, 63] (by decide +kernel) (by decide +kernel)
set_option maxRecDepth 20000 in
theorem gX10_breaks_X10_isCell : GoodIn wsX10_breaks (wsV RX10 151 RX10 yX10_isCell wsX10_isCell) := goodIn_app (goodIn_of _ (by decide +kernel)) ggX10_breaks_X10_isCell
set_option maxRecDepth 20000 in
theorem ggX10_breaks_X10_index : GoodIn wsX10_breaks wsX10_index := goodIn_r _ [12] (by decide +kernel) (by decide +kernel)
set_option maxRecDepth 20000 in
theorem gX10_breaks_X10_index : GoodIn wsX10_breaks (va_wsS RX10 157 yX10_index wsX10_index) := goodIn_app (goodIn_of _ (by decide +kernel)) ggX10_breaks_X10_index
set_option maxRecDepth 20000 in
theorem ggX10_breaks_X10_isThere : GoodIn wsX10_breaks wsX10_isThere := goodIn_r _ [16, 8, 9, 30, 31, 32, 33, 34, 35, 36, 37, 38, 39, 40, 41, 42, 43, 44, 45, 46, 47, 48, 49, 50, 51, 52, 53, 54, 55, 56, 57, 58, 59, 60, 61, 62, 63] (by decide +kernel) (by decide +kernel)
set_option maxRecDepth 20000 in
theorem gX10_breaks_X10_isThere : GoodIn wsX10_breaks (wsV RX10 125 RX10 yX10_isThere wsX10_isThere) := goodIn_app (goodIn_of _ (by decide +kernel)) ggX10_breaks_X10_isThere
set_option maxRecDepth 20000 in
theorem ggX10_breaks_X10_beside : GoodIn wsX10_breaks wsX10_beside := goodIn_r _ [20, 8, 9, 21, 22, 6, 23, 30, 31, 32, 33, 34, 35, 36, 37, 38, 39, 40, 41, 42, 43, 44, 45, 46, 47, 48, 49, 50, 51, 52, 53, 54, 55, 56, 57, 58, 59, 60, 61, 62, 63] (by decide +kernel) (by decide +kernel)
set_option maxRecDepth 20000 in
theorem gX10_breaks_X10_beside : GoodIn wsX10_breaks (wsV RX10 113 RX10 yX10_beside wsX10_beside) := goodIn_app (goodIn_of _ (by decide +kernel)) ggX10_breaks_X10_beside
set_option maxRecDepth 20000 in
theorem ggX10_breaks_X10_isOpen : GoodIn wsX10_breaks wsX10_isOpen := goodIn_r _ [27, 28, 29, 17, 18, 19, 6, 20, 8, 9, 21, 22, 23, 30, 31, 32, 33, 34, 35, 36, 37, 38, 39, 40, 41, 42, 43, 44, 45, 46, 47, 48, 49, 50, 51, 52, 53, 54, 55, 56, 57, 58, 59, 60, 61, 62, 63] (by decide +kernel) (by decide +kernel)
set_option maxRecDepth 20000 in
theorem gX10_breaks_X10_isOpen : GoodIn wsX10_breaks (wsV RX10 160 RX10 yX10_isOpen wsX10_isOpen) := goodIn_app (goodIn_of _ (by decide +kernel)) ggX10_breaks_X10_isOpen
theorem dX10_breaks_0 : decode cX10_breaks 0 = .ok (.aload_n 0, 1) := by decide +kernel
theorem dX10_breaks_1 : decode cX10_breaks 1 = .ok (.iconst 0, 1) := by decide +kernel
theorem dX10_breaks_2 : decode cX10_breaks 2 = .ok (.putfield 79, 3) := by decide +kernel
theorem dX10_breaks_5 : decode cX10_breaks 5 = .ok (.aload_n 0, 1) := by decide +kernel
theorem dX10_breaks_6 : decode cX10_breaks 6 = .ok (.iload_n 1, 1) := by decide +kernel
theorem dX10_breaks_7 : decode cX10_breaks 7 = .ok (.invokevirtual 151, 3) := by decide +kernel
theorem dX10_breaks_10 : decode cX10_breaks 10 = .ok (.ifCond .eq 11, 3) := by decide +kernel
theorem dX10_breaks_13 : decode cX10_breaks 13 = .ok (.aload_n 0, 1) := by decide +kernel
theorem dX10_breaks_14 : decode cX10_breaks 14 = .ok (.iload_n 2, 1) := by decide +kernel
theorem dX10_breaks_15 : decode cX10_breaks 15 = .ok (.invokevirtual 151, 3) := by decide +kernel
theorem dX10_breaks_18 : decode cX10_breaks 18 = .ok (.ifCond .ne 5, 3) := by decide +kernel
theorem dX10_breaks_21 : decode cX10_breaks 21 = .ok (.iconst (-1), 1) := by decide +kernel
theorem dX10_breaks_22 : decode cX10_breaks 22 = .ok (.ireturn, 1) := by decide +kernel
theorem dX10_breaks_23 : decode cX10_breaks 23 = .ok (.iconst 0, 1) := by decide +kernel
theorem dX10_breaks_24 : decode cX10_breaks 24 = .ok (.istore_n 3, 1) := by decide +kernel
theorem dX10_breaks_25 : decode cX10_breaks 25 = .ok (.iload_n 3, 1) := by decide +kernel
theorem dX10_breaks_26 : decode cX10_breaks 26 = .ok (.bipush 36, 2) := by decide +kernel
theorem dX10_breaks_28 : decode cX10_breaks 28 = .ok (.if_icmp .ge 30, 3) := by decide +kernel
theorem dX10_breaks_31 : decode cX10_breaks 31 = .ok (.aload_n 0, 1) := by decide +kernel
theorem dX10_breaks_32 : decode cX10_breaks 32 = .ok (.getfield 39, 3) := by decide +kernel
theorem dX10_breaks_35 : decode cX10_breaks 35 = .ok (.iload_n 3, 1) := by decide +kernel
theorem dX10_breaks_36 : decode cX10_breaks 36 = .ok (.iload_n 3, 1) := by decide +kernel
theorem dX10_breaks_37 : decode cX10_breaks 37 = .ok (.iload_n 1, 1) := by decide +kernel
theorem dX10_breaks_38 : decode cX10_breaks 38 = .ok (.invokestatic 157, 3) := by decide +kernel
theorem dX10_breaks_41 : decode cX10_breaks 41 = .ok (.if_icmp .ne 7, 3) := by decide +kernel
theorem dX10_breaks_44 : decode cX10_breaks 44 = .ok (.iconst 0, 1) := by decide +kernel
theorem dX10_breaks_45 : decode cX10_breaks 45 = .ok (.goto 6, 3) := by decide +kernel
theorem dX10_breaks_48 : decode cX10_breaks 48 = .ok (.sipush 9999, 3) := by decide +kernel
theorem dX10_breaks_51 : decode cX10_breaks 51 = .ok (.iastore, 1) := by decide +kernel
theorem dX10_breaks_52 : decode cX10_breaks 52 = .ok (.iinc 3 1, 3) := by decide +kernel
theorem dX10_breaks_55 : decode cX10_breaks 55 = .ok (.goto (-30), 3) := by decide +kernel
theorem dX10_breaks_58 : decode cX10_breaks 58 = .ok (.iconst 0, 1) := by decide +kernel
theorem dX10_breaks_59 : decode cX10_breaks 59 = .ok (.istore_n 3, 1) := by decide +kernel
theorem dX10_breaks_60 : decode cX10_breaks 60 = .ok (.iload_n 3, 1) := by decide +kernel
theorem dX10_breaks_61 : decode cX10_breaks 61 = .ok (.bipush 36, 2) := by decide +kernel
theorem dX10_breaks_63 : decode cX10_breaks 63 = .ok (.if_icmp .ge 126, 3) := by decide +kernel
theorem dX10_breaks_66 : decode cX10_breaks 66 = .ok (.iconst 0, 1) := by decide +kernel
theorem dX10_breaks_67 : decode cX10_breaks 67 = .ok (.istore 4, 2) := by decide +kernel
theorem dX10_breaks_69 : decode cX10_breaks 69 = .ok (.iload 4, 2) := by decide +kernel
theorem dX10_breaks_71 : decode cX10_breaks 71 = .ok (.bipush 36, 2) := by decide +kernel
theorem dX10_breaks_73 : decode cX10_breaks 73 = .ok (.if_icmp .ge 110, 3) := by decide +kernel
theorem dX10_breaks_76 : decode cX10_breaks 76 = .ok (.iconst 0, 1) := by decide +kernel
theorem dX10_breaks_77 : decode cX10_breaks 77 = .ok (.istore 5, 2) := by decide +kernel
theorem dX10_breaks_79 : decode cX10_breaks 79 = .ok (.iload 5, 2) := by decide +kernel
theorem dX10_breaks_81 : decode cX10_breaks 81 = .ok (.iconst 4, 1) := by decide +kernel
theorem dX10_breaks_82 : decode cX10_breaks 82 = .ok (.if_icmp .ge 95, 3) := by decide +kernel
theorem dX10_breaks_85 : decode cX10_breaks 85 = .ok (.aload_n 0, 1) := by decide +kernel
theorem dX10_breaks_86 : decode cX10_breaks 86 = .ok (.iload 4, 2) := by decide +kernel
theorem dX10_breaks_88 : decode cX10_breaks 88 = .ok (.invokevirtual 125, 3) := by decide +kernel
theorem dX10_breaks_91 : decode cX10_breaks 91 = .ok (.ifCond .eq 86, 3) := by decide +kernel
theorem dX10_breaks_94 : decode cX10_breaks 94 = .ok (.aload_n 0, 1) := by decide +kernel
theorem dX10_breaks_95 : decode cX10_breaks 95 = .ok (.getfield 39, 3) := by decide +kernel
theorem dX10_breaks_98 : decode cX10_breaks 98 = .ok (.iload 4, 2) := by decide +kernel
theorem dX10_breaks_100 : decode cX10_breaks 100 = .ok (.iaload, 1) := by decide +kernel
theorem dX10_breaks_101 : decode cX10_breaks 101 = .ok (.sipush 9999, 3) := by decide +kernel
theorem dX10_breaks_104 : decode cX10_breaks 104 = .ok (.if_icmp .ge 73, 3) := by decide +kernel
theorem dX10_breaks_107 : decode cX10_breaks 107 = .ok (.aload_n 0, 1) := by decide +kernel
theorem dX10_breaks_108 : decode cX10_breaks 108 = .ok (.iload 4, 2) := by decide +kernel
theorem dX10_breaks_110 : decode cX10_breaks 110 = .ok (.iload 5, 2) := by decide +kernel
theorem dX10_breaks_112 : decode cX10_breaks 112 = .ok (.invokevirtual 113, 3) := by decide +kernel
theorem dX10_breaks_115 : decode cX10_breaks 115 = .ok (.istore 6, 2) := by decide +kernel
theorem dX10_breaks_117 : decode cX10_breaks 117 = .ok (.aload_n 0, 1) := by decide +kernel
theorem dX10_breaks_118 : decode cX10_breaks 118 = .ok (.getfield 39, 3) := by decide +kernel
theorem dX10_breaks_121 : decode cX10_breaks 121 = .ok (.iload 4, 2) := by decide +kernel
theorem dX10_breaks_123 : decode cX10_breaks 123 = .ok (.iaload, 1) := by decide +kernel
theorem dX10_breaks_124 : decode cX10_breaks 124 = .ok (.aload_n 0, 1) := by decide +kernel
theorem dX10_breaks_125 : decode cX10_breaks 125 = .ok (.iload 4, 2) := by decide +kernel
theorem dX10_breaks_127 : decode cX10_breaks 127 = .ok (.iload 5, 2) := by decide +kernel
theorem dX10_breaks_129 : decode cX10_breaks 129 = .ok (.invokevirtual 160, 3) := by decide +kernel
theorem dX10_breaks_132 : decode cX10_breaks 132 = .ok (.ifCond .eq 7, 3) := by decide +kernel
theorem dX10_breaks_135 : decode cX10_breaks 135 = .ok (.iconst 0, 1) := by decide +kernel
theorem dX10_breaks_136 : decode cX10_breaks 136 = .ok (.goto 4, 3) := by decide +kernel
theorem dX10_breaks_139 : decode cX10_breaks 139 = .ok (.iconst 1, 1) := by decide +kernel
theorem dX10_breaks_140 : decode cX10_breaks 140 = .ok (.iadd, 1) := by decide +kernel
theorem dX10_breaks_141 : decode cX10_breaks 141 = .ok (.istore 7, 2) := by decide +kernel
theorem dX10_breaks_143 : decode cX10_breaks 143 = .ok (.iload 6, 2) := by decide +kernel
theorem dX10_breaks_145 : decode cX10_breaks 145 = .ok (.bipush (-9), 2) := by decide +kernel
theorem dX10_breaks_147 : decode cX10_breaks 147 = .ok (.if_icmp .eq 24, 3) := by decide +kernel
theorem dX10_breaks_150 : decode cX10_breaks 150 = .ok (.iload 7, 2) := by decide +kernel
theorem dX10_breaks_152 : decode cX10_breaks 152 = .ok (.aload_n 0, 1) := by decide +kernel
theorem dX10_breaks_153 : decode cX10_breaks 153 = .ok (.getfield 39, 3) := by decide +kernel
theorem dX10_breaks_156 : decode cX10_breaks 156 = .ok (.iload 6, 2) := by decide +kernel
theorem dX10_breaks_158 : decode cX10_breaks 158 = .ok (.iaload, 1) := by decide +kernel
theorem dX10_breaks_159 : decode cX10_breaks 159 = .ok (.if_icmp .ge 12, 3) := by decide +kernel
theorem dX10_breaks_162 : decode cX10_breaks 162 = .ok (.aload_n 0, 1) := by decide +kernel
theorem dX10_breaks_163 : decode cX10_breaks 163 = .ok (.getfield 39, 3) := by decide +kernel
theorem dX10_breaks_166 : decode cX10_breaks 166 = .ok (.iload 6, 2) := by decide +kernel
theorem dX10_breaks_168 : decode cX10_breaks 168 = .ok (.iload 7, 2) := by decide +kernel
theorem dX10_breaks_170 : decode cX10_breaks 170 = .ok (.iastore, 1) := by decide +kernel
theorem dX10_breaks_171 : decode cX10_breaks 171 = .ok (.iinc 5 1, 3) := by decide +kernel
theorem dX10_breaks_174 : decode cX10_breaks 174 = .ok (.goto (-95), 3) := by decide +kernel
theorem dX10_breaks_177 : decode cX10_breaks 177 = .ok (.iinc 4 1, 3) := by decide +kernel
theorem dX10_breaks_180 : decode cX10_breaks 180 = .ok (.goto (-111), 3) := by decide +kernel
theorem dX10_breaks_183 : decode cX10_breaks 183 = .ok (.iinc 3 1, 3) := by decide +kernel
theorem dX10_breaks_186 : decode cX10_breaks 186 = .ok (.goto (-126), 3) := by decide +kernel
theorem dX10_breaks_189 : decode cX10_breaks 189 = .ok (.aload_n 0, 1) := by decide +kernel
theorem dX10_breaks_190 : decode cX10_breaks 190 = .ok (.getfield 39, 3) := by decide +kernel
theorem dX10_breaks_193 : decode cX10_breaks 193 = .ok (.iload_n 2, 1) := by decide +kernel
theorem dX10_breaks_194 : decode cX10_breaks 194 = .ok (.invokestatic 157, 3) := by decide +kernel
theorem dX10_breaks_197 : decode cX10_breaks 197 = .ok (.iaload, 1) := by decide +kernel
theorem dX10_breaks_198 : decode cX10_breaks 198 = .ok (.ireturn, 1) := by decide +kernel
set_option maxRecDepth 20000 in
theorem ggX10_shortCut_X10_farOf : GoodIn wsX10_shortCut wsX10_farOf := goodIn_r _ [8, 9, 10, 11, 12, 7, 13, 14, 15, 16, 17, 18, 19, 20, 21, 22, 23, 24, 25, 26, 27, 28, 29, 30, 42, 43, 44, 45, 46, 47, 48, 49, 50, 51, 52, 53, 54, 55, 56, 57, 58, 59, 60, 61, 62, 63, 64, 65, 66, 67, 68, 69, 70, 71, 72, 73, 74, 75] (by decide +kernel) (by decide +kernel)
set_option maxRecDepth 20000 in
theorem gX10_shortCut_X10_farOf : GoodIn wsX10_shortCut (wsV RX10 177 RX10 yX10_farOf wsX10_farOf) := goodIn_app (goodIn_of _ (by decide +kernel)) ggX10_shortCut_X10_farOf
set_option maxRecDepth 20000 in
theorem ggX10_shortCut_X10_isThere : GoodIn wsX10_shortCut wsX10_isThere := goodIn_r _ [34, 26, 27, 42, 43, 44, 45, 46, 47, 48, 49, 50, 51, 52, 53, 54, 55, 56, 57, 58, 59, 60, 61, 62, 63, 64, 65, 66, 67, 68, 69, 70, 71, 72, 73, 74, 75] (by decide +kernel) (by decide +kernel)
set_option maxRecDepth 20000 in
theorem gX10_shortCut_X10_isThere : GoodIn wsX10_shortCut (wsV RX10 125 RX10 yX10_isThere wsX10_isThere) := goodIn_app (goodIn_of _ (by decide +kernel)) ggX10_shortCut_X10_isThere
set_option maxRecDepth 20000 in
theorem ggX10_shortCut_X10_beside : GoodIn wsX10_shortCut wsX10_beside := goodIn_r _ [25, 26, 27, 28, 29, 7, 30, 42, 43, 44, 45, 46, 47, 48, 49, 50, 51, 52, 53, 54, 55, 56, 57, 58, 59, 60, 61, 62, 63, 64, 65, 66, 67, 68, 69, 70, 71, 72, 73, 74, 75] (by decide +kernel) (by decide +kernel)
set_option maxRecDepth 20000 in
theorem gX10_shortCut_X10_beside : GoodIn wsX10_shortCut (wsV RX10 113 RX10 yX10_beside wsX10_beside) := goodIn_app (goodIn_of _ (by decide +kernel)) ggX10_shortCut_X10_beside
set_option maxRecDepth 20000 in
theorem ggX10_shortCut_X10_isOpen : GoodIn wsX10_shortCut wsX10_isOpen := goodIn_r _ [19, 20, 21, 22, 23, 24, 7, 25, 26, 27, 28, 29, 30, 42, 43, 44, 45, 46, 47, 48, 49, 50, 51, 52, 53, 54, 55, 56, 57, 58, 59, 60, 61, 62, 63, 64, 65, 66, 67, 68, 69, 70, 71, 72, 73, 74, 75] (by decide +kernel) (by decide +kernel)
set_option maxRecDepth 20000 in
theorem gX10_shortCut_X10_isOpen : GoodIn wsX10_shortCut (wsV RX10 160 RX10 yX10_isOpen wsX10_isOpen) := goodIn_app (goodIn_of _ (by decide +kernel)) ggX10_shortCut_X10_isOpen
set_option maxRecDepth 20000 in
theorem ggX10_shortCut_X10_set : GoodIn wsX10_shortCut wsX10_set := goodIn_r _ [38, 20, 21, 22, 23, 24, 7, 25, 26, 27, 28, 29, 30, 42, 43, 44, 45, 46, 47, 48, 49, 50, 51, 52, 53, 54, 55, 56, 57, 58, 59, 60, 61, 62, 63, 64, 65, 66, 67, 68, 69, 70, 71, 72, 73, 74, 75] (by decide +kernel) (by decide +kernel)
set_option maxRecDepth 20000 in
theorem gX10_shortCut_X10_set : GoodIn wsX10_shortCut (wsV RX10 136 RX10 yX10_set wsX10_set) := goodIn_app (goodIn_of _ (by decide +kernel)) ggX10_shortCut_X10_set
set_option maxRecDepth 20000 in
theorem ggX10_shortCut_X10_code : GoodIn wsX10_shortCut wsX10_code := goodIn_r _ [41] (by decide +kernel) (by decide +kernel)
set_option maxRecDepth 20000 in
theorem gX10_shortCut_X10_code : GoodIn wsX10_shortCut (va_wsS RX10 164 yX10_code wsX10_code) := goodIn_app (goodIn_of _ (by decide +kernel)) ggX10_shortCut_X10_code
theorem dX10_shortCut_0 : decode cX10_shortCut 0 = .ok (.aload_n 0, 1) := by decide +kernel
theorem dX10_shortCut_1 : decode cX10_shortCut 1 = .ok (.iconst 0, 1) := by decide +kernel
theorem dX10_shortCut_2 : decode cX10_shortCut 2 = .ok (.putfield 79, 3) := by decide +kernel
theorem dX10_shortCut_5 : decode cX10_shortCut 5 = .ok (.aload_n 0, 1) := by decide +kernel
theorem dX10_shortCut_6 : decode cX10_shortCut 6 = .ok (.aload_n 0, 1) := by decide +kernel
theorem dX10_shortCut_7 : decode cX10_shortCut 7 = .ok (.getfield 103, 3) := by decide +kernel
theorem dX10_shortCut_10 : decode cX10_shortCut 10 = .ok (.aload_n 0, 1) := by decide +kernel
theorem dX10_shortCut_11 : decode cX10_shortCut 11 = .ok (.getfield 106, 3) := by decide +kernel
theorem dX10_shortCut_14 : decode cX10_shortCut 14 = .ok (.invokevirtual 177, 3) := by decide +kernel
theorem dX10_shortCut_17 : decode cX10_shortCut 17 = .ok (.istore_n 1, 1) := by decide +kernel
theorem dX10_shortCut_18 : decode cX10_shortCut 18 = .ok (.bipush (-9), 2) := by decide +kernel
theorem dX10_shortCut_20 : decode cX10_shortCut 20 = .ok (.istore_n 2, 1) := by decide +kernel
theorem dX10_shortCut_21 : decode cX10_shortCut 21 = .ok (.iconst 0, 1) := by decide +kernel
theorem dX10_shortCut_22 : decode cX10_shortCut 22 = .ok (.istore_n 3, 1) := by decide +kernel
theorem dX10_shortCut_23 : decode cX10_shortCut 23 = .ok (.iload_n 3, 1) := by decide +kernel
theorem dX10_shortCut_24 : decode cX10_shortCut 24 = .ok (.bipush 36, 2) := by decide +kernel
theorem dX10_shortCut_26 : decode cX10_shortCut 26 = .ok (.if_icmp .ge 118, 3) := by decide +kernel
theorem dX10_shortCut_29 : decode cX10_shortCut 29 = .ok (.iconst 1, 1) := by decide +kernel
theorem dX10_shortCut_30 : decode cX10_shortCut 30 = .ok (.istore 4, 2) := by decide +kernel
theorem dX10_shortCut_32 : decode cX10_shortCut 32 = .ok (.iload 4, 2) := by decide +kernel
theorem dX10_shortCut_34 : decode cX10_shortCut 34 = .ok (.iconst 3, 1) := by decide +kernel
theorem dX10_shortCut_35 : decode cX10_shortCut 35 = .ok (.if_icmp .ge 103, 3) := by decide +kernel
theorem dX10_shortCut_38 : decode cX10_shortCut 38 = .ok (.aload_n 0, 1) := by decide +kernel
theorem dX10_shortCut_39 : decode cX10_shortCut 39 = .ok (.iload_n 3, 1) := by decide +kernel
theorem dX10_shortCut_40 : decode cX10_shortCut 40 = .ok (.invokevirtual 125, 3) := by decide +kernel
theorem dX10_shortCut_43 : decode cX10_shortCut 43 = .ok (.ifCond .eq 89, 3) := by decide +kernel
theorem dX10_shortCut_46 : decode cX10_shortCut 46 = .ok (.aload_n 0, 1) := by decide +kernel
theorem dX10_shortCut_47 : decode cX10_shortCut 47 = .ok (.iload_n 3, 1) := by decide +kernel
theorem dX10_shortCut_48 : decode cX10_shortCut 48 = .ok (.iload 4, 2) := by decide +kernel
theorem dX10_shortCut_50 : decode cX10_shortCut 50 = .ok (.invokevirtual 113, 3) := by decide +kernel
theorem dX10_shortCut_53 : decode cX10_shortCut 53 = .ok (.bipush (-9), 2) := by decide +kernel
theorem dX10_shortCut_55 : decode cX10_shortCut 55 = .ok (.if_icmp .eq 77, 3) := by decide +kernel
theorem dX10_shortCut_58 : decode cX10_shortCut 58 = .ok (.aload_n 0, 1) := by decide +kernel
theorem dX10_shortCut_59 : decode cX10_shortCut 59 = .ok (.iload_n 3, 1) := by decide +kernel
theorem dX10_shortCut_60 : decode cX10_shortCut 60 = .ok (.iload 4, 2) := by decide +kernel
theorem dX10_shortCut_62 : decode cX10_shortCut 62 = .ok (.invokevirtual 160, 3) := by decide +kernel
theorem dX10_shortCut_65 : decode cX10_shortCut 65 = .ok (.ifCond .ne 67, 3) := by decide +kernel
theorem dX10_shortCut_68 : decode cX10_shortCut 68 = .ok (.aload_n 0, 1) := by decide +kernel
theorem dX10_shortCut_69 : decode cX10_shortCut 69 = .ok (.iload_n 3, 1) := by decide +kernel
theorem dX10_shortCut_70 : decode cX10_shortCut 70 = .ok (.iload 4, 2) := by decide +kernel
theorem dX10_shortCut_72 : decode cX10_shortCut 72 = .ok (.iconst 1, 1) := by decide +kernel
theorem dX10_shortCut_73 : decode cX10_shortCut 73 = .ok (.invokevirtual 136, 3) := by decide +kernel
theorem dX10_shortCut_76 : decode cX10_shortCut 76 = .ok (.aload_n 0, 1) := by decide +kernel
theorem dX10_shortCut_77 : decode cX10_shortCut 77 = .ok (.aload_n 0, 1) := by decide +kernel
theorem dX10_shortCut_78 : decode cX10_shortCut 78 = .ok (.getfield 103, 3) := by decide +kernel
theorem dX10_shortCut_81 : decode cX10_shortCut 81 = .ok (.aload_n 0, 1) := by decide +kernel
theorem dX10_shortCut_82 : decode cX10_shortCut 82 = .ok (.getfield 106, 3) := by decide +kernel
theorem dX10_shortCut_85 : decode cX10_shortCut 85 = .ok (.invokevirtual 177, 3) := by decide +kernel
theorem dX10_shortCut_88 : decode cX10_shortCut 88 = .ok (.istore 5, 2) := by decide +kernel
theorem dX10_shortCut_90 : decode cX10_shortCut 90 = .ok (.aload_n 0, 1) := by decide +kernel
theorem dX10_shortCut_91 : decode cX10_shortCut 91 = .ok (.iload_n 3, 1) := by decide +kernel
theorem dX10_shortCut_92 : decode cX10_shortCut 92 = .ok (.iload 4, 2) := by decide +kernel
theorem dX10_shortCut_94 : decode cX10_shortCut 94 = .ok (.iconst 0, 1) := by decide +kernel
theorem dX10_shortCut_95 : decode cX10_shortCut 95 = .ok (.invokevirtual 136, 3) := by decide +kernel
theorem dX10_shortCut_98 : decode cX10_shortCut 98 = .ok (.iload 5, 2) := by decide +kernel
theorem dX10_shortCut_100 : decode cX10_shortCut 100 = .ok (.iload_n 1, 1) := by decide +kernel
theorem dX10_shortCut_101 : decode cX10_shortCut 101 = .ok (.if_icmp .ge 16, 3) := by decide +kernel
theorem dX10_shortCut_104 : decode cX10_shortCut 104 = .ok (.bipush 10, 2) := by decide +kernel
theorem dX10_shortCut_106 : decode cX10_shortCut 106 = .ok (.iload_n 3, 1) := by decide +kernel
theorem dX10_shortCut_107 : decode cX10_shortCut 107 = .ok (.invokestatic 164, 3) := by decide +kernel
theorem dX10_shortCut_110 : decode cX10_shortCut 110 = .ok (.imul, 1) := by decide +kernel
theorem dX10_shortCut_111 : decode cX10_shortCut 111 = .ok (.iload 4, 2) := by decide +kernel
theorem dX10_shortCut_113 : decode cX10_shortCut 113 = .ok (.iadd, 1) := by decide +kernel
theorem dX10_shortCut_114 : decode cX10_shortCut 114 = .ok (.goto 4, 3) := by decide +kernel
theorem dX10_shortCut_117 : decode cX10_shortCut 117 = .ok (.iload_n 2, 1) := by decide +kernel
theorem dX10_shortCut_118 : decode cX10_shortCut 118 = .ok (.istore_n 2, 1) := by decide +kernel
theorem dX10_shortCut_119 : decode cX10_shortCut 119 = .ok (.iload 5, 2) := by decide +kernel
theorem dX10_shortCut_121 : decode cX10_shortCut 121 = .ok (.iload_n 1, 1) := by decide +kernel
theorem dX10_shortCut_122 : decode cX10_shortCut 122 = .ok (.if_icmp .ge 8, 3) := by decide +kernel
theorem dX10_shortCut_125 : decode cX10_shortCut 125 = .ok (.iload 5, 2) := by decide +kernel
theorem dX10_shortCut_127 : decode cX10_shortCut 127 = .ok (.goto 4, 3) := by decide +kernel
theorem dX10_shortCut_130 : decode cX10_shortCut 130 = .ok (.iload_n 1, 1) := by decide +kernel
theorem dX10_shortCut_131 : decode cX10_shortCut 131 = .ok (.istore_n 1, 1) := by decide +kernel
theorem dX10_shortCut_132 : decode cX10_shortCut 132 = .ok (.iinc 4 1, 3) := by decide +kernel
theorem dX10_shortCut_135 : decode cX10_shortCut 135 = .ok (.goto (-103), 3) := by decide +kernel
theorem dX10_shortCut_138 : decode cX10_shortCut 138 = .ok (.iinc 3 1, 3) := by decide +kernel
theorem dX10_shortCut_141 : decode cX10_shortCut 141 = .ok (.goto (-118), 3) := by decide +kernel
theorem dX10_shortCut_144 : decode cX10_shortCut 144 = .ok (.iload_n 2, 1) := by decide +kernel
theorem dX10_shortCut_145 : decode cX10_shortCut 145 = .ok (.ireturn, 1) := by decide +kernel
set_option maxRecDepth 20000 in
theorem ggX10_bar_X10_farOf : GoodIn wsX10_bar wsX10_farOf := goodIn_r _ [8, 9, 10, 11, 12, 7, 13, 14, 15, 16, 17, 18, 19, 20, 21, 22, 23, 24, 25, 26, 27, 28, 29, 30, 42, 43, 44, 45, 46, 47, 48, 49, 50, 51, 52, 53, 54, 55, 56, 57, 58, 59, 60, 61, 62, 63, 64, 65, 66, 67, 68, 69, 70, 71, 72, 73, 74, 75] (by decide +kernel) (by decide +kernel)
set_option maxRecDepth 20000 in
theorem gX10_bar_X10_farOf : GoodIn wsX10_bar (wsV RX10 177 RX10 yX10_farOf wsX10_farOf) := goodIn_app (goodIn_of _ (by decide +kernel)) ggX10_bar_X10_farOf
set_option maxRecDepth 20000 in
theorem ggX10_bar_X10_isThere : GoodIn wsX10_bar wsX10_isThere := goodIn_r _ [34, 26, 27, 42, 43, 44, 45, 46, 47, 48, 49, 50, 51, 52, 53, 54, 55, 56, 57, 58, 59, 60, 61, 62, 63, 64, 65, 66, 67, 68, 69, 70, 71, 72, 73, 74, 75] (by decide +kernel) (by decide +kernel)
set_option maxRecDepth 20000 in
theorem gX10_bar_X10_isThere : GoodIn wsX10_bar (wsV RX10 125 RX10 yX10_isThere wsX10_isThere) := goodIn_app (goodIn_of _ (by decide +kernel)) ggX10_bar_X10_isThere
set_option maxRecDepth 20000 in
theorem ggX10_bar_X10_isOpen : GoodIn wsX10_bar wsX10_isOpen := goodIn_r _ [19, 20, 21, 22, 23, 24, 7, 25, 26, 27, 28, 29, 30, 42, 43, 44, 45, 46, 47, 48, 49, 50, 51, 52, 53, 54, 55, 56, 57, 58, 59, 60, 61, 62, 63, 64, 65, 66, 67, 68, 69, 70, 71, 72, 73, 74, 75] (by decide +kernel) (by decide +kernel)
set_option maxRecDepth 20000 in
theorem gX10_bar_X10_isOpen : GoodIn wsX10_bar (wsV RX10 160 RX10 yX10_isOpen wsX10_isOpen) := goodIn_app (goodIn_of _ (by decide +kernel)) ggX10_bar_X10_isOpen
set_option maxRecDepth 20000 in
theorem ggX10_bar_X10_set : GoodIn wsX10_bar wsX10_set := goodIn_r _ [38, 20, 21, 22, 23, 24, 7, 25, 26, 27, 28, 29, 30, 42, 43, 44, 45, 46, 47, 48, 49, 50, 51, 52, 53, 54, 55, 56, 57, 58, 59, 60, 61, 62, 63, 64, 65, 66, 67, 68, 69, 70, 71, 72, 73, 74, 75] (by decide +kernel) (by decide +kernel)
set_option maxRecDepth 20000 in
theorem gX10_bar_X10_set : GoodIn wsX10_bar (wsV RX10 136 RX10 yX10_set wsX10_set) := goodIn_app (goodIn_of _ (by decide +kernel)) ggX10_bar_X10_set
set_option maxRecDepth 20000 in
theorem ggX10_bar_X10_code : GoodIn wsX10_bar wsX10_code := goodIn_r _ [41] (by decide +kernel) (by decide +kernel)
set_option maxRecDepth 20000 in
theorem gX10_bar_X10_code : GoodIn wsX10_bar (va_wsS RX10 164 yX10_code wsX10_code) := goodIn_app (goodIn_of _ (by decide +kernel)) ggX10_bar_X10_code
theorem dX10_bar_0 : decode cX10_bar 0 = .ok (.aload_n 0, 1) := by decide +kernel
theorem dX10_bar_1 : decode cX10_bar 1 = .ok (.iconst 0, 1) := by decide +kernel
theorem dX10_bar_2 : decode cX10_bar 2 = .ok (.putfield 79, 3) := by decide +kernel
theorem dX10_bar_5 : decode cX10_bar 5 = .ok (.aload_n 0, 1) := by decide +kernel
theorem dX10_bar_6 : decode cX10_bar 6 = .ok (.aload_n 0, 1) := by decide +kernel
theorem dX10_bar_7 : decode cX10_bar 7 = .ok (.getfield 103, 3) := by decide +kernel
theorem dX10_bar_10 : decode cX10_bar 10 = .ok (.aload_n 0, 1) := by decide +kernel
theorem dX10_bar_11 : decode cX10_bar 11 = .ok (.getfield 106, 3) := by decide +kernel
theorem dX10_bar_14 : decode cX10_bar 14 = .ok (.invokevirtual 177, 3) := by decide +kernel
theorem dX10_bar_17 : decode cX10_bar 17 = .ok (.istore_n 1, 1) := by decide +kernel
theorem dX10_bar_18 : decode cX10_bar 18 = .ok (.bipush (-9), 2) := by decide +kernel
theorem dX10_bar_20 : decode cX10_bar 20 = .ok (.istore_n 2, 1) := by decide +kernel
theorem dX10_bar_21 : decode cX10_bar 21 = .ok (.iconst 0, 1) := by decide +kernel
theorem dX10_bar_22 : decode cX10_bar 22 = .ok (.istore_n 3, 1) := by decide +kernel
theorem dX10_bar_23 : decode cX10_bar 23 = .ok (.iload_n 3, 1) := by decide +kernel
theorem dX10_bar_24 : decode cX10_bar 24 = .ok (.bipush 36, 2) := by decide +kernel
theorem dX10_bar_26 : decode cX10_bar 26 = .ok (.if_icmp .ge 125, 3) := by decide +kernel
theorem dX10_bar_29 : decode cX10_bar 29 = .ok (.iconst 1, 1) := by decide +kernel
theorem dX10_bar_30 : decode cX10_bar 30 = .ok (.istore 4, 2) := by decide +kernel
theorem dX10_bar_32 : decode cX10_bar 32 = .ok (.iload 4, 2) := by decide +kernel
theorem dX10_bar_34 : decode cX10_bar 34 = .ok (.iconst 3, 1) := by decide +kernel
theorem dX10_bar_35 : decode cX10_bar 35 = .ok (.if_icmp .ge 110, 3) := by decide +kernel
theorem dX10_bar_38 : decode cX10_bar 38 = .ok (.aload_n 0, 1) := by decide +kernel
theorem dX10_bar_39 : decode cX10_bar 39 = .ok (.iload_n 3, 1) := by decide +kernel
theorem dX10_bar_40 : decode cX10_bar 40 = .ok (.invokevirtual 125, 3) := by decide +kernel
theorem dX10_bar_43 : decode cX10_bar 43 = .ok (.ifCond .eq 96, 3) := by decide +kernel
theorem dX10_bar_46 : decode cX10_bar 46 = .ok (.aload_n 0, 1) := by decide +kernel
theorem dX10_bar_47 : decode cX10_bar 47 = .ok (.iload_n 3, 1) := by decide +kernel
theorem dX10_bar_48 : decode cX10_bar 48 = .ok (.iload 4, 2) := by decide +kernel
theorem dX10_bar_50 : decode cX10_bar 50 = .ok (.invokevirtual 160, 3) := by decide +kernel
theorem dX10_bar_53 : decode cX10_bar 53 = .ok (.ifCond .eq 86, 3) := by decide +kernel
theorem dX10_bar_56 : decode cX10_bar 56 = .ok (.aload_n 0, 1) := by decide +kernel
theorem dX10_bar_57 : decode cX10_bar 57 = .ok (.iload_n 3, 1) := by decide +kernel
theorem dX10_bar_58 : decode cX10_bar 58 = .ok (.iload 4, 2) := by decide +kernel
theorem dX10_bar_60 : decode cX10_bar 60 = .ok (.iconst 0, 1) := by decide +kernel
theorem dX10_bar_61 : decode cX10_bar 61 = .ok (.invokevirtual 136, 3) := by decide +kernel
theorem dX10_bar_64 : decode cX10_bar 64 = .ok (.aload_n 0, 1) := by decide +kernel
theorem dX10_bar_65 : decode cX10_bar 65 = .ok (.aload_n 0, 1) := by decide +kernel
theorem dX10_bar_66 : decode cX10_bar 66 = .ok (.getfield 103, 3) := by decide +kernel
theorem dX10_bar_69 : decode cX10_bar 69 = .ok (.aload_n 0, 1) := by decide +kernel
theorem dX10_bar_70 : decode cX10_bar 70 = .ok (.getfield 106, 3) := by decide +kernel
theorem dX10_bar_73 : decode cX10_bar 73 = .ok (.invokevirtual 177, 3) := by decide +kernel
theorem dX10_bar_76 : decode cX10_bar 76 = .ok (.istore 5, 2) := by decide +kernel
theorem dX10_bar_78 : decode cX10_bar 78 = .ok (.aload_n 0, 1) := by decide +kernel
theorem dX10_bar_79 : decode cX10_bar 79 = .ok (.iload_n 3, 1) := by decide +kernel
theorem dX10_bar_80 : decode cX10_bar 80 = .ok (.iload 4, 2) := by decide +kernel
theorem dX10_bar_82 : decode cX10_bar 82 = .ok (.iconst 1, 1) := by decide +kernel
theorem dX10_bar_83 : decode cX10_bar 83 = .ok (.invokevirtual 136, 3) := by decide +kernel
theorem dX10_bar_86 : decode cX10_bar 86 = .ok (.iload 5, 2) := by decide +kernel
theorem dX10_bar_88 : decode cX10_bar 88 = .ok (.sipush 9999, 3) := by decide +kernel
theorem dX10_bar_91 : decode cX10_bar 91 = .ok (.if_icmp .ge 13, 3) := by decide +kernel
theorem dX10_bar_94 : decode cX10_bar 94 = .ok (.iload 5, 2) := by decide +kernel
theorem dX10_bar_96 : decode cX10_bar 96 = .ok (.iload_n 1, 1) := by decide +kernel
theorem dX10_bar_97 : decode cX10_bar 97 = .ok (.if_icmp .le 7, 3) := by decide +kernel
theorem dX10_bar_100 : decode cX10_bar 100 = .ok (.iconst 1, 1) := by decide +kernel
theorem dX10_bar_101 : decode cX10_bar 101 = .ok (.goto 4, 3) := by decide +kernel
theorem dX10_bar_104 : decode cX10_bar 104 = .ok (.iconst 0, 1) := by decide +kernel
theorem dX10_bar_105 : decode cX10_bar 105 = .ok (.istore 6, 2) := by decide +kernel
theorem dX10_bar_107 : decode cX10_bar 107 = .ok (.iload 6, 2) := by decide +kernel
theorem dX10_bar_109 : decode cX10_bar 109 = .ok (.ifCond .eq 16, 3) := by decide +kernel
theorem dX10_bar_112 : decode cX10_bar 112 = .ok (.bipush 10, 2) := by decide +kernel
theorem dX10_bar_114 : decode cX10_bar 114 = .ok (.iload_n 3, 1) := by decide +kernel
theorem dX10_bar_115 : decode cX10_bar 115 = .ok (.invokestatic 164, 3) := by decide +kernel
theorem dX10_bar_118 : decode cX10_bar 118 = .ok (.imul, 1) := by decide +kernel
theorem dX10_bar_119 : decode cX10_bar 119 = .ok (.iload 4, 2) := by decide +kernel
theorem dX10_bar_121 : decode cX10_bar 121 = .ok (.iadd, 1) := by decide +kernel
theorem dX10_bar_122 : decode cX10_bar 122 = .ok (.goto 4, 3) := by decide +kernel
theorem dX10_bar_125 : decode cX10_bar 125 = .ok (.iload_n 2, 1) := by decide +kernel
theorem dX10_bar_126 : decode cX10_bar 126 = .ok (.istore_n 2, 1) := by decide +kernel
theorem dX10_bar_127 : decode cX10_bar 127 = .ok (.iload 6, 2) := by decide +kernel
theorem dX10_bar_129 : decode cX10_bar 129 = .ok (.ifCond .eq 8, 3) := by decide +kernel
theorem dX10_bar_132 : decode cX10_bar 132 = .ok (.iload 5, 2) := by decide +kernel
theorem dX10_bar_134 : decode cX10_bar 134 = .ok (.goto 4, 3) := by decide +kernel
theorem dX10_bar_137 : decode cX10_bar 137 = .ok (.iload_n 1, 1) := by decide +kernel
theorem dX10_bar_138 : decode cX10_bar 138 = .ok (.istore_n 1, 1) := by decide +kernel
theorem dX10_bar_139 : decode cX10_bar 139 = .ok (.iinc 4 1, 3) := by decide +kernel
theorem dX10_bar_142 : decode cX10_bar 142 = .ok (.goto (-110), 3) := by decide +kernel
theorem dX10_bar_145 : decode cX10_bar 145 = .ok (.iinc 3 1, 3) := by decide +kernel
theorem dX10_bar_148 : decode cX10_bar 148 = .ok (.goto (-125), 3) := by decide +kernel
theorem dX10_bar_151 : decode cX10_bar 151 = .ok (.iload_n 2, 1) := by decide +kernel
theorem dX10_bar_152 : decode cX10_bar 152 = .ok (.ireturn, 1) := by decide +kernel
set_option maxRecDepth 20000 in
theorem ggX10_goes_X10_isOpen : GoodIn wsX10_goes wsX10_isOpen := goodIn_r _ [5, 6, 7, 8, 9, 10, 4, 11, 12, 13, 14, 15, 16, 17, 18, 19, 20, 21, 22, 23, 24, 25, 26, 27, 28, 29, 30, 31, 32, 33, 34, 35, 36, 37, 38, 39, 40, 41, 42, 43, 44, 45, 46, 47, 48, 49, 50] (by decide +kernel) (by decide +kernel)
set_option maxRecDepth 20000 in
theorem gX10_goes_X10_isOpen : GoodIn wsX10_goes (wsV RX10 160 RX10 yX10_isOpen wsX10_isOpen) := goodIn_app (goodIn_of _ (by decide +kernel)) ggX10_goes_X10_isOpen
set_option maxRecDepth 20000 in
theorem ggX10_goes_X10_beside : GoodIn wsX10_goes wsX10_beside := goodIn_r _ [11, 12, 13, 14, 15, 4, 16, 17, 18, 19, 20, 21, 22, 23, 24, 25, 26, 27, 28, 29, 30, 31, 32, 33, 34, 35, 36, 37, 38, 39, 40, 41, 42, 43, 44, 45, 46, 47, 48, 49, 50] (by decide +kernel) (by decide +kernel)
set_option maxRecDepth 20000 in
theorem gX10_goes_X10_beside : GoodIn wsX10_goes (wsV RX10 113 RX10 yX10_beside wsX10_beside) := goodIn_app (goodIn_of _ (by decide +kernel)) ggX10_goes_X10_beside
theorem dX10_goes_0 : decode cX10_goes 0 = .ok (.iload_n 2, 1) := by decide +kernel
theorem dX10_goes_1 : decode cX10_goes 1 = .ok (.iconst 4, 1) := by decide +kernel
theorem dX10_goes_2 : decode cX10_goes 2 = .ok (.if_icmp .ne 7, 3) := by decide +kernel
theorem dX10_goes_5 : decode cX10_goes 5 = .ok (.iload_n 1, 1) := by decide +kernel
theorem dX10_goes_6 : decode cX10_goes 6 = .ok (.goto 23, 3) := by decide +kernel
theorem dX10_goes_9 : decode cX10_goes 9 = .ok (.aload_n 0, 1) := by decide +kernel
theorem dX10_goes_10 : decode cX10_goes 10 = .ok (.iload_n 1, 1) := by decide +kernel
theorem dX10_goes_11 : decode cX10_goes 11 = .ok (.iload_n 2, 1) := by decide +kernel
theorem dX10_goes_12 : decode cX10_goes 12 = .ok (.invokevirtual 160, 3) := by decide +kernel
theorem dX10_goes_15 : decode cX10_goes 15 = .ok (.ifCond .eq 12, 3) := by decide +kernel
theorem dX10_goes_18 : decode cX10_goes 18 = .ok (.aload_n 0, 1) := by decide +kernel
theorem dX10_goes_19 : decode cX10_goes 19 = .ok (.iload_n 1, 1) := by decide +kernel
theorem dX10_goes_20 : decode cX10_goes 20 = .ok (.iload_n 2, 1) := by decide +kernel
theorem dX10_goes_21 : decode cX10_goes 21 = .ok (.invokevirtual 113, 3) := by decide +kernel
theorem dX10_goes_24 : decode cX10_goes 24 = .ok (.goto 5, 3) := by decide +kernel
theorem dX10_goes_27 : decode cX10_goes 27 = .ok (.bipush (-9), 2) := by decide +kernel
theorem dX10_goes_29 : decode cX10_goes 29 = .ok (.ireturn, 1) := by decide +kernel
set_option maxRecDepth 20000 in
theorem ggX10_homeBehind_X10_goes : GoodIn wsX10_homeBehind wsX10_goes := goodIn_r _ [7, 8, 9, 10, 6, 11, 12, 13, 14, 15, 16, 17, 18, 19, 20, 21, 22, 23, 24, 25, 26, 27, 28, 29, 30, 31, 32, 33, 34, 35, 36, 37, 38, 39, 40, 41, 42, 43, 44, 45, 46, 47, 48, 49, 50, 51, 52, 53, 54, 55, 56] (by decide +kernel) (by decide +kernel)
set_option maxRecDepth 20000 in
theorem gX10_homeBehind_X10_goes : GoodIn wsX10_homeBehind (wsV RX10 232 RX10 yX10_goes wsX10_goes) := goodIn_app (goodIn_of _ (by decide +kernel)) ggX10_homeBehind_X10_goes
theorem dX10_homeBehind_0 : decode cX10_homeBehind 0 = .ok (.iload_n 1, 1) := by decide +kernel
theorem dX10_homeBehind_1 : decode cX10_homeBehind 1 = .ok (.aload_n 0, 1) := by decide +kernel
theorem dX10_homeBehind_2 : decode cX10_homeBehind 2 = .ok (.getfield 106, 3) := by decide +kernel
theorem dX10_homeBehind_5 : decode cX10_homeBehind 5 = .ok (.if_icmp .ne 10, 3) := by decide +kernel
theorem dX10_homeBehind_8 : decode cX10_homeBehind 8 = .ok (.iload_n 1, 1) := by decide +kernel
theorem dX10_homeBehind_9 : decode cX10_homeBehind 9 = .ok (.iload_n 2, 1) := by decide +kernel
theorem dX10_homeBehind_10 : decode cX10_homeBehind 10 = .ok (.if_icmp .eq 5, 3) := by decide +kernel
theorem dX10_homeBehind_13 : decode cX10_homeBehind 13 = .ok (.iconst 1, 1) := by decide +kernel
theorem dX10_homeBehind_14 : decode cX10_homeBehind 14 = .ok (.ireturn, 1) := by decide +kernel
theorem dX10_homeBehind_15 : decode cX10_homeBehind 15 = .ok (.iload_n 1, 1) := by decide +kernel
theorem dX10_homeBehind_16 : decode cX10_homeBehind 16 = .ok (.iload_n 2, 1) := by decide +kernel
theorem dX10_homeBehind_17 : decode cX10_homeBehind 17 = .ok (.if_icmp .ne 9, 3) := by decide +kernel
theorem dX10_homeBehind_20 : decode cX10_homeBehind 20 = .ok (.sipush 9999, 3) := by decide +kernel
theorem dX10_homeBehind_23 : decode cX10_homeBehind 23 = .ok (.goto 4, 3) := by decide +kernel
theorem dX10_homeBehind_26 : decode cX10_homeBehind 26 = .ok (.iconst 0, 1) := by decide +kernel
theorem dX10_homeBehind_27 : decode cX10_homeBehind 27 = .ok (.istore_n 3, 1) := by decide +kernel
theorem dX10_homeBehind_28 : decode cX10_homeBehind 28 = .ok (.iconst 0, 1) := by decide +kernel
theorem dX10_homeBehind_29 : decode cX10_homeBehind 29 = .ok (.istore 4, 2) := by decide +kernel
theorem dX10_homeBehind_31 : decode cX10_homeBehind 31 = .ok (.iload 4, 2) := by decide +kernel
theorem dX10_homeBehind_33 : decode cX10_homeBehind 33 = .ok (.iconst 5, 1) := by decide +kernel
theorem dX10_homeBehind_34 : decode cX10_homeBehind 34 = .ok (.if_icmp .ge 71, 3) := by decide +kernel
theorem dX10_homeBehind_37 : decode cX10_homeBehind 37 = .ok (.iload_n 3, 1) := by decide +kernel
theorem dX10_homeBehind_38 : decode cX10_homeBehind 38 = .ok (.sipush 9999, 3) := by decide +kernel
theorem dX10_homeBehind_41 : decode cX10_homeBehind 41 = .ok (.if_icmp .ge 64, 3) := by decide +kernel
theorem dX10_homeBehind_44 : decode cX10_homeBehind 44 = .ok (.aload_n 0, 1) := by decide +kernel
theorem dX10_homeBehind_45 : decode cX10_homeBehind 45 = .ok (.iload_n 2, 1) := by decide +kernel
theorem dX10_homeBehind_46 : decode cX10_homeBehind 46 = .ok (.iload 4, 2) := by decide +kernel
theorem dX10_homeBehind_48 : decode cX10_homeBehind 48 = .ok (.invokevirtual 232, 3) := by decide +kernel
theorem dX10_homeBehind_51 : decode cX10_homeBehind 51 = .ok (.istore 5, 2) := by decide +kernel
theorem dX10_homeBehind_53 : decode cX10_homeBehind 53 = .ok (.iload 5, 2) := by decide +kernel
theorem dX10_homeBehind_55 : decode cX10_homeBehind 55 = .ok (.bipush (-9), 2) := by decide +kernel
theorem dX10_homeBehind_57 : decode cX10_homeBehind 57 = .ok (.if_icmp .eq 42, 3) := by decide +kernel
theorem dX10_homeBehind_60 : decode cX10_homeBehind 60 = .ok (.iload 5, 2) := by decide +kernel
theorem dX10_homeBehind_62 : decode cX10_homeBehind 62 = .ok (.iload_n 1, 1) := by decide +kernel
theorem dX10_homeBehind_63 : decode cX10_homeBehind 63 = .ok (.if_icmp .ne 9, 3) := by decide +kernel
theorem dX10_homeBehind_66 : decode cX10_homeBehind 66 = .ok (.sipush 9999, 3) := by decide +kernel
theorem dX10_homeBehind_69 : decode cX10_homeBehind 69 = .ok (.goto 15, 3) := by decide +kernel
theorem dX10_homeBehind_72 : decode cX10_homeBehind 72 = .ok (.aload_n 0, 1) := by decide +kernel
theorem dX10_homeBehind_73 : decode cX10_homeBehind 73 = .ok (.getfield 70, 3) := by decide +kernel
theorem dX10_homeBehind_76 : decode cX10_homeBehind 76 = .ok (.bipush 36, 2) := by decide +kernel
theorem dX10_homeBehind_78 : decode cX10_homeBehind 78 = .ok (.iload_n 1, 1) := by decide +kernel
theorem dX10_homeBehind_79 : decode cX10_homeBehind 79 = .ok (.imul, 1) := by decide +kernel
theorem dX10_homeBehind_80 : decode cX10_homeBehind 80 = .ok (.iload 5, 2) := by decide +kernel
theorem dX10_homeBehind_82 : decode cX10_homeBehind 82 = .ok (.iadd, 1) := by decide +kernel
theorem dX10_homeBehind_83 : decode cX10_homeBehind 83 = .ok (.iaload, 1) := by decide +kernel
theorem dX10_homeBehind_84 : decode cX10_homeBehind 84 = .ok (.istore 6, 2) := by decide +kernel
theorem dX10_homeBehind_86 : decode cX10_homeBehind 86 = .ok (.iload 6, 2) := by decide +kernel
theorem dX10_homeBehind_88 : decode cX10_homeBehind 88 = .ok (.iload_n 3, 1) := by decide +kernel
theorem dX10_homeBehind_89 : decode cX10_homeBehind 89 = .ok (.if_icmp .le 8, 3) := by decide +kernel
theorem dX10_homeBehind_92 : decode cX10_homeBehind 92 = .ok (.iload 6, 2) := by decide +kernel
theorem dX10_homeBehind_94 : decode cX10_homeBehind 94 = .ok (.goto 4, 3) := by decide +kernel
theorem dX10_homeBehind_97 : decode cX10_homeBehind 97 = .ok (.iload_n 3, 1) := by decide +kernel
theorem dX10_homeBehind_98 : decode cX10_homeBehind 98 = .ok (.istore_n 3, 1) := by decide +kernel
theorem dX10_homeBehind_99 : decode cX10_homeBehind 99 = .ok (.iinc 4 1, 3) := by decide +kernel
theorem dX10_homeBehind_102 : decode cX10_homeBehind 102 = .ok (.goto (-71), 3) := by decide +kernel
theorem dX10_homeBehind_105 : decode cX10_homeBehind 105 = .ok (.iload_n 3, 1) := by decide +kernel
theorem dX10_homeBehind_106 : decode cX10_homeBehind 106 = .ok (.sipush 9999, 3) := by decide +kernel
theorem dX10_homeBehind_109 : decode cX10_homeBehind 109 = .ok (.if_icmp .ge 9, 3) := by decide +kernel
theorem dX10_homeBehind_112 : decode cX10_homeBehind 112 = .ok (.iload_n 3, 1) := by decide +kernel
theorem dX10_homeBehind_113 : decode cX10_homeBehind 113 = .ok (.iconst 1, 1) := by decide +kernel
theorem dX10_homeBehind_114 : decode cX10_homeBehind 114 = .ok (.iadd, 1) := by decide +kernel
theorem dX10_homeBehind_115 : decode cX10_homeBehind 115 = .ok (.goto 6, 3) := by decide +kernel
theorem dX10_homeBehind_118 : decode cX10_homeBehind 118 = .ok (.sipush 9999, 3) := by decide +kernel
theorem dX10_homeBehind_121 : decode cX10_homeBehind 121 = .ok (.ireturn, 1) := by decide +kernel
set_option maxRecDepth 20000 in
theorem ggX10_caughtBehind_X10_goes : GoodIn wsX10_caughtBehind wsX10_goes := goodIn_r _ [7, 8, 9, 10, 6, 11, 12, 13, 14, 15, 16, 17, 18, 19, 20, 21, 22, 23, 24, 25, 26, 27, 28, 29, 30, 31, 32, 33, 34, 35, 36, 37, 38, 39, 40, 41, 42, 43, 44, 45, 46, 47, 48, 49, 50, 51, 52, 53, 54, 55, 56] (by decide +kernel) (by decide +kernel)
set_option maxRecDepth 20000 in
theorem gX10_caughtBehind_X10_goes : GoodIn wsX10_caughtBehind (wsV RX10 232 RX10 yX10_goes wsX10_goes) := goodIn_app (goodIn_of _ (by decide +kernel)) ggX10_caughtBehind_X10_goes
theorem dX10_caughtBehind_0 : decode cX10_caughtBehind 0 = .ok (.iload_n 1, 1) := by decide +kernel
theorem dX10_caughtBehind_1 : decode cX10_caughtBehind 1 = .ok (.aload_n 0, 1) := by decide +kernel
theorem dX10_caughtBehind_2 : decode cX10_caughtBehind 2 = .ok (.getfield 106, 3) := by decide +kernel
theorem dX10_caughtBehind_5 : decode cX10_caughtBehind 5 = .ok (.if_icmp .eq 8, 3) := by decide +kernel
theorem dX10_caughtBehind_8 : decode cX10_caughtBehind 8 = .ok (.iload_n 1, 1) := by decide +kernel
theorem dX10_caughtBehind_9 : decode cX10_caughtBehind 9 = .ok (.iload_n 2, 1) := by decide +kernel
theorem dX10_caughtBehind_10 : decode cX10_caughtBehind 10 = .ok (.if_icmp .ne 16, 3) := by decide +kernel
theorem dX10_caughtBehind_13 : decode cX10_caughtBehind 13 = .ok (.iload_n 1, 1) := by decide +kernel
theorem dX10_caughtBehind_14 : decode cX10_caughtBehind 14 = .ok (.iload_n 2, 1) := by decide +kernel
theorem dX10_caughtBehind_15 : decode cX10_caughtBehind 15 = .ok (.if_icmp .ne 7, 3) := by decide +kernel
theorem dX10_caughtBehind_18 : decode cX10_caughtBehind 18 = .ok (.iconst 0, 1) := by decide +kernel
theorem dX10_caughtBehind_19 : decode cX10_caughtBehind 19 = .ok (.goto 6, 3) := by decide +kernel
theorem dX10_caughtBehind_22 : decode cX10_caughtBehind 22 = .ok (.sipush 9999, 3) := by decide +kernel
theorem dX10_caughtBehind_25 : decode cX10_caughtBehind 25 = .ok (.ireturn, 1) := by decide +kernel
theorem dX10_caughtBehind_26 : decode cX10_caughtBehind 26 = .ok (.sipush 9999, 3) := by decide +kernel
theorem dX10_caughtBehind_29 : decode cX10_caughtBehind 29 = .ok (.istore_n 3, 1) := by decide +kernel
theorem dX10_caughtBehind_30 : decode cX10_caughtBehind 30 = .ok (.iconst 0, 1) := by decide +kernel
theorem dX10_caughtBehind_31 : decode cX10_caughtBehind 31 = .ok (.istore 4, 2) := by decide +kernel
theorem dX10_caughtBehind_33 : decode cX10_caughtBehind 33 = .ok (.iload 4, 2) := by decide +kernel
theorem dX10_caughtBehind_35 : decode cX10_caughtBehind 35 = .ok (.iconst 5, 1) := by decide +kernel
theorem dX10_caughtBehind_36 : decode cX10_caughtBehind 36 = .ok (.if_icmp .ge 62, 3) := by decide +kernel
theorem dX10_caughtBehind_39 : decode cX10_caughtBehind 39 = .ok (.aload_n 0, 1) := by decide +kernel
theorem dX10_caughtBehind_40 : decode cX10_caughtBehind 40 = .ok (.iload_n 2, 1) := by decide +kernel
theorem dX10_caughtBehind_41 : decode cX10_caughtBehind 41 = .ok (.iload 4, 2) := by decide +kernel
theorem dX10_caughtBehind_43 : decode cX10_caughtBehind 43 = .ok (.invokevirtual 232, 3) := by decide +kernel
theorem dX10_caughtBehind_46 : decode cX10_caughtBehind 46 = .ok (.istore 5, 2) := by decide +kernel
theorem dX10_caughtBehind_48 : decode cX10_caughtBehind 48 = .ok (.iload 5, 2) := by decide +kernel
theorem dX10_caughtBehind_50 : decode cX10_caughtBehind 50 = .ok (.bipush (-9), 2) := by decide +kernel
theorem dX10_caughtBehind_52 : decode cX10_caughtBehind 52 = .ok (.if_icmp .eq 40, 3) := by decide +kernel
theorem dX10_caughtBehind_55 : decode cX10_caughtBehind 55 = .ok (.iload 5, 2) := by decide +kernel
theorem dX10_caughtBehind_57 : decode cX10_caughtBehind 57 = .ok (.iload_n 1, 1) := by decide +kernel
theorem dX10_caughtBehind_58 : decode cX10_caughtBehind 58 = .ok (.if_icmp .ne 7, 3) := by decide +kernel
theorem dX10_caughtBehind_61 : decode cX10_caughtBehind 61 = .ok (.iconst 0, 1) := by decide +kernel
theorem dX10_caughtBehind_62 : decode cX10_caughtBehind 62 = .ok (.goto 15, 3) := by decide +kernel
theorem dX10_caughtBehind_65 : decode cX10_caughtBehind 65 = .ok (.aload_n 0, 1) := by decide +kernel
theorem dX10_caughtBehind_66 : decode cX10_caughtBehind 66 = .ok (.getfield 70, 3) := by decide +kernel
theorem dX10_caughtBehind_69 : decode cX10_caughtBehind 69 = .ok (.bipush 36, 2) := by decide +kernel
theorem dX10_caughtBehind_71 : decode cX10_caughtBehind 71 = .ok (.iload_n 1, 1) := by decide +kernel
theorem dX10_caughtBehind_72 : decode cX10_caughtBehind 72 = .ok (.imul, 1) := by decide +kernel
theorem dX10_caughtBehind_73 : decode cX10_caughtBehind 73 = .ok (.iload 5, 2) := by decide +kernel
theorem dX10_caughtBehind_75 : decode cX10_caughtBehind 75 = .ok (.iadd, 1) := by decide +kernel
theorem dX10_caughtBehind_76 : decode cX10_caughtBehind 76 = .ok (.iaload, 1) := by decide +kernel
theorem dX10_caughtBehind_77 : decode cX10_caughtBehind 77 = .ok (.istore 6, 2) := by decide +kernel
theorem dX10_caughtBehind_79 : decode cX10_caughtBehind 79 = .ok (.iload 6, 2) := by decide +kernel
theorem dX10_caughtBehind_81 : decode cX10_caughtBehind 81 = .ok (.iload_n 3, 1) := by decide +kernel
theorem dX10_caughtBehind_82 : decode cX10_caughtBehind 82 = .ok (.if_icmp .ge 8, 3) := by decide +kernel
theorem dX10_caughtBehind_85 : decode cX10_caughtBehind 85 = .ok (.iload 6, 2) := by decide +kernel
theorem dX10_caughtBehind_87 : decode cX10_caughtBehind 87 = .ok (.goto 4, 3) := by decide +kernel
theorem dX10_caughtBehind_90 : decode cX10_caughtBehind 90 = .ok (.iload_n 3, 1) := by decide +kernel
theorem dX10_caughtBehind_91 : decode cX10_caughtBehind 91 = .ok (.istore_n 3, 1) := by decide +kernel
theorem dX10_caughtBehind_92 : decode cX10_caughtBehind 92 = .ok (.iinc 4 1, 3) := by decide +kernel
theorem dX10_caughtBehind_95 : decode cX10_caughtBehind 95 = .ok (.goto (-62), 3) := by decide +kernel
theorem dX10_caughtBehind_98 : decode cX10_caughtBehind 98 = .ok (.iload_n 3, 1) := by decide +kernel
theorem dX10_caughtBehind_99 : decode cX10_caughtBehind 99 = .ok (.sipush 9999, 3) := by decide +kernel
theorem dX10_caughtBehind_102 : decode cX10_caughtBehind 102 = .ok (.if_icmp .ge 9, 3) := by decide +kernel
theorem dX10_caughtBehind_105 : decode cX10_caughtBehind 105 = .ok (.iload_n 3, 1) := by decide +kernel
theorem dX10_caughtBehind_106 : decode cX10_caughtBehind 106 = .ok (.iconst 1, 1) := by decide +kernel
theorem dX10_caughtBehind_107 : decode cX10_caughtBehind 107 = .ok (.iadd, 1) := by decide +kernel
theorem dX10_caughtBehind_108 : decode cX10_caughtBehind 108 = .ok (.goto 6, 3) := by decide +kernel
theorem dX10_caughtBehind_111 : decode cX10_caughtBehind 111 = .ok (.sipush 9999, 3) := by decide +kernel
theorem dX10_caughtBehind_114 : decode cX10_caughtBehind 114 = .ok (.ireturn, 1) := by decide +kernel
set_option maxRecDepth 20000 in
theorem ggX10_turnsOf_X10_goes : GoodIn wsX10_turnsOf wsX10_goes := goodIn_r _ [6, 7, 8, 9, 5, 10, 11, 12, 13, 14, 15, 16, 17, 18, 19, 20, 21, 31, 32, 33, 34, 35, 36, 37, 38, 39, 40, 41, 42, 43, 44, 45, 46, 47, 48, 49, 50, 51, 52, 53, 54, 55, 56, 57, 58, 59, 60, 61, 62, 63, 64] (by decide +kernel) (by decide +kernel)
set_option maxRecDepth 20000 in
theorem gX10_turnsOf_X10_goes : GoodIn wsX10_turnsOf (wsV RX10 232 RX10 yX10_goes wsX10_goes) := goodIn_app (goodIn_of _ (by decide +kernel)) ggX10_turnsOf_X10_goes
set_option maxRecDepth 20000 in
theorem ggX10_turnsOf_X10_homeBehind : GoodIn wsX10_turnsOf wsX10_homeBehind := goodIn_r _ [25, 1, 26, 2, 3, 4, 5, 6, 7, 8, 9, 10, 11, 12, 13, 14, 15, 16, 17, 18, 19, 20, 21, 31, 32, 33, 34, 35, 36, 37, 38, 39, 40, 41, 42, 43, 44, 45, 46, 47, 48, 49, 50, 51, 52, 53, 54, 55, 56, 57, 58, 59, 60, 61, 62, 63, 64] (by decide +kernel) (by decide +kernel)
set_option maxRecDepth 20000 in
theorem gX10_turnsOf_X10_homeBehind : GoodIn wsX10_turnsOf (wsV RX10 235 RX10 yX10_homeBehind wsX10_homeBehind) := goodIn_app (goodIn_of _ (by decide +kernel)) ggX10_turnsOf_X10_homeBehind
set_option maxRecDepth 20000 in
theorem ggX10_turnsOf_X10_caughtBehind : GoodIn wsX10_turnsOf wsX10_caughtBehind := goodIn_r _ [30, 1, 26, 2, 3, 4, 5, 6, 7, 8, 9, 10, 11, 12, 13, 14, 15, 16, 17, 18, 19, 20, 21, 31, 32, 33, 34, 35, 36, 37, 38, 39, 40, 41, 42, 43, 44, 45, 46, 47, 48, 49, 50, 51, 52, 53, 54, 55, 56, 57, 58, 59, 60, 61, 62, 63, 64] (by decide +kernel) (by decide +kernel)
set_option maxRecDepth 20000 in
theorem gX10_turnsOf_X10_caughtBehind : GoodIn wsX10_turnsOf (wsV RX10 238 RX10 yX10_caughtBehind wsX10_caughtBehind) := goodIn_app (goodIn_of _ (by decide +kernel)) ggX10_turnsOf_X10_caughtBehind
theorem dX10_turnsOf_0 : decode cX10_turnsOf 0 = .ok (.iload_n 1, 1) := by decide +kernel
theorem dX10_turnsOf_1 : decode cX10_turnsOf 1 = .ok (.aload_n 0, 1) := by decide +kernel
theorem dX10_turnsOf_2 : decode cX10_turnsOf 2 = .ok (.getfield 106, 3) := by decide +kernel
theorem dX10_turnsOf_5 : decode cX10_turnsOf 5 = .ok (.if_icmp .ne 15, 3) := by decide +kernel
theorem dX10_turnsOf_8 : decode cX10_turnsOf 8 = .ok (.iload_n 3, 1) := by decide +kernel
theorem dX10_turnsOf_9 : decode cX10_turnsOf 9 = .ok (.ifCond .eq 7, 3) := by decide +kernel
theorem dX10_turnsOf_12 : decode cX10_turnsOf 12 = .ok (.iconst 0, 1) := by decide +kernel
theorem dX10_turnsOf_13 : decode cX10_turnsOf 13 = .ok (.goto 6, 3) := by decide +kernel
theorem dX10_turnsOf_16 : decode cX10_turnsOf 16 = .ok (.sipush 9999, 3) := by decide +kernel
theorem dX10_turnsOf_19 : decode cX10_turnsOf 19 = .ok (.ireturn, 1) := by decide +kernel
theorem dX10_turnsOf_20 : decode cX10_turnsOf 20 = .ok (.iload_n 1, 1) := by decide +kernel
theorem dX10_turnsOf_21 : decode cX10_turnsOf 21 = .ok (.iload_n 2, 1) := by decide +kernel
theorem dX10_turnsOf_22 : decode cX10_turnsOf 22 = .ok (.if_icmp .ne 15, 3) := by decide +kernel
theorem dX10_turnsOf_25 : decode cX10_turnsOf 25 = .ok (.iload_n 3, 1) := by decide +kernel
theorem dX10_turnsOf_26 : decode cX10_turnsOf 26 = .ok (.ifCond .eq 9, 3) := by decide +kernel
theorem dX10_turnsOf_29 : decode cX10_turnsOf 29 = .ok (.sipush 9999, 3) := by decide +kernel
theorem dX10_turnsOf_32 : decode cX10_turnsOf 32 = .ok (.goto 4, 3) := by decide +kernel
theorem dX10_turnsOf_35 : decode cX10_turnsOf 35 = .ok (.iconst 0, 1) := by decide +kernel
theorem dX10_turnsOf_36 : decode cX10_turnsOf 36 = .ok (.ireturn, 1) := by decide +kernel
theorem dX10_turnsOf_37 : decode cX10_turnsOf 37 = .ok (.iload_n 3, 1) := by decide +kernel
theorem dX10_turnsOf_38 : decode cX10_turnsOf 38 = .ok (.ifCond .eq 9, 3) := by decide +kernel
theorem dX10_turnsOf_41 : decode cX10_turnsOf 41 = .ok (.sipush 9999, 3) := by decide +kernel
theorem dX10_turnsOf_44 : decode cX10_turnsOf 44 = .ok (.goto 4, 3) := by decide +kernel
theorem dX10_turnsOf_47 : decode cX10_turnsOf 47 = .ok (.iconst 0, 1) := by decide +kernel
theorem dX10_turnsOf_48 : decode cX10_turnsOf 48 = .ok (.istore 4, 2) := by decide +kernel
theorem dX10_turnsOf_50 : decode cX10_turnsOf 50 = .ok (.iconst 0, 1) := by decide +kernel
theorem dX10_turnsOf_51 : decode cX10_turnsOf 51 = .ok (.istore 5, 2) := by decide +kernel
theorem dX10_turnsOf_53 : decode cX10_turnsOf 53 = .ok (.iload 5, 2) := by decide +kernel
theorem dX10_turnsOf_55 : decode cX10_turnsOf 55 = .ok (.iconst 5, 1) := by decide +kernel
theorem dX10_turnsOf_56 : decode cX10_turnsOf 56 = .ok (.if_icmp .ge 85, 3) := by decide +kernel
theorem dX10_turnsOf_59 : decode cX10_turnsOf 59 = .ok (.aload_n 0, 1) := by decide +kernel
theorem dX10_turnsOf_60 : decode cX10_turnsOf 60 = .ok (.iload_n 1, 1) := by decide +kernel
theorem dX10_turnsOf_61 : decode cX10_turnsOf 61 = .ok (.iload 5, 2) := by decide +kernel
theorem dX10_turnsOf_63 : decode cX10_turnsOf 63 = .ok (.invokevirtual 232, 3) := by decide +kernel
theorem dX10_turnsOf_66 : decode cX10_turnsOf 66 = .ok (.istore 6, 2) := by decide +kernel
theorem dX10_turnsOf_68 : decode cX10_turnsOf 68 = .ok (.iload 6, 2) := by decide +kernel
theorem dX10_turnsOf_70 : decode cX10_turnsOf 70 = .ok (.bipush (-9), 2) := by decide +kernel
theorem dX10_turnsOf_72 : decode cX10_turnsOf 72 = .ok (.if_icmp .eq 63, 3) := by decide +kernel
theorem dX10_turnsOf_75 : decode cX10_turnsOf 75 = .ok (.iload_n 3, 1) := by decide +kernel
theorem dX10_turnsOf_76 : decode cX10_turnsOf 76 = .ok (.ifCond .eq 13, 3) := by decide +kernel
theorem dX10_turnsOf_79 : decode cX10_turnsOf 79 = .ok (.aload_n 0, 1) := by decide +kernel
theorem dX10_turnsOf_80 : decode cX10_turnsOf 80 = .ok (.iload 6, 2) := by decide +kernel
theorem dX10_turnsOf_82 : decode cX10_turnsOf 82 = .ok (.iload_n 2, 1) := by decide +kernel
theorem dX10_turnsOf_83 : decode cX10_turnsOf 83 = .ok (.invokevirtual 235, 3) := by decide +kernel
theorem dX10_turnsOf_86 : decode cX10_turnsOf 86 = .ok (.goto 10, 3) := by decide +kernel
theorem dX10_turnsOf_89 : decode cX10_turnsOf 89 = .ok (.aload_n 0, 1) := by decide +kernel
theorem dX10_turnsOf_90 : decode cX10_turnsOf 90 = .ok (.iload 6, 2) := by decide +kernel
theorem dX10_turnsOf_92 : decode cX10_turnsOf 92 = .ok (.iload_n 2, 1) := by decide +kernel
theorem dX10_turnsOf_93 : decode cX10_turnsOf 93 = .ok (.invokevirtual 238, 3) := by decide +kernel
theorem dX10_turnsOf_96 : decode cX10_turnsOf 96 = .ok (.istore 7, 2) := by decide +kernel
theorem dX10_turnsOf_98 : decode cX10_turnsOf 98 = .ok (.iload_n 3, 1) := by decide +kernel
theorem dX10_turnsOf_99 : decode cX10_turnsOf 99 = .ok (.ifCond .eq 20, 3) := by decide +kernel
theorem dX10_turnsOf_102 : decode cX10_turnsOf 102 = .ok (.iload 7, 2) := by decide +kernel
theorem dX10_turnsOf_104 : decode cX10_turnsOf 104 = .ok (.iload 4, 2) := by decide +kernel
theorem dX10_turnsOf_106 : decode cX10_turnsOf 106 = .ok (.if_icmp .ge 8, 3) := by decide +kernel
theorem dX10_turnsOf_109 : decode cX10_turnsOf 109 = .ok (.iload 7, 2) := by decide +kernel
theorem dX10_turnsOf_111 : decode cX10_turnsOf 111 = .ok (.goto 22, 3) := by decide +kernel
theorem dX10_turnsOf_114 : decode cX10_turnsOf 114 = .ok (.iload 4, 2) := by decide +kernel
theorem dX10_turnsOf_116 : decode cX10_turnsOf 116 = .ok (.goto 17, 3) := by decide +kernel
theorem dX10_turnsOf_119 : decode cX10_turnsOf 119 = .ok (.iload 7, 2) := by decide +kernel
theorem dX10_turnsOf_121 : decode cX10_turnsOf 121 = .ok (.iload 4, 2) := by decide +kernel
theorem dX10_turnsOf_123 : decode cX10_turnsOf 123 = .ok (.if_icmp .le 8, 3) := by decide +kernel
theorem dX10_turnsOf_126 : decode cX10_turnsOf 126 = .ok (.iload 7, 2) := by decide +kernel
theorem dX10_turnsOf_128 : decode cX10_turnsOf 128 = .ok (.goto 5, 3) := by decide +kernel
theorem dX10_turnsOf_131 : decode cX10_turnsOf 131 = .ok (.iload 4, 2) := by decide +kernel
theorem dX10_turnsOf_133 : decode cX10_turnsOf 133 = .ok (.istore 4, 2) := by decide +kernel
theorem dX10_turnsOf_135 : decode cX10_turnsOf 135 = .ok (.iinc 5 1, 3) := by decide +kernel
theorem dX10_turnsOf_138 : decode cX10_turnsOf 138 = .ok (.goto (-85), 3) := by decide +kernel
theorem dX10_turnsOf_141 : decode cX10_turnsOf 141 = .ok (.iload 4, 2) := by decide +kernel
theorem dX10_turnsOf_143 : decode cX10_turnsOf 143 = .ok (.ireturn, 1) := by decide +kernel
set_option maxRecDepth 20000 in
theorem ggX10_layTurns_X10_isThere : GoodIn wsX10_layTurns wsX10_isThere := goodIn_r _ [6, 7, 8, 39, 40, 41, 42, 43, 44, 45, 46, 47, 48, 49, 50, 51, 52, 53, 54, 55, 56, 57, 58, 59, 60, 61, 62, 63, 64, 65, 66, 67, 68, 69, 70, 71, 72] (by decide +kernel) (by decide +kernel)
set_option maxRecDepth 20000 in
theorem gX10_layTurns_X10_isThere : GoodIn wsX10_layTurns (wsV RX10 125 RX10 yX10_isThere wsX10_isThere) := goodIn_app (goodIn_of _ (by decide +kernel)) ggX10_layTurns_X10_isThere
set_option maxRecDepth 20000 in
theorem ggX10_layTurns_X10_turnsOf : GoodIn wsX10_layTurns wsX10_turnsOf := goodIn_r _ [12, 13, 14, 15, 16, 5, 17, 18, 19, 20, 21, 22, 23, 24, 25, 26, 27, 7, 8, 28, 29, 30, 31, 32, 33, 34, 1, 35, 36, 37, 38, 39, 40, 41, 42, 43, 44, 45, 46, 47, 48, 49, 50, 51, 52, 53, 54, 55, 56, 57, 58, 59, 60, 61, 62, 63, 64, 65, 66, 67, 68, 69, 70, 71, 72] (by decide +kernel) (by decide +kernel)
set_option maxRecDepth 20000 in
theorem gX10_layTurns_X10_turnsOf : GoodIn wsX10_layTurns (wsV RX10 241 RX10 yX10_turnsOf wsX10_turnsOf) := goodIn_app (goodIn_of _ (by decide +kernel)) ggX10_layTurns_X10_turnsOf
theorem dX10_layTurns_0 : decode cX10_layTurns 0 = .ok (.iconst 0, 1) := by decide +kernel
theorem dX10_layTurns_1 : decode cX10_layTurns 1 = .ok (.istore_n 2, 1) := by decide +kernel
theorem dX10_layTurns_2 : decode cX10_layTurns 2 = .ok (.iload_n 2, 1) := by decide +kernel
theorem dX10_layTurns_3 : decode cX10_layTurns 3 = .ok (.sipush 1296, 3) := by decide +kernel
theorem dX10_layTurns_6 : decode cX10_layTurns 6 = .ok (.if_icmp .ge 18, 3) := by decide +kernel
theorem dX10_layTurns_9 : decode cX10_layTurns 9 = .ok (.aload_n 0, 1) := by decide +kernel
theorem dX10_layTurns_10 : decode cX10_layTurns 10 = .ok (.getfield 70, 3) := by decide +kernel
theorem dX10_layTurns_13 : decode cX10_layTurns 13 = .ok (.iload_n 2, 1) := by decide +kernel
theorem dX10_layTurns_14 : decode cX10_layTurns 14 = .ok (.sipush 9999, 3) := by decide +kernel
theorem dX10_layTurns_17 : decode cX10_layTurns 17 = .ok (.iastore, 1) := by decide +kernel
theorem dX10_layTurns_18 : decode cX10_layTurns 18 = .ok (.iinc 2 1, 3) := by decide +kernel
theorem dX10_layTurns_21 : decode cX10_layTurns 21 = .ok (.goto (-19), 3) := by decide +kernel
theorem dX10_layTurns_24 : decode cX10_layTurns 24 = .ok (.iconst 1, 1) := by decide +kernel
theorem dX10_layTurns_25 : decode cX10_layTurns 25 = .ok (.istore_n 2, 1) := by decide +kernel
theorem dX10_layTurns_26 : decode cX10_layTurns 26 = .ok (.iconst 0, 1) := by decide +kernel
theorem dX10_layTurns_27 : decode cX10_layTurns 27 = .ok (.istore_n 3, 1) := by decide +kernel
theorem dX10_layTurns_28 : decode cX10_layTurns 28 = .ok (.iload_n 2, 1) := by decide +kernel
theorem dX10_layTurns_29 : decode cX10_layTurns 29 = .ok (.ifCond .eq 106, 3) := by decide +kernel
theorem dX10_layTurns_32 : decode cX10_layTurns 32 = .ok (.iconst 0, 1) := by decide +kernel
theorem dX10_layTurns_33 : decode cX10_layTurns 33 = .ok (.istore_n 2, 1) := by decide +kernel
theorem dX10_layTurns_34 : decode cX10_layTurns 34 = .ok (.iconst 0, 1) := by decide +kernel
theorem dX10_layTurns_35 : decode cX10_layTurns 35 = .ok (.istore 4, 2) := by decide +kernel
theorem dX10_layTurns_37 : decode cX10_layTurns 37 = .ok (.iload 4, 2) := by decide +kernel
theorem dX10_layTurns_39 : decode cX10_layTurns 39 = .ok (.sipush 1296, 3) := by decide +kernel
theorem dX10_layTurns_42 : decode cX10_layTurns 42 = .ok (.if_icmp .ge 87, 3) := by decide +kernel
theorem dX10_layTurns_45 : decode cX10_layTurns 45 = .ok (.aload_n 0, 1) := by decide +kernel
theorem dX10_layTurns_46 : decode cX10_layTurns 46 = .ok (.iload 4, 2) := by decide +kernel
theorem dX10_layTurns_48 : decode cX10_layTurns 48 = .ok (.bipush 36, 2) := by decide +kernel
theorem dX10_layTurns_50 : decode cX10_layTurns 50 = .ok (.idiv, 1) := by decide +kernel
theorem dX10_layTurns_51 : decode cX10_layTurns 51 = .ok (.invokevirtual 125, 3) := by decide +kernel
theorem dX10_layTurns_54 : decode cX10_layTurns 54 = .ok (.ifCond .eq 32, 3) := by decide +kernel
theorem dX10_layTurns_57 : decode cX10_layTurns 57 = .ok (.aload_n 0, 1) := by decide +kernel
theorem dX10_layTurns_58 : decode cX10_layTurns 58 = .ok (.iload 4, 2) := by decide +kernel
theorem dX10_layTurns_60 : decode cX10_layTurns 60 = .ok (.bipush 36, 2) := by decide +kernel
theorem dX10_layTurns_62 : decode cX10_layTurns 62 = .ok (.irem, 1) := by decide +kernel
theorem dX10_layTurns_63 : decode cX10_layTurns 63 = .ok (.invokevirtual 125, 3) := by decide +kernel
theorem dX10_layTurns_66 : decode cX10_layTurns 66 = .ok (.ifCond .eq 20, 3) := by decide +kernel
theorem dX10_layTurns_69 : decode cX10_layTurns 69 = .ok (.aload_n 0, 1) := by decide +kernel
theorem dX10_layTurns_70 : decode cX10_layTurns 70 = .ok (.getfield 70, 3) := by decide +kernel
theorem dX10_layTurns_73 : decode cX10_layTurns 73 = .ok (.iload 4, 2) := by decide +kernel
theorem dX10_layTurns_75 : decode cX10_layTurns 75 = .ok (.iaload, 1) := by decide +kernel
theorem dX10_layTurns_76 : decode cX10_layTurns 76 = .ok (.sipush 9999, 3) := by decide +kernel
theorem dX10_layTurns_79 : decode cX10_layTurns 79 = .ok (.if_icmp .ne 7, 3) := by decide +kernel
theorem dX10_layTurns_82 : decode cX10_layTurns 82 = .ok (.iconst 1, 1) := by decide +kernel
theorem dX10_layTurns_83 : decode cX10_layTurns 83 = .ok (.goto 4, 3) := by decide +kernel
theorem dX10_layTurns_86 : decode cX10_layTurns 86 = .ok (.iconst 0, 1) := by decide +kernel
theorem dX10_layTurns_87 : decode cX10_layTurns 87 = .ok (.istore 5, 2) := by decide +kernel
theorem dX10_layTurns_89 : decode cX10_layTurns 89 = .ok (.iload 5, 2) := by decide +kernel
theorem dX10_layTurns_91 : decode cX10_layTurns 91 = .ok (.ifCond .eq 32, 3) := by decide +kernel
theorem dX10_layTurns_94 : decode cX10_layTurns 94 = .ok (.aload_n 0, 1) := by decide +kernel
theorem dX10_layTurns_95 : decode cX10_layTurns 95 = .ok (.iload 4, 2) := by decide +kernel
theorem dX10_layTurns_97 : decode cX10_layTurns 97 = .ok (.bipush 36, 2) := by decide +kernel
theorem dX10_layTurns_99 : decode cX10_layTurns 99 = .ok (.idiv, 1) := by decide +kernel
theorem dX10_layTurns_100 : decode cX10_layTurns 100 = .ok (.iload 4, 2) := by decide +kernel
theorem dX10_layTurns_102 : decode cX10_layTurns 102 = .ok (.bipush 36, 2) := by decide +kernel
theorem dX10_layTurns_104 : decode cX10_layTurns 104 = .ok (.irem, 1) := by decide +kernel
theorem dX10_layTurns_105 : decode cX10_layTurns 105 = .ok (.iload_n 1, 1) := by decide +kernel
theorem dX10_layTurns_106 : decode cX10_layTurns 106 = .ok (.invokevirtual 241, 3) := by decide +kernel
theorem dX10_layTurns_109 : decode cX10_layTurns 109 = .ok (.iload_n 3, 1) := by decide +kernel
theorem dX10_layTurns_110 : decode cX10_layTurns 110 = .ok (.if_icmp .ne 13, 3) := by decide +kernel
theorem dX10_layTurns_113 : decode cX10_layTurns 113 = .ok (.aload_n 0, 1) := by decide +kernel
theorem dX10_layTurns_114 : decode cX10_layTurns 114 = .ok (.getfield 70, 3) := by decide +kernel
theorem dX10_layTurns_117 : decode cX10_layTurns 117 = .ok (.iload 4, 2) := by decide +kernel
theorem dX10_layTurns_119 : decode cX10_layTurns 119 = .ok (.iload_n 3, 1) := by decide +kernel
theorem dX10_layTurns_120 : decode cX10_layTurns 120 = .ok (.iastore, 1) := by decide +kernel
theorem dX10_layTurns_121 : decode cX10_layTurns 121 = .ok (.iconst 1, 1) := by decide +kernel
theorem dX10_layTurns_122 : decode cX10_layTurns 122 = .ok (.istore_n 2, 1) := by decide +kernel
theorem dX10_layTurns_123 : decode cX10_layTurns 123 = .ok (.iinc 4 1, 3) := by decide +kernel
theorem dX10_layTurns_126 : decode cX10_layTurns 126 = .ok (.goto (-89), 3) := by decide +kernel
theorem dX10_layTurns_129 : decode cX10_layTurns 129 = .ok (.iinc 3 1, 3) := by decide +kernel
theorem dX10_layTurns_132 : decode cX10_layTurns 132 = .ok (.goto (-104), 3) := by decide +kernel
theorem dX10_layTurns_135 : decode cX10_layTurns 135 = .ok (.return_, 1) := by decide +kernel
