theorem dX10_in_0 : decode cX10_in 0 = .ok (.lload_n 0, 1) := by decide +kernel
theorem dX10_in_1 : decode cX10_in 1 = .ok (.lload_n 2, 1) := by decide +kernel
theorem dX10_in_2 : decode cX10_in 2 = .ok (.lcmp, 1) := by decide +kernel
theorem dX10_in_3 : decode cX10_in 3 = .ok (.ifCond .lt 14, 3) := by decide +kernel
theorem dX10_in_6 : decode cX10_in 6 = .ok (.lload_n 0, 1) := by decide +kernel
theorem dX10_in_7 : decode cX10_in 7 = .ok (.lload 4, 2) := by decide +kernel
theorem dX10_in_9 : decode cX10_in 9 = .ok (.lcmp, 1) := by decide +kernel
theorem dX10_in_10 : decode cX10_in 10 = .ok (.ifCond .gt 7, 3) := by decide +kernel
theorem dX10_in_13 : decode cX10_in 13 = .ok (.iconst 1, 1) := by decide +kernel
theorem dX10_in_14 : decode cX10_in 14 = .ok (.goto 4, 3) := by decide +kernel
theorem dX10_in_17 : decode cX10_in 17 = .ok (.iconst 0, 1) := by decide +kernel
theorem dX10_in_18 : decode cX10_in 18 = .ok (.ireturn, 1) := by decide +kernel
set_option maxRecDepth 20000 in
theorem ggX10_write_X10_in : GoodIn wsX10_write wsX10_in := goodIn_r _ [8] (by decide +kernel) (by decide +kernel)
set_option maxRecDepth 20000 in
theorem gX10_write_X10_in : GoodIn wsX10_write (va_wsS RX10 84 yX10_in wsX10_in) := goodIn_app (goodIn_of _ (by decide +kernel)) ggX10_write_X10_in
theorem dX10_write_0 : decode cX10_write 0 = .ok (.aload_n 0, 1) := by decide +kernel
theorem dX10_write_1 : decode cX10_write 1 = .ok (.iconst 0, 1) := by decide +kernel
theorem dX10_write_2 : decode cX10_write 2 = .ok (.putfield 79, 3) := by decide +kernel
theorem dX10_write_5 : decode cX10_write 5 = .ok (.iload_n 1, 1) := by decide +kernel
theorem dX10_write_6 : decode cX10_write 6 = .ok (.i2l, 1) := by decide +kernel
theorem dX10_write_7 : decode cX10_write 7 = .ok (.lconst 1, 1) := by decide +kernel
theorem dX10_write_8 : decode cX10_write 8 = .ok (.ldc2_w 82, 3) := by decide +kernel
theorem dX10_write_11 : decode cX10_write 11 = .ok (.invokestatic 84, 3) := by decide +kernel
theorem dX10_write_14 : decode cX10_write 14 = .ok (.ifCond .ne 6, 3) := by decide +kernel
theorem dX10_write_17 : decode cX10_write 17 = .ok (.bipush (-2), 2) := by decide +kernel
theorem dX10_write_19 : decode cX10_write 19 = .ok (.ireturn, 1) := by decide +kernel
theorem dX10_write_20 : decode cX10_write 20 = .ok (.aload_n 0, 1) := by decide +kernel
theorem dX10_write_21 : decode cX10_write 21 = .ok (.getfield 88, 3) := by decide +kernel
theorem dX10_write_24 : decode cX10_write 24 = .ok (.iload_n 1, 1) := by decide +kernel
theorem dX10_write_25 : decode cX10_write 25 = .ok (.iadd, 1) := by decide +kernel
theorem dX10_write_26 : decode cX10_write 26 = .ok (.bipush 41, 2) := by decide +kernel
theorem dX10_write_28 : decode cX10_write 28 = .ok (.if_icmp .le 6, 3) := by decide +kernel
theorem dX10_write_31 : decode cX10_write 31 = .ok (.bipush (-4), 2) := by decide +kernel
theorem dX10_write_33 : decode cX10_write 33 = .ok (.ireturn, 1) := by decide +kernel
theorem dX10_write_34 : decode cX10_write 34 = .ok (.iload_n 1, 1) := by decide +kernel
theorem dX10_write_35 : decode cX10_write 35 = .ok (.iconst 1, 1) := by decide +kernel
theorem dX10_write_36 : decode cX10_write 36 = .ok (.isub, 1) := by decide +kernel
theorem dX10_write_37 : decode cX10_write 37 = .ok (.istore 4, 2) := by decide +kernel
theorem dX10_write_39 : decode cX10_write 39 = .ok (.iload 4, 2) := by decide +kernel
theorem dX10_write_41 : decode cX10_write 41 = .ok (.ifCond .lt 40, 3) := by decide +kernel
theorem dX10_write_44 : decode cX10_write 44 = .ok (.aload_n 0, 1) := by decide +kernel
theorem dX10_write_45 : decode cX10_write 45 = .ok (.getfield 7, 3) := by decide +kernel
theorem dX10_write_48 : decode cX10_write 48 = .ok (.aload_n 0, 1) := by decide +kernel
theorem dX10_write_49 : decode cX10_write 49 = .ok (.getfield 88, 3) := by decide +kernel
theorem dX10_write_52 : decode cX10_write 52 = .ok (.lload_n 2, 1) := by decide +kernel
theorem dX10_write_53 : decode cX10_write 53 = .ok (.bipush 8, 2) := by decide +kernel
theorem dX10_write_55 : decode cX10_write 55 = .ok (.iload 4, 2) := by decide +kernel
theorem dX10_write_57 : decode cX10_write 57 = .ok (.imul, 1) := by decide +kernel
theorem dX10_write_58 : decode cX10_write 58 = .ok (.lshr, 1) := by decide +kernel
theorem dX10_write_59 : decode cX10_write 59 = .ok (.l2i, 1) := by decide +kernel
theorem dX10_write_60 : decode cX10_write 60 = .ok (.sipush 255, 3) := by decide +kernel
theorem dX10_write_63 : decode cX10_write 63 = .ok (.iand, 1) := by decide +kernel
theorem dX10_write_64 : decode cX10_write 64 = .ok (.iastore, 1) := by decide +kernel
theorem dX10_write_65 : decode cX10_write 65 = .ok (.aload_n 0, 1) := by decide +kernel
theorem dX10_write_66 : decode cX10_write 66 = .ok (.dup, 1) := by decide +kernel
theorem dX10_write_67 : decode cX10_write 67 = .ok (.getfield 88, 3) := by decide +kernel
theorem dX10_write_70 : decode cX10_write 70 = .ok (.iconst 1, 1) := by decide +kernel
theorem dX10_write_71 : decode cX10_write 71 = .ok (.iadd, 1) := by decide +kernel
theorem dX10_write_72 : decode cX10_write 72 = .ok (.putfield 88, 3) := by decide +kernel
theorem dX10_write_75 : decode cX10_write 75 = .ok (.iinc 4 (-1), 3) := by decide +kernel
theorem dX10_write_78 : decode cX10_write 78 = .ok (.goto (-39), 3) := by decide +kernel
theorem dX10_write_81 : decode cX10_write 81 = .ok (.aload_n 0, 1) := by decide +kernel
theorem dX10_write_82 : decode cX10_write 82 = .ok (.getfield 88, 3) := by decide +kernel
theorem dX10_write_85 : decode cX10_write 85 = .ok (.ireturn, 1) := by decide +kernel
theorem dX10_wipe_0 : decode cX10_wipe 0 = .ok (.aload_n 0, 1) := by decide +kernel
theorem dX10_wipe_1 : decode cX10_wipe 1 = .ok (.iconst 0, 1) := by decide +kernel
theorem dX10_wipe_2 : decode cX10_wipe 2 = .ok (.putfield 79, 3) := by decide +kernel
theorem dX10_wipe_5 : decode cX10_wipe 5 = .ok (.aload_n 0, 1) := by decide +kernel
theorem dX10_wipe_6 : decode cX10_wipe 6 = .ok (.getfield 88, 3) := by decide +kernel
theorem dX10_wipe_9 : decode cX10_wipe 9 = .ok (.istore_n 1, 1) := by decide +kernel
theorem dX10_wipe_10 : decode cX10_wipe 10 = .ok (.aload_n 0, 1) := by decide +kernel
theorem dX10_wipe_11 : decode cX10_wipe 11 = .ok (.iconst 0, 1) := by decide +kernel
theorem dX10_wipe_12 : decode cX10_wipe 12 = .ok (.putfield 88, 3) := by decide +kernel
theorem dX10_wipe_15 : decode cX10_wipe 15 = .ok (.iload_n 1, 1) := by decide +kernel
theorem dX10_wipe_16 : decode cX10_wipe 16 = .ok (.ireturn, 1) := by decide +kernel
set_option maxRecDepth 20000 in
theorem ggX10_readMaze_X10_in : GoodIn wsX10_readMaze wsX10_in := goodIn_r _ [10] (by decide +kernel) (by decide +kernel)
set_option maxRecDepth 20000 in
theorem gX10_readMaze_X10_in : GoodIn wsX10_readMaze (va_wsS RX10 84 yX10_in wsX10_in) := goodIn_app (goodIn_of _ (by decide +kernel)) ggX10_readMaze_X10_in
theorem dX10_readMaze_0 : decode cX10_readMaze 0 = .ok (.aload_n 0, 1) := by decide +kernel
theorem dX10_readMaze_1 : decode cX10_readMaze 1 = .ok (.iconst 1, 1) := by decide +kernel
theorem dX10_readMaze_2 : decode cX10_readMaze 2 = .ok (.putfield 91, 3) := by decide +kernel
theorem dX10_readMaze_5 : decode cX10_readMaze 5 = .ok (.aload_n 0, 1) := by decide +kernel
theorem dX10_readMaze_6 : decode cX10_readMaze 6 = .ok (.bipush 6, 2) := by decide +kernel
theorem dX10_readMaze_8 : decode cX10_readMaze 8 = .ok (.putfield 94, 3) := by decide +kernel
theorem dX10_readMaze_11 : decode cX10_readMaze 11 = .ok (.iconst 0, 1) := by decide +kernel
theorem dX10_readMaze_12 : decode cX10_readMaze 12 = .ok (.istore_n 1, 1) := by decide +kernel
theorem dX10_readMaze_13 : decode cX10_readMaze 13 = .ok (.iconst 0, 1) := by decide +kernel
theorem dX10_readMaze_14 : decode cX10_readMaze 14 = .ok (.istore_n 2, 1) := by decide +kernel
theorem dX10_readMaze_15 : decode cX10_readMaze 15 = .ok (.iconst 0, 1) := by decide +kernel
theorem dX10_readMaze_16 : decode cX10_readMaze 16 = .ok (.istore_n 3, 1) := by decide +kernel
theorem dX10_readMaze_17 : decode cX10_readMaze 17 = .ok (.iload_n 3, 1) := by decide +kernel
theorem dX10_readMaze_18 : decode cX10_readMaze 18 = .ok (.aload_n 0, 1) := by decide +kernel
theorem dX10_readMaze_19 : decode cX10_readMaze 19 = .ok (.getfield 88, 3) := by decide +kernel
theorem dX10_readMaze_22 : decode cX10_readMaze 22 = .ok (.if_icmp .ge 265, 3) := by decide +kernel
theorem dX10_readMaze_25 : decode cX10_readMaze 25 = .ok (.aload_n 0, 1) := by decide +kernel
theorem dX10_readMaze_26 : decode cX10_readMaze 26 = .ok (.getfield 91, 3) := by decide +kernel
theorem dX10_readMaze_29 : decode cX10_readMaze 29 = .ok (.iconst 1, 1) := by decide +kernel
theorem dX10_readMaze_30 : decode cX10_readMaze 30 = .ok (.if_icmp .ne 7, 3) := by decide +kernel
theorem dX10_readMaze_33 : decode cX10_readMaze 33 = .ok (.iconst 1, 1) := by decide +kernel
theorem dX10_readMaze_34 : decode cX10_readMaze 34 = .ok (.goto 4, 3) := by decide +kernel
theorem dX10_readMaze_37 : decode cX10_readMaze 37 = .ok (.iconst 0, 1) := by decide +kernel
theorem dX10_readMaze_38 : decode cX10_readMaze 38 = .ok (.istore 4, 2) := by decide +kernel
theorem dX10_readMaze_40 : decode cX10_readMaze 40 = .ok (.iload_n 1, 1) := by decide +kernel
theorem dX10_readMaze_41 : decode cX10_readMaze 41 = .ok (.ifCond .le 31, 3) := by decide +kernel
theorem dX10_readMaze_44 : decode cX10_readMaze 44 = .ok (.aload_n 0, 1) := by decide +kernel
theorem dX10_readMaze_45 : decode cX10_readMaze 45 = .ok (.getfield 27, 3) := by decide +kernel
theorem dX10_readMaze_48 : decode cX10_readMaze 48 = .ok (.bipush 6, 2) := by decide +kernel
theorem dX10_readMaze_50 : decode cX10_readMaze 50 = .ok (.aload_n 0, 1) := by decide +kernel
theorem dX10_readMaze_51 : decode cX10_readMaze 51 = .ok (.getfield 91, 3) := by decide +kernel
theorem dX10_readMaze_54 : decode cX10_readMaze 54 = .ok (.iconst 1, 1) := by decide +kernel
theorem dX10_readMaze_55 : decode cX10_readMaze 55 = .ok (.isub, 1) := by decide +kernel
theorem dX10_readMaze_56 : decode cX10_readMaze 56 = .ok (.imul, 1) := by decide +kernel
theorem dX10_readMaze_57 : decode cX10_readMaze 57 = .ok (.iload_n 1, 1) := by decide +kernel
theorem dX10_readMaze_58 : decode cX10_readMaze 58 = .ok (.iadd, 1) := by decide +kernel
theorem dX10_readMaze_59 : decode cX10_readMaze 59 = .ok (.iconst 1, 1) := by decide +kernel
theorem dX10_readMaze_60 : decode cX10_readMaze 60 = .ok (.isub, 1) := by decide +kernel
theorem dX10_readMaze_61 : decode cX10_readMaze 61 = .ok (.iaload, 1) := by decide +kernel
theorem dX10_readMaze_62 : decode cX10_readMaze 62 = .ok (.iconst 2, 1) := by decide +kernel
theorem dX10_readMaze_63 : decode cX10_readMaze 63 = .ok (.irem, 1) := by decide +kernel
theorem dX10_readMaze_64 : decode cX10_readMaze 64 = .ok (.iconst 1, 1) := by decide +kernel
theorem dX10_readMaze_65 : decode cX10_readMaze 65 = .ok (.if_icmp .ne 7, 3) := by decide +kernel
theorem dX10_readMaze_68 : decode cX10_readMaze 68 = .ok (.iconst 1, 1) := by decide +kernel
theorem dX10_readMaze_69 : decode cX10_readMaze 69 = .ok (.goto 4, 3) := by decide +kernel
theorem dX10_readMaze_72 : decode cX10_readMaze 72 = .ok (.iconst 0, 1) := by decide +kernel
theorem dX10_readMaze_73 : decode cX10_readMaze 73 = .ok (.istore 5, 2) := by decide +kernel
theorem dX10_readMaze_75 : decode cX10_readMaze 75 = .ok (.aload_n 0, 1) := by decide +kernel
theorem dX10_readMaze_76 : decode cX10_readMaze 76 = .ok (.getfield 7, 3) := by decide +kernel
theorem dX10_readMaze_79 : decode cX10_readMaze 79 = .ok (.iload_n 3, 1) := by decide +kernel
theorem dX10_readMaze_80 : decode cX10_readMaze 80 = .ok (.iaload, 1) := by decide +kernel
theorem dX10_readMaze_81 : decode cX10_readMaze 81 = .ok (.bipush 47, 2) := by decide +kernel
theorem dX10_readMaze_83 : decode cX10_readMaze 83 = .ok (.if_icmp .ne 70, 3) := by decide +kernel
theorem dX10_readMaze_86 : decode cX10_readMaze 86 = .ok (.iload_n 1, 1) := by decide +kernel
theorem dX10_readMaze_87 : decode cX10_readMaze 87 = .ok (.ifCond .le 25, 3) := by decide +kernel
theorem dX10_readMaze_90 : decode cX10_readMaze 90 = .ok (.iload 5, 2) := by decide +kernel
theorem dX10_readMaze_92 : decode cX10_readMaze 92 = .ok (.ifCond .ne 20, 3) := by decide +kernel
theorem dX10_readMaze_95 : decode cX10_readMaze 95 = .ok (.iload 4, 2) := by decide +kernel
theorem dX10_readMaze_97 : decode cX10_readMaze 97 = .ok (.ifCond .ne 11, 3) := by decide +kernel
theorem dX10_readMaze_100 : decode cX10_readMaze 100 = .ok (.iload_n 1, 1) := by decide +kernel
theorem dX10_readMaze_101 : decode cX10_readMaze 101 = .ok (.aload_n 0, 1) := by decide +kernel
theorem dX10_readMaze_102 : decode cX10_readMaze 102 = .ok (.getfield 94, 3) := by decide +kernel
theorem dX10_readMaze_105 : decode cX10_readMaze 105 = .ok (.if_icmp .ne 7, 3) := by decide +kernel
theorem dX10_readMaze_108 : decode cX10_readMaze 108 = .ok (.iconst 1, 1) := by decide +kernel
theorem dX10_readMaze_109 : decode cX10_readMaze 109 = .ok (.goto 4, 3) := by decide +kernel
theorem dX10_readMaze_112 : decode cX10_readMaze 112 = .ok (.iconst 0, 1) := by decide +kernel
theorem dX10_readMaze_113 : decode cX10_readMaze 113 = .ok (.istore 6, 2) := by decide +kernel
theorem dX10_readMaze_115 : decode cX10_readMaze 115 = .ok (.iload 6, 2) := by decide +kernel
theorem dX10_readMaze_117 : decode cX10_readMaze 117 = .ok (.ifCond .eq 12, 3) := by decide +kernel
theorem dX10_readMaze_120 : decode cX10_readMaze 120 = .ok (.aload_n 0, 1) := by decide +kernel
theorem dX10_readMaze_121 : decode cX10_readMaze 121 = .ok (.getfield 91, 3) := by decide +kernel
theorem dX10_readMaze_124 : decode cX10_readMaze 124 = .ok (.bipush 6, 2) := by decide +kernel
theorem dX10_readMaze_126 : decode cX10_readMaze 126 = .ok (.if_icmp .ne 5, 3) := by decide +kernel
theorem dX10_readMaze_129 : decode cX10_readMaze 129 = .ok (.iload_n 3, 1) := by decide +kernel
theorem dX10_readMaze_130 : decode cX10_readMaze 130 = .ok (.ireturn, 1) := by decide +kernel
theorem dX10_readMaze_131 : decode cX10_readMaze 131 = .ok (.aload_n 0, 1) := by decide +kernel
theorem dX10_readMaze_132 : decode cX10_readMaze 132 = .ok (.iload_n 1, 1) := by decide +kernel
theorem dX10_readMaze_133 : decode cX10_readMaze 133 = .ok (.putfield 94, 3) := by decide +kernel
theorem dX10_readMaze_136 : decode cX10_readMaze 136 = .ok (.aload_n 0, 1) := by decide +kernel
theorem dX10_readMaze_137 : decode cX10_readMaze 137 = .ok (.dup, 1) := by decide +kernel
theorem dX10_readMaze_138 : decode cX10_readMaze 138 = .ok (.getfield 91, 3) := by decide +kernel
theorem dX10_readMaze_141 : decode cX10_readMaze 141 = .ok (.iconst 1, 1) := by decide +kernel
theorem dX10_readMaze_142 : decode cX10_readMaze 142 = .ok (.iadd, 1) := by decide +kernel
theorem dX10_readMaze_143 : decode cX10_readMaze 143 = .ok (.putfield 91, 3) := by decide +kernel
theorem dX10_readMaze_146 : decode cX10_readMaze 146 = .ok (.iconst 0, 1) := by decide +kernel
theorem dX10_readMaze_147 : decode cX10_readMaze 147 = .ok (.istore_n 1, 1) := by decide +kernel
theorem dX10_readMaze_148 : decode cX10_readMaze 148 = .ok (.iconst 0, 1) := by decide +kernel
theorem dX10_readMaze_149 : decode cX10_readMaze 149 = .ok (.istore_n 2, 1) := by decide +kernel
theorem dX10_readMaze_150 : decode cX10_readMaze 150 = .ok (.goto 131, 3) := by decide +kernel
theorem dX10_readMaze_153 : decode cX10_readMaze 153 = .ok (.aload_n 0, 1) := by decide +kernel
theorem dX10_readMaze_154 : decode cX10_readMaze 154 = .ok (.getfield 7, 3) := by decide +kernel
theorem dX10_readMaze_157 : decode cX10_readMaze 157 = .ok (.iload_n 3, 1) := by decide +kernel
theorem dX10_readMaze_158 : decode cX10_readMaze 158 = .ok (.iaload, 1) := by decide +kernel
theorem dX10_readMaze_159 : decode cX10_readMaze 159 = .ok (.bipush 48, 2) := by decide +kernel
theorem dX10_readMaze_161 : decode cX10_readMaze 161 = .ok (.isub, 1) := by decide +kernel
theorem dX10_readMaze_162 : decode cX10_readMaze 162 = .ok (.istore 6, 2) := by decide +kernel
theorem dX10_readMaze_164 : decode cX10_readMaze 164 = .ok (.iload_n 1, 1) := by decide +kernel
theorem dX10_readMaze_165 : decode cX10_readMaze 165 = .ok (.aload_n 0, 1) := by decide +kernel
theorem dX10_readMaze_166 : decode cX10_readMaze 166 = .ok (.getfield 94, 3) := by decide +kernel
theorem dX10_readMaze_169 : decode cX10_readMaze 169 = .ok (.iconst 1, 1) := by decide +kernel
theorem dX10_readMaze_170 : decode cX10_readMaze 170 = .ok (.isub, 1) := by decide +kernel
theorem dX10_readMaze_171 : decode cX10_readMaze 171 = .ok (.if_icmp .ne 7, 3) := by decide +kernel
theorem dX10_readMaze_174 : decode cX10_readMaze 174 = .ok (.iconst 1, 1) := by decide +kernel
theorem dX10_readMaze_175 : decode cX10_readMaze 175 = .ok (.goto 4, 3) := by decide +kernel
theorem dX10_readMaze_178 : decode cX10_readMaze 178 = .ok (.iconst 0, 1) := by decide +kernel
theorem dX10_readMaze_179 : decode cX10_readMaze 179 = .ok (.istore 7, 2) := by decide +kernel
theorem dX10_readMaze_181 : decode cX10_readMaze 181 = .ok (.iload 6, 2) := by decide +kernel
theorem dX10_readMaze_183 : decode cX10_readMaze 183 = .ok (.i2l, 1) := by decide +kernel
theorem dX10_readMaze_184 : decode cX10_readMaze 184 = .ok (.lconst 0, 1) := by decide +kernel
theorem dX10_readMaze_185 : decode cX10_readMaze 185 = .ok (.ldc2_w 97, 3) := by decide +kernel
theorem dX10_readMaze_188 : decode cX10_readMaze 188 = .ok (.invokestatic 84, 3) := by decide +kernel
theorem dX10_readMaze_191 : decode cX10_readMaze 191 = .ok (.ifCond .eq 43, 3) := by decide +kernel
theorem dX10_readMaze_194 : decode cX10_readMaze 194 = .ok (.iload_n 1, 1) := by decide +kernel
theorem dX10_readMaze_195 : decode cX10_readMaze 195 = .ok (.aload_n 0, 1) := by decide +kernel
theorem dX10_readMaze_196 : decode cX10_readMaze 196 = .ok (.getfield 94, 3) := by decide +kernel
theorem dX10_readMaze_199 : decode cX10_readMaze 199 = .ok (.if_icmp .ge 35, 3) := by decide +kernel
theorem dX10_readMaze_202 : decode cX10_readMaze 202 = .ok (.iload 7, 2) := by decide +kernel
theorem dX10_readMaze_204 : decode cX10_readMaze 204 = .ok (.ifCond .eq 11, 3) := by decide +kernel
theorem dX10_readMaze_207 : decode cX10_readMaze 207 = .ok (.iload 6, 2) := by decide +kernel
theorem dX10_readMaze_209 : decode cX10_readMaze 209 = .ok (.iconst 2, 1) := by decide +kernel
theorem dX10_readMaze_210 : decode cX10_readMaze 210 = .ok (.irem, 1) := by decide +kernel
theorem dX10_readMaze_211 : decode cX10_readMaze 211 = .ok (.iconst 1, 1) := by decide +kernel
theorem dX10_readMaze_212 : decode cX10_readMaze 212 = .ok (.if_icmp .eq 22, 3) := by decide +kernel
theorem dX10_readMaze_215 : decode cX10_readMaze 215 = .ok (.aload_n 0, 1) := by decide +kernel
theorem dX10_readMaze_216 : decode cX10_readMaze 216 = .ok (.getfield 91, 3) := by decide +kernel
theorem dX10_readMaze_219 : decode cX10_readMaze 219 = .ok (.bipush 6, 2) := by decide +kernel
theorem dX10_readMaze_221 : decode cX10_readMaze 221 = .ok (.if_icmp .ne 9, 3) := by decide +kernel
theorem dX10_readMaze_224 : decode cX10_readMaze 224 = .ok (.iload 6, 2) := by decide +kernel
theorem dX10_readMaze_226 : decode cX10_readMaze 226 = .ok (.iconst 1, 1) := by decide +kernel
theorem dX10_readMaze_227 : decode cX10_readMaze 227 = .ok (.if_icmp .gt 7, 3) := by decide +kernel
theorem dX10_readMaze_230 : decode cX10_readMaze 230 = .ok (.iconst 1, 1) := by decide +kernel
theorem dX10_readMaze_231 : decode cX10_readMaze 231 = .ok (.goto 4, 3) := by decide +kernel
theorem dX10_readMaze_234 : decode cX10_readMaze 234 = .ok (.iconst 0, 1) := by decide +kernel
theorem dX10_readMaze_235 : decode cX10_readMaze 235 = .ok (.istore 8, 2) := by decide +kernel
theorem dX10_readMaze_237 : decode cX10_readMaze 237 = .ok (.iload 8, 2) := by decide +kernel
theorem dX10_readMaze_239 : decode cX10_readMaze 239 = .ok (.ifCond .ne 5, 3) := by decide +kernel
theorem dX10_readMaze_242 : decode cX10_readMaze 242 = .ok (.iload_n 3, 1) := by decide +kernel
theorem dX10_readMaze_243 : decode cX10_readMaze 243 = .ok (.ireturn, 1) := by decide +kernel
theorem dX10_readMaze_244 : decode cX10_readMaze 244 = .ok (.aload_n 0, 1) := by decide +kernel
theorem dX10_readMaze_245 : decode cX10_readMaze 245 = .ok (.getfield 27, 3) := by decide +kernel
theorem dX10_readMaze_248 : decode cX10_readMaze 248 = .ok (.bipush 6, 2) := by decide +kernel
theorem dX10_readMaze_250 : decode cX10_readMaze 250 = .ok (.aload_n 0, 1) := by decide +kernel
theorem dX10_readMaze_251 : decode cX10_readMaze 251 = .ok (.getfield 91, 3) := by decide +kernel
theorem dX10_readMaze_254 : decode cX10_readMaze 254 = .ok (.iconst 1, 1) := by decide +kernel
theorem dX10_readMaze_255 : decode cX10_readMaze 255 = .ok (.isub, 1) := by decide +kernel
theorem dX10_readMaze_256 : decode cX10_readMaze 256 = .ok (.imul, 1) := by decide +kernel
theorem dX10_readMaze_257 : decode cX10_readMaze 257 = .ok (.iload_n 1, 1) := by decide +kernel
theorem dX10_readMaze_258 : decode cX10_readMaze 258 = .ok (.iadd, 1) := by decide +kernel
theorem dX10_readMaze_259 : decode cX10_readMaze 259 = .ok (.iload 6, 2) := by decide +kernel
theorem dX10_readMaze_261 : decode cX10_readMaze 261 = .ok (.iastore, 1) := by decide +kernel
theorem dX10_readMaze_262 : decode cX10_readMaze 262 = .ok (.iload_n 2, 1) := by decide +kernel
theorem dX10_readMaze_263 : decode cX10_readMaze 263 = .ok (.ifCond .ne 9, 3) := by decide +kernel
theorem dX10_readMaze_266 : decode cX10_readMaze 266 = .ok (.iload 6, 2) := by decide +kernel
theorem dX10_readMaze_268 : decode cX10_readMaze 268 = .ok (.iconst 1, 1) := by decide +kernel
theorem dX10_readMaze_269 : decode cX10_readMaze 269 = .ok (.if_icmp .le 7, 3) := by decide +kernel
theorem dX10_readMaze_272 : decode cX10_readMaze 272 = .ok (.iconst 1, 1) := by decide +kernel
theorem dX10_readMaze_273 : decode cX10_readMaze 273 = .ok (.goto 4, 3) := by decide +kernel
theorem dX10_readMaze_276 : decode cX10_readMaze 276 = .ok (.iconst 0, 1) := by decide +kernel
theorem dX10_readMaze_277 : decode cX10_readMaze 277 = .ok (.istore_n 2, 1) := by decide +kernel
theorem dX10_readMaze_278 : decode cX10_readMaze 278 = .ok (.iinc 1 1, 3) := by decide +kernel
theorem dX10_readMaze_281 : decode cX10_readMaze 281 = .ok (.iinc 3 1, 3) := by decide +kernel
theorem dX10_readMaze_284 : decode cX10_readMaze 284 = .ok (.goto (-267), 3) := by decide +kernel
theorem dX10_readMaze_287 : decode cX10_readMaze 287 = .ok (.iload_n 1, 1) := by decide +kernel
theorem dX10_readMaze_288 : decode cX10_readMaze 288 = .ok (.ifCond .le 31, 3) := by decide +kernel
theorem dX10_readMaze_291 : decode cX10_readMaze 291 = .ok (.aload_n 0, 1) := by decide +kernel
theorem dX10_readMaze_292 : decode cX10_readMaze 292 = .ok (.getfield 27, 3) := by decide +kernel
theorem dX10_readMaze_295 : decode cX10_readMaze 295 = .ok (.bipush 6, 2) := by decide +kernel
theorem dX10_readMaze_297 : decode cX10_readMaze 297 = .ok (.aload_n 0, 1) := by decide +kernel
theorem dX10_readMaze_298 : decode cX10_readMaze 298 = .ok (.getfield 91, 3) := by decide +kernel
theorem dX10_readMaze_301 : decode cX10_readMaze 301 = .ok (.iconst 1, 1) := by decide +kernel
theorem dX10_readMaze_302 : decode cX10_readMaze 302 = .ok (.isub, 1) := by decide +kernel
theorem dX10_readMaze_303 : decode cX10_readMaze 303 = .ok (.imul, 1) := by decide +kernel
theorem dX10_readMaze_304 : decode cX10_readMaze 304 = .ok (.iload_n 1, 1) := by decide +kernel
theorem dX10_readMaze_305 : decode cX10_readMaze 305 = .ok (.iadd, 1) := by decide +kernel
theorem dX10_readMaze_306 : decode cX10_readMaze 306 = .ok (.iconst 1, 1) := by decide +kernel
theorem dX10_readMaze_307 : decode cX10_readMaze 307 = .ok (.isub, 1) := by decide +kernel
theorem dX10_readMaze_308 : decode cX10_readMaze 308 = .ok (.iaload, 1) := by decide +kernel
theorem dX10_readMaze_309 : decode cX10_readMaze 309 = .ok (.iconst 2, 1) := by decide +kernel
theorem dX10_readMaze_310 : decode cX10_readMaze 310 = .ok (.irem, 1) := by decide +kernel
theorem dX10_readMaze_311 : decode cX10_readMaze 311 = .ok (.iconst 1, 1) := by decide +kernel
theorem dX10_readMaze_312 : decode cX10_readMaze 312 = .ok (.if_icmp .ne 7, 3) := by decide +kernel
theorem dX10_readMaze_315 : decode cX10_readMaze 315 = .ok (.iconst 1, 1) := by decide +kernel
theorem dX10_readMaze_316 : decode cX10_readMaze 316 = .ok (.goto 4, 3) := by decide +kernel
theorem dX10_readMaze_319 : decode cX10_readMaze 319 = .ok (.iconst 0, 1) := by decide +kernel
theorem dX10_readMaze_320 : decode cX10_readMaze 320 = .ok (.istore_n 3, 1) := by decide +kernel
theorem dX10_readMaze_321 : decode cX10_readMaze 321 = .ok (.iload_n 1, 1) := by decide +kernel
theorem dX10_readMaze_322 : decode cX10_readMaze 322 = .ok (.ifCond .eq 27, 3) := by decide +kernel
theorem dX10_readMaze_325 : decode cX10_readMaze 325 = .ok (.aload_n 0, 1) := by decide +kernel
theorem dX10_readMaze_326 : decode cX10_readMaze 326 = .ok (.getfield 91, 3) := by decide +kernel
theorem dX10_readMaze_329 : decode cX10_readMaze 329 = .ok (.iconst 1, 1) := by decide +kernel
theorem dX10_readMaze_330 : decode cX10_readMaze 330 = .ok (.if_icmp .le 11, 3) := by decide +kernel
theorem dX10_readMaze_333 : decode cX10_readMaze 333 = .ok (.iload_n 1, 1) := by decide +kernel
theorem dX10_readMaze_334 : decode cX10_readMaze 334 = .ok (.aload_n 0, 1) := by decide +kernel
theorem dX10_readMaze_335 : decode cX10_readMaze 335 = .ok (.getfield 94, 3) := by decide +kernel
theorem dX10_readMaze_338 : decode cX10_readMaze 338 = .ok (.if_icmp .lt 11, 3) := by decide +kernel
theorem dX10_readMaze_341 : decode cX10_readMaze 341 = .ok (.iload_n 3, 1) := by decide +kernel
theorem dX10_readMaze_342 : decode cX10_readMaze 342 = .ok (.ifCond .ne 7, 3) := by decide +kernel
theorem dX10_readMaze_345 : decode cX10_readMaze 345 = .ok (.iload_n 2, 1) := by decide +kernel
theorem dX10_readMaze_346 : decode cX10_readMaze 346 = .ok (.ifCond .eq 8, 3) := by decide +kernel
theorem dX10_readMaze_349 : decode cX10_readMaze 349 = .ok (.aload_n 0, 1) := by decide +kernel
theorem dX10_readMaze_350 : decode cX10_readMaze 350 = .ok (.getfield 88, 3) := by decide +kernel
theorem dX10_readMaze_353 : decode cX10_readMaze 353 = .ok (.ireturn, 1) := by decide +kernel
theorem dX10_readMaze_354 : decode cX10_readMaze 354 = .ok (.aload_n 0, 1) := by decide +kernel
theorem dX10_readMaze_355 : decode cX10_readMaze 355 = .ok (.iload_n 1, 1) := by decide +kernel
theorem dX10_readMaze_356 : decode cX10_readMaze 356 = .ok (.putfield 94, 3) := by decide +kernel
theorem dX10_readMaze_359 : decode cX10_readMaze 359 = .ok (.bipush (-9), 2) := by decide +kernel
theorem dX10_readMaze_361 : decode cX10_readMaze 361 = .ok (.ireturn, 1) := by decide +kernel
set_option maxRecDepth 20000 in
theorem ggX10_fault_X10_readMaze : GoodIn wsX10_fault wsX10_readMaze := goodIn_r _ [6, 7, 8, 9, 10, 11, 12, 13, 14, 5, 15, 16, 17, 18, 19, 20, 21, 22, 23, 24, 25, 26, 27, 28, 29, 30, 31, 32, 33, 34, 35, 36, 37, 38, 39, 40, 41, 42, 43, 44, 45, 46, 47, 48, 49] (by decide +kernel) (by decide +kernel)
set_option maxRecDepth 20000 in
theorem gX10_fault_X10_readMaze : GoodIn wsX10_fault (wsV RX10 99 RX10 yX10_readMaze wsX10_readMaze) := goodIn_app (goodIn_of _ (by decide +kernel)) ggX10_fault_X10_readMaze
theorem dX10_fault_0 : decode cX10_fault 0 = .ok (.aload_n 0, 1) := by decide +kernel
theorem dX10_fault_1 : decode cX10_fault 1 = .ok (.iconst 0, 1) := by decide +kernel
theorem dX10_fault_2 : decode cX10_fault 2 = .ok (.putfield 79, 3) := by decide +kernel
theorem dX10_fault_5 : decode cX10_fault 5 = .ok (.aload_n 0, 1) := by decide +kernel
theorem dX10_fault_6 : decode cX10_fault 6 = .ok (.invokevirtual 99, 3) := by decide +kernel
theorem dX10_fault_9 : decode cX10_fault 9 = .ok (.ireturn, 1) := by decide +kernel
theorem dX10_shutAll_0 : decode cX10_shutAll 0 = .ok (.aload_n 0, 1) := by decide +kernel
theorem dX10_shutAll_1 : decode cX10_shutAll 1 = .ok (.iload_n 1, 1) := by decide +kernel
theorem dX10_shutAll_2 : decode cX10_shutAll 2 = .ok (.putfield 13, 3) := by decide +kernel
theorem dX10_shutAll_5 : decode cX10_shutAll 5 = .ok (.aload_n 0, 1) := by decide +kernel
theorem dX10_shutAll_6 : decode cX10_shutAll 6 = .ok (.iload_n 2, 1) := by decide +kernel
theorem dX10_shutAll_7 : decode cX10_shutAll 7 = .ok (.putfield 17, 3) := by decide +kernel
theorem dX10_shutAll_10 : decode cX10_shutAll 10 = .ok (.iconst 0, 1) := by decide +kernel
theorem dX10_shutAll_11 : decode cX10_shutAll 11 = .ok (.istore_n 3, 1) := by decide +kernel
theorem dX10_shutAll_12 : decode cX10_shutAll 12 = .ok (.iload_n 3, 1) := by decide +kernel
theorem dX10_shutAll_13 : decode cX10_shutAll 13 = .ok (.bipush 36, 2) := by decide +kernel
theorem dX10_shutAll_15 : decode cX10_shutAll 15 = .ok (.if_icmp .ge 23, 3) := by decide +kernel
theorem dX10_shutAll_18 : decode cX10_shutAll 18 = .ok (.aload_n 0, 1) := by decide +kernel
theorem dX10_shutAll_19 : decode cX10_shutAll 19 = .ok (.getfield 20, 3) := by decide +kernel
theorem dX10_shutAll_22 : decode cX10_shutAll 22 = .ok (.iload_n 3, 1) := by decide +kernel
theorem dX10_shutAll_23 : decode cX10_shutAll 23 = .ok (.iconst 0, 1) := by decide +kernel
theorem dX10_shutAll_24 : decode cX10_shutAll 24 = .ok (.bastore, 1) := by decide +kernel
theorem dX10_shutAll_25 : decode cX10_shutAll 25 = .ok (.aload_n 0, 1) := by decide +kernel
theorem dX10_shutAll_26 : decode cX10_shutAll 26 = .ok (.getfield 24, 3) := by decide +kernel
theorem dX10_shutAll_29 : decode cX10_shutAll 29 = .ok (.iload_n 3, 1) := by decide +kernel
theorem dX10_shutAll_30 : decode cX10_shutAll 30 = .ok (.iconst 0, 1) := by decide +kernel
theorem dX10_shutAll_31 : decode cX10_shutAll 31 = .ok (.bastore, 1) := by decide +kernel
theorem dX10_shutAll_32 : decode cX10_shutAll 32 = .ok (.iinc 3 1, 3) := by decide +kernel
theorem dX10_shutAll_35 : decode cX10_shutAll 35 = .ok (.goto (-23), 3) := by decide +kernel
theorem dX10_shutAll_38 : decode cX10_shutAll 38 = .ok (.aload_n 0, 1) := by decide +kernel
theorem dX10_shutAll_39 : decode cX10_shutAll 39 = .ok (.iconst 0, 1) := by decide +kernel
theorem dX10_shutAll_40 : decode cX10_shutAll 40 = .ok (.putfield 103, 3) := by decide +kernel
theorem dX10_shutAll_43 : decode cX10_shutAll 43 = .ok (.aload_n 0, 1) := by decide +kernel
theorem dX10_shutAll_44 : decode cX10_shutAll 44 = .ok (.bipush 6, 2) := by decide +kernel
theorem dX10_shutAll_46 : decode cX10_shutAll 46 = .ok (.iload_n 1, 1) := by decide +kernel
theorem dX10_shutAll_47 : decode cX10_shutAll 47 = .ok (.iconst 1, 1) := by decide +kernel
theorem dX10_shutAll_48 : decode cX10_shutAll 48 = .ok (.isub, 1) := by decide +kernel
theorem dX10_shutAll_49 : decode cX10_shutAll 49 = .ok (.imul, 1) := by decide +kernel
theorem dX10_shutAll_50 : decode cX10_shutAll 50 = .ok (.iload_n 2, 1) := by decide +kernel
theorem dX10_shutAll_51 : decode cX10_shutAll 51 = .ok (.iadd, 1) := by decide +kernel
theorem dX10_shutAll_52 : decode cX10_shutAll 52 = .ok (.iconst 1, 1) := by decide +kernel
theorem dX10_shutAll_53 : decode cX10_shutAll 53 = .ok (.isub, 1) := by decide +kernel
theorem dX10_shutAll_54 : decode cX10_shutAll 54 = .ok (.putfield 106, 3) := by decide +kernel
theorem dX10_shutAll_57 : decode cX10_shutAll 57 = .ok (.return_, 1) := by decide +kernel
set_option maxRecDepth 20000 in
theorem ggX10_maze_X10_readMaze : GoodIn wsX10_maze wsX10_readMaze := goodIn_r _ [13, 2, 3, 14, 7, 15, 16, 17, 18, 12, 19, 26, 27, 28, 29, 30, 31, 32, 33, 34, 35, 36, 37, 38, 39, 40, 41, 42, 43, 44, 45, 46, 47, 48, 49, 50, 51, 52, 53, 54, 55, 56, 57, 58, 59] (by decide +kernel) (by decide +kernel)
set_option maxRecDepth 20000 in
theorem gX10_maze_X10_readMaze : GoodIn wsX10_maze (wsV RX10 99 RX10 yX10_readMaze wsX10_readMaze) := goodIn_app (goodIn_of _ (by decide +kernel)) ggX10_maze_X10_readMaze
set_option maxRecDepth 20000 in
theorem ggX10_maze_X10_shutAll : GoodIn wsX10_maze wsX10_shutAll := goodIn_r _ [23, 4, 5, 6, 8, 24, 25, 26, 27, 28, 29, 30, 31, 32, 33, 34, 35, 36, 37, 38, 39, 40, 41, 42, 43, 44, 45, 46, 47, 48, 49, 50, 51, 52, 53, 54, 55, 56, 57, 58, 59] (by decide +kernel) (by decide +kernel)
set_option maxRecDepth 20000 in
theorem gX10_maze_X10_shutAll : GoodIn wsX10_maze (wsV RX10 109 RX10 yX10_shutAll wsX10_shutAll) := goodIn_app (goodIn_of _ (by decide +kernel)) ggX10_maze_X10_shutAll
theorem dX10_maze_0 : decode cX10_maze 0 = .ok (.aload_n 0, 1) := by decide +kernel
theorem dX10_maze_1 : decode cX10_maze 1 = .ok (.iconst 0, 1) := by decide +kernel
theorem dX10_maze_2 : decode cX10_maze 2 = .ok (.putfield 79, 3) := by decide +kernel
theorem dX10_maze_5 : decode cX10_maze 5 = .ok (.aload_n 0, 1) := by decide +kernel
theorem dX10_maze_6 : decode cX10_maze 6 = .ok (.invokevirtual 99, 3) := by decide +kernel
theorem dX10_maze_9 : decode cX10_maze 9 = .ok (.bipush (-9), 2) := by decide +kernel
theorem dX10_maze_11 : decode cX10_maze 11 = .ok (.if_icmp .eq 6, 3) := by decide +kernel
theorem dX10_maze_14 : decode cX10_maze 14 = .ok (.bipush (-3), 2) := by decide +kernel
theorem dX10_maze_16 : decode cX10_maze 16 = .ok (.ireturn, 1) := by decide +kernel
theorem dX10_maze_17 : decode cX10_maze 17 = .ok (.aload_n 0, 1) := by decide +kernel
theorem dX10_maze_18 : decode cX10_maze 18 = .ok (.aload_n 0, 1) := by decide +kernel
theorem dX10_maze_19 : decode cX10_maze 19 = .ok (.getfield 91, 3) := by decide +kernel
theorem dX10_maze_22 : decode cX10_maze 22 = .ok (.aload_n 0, 1) := by decide +kernel
theorem dX10_maze_23 : decode cX10_maze 23 = .ok (.getfield 94, 3) := by decide +kernel
theorem dX10_maze_26 : decode cX10_maze 26 = .ok (.invokevirtual 109, 3) := by decide +kernel
theorem dX10_maze_29 : decode cX10_maze 29 = .ok (.iconst 0, 1) := by decide +kernel
theorem dX10_maze_30 : decode cX10_maze 30 = .ok (.istore_n 1, 1) := by decide +kernel
theorem dX10_maze_31 : decode cX10_maze 31 = .ok (.iload_n 1, 1) := by decide +kernel
theorem dX10_maze_32 : decode cX10_maze 32 = .ok (.aload_n 0, 1) := by decide +kernel
theorem dX10_maze_33 : decode cX10_maze 33 = .ok (.getfield 13, 3) := by decide +kernel
theorem dX10_maze_36 : decode cX10_maze 36 = .ok (.if_icmp .ge 89, 3) := by decide +kernel
theorem dX10_maze_39 : decode cX10_maze 39 = .ok (.iconst 0, 1) := by decide +kernel
theorem dX10_maze_40 : decode cX10_maze 40 = .ok (.istore_n 2, 1) := by decide +kernel
theorem dX10_maze_41 : decode cX10_maze 41 = .ok (.iload_n 2, 1) := by decide +kernel
theorem dX10_maze_42 : decode cX10_maze 42 = .ok (.aload_n 0, 1) := by decide +kernel
theorem dX10_maze_43 : decode cX10_maze 43 = .ok (.getfield 17, 3) := by decide +kernel
theorem dX10_maze_46 : decode cX10_maze 46 = .ok (.if_icmp .ge 73, 3) := by decide +kernel
theorem dX10_maze_49 : decode cX10_maze 49 = .ok (.aload_n 0, 1) := by decide +kernel
theorem dX10_maze_50 : decode cX10_maze 50 = .ok (.getfield 20, 3) := by decide +kernel
theorem dX10_maze_53 : decode cX10_maze 53 = .ok (.bipush 6, 2) := by decide +kernel
theorem dX10_maze_55 : decode cX10_maze 55 = .ok (.iload_n 1, 1) := by decide +kernel
theorem dX10_maze_56 : decode cX10_maze 56 = .ok (.imul, 1) := by decide +kernel
theorem dX10_maze_57 : decode cX10_maze 57 = .ok (.iload_n 2, 1) := by decide +kernel
theorem dX10_maze_58 : decode cX10_maze 58 = .ok (.iadd, 1) := by decide +kernel
theorem dX10_maze_59 : decode cX10_maze 59 = .ok (.aload_n 0, 1) := by decide +kernel
theorem dX10_maze_60 : decode cX10_maze 60 = .ok (.getfield 27, 3) := by decide +kernel
theorem dX10_maze_63 : decode cX10_maze 63 = .ok (.bipush 6, 2) := by decide +kernel
theorem dX10_maze_65 : decode cX10_maze 65 = .ok (.iload_n 1, 1) := by decide +kernel
theorem dX10_maze_66 : decode cX10_maze 66 = .ok (.imul, 1) := by decide +kernel
theorem dX10_maze_67 : decode cX10_maze 67 = .ok (.iload_n 2, 1) := by decide +kernel
theorem dX10_maze_68 : decode cX10_maze 68 = .ok (.iadd, 1) := by decide +kernel
theorem dX10_maze_69 : decode cX10_maze 69 = .ok (.iaload, 1) := by decide +kernel
theorem dX10_maze_70 : decode cX10_maze 70 = .ok (.iconst 2, 1) := by decide +kernel
theorem dX10_maze_71 : decode cX10_maze 71 = .ok (.irem, 1) := by decide +kernel
theorem dX10_maze_72 : decode cX10_maze 72 = .ok (.iconst 1, 1) := by decide +kernel
theorem dX10_maze_73 : decode cX10_maze 73 = .ok (.if_icmp .ne 7, 3) := by decide +kernel
theorem dX10_maze_76 : decode cX10_maze 76 = .ok (.iconst 1, 1) := by decide +kernel
theorem dX10_maze_77 : decode cX10_maze 77 = .ok (.goto 4, 3) := by decide +kernel
theorem dX10_maze_80 : decode cX10_maze 80 = .ok (.iconst 0, 1) := by decide +kernel
theorem dX10_maze_81 : decode cX10_maze 81 = .ok (.bastore, 1) := by decide +kernel
theorem dX10_maze_82 : decode cX10_maze 82 = .ok (.aload_n 0, 1) := by decide +kernel
theorem dX10_maze_83 : decode cX10_maze 83 = .ok (.getfield 24, 3) := by decide +kernel
theorem dX10_maze_86 : decode cX10_maze 86 = .ok (.bipush 6, 2) := by decide +kernel
theorem dX10_maze_88 : decode cX10_maze 88 = .ok (.iload_n 1, 1) := by decide +kernel
theorem dX10_maze_89 : decode cX10_maze 89 = .ok (.imul, 1) := by decide +kernel
theorem dX10_maze_90 : decode cX10_maze 90 = .ok (.iload_n 2, 1) := by decide +kernel
theorem dX10_maze_91 : decode cX10_maze 91 = .ok (.iadd, 1) := by decide +kernel
theorem dX10_maze_92 : decode cX10_maze 92 = .ok (.aload_n 0, 1) := by decide +kernel
theorem dX10_maze_93 : decode cX10_maze 93 = .ok (.getfield 27, 3) := by decide +kernel
theorem dX10_maze_96 : decode cX10_maze 96 = .ok (.bipush 6, 2) := by decide +kernel
theorem dX10_maze_98 : decode cX10_maze 98 = .ok (.iload_n 1, 1) := by decide +kernel
theorem dX10_maze_99 : decode cX10_maze 99 = .ok (.imul, 1) := by decide +kernel
theorem dX10_maze_100 : decode cX10_maze 100 = .ok (.iload_n 2, 1) := by decide +kernel
theorem dX10_maze_101 : decode cX10_maze 101 = .ok (.iadd, 1) := by decide +kernel
theorem dX10_maze_102 : decode cX10_maze 102 = .ok (.iaload, 1) := by decide +kernel
theorem dX10_maze_103 : decode cX10_maze 103 = .ok (.iconst 1, 1) := by decide +kernel
theorem dX10_maze_104 : decode cX10_maze 104 = .ok (.if_icmp .le 7, 3) := by decide +kernel
theorem dX10_maze_107 : decode cX10_maze 107 = .ok (.iconst 1, 1) := by decide +kernel
theorem dX10_maze_108 : decode cX10_maze 108 = .ok (.goto 4, 3) := by decide +kernel
theorem dX10_maze_111 : decode cX10_maze 111 = .ok (.iconst 0, 1) := by decide +kernel
theorem dX10_maze_112 : decode cX10_maze 112 = .ok (.bastore, 1) := by decide +kernel
theorem dX10_maze_113 : decode cX10_maze 113 = .ok (.iinc 2 1, 3) := by decide +kernel
theorem dX10_maze_116 : decode cX10_maze 116 = .ok (.goto (-75), 3) := by decide +kernel
theorem dX10_maze_119 : decode cX10_maze 119 = .ok (.iinc 1 1, 3) := by decide +kernel
theorem dX10_maze_122 : decode cX10_maze 122 = .ok (.goto (-91), 3) := by decide +kernel
theorem dX10_maze_125 : decode cX10_maze 125 = .ok (.aload_n 0, 1) := by decide +kernel
theorem dX10_maze_126 : decode cX10_maze 126 = .ok (.getfield 13, 3) := by decide +kernel
theorem dX10_maze_129 : decode cX10_maze 129 = .ok (.aload_n 0, 1) := by decide +kernel
theorem dX10_maze_130 : decode cX10_maze 130 = .ok (.getfield 17, 3) := by decide +kernel
theorem dX10_maze_133 : decode cX10_maze 133 = .ok (.imul, 1) := by decide +kernel
theorem dX10_maze_134 : decode cX10_maze 134 = .ok (.ireturn, 1) := by decide +kernel
theorem dX10_isCell_0 : decode cX10_isCell 0 = .ok (.iload_n 1, 1) := by decide +kernel
theorem dX10_isCell_1 : decode cX10_isCell 1 = .ok (.ifCond .lt 29, 3) := by decide +kernel
theorem dX10_isCell_4 : decode cX10_isCell 4 = .ok (.iload_n 1, 1) := by decide +kernel
theorem dX10_isCell_5 : decode cX10_isCell 5 = .ok (.bipush 10, 2) := by decide +kernel
theorem dX10_isCell_7 : decode cX10_isCell 7 = .ok (.idiv, 1) := by decide +kernel
theorem dX10_isCell_8 : decode cX10_isCell 8 = .ok (.aload_n 0, 1) := by decide +kernel
theorem dX10_isCell_9 : decode cX10_isCell 9 = .ok (.getfield 13, 3) := by decide +kernel
theorem dX10_isCell_12 : decode cX10_isCell 12 = .ok (.if_icmp .ge 18, 3) := by decide +kernel
theorem dX10_isCell_15 : decode cX10_isCell 15 = .ok (.iload_n 1, 1) := by decide +kernel
theorem dX10_isCell_16 : decode cX10_isCell 16 = .ok (.bipush 10, 2) := by decide +kernel
theorem dX10_isCell_18 : decode cX10_isCell 18 = .ok (.irem, 1) := by decide +kernel
theorem dX10_isCell_19 : decode cX10_isCell 19 = .ok (.aload_n 0, 1) := by decide +kernel
theorem dX10_isCell_20 : decode cX10_isCell 20 = .ok (.getfield 17, 3) := by decide +kernel
theorem dX10_isCell_23 : decode cX10_isCell 23 = .ok (.if_icmp .ge 7, 3) := by decide +kernel
theorem dX10_isCell_26 : decode cX10_isCell 26 = .ok (.iconst 1, 1) := by decide +kernel
theorem dX10_isCell_27 : decode cX10_isCell 27 = .ok (.goto 4, 3) := by decide +kernel
theorem dX10_isCell_30 : decode cX10_isCell 30 = .ok (.iconst 0, 1) := by decide +kernel
theorem dX10_isCell_31 : decode cX10_isCell 31 = .ok (.ireturn, 1) := by decide +kernel
set_option maxRecDepth 20000 in
theorem ggX10_isSide_X10_in : GoodIn wsX10_isSide wsX10_in := goodIn_r _ [5] (by decide +kernel) (by decide +kernel)
set_option maxRecDepth 20000 in
theorem gX10_isSide_X10_in : GoodIn wsX10_isSide (va_wsS RX10 84 yX10_in wsX10_in) := goodIn_app (goodIn_of _ (by decide +kernel)) ggX10_isSide_X10_in
theorem dX10_isSide_0 : decode cX10_isSide 0 = .ok (.iload_n 0, 1) := by decide +kernel
theorem dX10_isSide_1 : decode cX10_isSide 1 = .ok (.i2l, 1) := by decide +kernel
theorem dX10_isSide_2 : decode cX10_isSide 2 = .ok (.lconst 0, 1) := by decide +kernel
theorem dX10_isSide_3 : decode cX10_isSide 3 = .ok (.ldc2_w 97, 3) := by decide +kernel
theorem dX10_isSide_6 : decode cX10_isSide 6 = .ok (.invokestatic 84, 3) := by decide +kernel
theorem dX10_isSide_9 : decode cX10_isSide 9 = .ok (.ireturn, 1) := by decide +kernel
theorem dX10_index_0 : decode cX10_index 0 = .ok (.bipush 6, 2) := by decide +kernel
theorem dX10_index_2 : decode cX10_index 2 = .ok (.iload_n 0, 1) := by decide +kernel
theorem dX10_index_3 : decode cX10_index 3 = .ok (.bipush 10, 2) := by decide +kernel
theorem dX10_index_5 : decode cX10_index 5 = .ok (.idiv, 1) := by decide +kernel
theorem dX10_index_6 : decode cX10_index 6 = .ok (.imul, 1) := by decide +kernel
theorem dX10_index_7 : decode cX10_index 7 = .ok (.iload_n 0, 1) := by decide +kernel
theorem dX10_index_8 : decode cX10_index 8 = .ok (.bipush 10, 2) := by decide +kernel
theorem dX10_index_10 : decode cX10_index 10 = .ok (.irem, 1) := by decide +kernel
theorem dX10_index_11 : decode cX10_index 11 = .ok (.iadd, 1) := by decide +kernel
theorem dX10_index_12 : decode cX10_index 12 = .ok (.ireturn, 1) := by decide +kernel
theorem dX10_code_0 : decode cX10_code 0 = .ok (.bipush 10, 2) := by decide +kernel
theorem dX10_code_2 : decode cX10_code 2 = .ok (.iload_n 0, 1) := by decide +kernel
theorem dX10_code_3 : decode cX10_code 3 = .ok (.bipush 6, 2) := by decide +kernel
theorem dX10_code_5 : decode cX10_code 5 = .ok (.idiv, 1) := by decide +kernel
theorem dX10_code_6 : decode cX10_code 6 = .ok (.imul, 1) := by decide +kernel
theorem dX10_code_7 : decode cX10_code 7 = .ok (.iload_n 0, 1) := by decide +kernel
theorem dX10_code_8 : decode cX10_code 8 = .ok (.bipush 6, 2) := by decide +kernel
theorem dX10_code_10 : decode cX10_code 10 = .ok (.irem, 1) := by decide +kernel
theorem dX10_code_11 : decode cX10_code 11 = .ok (.iadd, 1) := by decide +kernel
theorem dX10_code_12 : decode cX10_code 12 = .ok (.ireturn, 1) := by decide +kernel
theorem dX10_isThere_0 : decode cX10_isThere 0 = .ok (.iload_n 1, 1) := by decide +kernel
theorem dX10_isThere_1 : decode cX10_isThere 1 = .ok (.bipush 6, 2) := by decide +kernel
theorem dX10_isThere_3 : decode cX10_isThere 3 = .ok (.idiv, 1) := by decide +kernel
theorem dX10_isThere_4 : decode cX10_isThere 4 = .ok (.aload_n 0, 1) := by decide +kernel
theorem dX10_isThere_5 : decode cX10_isThere 5 = .ok (.getfield 13, 3) := by decide +kernel
theorem dX10_isThere_8 : decode cX10_isThere 8 = .ok (.if_icmp .ge 18, 3) := by decide +kernel
theorem dX10_isThere_11 : decode cX10_isThere 11 = .ok (.iload_n 1, 1) := by decide +kernel
theorem dX10_isThere_12 : decode cX10_isThere 12 = .ok (.bipush 6, 2) := by decide +kernel
theorem dX10_isThere_14 : decode cX10_isThere 14 = .ok (.irem, 1) := by decide +kernel
theorem dX10_isThere_15 : decode cX10_isThere 15 = .ok (.aload_n 0, 1) := by decide +kernel
theorem dX10_isThere_16 : decode cX10_isThere 16 = .ok (.getfield 17, 3) := by decide +kernel
theorem dX10_isThere_19 : decode cX10_isThere 19 = .ok (.if_icmp .ge 7, 3) := by decide +kernel
theorem dX10_isThere_22 : decode cX10_isThere 22 = .ok (.iconst 1, 1) := by decide +kernel
theorem dX10_isThere_23 : decode cX10_isThere 23 = .ok (.goto 4, 3) := by decide +kernel
theorem dX10_isThere_26 : decode cX10_isThere 26 = .ok (.iconst 0, 1) := by decide +kernel
theorem dX10_isThere_27 : decode cX10_isThere 27 = .ok (.ireturn, 1) := by decide +kernel
set_option maxRecDepth 20000 in
theorem ggX10_beside_X10_in : GoodIn wsX10_beside wsX10_in := goodIn_r _ [6] (by decide +kernel) (by decide +kernel)
set_option maxRecDepth 20000 in
theorem gX10_beside_X10_in : GoodIn wsX10_beside (va_wsS RX10 84 yX10_in wsX10_in) := goodIn_app (goodIn_of _ (by decide +kernel)) ggX10_beside_X10_in
theorem dX10_beside_0 : decode cX10_beside 0 = .ok (.iload_n 1, 1) := by decide +kernel
theorem dX10_beside_1 : decode cX10_beside 1 = .ok (.bipush 6, 2) := by decide +kernel
theorem dX10_beside_3 : decode cX10_beside 3 = .ok (.idiv, 1) := by decide +kernel
theorem dX10_beside_4 : decode cX10_beside 4 = .ok (.iload_n 2, 1) := by decide +kernel
theorem dX10_beside_5 : decode cX10_beside 5 = .ok (.ifCond .ne 7, 3) := by decide +kernel
theorem dX10_beside_8 : decode cX10_beside 8 = .ok (.iconst (-1), 1) := by decide +kernel
theorem dX10_beside_9 : decode cX10_beside 9 = .ok (.goto 13, 3) := by decide +kernel
theorem dX10_beside_12 : decode cX10_beside 12 = .ok (.iload_n 2, 1) := by decide +kernel
theorem dX10_beside_13 : decode cX10_beside 13 = .ok (.iconst 2, 1) := by decide +kernel
theorem dX10_beside_14 : decode cX10_beside 14 = .ok (.if_icmp .ne 7, 3) := by decide +kernel
theorem dX10_beside_17 : decode cX10_beside 17 = .ok (.iconst 1, 1) := by decide +kernel
theorem dX10_beside_18 : decode cX10_beside 18 = .ok (.goto 4, 3) := by decide +kernel
theorem dX10_beside_21 : decode cX10_beside 21 = .ok (.iconst 0, 1) := by decide +kernel
theorem dX10_beside_22 : decode cX10_beside 22 = .ok (.iadd, 1) := by decide +kernel
theorem dX10_beside_23 : decode cX10_beside 23 = .ok (.istore_n 3, 1) := by decide +kernel
theorem dX10_beside_24 : decode cX10_beside 24 = .ok (.iload_n 1, 1) := by decide +kernel
theorem dX10_beside_25 : decode cX10_beside 25 = .ok (.bipush 6, 2) := by decide +kernel
theorem dX10_beside_27 : decode cX10_beside 27 = .ok (.irem, 1) := by decide +kernel
theorem dX10_beside_28 : decode cX10_beside 28 = .ok (.iload_n 2, 1) := by decide +kernel
theorem dX10_beside_29 : decode cX10_beside 29 = .ok (.iconst 1, 1) := by decide +kernel
theorem dX10_beside_30 : decode cX10_beside 30 = .ok (.if_icmp .ne 7, 3) := by decide +kernel
theorem dX10_beside_33 : decode cX10_beside 33 = .ok (.iconst 1, 1) := by decide +kernel
theorem dX10_beside_34 : decode cX10_beside 34 = .ok (.goto 13, 3) := by decide +kernel
theorem dX10_beside_37 : decode cX10_beside 37 = .ok (.iload_n 2, 1) := by decide +kernel
theorem dX10_beside_38 : decode cX10_beside 38 = .ok (.iconst 3, 1) := by decide +kernel
theorem dX10_beside_39 : decode cX10_beside 39 = .ok (.if_icmp .ne 7, 3) := by decide +kernel
theorem dX10_beside_42 : decode cX10_beside 42 = .ok (.iconst (-1), 1) := by decide +kernel
theorem dX10_beside_43 : decode cX10_beside 43 = .ok (.goto 4, 3) := by decide +kernel
theorem dX10_beside_46 : decode cX10_beside 46 = .ok (.iconst 0, 1) := by decide +kernel
theorem dX10_beside_47 : decode cX10_beside 47 = .ok (.iadd, 1) := by decide +kernel
theorem dX10_beside_48 : decode cX10_beside 48 = .ok (.istore 4, 2) := by decide +kernel
theorem dX10_beside_50 : decode cX10_beside 50 = .ok (.iload_n 3, 1) := by decide +kernel
theorem dX10_beside_51 : decode cX10_beside 51 = .ok (.i2l, 1) := by decide +kernel
theorem dX10_beside_52 : decode cX10_beside 52 = .ok (.lconst 0, 1) := by decide +kernel
theorem dX10_beside_53 : decode cX10_beside 53 = .ok (.aload_n 0, 1) := by decide +kernel
theorem dX10_beside_54 : decode cX10_beside 54 = .ok (.getfield 13, 3) := by decide +kernel
theorem dX10_beside_57 : decode cX10_beside 57 = .ok (.iconst 1, 1) := by decide +kernel
theorem dX10_beside_58 : decode cX10_beside 58 = .ok (.isub, 1) := by decide +kernel
theorem dX10_beside_59 : decode cX10_beside 59 = .ok (.i2l, 1) := by decide +kernel
theorem dX10_beside_60 : decode cX10_beside 60 = .ok (.invokestatic 84, 3) := by decide +kernel
theorem dX10_beside_63 : decode cX10_beside 63 = .ok (.ifCond .eq 30, 3) := by decide +kernel
theorem dX10_beside_66 : decode cX10_beside 66 = .ok (.iload 4, 2) := by decide +kernel
theorem dX10_beside_68 : decode cX10_beside 68 = .ok (.i2l, 1) := by decide +kernel
theorem dX10_beside_69 : decode cX10_beside 69 = .ok (.lconst 0, 1) := by decide +kernel
theorem dX10_beside_70 : decode cX10_beside 70 = .ok (.aload_n 0, 1) := by decide +kernel
theorem dX10_beside_71 : decode cX10_beside 71 = .ok (.getfield 17, 3) := by decide +kernel
theorem dX10_beside_74 : decode cX10_beside 74 = .ok (.iconst 1, 1) := by decide +kernel
theorem dX10_beside_75 : decode cX10_beside 75 = .ok (.isub, 1) := by decide +kernel
theorem dX10_beside_76 : decode cX10_beside 76 = .ok (.i2l, 1) := by decide +kernel
theorem dX10_beside_77 : decode cX10_beside 77 = .ok (.invokestatic 84, 3) := by decide +kernel
theorem dX10_beside_80 : decode cX10_beside 80 = .ok (.ifCond .eq 13, 3) := by decide +kernel
theorem dX10_beside_83 : decode cX10_beside 83 = .ok (.bipush 6, 2) := by decide +kernel
theorem dX10_beside_85 : decode cX10_beside 85 = .ok (.iload_n 3, 1) := by decide +kernel
theorem dX10_beside_86 : decode cX10_beside 86 = .ok (.imul, 1) := by decide +kernel
theorem dX10_beside_87 : decode cX10_beside 87 = .ok (.iload 4, 2) := by decide +kernel
theorem dX10_beside_89 : decode cX10_beside 89 = .ok (.iadd, 1) := by decide +kernel
theorem dX10_beside_90 : decode cX10_beside 90 = .ok (.goto 5, 3) := by decide +kernel
theorem dX10_beside_93 : decode cX10_beside 93 = .ok (.bipush (-9), 2) := by decide +kernel
theorem dX10_beside_95 : decode cX10_beside 95 = .ok (.ireturn, 1) := by decide +kernel
set_option maxRecDepth 20000 in
theorem ggX10_isOpen_X10_beside : GoodIn wsX10_isOpen wsX10_beside := goodIn_r _ [7, 8, 9, 10, 11, 6, 12, 13, 14, 15, 16, 17, 18, 19, 20, 21, 22, 23, 24, 25, 26, 27, 28, 29, 30, 31, 32, 33, 34, 35, 36, 37, 38, 39, 40, 41, 42, 43, 44, 45, 46] (by decide +kernel) (by decide +kernel)
set_option maxRecDepth 20000 in
theorem gX10_isOpen_X10_beside : GoodIn wsX10_isOpen (wsV RX10 113 RX10 yX10_beside wsX10_beside) := goodIn_app (goodIn_of _ (by decide +kernel)) ggX10_isOpen_X10_beside
theorem dX10_isOpen_0 : decode cX10_isOpen 0 = .ok (.aload_n 0, 1) := by decide +kernel
theorem dX10_isOpen_1 : decode cX10_isOpen 1 = .ok (.iload_n 1, 1) := by decide +kernel
theorem dX10_isOpen_2 : decode cX10_isOpen 2 = .ok (.iload_n 2, 1) := by decide +kernel
theorem dX10_isOpen_3 : decode cX10_isOpen 3 = .ok (.invokevirtual 113, 3) := by decide +kernel
theorem dX10_isOpen_6 : decode cX10_isOpen 6 = .ok (.istore_n 3, 1) := by decide +kernel
theorem dX10_isOpen_7 : decode cX10_isOpen 7 = .ok (.iload_n 3, 1) := by decide +kernel
theorem dX10_isOpen_8 : decode cX10_isOpen 8 = .ok (.bipush (-9), 2) := by decide +kernel
theorem dX10_isOpen_10 : decode cX10_isOpen 10 = .ok (.if_icmp .ne 5, 3) := by decide +kernel
theorem dX10_isOpen_13 : decode cX10_isOpen 13 = .ok (.iconst 0, 1) := by decide +kernel
theorem dX10_isOpen_14 : decode cX10_isOpen 14 = .ok (.ireturn, 1) := by decide +kernel
theorem dX10_isOpen_15 : decode cX10_isOpen 15 = .ok (.iload_n 2, 1) := by decide +kernel
theorem dX10_isOpen_16 : decode cX10_isOpen 16 = .ok (.iconst 1, 1) := by decide +kernel
theorem dX10_isOpen_17 : decode cX10_isOpen 17 = .ok (.if_icmp .ne 12, 3) := by decide +kernel
theorem dX10_isOpen_20 : decode cX10_isOpen 20 = .ok (.aload_n 0, 1) := by decide +kernel
theorem dX10_isOpen_21 : decode cX10_isOpen 21 = .ok (.getfield 20, 3) := by decide +kernel
theorem dX10_isOpen_24 : decode cX10_isOpen 24 = .ok (.iload_n 1, 1) := by decide +kernel
theorem dX10_isOpen_25 : decode cX10_isOpen 25 = .ok (.baload, 1) := by decide +kernel
theorem dX10_isOpen_26 : decode cX10_isOpen 26 = .ok (.goto 37, 3) := by decide +kernel
theorem dX10_isOpen_29 : decode cX10_isOpen 29 = .ok (.iload_n 2, 1) := by decide +kernel
theorem dX10_isOpen_30 : decode cX10_isOpen 30 = .ok (.iconst 2, 1) := by decide +kernel
theorem dX10_isOpen_31 : decode cX10_isOpen 31 = .ok (.if_icmp .ne 12, 3) := by decide +kernel
theorem dX10_isOpen_34 : decode cX10_isOpen 34 = .ok (.aload_n 0, 1) := by decide +kernel
theorem dX10_isOpen_35 : decode cX10_isOpen 35 = .ok (.getfield 24, 3) := by decide +kernel
theorem dX10_isOpen_38 : decode cX10_isOpen 38 = .ok (.iload_n 1, 1) := by decide +kernel
theorem dX10_isOpen_39 : decode cX10_isOpen 39 = .ok (.baload, 1) := by decide +kernel
theorem dX10_isOpen_40 : decode cX10_isOpen 40 = .ok (.goto 23, 3) := by decide +kernel
theorem dX10_isOpen_43 : decode cX10_isOpen 43 = .ok (.iload_n 2, 1) := by decide +kernel
theorem dX10_isOpen_44 : decode cX10_isOpen 44 = .ok (.iconst 3, 1) := by decide +kernel
theorem dX10_isOpen_45 : decode cX10_isOpen 45 = .ok (.if_icmp .ne 12, 3) := by decide +kernel
theorem dX10_isOpen_48 : decode cX10_isOpen 48 = .ok (.aload_n 0, 1) := by decide +kernel
theorem dX10_isOpen_49 : decode cX10_isOpen 49 = .ok (.getfield 20, 3) := by decide +kernel
theorem dX10_isOpen_52 : decode cX10_isOpen 52 = .ok (.iload_n 3, 1) := by decide +kernel
theorem dX10_isOpen_53 : decode cX10_isOpen 53 = .ok (.baload, 1) := by decide +kernel
theorem dX10_isOpen_54 : decode cX10_isOpen 54 = .ok (.goto 9, 3) := by decide +kernel
theorem dX10_isOpen_57 : decode cX10_isOpen 57 = .ok (.aload_n 0, 1) := by decide +kernel
theorem dX10_isOpen_58 : decode cX10_isOpen 58 = .ok (.getfield 24, 3) := by decide +kernel
theorem dX10_isOpen_61 : decode cX10_isOpen 61 = .ok (.iload_n 3, 1) := by decide +kernel
theorem dX10_isOpen_62 : decode cX10_isOpen 62 = .ok (.baload, 1) := by decide +kernel
theorem dX10_isOpen_63 : decode cX10_isOpen 63 = .ok (.ireturn, 1) := by decide +kernel
set_option maxRecDepth 20000 in
theorem ggX10_set_X10_beside : GoodIn wsX10_set wsX10_beside := goodIn_r _ [7, 8, 9, 10, 11, 6, 12, 13, 14, 15, 16, 17, 18, 19, 20, 21, 22, 23, 24, 25, 26, 27, 28, 29, 30, 31, 32, 33, 34, 35, 36, 37, 38, 39, 40, 41, 42, 43, 44, 45, 46] (by decide +kernel) (by decide +kernel)
set_option maxRecDepth 20000 in
theorem gX10_set_X10_beside : GoodIn wsX10_set (wsV RX10 113 RX10 yX10_beside wsX10_beside) := goodIn_app (goodIn_of _ (by decide +kernel)) ggX10_set_X10_beside
theorem dX10_set_0 : decode cX10_set 0 = .ok (.aload_n 0, 1) := by decide +kernel
theorem dX10_set_1 : decode cX10_set 1 = .ok (.iload_n 1, 1) := by decide +kernel
theorem dX10_set_2 : decode cX10_set 2 = .ok (.iload_n 2, 1) := by decide +kernel
theorem dX10_set_3 : decode cX10_set 3 = .ok (.invokevirtual 113, 3) := by decide +kernel
theorem dX10_set_6 : decode cX10_set 6 = .ok (.istore 4, 2) := by decide +kernel
theorem dX10_set_8 : decode cX10_set 8 = .ok (.iload_n 2, 1) := by decide +kernel
theorem dX10_set_9 : decode cX10_set 9 = .ok (.iconst 1, 1) := by decide +kernel
theorem dX10_set_10 : decode cX10_set 10 = .ok (.if_icmp .ne 13, 3) := by decide +kernel
theorem dX10_set_13 : decode cX10_set 13 = .ok (.aload_n 0, 1) := by decide +kernel
theorem dX10_set_14 : decode cX10_set 14 = .ok (.getfield 20, 3) := by decide +kernel
theorem dX10_set_17 : decode cX10_set 17 = .ok (.iload_n 1, 1) := by decide +kernel
theorem dX10_set_18 : decode cX10_set 18 = .ok (.iload_n 3, 1) := by decide +kernel
theorem dX10_set_19 : decode cX10_set 19 = .ok (.bastore, 1) := by decide +kernel
theorem dX10_set_20 : decode cX10_set 20 = .ok (.goto 42, 3) := by decide +kernel
theorem dX10_set_23 : decode cX10_set 23 = .ok (.iload_n 2, 1) := by decide +kernel
theorem dX10_set_24 : decode cX10_set 24 = .ok (.iconst 2, 1) := by decide +kernel
theorem dX10_set_25 : decode cX10_set 25 = .ok (.if_icmp .ne 13, 3) := by decide +kernel
theorem dX10_set_28 : decode cX10_set 28 = .ok (.aload_n 0, 1) := by decide +kernel
theorem dX10_set_29 : decode cX10_set 29 = .ok (.getfield 24, 3) := by decide +kernel
theorem dX10_set_32 : decode cX10_set 32 = .ok (.iload_n 1, 1) := by decide +kernel
theorem dX10_set_33 : decode cX10_set 33 = .ok (.iload_n 3, 1) := by decide +kernel
theorem dX10_set_34 : decode cX10_set 34 = .ok (.bastore, 1) := by decide +kernel
theorem dX10_set_35 : decode cX10_set 35 = .ok (.goto 27, 3) := by decide +kernel
theorem dX10_set_38 : decode cX10_set 38 = .ok (.iload_n 2, 1) := by decide +kernel
theorem dX10_set_39 : decode cX10_set 39 = .ok (.iconst 3, 1) := by decide +kernel
theorem dX10_set_40 : decode cX10_set 40 = .ok (.if_icmp .ne 14, 3) := by decide +kernel
theorem dX10_set_43 : decode cX10_set 43 = .ok (.aload_n 0, 1) := by decide +kernel
theorem dX10_set_44 : decode cX10_set 44 = .ok (.getfield 20, 3) := by decide +kernel
theorem dX10_set_47 : decode cX10_set 47 = .ok (.iload 4, 2) := by decide +kernel
theorem dX10_set_49 : decode cX10_set 49 = .ok (.iload_n 3, 1) := by decide +kernel
theorem dX10_set_50 : decode cX10_set 50 = .ok (.bastore, 1) := by decide +kernel
theorem dX10_set_51 : decode cX10_set 51 = .ok (.goto 11, 3) := by decide +kernel
theorem dX10_set_54 : decode cX10_set 54 = .ok (.aload_n 0, 1) := by decide +kernel
theorem dX10_set_55 : decode cX10_set 55 = .ok (.getfield 24, 3) := by decide +kernel
theorem dX10_set_58 : decode cX10_set 58 = .ok (.iload 4, 2) := by decide +kernel
theorem dX10_set_60 : decode cX10_set 60 = .ok (.iload_n 3, 1) := by decide +kernel
theorem dX10_set_61 : decode cX10_set 61 = .ok (.bastore, 1) := by decide +kernel
theorem dX10_set_62 : decode cX10_set 62 = .ok (.return_, 1) := by decide +kernel
theorem dX10_next_0 : decode cX10_next 0 = .ok (.aload_n 0, 1) := by decide +kernel
theorem dX10_next_1 : decode cX10_next 1 = .ok (.aload_n 0, 1) := by decide +kernel
theorem dX10_next_2 : decode cX10_next 2 = .ok (.getfield 117, 3) := by decide +kernel
theorem dX10_next_5 : decode cX10_next 5 = .ok (.ldc2_w 121, 3) := by decide +kernel
theorem dX10_next_8 : decode cX10_next 8 = .ok (.lmul, 1) := by decide +kernel
theorem dX10_next_9 : decode cX10_next 9 = .ok (.ldc2_w 123, 3) := by decide +kernel
theorem dX10_next_12 : decode cX10_next 12 = .ok (.ladd, 1) := by decide +kernel
theorem dX10_next_13 : decode cX10_next 13 = .ok (.putfield 117, 3) := by decide +kernel
theorem dX10_next_16 : decode cX10_next 16 = .ok (.aload_n 0, 1) := by decide +kernel
theorem dX10_next_17 : decode cX10_next 17 = .ok (.getfield 117, 3) := by decide +kernel
theorem dX10_next_20 : decode cX10_next 20 = .ok (.bipush 33, 2) := by decide +kernel
theorem dX10_next_22 : decode cX10_next 22 = .ok (.lushr, 1) := by decide +kernel
theorem dX10_next_23 : decode cX10_next 23 = .ok (.iload_n 1, 1) := by decide +kernel
theorem dX10_next_24 : decode cX10_next 24 = .ok (.i2l, 1) := by decide +kernel
theorem dX10_next_25 : decode cX10_next 25 = .ok (.lrem, 1) := by decide +kernel
theorem dX10_next_26 : decode cX10_next 26 = .ok (.l2i, 1) := by decide +kernel
theorem dX10_next_27 : decode cX10_next 27 = .ok (.ireturn, 1) := by decide +kernel
set_option maxRecDepth 20000 in
theorem ggX10_layFar_X10_isOpen : GoodIn wsX10_layFar wsX10_isOpen := goodIn_r _ [8, 9, 10, 11, 12, 13, 7, 14, 15, 16, 17, 18, 19, 20, 21, 22, 23, 24, 25, 26, 27, 28, 29, 30, 31, 32, 33, 34, 35, 36, 37, 38, 39, 40, 41, 42, 43, 44, 45, 46, 47, 48, 49, 50, 51, 52, 53] (by decide +kernel) (by decide +kernel)
set_option maxRecDepth 20000 in
theorem gX10_layFar_X10_isOpen : GoodIn wsX10_layFar (wsV RX10 160 RX10 yX10_isOpen wsX10_isOpen) := goodIn_app (goodIn_of _ (by decide +kernel)) ggX10_layFar_X10_isOpen
set_option maxRecDepth 20000 in
theorem ggX10_layFar_X10_beside : GoodIn wsX10_layFar wsX10_beside := goodIn_r _ [14, 15, 16, 17, 18, 7, 19, 20, 21, 22, 23, 24, 25, 26, 27, 28, 29, 30, 31, 32, 33, 34, 35, 36, 37, 38, 39, 40, 41, 42, 43, 44, 45, 46, 47, 48, 49, 50, 51, 52, 53] (by decide +kernel) (by decide +kernel)
set_option maxRecDepth 20000 in
theorem gX10_layFar_X10_beside : GoodIn wsX10_layFar (wsV RX10 113 RX10 yX10_beside wsX10_beside) := goodIn_app (goodIn_of _ (by decide +kernel)) ggX10_layFar_X10_beside
theorem dX10_layFar_0 : decode cX10_layFar 0 = .ok (.iconst 0, 1) := by decide +kernel
theorem dX10_layFar_1 : decode cX10_layFar 1 = .ok (.istore_n 2, 1) := by decide +kernel
theorem dX10_layFar_2 : decode cX10_layFar 2 = .ok (.iload_n 2, 1) := by decide +kernel
theorem dX10_layFar_3 : decode cX10_layFar 3 = .ok (.bipush 36, 2) := by decide +kernel
theorem dX10_layFar_5 : decode cX10_layFar 5 = .ok (.if_icmp .ge 18, 3) := by decide +kernel
theorem dX10_layFar_8 : decode cX10_layFar 8 = .ok (.aload_n 0, 1) := by decide +kernel
theorem dX10_layFar_9 : decode cX10_layFar 9 = .ok (.getfield 39, 3) := by decide +kernel
theorem dX10_layFar_12 : decode cX10_layFar 12 = .ok (.iload_n 2, 1) := by decide +kernel
theorem dX10_layFar_13 : decode cX10_layFar 13 = .ok (.sipush 9999, 3) := by decide +kernel
theorem dX10_layFar_16 : decode cX10_layFar 16 = .ok (.iastore, 1) := by decide +kernel
theorem dX10_layFar_17 : decode cX10_layFar 17 = .ok (.iinc 2 1, 3) := by decide +kernel
theorem dX10_layFar_20 : decode cX10_layFar 20 = .ok (.goto (-18), 3) := by decide +kernel
theorem dX10_layFar_23 : decode cX10_layFar 23 = .ok (.aload_n 0, 1) := by decide +kernel
theorem dX10_layFar_24 : decode cX10_layFar 24 = .ok (.getfield 39, 3) := by decide +kernel
theorem dX10_layFar_27 : decode cX10_layFar 27 = .ok (.iload_n 1, 1) := by decide +kernel
theorem dX10_layFar_28 : decode cX10_layFar 28 = .ok (.iconst 0, 1) := by decide +kernel
theorem dX10_layFar_29 : decode cX10_layFar 29 = .ok (.iastore, 1) := by decide +kernel
theorem dX10_layFar_30 : decode cX10_layFar 30 = .ok (.aload_n 0, 1) := by decide +kernel
theorem dX10_layFar_31 : decode cX10_layFar 31 = .ok (.getfield 42, 3) := by decide +kernel
theorem dX10_layFar_34 : decode cX10_layFar 34 = .ok (.iconst 0, 1) := by decide +kernel
theorem dX10_layFar_35 : decode cX10_layFar 35 = .ok (.iload_n 1, 1) := by decide +kernel
theorem dX10_layFar_36 : decode cX10_layFar 36 = .ok (.iastore, 1) := by decide +kernel
theorem dX10_layFar_37 : decode cX10_layFar 37 = .ok (.iconst 1, 1) := by decide +kernel
theorem dX10_layFar_38 : decode cX10_layFar 38 = .ok (.istore_n 2, 1) := by decide +kernel
theorem dX10_layFar_39 : decode cX10_layFar 39 = .ok (.iconst 0, 1) := by decide +kernel
theorem dX10_layFar_40 : decode cX10_layFar 40 = .ok (.istore_n 3, 1) := by decide +kernel
theorem dX10_layFar_41 : decode cX10_layFar 41 = .ok (.iload_n 3, 1) := by decide +kernel
theorem dX10_layFar_42 : decode cX10_layFar 42 = .ok (.iload_n 2, 1) := by decide +kernel
theorem dX10_layFar_43 : decode cX10_layFar 43 = .ok (.if_icmp .ge 115, 3) := by decide +kernel
theorem dX10_layFar_46 : decode cX10_layFar 46 = .ok (.aload_n 0, 1) := by decide +kernel
theorem dX10_layFar_47 : decode cX10_layFar 47 = .ok (.getfield 42, 3) := by decide +kernel
theorem dX10_layFar_50 : decode cX10_layFar 50 = .ok (.iload_n 3, 1) := by decide +kernel
theorem dX10_layFar_51 : decode cX10_layFar 51 = .ok (.iaload, 1) := by decide +kernel
theorem dX10_layFar_52 : decode cX10_layFar 52 = .ok (.istore 4, 2) := by decide +kernel
theorem dX10_layFar_54 : decode cX10_layFar 54 = .ok (.iconst 0, 1) := by decide +kernel
theorem dX10_layFar_55 : decode cX10_layFar 55 = .ok (.istore 5, 2) := by decide +kernel
theorem dX10_layFar_57 : decode cX10_layFar 57 = .ok (.iload 5, 2) := by decide +kernel
theorem dX10_layFar_59 : decode cX10_layFar 59 = .ok (.iconst 4, 1) := by decide +kernel
theorem dX10_layFar_60 : decode cX10_layFar 60 = .ok (.if_icmp .ge 92, 3) := by decide +kernel
theorem dX10_layFar_63 : decode cX10_layFar 63 = .ok (.aload_n 0, 1) := by decide +kernel
theorem dX10_layFar_64 : decode cX10_layFar 64 = .ok (.iload 4, 2) := by decide +kernel
theorem dX10_layFar_66 : decode cX10_layFar 66 = .ok (.iload 5, 2) := by decide +kernel
theorem dX10_layFar_68 : decode cX10_layFar 68 = .ok (.invokevirtual 160, 3) := by decide +kernel
theorem dX10_layFar_71 : decode cX10_layFar 71 = .ok (.ifCond .eq 14, 3) := by decide +kernel
theorem dX10_layFar_74 : decode cX10_layFar 74 = .ok (.aload_n 0, 1) := by decide +kernel
theorem dX10_layFar_75 : decode cX10_layFar 75 = .ok (.iload 4, 2) := by decide +kernel
theorem dX10_layFar_77 : decode cX10_layFar 77 = .ok (.iload 5, 2) := by decide +kernel
theorem dX10_layFar_79 : decode cX10_layFar 79 = .ok (.invokevirtual 113, 3) := by decide +kernel
theorem dX10_layFar_82 : decode cX10_layFar 82 = .ok (.goto 5, 3) := by decide +kernel
theorem dX10_layFar_85 : decode cX10_layFar 85 = .ok (.bipush (-9), 2) := by decide +kernel
theorem dX10_layFar_87 : decode cX10_layFar 87 = .ok (.istore 6, 2) := by decide +kernel
theorem dX10_layFar_89 : decode cX10_layFar 89 = .ok (.iload 6, 2) := by decide +kernel
theorem dX10_layFar_91 : decode cX10_layFar 91 = .ok (.bipush (-9), 2) := by decide +kernel
theorem dX10_layFar_93 : decode cX10_layFar 93 = .ok (.if_icmp .eq 53, 3) := by decide +kernel
theorem dX10_layFar_96 : decode cX10_layFar 96 = .ok (.aload_n 0, 1) := by decide +kernel
theorem dX10_layFar_97 : decode cX10_layFar 97 = .ok (.getfield 39, 3) := by decide +kernel
theorem dX10_layFar_100 : decode cX10_layFar 100 = .ok (.iload 6, 2) := by decide +kernel
theorem dX10_layFar_102 : decode cX10_layFar 102 = .ok (.iaload, 1) := by decide +kernel
theorem dX10_layFar_103 : decode cX10_layFar 103 = .ok (.sipush 9999, 3) := by decide +kernel
theorem dX10_layFar_106 : decode cX10_layFar 106 = .ok (.if_icmp .ne 40, 3) := by decide +kernel
theorem dX10_layFar_109 : decode cX10_layFar 109 = .ok (.aload_n 0, 1) := by decide +kernel
theorem dX10_layFar_110 : decode cX10_layFar 110 = .ok (.getfield 49, 3) := by decide +kernel
theorem dX10_layFar_113 : decode cX10_layFar 113 = .ok (.iload 6, 2) := by decide +kernel
theorem dX10_layFar_115 : decode cX10_layFar 115 = .ok (.baload, 1) := by decide +kernel
theorem dX10_layFar_116 : decode cX10_layFar 116 = .ok (.ifCond .ne 30, 3) := by decide +kernel
theorem dX10_layFar_119 : decode cX10_layFar 119 = .ok (.aload_n 0, 1) := by decide +kernel
theorem dX10_layFar_120 : decode cX10_layFar 120 = .ok (.getfield 39, 3) := by decide +kernel
theorem dX10_layFar_123 : decode cX10_layFar 123 = .ok (.iload 6, 2) := by decide +kernel
theorem dX10_layFar_125 : decode cX10_layFar 125 = .ok (.aload_n 0, 1) := by decide +kernel
theorem dX10_layFar_126 : decode cX10_layFar 126 = .ok (.getfield 39, 3) := by decide +kernel
theorem dX10_layFar_129 : decode cX10_layFar 129 = .ok (.iload 4, 2) := by decide +kernel
theorem dX10_layFar_131 : decode cX10_layFar 131 = .ok (.iaload, 1) := by decide +kernel
theorem dX10_layFar_132 : decode cX10_layFar 132 = .ok (.iconst 1, 1) := by decide +kernel
theorem dX10_layFar_133 : decode cX10_layFar 133 = .ok (.iadd, 1) := by decide +kernel
theorem dX10_layFar_134 : decode cX10_layFar 134 = .ok (.iastore, 1) := by decide +kernel
theorem dX10_layFar_135 : decode cX10_layFar 135 = .ok (.aload_n 0, 1) := by decide +kernel
theorem dX10_layFar_136 : decode cX10_layFar 136 = .ok (.getfield 42, 3) := by decide +kernel
theorem dX10_layFar_139 : decode cX10_layFar 139 = .ok (.iload_n 2, 1) := by decide +kernel
theorem dX10_layFar_140 : decode cX10_layFar 140 = .ok (.iload 6, 2) := by decide +kernel
theorem dX10_layFar_142 : decode cX10_layFar 142 = .ok (.iastore, 1) := by decide +kernel
theorem dX10_layFar_143 : decode cX10_layFar 143 = .ok (.iinc 2 1, 3) := by decide +kernel
theorem dX10_layFar_146 : decode cX10_layFar 146 = .ok (.iinc 5 1, 3) := by decide +kernel
theorem dX10_layFar_149 : decode cX10_layFar 149 = .ok (.goto (-92), 3) := by decide +kernel
theorem dX10_layFar_152 : decode cX10_layFar 152 = .ok (.iinc 3 1, 3) := by decide +kernel
theorem dX10_layFar_155 : decode cX10_layFar 155 = .ok (.goto (-114), 3) := by decide +kernel
theorem dX10_layFar_158 : decode cX10_layFar 158 = .ok (.return_, 1) := by decide +kernel
set_option maxRecDepth 20000 in
theorem ggX10_layParts_X10_isThere : GoodIn wsX10_layParts wsX10_isThere := goodIn_r _ [7, 8, 9, 29, 30, 31, 32, 33, 34, 35, 36, 37, 38, 39, 40, 41, 42, 43, 44, 45, 46, 47, 48, 49, 50, 51, 52, 53, 54, 55, 56, 57, 58, 59, 60, 61, 62] (by decide +kernel) (by decide +kernel)
set_option maxRecDepth 20000 in
theorem gX10_layParts_X10_isThere : GoodIn wsX10_layParts (wsV RX10 125 RX10 yX10_isThere wsX10_isThere) := goodIn_app (goodIn_of _ (by decide +kernel)) ggX10_layParts_X10_isThere
set_option maxRecDepth 20000 in
theorem ggX10_layParts_X10_layFar : GoodIn wsX10_layParts wsX10_layFar := goodIn_r _ [13, 2, 14, 15, 16, 17, 18, 6, 19, 20, 21, 22, 23, 24, 25, 8, 9, 26, 27, 28, 29, 30, 31, 32, 33, 34, 35, 36, 37, 38, 39, 40, 41, 42, 43, 44, 45, 46, 47, 48, 49, 50, 51, 52, 53, 54, 55, 56, 57, 58, 59, 60, 61, 62] (by decide +kernel) (by decide +kernel)
set_option maxRecDepth 20000 in
theorem gX10_layParts_X10_layFar : GoodIn wsX10_layParts (wsV RX10 170 RX10 yX10_layFar wsX10_layFar) := goodIn_app (goodIn_of _ (by decide +kernel)) ggX10_layParts_X10_layFar
theorem dX10_layParts_0 : decode cX10_layParts 0 = .ok (.iconst 0, 1) := by decide +kernel
theorem dX10_layParts_1 : decode cX10_layParts 1 = .ok (.istore_n 1, 1) := by decide +kernel
theorem dX10_layParts_2 : decode cX10_layParts 2 = .ok (.iconst 0, 1) := by decide +kernel
theorem dX10_layParts_3 : decode cX10_layParts 3 = .ok (.istore_n 2, 1) := by decide +kernel
theorem dX10_layParts_4 : decode cX10_layParts 4 = .ok (.iload_n 2, 1) := by decide +kernel
theorem dX10_layParts_5 : decode cX10_layParts 5 = .ok (.bipush 36, 2) := by decide +kernel
theorem dX10_layParts_7 : decode cX10_layParts 7 = .ok (.if_icmp .ge 17, 3) := by decide +kernel
theorem dX10_layParts_10 : decode cX10_layParts 10 = .ok (.aload_n 0, 1) := by decide +kernel
theorem dX10_layParts_11 : decode cX10_layParts 11 = .ok (.getfield 52, 3) := by decide +kernel
theorem dX10_layParts_14 : decode cX10_layParts 14 = .ok (.iload_n 2, 1) := by decide +kernel
theorem dX10_layParts_15 : decode cX10_layParts 15 = .ok (.bipush (-9), 2) := by decide +kernel
theorem dX10_layParts_17 : decode cX10_layParts 17 = .ok (.iastore, 1) := by decide +kernel
theorem dX10_layParts_18 : decode cX10_layParts 18 = .ok (.iinc 2 1, 3) := by decide +kernel
theorem dX10_layParts_21 : decode cX10_layParts 21 = .ok (.goto (-17), 3) := by decide +kernel
theorem dX10_layParts_24 : decode cX10_layParts 24 = .ok (.iconst 0, 1) := by decide +kernel
theorem dX10_layParts_25 : decode cX10_layParts 25 = .ok (.istore_n 2, 1) := by decide +kernel
theorem dX10_layParts_26 : decode cX10_layParts 26 = .ok (.iload_n 2, 1) := by decide +kernel
theorem dX10_layParts_27 : decode cX10_layParts 27 = .ok (.bipush 36, 2) := by decide +kernel
theorem dX10_layParts_29 : decode cX10_layParts 29 = .ok (.if_icmp .ge 78, 3) := by decide +kernel
theorem dX10_layParts_32 : decode cX10_layParts 32 = .ok (.aload_n 0, 1) := by decide +kernel
theorem dX10_layParts_33 : decode cX10_layParts 33 = .ok (.iload_n 2, 1) := by decide +kernel
theorem dX10_layParts_34 : decode cX10_layParts 34 = .ok (.invokevirtual 125, 3) := by decide +kernel
theorem dX10_layParts_37 : decode cX10_layParts 37 = .ok (.ifCond .eq 64, 3) := by decide +kernel
theorem dX10_layParts_40 : decode cX10_layParts 40 = .ok (.aload_n 0, 1) := by decide +kernel
theorem dX10_layParts_41 : decode cX10_layParts 41 = .ok (.getfield 52, 3) := by decide +kernel
theorem dX10_layParts_44 : decode cX10_layParts 44 = .ok (.iload_n 2, 1) := by decide +kernel
theorem dX10_layParts_45 : decode cX10_layParts 45 = .ok (.iaload, 1) := by decide +kernel
theorem dX10_layParts_46 : decode cX10_layParts 46 = .ok (.bipush (-9), 2) := by decide +kernel
theorem dX10_layParts_48 : decode cX10_layParts 48 = .ok (.if_icmp .ne 53, 3) := by decide +kernel
theorem dX10_layParts_51 : decode cX10_layParts 51 = .ok (.iinc 1 1, 3) := by decide +kernel
theorem dX10_layParts_54 : decode cX10_layParts 54 = .ok (.aload_n 0, 1) := by decide +kernel
theorem dX10_layParts_55 : decode cX10_layParts 55 = .ok (.iload_n 2, 1) := by decide +kernel
theorem dX10_layParts_56 : decode cX10_layParts 56 = .ok (.invokevirtual 170, 3) := by decide +kernel
theorem dX10_layParts_59 : decode cX10_layParts 59 = .ok (.iconst 0, 1) := by decide +kernel
theorem dX10_layParts_60 : decode cX10_layParts 60 = .ok (.istore_n 3, 1) := by decide +kernel
theorem dX10_layParts_61 : decode cX10_layParts 61 = .ok (.iload_n 3, 1) := by decide +kernel
theorem dX10_layParts_62 : decode cX10_layParts 62 = .ok (.bipush 36, 2) := by decide +kernel
theorem dX10_layParts_64 : decode cX10_layParts 64 = .ok (.if_icmp .ge 37, 3) := by decide +kernel
theorem dX10_layParts_67 : decode cX10_layParts 67 = .ok (.aload_n 0, 1) := by decide +kernel
theorem dX10_layParts_68 : decode cX10_layParts 68 = .ok (.getfield 52, 3) := by decide +kernel
theorem dX10_layParts_71 : decode cX10_layParts 71 = .ok (.iload_n 3, 1) := by decide +kernel
theorem dX10_layParts_72 : decode cX10_layParts 72 = .ok (.aload_n 0, 1) := by decide +kernel
theorem dX10_layParts_73 : decode cX10_layParts 73 = .ok (.getfield 39, 3) := by decide +kernel
theorem dX10_layParts_76 : decode cX10_layParts 76 = .ok (.iload_n 3, 1) := by decide +kernel
theorem dX10_layParts_77 : decode cX10_layParts 77 = .ok (.iaload, 1) := by decide +kernel
theorem dX10_layParts_78 : decode cX10_layParts 78 = .ok (.sipush 9999, 3) := by decide +kernel
theorem dX10_layParts_81 : decode cX10_layParts 81 = .ok (.if_icmp .ge 7, 3) := by decide +kernel
theorem dX10_layParts_84 : decode cX10_layParts 84 = .ok (.iload_n 2, 1) := by decide +kernel
theorem dX10_layParts_85 : decode cX10_layParts 85 = .ok (.goto 9, 3) := by decide +kernel
theorem dX10_layParts_88 : decode cX10_layParts 88 = .ok (.aload_n 0, 1) := by decide +kernel
theorem dX10_layParts_89 : decode cX10_layParts 89 = .ok (.getfield 52, 3) := by decide +kernel
theorem dX10_layParts_92 : decode cX10_layParts 92 = .ok (.iload_n 3, 1) := by decide +kernel
theorem dX10_layParts_93 : decode cX10_layParts 93 = .ok (.iaload, 1) := by decide +kernel
theorem dX10_layParts_94 : decode cX10_layParts 94 = .ok (.iastore, 1) := by decide +kernel
theorem dX10_layParts_95 : decode cX10_layParts 95 = .ok (.iinc 3 1, 3) := by decide +kernel
theorem dX10_layParts_98 : decode cX10_layParts 98 = .ok (.goto (-37), 3) := by decide +kernel
theorem dX10_layParts_101 : decode cX10_layParts 101 = .ok (.iinc 2 1, 3) := by decide +kernel
theorem dX10_layParts_104 : decode cX10_layParts 104 = .ok (.goto (-78), 3) := by decide +kernel
theorem dX10_layParts_107 : decode cX10_layParts 107 = .ok (.iload_n 1, 1) := by decide +kernel
theorem dX10_layParts_108 : decode cX10_layParts 108 = .ok (.ireturn, 1) := by decide +kernel
