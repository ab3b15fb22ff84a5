theorem dX10_step_31 : decode cX10_step 31 = .ok (.iload_n 1, 1) := by decide +kernel
theorem dX10_step_32 : decode cX10_step 32 = .ok (.invokestatic 157, 3) := by decide +kernel
theorem dX10_step_35 : decode cX10_step 35 = .ok (.istore 4, 2) := by decide +kernel
theorem dX10_step_37 : decode cX10_step 37 = .ok (.aload_n 0, 1) := by decide +kernel
theorem dX10_step_38 : decode cX10_step 38 = .ok (.getfield 39, 3) := by decide +kernel
theorem dX10_step_41 : decode cX10_step 41 = .ok (.iload 4, 2) := by decide +kernel
theorem dX10_step_43 : decode cX10_step 43 = .ok (.iaload, 1) := by decide +kernel
theorem dX10_step_44 : decode cX10_step 44 = .ok (.sipush 9999, 3) := by decide +kernel
theorem dX10_step_47 : decode cX10_step 47 = .ok (.if_icmp .eq 20, 3) := by decide +kernel
theorem dX10_step_50 : decode cX10_step 50 = .ok (.iload_n 3, 1) := by decide +kernel
theorem dX10_step_51 : decode cX10_step 51 = .ok (.i2l, 1) := by decide +kernel
theorem dX10_step_52 : decode cX10_step 52 = .ok (.lconst 0, 1) := by decide +kernel
theorem dX10_step_53 : decode cX10_step 53 = .ok (.aload_n 0, 1) := by decide +kernel
theorem dX10_step_54 : decode cX10_step 54 = .ok (.getfield 39, 3) := by decide +kernel
theorem dX10_step_57 : decode cX10_step 57 = .ok (.iload 4, 2) := by decide +kernel
theorem dX10_step_59 : decode cX10_step 59 = .ok (.iaload, 1) := by decide +kernel
theorem dX10_step_60 : decode cX10_step 60 = .ok (.i2l, 1) := by decide +kernel
theorem dX10_step_61 : decode cX10_step 61 = .ok (.invokestatic 84, 3) := by decide +kernel
theorem dX10_step_64 : decode cX10_step 64 = .ok (.ifCond .ne 6, 3) := by decide +kernel
theorem dX10_step_67 : decode cX10_step 67 = .ok (.bipush (-9), 2) := by decide +kernel
theorem dX10_step_69 : decode cX10_step 69 = .ok (.ireturn, 1) := by decide +kernel
theorem dX10_step_70 : decode cX10_step 70 = .ok (.iconst 0, 1) := by decide +kernel
theorem dX10_step_71 : decode cX10_step 71 = .ok (.istore 5, 2) := by decide +kernel
theorem dX10_step_73 : decode cX10_step 73 = .ok (.iload 5, 2) := by decide +kernel
theorem dX10_step_75 : decode cX10_step 75 = .ok (.iload_n 3, 1) := by decide +kernel
theorem dX10_step_76 : decode cX10_step 76 = .ok (.if_icmp .ge 64, 3) := by decide +kernel
theorem dX10_step_79 : decode cX10_step 79 = .ok (.iconst 0, 1) := by decide +kernel
theorem dX10_step_80 : decode cX10_step 80 = .ok (.istore 6, 2) := by decide +kernel
theorem dX10_step_82 : decode cX10_step 82 = .ok (.aload_n 0, 1) := by decide +kernel
theorem dX10_step_83 : decode cX10_step 83 = .ok (.iload 4, 2) := by decide +kernel
theorem dX10_step_85 : decode cX10_step 85 = .ok (.iload 6, 2) := by decide +kernel
theorem dX10_step_87 : decode cX10_step 87 = .ok (.invokevirtual 160, 3) := by decide +kernel
theorem dX10_step_90 : decode cX10_step 90 = .ok (.ifCond .eq 28, 3) := by decide +kernel
theorem dX10_step_93 : decode cX10_step 93 = .ok (.aload_n 0, 1) := by decide +kernel
theorem dX10_step_94 : decode cX10_step 94 = .ok (.getfield 39, 3) := by decide +kernel
theorem dX10_step_97 : decode cX10_step 97 = .ok (.aload_n 0, 1) := by decide +kernel
theorem dX10_step_98 : decode cX10_step 98 = .ok (.iload 4, 2) := by decide +kernel
theorem dX10_step_100 : decode cX10_step 100 = .ok (.iload 6, 2) := by decide +kernel
theorem dX10_step_102 : decode cX10_step 102 = .ok (.invokevirtual 113, 3) := by decide +kernel
theorem dX10_step_105 : decode cX10_step 105 = .ok (.iaload, 1) := by decide +kernel
theorem dX10_step_106 : decode cX10_step 106 = .ok (.aload_n 0, 1) := by decide +kernel
theorem dX10_step_107 : decode cX10_step 107 = .ok (.getfield 39, 3) := by decide +kernel
theorem dX10_step_110 : decode cX10_step 110 = .ok (.iload 4, 2) := by decide +kernel
theorem dX10_step_112 : decode cX10_step 112 = .ok (.iaload, 1) := by decide +kernel
theorem dX10_step_113 : decode cX10_step 113 = .ok (.iconst 1, 1) := by decide +kernel
theorem dX10_step_114 : decode cX10_step 114 = .ok (.isub, 1) := by decide +kernel
theorem dX10_step_115 : decode cX10_step 115 = .ok (.if_icmp .eq 9, 3) := by decide +kernel
theorem dX10_step_118 : decode cX10_step 118 = .ok (.iinc 6 1, 3) := by decide +kernel
theorem dX10_step_121 : decode cX10_step 121 = .ok (.goto (-39), 3) := by decide +kernel
theorem dX10_step_124 : decode cX10_step 124 = .ok (.aload_n 0, 1) := by decide +kernel
theorem dX10_step_125 : decode cX10_step 125 = .ok (.iload 4, 2) := by decide +kernel
theorem dX10_step_127 : decode cX10_step 127 = .ok (.iload 6, 2) := by decide +kernel
theorem dX10_step_129 : decode cX10_step 129 = .ok (.invokevirtual 113, 3) := by decide +kernel
theorem dX10_step_132 : decode cX10_step 132 = .ok (.istore 4, 2) := by decide +kernel
theorem dX10_step_134 : decode cX10_step 134 = .ok (.iinc 5 1, 3) := by decide +kernel
theorem dX10_step_137 : decode cX10_step 137 = .ok (.goto (-64), 3) := by decide +kernel
theorem dX10_step_140 : decode cX10_step 140 = .ok (.iload 4, 2) := by decide +kernel
theorem dX10_step_142 : decode cX10_step 142 = .ok (.invokestatic 164, 3) := by decide +kernel
theorem dX10_step_145 : decode cX10_step 145 = .ok (.ireturn, 1) := by decide +kernel
set_option maxRecDepth 20000 in
theorem ggX10_widest_X10_isCell : GoodIn wsX10_widest wsX10_isCell := goodIn_r _ [8, 9, 10, 41, 42, 43, 44, 45, 46, 47, 48, 49, 50, 51, 52, 53, 54, 55, 56, 57, 58, 59, 60, 61, 62, 63, 64, 65, 66, 67, 68, 69, 70, 71, 72, 73, 74] (by decide +kernel) (by decide +kernel)
set_option maxRecDepth 20000 in
theorem gX10_widest_X10_isCell : GoodIn wsX10_widest (wsV RX10 151 RX10 yX10_isCell wsX10_isCell) := goodIn_app (goodIn_of _ (by decide +kernel)) ggX10_widest_X10_isCell
set_option maxRecDepth 20000 in
theorem ggX10_widest_X10_layParts : GoodIn wsX10_widest wsX10_layParts := goodIn_r _ [14, 2, 3, 15, 16, 17, 7, 18, 9, 10, 19, 20, 21, 22, 23, 24, 25, 26, 27, 28, 29, 30, 31, 32, 33, 34, 35, 36, 37, 41, 42, 43, 44, 45, 46, 47, 48, 49, 50, 51, 52, 53, 54, 55, 56, 57, 58, 59, 60, 61, 62, 63, 64, 65, 66, 67, 68, 69, 70, 71, 72, 73, 74] (by decide +kernel) (by decide +kernel)
set_option maxRecDepth 20000 in
theorem gX10_widest_X10_layParts : GoodIn wsX10_widest (wsV RX10 133 RX10 yX10_layParts wsX10_layParts) := goodIn_app (goodIn_of _ (by decide +kernel)) ggX10_widest_X10_layParts
set_option maxRecDepth 20000 in
theorem ggX10_widest_X10_index : GoodIn wsX10_widest wsX10_index := goodIn_r _ [40] (by decide +kernel) (by decide +kernel)
set_option maxRecDepth 20000 in
theorem gX10_widest_X10_index : GoodIn wsX10_widest (va_wsS RX10 157 yX10_index wsX10_index) := goodIn_app (goodIn_of _ (by decide +kernel)) ggX10_widest_X10_index
set_option maxRecDepth 20000 in
theorem ggX10_widest_X10_layFar : GoodIn wsX10_widest wsX10_layFar := goodIn_r _ [22, 3, 23, 24, 25, 26, 27, 7, 28, 29, 30, 31, 32, 33, 34, 9, 10, 35, 36, 37, 41, 42, 43, 44, 45, 46, 47, 48, 49, 50, 51, 52, 53, 54, 55, 56, 57, 58, 59, 60, 61, 62, 63, 64, 65, 66, 67, 68, 69, 70, 71, 72, 73, 74] (by decide +kernel) (by decide +kernel)
set_option maxRecDepth 20000 in
theorem gX10_widest_X10_layFar : GoodIn wsX10_widest (wsV RX10 170 RX10 yX10_layFar wsX10_layFar) := goodIn_app (goodIn_of _ (by decide +kernel)) ggX10_widest_X10_layFar
theorem dX10_widest_0 : decode cX10_widest 0 = .ok (.aload_n 0, 1) := by decide +kernel
theorem dX10_widest_1 : decode cX10_widest 1 = .ok (.iconst 0, 1) := by decide +kernel
theorem dX10_widest_2 : decode cX10_widest 2 = .ok (.putfield 79, 3) := by decide +kernel
theorem dX10_widest_5 : decode cX10_widest 5 = .ok (.aload_n 0, 1) := by decide +kernel
theorem dX10_widest_6 : decode cX10_widest 6 = .ok (.iload_n 1, 1) := by decide +kernel
theorem dX10_widest_7 : decode cX10_widest 7 = .ok (.invokevirtual 151, 3) := by decide +kernel
theorem dX10_widest_10 : decode cX10_widest 10 = .ok (.ifCond .ne 5, 3) := by decide +kernel
theorem dX10_widest_13 : decode cX10_widest 13 = .ok (.iconst (-1), 1) := by decide +kernel
theorem dX10_widest_14 : decode cX10_widest 14 = .ok (.ireturn, 1) := by decide +kernel
theorem dX10_widest_15 : decode cX10_widest 15 = .ok (.aload_n 0, 1) := by decide +kernel
theorem dX10_widest_16 : decode cX10_widest 16 = .ok (.invokevirtual 133, 3) := by decide +kernel
theorem dX10_widest_19 : decode cX10_widest 19 = .ok (.pop, 1) := by decide +kernel
theorem dX10_widest_20 : decode cX10_widest 20 = .ok (.aload_n 0, 1) := by decide +kernel
theorem dX10_widest_21 : decode cX10_widest 21 = .ok (.getfield 52, 3) := by decide +kernel
theorem dX10_widest_24 : decode cX10_widest 24 = .ok (.iload_n 1, 1) := by decide +kernel
theorem dX10_widest_25 : decode cX10_widest 25 = .ok (.invokestatic 157, 3) := by decide +kernel
theorem dX10_widest_28 : decode cX10_widest 28 = .ok (.iaload, 1) := by decide +kernel
theorem dX10_widest_29 : decode cX10_widest 29 = .ok (.istore_n 2, 1) := by decide +kernel
theorem dX10_widest_30 : decode cX10_widest 30 = .ok (.iconst 0, 1) := by decide +kernel
theorem dX10_widest_31 : decode cX10_widest 31 = .ok (.istore_n 3, 1) := by decide +kernel
theorem dX10_widest_32 : decode cX10_widest 32 = .ok (.iconst 0, 1) := by decide +kernel
theorem dX10_widest_33 : decode cX10_widest 33 = .ok (.istore 4, 2) := by decide +kernel
theorem dX10_widest_35 : decode cX10_widest 35 = .ok (.iload 4, 2) := by decide +kernel
theorem dX10_widest_37 : decode cX10_widest 37 = .ok (.bipush 36, 2) := by decide +kernel
theorem dX10_widest_39 : decode cX10_widest 39 = .ok (.if_icmp .ge 78, 3) := by decide +kernel
theorem dX10_widest_42 : decode cX10_widest 42 = .ok (.aload_n 0, 1) := by decide +kernel
theorem dX10_widest_43 : decode cX10_widest 43 = .ok (.getfield 52, 3) := by decide +kernel
theorem dX10_widest_46 : decode cX10_widest 46 = .ok (.iload 4, 2) := by decide +kernel
theorem dX10_widest_48 : decode cX10_widest 48 = .ok (.iaload, 1) := by decide +kernel
theorem dX10_widest_49 : decode cX10_widest 49 = .ok (.iload_n 2, 1) := by decide +kernel
theorem dX10_widest_50 : decode cX10_widest 50 = .ok (.if_icmp .ne 61, 3) := by decide +kernel
theorem dX10_widest_53 : decode cX10_widest 53 = .ok (.aload_n 0, 1) := by decide +kernel
theorem dX10_widest_54 : decode cX10_widest 54 = .ok (.iload 4, 2) := by decide +kernel
theorem dX10_widest_56 : decode cX10_widest 56 = .ok (.invokevirtual 170, 3) := by decide +kernel
theorem dX10_widest_59 : decode cX10_widest 59 = .ok (.iconst 0, 1) := by decide +kernel
theorem dX10_widest_60 : decode cX10_widest 60 = .ok (.istore 5, 2) := by decide +kernel
theorem dX10_widest_62 : decode cX10_widest 62 = .ok (.iload 5, 2) := by decide +kernel
theorem dX10_widest_64 : decode cX10_widest 64 = .ok (.bipush 36, 2) := by decide +kernel
theorem dX10_widest_66 : decode cX10_widest 66 = .ok (.if_icmp .ge 45, 3) := by decide +kernel
theorem dX10_widest_69 : decode cX10_widest 69 = .ok (.aload_n 0, 1) := by decide +kernel
theorem dX10_widest_70 : decode cX10_widest 70 = .ok (.getfield 39, 3) := by decide +kernel
theorem dX10_widest_73 : decode cX10_widest 73 = .ok (.iload 5, 2) := by decide +kernel
theorem dX10_widest_75 : decode cX10_widest 75 = .ok (.iaload, 1) := by decide +kernel
theorem dX10_widest_76 : decode cX10_widest 76 = .ok (.sipush 9999, 3) := by decide +kernel
theorem dX10_widest_79 : decode cX10_widest 79 = .ok (.if_icmp .ge 24, 3) := by decide +kernel
theorem dX10_widest_82 : decode cX10_widest 82 = .ok (.aload_n 0, 1) := by decide +kernel
theorem dX10_widest_83 : decode cX10_widest 83 = .ok (.getfield 39, 3) := by decide +kernel
theorem dX10_widest_86 : decode cX10_widest 86 = .ok (.iload 5, 2) := by decide +kernel
theorem dX10_widest_88 : decode cX10_widest 88 = .ok (.iaload, 1) := by decide +kernel
theorem dX10_widest_89 : decode cX10_widest 89 = .ok (.iload_n 3, 1) := by decide +kernel
theorem dX10_widest_90 : decode cX10_widest 90 = .ok (.if_icmp .le 13, 3) := by decide +kernel
theorem dX10_widest_93 : decode cX10_widest 93 = .ok (.aload_n 0, 1) := by decide +kernel
theorem dX10_widest_94 : decode cX10_widest 94 = .ok (.getfield 39, 3) := by decide +kernel
theorem dX10_widest_97 : decode cX10_widest 97 = .ok (.iload 5, 2) := by decide +kernel
theorem dX10_widest_99 : decode cX10_widest 99 = .ok (.iaload, 1) := by decide +kernel
theorem dX10_widest_100 : decode cX10_widest 100 = .ok (.goto 4, 3) := by decide +kernel
theorem dX10_widest_103 : decode cX10_widest 103 = .ok (.iload_n 3, 1) := by decide +kernel
theorem dX10_widest_104 : decode cX10_widest 104 = .ok (.istore_n 3, 1) := by decide +kernel
theorem dX10_widest_105 : decode cX10_widest 105 = .ok (.iinc 5 1, 3) := by decide +kernel
theorem dX10_widest_108 : decode cX10_widest 108 = .ok (.goto (-46), 3) := by decide +kernel
theorem dX10_widest_111 : decode cX10_widest 111 = .ok (.iinc 4 1, 3) := by decide +kernel
theorem dX10_widest_114 : decode cX10_widest 114 = .ok (.goto (-79), 3) := by decide +kernel
theorem dX10_widest_117 : decode cX10_widest 117 = .ok (.iload_n 3, 1) := by decide +kernel
theorem dX10_widest_118 : decode cX10_widest 118 = .ok (.ireturn, 1) := by decide +kernel
set_option maxRecDepth 20000 in
theorem ggX10_handStep_X10_isOpen : GoodIn wsX10_handStep wsX10_isOpen := goodIn_r _ [7, 8, 9, 10, 11, 12, 6, 13, 14, 15, 16, 17, 18, 19, 20, 21, 22, 23, 24, 25, 26, 27, 28, 29, 30, 31, 32, 33, 34, 35, 36, 37, 38, 39, 40, 41, 42, 43, 44, 45, 46, 47, 48, 49, 50, 51, 52] (by decide +kernel) (by decide +kernel)
set_option maxRecDepth 20000 in
theorem gX10_handStep_X10_isOpen : GoodIn wsX10_handStep (wsV RX10 160 RX10 yX10_isOpen wsX10_isOpen) := goodIn_app (goodIn_of _ (by decide +kernel)) ggX10_handStep_X10_isOpen
set_option maxRecDepth 20000 in
theorem ggX10_handStep_X10_beside : GoodIn wsX10_handStep wsX10_beside := goodIn_r _ [13, 14, 15, 16, 17, 6, 18, 19, 20, 21, 22, 23, 24, 25, 26, 27, 28, 29, 30, 31, 32, 33, 34, 35, 36, 37, 38, 39, 40, 41, 42, 43, 44, 45, 46, 47, 48, 49, 50, 51, 52] (by decide +kernel) (by decide +kernel)
set_option maxRecDepth 20000 in
theorem gX10_handStep_X10_beside : GoodIn wsX10_handStep (wsV RX10 113 RX10 yX10_beside wsX10_beside) := goodIn_app (goodIn_of _ (by decide +kernel)) ggX10_handStep_X10_beside
theorem dX10_handStep_0 : decode cX10_handStep 0 = .ok (.iload_n 1, 1) := by decide +kernel
theorem dX10_handStep_1 : decode cX10_handStep 1 = .ok (.ifCond .eq 7, 3) := by decide +kernel
theorem dX10_handStep_4 : decode cX10_handStep 4 = .ok (.iconst 1, 1) := by decide +kernel
theorem dX10_handStep_5 : decode cX10_handStep 5 = .ok (.goto 4, 3) := by decide +kernel
theorem dX10_handStep_8 : decode cX10_handStep 8 = .ok (.iconst 3, 1) := by decide +kernel
theorem dX10_handStep_9 : decode cX10_handStep 9 = .ok (.istore_n 2, 1) := by decide +kernel
theorem dX10_handStep_10 : decode cX10_handStep 10 = .ok (.iconst 0, 1) := by decide +kernel
theorem dX10_handStep_11 : decode cX10_handStep 11 = .ok (.istore_n 3, 1) := by decide +kernel
theorem dX10_handStep_12 : decode cX10_handStep 12 = .ok (.iload_n 3, 1) := by decide +kernel
theorem dX10_handStep_13 : decode cX10_handStep 13 = .ok (.iconst 4, 1) := by decide +kernel
theorem dX10_handStep_14 : decode cX10_handStep 14 = .ok (.if_icmp .ge 88, 3) := by decide +kernel
theorem dX10_handStep_17 : decode cX10_handStep 17 = .ok (.iload_n 3, 1) := by decide +kernel
theorem dX10_handStep_18 : decode cX10_handStep 18 = .ok (.iconst 3, 1) := by decide +kernel
theorem dX10_handStep_19 : decode cX10_handStep 19 = .ok (.if_icmp .ne 14, 3) := by decide +kernel
theorem dX10_handStep_22 : decode cX10_handStep 22 = .ok (.aload_n 0, 1) := by decide +kernel
theorem dX10_handStep_23 : decode cX10_handStep 23 = .ok (.getfield 203, 3) := by decide +kernel
theorem dX10_handStep_26 : decode cX10_handStep 26 = .ok (.iconst 2, 1) := by decide +kernel
theorem dX10_handStep_27 : decode cX10_handStep 27 = .ok (.iadd, 1) := by decide +kernel
theorem dX10_handStep_28 : decode cX10_handStep 28 = .ok (.iconst 4, 1) := by decide +kernel
theorem dX10_handStep_29 : decode cX10_handStep 29 = .ok (.irem, 1) := by decide +kernel
theorem dX10_handStep_30 : decode cX10_handStep 30 = .ok (.goto 30, 3) := by decide +kernel
theorem dX10_handStep_33 : decode cX10_handStep 33 = .ok (.aload_n 0, 1) := by decide +kernel
theorem dX10_handStep_34 : decode cX10_handStep 34 = .ok (.getfield 203, 3) := by decide +kernel
theorem dX10_handStep_37 : decode cX10_handStep 37 = .ok (.iload_n 3, 1) := by decide +kernel
theorem dX10_handStep_38 : decode cX10_handStep 38 = .ok (.ifCond .ne 7, 3) := by decide +kernel
theorem dX10_handStep_41 : decode cX10_handStep 41 = .ok (.iload_n 2, 1) := by decide +kernel
theorem dX10_handStep_42 : decode cX10_handStep 42 = .ok (.goto 15, 3) := by decide +kernel
theorem dX10_handStep_45 : decode cX10_handStep 45 = .ok (.iload_n 3, 1) := by decide +kernel
theorem dX10_handStep_46 : decode cX10_handStep 46 = .ok (.iconst 1, 1) := by decide +kernel
theorem dX10_handStep_47 : decode cX10_handStep 47 = .ok (.if_icmp .ne 7, 3) := by decide +kernel
theorem dX10_handStep_50 : decode cX10_handStep 50 = .ok (.iconst 0, 1) := by decide +kernel
theorem dX10_handStep_51 : decode cX10_handStep 51 = .ok (.goto 6, 3) := by decide +kernel
theorem dX10_handStep_54 : decode cX10_handStep 54 = .ok (.iconst 4, 1) := by decide +kernel
theorem dX10_handStep_55 : decode cX10_handStep 55 = .ok (.iload_n 2, 1) := by decide +kernel
theorem dX10_handStep_56 : decode cX10_handStep 56 = .ok (.isub, 1) := by decide +kernel
theorem dX10_handStep_57 : decode cX10_handStep 57 = .ok (.iadd, 1) := by decide +kernel
theorem dX10_handStep_58 : decode cX10_handStep 58 = .ok (.iconst 4, 1) := by decide +kernel
theorem dX10_handStep_59 : decode cX10_handStep 59 = .ok (.irem, 1) := by decide +kernel
theorem dX10_handStep_60 : decode cX10_handStep 60 = .ok (.istore 4, 2) := by decide +kernel
theorem dX10_handStep_62 : decode cX10_handStep 62 = .ok (.aload_n 0, 1) := by decide +kernel
theorem dX10_handStep_63 : decode cX10_handStep 63 = .ok (.aload_n 0, 1) := by decide +kernel
theorem dX10_handStep_64 : decode cX10_handStep 64 = .ok (.getfield 206, 3) := by decide +kernel
theorem dX10_handStep_67 : decode cX10_handStep 67 = .ok (.iload 4, 2) := by decide +kernel
theorem dX10_handStep_69 : decode cX10_handStep 69 = .ok (.invokevirtual 160, 3) := by decide +kernel
theorem dX10_handStep_72 : decode cX10_handStep 72 = .ok (.ifCond .eq 24, 3) := by decide +kernel
theorem dX10_handStep_75 : decode cX10_handStep 75 = .ok (.aload_n 0, 1) := by decide +kernel
theorem dX10_handStep_76 : decode cX10_handStep 76 = .ok (.iload 4, 2) := by decide +kernel
theorem dX10_handStep_78 : decode cX10_handStep 78 = .ok (.putfield 203, 3) := by decide +kernel
theorem dX10_handStep_81 : decode cX10_handStep 81 = .ok (.aload_n 0, 1) := by decide +kernel
theorem dX10_handStep_82 : decode cX10_handStep 82 = .ok (.aload_n 0, 1) := by decide +kernel
theorem dX10_handStep_83 : decode cX10_handStep 83 = .ok (.aload_n 0, 1) := by decide +kernel
theorem dX10_handStep_84 : decode cX10_handStep 84 = .ok (.getfield 206, 3) := by decide +kernel
theorem dX10_handStep_87 : decode cX10_handStep 87 = .ok (.iload 4, 2) := by decide +kernel
theorem dX10_handStep_89 : decode cX10_handStep 89 = .ok (.invokevirtual 113, 3) := by decide +kernel
theorem dX10_handStep_92 : decode cX10_handStep 92 = .ok (.putfield 206, 3) := by decide +kernel
theorem dX10_handStep_95 : decode cX10_handStep 95 = .ok (.return_, 1) := by decide +kernel
theorem dX10_handStep_96 : decode cX10_handStep 96 = .ok (.iinc 3 1, 3) := by decide +kernel
theorem dX10_handStep_99 : decode cX10_handStep 99 = .ok (.goto (-87), 3) := by decide +kernel
theorem dX10_handStep_102 : decode cX10_handStep 102 = .ok (.return_, 1) := by decide +kernel
set_option maxRecDepth 20000 in
theorem ggX10_hand_X10_isSide : GoodIn wsX10_hand wsX10_isSide := goodIn_r _ [9, 10, 11, 12, 8, 13] (by decide +kernel) (by decide +kernel)
set_option maxRecDepth 20000 in
theorem gX10_hand_X10_isSide : GoodIn wsX10_hand (va_wsS RX10 154 yX10_isSide wsX10_isSide) := goodIn_app (goodIn_of _ (by decide +kernel)) ggX10_hand_X10_isSide
set_option maxRecDepth 20000 in
theorem ggX10_hand_X10_handStep : GoodIn wsX10_hand wsX10_handStep := goodIn_r _ [17, 4, 3, 18, 19, 20, 8, 21, 22, 23, 24, 25, 26, 27, 28, 29, 11, 12, 13, 30, 31, 32, 33, 34, 35, 36, 37, 38, 39, 40, 41, 42, 43, 44, 45, 46, 47, 48, 49, 50, 51, 52, 53, 54, 55, 56, 57, 58, 59, 60, 61, 62, 63] (by decide +kernel) (by decide +kernel)
set_option maxRecDepth 20000 in
theorem gX10_hand_X10_handStep : GoodIn wsX10_hand (wsV RX10 209 RX10 yX10_handStep wsX10_handStep) := goodIn_app (goodIn_of _ (by decide +kernel)) ggX10_hand_X10_handStep
theorem dX10_hand_0 : decode cX10_hand 0 = .ok (.aload_n 0, 1) := by decide +kernel
theorem dX10_hand_1 : decode cX10_hand 1 = .ok (.iconst 0, 1) := by decide +kernel
theorem dX10_hand_2 : decode cX10_hand 2 = .ok (.putfield 79, 3) := by decide +kernel
theorem dX10_hand_5 : decode cX10_hand 5 = .ok (.iload_n 1, 1) := by decide +kernel
theorem dX10_hand_6 : decode cX10_hand 6 = .ok (.invokestatic 154, 3) := by decide +kernel
theorem dX10_hand_9 : decode cX10_hand 9 = .ok (.ifCond .ne 5, 3) := by decide +kernel
theorem dX10_hand_12 : decode cX10_hand 12 = .ok (.iconst (-1), 1) := by decide +kernel
theorem dX10_hand_13 : decode cX10_hand 13 = .ok (.ireturn, 1) := by decide +kernel
theorem dX10_hand_14 : decode cX10_hand 14 = .ok (.aload_n 0, 1) := by decide +kernel
theorem dX10_hand_15 : decode cX10_hand 15 = .ok (.aload_n 0, 1) := by decide +kernel
theorem dX10_hand_16 : decode cX10_hand 16 = .ok (.getfield 103, 3) := by decide +kernel
theorem dX10_hand_19 : decode cX10_hand 19 = .ok (.putfield 206, 3) := by decide +kernel
theorem dX10_hand_22 : decode cX10_hand 22 = .ok (.aload_n 0, 1) := by decide +kernel
theorem dX10_hand_23 : decode cX10_hand 23 = .ok (.iload_n 1, 1) := by decide +kernel
theorem dX10_hand_24 : decode cX10_hand 24 = .ok (.putfield 203, 3) := by decide +kernel
theorem dX10_hand_27 : decode cX10_hand 27 = .ok (.iconst 0, 1) := by decide +kernel
theorem dX10_hand_28 : decode cX10_hand 28 = .ok (.istore_n 3, 1) := by decide +kernel
theorem dX10_hand_29 : decode cX10_hand 29 = .ok (.iload_n 3, 1) := by decide +kernel
theorem dX10_hand_30 : decode cX10_hand 30 = .ok (.sipush 144, 3) := by decide +kernel
theorem dX10_hand_33 : decode cX10_hand 33 = .ok (.if_icmp .gt 27, 3) := by decide +kernel
theorem dX10_hand_36 : decode cX10_hand 36 = .ok (.aload_n 0, 1) := by decide +kernel
theorem dX10_hand_37 : decode cX10_hand 37 = .ok (.getfield 206, 3) := by decide +kernel
theorem dX10_hand_40 : decode cX10_hand 40 = .ok (.aload_n 0, 1) := by decide +kernel
theorem dX10_hand_41 : decode cX10_hand 41 = .ok (.getfield 106, 3) := by decide +kernel
theorem dX10_hand_44 : decode cX10_hand 44 = .ok (.if_icmp .ne 5, 3) := by decide +kernel
theorem dX10_hand_47 : decode cX10_hand 47 = .ok (.iload_n 3, 1) := by decide +kernel
theorem dX10_hand_48 : decode cX10_hand 48 = .ok (.ireturn, 1) := by decide +kernel
theorem dX10_hand_49 : decode cX10_hand 49 = .ok (.aload_n 0, 1) := by decide +kernel
theorem dX10_hand_50 : decode cX10_hand 50 = .ok (.iload_n 2, 1) := by decide +kernel
theorem dX10_hand_51 : decode cX10_hand 51 = .ok (.invokevirtual 209, 3) := by decide +kernel
theorem dX10_hand_54 : decode cX10_hand 54 = .ok (.iinc 3 1, 3) := by decide +kernel
theorem dX10_hand_57 : decode cX10_hand 57 = .ok (.goto (-28), 3) := by decide +kernel
theorem dX10_hand_60 : decode cX10_hand 60 = .ok (.bipush (-9), 2) := by decide +kernel
theorem dX10_hand_62 : decode cX10_hand 62 = .ok (.ireturn, 1) := by decide +kernel
set_option maxRecDepth 20000 in
theorem ggX10_handAt_X10_isSide : GoodIn wsX10_handAt wsX10_isSide := goodIn_r _ [9, 10, 11, 12, 8, 13] (by decide +kernel) (by decide +kernel)
set_option maxRecDepth 20000 in
theorem gX10_handAt_X10_isSide : GoodIn wsX10_handAt (va_wsS RX10 154 yX10_isSide wsX10_isSide) := goodIn_app (goodIn_of _ (by decide +kernel)) ggX10_handAt_X10_isSide
set_option maxRecDepth 20000 in
theorem ggX10_handAt_X10_in : GoodIn wsX10_handAt wsX10_in := goodIn_r _ [13] (by decide +kernel) (by decide +kernel)
set_option maxRecDepth 20000 in
theorem gX10_handAt_X10_in : GoodIn wsX10_handAt (va_wsS RX10 84 yX10_in wsX10_in) := goodIn_app (goodIn_of _ (by decide +kernel)) ggX10_handAt_X10_in
set_option maxRecDepth 20000 in
theorem ggX10_handAt_X10_handStep : GoodIn wsX10_handAt wsX10_handStep := goodIn_r _ [17, 5, 4, 18, 19, 20, 8, 21, 22, 23, 24, 25, 26, 27, 28, 29, 11, 12, 13, 33, 34, 35, 36, 37, 38, 39, 40, 41, 42, 43, 44, 45, 46, 47, 48, 49, 50, 51, 52, 53, 54, 55, 56, 57, 58, 59, 60, 61, 62, 63, 64, 65, 66] (by decide +kernel) (by decide +kernel)
set_option maxRecDepth 20000 in
theorem gX10_handAt_X10_handStep : GoodIn wsX10_handAt (wsV RX10 209 RX10 yX10_handStep wsX10_handStep) := goodIn_app (goodIn_of _ (by decide +kernel)) ggX10_handAt_X10_handStep
set_option maxRecDepth 20000 in
theorem ggX10_handAt_X10_code : GoodIn wsX10_handAt wsX10_code := goodIn_r _ [32] (by decide +kernel) (by decide +kernel)
set_option maxRecDepth 20000 in
theorem gX10_handAt_X10_code : GoodIn wsX10_handAt (va_wsS RX10 164 yX10_code wsX10_code) := goodIn_app (goodIn_of _ (by decide +kernel)) ggX10_handAt_X10_code
theorem dX10_handAt_0 : decode cX10_handAt 0 = .ok (.aload_n 0, 1) := by decide +kernel
theorem dX10_handAt_1 : decode cX10_handAt 1 = .ok (.iconst 0, 1) := by decide +kernel
theorem dX10_handAt_2 : decode cX10_handAt 2 = .ok (.putfield 79, 3) := by decide +kernel
theorem dX10_handAt_5 : decode cX10_handAt 5 = .ok (.iload_n 1, 1) := by decide +kernel
theorem dX10_handAt_6 : decode cX10_handAt 6 = .ok (.invokestatic 154, 3) := by decide +kernel
theorem dX10_handAt_9 : decode cX10_handAt 9 = .ok (.ifCond .ne 5, 3) := by decide +kernel
theorem dX10_handAt_12 : decode cX10_handAt 12 = .ok (.iconst (-1), 1) := by decide +kernel
theorem dX10_handAt_13 : decode cX10_handAt 13 = .ok (.ireturn, 1) := by decide +kernel
theorem dX10_handAt_14 : decode cX10_handAt 14 = .ok (.iload_n 3, 1) := by decide +kernel
theorem dX10_handAt_15 : decode cX10_handAt 15 = .ok (.i2l, 1) := by decide +kernel
theorem dX10_handAt_16 : decode cX10_handAt 16 = .ok (.lconst 0, 1) := by decide +kernel
theorem dX10_handAt_17 : decode cX10_handAt 17 = .ok (.ldc2_w 213, 3) := by decide +kernel
theorem dX10_handAt_20 : decode cX10_handAt 20 = .ok (.invokestatic 84, 3) := by decide +kernel
theorem dX10_handAt_23 : decode cX10_handAt 23 = .ok (.ifCond .ne 6, 3) := by decide +kernel
theorem dX10_handAt_26 : decode cX10_handAt 26 = .ok (.bipush (-2), 2) := by decide +kernel
theorem dX10_handAt_28 : decode cX10_handAt 28 = .ok (.ireturn, 1) := by decide +kernel
theorem dX10_handAt_29 : decode cX10_handAt 29 = .ok (.aload_n 0, 1) := by decide +kernel
theorem dX10_handAt_30 : decode cX10_handAt 30 = .ok (.aload_n 0, 1) := by decide +kernel
theorem dX10_handAt_31 : decode cX10_handAt 31 = .ok (.getfield 103, 3) := by decide +kernel
theorem dX10_handAt_34 : decode cX10_handAt 34 = .ok (.putfield 206, 3) := by decide +kernel
theorem dX10_handAt_37 : decode cX10_handAt 37 = .ok (.aload_n 0, 1) := by decide +kernel
theorem dX10_handAt_38 : decode cX10_handAt 38 = .ok (.iload_n 1, 1) := by decide +kernel
theorem dX10_handAt_39 : decode cX10_handAt 39 = .ok (.putfield 203, 3) := by decide +kernel
theorem dX10_handAt_42 : decode cX10_handAt 42 = .ok (.iconst 0, 1) := by decide +kernel
theorem dX10_handAt_43 : decode cX10_handAt 43 = .ok (.istore 4, 2) := by decide +kernel
theorem dX10_handAt_45 : decode cX10_handAt 45 = .ok (.iload 4, 2) := by decide +kernel
theorem dX10_handAt_47 : decode cX10_handAt 47 = .ok (.iload_n 3, 1) := by decide +kernel
theorem dX10_handAt_48 : decode cX10_handAt 48 = .ok (.if_icmp .ge 14, 3) := by decide +kernel
theorem dX10_handAt_51 : decode cX10_handAt 51 = .ok (.aload_n 0, 1) := by decide +kernel
theorem dX10_handAt_52 : decode cX10_handAt 52 = .ok (.iload_n 2, 1) := by decide +kernel
theorem dX10_handAt_53 : decode cX10_handAt 53 = .ok (.invokevirtual 209, 3) := by decide +kernel
theorem dX10_handAt_56 : decode cX10_handAt 56 = .ok (.iinc 4 1, 3) := by decide +kernel
theorem dX10_handAt_59 : decode cX10_handAt 59 = .ok (.goto (-14), 3) := by decide +kernel
theorem dX10_handAt_62 : decode cX10_handAt 62 = .ok (.aload_n 0, 1) := by decide +kernel
theorem dX10_handAt_63 : decode cX10_handAt 63 = .ok (.getfield 206, 3) := by decide +kernel
theorem dX10_handAt_66 : decode cX10_handAt 66 = .ok (.invokestatic 164, 3) := by decide +kernel
theorem dX10_handAt_69 : decode cX10_handAt 69 = .ok (.ireturn, 1) := by decide +kernel
set_option maxRecDepth 20000 in
theorem ggX10_goThread_X10_isOpen : GoodIn wsX10_goThread wsX10_isOpen := goodIn_r _ [11, 12, 13, 14, 15, 16, 10, 17, 18, 19, 20, 21, 22, 23, 24, 25, 26, 27, 28, 29, 30, 31, 32, 33, 34, 35, 36, 37, 38, 39, 40, 41, 42, 43, 44, 45, 46, 47, 48, 49, 50, 51, 52, 53, 54, 55, 56] (by decide +kernel) (by decide +kernel)
set_option maxRecDepth 20000 in
theorem gX10_goThread_X10_isOpen : GoodIn wsX10_goThread (wsV RX10 160 RX10 yX10_isOpen wsX10_isOpen) := goodIn_app (goodIn_of _ (by decide +kernel)) ggX10_goThread_X10_isOpen
set_option maxRecDepth 20000 in
theorem ggX10_goThread_X10_beside : GoodIn wsX10_goThread wsX10_beside := goodIn_r _ [17, 18, 19, 20, 21, 10, 22, 23, 24, 25, 26, 27, 28, 29, 30, 31, 32, 33, 34, 35, 36, 37, 38, 39, 40, 41, 42, 43, 44, 45, 46, 47, 48, 49, 50, 51, 52, 53, 54, 55, 56] (by decide +kernel) (by decide +kernel)
set_option maxRecDepth 20000 in
theorem gX10_goThread_X10_beside : GoodIn wsX10_goThread (wsV RX10 113 RX10 yX10_beside wsX10_beside) := goodIn_app (goodIn_of _ (by decide +kernel)) ggX10_goThread_X10_beside
theorem dX10_goThread_0 : decode cX10_goThread 0 = .ok (.iconst 0, 1) := by decide +kernel
theorem dX10_goThread_1 : decode cX10_goThread 1 = .ok (.istore_n 1, 1) := by decide +kernel
theorem dX10_goThread_2 : decode cX10_goThread 2 = .ok (.iload_n 1, 1) := by decide +kernel
theorem dX10_goThread_3 : decode cX10_goThread 3 = .ok (.bipush 36, 2) := by decide +kernel
theorem dX10_goThread_5 : decode cX10_goThread 5 = .ok (.if_icmp .ge 16, 3) := by decide +kernel
theorem dX10_goThread_8 : decode cX10_goThread 8 = .ok (.aload_n 0, 1) := by decide +kernel
theorem dX10_goThread_9 : decode cX10_goThread 9 = .ok (.getfield 58, 3) := by decide +kernel
theorem dX10_goThread_12 : decode cX10_goThread 12 = .ok (.iload_n 1, 1) := by decide +kernel
theorem dX10_goThread_13 : decode cX10_goThread 13 = .ok (.iconst 0, 1) := by decide +kernel
theorem dX10_goThread_14 : decode cX10_goThread 14 = .ok (.bastore, 1) := by decide +kernel
theorem dX10_goThread_15 : decode cX10_goThread 15 = .ok (.iinc 1 1, 3) := by decide +kernel
theorem dX10_goThread_18 : decode cX10_goThread 18 = .ok (.goto (-16), 3) := by decide +kernel
theorem dX10_goThread_21 : decode cX10_goThread 21 = .ok (.aload_n 0, 1) := by decide +kernel
theorem dX10_goThread_22 : decode cX10_goThread 22 = .ok (.aload_n 0, 1) := by decide +kernel
theorem dX10_goThread_23 : decode cX10_goThread 23 = .ok (.getfield 103, 3) := by decide +kernel
theorem dX10_goThread_26 : decode cX10_goThread 26 = .ok (.putfield 206, 3) := by decide +kernel
theorem dX10_goThread_29 : decode cX10_goThread 29 = .ok (.aload_n 0, 1) := by decide +kernel
theorem dX10_goThread_30 : decode cX10_goThread 30 = .ok (.getfield 58, 3) := by decide +kernel
theorem dX10_goThread_33 : decode cX10_goThread 33 = .ok (.aload_n 0, 1) := by decide +kernel
theorem dX10_goThread_34 : decode cX10_goThread 34 = .ok (.getfield 103, 3) := by decide +kernel
theorem dX10_goThread_37 : decode cX10_goThread 37 = .ok (.iconst 1, 1) := by decide +kernel
theorem dX10_goThread_38 : decode cX10_goThread 38 = .ok (.bastore, 1) := by decide +kernel
theorem dX10_goThread_39 : decode cX10_goThread 39 = .ok (.aload_n 0, 1) := by decide +kernel
theorem dX10_goThread_40 : decode cX10_goThread 40 = .ok (.getfield 55, 3) := by decide +kernel
theorem dX10_goThread_43 : decode cX10_goThread 43 = .ok (.aload_n 0, 1) := by decide +kernel
theorem dX10_goThread_44 : decode cX10_goThread 44 = .ok (.getfield 103, 3) := by decide +kernel
theorem dX10_goThread_47 : decode cX10_goThread 47 = .ok (.bipush (-9), 2) := by decide +kernel
theorem dX10_goThread_49 : decode cX10_goThread 49 = .ok (.iastore, 1) := by decide +kernel
theorem dX10_goThread_50 : decode cX10_goThread 50 = .ok (.aload_n 0, 1) := by decide +kernel
theorem dX10_goThread_51 : decode cX10_goThread 51 = .ok (.iconst 1, 1) := by decide +kernel
theorem dX10_goThread_52 : decode cX10_goThread 52 = .ok (.putfield 215, 3) := by decide +kernel
theorem dX10_goThread_55 : decode cX10_goThread 55 = .ok (.iconst 0, 1) := by decide +kernel
theorem dX10_goThread_56 : decode cX10_goThread 56 = .ok (.istore_n 1, 1) := by decide +kernel
theorem dX10_goThread_57 : decode cX10_goThread 57 = .ok (.aload_n 0, 1) := by decide +kernel
theorem dX10_goThread_58 : decode cX10_goThread 58 = .ok (.getfield 206, 3) := by decide +kernel
theorem dX10_goThread_61 : decode cX10_goThread 61 = .ok (.aload_n 0, 1) := by decide +kernel
theorem dX10_goThread_62 : decode cX10_goThread 62 = .ok (.getfield 106, 3) := by decide +kernel
theorem dX10_goThread_65 : decode cX10_goThread 65 = .ok (.if_icmp .eq 144, 3) := by decide +kernel
theorem dX10_goThread_68 : decode cX10_goThread 68 = .ok (.bipush (-9), 2) := by decide +kernel
theorem dX10_goThread_70 : decode cX10_goThread 70 = .ok (.istore_n 2, 1) := by decide +kernel
theorem dX10_goThread_71 : decode cX10_goThread 71 = .ok (.iconst 3, 1) := by decide +kernel
theorem dX10_goThread_72 : decode cX10_goThread 72 = .ok (.istore_n 3, 1) := by decide +kernel
theorem dX10_goThread_73 : decode cX10_goThread 73 = .ok (.iload_n 3, 1) := by decide +kernel
theorem dX10_goThread_74 : decode cX10_goThread 74 = .ok (.ifCond .lt 52, 3) := by decide +kernel
theorem dX10_goThread_77 : decode cX10_goThread 77 = .ok (.aload_n 0, 1) := by decide +kernel
theorem dX10_goThread_78 : decode cX10_goThread 78 = .ok (.aload_n 0, 1) := by decide +kernel
theorem dX10_goThread_79 : decode cX10_goThread 79 = .ok (.getfield 206, 3) := by decide +kernel
theorem dX10_goThread_82 : decode cX10_goThread 82 = .ok (.iload_n 3, 1) := by decide +kernel
theorem dX10_goThread_83 : decode cX10_goThread 83 = .ok (.invokevirtual 160, 3) := by decide +kernel
theorem dX10_goThread_86 : decode cX10_goThread 86 = .ok (.ifCond .eq 32, 3) := by decide +kernel
theorem dX10_goThread_89 : decode cX10_goThread 89 = .ok (.aload_n 0, 1) := by decide +kernel
theorem dX10_goThread_90 : decode cX10_goThread 90 = .ok (.getfield 58, 3) := by decide +kernel
theorem dX10_goThread_93 : decode cX10_goThread 93 = .ok (.aload_n 0, 1) := by decide +kernel
theorem dX10_goThread_94 : decode cX10_goThread 94 = .ok (.aload_n 0, 1) := by decide +kernel
theorem dX10_goThread_95 : decode cX10_goThread 95 = .ok (.getfield 206, 3) := by decide +kernel
theorem dX10_goThread_98 : decode cX10_goThread 98 = .ok (.iload_n 3, 1) := by decide +kernel
theorem dX10_goThread_99 : decode cX10_goThread 99 = .ok (.invokevirtual 113, 3) := by decide +kernel
theorem dX10_goThread_102 : decode cX10_goThread 102 = .ok (.baload, 1) := by decide +kernel
theorem dX10_goThread_103 : decode cX10_goThread 103 = .ok (.ifCond .ne 15, 3) := by decide +kernel
theorem dX10_goThread_106 : decode cX10_goThread 106 = .ok (.aload_n 0, 1) := by decide +kernel
theorem dX10_goThread_107 : decode cX10_goThread 107 = .ok (.aload_n 0, 1) := by decide +kernel
theorem dX10_goThread_108 : decode cX10_goThread 108 = .ok (.getfield 206, 3) := by decide +kernel
theorem dX10_goThread_111 : decode cX10_goThread 111 = .ok (.iload_n 3, 1) := by decide +kernel
theorem dX10_goThread_112 : decode cX10_goThread 112 = .ok (.invokevirtual 113, 3) := by decide +kernel
theorem dX10_goThread_115 : decode cX10_goThread 115 = .ok (.goto 4, 3) := by decide +kernel
theorem dX10_goThread_118 : decode cX10_goThread 118 = .ok (.iload_n 2, 1) := by decide +kernel
theorem dX10_goThread_119 : decode cX10_goThread 119 = .ok (.istore_n 2, 1) := by decide +kernel
theorem dX10_goThread_120 : decode cX10_goThread 120 = .ok (.iinc 3 (-1), 3) := by decide +kernel
theorem dX10_goThread_123 : decode cX10_goThread 123 = .ok (.goto (-50), 3) := by decide +kernel
theorem dX10_goThread_126 : decode cX10_goThread 126 = .ok (.iload_n 2, 1) := by decide +kernel
theorem dX10_goThread_127 : decode cX10_goThread 127 = .ok (.bipush (-9), 2) := by decide +kernel
theorem dX10_goThread_129 : decode cX10_goThread 129 = .ok (.if_icmp .ne 20, 3) := by decide +kernel
theorem dX10_goThread_132 : decode cX10_goThread 132 = .ok (.aload_n 0, 1) := by decide +kernel
theorem dX10_goThread_133 : decode cX10_goThread 133 = .ok (.getfield 55, 3) := by decide +kernel
theorem dX10_goThread_136 : decode cX10_goThread 136 = .ok (.aload_n 0, 1) := by decide +kernel
theorem dX10_goThread_137 : decode cX10_goThread 137 = .ok (.getfield 206, 3) := by decide +kernel
theorem dX10_goThread_140 : decode cX10_goThread 140 = .ok (.iaload, 1) := by decide +kernel
theorem dX10_goThread_141 : decode cX10_goThread 141 = .ok (.bipush (-9), 2) := by decide +kernel
theorem dX10_goThread_143 : decode cX10_goThread 143 = .ok (.if_icmp .ne 6, 3) := by decide +kernel
theorem dX10_goThread_146 : decode cX10_goThread 146 = .ok (.bipush (-9), 2) := by decide +kernel
theorem dX10_goThread_148 : decode cX10_goThread 148 = .ok (.ireturn, 1) := by decide +kernel
theorem dX10_goThread_149 : decode cX10_goThread 149 = .ok (.iload_n 2, 1) := by decide +kernel
theorem dX10_goThread_150 : decode cX10_goThread 150 = .ok (.bipush (-9), 2) := by decide +kernel
theorem dX10_goThread_152 : decode cX10_goThread 152 = .ok (.if_icmp .ne 19, 3) := by decide +kernel
theorem dX10_goThread_155 : decode cX10_goThread 155 = .ok (.aload_n 0, 1) := by decide +kernel
theorem dX10_goThread_156 : decode cX10_goThread 156 = .ok (.aload_n 0, 1) := by decide +kernel
theorem dX10_goThread_157 : decode cX10_goThread 157 = .ok (.getfield 55, 3) := by decide +kernel
theorem dX10_goThread_160 : decode cX10_goThread 160 = .ok (.aload_n 0, 1) := by decide +kernel
theorem dX10_goThread_161 : decode cX10_goThread 161 = .ok (.getfield 206, 3) := by decide +kernel
theorem dX10_goThread_164 : decode cX10_goThread 164 = .ok (.iaload, 1) := by decide +kernel
theorem dX10_goThread_165 : decode cX10_goThread 165 = .ok (.putfield 206, 3) := by decide +kernel
theorem dX10_goThread_168 : decode cX10_goThread 168 = .ok (.goto 35, 3) := by decide +kernel
theorem dX10_goThread_171 : decode cX10_goThread 171 = .ok (.aload_n 0, 1) := by decide +kernel
theorem dX10_goThread_172 : decode cX10_goThread 172 = .ok (.getfield 55, 3) := by decide +kernel
theorem dX10_goThread_175 : decode cX10_goThread 175 = .ok (.iload_n 2, 1) := by decide +kernel
theorem dX10_goThread_176 : decode cX10_goThread 176 = .ok (.aload_n 0, 1) := by decide +kernel
theorem dX10_goThread_177 : decode cX10_goThread 177 = .ok (.getfield 206, 3) := by decide +kernel
theorem dX10_goThread_180 : decode cX10_goThread 180 = .ok (.iastore, 1) := by decide +kernel
theorem dX10_goThread_181 : decode cX10_goThread 181 = .ok (.aload_n 0, 1) := by decide +kernel
theorem dX10_goThread_182 : decode cX10_goThread 182 = .ok (.getfield 58, 3) := by decide +kernel
theorem dX10_goThread_185 : decode cX10_goThread 185 = .ok (.iload_n 2, 1) := by decide +kernel
theorem dX10_goThread_186 : decode cX10_goThread 186 = .ok (.iconst 1, 1) := by decide +kernel
theorem dX10_goThread_187 : decode cX10_goThread 187 = .ok (.bastore, 1) := by decide +kernel
theorem dX10_goThread_188 : decode cX10_goThread 188 = .ok (.aload_n 0, 1) := by decide +kernel
theorem dX10_goThread_189 : decode cX10_goThread 189 = .ok (.dup, 1) := by decide +kernel
theorem dX10_goThread_190 : decode cX10_goThread 190 = .ok (.getfield 215, 3) := by decide +kernel
theorem dX10_goThread_193 : decode cX10_goThread 193 = .ok (.iconst 1, 1) := by decide +kernel
theorem dX10_goThread_194 : decode cX10_goThread 194 = .ok (.iadd, 1) := by decide +kernel
theorem dX10_goThread_195 : decode cX10_goThread 195 = .ok (.putfield 215, 3) := by decide +kernel
theorem dX10_goThread_198 : decode cX10_goThread 198 = .ok (.aload_n 0, 1) := by decide +kernel
theorem dX10_goThread_199 : decode cX10_goThread 199 = .ok (.iload_n 2, 1) := by decide +kernel
theorem dX10_goThread_200 : decode cX10_goThread 200 = .ok (.putfield 206, 3) := by decide +kernel
theorem dX10_goThread_203 : decode cX10_goThread 203 = .ok (.iinc 1 1, 3) := by decide +kernel
theorem dX10_goThread_206 : decode cX10_goThread 206 = .ok (.goto (-149), 3) := by decide +kernel
theorem dX10_goThread_209 : decode cX10_goThread 209 = .ok (.iload_n 1, 1) := by decide +kernel
theorem dX10_goThread_210 : decode cX10_goThread 210 = .ok (.ireturn, 1) := by decide +kernel
set_option maxRecDepth 20000 in
theorem ggX10_thread_X10_goThread : GoodIn wsX10_thread wsX10_goThread := goodIn_r _ [6, 7, 8, 9, 10, 11, 12, 13, 14, 15, 5, 16, 17, 18, 19, 20, 21, 22, 23, 24, 25, 26, 27, 28, 29, 30, 31, 32, 33, 34, 35, 36, 37, 38, 39, 40, 41, 42, 43, 44, 45, 46, 47, 48, 49, 50, 51, 52, 53, 54, 55, 56, 57, 58, 59, 60, 61] (by decide +kernel) (by decide +kernel)
set_option maxRecDepth 20000 in
theorem gX10_thread_X10_goThread : GoodIn wsX10_thread (wsV RX10 218 RX10 yX10_goThread wsX10_goThread) := goodIn_app (goodIn_of _ (by decide +kernel)) ggX10_thread_X10_goThread
theorem dX10_thread_0 : decode cX10_thread 0 = .ok (.aload_n 0, 1) := by decide +kernel
theorem dX10_thread_1 : decode cX10_thread 1 = .ok (.iconst 0, 1) := by decide +kernel
theorem dX10_thread_2 : decode cX10_thread 2 = .ok (.putfield 79, 3) := by decide +kernel
theorem dX10_thread_5 : decode cX10_thread 5 = .ok (.aload_n 0, 1) := by decide +kernel
theorem dX10_thread_6 : decode cX10_thread 6 = .ok (.invokevirtual 218, 3) := by decide +kernel
theorem dX10_thread_9 : decode cX10_thread 9 = .ok (.ireturn, 1) := by decide +kernel
set_option maxRecDepth 20000 in
theorem ggX10_seen_X10_goThread : GoodIn wsX10_seen wsX10_goThread := goodIn_r _ [7, 8, 9, 10, 11, 2, 12, 13, 14, 15, 6, 16, 17, 18, 19, 20, 21, 22, 23, 24, 25, 26, 27, 28, 29, 30, 31, 32, 33, 34, 35, 36, 37, 38, 39, 40, 41, 42, 43, 44, 45, 46, 47, 48, 49, 50, 51, 52, 53, 54, 55, 56, 57, 58, 59, 60, 61] (by decide +kernel) (by decide +kernel)
set_option maxRecDepth 20000 in
theorem gX10_seen_X10_goThread : GoodIn wsX10_seen (wsV RX10 218 RX10 yX10_goThread wsX10_goThread) := goodIn_app (goodIn_of _ (by decide +kernel)) ggX10_seen_X10_goThread
theorem dX10_seen_0 : decode cX10_seen 0 = .ok (.aload_n 0, 1) := by decide +kernel
theorem dX10_seen_1 : decode cX10_seen 1 = .ok (.iconst 0, 1) := by decide +kernel
theorem dX10_seen_2 : decode cX10_seen 2 = .ok (.putfield 79, 3) := by decide +kernel
theorem dX10_seen_5 : decode cX10_seen 5 = .ok (.aload_n 0, 1) := by decide +kernel
theorem dX10_seen_6 : decode cX10_seen 6 = .ok (.invokevirtual 218, 3) := by decide +kernel
theorem dX10_seen_9 : decode cX10_seen 9 = .ok (.pop, 1) := by decide +kernel
theorem dX10_seen_10 : decode cX10_seen 10 = .ok (.aload_n 0, 1) := by decide +kernel
theorem dX10_seen_11 : decode cX10_seen 11 = .ok (.getfield 215, 3) := by decide +kernel
theorem dX10_seen_14 : decode cX10_seen 14 = .ok (.ireturn, 1) := by decide +kernel
set_option maxRecDepth 20000 in
theorem ggX10_layMembers_X10_layParts : GoodIn wsX10_layMembers wsX10_layParts := goodIn_r _ [8, 1, 9, 10, 11, 12, 7, 13, 14, 15, 16, 17, 18, 19, 20, 21, 22, 23, 24, 25, 26, 27, 28, 29, 30, 31, 32, 33, 34, 35, 36, 37, 38, 39, 40, 41, 42, 43, 44, 45, 46, 47, 48, 49, 50, 51, 52, 53, 54, 55, 56, 57, 58, 59, 60, 61, 62, 63, 64, 65, 66, 67, 68] (by decide +kernel) (by decide +kernel)
set_option maxRecDepth 20000 in
theorem gX10_layMembers_X10_layParts : GoodIn wsX10_layMembers (wsV RX10 133 RX10 yX10_layParts wsX10_layParts) := goodIn_app (goodIn_of _ (by decide +kernel)) ggX10_layMembers_X10_layParts
theorem dX10_layMembers_0 : decode cX10_layMembers 0 = .ok (.aload_n 0, 1) := by decide +kernel
theorem dX10_layMembers_1 : decode cX10_layMembers 1 = .ok (.invokevirtual 133, 3) := by decide +kernel
theorem dX10_layMembers_4 : decode cX10_layMembers 4 = .ok (.pop, 1) := by decide +kernel
theorem dX10_layMembers_5 : decode cX10_layMembers 5 = .ok (.aload_n 0, 1) := by decide +kernel
theorem dX10_layMembers_6 : decode cX10_layMembers 6 = .ok (.getfield 52, 3) := by decide +kernel
theorem dX10_layMembers_9 : decode cX10_layMembers 9 = .ok (.iload_n 1, 1) := by decide +kernel
theorem dX10_layMembers_10 : decode cX10_layMembers 10 = .ok (.iaload, 1) := by decide +kernel
theorem dX10_layMembers_11 : decode cX10_layMembers 11 = .ok (.istore_n 3, 1) := by decide +kernel
theorem dX10_layMembers_12 : decode cX10_layMembers 12 = .ok (.iconst 0, 1) := by decide +kernel
theorem dX10_layMembers_13 : decode cX10_layMembers 13 = .ok (.istore 4, 2) := by decide +kernel
theorem dX10_layMembers_15 : decode cX10_layMembers 15 = .ok (.iconst 0, 1) := by decide +kernel
theorem dX10_layMembers_16 : decode cX10_layMembers 16 = .ok (.istore 5, 2) := by decide +kernel
theorem dX10_layMembers_18 : decode cX10_layMembers 18 = .ok (.iload 5, 2) := by decide +kernel
theorem dX10_layMembers_20 : decode cX10_layMembers 20 = .ok (.bipush 36, 2) := by decide +kernel
theorem dX10_layMembers_22 : decode cX10_layMembers 22 = .ok (.if_icmp .ge 56, 3) := by decide +kernel
theorem dX10_layMembers_25 : decode cX10_layMembers 25 = .ok (.aload_n 0, 1) := by decide +kernel
theorem dX10_layMembers_26 : decode cX10_layMembers 26 = .ok (.getfield 67, 3) := by decide +kernel
theorem dX10_layMembers_29 : decode cX10_layMembers 29 = .ok (.iload 5, 2) := by decide +kernel
theorem dX10_layMembers_31 : decode cX10_layMembers 31 = .ok (.bipush (-9), 2) := by decide +kernel
theorem dX10_layMembers_33 : decode cX10_layMembers 33 = .ok (.iastore, 1) := by decide +kernel
theorem dX10_layMembers_34 : decode cX10_layMembers 34 = .ok (.aload_n 0, 1) := by decide +kernel
theorem dX10_layMembers_35 : decode cX10_layMembers 35 = .ok (.getfield 52, 3) := by decide +kernel
theorem dX10_layMembers_38 : decode cX10_layMembers 38 = .ok (.iload 5, 2) := by decide +kernel
theorem dX10_layMembers_40 : decode cX10_layMembers 40 = .ok (.iaload, 1) := by decide +kernel
theorem dX10_layMembers_41 : decode cX10_layMembers 41 = .ok (.iload_n 3, 1) := by decide +kernel
theorem dX10_layMembers_42 : decode cX10_layMembers 42 = .ok (.if_icmp .ne 30, 3) := by decide +kernel
theorem dX10_layMembers_45 : decode cX10_layMembers 45 = .ok (.iload 5, 2) := by decide +kernel
theorem dX10_layMembers_47 : decode cX10_layMembers 47 = .ok (.iload_n 2, 1) := by decide +kernel
theorem dX10_layMembers_48 : decode cX10_layMembers 48 = .ok (.if_icmp .eq 24, 3) := by decide +kernel
theorem dX10_layMembers_51 : decode cX10_layMembers 51 = .ok (.aload_n 0, 1) := by decide +kernel
theorem dX10_layMembers_52 : decode cX10_layMembers 52 = .ok (.getfield 64, 3) := by decide +kernel
theorem dX10_layMembers_55 : decode cX10_layMembers 55 = .ok (.iload 4, 2) := by decide +kernel
theorem dX10_layMembers_57 : decode cX10_layMembers 57 = .ok (.iload 5, 2) := by decide +kernel
theorem dX10_layMembers_59 : decode cX10_layMembers 59 = .ok (.iastore, 1) := by decide +kernel
theorem dX10_layMembers_60 : decode cX10_layMembers 60 = .ok (.aload_n 0, 1) := by decide +kernel
theorem dX10_layMembers_61 : decode cX10_layMembers 61 = .ok (.getfield 67, 3) := by decide +kernel
theorem dX10_layMembers_64 : decode cX10_layMembers 64 = .ok (.iload 5, 2) := by decide +kernel
theorem dX10_layMembers_66 : decode cX10_layMembers 66 = .ok (.iload 4, 2) := by decide +kernel
theorem dX10_layMembers_68 : decode cX10_layMembers 68 = .ok (.iastore, 1) := by decide +kernel
theorem dX10_layMembers_69 : decode cX10_layMembers 69 = .ok (.iinc 4 1, 3) := by decide +kernel
theorem dX10_layMembers_72 : decode cX10_layMembers 72 = .ok (.iinc 5 1, 3) := by decide +kernel
theorem dX10_layMembers_75 : decode cX10_layMembers 75 = .ok (.goto (-57), 3) := by decide +kernel
theorem dX10_layMembers_78 : decode cX10_layMembers 78 = .ok (.iload 4, 2) := by decide +kernel
theorem dX10_layMembers_80 : decode cX10_layMembers 80 = .ok (.ireturn, 1) := by decide +kernel
set_option maxRecDepth 20000 in
theorem ggX10_layMatrix_X10_neighbours : GoodIn wsX10_layMatrix wsX10_neighbours := goodIn_r _ [8, 9, 10, 11, 7, 12, 13, 14, 15, 16, 17, 18, 19, 20, 21, 22, 23, 24, 25, 26, 27, 28, 29, 30, 31, 32, 33, 34, 35, 36, 37, 38, 39, 40, 41, 42, 43, 44, 45, 46, 47, 48, 49, 50, 51, 52, 53, 54, 55, 56, 57] (by decide +kernel) (by decide +kernel)
set_option maxRecDepth 20000 in
theorem gX10_layMatrix_X10_neighbours : GoodIn wsX10_layMatrix (wsV RX10 183 RX10 yX10_neighbours wsX10_neighbours) := goodIn_app (goodIn_of _ (by decide +kernel)) ggX10_layMatrix_X10_neighbours
set_option maxRecDepth 20000 in
theorem ggX10_layMatrix_X10_isOpen : GoodIn wsX10_layMatrix wsX10_isOpen := goodIn_r _ [12, 13, 14, 15, 16, 17, 7, 18, 19, 20, 21, 22, 23, 24, 25, 26, 27, 28, 29, 30, 31, 32, 33, 34, 35, 36, 37, 38, 39, 40, 41, 42, 43, 44, 45, 46, 47, 48, 49, 50, 51, 52, 53, 54, 55, 56, 57] (by decide +kernel) (by decide +kernel)
set_option maxRecDepth 20000 in
theorem gX10_layMatrix_X10_isOpen : GoodIn wsX10_layMatrix (wsV RX10 160 RX10 yX10_isOpen wsX10_isOpen) := goodIn_app (goodIn_of _ (by decide +kernel)) ggX10_layMatrix_X10_isOpen
set_option maxRecDepth 20000 in
theorem ggX10_layMatrix_X10_beside : GoodIn wsX10_layMatrix wsX10_beside := goodIn_r _ [18, 19, 20, 21, 22, 7, 23, 24, 25, 26, 27, 28, 29, 30, 31, 32, 33, 34, 35, 36, 37, 38, 39, 40, 41, 42, 43, 44, 45, 46, 47, 48, 49, 50, 51, 52, 53, 54, 55, 56, 57] (by decide +kernel) (by decide +kernel)
set_option maxRecDepth 20000 in
theorem gX10_layMatrix_X10_beside : GoodIn wsX10_layMatrix (wsV RX10 113 RX10 yX10_beside wsX10_beside) := goodIn_app (goodIn_of _ (by decide +kernel)) ggX10_layMatrix_X10_beside
theorem dX10_layMatrix_0 : decode cX10_layMatrix 0 = .ok (.iconst 0, 1) := by decide +kernel
theorem dX10_layMatrix_1 : decode cX10_layMatrix 1 = .ok (.istore_n 2, 1) := by decide +kernel
theorem dX10_layMatrix_2 : decode cX10_layMatrix 2 = .ok (.iload_n 2, 1) := by decide +kernel
theorem dX10_layMatrix_3 : decode cX10_layMatrix 3 = .ok (.sipush 256, 3) := by decide +kernel
theorem dX10_layMatrix_6 : decode cX10_layMatrix 6 = .ok (.if_icmp .ge 16, 3) := by decide +kernel
theorem dX10_layMatrix_9 : decode cX10_layMatrix 9 = .ok (.aload_n 0, 1) := by decide +kernel
theorem dX10_layMatrix_10 : decode cX10_layMatrix 10 = .ok (.getfield 61, 3) := by decide +kernel
theorem dX10_layMatrix_13 : decode cX10_layMatrix 13 = .ok (.iload_n 2, 1) := by decide +kernel
theorem dX10_layMatrix_14 : decode cX10_layMatrix 14 = .ok (.lconst 0, 1) := by decide +kernel
theorem dX10_layMatrix_15 : decode cX10_layMatrix 15 = .ok (.lastore, 1) := by decide +kernel
theorem dX10_layMatrix_16 : decode cX10_layMatrix 16 = .ok (.iinc 2 1, 3) := by decide +kernel
theorem dX10_layMatrix_19 : decode cX10_layMatrix 19 = .ok (.goto (-17), 3) := by decide +kernel
theorem dX10_layMatrix_22 : decode cX10_layMatrix 22 = .ok (.iconst 0, 1) := by decide +kernel
theorem dX10_layMatrix_23 : decode cX10_layMatrix 23 = .ok (.istore_n 2, 1) := by decide +kernel
theorem dX10_layMatrix_24 : decode cX10_layMatrix 24 = .ok (.iload_n 2, 1) := by decide +kernel
theorem dX10_layMatrix_25 : decode cX10_layMatrix 25 = .ok (.iload_n 1, 1) := by decide +kernel
theorem dX10_layMatrix_26 : decode cX10_layMatrix 26 = .ok (.if_icmp .ge 117, 3) := by decide +kernel
theorem dX10_layMatrix_29 : decode cX10_layMatrix 29 = .ok (.aload_n 0, 1) := by decide +kernel
theorem dX10_layMatrix_30 : decode cX10_layMatrix 30 = .ok (.getfield 64, 3) := by decide +kernel
theorem dX10_layMatrix_33 : decode cX10_layMatrix 33 = .ok (.iload_n 2, 1) := by decide +kernel
theorem dX10_layMatrix_34 : decode cX10_layMatrix 34 = .ok (.iaload, 1) := by decide +kernel
theorem dX10_layMatrix_35 : decode cX10_layMatrix 35 = .ok (.istore_n 3, 1) := by decide +kernel
theorem dX10_layMatrix_36 : decode cX10_layMatrix 36 = .ok (.aload_n 0, 1) := by decide +kernel
theorem dX10_layMatrix_37 : decode cX10_layMatrix 37 = .ok (.getfield 61, 3) := by decide +kernel
theorem dX10_layMatrix_40 : decode cX10_layMatrix 40 = .ok (.bipush 16, 2) := by decide +kernel
theorem dX10_layMatrix_42 : decode cX10_layMatrix 42 = .ok (.iload_n 2, 1) := by decide +kernel
theorem dX10_layMatrix_43 : decode cX10_layMatrix 43 = .ok (.imul, 1) := by decide +kernel
theorem dX10_layMatrix_44 : decode cX10_layMatrix 44 = .ok (.iload_n 2, 1) := by decide +kernel
theorem dX10_layMatrix_45 : decode cX10_layMatrix 45 = .ok (.iadd, 1) := by decide +kernel
theorem dX10_layMatrix_46 : decode cX10_layMatrix 46 = .ok (.aload_n 0, 1) := by decide +kernel
theorem dX10_layMatrix_47 : decode cX10_layMatrix 47 = .ok (.iload_n 3, 1) := by decide +kernel
theorem dX10_layMatrix_48 : decode cX10_layMatrix 48 = .ok (.invokevirtual 183, 3) := by decide +kernel
theorem dX10_layMatrix_51 : decode cX10_layMatrix 51 = .ok (.i2l, 1) := by decide +kernel
theorem dX10_layMatrix_52 : decode cX10_layMatrix 52 = .ok (.lastore, 1) := by decide +kernel
theorem dX10_layMatrix_53 : decode cX10_layMatrix 53 = .ok (.aload_n 0, 1) := by decide +kernel
theorem dX10_layMatrix_54 : decode cX10_layMatrix 54 = .ok (.getfield 61, 3) := by decide +kernel
theorem dX10_layMatrix_57 : decode cX10_layMatrix 57 = .ok (.bipush 16, 2) := by decide +kernel
theorem dX10_layMatrix_59 : decode cX10_layMatrix 59 = .ok (.iload_n 2, 1) := by decide +kernel
theorem dX10_layMatrix_60 : decode cX10_layMatrix 60 = .ok (.imul, 1) := by decide +kernel
theorem dX10_layMatrix_61 : decode cX10_layMatrix 61 = .ok (.iload_n 1, 1) := by decide +kernel
theorem dX10_layMatrix_62 : decode cX10_layMatrix 62 = .ok (.iadd, 1) := by decide +kernel
theorem dX10_layMatrix_63 : decode cX10_layMatrix 63 = .ok (.aload_n 0, 1) := by decide +kernel
theorem dX10_layMatrix_64 : decode cX10_layMatrix 64 = .ok (.iload_n 3, 1) := by decide +kernel
theorem dX10_layMatrix_65 : decode cX10_layMatrix 65 = .ok (.invokevirtual 183, 3) := by decide +kernel
theorem dX10_layMatrix_68 : decode cX10_layMatrix 68 = .ok (.i2l, 1) := by decide +kernel
theorem dX10_layMatrix_69 : decode cX10_layMatrix 69 = .ok (.lastore, 1) := by decide +kernel
theorem dX10_layMatrix_70 : decode cX10_layMatrix 70 = .ok (.iconst 0, 1) := by decide +kernel
theorem dX10_layMatrix_71 : decode cX10_layMatrix 71 = .ok (.istore 4, 2) := by decide +kernel
theorem dX10_layMatrix_73 : decode cX10_layMatrix 73 = .ok (.iload 4, 2) := by decide +kernel
theorem dX10_layMatrix_75 : decode cX10_layMatrix 75 = .ok (.iconst 4, 1) := by decide +kernel
theorem dX10_layMatrix_76 : decode cX10_layMatrix 76 = .ok (.if_icmp .ge 61, 3) := by decide +kernel
theorem dX10_layMatrix_79 : decode cX10_layMatrix 79 = .ok (.aload_n 0, 1) := by decide +kernel
theorem dX10_layMatrix_80 : decode cX10_layMatrix 80 = .ok (.iload_n 3, 1) := by decide +kernel
theorem dX10_layMatrix_81 : decode cX10_layMatrix 81 = .ok (.iload 4, 2) := by decide +kernel
theorem dX10_layMatrix_83 : decode cX10_layMatrix 83 = .ok (.invokevirtual 160, 3) := by decide +kernel
theorem dX10_layMatrix_86 : decode cX10_layMatrix 86 = .ok (.ifCond .eq 18, 3) := by decide +kernel
theorem dX10_layMatrix_89 : decode cX10_layMatrix 89 = .ok (.aload_n 0, 1) := by decide +kernel
theorem dX10_layMatrix_90 : decode cX10_layMatrix 90 = .ok (.getfield 67, 3) := by decide +kernel
theorem dX10_layMatrix_93 : decode cX10_layMatrix 93 = .ok (.aload_n 0, 1) := by decide +kernel
theorem dX10_layMatrix_94 : decode cX10_layMatrix 94 = .ok (.iload_n 3, 1) := by decide +kernel
theorem dX10_layMatrix_95 : decode cX10_layMatrix 95 = .ok (.iload 4, 2) := by decide +kernel
theorem dX10_layMatrix_97 : decode cX10_layMatrix 97 = .ok (.invokevirtual 113, 3) := by decide +kernel
theorem dX10_layMatrix_100 : decode cX10_layMatrix 100 = .ok (.iaload, 1) := by decide +kernel
theorem dX10_layMatrix_101 : decode cX10_layMatrix 101 = .ok (.goto 5, 3) := by decide +kernel
theorem dX10_layMatrix_104 : decode cX10_layMatrix 104 = .ok (.bipush (-9), 2) := by decide +kernel
theorem dX10_layMatrix_106 : decode cX10_layMatrix 106 = .ok (.istore 5, 2) := by decide +kernel
theorem dX10_layMatrix_108 : decode cX10_layMatrix 108 = .ok (.iload 5, 2) := by decide +kernel
theorem dX10_layMatrix_110 : decode cX10_layMatrix 110 = .ok (.bipush (-9), 2) := by decide +kernel
theorem dX10_layMatrix_112 : decode cX10_layMatrix 112 = .ok (.if_icmp .eq 19, 3) := by decide +kernel
theorem dX10_layMatrix_115 : decode cX10_layMatrix 115 = .ok (.aload_n 0, 1) := by decide +kernel
theorem dX10_layMatrix_116 : decode cX10_layMatrix 116 = .ok (.getfield 61, 3) := by decide +kernel
theorem dX10_layMatrix_119 : decode cX10_layMatrix 119 = .ok (.bipush 16, 2) := by decide +kernel
theorem dX10_layMatrix_121 : decode cX10_layMatrix 121 = .ok (.iload_n 2, 1) := by decide +kernel
theorem dX10_layMatrix_122 : decode cX10_layMatrix 122 = .ok (.imul, 1) := by decide +kernel
theorem dX10_layMatrix_123 : decode cX10_layMatrix 123 = .ok (.iload 5, 2) := by decide +kernel
theorem dX10_layMatrix_125 : decode cX10_layMatrix 125 = .ok (.iadd, 1) := by decide +kernel
theorem dX10_layMatrix_126 : decode cX10_layMatrix 126 = .ok (.dup2, 1) := by decide +kernel
theorem dX10_layMatrix_127 : decode cX10_layMatrix 127 = .ok (.laload, 1) := by decide +kernel
theorem dX10_layMatrix_128 : decode cX10_layMatrix 128 = .ok (.lconst 1, 1) := by decide +kernel
theorem dX10_layMatrix_129 : decode cX10_layMatrix 129 = .ok (.lsub, 1) := by decide +kernel
theorem dX10_layMatrix_130 : decode cX10_layMatrix 130 = .ok (.lastore, 1) := by decide +kernel
theorem dX10_layMatrix_131 : decode cX10_layMatrix 131 = .ok (.iinc 4 1, 3) := by decide +kernel
theorem dX10_layMatrix_134 : decode cX10_layMatrix 134 = .ok (.goto (-61), 3) := by decide +kernel
theorem dX10_layMatrix_137 : decode cX10_layMatrix 137 = .ok (.iinc 2 1, 3) := by decide +kernel
theorem dX10_layMatrix_140 : decode cX10_layMatrix 140 = .ok (.goto (-116), 3) := by decide +kernel
theorem dX10_layMatrix_143 : decode cX10_layMatrix 143 = .ok (.return_, 1) := by decide +kernel
theorem dX10_reduce_0 : decode cX10_reduce 0 = .ok (.lconst 1, 1) := by decide +kernel
theorem dX10_reduce_1 : decode cX10_reduce 1 = .ok (.lstore_n 2, 1) := by decide +kernel
theorem dX10_reduce_2 : decode cX10_reduce 2 = .ok (.iconst 0, 1) := by decide +kernel
theorem dX10_reduce_3 : decode cX10_reduce 3 = .ok (.istore 4, 2) := by decide +kernel
theorem dX10_reduce_5 : decode cX10_reduce 5 = .ok (.iload 4, 2) := by decide +kernel
theorem dX10_reduce_7 : decode cX10_reduce 7 = .ok (.iload_n 1, 1) := by decide +kernel
theorem dX10_reduce_8 : decode cX10_reduce 8 = .ok (.iconst 1, 1) := by decide +kernel
theorem dX10_reduce_9 : decode cX10_reduce 9 = .ok (.isub, 1) := by decide +kernel
theorem dX10_reduce_10 : decode cX10_reduce 10 = .ok (.if_icmp .ge 136, 3) := by decide +kernel
theorem dX10_reduce_13 : decode cX10_reduce 13 = .ok (.iload 4, 2) := by decide +kernel
theorem dX10_reduce_15 : decode cX10_reduce 15 = .ok (.iconst 1, 1) := by decide +kernel
theorem dX10_reduce_16 : decode cX10_reduce 16 = .ok (.iadd, 1) := by decide +kernel
theorem dX10_reduce_17 : decode cX10_reduce 17 = .ok (.istore 5, 2) := by decide +kernel
theorem dX10_reduce_19 : decode cX10_reduce 19 = .ok (.iload 5, 2) := by decide +kernel
theorem dX10_reduce_21 : decode cX10_reduce 21 = .ok (.iload_n 1, 1) := by decide +kernel
theorem dX10_reduce_22 : decode cX10_reduce 22 = .ok (.if_icmp .ge 104, 3) := by decide +kernel
theorem dX10_reduce_25 : decode cX10_reduce 25 = .ok (.iload 4, 2) := by decide +kernel
theorem dX10_reduce_27 : decode cX10_reduce 27 = .ok (.iconst 1, 1) := by decide +kernel
theorem dX10_reduce_28 : decode cX10_reduce 28 = .ok (.iadd, 1) := by decide +kernel
theorem dX10_reduce_29 : decode cX10_reduce 29 = .ok (.istore 6, 2) := by decide +kernel
theorem dX10_reduce_31 : decode cX10_reduce 31 = .ok (.iload 6, 2) := by decide +kernel
theorem dX10_reduce_33 : decode cX10_reduce 33 = .ok (.iload_n 1, 1) := by decide +kernel
theorem dX10_reduce_34 : decode cX10_reduce 34 = .ok (.if_icmp .gt 86, 3) := by decide +kernel
theorem dX10_reduce_37 : decode cX10_reduce 37 = .ok (.iload 6, 2) := by decide +kernel
theorem dX10_reduce_39 : decode cX10_reduce 39 = .ok (.bipush 16, 2) := by decide +kernel
theorem dX10_reduce_41 : decode cX10_reduce 41 = .ok (.if_icmp .ge 79, 3) := by decide +kernel
theorem dX10_reduce_44 : decode cX10_reduce 44 = .ok (.aload_n 0, 1) := by decide +kernel
theorem dX10_reduce_45 : decode cX10_reduce 45 = .ok (.getfield 61, 3) := by decide +kernel
theorem dX10_reduce_48 : decode cX10_reduce 48 = .ok (.bipush 16, 2) := by decide +kernel
theorem dX10_reduce_50 : decode cX10_reduce 50 = .ok (.iload 5, 2) := by decide +kernel
theorem dX10_reduce_52 : decode cX10_reduce 52 = .ok (.imul, 1) := by decide +kernel
theorem dX10_reduce_53 : decode cX10_reduce 53 = .ok (.iload 6, 2) := by decide +kernel
theorem dX10_reduce_55 : decode cX10_reduce 55 = .ok (.iadd, 1) := by decide +kernel
theorem dX10_reduce_56 : decode cX10_reduce 56 = .ok (.aload_n 0, 1) := by decide +kernel
theorem dX10_reduce_57 : decode cX10_reduce 57 = .ok (.getfield 61, 3) := by decide +kernel
theorem dX10_reduce_60 : decode cX10_reduce 60 = .ok (.bipush 16, 2) := by decide +kernel
theorem dX10_reduce_62 : decode cX10_reduce 62 = .ok (.iload 4, 2) := by decide +kernel
theorem dX10_reduce_64 : decode cX10_reduce 64 = .ok (.imul, 1) := by decide +kernel
theorem dX10_reduce_65 : decode cX10_reduce 65 = .ok (.iload 4, 2) := by decide +kernel
theorem dX10_reduce_67 : decode cX10_reduce 67 = .ok (.iadd, 1) := by decide +kernel
theorem dX10_reduce_68 : decode cX10_reduce 68 = .ok (.laload, 1) := by decide +kernel
theorem dX10_reduce_69 : decode cX10_reduce 69 = .ok (.aload_n 0, 1) := by decide +kernel
theorem dX10_reduce_70 : decode cX10_reduce 70 = .ok (.getfield 61, 3) := by decide +kernel
theorem dX10_reduce_73 : decode cX10_reduce 73 = .ok (.bipush 16, 2) := by decide +kernel
theorem dX10_reduce_75 : decode cX10_reduce 75 = .ok (.iload 5, 2) := by decide +kernel
theorem dX10_reduce_77 : decode cX10_reduce 77 = .ok (.imul, 1) := by decide +kernel
theorem dX10_reduce_78 : decode cX10_reduce 78 = .ok (.iload 6, 2) := by decide +kernel
theorem dX10_reduce_80 : decode cX10_reduce 80 = .ok (.iadd, 1) := by decide +kernel
theorem dX10_reduce_81 : decode cX10_reduce 81 = .ok (.laload, 1) := by decide +kernel
theorem dX10_reduce_82 : decode cX10_reduce 82 = .ok (.lmul, 1) := by decide +kernel
theorem dX10_reduce_83 : decode cX10_reduce 83 = .ok (.aload_n 0, 1) := by decide +kernel
theorem dX10_reduce_84 : decode cX10_reduce 84 = .ok (.getfield 61, 3) := by decide +kernel
theorem dX10_reduce_87 : decode cX10_reduce 87 = .ok (.bipush 16, 2) := by decide +kernel
theorem dX10_reduce_89 : decode cX10_reduce 89 = .ok (.iload 5, 2) := by decide +kernel
theorem dX10_reduce_91 : decode cX10_reduce 91 = .ok (.imul, 1) := by decide +kernel
theorem dX10_reduce_92 : decode cX10_reduce 92 = .ok (.iload 4, 2) := by decide +kernel
theorem dX10_reduce_94 : decode cX10_reduce 94 = .ok (.iadd, 1) := by decide +kernel
theorem dX10_reduce_95 : decode cX10_reduce 95 = .ok (.laload, 1) := by decide +kernel
theorem dX10_reduce_96 : decode cX10_reduce 96 = .ok (.aload_n 0, 1) := by decide +kernel
theorem dX10_reduce_97 : decode cX10_reduce 97 = .ok (.getfield 61, 3) := by decide +kernel
theorem dX10_reduce_100 : decode cX10_reduce 100 = .ok (.bipush 16, 2) := by decide +kernel
theorem dX10_reduce_102 : decode cX10_reduce 102 = .ok (.iload 4, 2) := by decide +kernel
theorem dX10_reduce_104 : decode cX10_reduce 104 = .ok (.imul, 1) := by decide +kernel
theorem dX10_reduce_105 : decode cX10_reduce 105 = .ok (.iload 6, 2) := by decide +kernel
theorem dX10_reduce_107 : decode cX10_reduce 107 = .ok (.iadd, 1) := by decide +kernel
theorem dX10_reduce_108 : decode cX10_reduce 108 = .ok (.laload, 1) := by decide +kernel
theorem dX10_reduce_109 : decode cX10_reduce 109 = .ok (.lmul, 1) := by decide +kernel
theorem dX10_reduce_110 : decode cX10_reduce 110 = .ok (.lsub, 1) := by decide +kernel
theorem dX10_reduce_111 : decode cX10_reduce 111 = .ok (.lload_n 2, 1) := by decide +kernel
theorem dX10_reduce_112 : decode cX10_reduce 112 = .ok (.ldiv, 1) := by decide +kernel
theorem dX10_reduce_113 : decode cX10_reduce 113 = .ok (.lastore, 1) := by decide +kernel
theorem dX10_reduce_114 : decode cX10_reduce 114 = .ok (.iinc 6 1, 3) := by decide +kernel
theorem dX10_reduce_117 : decode cX10_reduce 117 = .ok (.goto (-86), 3) := by decide +kernel
theorem dX10_reduce_120 : decode cX10_reduce 120 = .ok (.iinc 5 1, 3) := by decide +kernel
theorem dX10_reduce_123 : decode cX10_reduce 123 = .ok (.goto (-104), 3) := by decide +kernel
theorem dX10_reduce_126 : decode cX10_reduce 126 = .ok (.aload_n 0, 1) := by decide +kernel
theorem dX10_reduce_127 : decode cX10_reduce 127 = .ok (.getfield 61, 3) := by decide +kernel
theorem dX10_reduce_130 : decode cX10_reduce 130 = .ok (.bipush 16, 2) := by decide +kernel
theorem dX10_reduce_132 : decode cX10_reduce 132 = .ok (.iload 4, 2) := by decide +kernel
theorem dX10_reduce_134 : decode cX10_reduce 134 = .ok (.imul, 1) := by decide +kernel
theorem dX10_reduce_135 : decode cX10_reduce 135 = .ok (.iload 4, 2) := by decide +kernel
theorem dX10_reduce_137 : decode cX10_reduce 137 = .ok (.iadd, 1) := by decide +kernel
theorem dX10_reduce_138 : decode cX10_reduce 138 = .ok (.laload, 1) := by decide +kernel
theorem dX10_reduce_139 : decode cX10_reduce 139 = .ok (.lstore_n 2, 1) := by decide +kernel
theorem dX10_reduce_140 : decode cX10_reduce 140 = .ok (.iinc 4 1, 3) := by decide +kernel
theorem dX10_reduce_143 : decode cX10_reduce 143 = .ok (.goto (-138), 3) := by decide +kernel
theorem dX10_reduce_146 : decode cX10_reduce 146 = .ok (.return_, 1) := by decide +kernel
set_option maxRecDepth 20000 in
theorem ggX10_lost_X10_isCell : GoodIn wsX10_lost wsX10_isCell := goodIn_r _ [12, 13, 14, 62, 63, 64, 65, 66, 67, 68, 69, 70, 71, 72, 73, 74, 75, 76, 77, 78, 79, 80, 81, 82, 83, 84, 85, 86, 87, 88, 89, 90, 91, 92, 93, 94, 95] (by decide +kernel) (by decide +kernel)
set_option maxRecDepth 20000 in
theorem gX10_lost_X10_isCell : GoodIn wsX10_lost (wsV RX10 151 RX10 yX10_isCell wsX10_isCell) := goodIn_app (goodIn_of _ (by decide +kernel)) ggX10_lost_X10_isCell
set_option maxRecDepth 20000 in
theorem ggX10_lost_X10_index : GoodIn wsX10_lost wsX10_index := goodIn_r _ [17] (by decide +kernel) (by decide +kernel)
set_option maxRecDepth 20000 in
theorem gX10_lost_X10_index : GoodIn wsX10_lost (va_wsS RX10 157 yX10_index wsX10_index) := goodIn_app (goodIn_of _ (by decide +kernel)) ggX10_lost_X10_index
set_option maxRecDepth 20000 in
theorem ggX10_lost_X10_layMembers : GoodIn wsX10_lost wsX10_layMembers := goodIn_r _ [21, 3, 6, 5, 22, 23, 24, 11, 25, 26, 27, 28, 29, 30, 13, 14, 31, 32, 33, 34, 35, 36, 37, 38, 39, 40, 41, 42, 43, 44, 45, 46, 47, 48, 49, 62, 63, 64, 65, 66, 67, 68, 69, 70, 71, 72, 73, 74, 75, 76, 77, 78, 79, 80, 81, 82, 83, 84, 85, 86, 87, 88, 89, 90, 91, 92, 93, 94, 95] (by decide +kernel) (by decide +kernel)
set_option maxRecDepth 20000 in
theorem gX10_lost_X10_layMembers : GoodIn wsX10_lost (wsV RX10 221 RX10 yX10_layMembers wsX10_layMembers) := goodIn_app (goodIn_of _ (by decide +kernel)) ggX10_lost_X10_layMembers
set_option maxRecDepth 20000 in
theorem ggX10_lost_X10_layMatrix : GoodIn wsX10_lost wsX10_layMatrix := goodIn_r _ [53, 7, 5, 6, 54, 55, 56, 11, 57, 37, 38, 39, 40, 41, 42, 43, 44, 45, 46, 13, 14, 47, 48, 49, 62, 63, 64, 65, 66, 67, 68, 69, 70, 71, 72, 73, 74, 75, 76, 77, 78, 79, 80, 81, 82, 83, 84, 85, 86, 87, 88, 89, 90, 91, 92, 93, 94, 95] (by decide +kernel) (by decide +kernel)
set_option maxRecDepth 20000 in
theorem gX10_lost_X10_layMatrix : GoodIn wsX10_lost (wsV RX10 226 RX10 yX10_layMatrix wsX10_layMatrix) := goodIn_app (goodIn_of _ (by decide +kernel)) ggX10_lost_X10_layMatrix
set_option maxRecDepth 20000 in
theorem ggX10_lost_X10_reduce : GoodIn wsX10_lost wsX10_reduce := goodIn_r _ [61, 7, 62, 63, 64, 65, 66, 67, 68, 69, 70, 71, 72, 73, 74, 75, 76, 77, 78, 79, 80, 81, 82, 83, 84, 85, 86, 87, 88, 89, 90, 91, 92, 93, 94, 95] (by decide +kernel) (by decide +kernel)
set_option maxRecDepth 20000 in
theorem gX10_lost_X10_reduce : GoodIn wsX10_lost (wsV RX10 229 RX10 yX10_reduce wsX10_reduce) := goodIn_app (goodIn_of _ (by decide +kernel)) ggX10_lost_X10_reduce
theorem dX10_lost_0 : decode cX10_lost 0 = .ok (.aload_n 0, 1) := by decide +kernel
theorem dX10_lost_1 : decode cX10_lost 1 = .ok (.iconst 0, 1) := by decide +kernel
theorem dX10_lost_2 : decode cX10_lost 2 = .ok (.putfield 79, 3) := by decide +kernel
theorem dX10_lost_5 : decode cX10_lost 5 = .ok (.aload_n 0, 1) := by decide +kernel
theorem dX10_lost_6 : decode cX10_lost 6 = .ok (.iload_n 1, 1) := by decide +kernel
theorem dX10_lost_7 : decode cX10_lost 7 = .ok (.invokevirtual 151, 3) := by decide +kernel
theorem dX10_lost_10 : decode cX10_lost 10 = .ok (.ifCond .eq 11, 3) := by decide +kernel
theorem dX10_lost_13 : decode cX10_lost 13 = .ok (.aload_n 0, 1) := by decide +kernel
theorem dX10_lost_14 : decode cX10_lost 14 = .ok (.iload_n 2, 1) := by decide +kernel
theorem dX10_lost_15 : decode cX10_lost 15 = .ok (.invokevirtual 151, 3) := by decide +kernel
theorem dX10_lost_18 : decode cX10_lost 18 = .ok (.ifCond .ne 7, 3) := by decide +kernel
theorem dX10_lost_21 : decode cX10_lost 21 = .ok (.ldc2_w 201, 3) := by decide +kernel
theorem dX10_lost_24 : decode cX10_lost 24 = .ok (.lreturn, 1) := by decide +kernel
theorem dX10_lost_25 : decode cX10_lost 25 = .ok (.aload_n 0, 1) := by decide +kernel
theorem dX10_lost_26 : decode cX10_lost 26 = .ok (.iload_n 1, 1) := by decide +kernel
theorem dX10_lost_27 : decode cX10_lost 27 = .ok (.invokestatic 157, 3) := by decide +kernel
theorem dX10_lost_30 : decode cX10_lost 30 = .ok (.bipush (-9), 2) := by decide +kernel
theorem dX10_lost_32 : decode cX10_lost 32 = .ok (.invokevirtual 221, 3) := by decide +kernel
theorem dX10_lost_35 : decode cX10_lost 35 = .ok (.istore 4, 2) := by decide +kernel
theorem dX10_lost_37 : decode cX10_lost 37 = .ok (.aload_n 0, 1) := by decide +kernel
theorem dX10_lost_38 : decode cX10_lost 38 = .ok (.getfield 52, 3) := by decide +kernel
theorem dX10_lost_41 : decode cX10_lost 41 = .ok (.iload_n 1, 1) := by decide +kernel
theorem dX10_lost_42 : decode cX10_lost 42 = .ok (.invokestatic 157, 3) := by decide +kernel
theorem dX10_lost_45 : decode cX10_lost 45 = .ok (.iaload, 1) := by decide +kernel
theorem dX10_lost_46 : decode cX10_lost 46 = .ok (.aload_n 0, 1) := by decide +kernel
theorem dX10_lost_47 : decode cX10_lost 47 = .ok (.getfield 52, 3) := by decide +kernel
theorem dX10_lost_50 : decode cX10_lost 50 = .ok (.iload_n 2, 1) := by decide +kernel
theorem dX10_lost_51 : decode cX10_lost 51 = .ok (.invokestatic 157, 3) := by decide +kernel
theorem dX10_lost_54 : decode cX10_lost 54 = .ok (.iaload, 1) := by decide +kernel
theorem dX10_lost_55 : decode cX10_lost 55 = .ok (.if_icmp .ne 10, 3) := by decide +kernel
theorem dX10_lost_58 : decode cX10_lost 58 = .ok (.iload 4, 2) := by decide +kernel
theorem dX10_lost_60 : decode cX10_lost 60 = .ok (.bipush 10, 2) := by decide +kernel
theorem dX10_lost_62 : decode cX10_lost 62 = .ok (.if_icmp .le 7, 3) := by decide +kernel
theorem dX10_lost_65 : decode cX10_lost 65 = .ok (.ldc2_w 224, 3) := by decide +kernel
theorem dX10_lost_68 : decode cX10_lost 68 = .ok (.lreturn, 1) := by decide +kernel
theorem dX10_lost_69 : decode cX10_lost 69 = .ok (.iload_n 1, 1) := by decide +kernel
theorem dX10_lost_70 : decode cX10_lost 70 = .ok (.iload_n 2, 1) := by decide +kernel
theorem dX10_lost_71 : decode cX10_lost 71 = .ok (.if_icmp .ne 13, 3) := by decide +kernel
theorem dX10_lost_74 : decode cX10_lost 74 = .ok (.iload_n 3, 1) := by decide +kernel
theorem dX10_lost_75 : decode cX10_lost 75 = .ok (.ifCond .eq 7, 3) := by decide +kernel
theorem dX10_lost_78 : decode cX10_lost 78 = .ok (.lconst 0, 1) := by decide +kernel
theorem dX10_lost_79 : decode cX10_lost 79 = .ok (.goto 4, 3) := by decide +kernel
theorem dX10_lost_82 : decode cX10_lost 82 = .ok (.lconst 1, 1) := by decide +kernel
theorem dX10_lost_83 : decode cX10_lost 83 = .ok (.lreturn, 1) := by decide +kernel
theorem dX10_lost_84 : decode cX10_lost 84 = .ok (.aload_n 0, 1) := by decide +kernel
theorem dX10_lost_85 : decode cX10_lost 85 = .ok (.iload_n 1, 1) := by decide +kernel
theorem dX10_lost_86 : decode cX10_lost 86 = .ok (.invokestatic 157, 3) := by decide +kernel
theorem dX10_lost_89 : decode cX10_lost 89 = .ok (.iload_n 2, 1) := by decide +kernel
theorem dX10_lost_90 : decode cX10_lost 90 = .ok (.invokestatic 157, 3) := by decide +kernel
theorem dX10_lost_93 : decode cX10_lost 93 = .ok (.invokevirtual 221, 3) := by decide +kernel
theorem dX10_lost_96 : decode cX10_lost 96 = .ok (.istore 4, 2) := by decide +kernel
theorem dX10_lost_98 : decode cX10_lost 98 = .ok (.aload_n 0, 1) := by decide +kernel
theorem dX10_lost_99 : decode cX10_lost 99 = .ok (.getfield 64, 3) := by decide +kernel
theorem dX10_lost_102 : decode cX10_lost 102 = .ok (.iload 4, 2) := by decide +kernel
theorem dX10_lost_104 : decode cX10_lost 104 = .ok (.iconst 1, 1) := by decide +kernel
theorem dX10_lost_105 : decode cX10_lost 105 = .ok (.isub, 1) := by decide +kernel
theorem dX10_lost_106 : decode cX10_lost 106 = .ok (.iaload, 1) := by decide +kernel
theorem dX10_lost_107 : decode cX10_lost 107 = .ok (.istore 5, 2) := by decide +kernel
theorem dX10_lost_109 : decode cX10_lost 109 = .ok (.aload_n 0, 1) := by decide +kernel
theorem dX10_lost_110 : decode cX10_lost 110 = .ok (.getfield 67, 3) := by decide +kernel
theorem dX10_lost_113 : decode cX10_lost 113 = .ok (.iload_n 1, 1) := by decide +kernel
theorem dX10_lost_114 : decode cX10_lost 114 = .ok (.invokestatic 157, 3) := by decide +kernel
theorem dX10_lost_117 : decode cX10_lost 117 = .ok (.iaload, 1) := by decide +kernel
theorem dX10_lost_118 : decode cX10_lost 118 = .ok (.istore 6, 2) := by decide +kernel
theorem dX10_lost_120 : decode cX10_lost 120 = .ok (.aload_n 0, 1) := by decide +kernel
theorem dX10_lost_121 : decode cX10_lost 121 = .ok (.getfield 64, 3) := by decide +kernel
theorem dX10_lost_124 : decode cX10_lost 124 = .ok (.iload 4, 2) := by decide +kernel
theorem dX10_lost_126 : decode cX10_lost 126 = .ok (.iconst 1, 1) := by decide +kernel
theorem dX10_lost_127 : decode cX10_lost 127 = .ok (.isub, 1) := by decide +kernel
theorem dX10_lost_128 : decode cX10_lost 128 = .ok (.iload_n 1, 1) := by decide +kernel
theorem dX10_lost_129 : decode cX10_lost 129 = .ok (.invokestatic 157, 3) := by decide +kernel
theorem dX10_lost_132 : decode cX10_lost 132 = .ok (.iastore, 1) := by decide +kernel
theorem dX10_lost_133 : decode cX10_lost 133 = .ok (.aload_n 0, 1) := by decide +kernel
theorem dX10_lost_134 : decode cX10_lost 134 = .ok (.getfield 64, 3) := by decide +kernel
theorem dX10_lost_137 : decode cX10_lost 137 = .ok (.iload 6, 2) := by decide +kernel
theorem dX10_lost_139 : decode cX10_lost 139 = .ok (.iload 5, 2) := by decide +kernel
theorem dX10_lost_141 : decode cX10_lost 141 = .ok (.iastore, 1) := by decide +kernel
theorem dX10_lost_142 : decode cX10_lost 142 = .ok (.aload_n 0, 1) := by decide +kernel
theorem dX10_lost_143 : decode cX10_lost 143 = .ok (.getfield 67, 3) := by decide +kernel
theorem dX10_lost_146 : decode cX10_lost 146 = .ok (.iload 5, 2) := by decide +kernel
theorem dX10_lost_148 : decode cX10_lost 148 = .ok (.iload 6, 2) := by decide +kernel
theorem dX10_lost_150 : decode cX10_lost 150 = .ok (.iastore, 1) := by decide +kernel
theorem dX10_lost_151 : decode cX10_lost 151 = .ok (.aload_n 0, 1) := by decide +kernel
theorem dX10_lost_152 : decode cX10_lost 152 = .ok (.getfield 67, 3) := by decide +kernel
theorem dX10_lost_155 : decode cX10_lost 155 = .ok (.iload_n 1, 1) := by decide +kernel
theorem dX10_lost_156 : decode cX10_lost 156 = .ok (.invokestatic 157, 3) := by decide +kernel
theorem dX10_lost_159 : decode cX10_lost 159 = .ok (.iload 4, 2) := by decide +kernel
theorem dX10_lost_161 : decode cX10_lost 161 = .ok (.iconst 1, 1) := by decide +kernel
theorem dX10_lost_162 : decode cX10_lost 162 = .ok (.isub, 1) := by decide +kernel
theorem dX10_lost_163 : decode cX10_lost 163 = .ok (.iastore, 1) := by decide +kernel
theorem dX10_lost_164 : decode cX10_lost 164 = .ok (.aload_n 0, 1) := by decide +kernel
theorem dX10_lost_165 : decode cX10_lost 165 = .ok (.iload 4, 2) := by decide +kernel
theorem dX10_lost_167 : decode cX10_lost 167 = .ok (.invokevirtual 226, 3) := by decide +kernel
theorem dX10_lost_170 : decode cX10_lost 170 = .ok (.aload_n 0, 1) := by decide +kernel
theorem dX10_lost_171 : decode cX10_lost 171 = .ok (.iload 4, 2) := by decide +kernel
theorem dX10_lost_173 : decode cX10_lost 173 = .ok (.invokevirtual 229, 3) := by decide +kernel
theorem dX10_lost_176 : decode cX10_lost 176 = .ok (.aload_n 0, 1) := by decide +kernel
theorem dX10_lost_177 : decode cX10_lost 177 = .ok (.getfield 61, 3) := by decide +kernel
theorem dX10_lost_180 : decode cX10_lost 180 = .ok (.bipush 16, 2) := by decide +kernel
theorem dX10_lost_182 : decode cX10_lost 182 = .ok (.iload 4, 2) := by decide +kernel
theorem dX10_lost_184 : decode cX10_lost 184 = .ok (.iconst 1, 1) := by decide +kernel
theorem dX10_lost_185 : decode cX10_lost 185 = .ok (.isub, 1) := by decide +kernel
theorem dX10_lost_186 : decode cX10_lost 186 = .ok (.imul, 1) := by decide +kernel
theorem dX10_lost_187 : decode cX10_lost 187 = .ok (.iload 4, 2) := by decide +kernel
theorem dX10_lost_189 : decode cX10_lost 189 = .ok (.iadd, 1) := by decide +kernel
theorem dX10_lost_190 : decode cX10_lost 190 = .ok (.laload, 1) := by decide +kernel
theorem dX10_lost_191 : decode cX10_lost 191 = .ok (.lstore 7, 2) := by decide +kernel
theorem dX10_lost_193 : decode cX10_lost 193 = .ok (.aload_n 0, 1) := by decide +kernel
theorem dX10_lost_194 : decode cX10_lost 194 = .ok (.getfield 61, 3) := by decide +kernel
theorem dX10_lost_197 : decode cX10_lost 197 = .ok (.bipush 16, 2) := by decide +kernel
theorem dX10_lost_199 : decode cX10_lost 199 = .ok (.iload 4, 2) := by decide +kernel
theorem dX10_lost_201 : decode cX10_lost 201 = .ok (.iconst 1, 1) := by decide +kernel
theorem dX10_lost_202 : decode cX10_lost 202 = .ok (.isub, 1) := by decide +kernel
theorem dX10_lost_203 : decode cX10_lost 203 = .ok (.imul, 1) := by decide +kernel
theorem dX10_lost_204 : decode cX10_lost 204 = .ok (.iload 4, 2) := by decide +kernel
theorem dX10_lost_206 : decode cX10_lost 206 = .ok (.iadd, 1) := by decide +kernel
theorem dX10_lost_207 : decode cX10_lost 207 = .ok (.iconst 1, 1) := by decide +kernel
theorem dX10_lost_208 : decode cX10_lost 208 = .ok (.isub, 1) := by decide +kernel
theorem dX10_lost_209 : decode cX10_lost 209 = .ok (.laload, 1) := by decide +kernel
theorem dX10_lost_210 : decode cX10_lost 210 = .ok (.lstore 9, 2) := by decide +kernel
theorem dX10_lost_212 : decode cX10_lost 212 = .ok (.lload 7, 2) := by decide +kernel
theorem dX10_lost_214 : decode cX10_lost 214 = .ok (.lstore 11, 2) := by decide +kernel
theorem dX10_lost_216 : decode cX10_lost 216 = .ok (.lload 9, 2) := by decide +kernel
theorem dX10_lost_218 : decode cX10_lost 218 = .ok (.lstore 13, 2) := by decide +kernel
theorem dX10_lost_220 : decode cX10_lost 220 = .ok (.lload 13, 2) := by decide +kernel
theorem dX10_lost_222 : decode cX10_lost 222 = .ok (.lconst 0, 1) := by decide +kernel
theorem dX10_lost_223 : decode cX10_lost 223 = .ok (.lcmp, 1) := by decide +kernel
theorem dX10_lost_224 : decode cX10_lost 224 = .ok (.ifCond .eq 21, 3) := by decide +kernel
theorem dX10_lost_227 : decode cX10_lost 227 = .ok (.lload 11, 2) := by decide +kernel
theorem dX10_lost_229 : decode cX10_lost 229 = .ok (.lload 13, 2) := by decide +kernel
theorem dX10_lost_231 : decode cX10_lost 231 = .ok (.lrem, 1) := by decide +kernel
theorem dX10_lost_232 : decode cX10_lost 232 = .ok (.lstore 15, 2) := by decide +kernel
theorem dX10_lost_234 : decode cX10_lost 234 = .ok (.lload 13, 2) := by decide +kernel
theorem dX10_lost_236 : decode cX10_lost 236 = .ok (.lstore 11, 2) := by decide +kernel
theorem dX10_lost_238 : decode cX10_lost 238 = .ok (.lload 15, 2) := by decide +kernel
theorem dX10_lost_240 : decode cX10_lost 240 = .ok (.lstore 13, 2) := by decide +kernel
theorem dX10_lost_242 : decode cX10_lost 242 = .ok (.goto (-22), 3) := by decide +kernel
theorem dX10_lost_245 : decode cX10_lost 245 = .ok (.lload 11, 2) := by decide +kernel
theorem dX10_lost_247 : decode cX10_lost 247 = .ok (.lconst 0, 1) := by decide +kernel
theorem dX10_lost_248 : decode cX10_lost 248 = .ok (.lcmp, 1) := by decide +kernel
theorem dX10_lost_249 : decode cX10_lost 249 = .ok (.ifCond .ge 9, 3) := by decide +kernel
theorem dX10_lost_252 : decode cX10_lost 252 = .ok (.lload 11, 2) := by decide +kernel
theorem dX10_lost_254 : decode cX10_lost 254 = .ok (.lneg, 1) := by decide +kernel
theorem dX10_lost_255 : decode cX10_lost 255 = .ok (.goto 5, 3) := by decide +kernel
theorem dX10_lost_258 : decode cX10_lost 258 = .ok (.lload 11, 2) := by decide +kernel
theorem dX10_lost_260 : decode cX10_lost 260 = .ok (.lstore 11, 2) := by decide +kernel
theorem dX10_lost_262 : decode cX10_lost 262 = .ok (.iload_n 3, 1) := by decide +kernel
theorem dX10_lost_263 : decode cX10_lost 263 = .ok (.ifCond .eq 11, 3) := by decide +kernel
theorem dX10_lost_266 : decode cX10_lost 266 = .ok (.lload 7, 2) := by decide +kernel
theorem dX10_lost_268 : decode cX10_lost 268 = .ok (.lload 11, 2) := by decide +kernel
theorem dX10_lost_270 : decode cX10_lost 270 = .ok (.ldiv, 1) := by decide +kernel
theorem dX10_lost_271 : decode cX10_lost 271 = .ok (.goto 8, 3) := by decide +kernel
theorem dX10_lost_274 : decode cX10_lost 274 = .ok (.lload 9, 2) := by decide +kernel
theorem dX10_lost_276 : decode cX10_lost 276 = .ok (.lload 11, 2) := by decide +kernel
theorem dX10_lost_278 : decode cX10_lost 278 = .ok (.ldiv, 1) := by decide +kernel
theorem dX10_lost_279 : decode cX10_lost 279 = .ok (.lreturn, 1) := by decide +kernel
set_option maxRecDepth 20000 in
theorem ggX10_trees_X10_isCell : GoodIn wsX10_trees wsX10_isCell := goodIn_r _ [9, 10, 11, 62, 63, 64, 65, 66, 67, 68, 69, 70, 71, 72, 73, 74, 75, 76, 77, 78, 79, 80, 81, 82, 83, 84, 85, 86, 87, 88, 89, 90, 91, 92, 93, 94, 95] (by decide +kernel) (by decide +kernel)
set_option maxRecDepth 20000 in
theorem gX10_trees_X10_isCell : GoodIn wsX10_trees (wsV RX10 151 RX10 yX10_isCell wsX10_isCell) := goodIn_app (goodIn_of _ (by decide +kernel)) ggX10_trees_X10_isCell
set_option maxRecDepth 20000 in
theorem ggX10_trees_X10_index : GoodIn wsX10_trees wsX10_index := goodIn_r _ [14] (by decide +kernel) (by decide +kernel)
set_option maxRecDepth 20000 in
theorem gX10_trees_X10_index : GoodIn wsX10_trees (va_wsS RX10 157 yX10_index wsX10_index) := goodIn_app (goodIn_of _ (by decide +kernel)) ggX10_trees_X10_index
set_option maxRecDepth 20000 in
theorem ggX10_trees_X10_layMembers : GoodIn wsX10_trees wsX10_layMembers := goodIn_r _ [18, 19, 20, 21, 22, 23, 24, 8, 25, 26, 27, 28, 29, 30, 10, 11, 31, 32, 33, 34, 35, 36, 37, 38, 39, 40, 41, 42, 43, 44, 45, 46, 47, 48, 49, 62, 63, 64, 65, 66, 67, 68, 69, 70, 71, 72, 73, 74, 75, 76, 77, 78, 79, 80, 81, 82, 83, 84, 85, 86, 87, 88, 89, 90, 91, 92, 93, 94, 95] (by decide +kernel) (by decide +kernel)
set_option maxRecDepth 20000 in
theorem gX10_trees_X10_layMembers : GoodIn wsX10_trees (wsV RX10 221 RX10 yX10_layMembers wsX10_layMembers) := goodIn_app (goodIn_of _ (by decide +kernel)) ggX10_trees_X10_layMembers
set_option maxRecDepth 20000 in
theorem ggX10_trees_X10_layMatrix : GoodIn wsX10_trees wsX10_layMatrix := goodIn_r _ [53, 4, 21, 20, 54, 55, 56, 8, 57, 37, 38, 39, 40, 41, 42, 43, 44, 45, 46, 10, 11, 47, 48, 49, 62, 63, 64, 65, 66, 67, 68, 69, 70, 71, 72, 73, 74, 75, 76, 77, 78, 79, 80, 81, 82, 83, 84, 85, 86, 87, 88, 89, 90, 91, 92, 93, 94, 95] (by decide +kernel) (by decide +kernel)
set_option maxRecDepth 20000 in
theorem gX10_trees_X10_layMatrix : GoodIn wsX10_trees (wsV RX10 226 RX10 yX10_layMatrix wsX10_layMatrix) := goodIn_app (goodIn_of _ (by decide +kernel)) ggX10_trees_X10_layMatrix
set_option maxRecDepth 20000 in
theorem ggX10_trees_X10_reduce : GoodIn wsX10_trees wsX10_reduce := goodIn_r _ [61, 4, 62, 63, 64, 65, 66, 67, 68, 69, 70, 71, 72, 73, 74, 75, 76, 77, 78, 79, 80, 81, 82, 83, 84, 85, 86, 87, 88, 89, 90, 91, 92, 93, 94, 95] (by decide +kernel) (by decide +kernel)
set_option maxRecDepth 20000 in
theorem gX10_trees_X10_reduce : GoodIn wsX10_trees (wsV RX10 229 RX10 yX10_reduce wsX10_reduce) := goodIn_app (goodIn_of _ (by decide +kernel)) ggX10_trees_X10_reduce
theorem dX10_trees_0 : decode cX10_trees 0 = .ok (.aload_n 0, 1) := by decide +kernel
theorem dX10_trees_1 : decode cX10_trees 1 = .ok (.iconst 0, 1) := by decide +kernel
theorem dX10_trees_2 : decode cX10_trees 2 = .ok (.putfield 79, 3) := by decide +kernel
theorem dX10_trees_5 : decode cX10_trees 5 = .ok (.aload_n 0, 1) := by decide +kernel
theorem dX10_trees_6 : decode cX10_trees 6 = .ok (.iload_n 1, 1) := by decide +kernel
theorem dX10_trees_7 : decode cX10_trees 7 = .ok (.invokevirtual 151, 3) := by decide +kernel
theorem dX10_trees_10 : decode cX10_trees 10 = .ok (.ifCond .ne 7, 3) := by decide +kernel
theorem dX10_trees_13 : decode cX10_trees 13 = .ok (.ldc2_w 201, 3) := by decide +kernel
theorem dX10_trees_16 : decode cX10_trees 16 = .ok (.lreturn, 1) := by decide +kernel
theorem dX10_trees_17 : decode cX10_trees 17 = .ok (.aload_n 0, 1) := by decide +kernel
theorem dX10_trees_18 : decode cX10_trees 18 = .ok (.iload_n 1, 1) := by decide +kernel
theorem dX10_trees_19 : decode cX10_trees 19 = .ok (.invokestatic 157, 3) := by decide +kernel
theorem dX10_trees_22 : decode cX10_trees 22 = .ok (.bipush (-9), 2) := by decide +kernel
theorem dX10_trees_24 : decode cX10_trees 24 = .ok (.invokevirtual 221, 3) := by decide +kernel
theorem dX10_trees_27 : decode cX10_trees 27 = .ok (.istore_n 2, 1) := by decide +kernel
theorem dX10_trees_28 : decode cX10_trees 28 = .ok (.iload_n 2, 1) := by decide +kernel
theorem dX10_trees_29 : decode cX10_trees 29 = .ok (.bipush 16, 2) := by decide +kernel
theorem dX10_trees_31 : decode cX10_trees 31 = .ok (.if_icmp .le 7, 3) := by decide +kernel
theorem dX10_trees_34 : decode cX10_trees 34 = .ok (.ldc2_w 224, 3) := by decide +kernel
theorem dX10_trees_37 : decode cX10_trees 37 = .ok (.lreturn, 1) := by decide +kernel
theorem dX10_trees_38 : decode cX10_trees 38 = .ok (.iload_n 2, 1) := by decide +kernel
theorem dX10_trees_39 : decode cX10_trees 39 = .ok (.iconst 1, 1) := by decide +kernel
theorem dX10_trees_40 : decode cX10_trees 40 = .ok (.if_icmp .ne 5, 3) := by decide +kernel
theorem dX10_trees_43 : decode cX10_trees 43 = .ok (.lconst 1, 1) := by decide +kernel
theorem dX10_trees_44 : decode cX10_trees 44 = .ok (.lreturn, 1) := by decide +kernel
theorem dX10_trees_45 : decode cX10_trees 45 = .ok (.aload_n 0, 1) := by decide +kernel
theorem dX10_trees_46 : decode cX10_trees 46 = .ok (.iload_n 1, 1) := by decide +kernel
theorem dX10_trees_47 : decode cX10_trees 47 = .ok (.invokestatic 157, 3) := by decide +kernel
theorem dX10_trees_50 : decode cX10_trees 50 = .ok (.iload_n 1, 1) := by decide +kernel
theorem dX10_trees_51 : decode cX10_trees 51 = .ok (.invokestatic 157, 3) := by decide +kernel
theorem dX10_trees_54 : decode cX10_trees 54 = .ok (.invokevirtual 221, 3) := by decide +kernel
theorem dX10_trees_57 : decode cX10_trees 57 = .ok (.istore_n 2, 1) := by decide +kernel
theorem dX10_trees_58 : decode cX10_trees 58 = .ok (.aload_n 0, 1) := by decide +kernel
theorem dX10_trees_59 : decode cX10_trees 59 = .ok (.iload_n 2, 1) := by decide +kernel
theorem dX10_trees_60 : decode cX10_trees 60 = .ok (.invokevirtual 226, 3) := by decide +kernel
theorem dX10_trees_63 : decode cX10_trees 63 = .ok (.aload_n 0, 1) := by decide +kernel
theorem dX10_trees_64 : decode cX10_trees 64 = .ok (.iload_n 2, 1) := by decide +kernel
theorem dX10_trees_65 : decode cX10_trees 65 = .ok (.invokevirtual 229, 3) := by decide +kernel
theorem dX10_trees_68 : decode cX10_trees 68 = .ok (.aload_n 0, 1) := by decide +kernel
theorem dX10_trees_69 : decode cX10_trees 69 = .ok (.getfield 61, 3) := by decide +kernel
theorem dX10_trees_72 : decode cX10_trees 72 = .ok (.bipush 16, 2) := by decide +kernel
theorem dX10_trees_74 : decode cX10_trees 74 = .ok (.iload_n 2, 1) := by decide +kernel
theorem dX10_trees_75 : decode cX10_trees 75 = .ok (.iconst 1, 1) := by decide +kernel
theorem dX10_trees_76 : decode cX10_trees 76 = .ok (.isub, 1) := by decide +kernel
theorem dX10_trees_77 : decode cX10_trees 77 = .ok (.imul, 1) := by decide +kernel
theorem dX10_trees_78 : decode cX10_trees 78 = .ok (.iload_n 2, 1) := by decide +kernel
theorem dX10_trees_79 : decode cX10_trees 79 = .ok (.iadd, 1) := by decide +kernel
theorem dX10_trees_80 : decode cX10_trees 80 = .ok (.iconst 1, 1) := by decide +kernel
theorem dX10_trees_81 : decode cX10_trees 81 = .ok (.isub, 1) := by decide +kernel
theorem dX10_trees_82 : decode cX10_trees 82 = .ok (.laload, 1) := by decide +kernel
theorem dX10_trees_83 : decode cX10_trees 83 = .ok (.lreturn, 1) := by decide +kernel
set_option maxRecDepth 20000 in
theorem ggX10_breaks_X10_isCell : GoodIn wsX10_breaks wsX10_isCell := goodIn_r _ [7, 8, 9, 30, 31, 32, 33, 34, 35, 36, 37, 38, 39, 40, 41, 42, 43, 44, 45, 46, 47, 48, 49, 50, 51, 52, 53, 54, 55, 56, 57, 58, 59, 60, 61, 62, 63] (by decide +kernel) (by decide +kernel)
set_option maxRecDepth 20000 in
theorem gX10_breaks_X10_isCell : GoodIn wsX10_breaks (wsV RX10 151 RX10 yX10_isCell wsX10_isCell) := goodIn_app (goodIn_of _ (by decide +kernel)) ggX10_breaks_X10_isCell
set_option maxRecDepth 20000 in
theorem ggX10_breaks_X10_index : GoodIn wsX10_breaks wsX10_index := goodIn_r _ [12] (by decide +kernel) (by decide +kernel)
set_option maxRecDepth 20000 in
theorem gX10_breaks_X10_index : GoodIn wsX10_breaks (va_wsS RX10 157 yX10_index wsX10_index) := goodIn_app (goodIn_of _ (by decide +kernel)) ggX10_breaks_X10_index
set_option maxRecDepth 20000 in
theorem ggX10_breaks_X10_isThere : GoodIn wsX10_breaks wsX10_isThere := goodIn_r _ [16, 8, 9, 30, 31, 32, 33, 34, 35, 36, 37, 38, 39, 40, 41, 42, 43, 44, 45, 46, 47, 48, 49, 50, 51, 52, 53, 54, 55, 56, 57, 58, 59, 60, 61, 62, 63] (by decide +kernel) (by decide +kernel)
set_option maxRecDepth 20000 in
theorem gX10_breaks_X10_isThere : GoodIn wsX10_breaks (wsV RX10 125 RX10 yX10_isThere wsX10_isThere) := goodIn_app (goodIn_of _ (by decide +kernel)) ggX10_breaks_X10_isThere
set_option maxRecDepth 20000 in
theorem ggX10_breaks_X10_beside : GoodIn wsX10_breaks wsX10_beside := goodIn_r _ [20, 8, 9, 21, 22, 6, 23, 30, 31, 32, 33, 34, 35, 36, 37, 38, 39, 40, 41, 42, 43, 44, 45, 46, 47, 48, 49, 50, 51, 52, 53, 54, 55, 56, 57, 58, 59, 60, 61, 62, 63] (by decide +kernel) (by decide +kernel)
set_option maxRecDepth 20000 in
theorem gX10_breaks_X10_beside : GoodIn wsX10_breaks (wsV RX10 113 RX10 yX10_beside wsX10_beside) := goodIn_app (goodIn_of _ (by decide +kernel)) ggX10_breaks_X10_beside
set_option maxRecDepth 20000 in
theorem ggX10_breaks_X10_isOpen : GoodIn wsX10_breaks wsX10_isOpen := goodIn_r _ [27, 28, 29, 17, 18, 19, 6, 20, 8, 9, 21, 22, 23, 30, 31, 32, 33, 34, 35, 36, 37, 38, 39, 40, 41, 42, 43, 44, 45, 46, 47, 48, 49, 50, 51, 52, 53, 54, 55, 56, 57, 58, 59, 60, 61, 62, 63] (by decide +kernel) (by decide +kernel)
set_option maxRecDepth 20000 in
theorem gX10_breaks_X10_isOpen : GoodIn wsX10_breaks (wsV RX10 160 RX10 yX10_isOpen wsX10_isOpen) := goodIn_app (goodIn_of _ (by decide +kernel)) ggX10_breaks_X10_isOpen
theorem dX10_breaks_0 : decode cX10_breaks 0 = .ok (.aload_n 0, 1) := by decide +kernel
theorem dX10_breaks_1 : decode cX10_breaks 1 = .ok (.iconst 0, 1) := by decide +kernel
theorem dX10_breaks_2 : decode cX10_breaks 2 = .ok (.putfield 79, 3) := by decide +kernel
theorem dX10_breaks_5 : decode cX10_breaks 5 = .ok (.aload_n 0, 1) := by decide +kernel
theorem dX10_breaks_6 : decode cX10_breaks 6 = .ok (.iload_n 1, 1) := by decide +kernel
theorem dX10_breaks_7 : decode cX10_breaks 7 = .ok (.invokevirtual 151, 3) := by decide +kernel
theorem dX10_breaks_10 : decode cX10_breaks 10 = .ok (.ifCond .eq 11, 3) := by decide +kernel
theorem dX10_breaks_13 : decode cX10_breaks 13 = .ok (.aload_n 0, 1) := by decide +kernel
theorem dX10_breaks_14 : decode cX10_breaks 14 = .ok (.iload_n 2, 1) := by decide +kernel
theorem dX10_breaks_15 : decode cX10_breaks 15 = .ok (.invokevirtual 151, 3) := by decide +kernel
theorem dX10_breaks_18 : decode cX10_breaks 18 = .ok (.ifCond .ne 5, 3) := by decide +kernel
theorem dX10_breaks_21 : decode cX10_breaks 21 = .ok (.iconst (-1), 1) := by decide +kernel
theorem dX10_breaks_22 : decode cX10_breaks 22 = .ok (.ireturn, 1) := by decide +kernel
theorem dX10_breaks_23 : decode cX10_breaks 23 = .ok (.iconst 0, 1) := by decide +kernel
theorem dX10_breaks_24 : decode cX10_breaks 24 = .ok (.istore_n 3, 1) := by decide +kernel
theorem dX10_breaks_25 : decode cX10_breaks 25 = .ok (.iload_n 3, 1) := by decide +kernel
theorem dX10_breaks_26 : decode cX10_breaks 26 = .ok (.bipush 36, 2) := by decide +kernel
theorem dX10_breaks_28 : decode cX10_breaks 28 = .ok (.if_icmp .ge 30, 3) := by decide +kernel
theorem dX10_breaks_31 : decode cX10_breaks 31 = .ok (.aload_n 0, 1) := by decide +kernel
theorem dX10_breaks_32 : decode cX10_breaks 32 = .ok (.getfield 39, 3) := by decide +kernel
theorem dX10_breaks_35 : decode cX10_breaks 35 = .ok (.iload_n 3, 1) := by decide +kernel
theorem dX10_breaks_36 : decode cX10_breaks 36 = .ok (.iload_n 3, 1) := by decide +kernel
theorem dX10_breaks_37 : decode cX10_breaks 37 = .ok (.iload_n 1, 1) := by decide +kernel
theorem dX10_breaks_38 : decode cX10_breaks 38 = .ok (.invokestatic 157, 3) := by decide +kernel
theorem dX10_breaks_41 : decode cX10_breaks 41 = .ok (.if_icmp .ne 7, 3) := by decide +kernel
theorem dX10_breaks_44 : decode cX10_breaks 44 = .ok (.iconst 0, 1) := by decide +kernel
theorem dX10_breaks_45 : decode cX10_breaks 45 = .ok (.goto 6, 3) := by decide +kernel
theorem dX10_breaks_48 : decode cX10_breaks 48 = .ok (.sipush 9999, 3) := by decide +kernel
theorem dX10_breaks_51 : decode cX10_breaks 51 = .ok (.iastore, 1) := by decide +kernel
theorem dX10_breaks_52 : decode cX10_breaks 52 = .ok (.iinc 3 1, 3) := by decide +kernel
theorem dX10_breaks_55 : decode cX10_breaks 55 = .ok (.goto (-30), 3) := by decide +kernel
theorem dX10_breaks_58 : decode cX10_breaks 58 = .ok (.iconst 0, 1) := by decide +kernel
theorem dX10_breaks_59 : decode cX10_breaks 59 = .ok (.istore_n 3, 1) := by decide +kernel
theorem dX10_breaks_60 : decode cX10_breaks 60 = .ok (.iload_n 3, 1) := by decide +kernel
theorem dX10_breaks_61 : decode cX10_breaks 61 = .ok (.bipush 36, 2) := by decide +kernel
theorem dX10_breaks_63 : decode cX10_breaks 63 = .ok (.if_icmp .ge 126, 3) := by decide +kernel
theorem dX10_breaks_66 : decode cX10_breaks 66 = .ok (.iconst 0, 1) := by decide +kernel
theorem dX10_breaks_67 : decode cX10_breaks 67 = .ok (.istore 4, 2) := by decide +kernel
theorem dX10_breaks_69 : decode cX10_breaks 69 = .ok (.iload 4, 2) := by decide +kernel
theorem dX10_breaks_71 : decode cX10_breaks 71 = .ok (.bipush 36, 2) := by decide +kernel
theorem dX10_breaks_73 : decode cX10_breaks 73 = .ok (.if_icmp .ge 110, 3) := by decide +kernel
theorem dX10_breaks_76 : decode cX10_breaks 76 = .ok (.iconst 0, 1) := by decide +kernel
theorem dX10_breaks_77 : decode cX10_breaks 77 = .ok (.istore 5, 2) := by decide +kernel
theorem dX10_breaks_79 : decode cX10_breaks 79 = .ok (.iload 5, 2) := by decide +kernel
theorem dX10_breaks_81 : decode cX10_breaks 81 = .ok (.iconst 4, 1) := by decide +kernel
theorem dX10_breaks_82 : decode cX10_breaks 82 = .ok (.if_icmp .ge 95, 3) := by decide +kernel
theorem dX10_breaks_85 : decode cX10_breaks 85 = .ok (.aload_n 0, 1) := by decide +kernel
theorem dX10_breaks_86 : decode cX10_breaks 86 = .ok (.iload 4, 2) := by decide +kernel
theorem dX10_breaks_88 : decode cX10_breaks 88 = .ok (.invokevirtual 125, 3) := by decide +kernel
theorem dX10_breaks_91 : decode cX10_breaks 91 = .ok (.ifCond .eq 86, 3) := by decide +kernel
theorem dX10_breaks_94 : decode cX10_breaks 94 = .ok (.aload_n 0, 1) := by decide +kernel
theorem dX10_breaks_95 : decode cX10_breaks 95 = .ok (.getfield 39, 3) := by decide +kernel
theorem dX10_breaks_98 : decode cX10_breaks 98 = .ok (.iload 4, 2) := by decide +kernel
theorem dX10_breaks_100 : decode cX10_breaks 100 = .ok (.iaload, 1) := by decide +kernel
theorem dX10_breaks_101 : decode cX10_breaks 101 = .ok (.sipush 9999, 3) := by decide +kernel
theorem dX10_breaks_104 : decode cX10_breaks 104 = .ok (.if_icmp .ge 73, 3) := by decide +kernel
theorem dX10_breaks_107 : decode cX10_breaks 107 = .ok (.aload_n 0, 1) := by decide +kernel
theorem dX10_breaks_108 : decode cX10_breaks 108 = .ok (.iload 4, 2) := by decide +kernel
theorem dX10_breaks_110 : decode cX10_breaks 110 = .ok (.iload 5, 2) := by decide +kernel
theorem dX10_breaks_112 : decode cX10_breaks 112 = .ok (.invokevirtual 113, 3) := by decide +kernel
theorem dX10_breaks_115 : decode cX10_breaks 115 = .ok (.istore 6, 2) := by decide +kernel
theorem dX10_breaks_117 : decode cX10_breaks 117 = .ok (.aload_n 0, 1) := by decide +kernel
theorem dX10_breaks_118 : decode cX10_breaks 118 = .ok (.getfield 39, 3) := by decide +kernel
theorem dX10_breaks_121 : decode cX10_breaks 121 = .ok (.iload 4, 2) := by decide +kernel
theorem dX10_breaks_123 : decode cX10_breaks 123 = .ok (.iaload, 1) := by decide +kernel
theorem dX10_breaks_124 : decode cX10_breaks 124 = .ok (.aload_n 0, 1) := by decide +kernel
theorem dX10_breaks_125 : decode cX10_breaks 125 = .ok (.iload 4, 2) := by decide +kernel
theorem dX10_breaks_127 : decode cX10_breaks 127 = .ok (.iload 5, 2) := by decide +kernel
theorem dX10_breaks_129 : decode cX10_breaks 129 = .ok (.invokevirtual 160, 3) := by decide +kernel
theorem dX10_breaks_132 : decode cX10_breaks 132 = .ok (.ifCond .eq 7, 3) := by decide +kernel
theorem dX10_breaks_135 : decode cX10_breaks 135 = .ok (.iconst 0, 1) := by decide +kernel
theorem dX10_breaks_136 : decode cX10_breaks 136 = .ok (.goto 4, 3) := by decide +kernel
theorem dX10_breaks_139 : decode cX10_breaks 139 = .ok (.iconst 1, 1) := by decide +kernel
theorem dX10_breaks_140 : decode cX10_breaks 140 = .ok (.iadd, 1) := by decide +kernel
theorem dX10_breaks_141 : decode cX10_breaks 141 = .ok (.istore 7, 2) := by decide +kernel
theorem dX10_breaks_143 : decode cX10_breaks 143 = .ok (.iload 6, 2) := by decide +kernel
theorem dX10_breaks_145 : decode cX10_breaks 145 = .ok (.bipush (-9), 2) := by decide +kernel
theorem dX10_breaks_147 : decode cX10_breaks 147 = .ok (.if_icmp .eq 24, 3) := by decide +kernel
theorem dX10_breaks_150 : decode cX10_breaks 150 = .ok (.iload 7, 2) := by decide +kernel
theorem dX10_breaks_152 : decode cX10_breaks 152 = .ok (.aload_n 0, 1) := by decide +kernel
theorem dX10_breaks_153 : decode cX10_breaks 153 = .ok (.getfield 39, 3) := by decide +kernel
theorem dX10_breaks_156 : decode cX10_breaks 156 = .ok (.iload 6, 2) := by decide +kernel
theorem dX10_breaks_158 : decode cX10_breaks 158 = .ok (.iaload, 1) := by decide +kernel
theorem dX10_breaks_159 : decode cX10_breaks 159 = .ok (.if_icmp .ge 12, 3) := by decide +kernel
theorem dX10_breaks_162 : decode cX10_breaks 162 = .ok (.aload_n 0, 1) := by decide +kernel
theorem dX10_breaks_163 : decode cX10_breaks 163 = .ok (.getfield 39, 3) := by decide +kernel
theorem dX10_breaks_166 : decode cX10_breaks 166 = .ok (.iload 6, 2) := by decide +kernel
theorem dX10_breaks_168 : decode cX10_breaks 168 = .ok (.iload 7, 2) := by decide +kernel
theorem dX10_breaks_170 : decode cX10_breaks 170 = .ok (.iastore, 1) := by decide +kernel
theorem dX10_breaks_171 : decode cX10_breaks 171 = .ok (.iinc 5 1, 3) := by decide +kernel
theorem dX10_breaks_174 : decode cX10_breaks 174 = .ok (.goto (-95), 3) := by decide +kernel
theorem dX10_breaks_177 : decode cX10_breaks 177 = .ok (.iinc 4 1, 3) := by decide +kernel
theorem dX10_breaks_180 : decode cX10_breaks 180 = .ok (.goto (-111), 3) := by decide +kernel
theorem dX10_breaks_183 : decode cX10_breaks 183 = .ok (.iinc 3 1, 3) := by decide +kernel
theorem dX10_breaks_186 : decode cX10_breaks 186 = .ok (.goto (-126), 3) := by decide +kernel
theorem dX10_breaks_189 : decode cX10_breaks 189 = .ok (.aload_n 0, 1) := by decide +kernel
theorem dX10_breaks_190 : decode cX10_breaks 190 = .ok (.getfield 39, 3) := by decide +kernel
theorem dX10_breaks_193 : decode cX10_breaks 193 = .ok (.iload_n 2, 1) := by decide +kernel
theorem dX10_breaks_194 : decode cX10_breaks 194 = .ok (.invokestatic 157, 3) := by decide +kernel
theorem dX10_breaks_197 : decode cX10_breaks 197 = .ok (.iaload, 1) := by decide +kernel
theorem dX10_breaks_198 : decode cX10_breaks 198 = .ok (.ireturn, 1) := by decide +kernel
set_option maxRecDepth 20000 in
theorem ggX10_shortCut_X10_farOf : GoodIn wsX10_shortCut wsX10_farOf := goodIn_r _ [8, 9, 10, 11, 12, 7, 13, 14, 15, 16, 17, 18, 19, 20, 21, 22, 23, 24, 25, 26, 27, 28, 29, 30, 42, 43, 44, 45, 46, 47, 48, 49, 50, 51, 52, 53, 54, 55, 56, 57, 58, 59, 60, 61, 62, 63, 64, 65, 66, 67, 68, 69, 70, 71, 72, 73, 74, 75] (by decide +kernel) (by decide +kernel)
set_option maxRecDepth 20000 in
theorem gX10_shortCut_X10_farOf : GoodIn wsX10_shortCut (wsV RX10 177 RX10 yX10_farOf wsX10_farOf) := goodIn_app (goodIn_of _ (by decide +kernel)) ggX10_shortCut_X10_farOf
set_option maxRecDepth 20000 in
theorem ggX10_shortCut_X10_isThere : GoodIn wsX10_shortCut wsX10_isThere := goodIn_r _ [34, 26, 27, 42, 43, 44, 45, 46, 47, 48, 49, 50, 51, 52, 53, 54, 55, 56, 57, 58, 59, 60, 61, 62, 63, 64, 65, 66, 67, 68, 69, 70, 71, 72, 73, 74, 75] (by decide +kernel) (by decide +kernel)
set_option maxRecDepth 20000 in
theorem gX10_shortCut_X10_isThere : GoodIn wsX10_shortCut (wsV RX10 125 RX10 yX10_isThere wsX10_isThere) := goodIn_app (goodIn_of _ (by decide +kernel)) ggX10_shortCut_X10_isThere
set_option maxRecDepth 20000 in
theorem ggX10_shortCut_X10_beside : GoodIn wsX10_shortCut wsX10_beside := goodIn_r _ [25, 26, 27, 28, 29, 7, 30, 42, 43, 44, 45, 46, 47, 48, 49, 50, 51, 52, 53, 54, 55, 56, 57, 58, 59, 60, 61, 62, 63, 64, 65, 66, 67, 68, 69, 70, 71, 72, 73, 74, 75] (by decide +kernel) (by decide +kernel)
set_option maxRecDepth 20000 in
theorem gX10_shortCut_X10_beside : GoodIn wsX10_shortCut (wsV RX10 113 RX10 yX10_beside wsX10_beside) := goodIn_app (goodIn_of _ (by decide +kernel)) ggX10_shortCut_X10_beside
set_option maxRecDepth 20000 in
theorem ggX10_shortCut_X10_isOpen : GoodIn wsX10_shortCut wsX10_isOpen := goodIn_r _ [19, 20, 21, 22, 23, 24, 7, 25, 26, 27, 28, 29, 30, 42, 43, 44, 45, 46, 47, 48, 49, 50, 51, 52, 53, 54, 55, 56, 57, 58, 59, 60, 61, 62, 63, 64, 65, 66, 67, 68, 69, 70, 71, 72, 73, 74, 75] (by decide +kernel) (by decide +kernel)
set_option maxRecDepth 20000 in
theorem gX10_shortCut_X10_isOpen : GoodIn wsX10_shortCut (wsV RX10 160 RX10 yX10_isOpen wsX10_isOpen) := goodIn_app (goodIn_of _ (by decide +kernel)) ggX10_shortCut_X10_isOpen
set_option maxRecDepth 20000 in
theorem ggX10_shortCut_X10_set : GoodIn wsX10_shortCut wsX10_set := goodIn_r _ [38, 20, 21, 22, 23, 24, 7, 25, 26, 27, 28, 29, 30, 42, 43, 44, 45, 46, 47, 48, 49, 50, 51, 52, 53, 54, 55, 56, 57, 58, 59, 60, 61, 62, 63, 64, 65, 66, 67, 68, 69, 70, 71, 72, 73, 74, 75] (by decide +kernel) (by decide +kernel)
set_option maxRecDepth 20000 in
theorem gX10_shortCut_X10_set : GoodIn wsX10_shortCut (wsV RX10 136 RX10 yX10_set wsX10_set) := goodIn_app (goodIn_of _ (by decide +kernel)) ggX10_shortCut_X10_set
set_option maxRecDepth 20000 in
theorem ggX10_shortCut_X10_code : GoodIn wsX10_shortCut wsX10_code := goodIn_r _ [41] (by decide +kernel) (by decide +kernel)
set_option maxRecDepth 20000 in
theorem gX10_shortCut_X10_code : GoodIn wsX10_shortCut (va_wsS RX10 164 yX10_code wsX10_code) := goodIn_app (goodIn_of _ (by decide +kernel)) ggX10_shortCut_X10_code
theorem dX10_shortCut_0 : decode cX10_shortCut 0 = .ok (.aload_n 0, 1) := by decide +kernel
theorem dX10_shortCut_1 : decode cX10_shortCut 1 = .ok (.iconst 0, 1) := by decide +kernel
theorem dX10_shortCut_2 : decode cX10_shortCut 2 = .ok (.putfield 79, 3) := by decide +kernel
theorem dX10_shortCut_5 : decode cX10_shortCut 5 = .ok (.aload_n 0, 1) := by decide +kernel
theorem dX10_shortCut_6 : decode cX10_shortCut 6 = .ok (.aload_n 0, 1) := by decide +kernel
theorem dX10_shortCut_7 : decode cX10_shortCut 7 = .ok (.getfield 103, 3) := by decide +kernel
theorem dX10_shortCut_10 : decode cX10_shortCut 10 = .ok (.aload_n 0, 1) := by decide +kernel
theorem dX10_shortCut_11 : decode cX10_shortCut 11 = .ok (.getfield 106, 3) := by decide +kernel
theorem dX10_shortCut_14 : decode cX10_shortCut 14 = .ok (.invokevirtual 177, 3) := by decide +kernel
theorem dX10_shortCut_17 : decode cX10_shortCut 17 = .ok (.istore_n 1, 1) := by decide +kernel
theorem dX10_shortCut_18 : decode cX10_shortCut 18 = .ok (.bipush (-9), 2) := by decide +kernel
theorem dX10_shortCut_20 : decode cX10_shortCut 20 = .ok (.istore_n 2, 1) := by decide +kernel
theorem dX10_shortCut_21 : decode cX10_shortCut 21 = .ok (.iconst 0, 1) := by decide +kernel
theorem dX10_shortCut_22 : decode cX10_shortCut 22 = .ok (.istore_n 3, 1) := by decide +kernel
theorem dX10_shortCut_23 : decode cX10_shortCut 23 = .ok (.iload_n 3, 1) := by decide +kernel
theorem dX10_shortCut_24 : decode cX10_shortCut 24 = .ok (.bipush 36, 2) := by decide +kernel
theorem dX10_shortCut_26 : decode cX10_shortCut 26 = .ok (.if_icmp .ge 118, 3) := by decide +kernel
theorem dX10_shortCut_29 : decode cX10_shortCut 29 = .ok (.iconst 1, 1) := by decide +kernel
theorem dX10_shortCut_30 : decode cX10_shortCut 30 = .ok (.istore 4, 2) := by decide +kernel
theorem dX10_shortCut_32 : decode cX10_shortCut 32 = .ok (.iload 4, 2) := by decide +kernel
theorem dX10_shortCut_34 : decode cX10_shortCut 34 = .ok (.iconst 3, 1) := by decide +kernel
theorem dX10_shortCut_35 : decode cX10_shortCut 35 = .ok (.if_icmp .ge 103, 3) := by decide +kernel
theorem dX10_shortCut_38 : decode cX10_shortCut 38 = .ok (.aload_n 0, 1) := by decide +kernel
theorem dX10_shortCut_39 : decode cX10_shortCut 39 = .ok (.iload_n 3, 1) := by decide +kernel
theorem dX10_shortCut_40 : decode cX10_shortCut 40 = .ok (.invokevirtual 125, 3) := by decide +kernel
theorem dX10_shortCut_43 : decode cX10_shortCut 43 = .ok (.ifCond .eq 89, 3) := by decide +kernel
theorem dX10_shortCut_46 : decode cX10_shortCut 46 = .ok (.aload_n 0, 1) := by decide +kernel
theorem dX10_shortCut_47 : decode cX10_shortCut 47 = .ok (.iload_n 3, 1) := by decide +kernel
theorem dX10_shortCut_48 : decode cX10_shortCut 48 = .ok (.iload 4, 2) := by decide +kernel
theorem dX10_shortCut_50 : decode cX10_shortCut 50 = .ok (.invokevirtual 113, 3) := by decide +kernel
theorem dX10_shortCut_53 : decode cX10_shortCut 53 = .ok (.bipush (-9), 2) := by decide +kernel
theorem dX10_shortCut_55 : decode cX10_shortCut 55 = .ok (.if_icmp .eq 77, 3) := by decide +kernel
theorem dX10_shortCut_58 : decode cX10_shortCut 58 = .ok (.aload_n 0, 1) := by decide +kernel
theorem dX10_shortCut_59 : decode cX10_shortCut 59 = .ok (.iload_n 3, 1) := by decide +kernel
theorem dX10_shortCut_60 : decode cX10_shortCut 60 = .ok (.iload 4, 2) := by decide +kernel
theorem dX10_shortCut_62 : decode cX10_shortCut 62 = .ok (.invokevirtual 160, 3) := by decide +kernel
theorem dX10_shortCut_65 : decode cX10_shortCut 65 = .ok (.ifCond .ne 67, 3) := by decide +kernel
theorem dX10_shortCut_68 : decode cX10_shortCut 68 = .ok (.aload_n 0, 1) := by decide +kernel
theorem dX10_shortCut_69 : decode cX10_shortCut 69 = .ok (.iload_n 3, 1) := by decide +kernel
theorem dX10_shortCut_70 : decode cX10_shortCut 70 = .ok (.iload 4, 2) := by decide +kernel
theorem dX10_shortCut_72 : decode cX10_shortCut 72 = .ok (.iconst 1, 1) := by decide +kernel
theorem dX10_shortCut_73 : decode cX10_shortCut 73 = .ok (.invokevirtual 136, 3) := by decide +kernel
theorem dX10_shortCut_76 : decode cX10_shortCut 76 = .ok (.aload_n 0, 1) := by decide +kernel
theorem dX10_shortCut_77 : decode cX10_shortCut 77 = .ok (.aload_n 0, 1) := by decide +kernel
theorem dX10_shortCut_78 : decode cX10_shortCut 78 = .ok (.getfield 103, 3) := by decide +kernel
theorem dX10_shortCut_81 : decode cX10_shortCut 81 = .ok (.aload_n 0, 1) := by decide +kernel
theorem dX10_shortCut_82 : decode cX10_shortCut 82 = .ok (.getfield 106, 3) := by decide +kernel
theorem dX10_shortCut_85 : decode cX10_shortCut 85 = .ok (.invokevirtual 177, 3) := by decide +kernel
theorem dX10_shortCut_88 : decode cX10_shortCut 88 = .ok (.istore 5, 2) := by decide +kernel
theorem dX10_shortCut_90 : decode cX10_shortCut 90 = .ok (.aload_n 0, 1) := by decide +kernel
theorem dX10_shortCut_91 : decode cX10_shortCut 91 = .ok (.iload_n 3, 1) := by decide +kernel
theorem dX10_shortCut_92 : decode cX10_shortCut 92 = .ok (.iload 4, 2) := by decide +kernel
theorem dX10_shortCut_94 : decode cX10_shortCut 94 = .ok (.iconst 0, 1) := by decide +kernel
theorem dX10_shortCut_95 : decode cX10_shortCut 95 = .ok (.invokevirtual 136, 3) := by decide +kernel
theorem dX10_shortCut_98 : decode cX10_shortCut 98 = .ok (.iload 5, 2) := by decide +kernel
theorem dX10_shortCut_100 : decode cX10_shortCut 100 = .ok (.iload_n 1, 1) := by decide +kernel
theorem dX10_shortCut_101 : decode cX10_shortCut 101 = .ok (.if_icmp .ge 16, 3) := by decide +kernel
theorem dX10_shortCut_104 : decode cX10_shortCut 104 = .ok (.bipush 10, 2) := by decide +kernel
theorem dX10_shortCut_106 : decode cX10_shortCut 106 = .ok (.iload_n 3, 1) := by decide +kernel
theorem dX10_shortCut_107 : decode cX10_shortCut 107 = .ok (.invokestatic 164, 3) := by decide +kernel
theorem dX10_shortCut_110 : decode cX10_shortCut 110 = .ok (.imul, 1) := by decide +kernel
theorem dX10_shortCut_111 : decode cX10_shortCut 111 = .ok (.iload 4, 2) := by decide +kernel
theorem dX10_shortCut_113 : decode cX10_shortCut 113 = .ok (.iadd, 1) := by decide +kernel
theorem dX10_shortCut_114 : decode cX10_shortCut 114 = .ok (.goto 4, 3) := by decide +kernel
theorem dX10_shortCut_117 : decode cX10_shortCut 117 = .ok (.iload_n 2, 1) := by decide +kernel
theorem dX10_shortCut_118 : decode cX10_shortCut 118 = .ok (.istore_n 2, 1) := by decide +kernel
theorem dX10_shortCut_119 : decode cX10_shortCut 119 = .ok (.iload 5, 2) := by decide +kernel
theorem dX10_shortCut_121 : decode cX10_shortCut 121 = .ok (.iload_n 1, 1) := by decide +kernel
theorem dX10_shortCut_122 : decode cX10_shortCut 122 = .ok (.if_icmp .ge 8, 3) := by decide +kernel
theorem dX10_shortCut_125 : decode cX10_shortCut 125 = .ok (.iload 5, 2) := by decide +kernel
theorem dX10_shortCut_127 : decode cX10_shortCut 127 = .ok (.goto 4, 3) := by decide +kernel
theorem dX10_shortCut_130 : decode cX10_shortCut 130 = .ok (.iload_n 1, 1) := by decide +kernel
theorem dX10_shortCut_131 : decode cX10_shortCut 131 = .ok (.istore_n 1, 1) := by decide +kernel
theorem dX10_shortCut_132 : decode cX10_shortCut 132 = .ok (.iinc 4 1, 3) := by decide +kernel
theorem dX10_shortCut_135 : decode cX10_shortCut 135 = .ok (.goto (-103), 3) := by decide +kernel
theorem dX10_shortCut_138 : decode cX10_shortCut 138 = .ok (.iinc 3 1, 3) := by decide +kernel
theorem dX10_shortCut_141 : decode cX10_shortCut 141 = .ok (.goto (-118), 3) := by decide +kernel
theorem dX10_shortCut_144 : decode cX10_shortCut 144 = .ok (.iload_n 2, 1) := by decide +kernel
theorem dX10_shortCut_145 : decode cX10_shortCut 145 = .ok (.ireturn, 1) := by decide +kernel
set_option maxRecDepth 20000 in
theorem ggX10_bar_X10_farOf : GoodIn wsX10_bar wsX10_farOf := goodIn_r _ [8, 9, 10, 11, 12, 7, 13, 14, 15, 16, 17, 18, 19, 20, 21, 22, 23, 24, 25, 26, 27, 28, 29, 30, 42, 43, 44, 45, 46, 47, 48, 49, 50, 51, 52, 53, 54, 55, 56, 57, 58, 59, 60, 61, 62, 63, 64, 65, 66, 67, 68, 69, 70, 71, 72, 73, 74, 75] (by decide +kernel) (by decide +kernel)
set_option maxRecDepth 20000 in
theorem gX10_bar_X10_farOf : GoodIn wsX10_bar (wsV RX10 177 RX10 yX10_farOf wsX10_farOf) := goodIn_app (goodIn_of _ (by decide +kernel)) ggX10_bar_X10_farOf
set_option maxRecDepth 20000 in
theorem ggX10_bar_X10_isThere : GoodIn wsX10_bar wsX10_isThere := goodIn_r _ [34, 26, 27, 42, 43, 44, 45, 46, 47, 48, 49, 50, 51, 52, 53, 54, 55, 56, 57, 58, 59, 60, 61, 62, 63, 64, 65, 66, 67, 68, 69, 70, 71, 72, 73, 74, 75] (by decide +kernel) (by decide +kernel)
set_option maxRecDepth 20000 in
theorem gX10_bar_X10_isThere : GoodIn wsX10_bar (wsV RX10 125 RX10 yX10_isThere wsX10_isThere) := goodIn_app (goodIn_of _ (by decide +kernel)) ggX10_bar_X10_isThere
set_option maxRecDepth 20000 in
theorem ggX10_bar_X10_isOpen : GoodIn wsX10_bar wsX10_isOpen := goodIn_r _ [19, 20, 21, 22, 23, 24, 7, 25, 26, 27, 28, 29, 30, 42, 43, 44, 45, 46, 47, 48, 49, 50, 51, 52, 53, 54, 55, 56, 57, 58, 59, 60, 61, 62, 63, 64, 65, 66, 67, 68, 69, 70, 71, 72, 73, 74, 75] (by decide +kernel) (by decide +kernel)
set_option maxRecDepth 20000 in
theorem gX10_bar_X10_isOpen : GoodIn wsX10_bar (wsV RX10 160 RX10 yX10_isOpen wsX10_isOpen) := goodIn_app (goodIn_of _ (by decide +kernel)) ggX10_bar_X10_isOpen
set_option maxRecDepth 20000 in
theorem ggX10_bar_X10_set : GoodIn wsX10_bar wsX10_set := goodIn_r _ [38, 20, 21, 22, 23, 24, 7, 25, 26, 27, 28, 29, 30, 42, 43, 44, 45, 46, 47, 48, 49, 50, 51, 52, 53, 54, 55, 56, 57, 58, 59, 60, 61, 62, 63, 64, 65, 66, 67, 68, 69, 70, 71, 72, 73, 74, 75] (by decide +kernel) (by decide +kernel)
set_option maxRecDepth 20000 in
theorem gX10_bar_X10_set : GoodIn wsX10_bar (wsV RX10 136 RX10 yX10_set wsX10_set) := goodIn_app (goodIn_of _ (by decide +kernel)) ggX10_bar_X10_set
set_option maxRecDepth 20000 in
theorem ggX10_bar_X10_code : GoodIn wsX10_bar wsX10_code := goodIn_r _ [41] (by decide +kernel) (by decide +kernel)
set_option maxRecDepth 20000 in
theorem gX10_bar_X10_code : GoodIn wsX10_bar (va_wsS RX10 164 yX10_code wsX10_code) := goodIn_app (goodIn_of _ (by decide +kernel)) ggX10_bar_X10_code
theorem dX10_bar_0 : decode cX10_bar 0 = .ok (.aload_n 0, 1) := by decide +kernel
theorem dX10_bar_1 : decode cX10_bar 1 = .ok (.iconst 0, 1) := by decide +kernel
theorem dX10_bar_2 : decode cX10_bar 2 = .ok (.putfield 79, 3) := by decide +kernel
theorem dX10_bar_5 : decode cX10_bar 5 = .ok (.aload_n 0, 1) := by decide +kernel
theorem dX10_bar_6 : decode cX10_bar 6 = .ok (.aload_n 0, 1) := by decide +kernel
theorem dX10_bar_7 : decode cX10_bar 7 = .ok (.getfield 103, 3) := by decide +kernel
theorem dX10_bar_10 : decode cX10_bar 10 = .ok (.aload_n 0, 1) := by decide +kernel
theorem dX10_bar_11 : decode cX10_bar 11 = .ok (.getfield 106, 3) := by decide +kernel
theorem dX10_bar_14 : decode cX10_bar 14 = .ok (.invokevirtual 177, 3) := by decide +kernel
theorem dX10_bar_17 : decode cX10_bar 17 = .ok (.istore_n 1, 1) := by decide +kernel
theorem dX10_bar_18 : decode cX10_bar 18 = .ok (.bipush (-9), 2) := by decide +kernel
theorem dX10_bar_20 : decode cX10_bar 20 = .ok (.istore_n 2, 1) := by decide +kernel
theorem dX10_bar_21 : decode cX10_bar 21 = .ok (.iconst 0, 1) := by decide +kernel
theorem dX10_bar_22 : decode cX10_bar 22 = .ok (.istore_n 3, 1) := by decide +kernel
theorem dX10_bar_23 : decode cX10_bar 23 = .ok (.iload_n 3, 1) := by decide +kernel
theorem dX10_bar_24 : decode cX10_bar 24 = .ok (.bipush 36, 2) := by decide +kernel
theorem dX10_bar_26 : decode cX10_bar 26 = .ok (.if_icmp .ge 125, 3) := by decide +kernel
theorem dX10_bar_29 : decode cX10_bar 29 = .ok (.iconst 1, 1) := by decide +kernel
theorem dX10_bar_30 : decode cX10_bar 30 = .ok (.istore 4, 2) := by decide +kernel
theorem dX10_bar_32 : decode cX10_bar 32 = .ok (.iload 4, 2) := by decide +kernel
theorem dX10_bar_34 : decode cX10_bar 34 = .ok (.iconst 3, 1) := by decide +kernel
theorem dX10_bar_35 : decode cX10_bar 35 = .ok (.if_icmp .ge 110, 3) := by decide +kernel
theorem dX10_bar_38 : decode cX10_bar 38 = .ok (.aload_n 0, 1) := by decide +kernel
theorem dX10_bar_39 : decode cX10_bar 39 = .ok (.iload_n 3, 1) := by decide +kernel
theorem dX10_bar_40 : decode cX10_bar 40 = .ok (.invokevirtual 125, 3) := by decide +kernel
theorem dX10_bar_43 : decode cX10_bar 43 = .ok (.ifCond .eq 96, 3) := by decide +kernel
theorem dX10_bar_46 : decode cX10_bar 46 = .ok (.aload_n 0, 1) := by decide +kernel
theorem dX10_bar_47 : decode cX10_bar 47 = .ok (.iload_n 3, 1) := by decide +kernel
theorem dX10_bar_48 : decode cX10_bar 48 = .ok (.iload 4, 2) := by decide +kernel
theorem dX10_bar_50 : decode cX10_bar 50 = .ok (.invokevirtual 160, 3) := by decide +kernel
theorem dX10_bar_53 : decode cX10_bar 53 = .ok (.ifCond .eq 86, 3) := by decide +kernel
theorem dX10_bar_56 : decode cX10_bar 56 = .ok (.aload_n 0, 1) := by decide +kernel
theorem dX10_bar_57 : decode cX10_bar 57 = .ok (.iload_n 3, 1) := by decide +kernel
theorem dX10_bar_58 : decode cX10_bar 58 = .ok (.iload 4, 2) := by decide +kernel
theorem dX10_bar_60 : decode cX10_bar 60 = .ok (.iconst 0, 1) := by decide +kernel
theorem dX10_bar_61 : decode cX10_bar 61 = .ok (.invokevirtual 136, 3) := by decide +kernel
theorem dX10_bar_64 : decode cX10_bar 64 = .ok (.aload_n 0, 1) := by decide +kernel
theorem dX10_bar_65 : decode cX10_bar 65 = .ok (.aload_n 0, 1) := by decide +kernel
theorem dX10_bar_66 : decode cX10_bar 66 = .ok (.getfield 103, 3) := by decide +kernel
theorem dX10_bar_69 : decode cX10_bar 69 = .ok (.aload_n 0, 1) := by decide +kernel
theorem dX10_bar_70 : decode cX10_bar 70 = .ok (.getfield 106, 3) := by decide +kernel
theorem dX10_bar_73 : decode cX10_bar 73 = .ok (.invokevirtual 177, 3) := by decide +kernel
theorem dX10_bar_76 : decode cX10_bar 76 = .ok (.istore 5, 2) := by decide +kernel
theorem dX10_bar_78 : decode cX10_bar 78 = .ok (.aload_n 0, 1) := by decide +kernel
theorem dX10_bar_79 : decode cX10_bar 79 = .ok (.iload_n 3, 1) := by decide +kernel
theorem dX10_bar_80 : decode cX10_bar 80 = .ok (.iload 4, 2) := by decide +kernel
theorem dX10_bar_82 : decode cX10_bar 82 = .ok (.iconst 1, 1) := by decide +kernel
theorem dX10_bar_83 : decode cX10_bar 83 = .ok (.invokevirtual 136, 3) := by decide +kernel
theorem dX10_bar_86 : decode cX10_bar 86 = .ok (.iload 5, 2) := by decide +kernel
theorem dX10_bar_88 : decode cX10_bar 88 = .ok (.sipush 9999, 3) := by decide +kernel
theorem dX10_bar_91 : decode cX10_bar 91 = .ok (.if_icmp .ge 13, 3) := by decide +kernel
theorem dX10_bar_94 : decode cX10_bar 94 = .ok (.iload 5, 2) := by decide +kernel
theorem dX10_bar_96 : decode cX10_bar 96 = .ok (.iload_n 1, 1) := by decide +kernel
theorem dX10_bar_97 : decode cX10_bar 97 = .ok (.if_icmp .le 7, 3) := by decide +kernel
theorem dX10_bar_100 : decode cX10_bar 100 = .ok (.iconst 1, 1) := by decide +kernel
theorem dX10_bar_101 : decode cX10_bar 101 = .ok (.goto 4, 3) := by decide +kernel
theorem dX10_bar_104 : decode cX10_bar 104 = .ok (.iconst 0, 1) := by decide +kernel
theorem dX10_bar_105 : decode cX10_bar 105 = .ok (.istore 6, 2) := by decide +kernel
theorem dX10_bar_107 : decode cX10_bar 107 = .ok (.iload 6, 2) := by decide +kernel
theorem dX10_bar_109 : decode cX10_bar 109 = .ok (.ifCond .eq 16, 3) := by decide +kernel
theorem dX10_bar_112 : decode cX10_bar 112 = .ok (.bipush 10, 2) := by decide +kernel
theorem dX10_bar_114 : decode cX10_bar 114 = .ok (.iload_n 3, 1) := by decide +kernel
theorem dX10_bar_115 : decode cX10_bar 115 = .ok (.invokestatic 164, 3) := by decide +kernel
theorem dX10_bar_118 : decode cX10_bar 118 = .ok (.imul, 1) := by decide +kernel
theorem dX10_bar_119 : decode cX10_bar 119 = .ok (.iload 4, 2) := by decide +kernel
theorem dX10_bar_121 : decode cX10_bar 121 = .ok (.iadd, 1) := by decide +kernel
theorem dX10_bar_122 : decode cX10_bar 122 = .ok (.goto 4, 3) := by decide +kernel
theorem dX10_bar_125 : decode cX10_bar 125 = .ok (.iload_n 2, 1) := by decide +kernel
theorem dX10_bar_126 : decode cX10_bar 126 = .ok (.istore_n 2, 1) := by decide +kernel
theorem dX10_bar_127 : decode cX10_bar 127 = .ok (.iload 6, 2) := by decide +kernel
theorem dX10_bar_129 : decode cX10_bar 129 = .ok (.ifCond .eq 8, 3) := by decide +kernel
theorem dX10_bar_132 : decode cX10_bar 132 = .ok (.iload 5, 2) := by decide +kernel
theorem dX10_bar_134 : decode cX10_bar 134 = .ok (.goto 4, 3) := by decide +kernel
theorem dX10_bar_137 : decode cX10_bar 137 = .ok (.iload_n 1, 1) := by decide +kernel
theorem dX10_bar_138 : decode cX10_bar 138 = .ok (.istore_n 1, 1) := by decide +kernel
theorem dX10_bar_139 : decode cX10_bar 139 = .ok (.iinc 4 1, 3) := by decide +kernel
theorem dX10_bar_142 : decode cX10_bar 142 = .ok (.goto (-110), 3) := by decide +kernel
theorem dX10_bar_145 : decode cX10_bar 145 = .ok (.iinc 3 1, 3) := by decide +kernel
theorem dX10_bar_148 : decode cX10_bar 148 = .ok (.goto (-125), 3) := by decide +kernel
theorem dX10_bar_151 : decode cX10_bar 151 = .ok (.iload_n 2, 1) := by decide +kernel
theorem dX10_bar_152 : decode cX10_bar 152 = .ok (.ireturn, 1) := by decide +kernel
set_option maxRecDepth 20000 in
theorem ggX10_goes_X10_isOpen : GoodIn wsX10_goes wsX10_isOpen := goodIn_r _ [5, 6, 7, 8, 9, 10, 4, 11, 12, 13, 14, 15, 16, 17, 18, 19, 20, 21, 22, 23, 24, 25, 26, 27, 28, 29, 30, 31, 32, 33, 34, 35, 36, 37, 38, 39, 40, 41, 42, 43, 44, 45, 46, 47, 48, 49, 50] (by decide +kernel) (by decide +kernel)
set_option maxRecDepth 20000 in
theorem gX10_goes_X10_isOpen : GoodIn wsX10_goes (wsV RX10 160 RX10 yX10_isOpen wsX10_isOpen) := goodIn_app (goodIn_of _ (by decide +kernel)) ggX10_goes_X10_isOpen
set_option maxRecDepth 20000 in
theorem ggX10_goes_X10_beside : GoodIn wsX10_goes wsX10_beside := goodIn_r _ [11, 12, 13, 14, 15, 4, 16, 17, 18, 19, 20, 21, 22, 23, 24, 25, 26, 27, 28, 29, 30, 31, 32, 33, 34, 35, 36, 37, 38, 39, 40, 41, 42, 43, 44, 45, 46, 47, 48, 49, 50] (by decide +kernel) (by decide +kernel)
set_option maxRecDepth 20000 in
theorem gX10_goes_X10_beside : GoodIn wsX10_goes (wsV RX10 113 RX10 yX10_beside wsX10_beside) := goodIn_app (goodIn_of _ (by decide +kernel)) ggX10_goes_X10_beside
theorem dX10_goes_0 : decode cX10_goes 0 = .ok (.iload_n 2, 1) := by decide +kernel
theorem dX10_goes_1 : decode cX10_goes 1 = .ok (.iconst 4, 1) := by decide +kernel
theorem dX10_goes_2 : decode cX10_goes 2 = .ok (.if_icmp .ne 7, 3) := by decide +kernel
theorem dX10_goes_5 : decode cX10_goes 5 = .ok (.iload_n 1, 1) := by decide +kernel
theorem dX10_goes_6 : decode cX10_goes 6 = .ok (.goto 23, 3) := by decide +kernel
theorem dX10_goes_9 : decode cX10_goes 9 = .ok (.aload_n 0, 1) := by decide +kernel
theorem dX10_goes_10 : decode cX10_goes 10 = .ok (.iload_n 1, 1) := by decide +kernel
theorem dX10_goes_11 : decode cX10_goes 11 = .ok (.iload_n 2, 1) := by decide +kernel
theorem dX10_goes_12 : decode cX10_goes 12 = .ok (.invokevirtual 160, 3) := by decide +kernel
theorem dX10_goes_15 : decode cX10_goes 15 = .ok (.ifCond .eq 12, 3) := by decide +kernel
theorem dX10_goes_18 : decode cX10_goes 18 = .ok (.aload_n 0, 1) := by decide +kernel
theorem dX10_goes_19 : decode cX10_goes 19 = .ok (.iload_n 1, 1) := by decide +kernel
theorem dX10_goes_20 : decode cX10_goes 20 = .ok (.iload_n 2, 1) := by decide +kernel
theorem dX10_goes_21 : decode cX10_goes 21 = .ok (.invokevirtual 113, 3) := by decide +kernel
theorem dX10_goes_24 : decode cX10_goes 24 = .ok (.goto 5, 3) := by decide +kernel
theorem dX10_goes_27 : decode cX10_goes 27 = .ok (.bipush (-9), 2) := by decide +kernel
theorem dX10_goes_29 : decode cX10_goes 29 = .ok (.ireturn, 1) := by decide +kernel
set_option maxRecDepth 20000 in
theorem ggX10_homeBehind_X10_goes : GoodIn wsX10_homeBehind wsX10_goes := goodIn_r _ [7, 8, 9, 10, 6, 11, 12, 13, 14, 15, 16, 17, 18, 19, 20, 21, 22, 23, 24, 25, 26, 27, 28, 29, 30, 31, 32, 33, 34, 35, 36, 37, 38, 39, 40, 41, 42, 43, 44, 45, 46, 47, 48, 49, 50, 51, 52, 53, 54, 55, 56] (by decide +kernel) (by decide +kernel)
set_option maxRecDepth 20000 in
theorem gX10_homeBehind_X10_goes : GoodIn wsX10_homeBehind (wsV RX10 232 RX10 yX10_goes wsX10_goes) := goodIn_app (goodIn_of _ (by decide +kernel)) ggX10_homeBehind_X10_goes
theorem dX10_homeBehind_0 : decode cX10_homeBehind 0 = .ok (.iload_n 1, 1) := by decide +kernel
theorem dX10_homeBehind_1 : decode cX10_homeBehind 1 = .ok (.aload_n 0, 1) := by decide +kernel
theorem dX10_homeBehind_2 : decode cX10_homeBehind 2 = .ok (.getfield 106, 3) := by decide +kernel
theorem dX10_homeBehind_5 : decode cX10_homeBehind 5 = .ok (.if_icmp .ne 10, 3) := by decide +kernel
theorem dX10_homeBehind_8 : decode cX10_homeBehind 8 = .ok (.iload_n 1, 1) := by decide +kernel
theorem dX10_homeBehind_9 : decode cX10_homeBehind 9 = .ok (.iload_n 2, 1) := by decide +kernel
theorem dX10_homeBehind_10 : decode cX10_homeBehind 10 = .ok (.if_icmp .eq 5, 3) := by decide +kernel
theorem dX10_homeBehind_13 : decode cX10_homeBehind 13 = .ok (.iconst 1, 1) := by decide +kernel
theorem dX10_homeBehind_14 : decode cX10_homeBehind 14 = .ok (.ireturn, 1) := by decide +kernel
theorem dX10_homeBehind_15 : decode cX10_homeBehind 15 = .ok (.iload_n 1, 1) := by decide +kernel
theorem dX10_homeBehind_16 : decode cX10_homeBehind 16 = .ok (.iload_n 2, 1) := by decide +kernel
theorem dX10_homeBehind_17 : decode cX10_homeBehind 17 = .ok (.if_icmp .ne 9, 3) := by decide +kernel
theorem dX10_homeBehind_20 : decode cX10_homeBehind 20 = .ok (.sipush 9999, 3) := by decide +kernel
theorem dX10_homeBehind_23 : decode cX10_homeBehind 23 = .ok (.goto 4, 3) := by decide +kernel
theorem dX10_homeBehind_26 : decode cX10_homeBehind 26 = .ok (.iconst 0, 1) := by decide +kernel
theorem dX10_homeBehind_27 : decode cX10_homeBehind 27 = .ok (.istore_n 3, 1) := by decide +kernel
theorem dX10_homeBehind_28 : decode cX10_homeBehind 28 = .ok (.iconst 0, 1) := by decide +kernel
theorem dX10_homeBehind_29 : decode cX10_homeBehind 29 = .ok (.istore 4, 2) := by decide +kernel
theorem dX10_homeBehind_31 : decode cX10_homeBehind 31 = .ok (.iload 4, 2) := by decide +kernel
theorem dX10_homeBehind_33 : decode cX10_homeBehind 33 = .ok (.iconst 5, 1) := by decide +kernel
theorem dX10_homeBehind_34 : decode cX10_homeBehind 34 = .ok (.if_icmp .ge 71, 3) := by decide +kernel
theorem dX10_homeBehind_37 : decode cX10_homeBehind 37 = .ok (.iload_n 3, 1) := by decide +kernel
theorem dX10_homeBehind_38 : decode cX10_homeBehind 38 = .ok (.sipush 9999, 3) := by decide +kernel
theorem dX10_homeBehind_41 : decode cX10_homeBehind 41 = .ok (.if_icmp .ge 64, 3) := by decide +kernel
theorem dX10_homeBehind_44 : decode cX10_homeBehind 44 = .ok (.aload_n 0, 1) := by decide +kernel
theorem dX10_homeBehind_45 : decode cX10_homeBehind 45 = .ok (.iload_n 2, 1) := by decide +kernel
theorem dX10_homeBehind_46 : decode cX10_homeBehind 46 = .ok (.iload 4, 2) := by decide +kernel
theorem dX10_homeBehind_48 : decode cX10_homeBehind 48 = .ok (.invokevirtual 232, 3) := by decide +kernel
theorem dX10_homeBehind_51 : decode cX10_homeBehind 51 = .ok (.istore 5, 2) := by decide +kernel
theorem dX10_homeBehind_53 : decode cX10_homeBehind 53 = .ok (.iload 5, 2) := by decide +kernel
theorem dX10_homeBehind_55 : decode cX10_homeBehind 55 = .ok (.bipush (-9), 2) := by decide +kernel
theorem dX10_homeBehind_57 : decode cX10_homeBehind 57 = .ok (.if_icmp .eq 42, 3) := by decide +kernel
theorem dX10_homeBehind_60 : decode cX10_homeBehind 60 = .ok (.iload 5, 2) := by decide +kernel
theorem dX10_homeBehind_62 : decode cX10_homeBehind 62 = .ok (.iload_n 1, 1) := by decide +kernel
theorem dX10_homeBehind_63 : decode cX10_homeBehind 63 = .ok (.if_icmp .ne 9, 3) := by decide +kernel
theorem dX10_homeBehind_66 : decode cX10_homeBehind 66 = .ok (.sipush 9999, 3) := by decide +kernel
theorem dX10_homeBehind_69 : decode cX10_homeBehind 69 = .ok (.goto 15, 3) := by decide +kernel
theorem dX10_homeBehind_72 : decode cX10_homeBehind 72 = .ok (.aload_n 0, 1) := by decide +kernel
theorem dX10_homeBehind_73 : decode cX10_homeBehind 73 = .ok (.getfield 70, 3) := by decide +kernel
theorem dX10_homeBehind_76 : decode cX10_homeBehind 76 = .ok (.bipush 36, 2) := by decide +kernel
theorem dX10_homeBehind_78 : decode cX10_homeBehind 78 = .ok (.iload_n 1, 1) := by decide +kernel
theorem dX10_homeBehind_79 : decode cX10_homeBehind 79 = .ok (.imul, 1) := by decide +kernel
theorem dX10_homeBehind_80 : decode cX10_homeBehind 80 = .ok (.iload 5, 2) := by decide +kernel
theorem dX10_homeBehind_82 : decode cX10_homeBehind 82 = .ok (.iadd, 1) := by decide +kernel
theorem dX10_homeBehind_83 : decode cX10_homeBehind 83 = .ok (.iaload, 1) := by decide +kernel
theorem dX10_homeBehind_84 : decode cX10_homeBehind 84 = .ok (.istore 6, 2) := by decide +kernel
theorem dX10_homeBehind_86 : decode cX10_homeBehind 86 = .ok (.iload 6, 2) := by decide +kernel
theorem dX10_homeBehind_88 : decode cX10_homeBehind 88 = .ok (.iload_n 3, 1) := by decide +kernel
theorem dX10_homeBehind_89 : decode cX10_homeBehind 89 = .ok (.if_icmp .le 8, 3) := by decide +kernel
theorem dX10_homeBehind_92 : decode cX10_homeBehind 92 = .ok (.iload 6, 2) := by decide +kernel
theorem dX10_homeBehind_94 : decode cX10_homeBehind 94 = .ok (.goto 4, 3) := by decide +kernel
theorem dX10_homeBehind_97 : decode cX10_homeBehind 97 = .ok (.iload_n 3, 1) := by decide +kernel
theorem dX10_homeBehind_98 : decode cX10_homeBehind 98 = .ok (.istore_n 3, 1) := by decide +kernel
theorem dX10_homeBehind_99 : decode cX10_homeBehind 99 = .ok (.iinc 4 1, 3) := by decide +kernel
theorem dX10_homeBehind_102 : decode cX10_homeBehind 102 = .ok (.goto (-71), 3) := by decide +kernel
theorem dX10_homeBehind_105 : decode cX10_homeBehind 105 = .ok (.iload_n 3, 1) := by decide +kernel
theorem dX10_homeBehind_106 : decode cX10_homeBehind 106 = .ok (.sipush 9999, 3) := by decide +kernel
theorem dX10_homeBehind_109 : decode cX10_homeBehind 109 = .ok (.if_icmp .ge 9, 3) := by decide +kernel
theorem dX10_homeBehind_112 : decode cX10_homeBehind 112 = .ok (.iload_n 3, 1) := by decide +kernel
theorem dX10_homeBehind_113 : decode cX10_homeBehind 113 = .ok (.iconst 1, 1) := by decide +kernel
theorem dX10_homeBehind_114 : decode cX10_homeBehind 114 = .ok (.iadd, 1) := by decide +kernel
theorem dX10_homeBehind_115 : decode cX10_homeBehind 115 = .ok (.goto 6, 3) := by decide +kernel
theorem dX10_homeBehind_118 : decode cX10_homeBehind 118 = .ok (.sipush 9999, 3) := by decide +kernel
theorem dX10_homeBehind_121 : decode cX10_homeBehind 121 = .ok (.ireturn, 1) := by decide +kernel
set_option maxRecDepth 20000 in
theorem ggX10_caughtBehind_X10_goes : GoodIn wsX10_caughtBehind wsX10_goes := goodIn_r _ [7, 8, 9, 10, 6, 11, 12, 13, 14, 15, 16, 17, 18, 19, 20, 21, 22, 23, 24, 25, 26, 27, 28, 29, 30, 31, 32, 33, 34, 35, 36, 37, 38, 39, 40, 41, 42, 43, 44, 45, 46, 47, 48, 49, 50, 51, 52, 53, 54, 55, 56] (by decide +kernel) (by decide +kernel)
set_option maxRecDepth 20000 in
theorem gX10_caughtBehind_X10_goes : GoodIn wsX10_caughtBehind (wsV RX10 232 RX10 yX10_goes wsX10_goes) := goodIn_app (goodIn_of _ (by decide +kernel)) ggX10_caughtBehind_X10_goes
theorem dX10_caughtBehind_0 : decode cX10_caughtBehind 0 = .ok (.iload_n 1, 1) := by decide +kernel
theorem dX10_caughtBehind_1 : decode cX10_caughtBehind 1 = .ok (.aload_n 0, 1) := by decide +kernel
theorem dX10_caughtBehind_2 : decode cX10_caughtBehind 2 = .ok (.getfield 106, 3) := by decide +kernel
theorem dX10_caughtBehind_5 : decode cX10_caughtBehind 5 = .ok (.if_icmp .eq 8, 3) := by decide +kernel
theorem dX10_caughtBehind_8 : decode cX10_caughtBehind 8 = .ok (.iload_n 1, 1) := by decide +kernel
theorem dX10_caughtBehind_9 : decode cX10_caughtBehind 9 = .ok (.iload_n 2, 1) := by decide +kernel
theorem dX10_caughtBehind_10 : decode cX10_caughtBehind 10 = .ok (.if_icmp .ne 16, 3) := by decide +kernel
theorem dX10_caughtBehind_13 : decode cX10_caughtBehind 13 = .ok (.iload_n 1, 1) := by decide +kernel
theorem dX10_caughtBehind_14 : decode cX10_caughtBehind 14 = .ok (.iload_n 2, 1) := by decide +kernel
theorem dX10_caughtBehind_15 : decode cX10_caughtBehind 15 = .ok (.if_icmp .ne 7, 3) := by decide +kernel
theorem dX10_caughtBehind_18 : decode cX10_caughtBehind 18 = .ok (.iconst 0, 1) := by decide +kernel
theorem dX10_caughtBehind_19 : decode cX10_caughtBehind 19 = .ok (.goto 6, 3) := by decide +kernel
theorem dX10_caughtBehind_22 : decode cX10_caughtBehind 22 = .ok (.sipush 9999, 3) := by decide +kernel
theorem dX10_caughtBehind_25 : decode cX10_caughtBehind 25 = .ok (.ireturn, 1) := by decide +kernel
theorem dX10_caughtBehind_26 : decode cX10_caughtBehind 26 = .ok (.sipush 9999, 3) := by decide +kernel
theorem dX10_caughtBehind_29 : decode cX10_caughtBehind 29 = .ok (.istore_n 3, 1) := by decide +kernel
theorem dX10_caughtBehind_30 : decode cX10_caughtBehind 30 = .ok (.iconst 0, 1) := by decide +kernel
theorem dX10_caughtBehind_31 : decode cX10_caughtBehind 31 = .ok (.istore 4, 2) := by decide +kernel
theorem dX10_caughtBehind_33 : decode cX10_caughtBehind 33 = .ok (.iload 4, 2) := by decide +kernel
theorem dX10_caughtBehind_35 : decode cX10_caughtBehind 35 = .ok (.iconst 5, 1) := by decide +kernel
theorem dX10_caughtBehind_36 : decode cX10_caughtBehind 36 = .ok (.if_icmp .ge 62, 3) := by decide +kernel
theorem dX10_caughtBehind_39 : decode cX10_caughtBehind 39 = .ok (.aload_n 0, 1) := by decide +kernel
theorem dX10_caughtBehind_40 : decode cX10_caughtBehind 40 = .ok (.iload_n 2, 1) := by decide +kernel
theorem dX10_caughtBehind_41 : decode cX10_caughtBehind 41 = .ok (.iload 4, 2) := by decide +kernel
theorem dX10_caughtBehind_43 : decode cX10_caughtBehind 43 = .ok (.invokevirtual 232, 3) := by decide +kernel
theorem dX10_caughtBehind_46 : decode cX10_caughtBehind 46 = .ok (.istore 5, 2) := by decide +kernel
theorem dX10_caughtBehind_48 : decode cX10_caughtBehind 48 = .ok (.iload 5, 2) := by decide +kernel
theorem dX10_caughtBehind_50 : decode cX10_caughtBehind 50 = .ok (.bipush (-9), 2) := by decide +kernel
theorem dX10_caughtBehind_52 : decode cX10_caughtBehind 52 = .ok (.if_icmp .eq 40, 3) := by decide +kernel
theorem dX10_caughtBehind_55 : decode cX10_caughtBehind 55 = .ok (.iload 5, 2) := by decide +kernel
theorem dX10_caughtBehind_57 : decode cX10_caughtBehind 57 = .ok (.iload_n 1, 1) := by decide +kernel
theorem dX10_caughtBehind_58 : decode cX10_caughtBehind 58 = .ok (.if_icmp .ne 7, 3) := by decide +kernel
theorem dX10_caughtBehind_61 : decode cX10_caughtBehind 61 = .ok (.iconst 0, 1) := by decide +kernel
theorem dX10_caughtBehind_62 : decode cX10_caughtBehind 62 = .ok (.goto 15, 3) := by decide +kernel
theorem dX10_caughtBehind_65 : decode cX10_caughtBehind 65 = .ok (.aload_n 0, 1) := by decide +kernel
theorem dX10_caughtBehind_66 : decode cX10_caughtBehind 66 = .ok (.getfield 70, 3) := by decide +kernel
theorem dX10_caughtBehind_69 : decode cX10_caughtBehind 69 = .ok (.bipush 36, 2) := by decide +kernel
theorem dX10_caughtBehind_71 : decode cX10_caughtBehind 71 = .ok (.iload_n 1, 1) := by decide +kernel
theorem dX10_caughtBehind_72 : decode cX10_caughtBehind 72 = .ok (.imul, 1) := by decide +kernel
theorem dX10_caughtBehind_73 : decode cX10_caughtBehind 73 = .ok (.iload 5, 2) := by decide +kernel
theorem dX10_caughtBehind_75 : decode cX10_caughtBehind 75 = .ok (.iadd, 1) := by decide +kernel
theorem dX10_caughtBehind_76 : decode cX10_caughtBehind 76 = .ok (.iaload, 1) := by decide +kernel
theorem dX10_caughtBehind_77 : decode cX10_caughtBehind 77 = .ok (.istore 6, 2) := by decide +kernel
theorem dX10_caughtBehind_79 : decode cX10_caughtBehind 79 = .ok (.iload 6, 2) := by decide +kernel
theorem dX10_caughtBehind_81 : decode cX10_caughtBehind 81 = .ok (.iload_n 3, 1) := by decide +kernel
theorem dX10_caughtBehind_82 : decode cX10_caughtBehind 82 = .ok (.if_icmp .ge 8, 3) := by decide +kernel
theorem dX10_caughtBehind_85 : decode cX10_caughtBehind 85 = .ok (.iload 6, 2) := by decide +kernel
theorem dX10_caughtBehind_87 : decode cX10_caughtBehind 87 = .ok (.goto 4, 3) := by decide +kernel
theorem dX10_caughtBehind_90 : decode cX10_caughtBehind 90 = .ok (.iload_n 3, 1) := by decide +kernel
theorem dX10_caughtBehind_91 : decode cX10_caughtBehind 91 = .ok (.istore_n 3, 1) := by decide +kernel
theorem dX10_caughtBehind_92 : decode cX10_caughtBehind 92 = .ok (.iinc 4 1, 3) := by decide +kernel
theorem dX10_caughtBehind_95 : decode cX10_caughtBehind 95 = .ok (.goto (-62), 3) := by decide +kernel
theorem dX10_caughtBehind_98 : decode cX10_caughtBehind 98 = .ok (.iload_n 3, 1) := by decide +kernel
theorem dX10_caughtBehind_99 : decode cX10_caughtBehind 99 = .ok (.sipush 9999, 3) := by decide +kernel
theorem dX10_caughtBehind_102 : decode cX10_caughtBehind 102 = .ok (.if_icmp .ge 9, 3) := by decide +kernel
theorem dX10_caughtBehind_105 : decode cX10_caughtBehind 105 = .ok (.iload_n 3, 1) := by decide +kernel
theorem dX10_caughtBehind_106 : decode cX10_caughtBehind 106 = .ok (.iconst 1, 1) := by decide +kernel
theorem dX10_caughtBehind_107 : decode cX10_caughtBehind 107 = .ok (.iadd, 1) := by decide +kernel
theorem dX10_caughtBehind_108 : decode cX10_caughtBehind 108 = .ok (.goto 6, 3) := by decide +kernel
theorem dX10_caughtBehind_111 : decode cX10_caughtBehind 111 = .ok (.sipush 9999, 3) := by decide +kernel
theorem dX10_caughtBehind_114 : decode cX10_caughtBehind 114 = .ok (.ireturn, 1) := by decide +kernel
set_option maxRecDepth 20000 in
theorem ggX10_turnsOf_X10_goes : GoodIn wsX10_turnsOf wsX10_goes := goodIn_r _ [6, 7, 8, 9, 5, 10, 11, 12, 13, 14, 15, 16, 17, 18, 19, 20, 21, 31, 32, 33, 34, 35, 36, 37, 38, 39, 40, 41, 42, 43, 44, 45, 46, 47, 48, 49, 50, 51, 52, 53, 54, 55, 56, 57, 58, 59, 60, 61, 62, 63, 64] (by decide +kernel) (by decide +kernel)
set_option maxRecDepth 20000 in
theorem gX10_turnsOf_X10_goes : GoodIn wsX10_turnsOf (wsV RX10 232 RX10 yX10_goes wsX10_goes) := goodIn_app (goodIn_of _ (by decide +kernel)) ggX10_turnsOf_X10_goes
set_option maxRecDepth 20000 in
theorem ggX10_turnsOf_X10_homeBehind : GoodIn wsX10_turnsOf wsX10_homeBehind := goodIn_r _ [25, 1, 26, 2, 3, 4, 5, 6, 7, 8, 9, 10, 11, 12, 13, 14, 15, 16, 17, 18, 19, 20, 21, 31, 32, 33, 34, 35, 36, 37, 38, 39, 40, 41, 42, 43, 44, 45, 46, 47, 48, 49, 50, 51, 52, 53, 54, 55, 56, 57, 58, 59, 60, 61, 62, 63, 64] (by decide +kernel) (by decide +kernel)
set_option maxRecDepth 20000 in
theorem gX10_turnsOf_X10_homeBehind : GoodIn wsX10_turnsOf (wsV RX10 235 RX10 yX10_homeBehind wsX10_homeBehind) := goodIn_app (goodIn_of _ (by decide +kernel)) ggX10_turnsOf_X10_homeBehind
set_option maxRecDepth 20000 in
theorem ggX10_turnsOf_X10_caughtBehind : GoodIn wsX10_turnsOf wsX10_caughtBehind := goodIn_r _ [30, 1, 26, 2, 3, 4, 5, 6, 7, 8, 9, 10, 11, 12, 13, 14, 15, 16, 17, 18, 19, 20, 21, 31, 32, 33, 34, 35, 36, 37, 38, 39, 40, 41, 42, 43, 44, 45, 46, 47, 48, 49, 50, 51, 52, 53, 54, 55, 56, 57, 58, 59, 60, 61, 62, 63, 64] (by decide +kernel) (by decide +kernel)
set_option maxRecDepth 20000 in
theorem gX10_turnsOf_X10_caughtBehind : GoodIn wsX10_turnsOf (wsV RX10 238 RX10 yX10_caughtBehind wsX10_caughtBehind) := goodIn_app (goodIn_of _ (by decide +kernel)) ggX10_turnsOf_X10_caughtBehind
theorem dX10_turnsOf_0 : decode cX10_turnsOf 0 = .ok (.iload_n 1, 1) := by decide +kernel
theorem dX10_turnsOf_1 : decode cX10_turnsOf 1 = .ok (.aload_n 0, 1) := by decide +kernel
theorem dX10_turnsOf_2 : decode cX10_turnsOf 2 = .ok (.getfield 106, 3) := by decide +kernel
theorem dX10_turnsOf_5 : decode cX10_turnsOf 5 = .ok (.if_icmp .ne 15, 3) := by decide +kernel
theorem dX10_turnsOf_8 : decode cX10_turnsOf 8 = .ok (.iload_n 3, 1) := by decide +kernel
theorem dX10_turnsOf_9 : decode cX10_turnsOf 9 = .ok (.ifCond .eq 7, 3) := by decide +kernel
theorem dX10_turnsOf_12 : decode cX10_turnsOf 12 = .ok (.iconst 0, 1) := by decide +kernel
theorem dX10_turnsOf_13 : decode cX10_turnsOf 13 = .ok (.goto 6, 3) := by decide +kernel
theorem dX10_turnsOf_16 : decode cX10_turnsOf 16 = .ok (.sipush 9999, 3) := by decide +kernel
theorem dX10_turnsOf_19 : decode cX10_turnsOf 19 = .ok (.ireturn, 1) := by decide +kernel
theorem dX10_turnsOf_20 : decode cX10_turnsOf 20 = .ok (.iload_n 1, 1) := by decide +kernel
theorem dX10_turnsOf_21 : decode cX10_turnsOf 21 = .ok (.iload_n 2, 1) := by decide +kernel
theorem dX10_turnsOf_22 : decode cX10_turnsOf 22 = .ok (.if_icmp .ne 15, 3) := by decide +kernel
theorem dX10_turnsOf_25 : decode cX10_turnsOf 25 = .ok (.iload_n 3, 1) := by decide +kernel
theorem dX10_turnsOf_26 : decode cX10_turnsOf 26 = .ok (.ifCond .eq 9, 3) := by decide +kernel
theorem dX10_turnsOf_29 : decode cX10_turnsOf 29 = .ok (.sipush 9999, 3) := by decide +kernel
theorem dX10_turnsOf_32 : decode cX10_turnsOf 32 = .ok (.goto 4, 3) := by decide +kernel
theorem dX10_turnsOf_35 : decode cX10_turnsOf 35 = .ok (.iconst 0, 1) := by decide +kernel
theorem dX10_turnsOf_36 : decode cX10_turnsOf 36 = .ok (.ireturn, 1) := by decide +kernel
theorem dX10_turnsOf_37 : decode cX10_turnsOf 37 = .ok (.iload_n 3, 1) := by decide +kernel
theorem dX10_turnsOf_38 : decode cX10_turnsOf 38 = .ok (.ifCond .eq 9, 3) := by decide +kernel
theorem dX10_turnsOf_41 : decode cX10_turnsOf 41 = .ok (.sipush 9999, 3) := by decide +kernel
theorem dX10_turnsOf_44 : decode cX10_turnsOf 44 = .ok (.goto 4, 3) := by decide +kernel
theorem dX10_turnsOf_47 : decode cX10_turnsOf 47 = .ok (.iconst 0, 1) := by decide +kernel
theorem dX10_turnsOf_48 : decode cX10_turnsOf 48 = .ok (.istore 4, 2) := by decide +kernel
theorem dX10_turnsOf_50 : decode cX10_turnsOf 50 = .ok (.iconst 0, 1) := by decide +kernel
theorem dX10_turnsOf_51 : decode cX10_turnsOf 51 = .ok (.istore 5, 2) := by decide +kernel
theorem dX10_turnsOf_53 : decode cX10_turnsOf 53 = .ok (.iload 5, 2) := by decide +kernel
theorem dX10_turnsOf_55 : decode cX10_turnsOf 55 = .ok (.iconst 5, 1) := by decide +kernel
theorem dX10_turnsOf_56 : decode cX10_turnsOf 56 = .ok (.if_icmp .ge 85, 3) := by decide +kernel
theorem dX10_turnsOf_59 : decode cX10_turnsOf 59 = .ok (.aload_n 0, 1) := by decide +kernel
theorem dX10_turnsOf_60 : decode cX10_turnsOf 60 = .ok (.iload_n 1, 1) := by decide +kernel
theorem dX10_turnsOf_61 : decode cX10_turnsOf 61 = .ok (.iload 5, 2) := by decide +kernel
theorem dX10_turnsOf_63 : decode cX10_turnsOf 63 = .ok (.invokevirtual 232, 3) := by decide +kernel
theorem dX10_turnsOf_66 : decode cX10_turnsOf 66 = .ok (.istore 6, 2) := by decide +kernel
theorem dX10_turnsOf_68 : decode cX10_turnsOf 68 = .ok (.iload 6, 2) := by decide +kernel
theorem dX10_turnsOf_70 : decode cX10_turnsOf 70 = .ok (.bipush (-9), 2) := by decide +kernel
theorem dX10_turnsOf_72 : decode cX10_turnsOf 72 = .ok (.if_icmp .eq 63, 3) := by decide +kernel
theorem dX10_turnsOf_75 : decode cX10_turnsOf 75 = .ok (.iload_n 3, 1) := by decide +kernel
theorem dX10_turnsOf_76 : decode cX10_turnsOf 76 = .ok (.ifCond .eq 13, 3) := by decide +kernel
theorem dX10_turnsOf_79 : decode cX10_turnsOf 79 = .ok (.aload_n 0, 1) := by decide +kernel
theorem dX10_turnsOf_80 : decode cX10_turnsOf 80 = .ok (.iload 6, 2) := by decide +kernel
theorem dX10_turnsOf_82 : decode cX10_turnsOf 82 = .ok (.iload_n 2, 1) := by decide +kernel
theorem dX10_turnsOf_83 : decode cX10_turnsOf 83 = .ok (.invokevirtual 235, 3) := by decide +kernel
theorem dX10_turnsOf_86 : decode cX10_turnsOf 86 = .ok (.goto 10, 3) := by decide +kernel
theorem dX10_turnsOf_89 : decode cX10_turnsOf 89 = .ok (.aload_n 0, 1) := by decide +kernel
theorem dX10_turnsOf_90 : decode cX10_turnsOf 90 = .ok (.iload 6, 2) := by decide +kernel
theorem dX10_turnsOf_92 : decode cX10_turnsOf 92 = .ok (.iload_n 2, 1) := by decide +kernel
theorem dX10_turnsOf_93 : decode cX10_turnsOf 93 = .ok (.invokevirtual 238, 3) := by decide +kernel
theorem dX10_turnsOf_96 : decode cX10_turnsOf 96 = .ok (.istore 7, 2) := by decide +kernel
theorem dX10_turnsOf_98 : decode cX10_turnsOf 98 = .ok (.iload_n 3, 1) := by decide +kernel
theorem dX10_turnsOf_99 : decode cX10_turnsOf 99 = .ok (.ifCond .eq 20, 3) := by decide +kernel
theorem dX10_turnsOf_102 : decode cX10_turnsOf 102 = .ok (.iload 7, 2) := by decide +kernel
theorem dX10_turnsOf_104 : decode cX10_turnsOf 104 = .ok (.iload 4, 2) := by decide +kernel
theorem dX10_turnsOf_106 : decode cX10_turnsOf 106 = .ok (.if_icmp .ge 8, 3) := by decide +kernel
theorem dX10_turnsOf_109 : decode cX10_turnsOf 109 = .ok (.iload 7, 2) := by decide +kernel
theorem dX10_turnsOf_111 : decode cX10_turnsOf 111 = .ok (.goto 22, 3) := by decide +kernel
theorem dX10_turnsOf_114 : decode cX10_turnsOf 114 = .ok (.iload 4, 2) := by decide +kernel
theorem dX10_turnsOf_116 : decode cX10_turnsOf 116 = .ok (.goto 17, 3) := by decide +kernel
theorem dX10_turnsOf_119 : decode cX10_turnsOf 119 = .ok (.iload 7, 2) := by decide +kernel
theorem dX10_turnsOf_121 : decode cX10_turnsOf 121 = .ok (.iload 4, 2) := by decide +kernel
theorem dX10_turnsOf_123 : decode cX10_turnsOf 123 = .ok (.if_icmp .le 8, 3) := by decide +kernel
theorem dX10_turnsOf_126 : decode cX10_turnsOf 126 = .ok (.iload 7, 2) := by decide +kernel
theorem dX10_turnsOf_128 : decode cX10_turnsOf 128 = .ok (.goto 5, 3) := by decide +kernel
theorem dX10_turnsOf_131 : decode cX10_turnsOf 131 = .ok (.iload 4, 2) := by decide +kernel
theorem dX10_turnsOf_133 : decode cX10_turnsOf 133 = .ok (.istore 4, 2) := by decide +kernel
theorem dX10_turnsOf_135 : decode cX10_turnsOf 135 = .ok (.iinc 5 1, 3) := by decide +kernel
theorem dX10_turnsOf_138 : decode cX10_turnsOf 138 = .ok (.goto (-85), 3) := by decide +kernel
theorem dX10_turnsOf_141 : decode cX10_turnsOf 141 = .ok (.iload 4, 2) := by decide +kernel
theorem dX10_turnsOf_143 : decode cX10_turnsOf 143 = .ok (.ireturn, 1) := by decide +kernel
set_option maxRecDepth 20000 in
theorem ggX10_layTurns_X10_isThere : GoodIn wsX10_layTurns wsX10_isThere := goodIn_r _ [6, 7, 8, 39, 40, 41, 42, 43, 44, 45, 46, 47, 48, 49, 50, 51, 52, 53, 54, 55, 56, 57, 58, 59, 60, 61, 62, 63, 64, 65, 66, 67, 68, 69, 70, 71, 72] (by decide +kernel) (by decide +kernel)
set_option maxRecDepth 20000 in
theorem gX10_layTurns_X10_isThere : GoodIn wsX10_layTurns (wsV RX10 125 RX10 yX10_isThere wsX10_isThere) := goodIn_app (goodIn_of _ (by decide +kernel)) ggX10_layTurns_X10_isThere
set_option maxRecDepth 20000 in
theorem ggX10_layTurns_X10_turnsOf : GoodIn wsX10_layTurns wsX10_turnsOf := goodIn_r _ [12, 13, 14, 15, 16, 5, 17, 18, 19, 20, 21, 22, 23, 24, 25, 26, 27, 7, 8, 28, 29, 30, 31, 32, 33, 34, 1, 35, 36, 37, 38, 39, 40, 41, 42, 43, 44, 45, 46, 47, 48, 49, 50, 51, 52, 53, 54, 55, 56, 57, 58, 59, 60, 61, 62, 63, 64, 65, 66, 67, 68, 69, 70, 71, 72] (by decide +kernel) (by decide +kernel)
set_option maxRecDepth 20000 in
theorem gX10_layTurns_X10_turnsOf : GoodIn wsX10_layTurns (wsV RX10 241 RX10 yX10_turnsOf wsX10_turnsOf) := goodIn_app (goodIn_of _ (by decide +kernel)) ggX10_layTurns_X10_turnsOf
theorem dX10_layTurns_0 : decode cX10_layTurns 0 = .ok (.iconst 0, 1) := by decide +kernel
theorem dX10_layTurns_1 : decode cX10_layTurns 1 = .ok (.istore_n 2, 1) := by decide +kernel
theorem dX10_layTurns_2 : decode cX10_layTurns 2 = .ok (.iload_n 2, 1) := by decide +kernel
theorem dX10_layTurns_3 : decode cX10_layTurns 3 = .ok (.sipush 1296, 3) := by decide +kernel
theorem dX10_layTurns_6 : decode cX10_layTurns 6 = .ok (.if_icmp .ge 18, 3) := by decide +kernel
theorem dX10_layTurns_9 : decode cX10_layTurns 9 = .ok (.aload_n 0, 1) := by decide +kernel
theorem dX10_layTurns_10 : decode cX10_layTurns 10 = .ok (.getfield 70, 3) := by decide +kernel
theorem dX10_layTurns_13 : decode cX10_layTurns 13 = .ok (.iload_n 2, 1) := by decide +kernel
theorem dX10_layTurns_14 : decode cX10_layTurns 14 = .ok (.sipush 9999, 3) := by decide +kernel
theorem dX10_layTurns_17 : decode cX10_layTurns 17 = .ok (.iastore, 1) := by decide +kernel
theorem dX10_layTurns_18 : decode cX10_layTurns 18 = .ok (.iinc 2 1, 3) := by decide +kernel
theorem dX10_layTurns_21 : decode cX10_layTurns 21 = .ok (.goto (-19), 3) := by decide +kernel
theorem dX10_layTurns_24 : decode cX10_layTurns 24 = .ok (.iconst 1, 1) := by decide +kernel
theorem dX10_layTurns_25 : decode cX10_layTurns 25 = .ok (.istore_n 2, 1) := by decide +kernel
theorem dX10_layTurns_26 : decode cX10_layTurns 26 = .ok (.iconst 0, 1) := by decide +kernel
theorem dX10_layTurns_27 : decode cX10_layTurns 27 = .ok (.istore_n 3, 1) := by decide +kernel
theorem dX10_layTurns_28 : decode cX10_layTurns 28 = .ok (.iload_n 2, 1) := by decide +kernel
theorem dX10_layTurns_29 : decode cX10_layTurns 29 = .ok (.ifCond .eq 106, 3) := by decide +kernel
theorem dX10_layTurns_32 : decode cX10_layTurns 32 = .ok (.iconst 0, 1) := by decide +kernel
theorem dX10_layTurns_33 : decode cX10_layTurns 33 = .ok (.istore_n 2, 1) := by decide +kernel
theorem dX10_layTurns_34 : decode cX10_layTurns 34 = .ok (.iconst 0, 1) := by decide +kernel
theorem dX10_layTurns_35 : decode cX10_layTurns 35 = .ok (.istore 4, 2) := by decide +kernel
theorem dX10_layTurns_37 : decode cX10_layTurns 37 = .ok (.iload 4, 2) := by decide +kernel
theorem dX10_layTurns_39 : decode cX10_layTurns 39 = .ok (.sipush 1296, 3) := by decide +kernel
theorem dX10_layTurns_42 : decode cX10_layTurns 42 = .ok (.if_icmp .ge 87, 3) := by decide +kernel
theorem dX10_layTurns_45 : decode cX10_layTurns 45 = .ok (.aload_n 0, 1) := by decide +kernel
theorem dX10_layTurns_46 : decode cX10_layTurns 46 = .ok (.iload 4, 2) := by decide +kernel
theorem dX10_layTurns_48 : decode cX10_layTurns 48 = .ok (.bipush 36, 2) := by decide +kernel
theorem dX10_layTurns_50 : decode cX10_layTurns 50 = .ok (.idiv, 1) := by decide +kernel
theorem dX10_layTurns_51 : decode cX10_layTurns 51 = .ok (.invokevirtual 125, 3) := by decide +kernel
theorem dX10_layTurns_54 : decode cX10_layTurns 54 = .ok (.ifCond .eq 32, 3) := by decide +kernel
theorem dX10_layTurns_57 : decode cX10_layTurns 57 = .ok (.aload_n 0, 1) := by decide +kernel
theorem dX10_layTurns_58 : decode cX10_layTurns 58 = .ok (.iload 4, 2) := by decide +kernel
theorem dX10_layTurns_60 : decode cX10_layTurns 60 = .ok (.bipush 36, 2) := by decide +kernel
theorem dX10_layTurns_62 : decode cX10_layTurns 62 = .ok (.irem, 1) := by decide +kernel
theorem dX10_layTurns_63 : decode cX10_layTurns 63 = .ok (.invokevirtual 125, 3) := by decide +kernel
theorem dX10_layTurns_66 : decode cX10_layTurns 66 = .ok (.ifCond .eq 20, 3) := by decide +kernel
theorem dX10_layTurns_69 : decode cX10_layTurns 69 = .ok (.aload_n 0, 1) := by decide +kernel
theorem dX10_layTurns_70 : decode cX10_layTurns 70 = .ok (.getfield 70, 3) := by decide +kernel
theorem dX10_layTurns_73 : decode cX10_layTurns 73 = .ok (.iload 4, 2) := by decide +kernel
theorem dX10_layTurns_75 : decode cX10_layTurns 75 = .ok (.iaload, 1) := by decide +kernel
theorem dX10_layTurns_76 : decode cX10_layTurns 76 = .ok (.sipush 9999, 3) := by decide +kernel
theorem dX10_layTurns_79 : decode cX10_layTurns 79 = .ok (.if_icmp .ne 7, 3) := by decide +kernel
theorem dX10_layTurns_82 : decode cX10_layTurns 82 = .ok (.iconst 1, 1) := by decide +kernel
theorem dX10_layTurns_83 : decode cX10_layTurns 83 = .ok (.goto 4, 3) := by decide +kernel
theorem dX10_layTurns_86 : decode cX10_layTurns 86 = .ok (.iconst 0, 1) := by decide +kernel
theorem dX10_layTurns_87 : decode cX10_layTurns 87 = .ok (.istore 5, 2) := by decide +kernel
theorem dX10_layTurns_89 : decode cX10_layTurns 89 = .ok (.iload 5, 2) := by decide +kernel
theorem dX10_layTurns_91 : decode cX10_layTurns 91 = .ok (.ifCond .eq 32, 3) := by decide +kernel
theorem dX10_layTurns_94 : decode cX10_layTurns 94 = .ok (.aload_n 0, 1) := by decide +kernel
theorem dX10_layTurns_95 : decode cX10_layTurns 95 = .ok (.iload 4, 2) := by decide +kernel
theorem dX10_layTurns_97 : decode cX10_layTurns 97 = .ok (.bipush 36, 2) := by decide +kernel
theorem dX10_layTurns_99 : decode cX10_layTurns 99 = .ok (.idiv, 1) := by decide +kernel
theorem dX10_layTurns_100 : decode cX10_layTurns 100 = .ok (.iload 4, 2) := by decide +kernel
theorem dX10_layTurns_102 : decode cX10_layTurns 102 = .ok (.bipush 36, 2) := by decide +kernel
theorem dX10_layTurns_104 : decode cX10_layTurns 104 = .ok (.irem, 1) := by decide +kernel
theorem dX10_layTurns_105 : decode cX10_layTurns 105 = .ok (.iload_n 1, 1) := by decide +kernel
theorem dX10_layTurns_106 : decode cX10_layTurns 106 = .ok (.invokevirtual 241, 3) := by decide +kernel
theorem dX10_layTurns_109 : decode cX10_layTurns 109 = .ok (.iload_n 3, 1) := by decide +kernel
theorem dX10_layTurns_110 : decode cX10_layTurns 110 = .ok (.if_icmp .ne 13, 3) := by decide +kernel
theorem dX10_layTurns_113 : decode cX10_layTurns 113 = .ok (.aload_n 0, 1) := by decide +kernel
theorem dX10_layTurns_114 : decode cX10_layTurns 114 = .ok (.getfield 70, 3) := by decide +kernel
theorem dX10_layTurns_117 : decode cX10_layTurns 117 = .ok (.iload 4, 2) := by decide +kernel
theorem dX10_layTurns_119 : decode cX10_layTurns 119 = .ok (.iload_n 3, 1) := by decide +kernel
theorem dX10_layTurns_120 : decode cX10_layTurns 120 = .ok (.iastore, 1) := by decide +kernel
theorem dX10_layTurns_121 : decode cX10_layTurns 121 = .ok (.iconst 1, 1) := by decide +kernel
theorem dX10_layTurns_122 : decode cX10_layTurns 122 = .ok (.istore_n 2, 1) := by decide +kernel
theorem dX10_layTurns_123 : decode cX10_layTurns 123 = .ok (.iinc 4 1, 3) := by decide +kernel
theorem dX10_layTurns_126 : decode cX10_layTurns 126 = .ok (.goto (-89), 3) := by decide +kernel
theorem dX10_layTurns_129 : decode cX10_layTurns 129 = .ok (.iinc 3 1, 3) := by decide +kernel
theorem dX10_layTurns_132 : decode cX10_layTurns 132 = .ok (.goto (-104), 3) := by decide +kernel
theorem dX10_layTurns_135 : decode cX10_layTurns 135 = .ok (.return_, 1) := by decide +kernel
set_option maxRecDepth 20000 in
theorem ggX10_chase_X10_isCell : GoodIn wsX10_chase wsX10_isCell := goodIn_r _ [7, 8, 9, 51, 52, 53, 54, 55, 56, 57, 58, 59, 60, 61, 62, 63, 64, 65, 66, 67, 68, 69, 70, 71, 72, 73, 74, 75, 76, 77, 78, 79, 80, 81, 82, 83, 84] (by decide +kernel) (by decide +kernel)
set_option maxRecDepth 20000 in
theorem gX10_chase_X10_isCell : GoodIn wsX10_chase (wsV RX10 151 RX10 yX10_isCell wsX10_isCell) := goodIn_app (goodIn_of _ (by decide +kernel)) ggX10_chase_X10_isCell
set_option maxRecDepth 20000 in
theorem ggX10_chase_X10_layTurns : GoodIn wsX10_chase wsX10_layTurns := goodIn_r _ [13, 2, 14, 15, 16, 6, 17, 8, 9, 18, 19, 20, 21, 22, 23, 24, 25, 26, 27, 28, 29, 30, 31, 32, 33, 34, 35, 36, 37, 38, 39, 40, 41, 42, 43, 44, 45, 46, 47, 51, 52, 53, 54, 55, 56, 57, 58, 59, 60, 61, 62, 63, 64, 65, 66, 67, 68, 69, 70, 71, 72, 73, 74, 75, 76, 77, 78, 79, 80, 81, 82, 83, 84] (by decide +kernel) (by decide +kernel)
set_option maxRecDepth 20000 in
theorem gX10_chase_X10_layTurns : GoodIn wsX10_chase (wsV RX10 245 RX10 yX10_layTurns wsX10_layTurns) := goodIn_app (goodIn_of _ (by decide +kernel)) ggX10_chase_X10_layTurns
set_option maxRecDepth 20000 in
theorem ggX10_chase_X10_index : GoodIn wsX10_chase wsX10_index := goodIn_r _ [50] (by decide +kernel) (by decide +kernel)
set_option maxRecDepth 20000 in
theorem gX10_chase_X10_index : GoodIn wsX10_chase (va_wsS RX10 157 yX10_index wsX10_index) := goodIn_app (goodIn_of _ (by decide +kernel)) ggX10_chase_X10_index
theorem dX10_chase_0 : decode cX10_chase 0 = .ok (.aload_n 0, 1) := by decide +kernel
theorem dX10_chase_1 : decode cX10_chase 1 = .ok (.iconst 0, 1) := by decide +kernel
theorem dX10_chase_2 : decode cX10_chase 2 = .ok (.putfield 79, 3) := by decide +kernel
theorem dX10_chase_5 : decode cX10_chase 5 = .ok (.aload_n 0, 1) := by decide +kernel
theorem dX10_chase_6 : decode cX10_chase 6 = .ok (.iload_n 1, 1) := by decide +kernel
theorem dX10_chase_7 : decode cX10_chase 7 = .ok (.invokevirtual 151, 3) := by decide +kernel
theorem dX10_chase_10 : decode cX10_chase 10 = .ok (.ifCond .eq 11, 3) := by decide +kernel
theorem dX10_chase_13 : decode cX10_chase 13 = .ok (.aload_n 0, 1) := by decide +kernel
theorem dX10_chase_14 : decode cX10_chase 14 = .ok (.iload_n 2, 1) := by decide +kernel
theorem dX10_chase_15 : decode cX10_chase 15 = .ok (.invokevirtual 151, 3) := by decide +kernel
theorem dX10_chase_18 : decode cX10_chase 18 = .ok (.ifCond .ne 5, 3) := by decide +kernel
theorem dX10_chase_21 : decode cX10_chase 21 = .ok (.iconst (-1), 1) := by decide +kernel
theorem dX10_chase_22 : decode cX10_chase 22 = .ok (.ireturn, 1) := by decide +kernel
theorem dX10_chase_23 : decode cX10_chase 23 = .ok (.aload_n 0, 1) := by decide +kernel
theorem dX10_chase_24 : decode cX10_chase 24 = .ok (.iload_n 3, 1) := by decide +kernel
theorem dX10_chase_25 : decode cX10_chase 25 = .ok (.invokevirtual 245, 3) := by decide +kernel
theorem dX10_chase_28 : decode cX10_chase 28 = .ok (.aload_n 0, 1) := by decide +kernel
theorem dX10_chase_29 : decode cX10_chase 29 = .ok (.getfield 70, 3) := by decide +kernel
theorem dX10_chase_32 : decode cX10_chase 32 = .ok (.bipush 36, 2) := by decide +kernel
theorem dX10_chase_34 : decode cX10_chase 34 = .ok (.iload_n 1, 1) := by decide +kernel
theorem dX10_chase_35 : decode cX10_chase 35 = .ok (.invokestatic 157, 3) := by decide +kernel
theorem dX10_chase_38 : decode cX10_chase 38 = .ok (.imul, 1) := by decide +kernel
theorem dX10_chase_39 : decode cX10_chase 39 = .ok (.iload_n 2, 1) := by decide +kernel
theorem dX10_chase_40 : decode cX10_chase 40 = .ok (.invokestatic 157, 3) := by decide +kernel
theorem dX10_chase_43 : decode cX10_chase 43 = .ok (.iadd, 1) := by decide +kernel
theorem dX10_chase_44 : decode cX10_chase 44 = .ok (.iaload, 1) := by decide +kernel
theorem dX10_chase_45 : decode cX10_chase 45 = .ok (.istore 4, 2) := by decide +kernel
theorem dX10_chase_47 : decode cX10_chase 47 = .ok (.iload 4, 2) := by decide +kernel
theorem dX10_chase_49 : decode cX10_chase 49 = .ok (.sipush 9999, 3) := by decide +kernel
theorem dX10_chase_52 : decode cX10_chase 52 = .ok (.if_icmp .ge 8, 3) := by decide +kernel
theorem dX10_chase_55 : decode cX10_chase 55 = .ok (.iload 4, 2) := by decide +kernel
theorem dX10_chase_57 : decode cX10_chase 57 = .ok (.goto 5, 3) := by decide +kernel
theorem dX10_chase_60 : decode cX10_chase 60 = .ok (.bipush (-9), 2) := by decide +kernel
theorem dX10_chase_62 : decode cX10_chase 62 = .ok (.ireturn, 1) := by decide +kernel
theorem dX10_turnedAt_0 : decode cX10_turnedAt 0 = .ok (.iload_n 1, 1) := by decide +kernel
theorem dX10_turnedAt_1 : decode cX10_turnedAt 1 = .ok (.bipush 6, 2) := by decide +kernel
theorem dX10_turnedAt_3 : decode cX10_turnedAt 3 = .ok (.idiv, 1) := by decide +kernel
theorem dX10_turnedAt_4 : decode cX10_turnedAt 4 = .ok (.istore_n 3, 1) := by decide +kernel
theorem dX10_turnedAt_5 : decode cX10_turnedAt 5 = .ok (.iload_n 2, 1) := by decide +kernel
theorem dX10_turnedAt_6 : decode cX10_turnedAt 6 = .ok (.iconst 3, 1) := by decide +kernel
theorem dX10_turnedAt_7 : decode cX10_turnedAt 7 = .ok (.if_icmp .le 17, 3) := by decide +kernel
theorem dX10_turnedAt_10 : decode cX10_turnedAt 10 = .ok (.aload_n 0, 1) := by decide +kernel
theorem dX10_turnedAt_11 : decode cX10_turnedAt 11 = .ok (.getfield 17, 3) := by decide +kernel
theorem dX10_turnedAt_14 : decode cX10_turnedAt 14 = .ok (.iconst 1, 1) := by decide +kernel
theorem dX10_turnedAt_15 : decode cX10_turnedAt 15 = .ok (.isub, 1) := by decide +kernel
theorem dX10_turnedAt_16 : decode cX10_turnedAt 16 = .ok (.iload_n 1, 1) := by decide +kernel
theorem dX10_turnedAt_17 : decode cX10_turnedAt 17 = .ok (.bipush 6, 2) := by decide +kernel
theorem dX10_turnedAt_19 : decode cX10_turnedAt 19 = .ok (.irem, 1) := by decide +kernel
theorem dX10_turnedAt_20 : decode cX10_turnedAt 20 = .ok (.isub, 1) := by decide +kernel
theorem dX10_turnedAt_21 : decode cX10_turnedAt 21 = .ok (.goto 7, 3) := by decide +kernel
theorem dX10_turnedAt_24 : decode cX10_turnedAt 24 = .ok (.iload_n 1, 1) := by decide +kernel
theorem dX10_turnedAt_25 : decode cX10_turnedAt 25 = .ok (.bipush 6, 2) := by decide +kernel
theorem dX10_turnedAt_27 : decode cX10_turnedAt 27 = .ok (.irem, 1) := by decide +kernel
theorem dX10_turnedAt_28 : decode cX10_turnedAt 28 = .ok (.istore 4, 2) := by decide +kernel
theorem dX10_turnedAt_30 : decode cX10_turnedAt 30 = .ok (.aload_n 0, 1) := by decide +kernel
theorem dX10_turnedAt_31 : decode cX10_turnedAt 31 = .ok (.getfield 13, 3) := by decide +kernel
theorem dX10_turnedAt_34 : decode cX10_turnedAt 34 = .ok (.istore 5, 2) := by decide +kernel
theorem dX10_turnedAt_36 : decode cX10_turnedAt 36 = .ok (.aload_n 0, 1) := by decide +kernel
theorem dX10_turnedAt_37 : decode cX10_turnedAt 37 = .ok (.getfield 17, 3) := by decide +kernel
theorem dX10_turnedAt_40 : decode cX10_turnedAt 40 = .ok (.istore 6, 2) := by decide +kernel
theorem dX10_turnedAt_42 : decode cX10_turnedAt 42 = .ok (.iconst 0, 1) := by decide +kernel
theorem dX10_turnedAt_43 : decode cX10_turnedAt 43 = .ok (.istore 7, 2) := by decide +kernel
theorem dX10_turnedAt_45 : decode cX10_turnedAt 45 = .ok (.iload 7, 2) := by decide +kernel
theorem dX10_turnedAt_47 : decode cX10_turnedAt 47 = .ok (.iload_n 2, 1) := by decide +kernel
theorem dX10_turnedAt_48 : decode cX10_turnedAt 48 = .ok (.iconst 4, 1) := by decide +kernel
theorem dX10_turnedAt_49 : decode cX10_turnedAt 49 = .ok (.irem, 1) := by decide +kernel
theorem dX10_turnedAt_50 : decode cX10_turnedAt 50 = .ok (.if_icmp .ge 36, 3) := by decide +kernel
theorem dX10_turnedAt_53 : decode cX10_turnedAt 53 = .ok (.iload_n 3, 1) := by decide +kernel
theorem dX10_turnedAt_54 : decode cX10_turnedAt 54 = .ok (.istore 8, 2) := by decide +kernel
theorem dX10_turnedAt_56 : decode cX10_turnedAt 56 = .ok (.iload 4, 2) := by decide +kernel
theorem dX10_turnedAt_58 : decode cX10_turnedAt 58 = .ok (.istore_n 3, 1) := by decide +kernel
theorem dX10_turnedAt_59 : decode cX10_turnedAt 59 = .ok (.iload 5, 2) := by decide +kernel
theorem dX10_turnedAt_61 : decode cX10_turnedAt 61 = .ok (.iconst 1, 1) := by decide +kernel
theorem dX10_turnedAt_62 : decode cX10_turnedAt 62 = .ok (.isub, 1) := by decide +kernel
theorem dX10_turnedAt_63 : decode cX10_turnedAt 63 = .ok (.iload 8, 2) := by decide +kernel
theorem dX10_turnedAt_65 : decode cX10_turnedAt 65 = .ok (.isub, 1) := by decide +kernel
theorem dX10_turnedAt_66 : decode cX10_turnedAt 66 = .ok (.istore 4, 2) := by decide +kernel
theorem dX10_turnedAt_68 : decode cX10_turnedAt 68 = .ok (.iload 5, 2) := by decide +kernel
theorem dX10_turnedAt_70 : decode cX10_turnedAt 70 = .ok (.istore 9, 2) := by decide +kernel
theorem dX10_turnedAt_72 : decode cX10_turnedAt 72 = .ok (.iload 6, 2) := by decide +kernel
theorem dX10_turnedAt_74 : decode cX10_turnedAt 74 = .ok (.istore 5, 2) := by decide +kernel
theorem dX10_turnedAt_76 : decode cX10_turnedAt 76 = .ok (.iload 9, 2) := by decide +kernel
theorem dX10_turnedAt_78 : decode cX10_turnedAt 78 = .ok (.istore 6, 2) := by decide +kernel
theorem dX10_turnedAt_80 : decode cX10_turnedAt 80 = .ok (.iinc 7 1, 3) := by decide +kernel
theorem dX10_turnedAt_83 : decode cX10_turnedAt 83 = .ok (.goto (-38), 3) := by decide +kernel
theorem dX10_turnedAt_86 : decode cX10_turnedAt 86 = .ok (.bipush 6, 2) := by decide +kernel
theorem dX10_turnedAt_88 : decode cX10_turnedAt 88 = .ok (.iload_n 3, 1) := by decide +kernel
theorem dX10_turnedAt_89 : decode cX10_turnedAt 89 = .ok (.imul, 1) := by decide +kernel
theorem dX10_turnedAt_90 : decode cX10_turnedAt 90 = .ok (.iload 4, 2) := by decide +kernel
theorem dX10_turnedAt_92 : decode cX10_turnedAt 92 = .ok (.iadd, 1) := by decide +kernel
theorem dX10_turnedAt_93 : decode cX10_turnedAt 93 = .ok (.ireturn, 1) := by decide +kernel
theorem dX10_turnedSide_0 : decode cX10_turnedSide 0 = .ok (.iload_n 1, 1) := by decide +kernel
theorem dX10_turnedSide_1 : decode cX10_turnedSide 1 = .ok (.iconst 3, 1) := by decide +kernel
theorem dX10_turnedSide_2 : decode cX10_turnedSide 2 = .ok (.if_icmp .le 16, 3) := by decide +kernel
theorem dX10_turnedSide_5 : decode cX10_turnedSide 5 = .ok (.iload_n 0, 1) := by decide +kernel
theorem dX10_turnedSide_6 : decode cX10_turnedSide 6 = .ok (.iconst 2, 1) := by decide +kernel
theorem dX10_turnedSide_7 : decode cX10_turnedSide 7 = .ok (.irem, 1) := by decide +kernel
theorem dX10_turnedSide_8 : decode cX10_turnedSide 8 = .ok (.iconst 1, 1) := by decide +kernel
theorem dX10_turnedSide_9 : decode cX10_turnedSide 9 = .ok (.if_icmp .ne 9, 3) := by decide +kernel
theorem dX10_turnedSide_12 : decode cX10_turnedSide 12 = .ok (.iconst 4, 1) := by decide +kernel
theorem dX10_turnedSide_13 : decode cX10_turnedSide 13 = .ok (.iload_n 0, 1) := by decide +kernel
theorem dX10_turnedSide_14 : decode cX10_turnedSide 14 = .ok (.isub, 1) := by decide +kernel
theorem dX10_turnedSide_15 : decode cX10_turnedSide 15 = .ok (.goto 4, 3) := by decide +kernel
theorem dX10_turnedSide_18 : decode cX10_turnedSide 18 = .ok (.iload_n 0, 1) := by decide +kernel
theorem dX10_turnedSide_19 : decode cX10_turnedSide 19 = .ok (.istore_n 2, 1) := by decide +kernel
theorem dX10_turnedSide_20 : decode cX10_turnedSide 20 = .ok (.iload_n 2, 1) := by decide +kernel
theorem dX10_turnedSide_21 : decode cX10_turnedSide 21 = .ok (.iload_n 1, 1) := by decide +kernel
theorem dX10_turnedSide_22 : decode cX10_turnedSide 22 = .ok (.iadd, 1) := by decide +kernel
theorem dX10_turnedSide_23 : decode cX10_turnedSide 23 = .ok (.iconst 4, 1) := by decide +kernel
theorem dX10_turnedSide_24 : decode cX10_turnedSide 24 = .ok (.irem, 1) := by decide +kernel
theorem dX10_turnedSide_25 : decode cX10_turnedSide 25 = .ok (.ireturn, 1) := by decide +kernel
set_option maxRecDepth 20000 in
theorem ggX10_layTurned_X10_isThere : GoodIn wsX10_layTurned wsX10_isThere := goodIn_r _ [11, 1, 2, 32, 33, 34, 35, 36, 37, 38, 39, 40, 41, 42, 43, 44, 45, 46, 47, 48, 49, 50, 51, 52, 53, 54, 55, 56, 57, 58, 59, 60, 61, 62, 63, 64, 65] (by decide +kernel) (by decide +kernel)
set_option maxRecDepth 20000 in
theorem gX10_layTurned_X10_isThere : GoodIn wsX10_layTurned (wsV RX10 125 RX10 yX10_isThere wsX10_isThere) := goodIn_app (goodIn_of _ (by decide +kernel)) ggX10_layTurned_X10_isThere
set_option maxRecDepth 20000 in
theorem ggX10_layTurned_X10_turnedSide : GoodIn wsX10_layTurned wsX10_turnedSide := goodIn_r _ [14] (by decide +kernel) (by decide +kernel)
set_option maxRecDepth 20000 in
theorem gX10_layTurned_X10_turnedSide : GoodIn wsX10_layTurned (va_wsS RX10 254 yX10_turnedSide wsX10_turnedSide) := goodIn_app (goodIn_of _ (by decide +kernel)) ggX10_layTurned_X10_turnedSide
set_option maxRecDepth 20000 in
theorem ggX10_layTurned_X10_isOpen : GoodIn wsX10_layTurned wsX10_isOpen := goodIn_r _ [18, 19, 20, 21, 22, 23, 10, 24, 1, 2, 25, 26, 27, 32, 33, 34, 35, 36, 37, 38, 39, 40, 41, 42, 43, 44, 45, 46, 47, 48, 49, 50, 51, 52, 53, 54, 55, 56, 57, 58, 59, 60, 61, 62, 63, 64, 65] (by decide +kernel) (by decide +kernel)
set_option maxRecDepth 20000 in
theorem gX10_layTurned_X10_isOpen : GoodIn wsX10_layTurned (wsV RX10 160 RX10 yX10_isOpen wsX10_isOpen) := goodIn_app (goodIn_of _ (by decide +kernel)) ggX10_layTurned_X10_isOpen
set_option maxRecDepth 20000 in
theorem ggX10_layTurned_X10_in : GoodIn wsX10_layTurned wsX10_in := goodIn_r _ [27] (by decide +kernel) (by decide +kernel)
set_option maxRecDepth 20000 in
theorem gX10_layTurned_X10_in : GoodIn wsX10_layTurned (va_wsS RX10 84 yX10_in wsX10_in) := goodIn_app (goodIn_of _ (by decide +kernel)) ggX10_layTurned_X10_in
set_option maxRecDepth 20000 in
theorem ggX10_layTurned_X10_turnedAt : GoodIn wsX10_layTurned wsX10_turnedAt := goodIn_r _ [31, 2, 1, 32, 33, 34, 35, 36, 37, 38, 39, 40, 41, 42, 43, 44, 45, 46, 47, 48, 49, 50, 51, 52, 53, 54, 55, 56, 57, 58, 59, 60, 61, 62, 63, 64, 65] (by decide +kernel) (by decide +kernel)
set_option maxRecDepth 20000 in
theorem gX10_layTurned_X10_turnedAt : GoodIn wsX10_layTurned (wsV RX10 259 RX10 yX10_turnedAt wsX10_turnedAt) := goodIn_app (goodIn_of _ (by decide +kernel)) ggX10_layTurned_X10_turnedAt
theorem dX10_layTurned_0 : decode cX10_layTurned 0 = .ok (.aload_n 0, 1) := by decide +kernel
theorem dX10_layTurned_1 : decode cX10_layTurned 1 = .ok (.iload_n 1, 1) := by decide +kernel
theorem dX10_layTurned_2 : decode cX10_layTurned 2 = .ok (.iconst 2, 1) := by decide +kernel
theorem dX10_layTurned_3 : decode cX10_layTurned 3 = .ok (.irem, 1) := by decide +kernel
theorem dX10_layTurned_4 : decode cX10_layTurned 4 = .ok (.ifCond .ne 10, 3) := by decide +kernel
theorem dX10_layTurned_7 : decode cX10_layTurned 7 = .ok (.aload_n 0, 1) := by decide +kernel
theorem dX10_layTurned_8 : decode cX10_layTurned 8 = .ok (.getfield 13, 3) := by decide +kernel
theorem dX10_layTurned_11 : decode cX10_layTurned 11 = .ok (.goto 7, 3) := by decide +kernel
theorem dX10_layTurned_14 : decode cX10_layTurned 14 = .ok (.aload_n 0, 1) := by decide +kernel
theorem dX10_layTurned_15 : decode cX10_layTurned 15 = .ok (.getfield 17, 3) := by decide +kernel
theorem dX10_layTurned_18 : decode cX10_layTurned 18 = .ok (.putfield 248, 3) := by decide +kernel
theorem dX10_layTurned_21 : decode cX10_layTurned 21 = .ok (.aload_n 0, 1) := by decide +kernel
theorem dX10_layTurned_22 : decode cX10_layTurned 22 = .ok (.iload_n 1, 1) := by decide +kernel
theorem dX10_layTurned_23 : decode cX10_layTurned 23 = .ok (.iconst 2, 1) := by decide +kernel
theorem dX10_layTurned_24 : decode cX10_layTurned 24 = .ok (.irem, 1) := by decide +kernel
theorem dX10_layTurned_25 : decode cX10_layTurned 25 = .ok (.ifCond .ne 10, 3) := by decide +kernel
theorem dX10_layTurned_28 : decode cX10_layTurned 28 = .ok (.aload_n 0, 1) := by decide +kernel
theorem dX10_layTurned_29 : decode cX10_layTurned 29 = .ok (.getfield 17, 3) := by decide +kernel
theorem dX10_layTurned_32 : decode cX10_layTurned 32 = .ok (.goto 7, 3) := by decide +kernel
theorem dX10_layTurned_35 : decode cX10_layTurned 35 = .ok (.aload_n 0, 1) := by decide +kernel
theorem dX10_layTurned_36 : decode cX10_layTurned 36 = .ok (.getfield 13, 3) := by decide +kernel
theorem dX10_layTurned_39 : decode cX10_layTurned 39 = .ok (.putfield 251, 3) := by decide +kernel
theorem dX10_layTurned_42 : decode cX10_layTurned 42 = .ok (.iconst 0, 1) := by decide +kernel
theorem dX10_layTurned_43 : decode cX10_layTurned 43 = .ok (.istore_n 2, 1) := by decide +kernel
theorem dX10_layTurned_44 : decode cX10_layTurned 44 = .ok (.iload_n 2, 1) := by decide +kernel
theorem dX10_layTurned_45 : decode cX10_layTurned 45 = .ok (.bipush 36, 2) := by decide +kernel
theorem dX10_layTurned_47 : decode cX10_layTurned 47 = .ok (.if_icmp .ge 16, 3) := by decide +kernel
theorem dX10_layTurned_50 : decode cX10_layTurned 50 = .ok (.aload_n 0, 1) := by decide +kernel
theorem dX10_layTurned_51 : decode cX10_layTurned 51 = .ok (.getfield 76, 3) := by decide +kernel
theorem dX10_layTurned_54 : decode cX10_layTurned 54 = .ok (.iload_n 2, 1) := by decide +kernel
theorem dX10_layTurned_55 : decode cX10_layTurned 55 = .ok (.iconst 0, 1) := by decide +kernel
theorem dX10_layTurned_56 : decode cX10_layTurned 56 = .ok (.iastore, 1) := by decide +kernel
theorem dX10_layTurned_57 : decode cX10_layTurned 57 = .ok (.iinc 2 1, 3) := by decide +kernel
theorem dX10_layTurned_60 : decode cX10_layTurned 60 = .ok (.goto (-16), 3) := by decide +kernel
theorem dX10_layTurned_63 : decode cX10_layTurned 63 = .ok (.iconst 0, 1) := by decide +kernel
theorem dX10_layTurned_64 : decode cX10_layTurned 64 = .ok (.istore_n 2, 1) := by decide +kernel
theorem dX10_layTurned_65 : decode cX10_layTurned 65 = .ok (.iload_n 2, 1) := by decide +kernel
theorem dX10_layTurned_66 : decode cX10_layTurned 66 = .ok (.bipush 36, 2) := by decide +kernel
theorem dX10_layTurned_68 : decode cX10_layTurned 68 = .ok (.if_icmp .ge 75, 3) := by decide +kernel
theorem dX10_layTurned_71 : decode cX10_layTurned 71 = .ok (.iconst 0, 1) := by decide +kernel
theorem dX10_layTurned_72 : decode cX10_layTurned 72 = .ok (.istore_n 3, 1) := by decide +kernel
theorem dX10_layTurned_73 : decode cX10_layTurned 73 = .ok (.iload_n 3, 1) := by decide +kernel
theorem dX10_layTurned_74 : decode cX10_layTurned 74 = .ok (.iconst 4, 1) := by decide +kernel
theorem dX10_layTurned_75 : decode cX10_layTurned 75 = .ok (.if_icmp .ge 62, 3) := by decide +kernel
theorem dX10_layTurned_78 : decode cX10_layTurned 78 = .ok (.aload_n 0, 1) := by decide +kernel
theorem dX10_layTurned_79 : decode cX10_layTurned 79 = .ok (.iload_n 2, 1) := by decide +kernel
theorem dX10_layTurned_80 : decode cX10_layTurned 80 = .ok (.invokevirtual 125, 3) := by decide +kernel
theorem dX10_layTurned_83 : decode cX10_layTurned 83 = .ok (.ifCond .eq 54, 3) := by decide +kernel
theorem dX10_layTurned_86 : decode cX10_layTurned 86 = .ok (.iload_n 3, 1) := by decide +kernel
theorem dX10_layTurned_87 : decode cX10_layTurned 87 = .ok (.iload_n 1, 1) := by decide +kernel
theorem dX10_layTurned_88 : decode cX10_layTurned 88 = .ok (.invokestatic 254, 3) := by decide +kernel
theorem dX10_layTurned_91 : decode cX10_layTurned 91 = .ok (.istore 4, 2) := by decide +kernel
theorem dX10_layTurned_93 : decode cX10_layTurned 93 = .ok (.aload_n 0, 1) := by decide +kernel
theorem dX10_layTurned_94 : decode cX10_layTurned 94 = .ok (.iload_n 2, 1) := by decide +kernel
theorem dX10_layTurned_95 : decode cX10_layTurned 95 = .ok (.iload_n 3, 1) := by decide +kernel
theorem dX10_layTurned_96 : decode cX10_layTurned 96 = .ok (.invokevirtual 160, 3) := by decide +kernel
theorem dX10_layTurned_99 : decode cX10_layTurned 99 = .ok (.ifCond .eq 32, 3) := by decide +kernel
theorem dX10_layTurned_102 : decode cX10_layTurned 102 = .ok (.iload 4, 2) := by decide +kernel
theorem dX10_layTurned_104 : decode cX10_layTurned 104 = .ok (.i2l, 1) := by decide +kernel
theorem dX10_layTurned_105 : decode cX10_layTurned 105 = .ok (.lconst 1, 1) := by decide +kernel
theorem dX10_layTurned_106 : decode cX10_layTurned 106 = .ok (.ldc2_w 257, 3) := by decide +kernel
theorem dX10_layTurned_109 : decode cX10_layTurned 109 = .ok (.invokestatic 84, 3) := by decide +kernel
theorem dX10_layTurned_112 : decode cX10_layTurned 112 = .ok (.ifCond .eq 19, 3) := by decide +kernel
theorem dX10_layTurned_115 : decode cX10_layTurned 115 = .ok (.aload_n 0, 1) := by decide +kernel
theorem dX10_layTurned_116 : decode cX10_layTurned 116 = .ok (.getfield 76, 3) := by decide +kernel
theorem dX10_layTurned_119 : decode cX10_layTurned 119 = .ok (.aload_n 0, 1) := by decide +kernel
theorem dX10_layTurned_120 : decode cX10_layTurned 120 = .ok (.iload_n 2, 1) := by decide +kernel
theorem dX10_layTurned_121 : decode cX10_layTurned 121 = .ok (.iload_n 1, 1) := by decide +kernel
theorem dX10_layTurned_122 : decode cX10_layTurned 122 = .ok (.invokevirtual 259, 3) := by decide +kernel
theorem dX10_layTurned_125 : decode cX10_layTurned 125 = .ok (.dup2, 1) := by decide +kernel
theorem dX10_layTurned_126 : decode cX10_layTurned 126 = .ok (.iaload, 1) := by decide +kernel
theorem dX10_layTurned_127 : decode cX10_layTurned 127 = .ok (.iload 4, 2) := by decide +kernel
theorem dX10_layTurned_129 : decode cX10_layTurned 129 = .ok (.iadd, 1) := by decide +kernel
theorem dX10_layTurned_130 : decode cX10_layTurned 130 = .ok (.iastore, 1) := by decide +kernel
theorem dX10_layTurned_131 : decode cX10_layTurned 131 = .ok (.iinc 3 1, 3) := by decide +kernel
theorem dX10_layTurned_134 : decode cX10_layTurned 134 = .ok (.goto (-61), 3) := by decide +kernel
theorem dX10_layTurned_137 : decode cX10_layTurned 137 = .ok (.iinc 2 1, 3) := by decide +kernel
theorem dX10_layTurned_140 : decode cX10_layTurned 140 = .ok (.goto (-75), 3) := by decide +kernel
theorem dX10_layTurned_143 : decode cX10_layTurned 143 = .ok (.return_, 1) := by decide +kernel
set_option maxRecDepth 20000 in
theorem ggX10_isSame_X10_figureOf : GoodIn wsX10_isSame wsX10_figureOf := goodIn_r _ [10, 11, 12, 13, 14, 15, 16, 17, 18, 19, 20, 21, 22, 23, 24, 25, 26, 27, 28, 29, 30, 31, 32, 33, 34, 35, 36, 37, 38, 39, 40, 41, 42, 43, 44, 45, 46] (by decide +kernel) (by decide +kernel)
set_option maxRecDepth 20000 in
theorem gX10_isSame_X10_figureOf : GoodIn wsX10_isSame (wsV RX10 167 RX10 yX10_figureOf wsX10_figureOf) := goodIn_app (goodIn_of _ (by decide +kernel)) ggX10_isSame_X10_figureOf
theorem dX10_isSame_0 : decode cX10_isSame 0 = .ok (.aload_n 0, 1) := by decide +kernel
theorem dX10_isSame_1 : decode cX10_isSame 1 = .ok (.getfield 248, 3) := by decide +kernel
theorem dX10_isSame_4 : decode cX10_isSame 4 = .ok (.aload_n 0, 1) := by decide +kernel
theorem dX10_isSame_5 : decode cX10_isSame 5 = .ok (.getfield 13, 3) := by decide +kernel
theorem dX10_isSame_8 : decode cX10_isSame 8 = .ok (.if_icmp .ne 18, 3) := by decide +kernel
theorem dX10_isSame_11 : decode cX10_isSame 11 = .ok (.aload_n 0, 1) := by decide +kernel
theorem dX10_isSame_12 : decode cX10_isSame 12 = .ok (.getfield 251, 3) := by decide +kernel
theorem dX10_isSame_15 : decode cX10_isSame 15 = .ok (.aload_n 0, 1) := by decide +kernel
theorem dX10_isSame_16 : decode cX10_isSame 16 = .ok (.getfield 17, 3) := by decide +kernel
theorem dX10_isSame_19 : decode cX10_isSame 19 = .ok (.if_icmp .ne 7, 3) := by decide +kernel
theorem dX10_isSame_22 : decode cX10_isSame 22 = .ok (.iconst 1, 1) := by decide +kernel
theorem dX10_isSame_23 : decode cX10_isSame 23 = .ok (.goto 4, 3) := by decide +kernel
theorem dX10_isSame_26 : decode cX10_isSame 26 = .ok (.iconst 0, 1) := by decide +kernel
theorem dX10_isSame_27 : decode cX10_isSame 27 = .ok (.istore_n 1, 1) := by decide +kernel
theorem dX10_isSame_28 : decode cX10_isSame 28 = .ok (.iconst 0, 1) := by decide +kernel
theorem dX10_isSame_29 : decode cX10_isSame 29 = .ok (.istore_n 2, 1) := by decide +kernel
theorem dX10_isSame_30 : decode cX10_isSame 30 = .ok (.iload_n 2, 1) := by decide +kernel
theorem dX10_isSame_31 : decode cX10_isSame 31 = .ok (.bipush 36, 2) := by decide +kernel
theorem dX10_isSame_33 : decode cX10_isSame 33 = .ok (.if_icmp .ge 33, 3) := by decide +kernel
theorem dX10_isSame_36 : decode cX10_isSame 36 = .ok (.iload_n 1, 1) := by decide +kernel
theorem dX10_isSame_37 : decode cX10_isSame 37 = .ok (.ifCond .eq 21, 3) := by decide +kernel
theorem dX10_isSame_40 : decode cX10_isSame 40 = .ok (.aload_n 0, 1) := by decide +kernel
theorem dX10_isSame_41 : decode cX10_isSame 41 = .ok (.getfield 76, 3) := by decide +kernel
theorem dX10_isSame_44 : decode cX10_isSame 44 = .ok (.iload_n 2, 1) := by decide +kernel
theorem dX10_isSame_45 : decode cX10_isSame 45 = .ok (.iaload, 1) := by decide +kernel
theorem dX10_isSame_46 : decode cX10_isSame 46 = .ok (.aload_n 0, 1) := by decide +kernel
theorem dX10_isSame_47 : decode cX10_isSame 47 = .ok (.iload_n 2, 1) := by decide +kernel
theorem dX10_isSame_48 : decode cX10_isSame 48 = .ok (.invokevirtual 167, 3) := by decide +kernel
theorem dX10_isSame_51 : decode cX10_isSame 51 = .ok (.if_icmp .ne 7, 3) := by decide +kernel
theorem dX10_isSame_54 : decode cX10_isSame 54 = .ok (.iconst 1, 1) := by decide +kernel
theorem dX10_isSame_55 : decode cX10_isSame 55 = .ok (.goto 4, 3) := by decide +kernel
theorem dX10_isSame_58 : decode cX10_isSame 58 = .ok (.iconst 0, 1) := by decide +kernel
theorem dX10_isSame_59 : decode cX10_isSame 59 = .ok (.istore_n 1, 1) := by decide +kernel
theorem dX10_isSame_60 : decode cX10_isSame 60 = .ok (.iinc 2 1, 3) := by decide +kernel
theorem dX10_isSame_63 : decode cX10_isSame 63 = .ok (.goto (-33), 3) := by decide +kernel
theorem dX10_isSame_66 : decode cX10_isSame 66 = .ok (.iload_n 1, 1) := by decide +kernel
theorem dX10_isSame_67 : decode cX10_isSame 67 = .ok (.ireturn, 1) := by decide +kernel
set_option maxRecDepth 20000 in
theorem ggX10_same_X10_in : GoodIn wsX10_same wsX10_in := goodIn_r _ [6] (by decide +kernel) (by decide +kernel)
set_option maxRecDepth 20000 in
theorem gX10_same_X10_in : GoodIn wsX10_same (va_wsS RX10 84 yX10_in wsX10_in) := goodIn_app (goodIn_of _ (by decide +kernel)) ggX10_same_X10_in
set_option maxRecDepth 20000 in
theorem ggX10_same_X10_layTurned : GoodIn wsX10_same wsX10_layTurned := goodIn_r _ [10, 11, 12, 13, 14, 15, 16, 17, 18, 19, 5, 20, 21, 22, 23, 24, 25, 26, 27, 28, 29, 30, 31, 32, 33, 3, 4, 6, 34, 35, 36, 37, 46, 47, 48, 49, 50, 51, 52, 53, 54, 55, 56, 57, 58, 59, 60, 61, 62, 63, 64, 65, 66, 67, 68, 69, 70, 71, 72, 73, 74, 75, 76, 77, 78, 79] (by decide +kernel) (by decide +kernel)
set_option maxRecDepth 20000 in
theorem gX10_same_X10_layTurned : GoodIn wsX10_same (wsV RX10 264 RX10 yX10_layTurned wsX10_layTurned) := goodIn_app (goodIn_of _ (by decide +kernel)) ggX10_same_X10_layTurned
set_option maxRecDepth 20000 in
theorem ggX10_same_X10_isSame : GoodIn wsX10_same wsX10_isSame := goodIn_r _ [41, 13, 11, 14, 12, 15, 42, 43, 44, 5, 45, 28, 29, 46, 47, 48, 49, 50, 51, 52, 53, 54, 55, 56, 57, 58, 59, 60, 61, 62, 63, 64, 65, 66, 67, 68, 69, 70, 71, 72, 73, 74, 75, 76, 77, 78, 79] (by decide +kernel) (by decide +kernel)
set_option maxRecDepth 20000 in
theorem gX10_same_X10_isSame : GoodIn wsX10_same (wsV RX10 267 RX10 yX10_isSame wsX10_isSame) := goodIn_app (goodIn_of _ (by decide +kernel)) ggX10_same_X10_isSame
theorem dX10_same_0 : decode cX10_same 0 = .ok (.aload_n 0, 1) := by decide +kernel
theorem dX10_same_1 : decode cX10_same 1 = .ok (.iconst 0, 1) := by decide +kernel
theorem dX10_same_2 : decode cX10_same 2 = .ok (.putfield 79, 3) := by decide +kernel
theorem dX10_same_5 : decode cX10_same 5 = .ok (.iload_n 1, 1) := by decide +kernel
theorem dX10_same_6 : decode cX10_same 6 = .ok (.i2l, 1) := by decide +kernel
theorem dX10_same_7 : decode cX10_same 7 = .ok (.lconst 0, 1) := by decide +kernel
theorem dX10_same_8 : decode cX10_same 8 = .ok (.ldc2_w 262, 3) := by decide +kernel
theorem dX10_same_11 : decode cX10_same 11 = .ok (.invokestatic 84, 3) := by decide +kernel
theorem dX10_same_14 : decode cX10_same 14 = .ok (.ifCond .ne 6, 3) := by decide +kernel
theorem dX10_same_17 : decode cX10_same 17 = .ok (.bipush (-2), 2) := by decide +kernel
theorem dX10_same_19 : decode cX10_same 19 = .ok (.ireturn, 1) := by decide +kernel
theorem dX10_same_20 : decode cX10_same 20 = .ok (.aload_n 0, 1) := by decide +kernel
theorem dX10_same_21 : decode cX10_same 21 = .ok (.iload_n 1, 1) := by decide +kernel
theorem dX10_same_22 : decode cX10_same 22 = .ok (.invokevirtual 264, 3) := by decide +kernel
theorem dX10_same_25 : decode cX10_same 25 = .ok (.aload_n 0, 1) := by decide +kernel
theorem dX10_same_26 : decode cX10_same 26 = .ok (.invokevirtual 267, 3) := by decide +kernel
theorem dX10_same_29 : decode cX10_same 29 = .ok (.ifCond .eq 7, 3) := by decide +kernel
theorem dX10_same_32 : decode cX10_same 32 = .ok (.iconst 1, 1) := by decide +kernel
theorem dX10_same_33 : decode cX10_same 33 = .ok (.goto 4, 3) := by decide +kernel
theorem dX10_same_36 : decode cX10_same 36 = .ok (.iconst 0, 1) := by decide +kernel
theorem dX10_same_37 : decode cX10_same 37 = .ok (.ireturn, 1) := by decide +kernel
set_option maxRecDepth 20000 in
theorem ggX10_turn_X10_in : GoodIn wsX10_turn wsX10_in := goodIn_r _ [15] (by decide +kernel) (by decide +kernel)
set_option maxRecDepth 20000 in
theorem gX10_turn_X10_in : GoodIn wsX10_turn (va_wsS RX10 84 yX10_in wsX10_in) := goodIn_app (goodIn_of _ (by decide +kernel)) ggX10_turn_X10_in
set_option maxRecDepth 20000 in
theorem ggX10_turn_X10_layTurned : GoodIn wsX10_turn wsX10_layTurned := goodIn_r _ [19, 6, 8, 5, 7, 10, 20, 21, 22, 23, 14, 24, 25, 26, 27, 28, 29, 30, 31, 9, 11, 32, 33, 34, 35, 12, 13, 15, 36, 37, 38, 39, 48, 49, 50, 51, 52, 53, 54, 55, 56, 57, 58, 59, 60, 61, 62, 63, 64, 65, 66, 67, 68, 69, 70, 71, 72, 73, 74, 75, 76, 77, 78, 79, 80, 81] (by decide +kernel) (by decide +kernel)
set_option maxRecDepth 20000 in
theorem gX10_turn_X10_layTurned : GoodIn wsX10_turn (wsV RX10 264 RX10 yX10_layTurned wsX10_layTurned) := goodIn_app (goodIn_of _ (by decide +kernel)) ggX10_turn_X10_layTurned
set_option maxRecDepth 20000 in
theorem ggX10_turn_X10_isSame : GoodIn wsX10_turn wsX10_isSame := goodIn_r _ [43, 5, 6, 7, 8, 10, 44, 45, 46, 14, 47, 9, 11, 48, 49, 50, 51, 52, 53, 54, 55, 56, 57, 58, 59, 60, 61, 62, 63, 64, 65, 66, 67, 68, 69, 70, 71, 72, 73, 74, 75, 76, 77, 78, 79, 80, 81] (by decide +kernel) (by decide +kernel)
set_option maxRecDepth 20000 in
theorem gX10_turn_X10_isSame : GoodIn wsX10_turn (wsV RX10 267 RX10 yX10_isSame wsX10_isSame) := goodIn_app (goodIn_of _ (by decide +kernel)) ggX10_turn_X10_isSame
set_option maxRecDepth 20000 in
theorem ggX10_turn_X10_turnedAt : GoodIn wsX10_turn wsX10_turnedAt := goodIn_r _ [39, 8, 6, 48, 49, 50, 51, 52, 53, 54, 55, 56, 57, 58, 59, 60, 61, 62, 63, 64, 65, 66, 67, 68, 69, 70, 71, 72, 73, 74, 75, 76, 77, 78, 79, 80, 81] (by decide +kernel) (by decide +kernel)
set_option maxRecDepth 20000 in
theorem gX10_turn_X10_turnedAt : GoodIn wsX10_turn (wsV RX10 259 RX10 yX10_turnedAt wsX10_turnedAt) := goodIn_app (goodIn_of _ (by decide +kernel)) ggX10_turn_X10_turnedAt
theorem dX10_turn_0 : decode cX10_turn 0 = .ok (.aload_n 0, 1) := by decide +kernel
theorem dX10_turn_1 : decode cX10_turn 1 = .ok (.iconst 0, 1) := by decide +kernel
theorem dX10_turn_2 : decode cX10_turn 2 = .ok (.putfield 79, 3) := by decide +kernel
theorem dX10_turn_5 : decode cX10_turn 5 = .ok (.iload_n 1, 1) := by decide +kernel
theorem dX10_turn_6 : decode cX10_turn 6 = .ok (.i2l, 1) := by decide +kernel
theorem dX10_turn_7 : decode cX10_turn 7 = .ok (.lconst 0, 1) := by decide +kernel
theorem dX10_turn_8 : decode cX10_turn 8 = .ok (.ldc2_w 262, 3) := by decide +kernel
theorem dX10_turn_11 : decode cX10_turn 11 = .ok (.invokestatic 84, 3) := by decide +kernel
theorem dX10_turn_14 : decode cX10_turn 14 = .ok (.ifCond .ne 6, 3) := by decide +kernel
theorem dX10_turn_17 : decode cX10_turn 17 = .ok (.bipush (-2), 2) := by decide +kernel
theorem dX10_turn_19 : decode cX10_turn 19 = .ok (.ireturn, 1) := by decide +kernel
theorem dX10_turn_20 : decode cX10_turn 20 = .ok (.aload_n 0, 1) := by decide +kernel
theorem dX10_turn_21 : decode cX10_turn 21 = .ok (.iload_n 1, 1) := by decide +kernel
theorem dX10_turn_22 : decode cX10_turn 22 = .ok (.invokevirtual 264, 3) := by decide +kernel
theorem dX10_turn_25 : decode cX10_turn 25 = .ok (.aload_n 0, 1) := by decide +kernel
theorem dX10_turn_26 : decode cX10_turn 26 = .ok (.invokevirtual 267, 3) := by decide +kernel
theorem dX10_turn_29 : decode cX10_turn 29 = .ok (.ifCond .eq 7, 3) := by decide +kernel
theorem dX10_turn_32 : decode cX10_turn 32 = .ok (.iconst 0, 1) := by decide +kernel
theorem dX10_turn_33 : decode cX10_turn 33 = .ok (.goto 4, 3) := by decide +kernel
theorem dX10_turn_36 : decode cX10_turn 36 = .ok (.iconst 1, 1) := by decide +kernel
theorem dX10_turn_37 : decode cX10_turn 37 = .ok (.istore_n 2, 1) := by decide +kernel
theorem dX10_turn_38 : decode cX10_turn 38 = .ok (.aload_n 0, 1) := by decide +kernel
theorem dX10_turn_39 : decode cX10_turn 39 = .ok (.aload_n 0, 1) := by decide +kernel
theorem dX10_turn_40 : decode cX10_turn 40 = .ok (.aload_n 0, 1) := by decide +kernel
theorem dX10_turn_41 : decode cX10_turn 41 = .ok (.getfield 103, 3) := by decide +kernel
theorem dX10_turn_44 : decode cX10_turn 44 = .ok (.iload_n 1, 1) := by decide +kernel
theorem dX10_turn_45 : decode cX10_turn 45 = .ok (.invokevirtual 259, 3) := by decide +kernel
theorem dX10_turn_48 : decode cX10_turn 48 = .ok (.putfield 103, 3) := by decide +kernel
theorem dX10_turn_51 : decode cX10_turn 51 = .ok (.aload_n 0, 1) := by decide +kernel
theorem dX10_turn_52 : decode cX10_turn 52 = .ok (.aload_n 0, 1) := by decide +kernel
theorem dX10_turn_53 : decode cX10_turn 53 = .ok (.aload_n 0, 1) := by decide +kernel
theorem dX10_turn_54 : decode cX10_turn 54 = .ok (.getfield 106, 3) := by decide +kernel
theorem dX10_turn_57 : decode cX10_turn 57 = .ok (.iload_n 1, 1) := by decide +kernel
theorem dX10_turn_58 : decode cX10_turn 58 = .ok (.invokevirtual 259, 3) := by decide +kernel
theorem dX10_turn_61 : decode cX10_turn 61 = .ok (.putfield 106, 3) := by decide +kernel
theorem dX10_turn_64 : decode cX10_turn 64 = .ok (.aload_n 0, 1) := by decide +kernel
theorem dX10_turn_65 : decode cX10_turn 65 = .ok (.aload_n 0, 1) := by decide +kernel
theorem dX10_turn_66 : decode cX10_turn 66 = .ok (.getfield 248, 3) := by decide +kernel
theorem dX10_turn_69 : decode cX10_turn 69 = .ok (.putfield 13, 3) := by decide +kernel
theorem dX10_turn_72 : decode cX10_turn 72 = .ok (.aload_n 0, 1) := by decide +kernel
theorem dX10_turn_73 : decode cX10_turn 73 = .ok (.aload_n 0, 1) := by decide +kernel
theorem dX10_turn_74 : decode cX10_turn 74 = .ok (.getfield 251, 3) := by decide +kernel
theorem dX10_turn_77 : decode cX10_turn 77 = .ok (.putfield 17, 3) := by decide +kernel
theorem dX10_turn_80 : decode cX10_turn 80 = .ok (.iconst 0, 1) := by decide +kernel
theorem dX10_turn_81 : decode cX10_turn 81 = .ok (.istore_n 3, 1) := by decide +kernel
theorem dX10_turn_82 : decode cX10_turn 82 = .ok (.iload_n 3, 1) := by decide +kernel
theorem dX10_turn_83 : decode cX10_turn 83 = .ok (.bipush 36, 2) := by decide +kernel
theorem dX10_turn_85 : decode cX10_turn 85 = .ok (.if_icmp .ge 53, 3) := by decide +kernel
theorem dX10_turn_88 : decode cX10_turn 88 = .ok (.aload_n 0, 1) := by decide +kernel
theorem dX10_turn_89 : decode cX10_turn 89 = .ok (.getfield 20, 3) := by decide +kernel
theorem dX10_turn_92 : decode cX10_turn 92 = .ok (.iload_n 3, 1) := by decide +kernel
theorem dX10_turn_93 : decode cX10_turn 93 = .ok (.aload_n 0, 1) := by decide +kernel
theorem dX10_turn_94 : decode cX10_turn 94 = .ok (.getfield 76, 3) := by decide +kernel
theorem dX10_turn_97 : decode cX10_turn 97 = .ok (.iload_n 3, 1) := by decide +kernel
theorem dX10_turn_98 : decode cX10_turn 98 = .ok (.iaload, 1) := by decide +kernel
theorem dX10_turn_99 : decode cX10_turn 99 = .ok (.iconst 2, 1) := by decide +kernel
theorem dX10_turn_100 : decode cX10_turn 100 = .ok (.irem, 1) := by decide +kernel
theorem dX10_turn_101 : decode cX10_turn 101 = .ok (.iconst 1, 1) := by decide +kernel
theorem dX10_turn_102 : decode cX10_turn 102 = .ok (.if_icmp .ne 7, 3) := by decide +kernel
theorem dX10_turn_105 : decode cX10_turn 105 = .ok (.iconst 1, 1) := by decide +kernel
theorem dX10_turn_106 : decode cX10_turn 106 = .ok (.goto 4, 3) := by decide +kernel
theorem dX10_turn_109 : decode cX10_turn 109 = .ok (.iconst 0, 1) := by decide +kernel
theorem dX10_turn_110 : decode cX10_turn 110 = .ok (.bastore, 1) := by decide +kernel
theorem dX10_turn_111 : decode cX10_turn 111 = .ok (.aload_n 0, 1) := by decide +kernel
theorem dX10_turn_112 : decode cX10_turn 112 = .ok (.getfield 24, 3) := by decide +kernel
theorem dX10_turn_115 : decode cX10_turn 115 = .ok (.iload_n 3, 1) := by decide +kernel
theorem dX10_turn_116 : decode cX10_turn 116 = .ok (.aload_n 0, 1) := by decide +kernel
theorem dX10_turn_117 : decode cX10_turn 117 = .ok (.getfield 76, 3) := by decide +kernel
theorem dX10_turn_120 : decode cX10_turn 120 = .ok (.iload_n 3, 1) := by decide +kernel
theorem dX10_turn_121 : decode cX10_turn 121 = .ok (.iaload, 1) := by decide +kernel
theorem dX10_turn_122 : decode cX10_turn 122 = .ok (.iconst 1, 1) := by decide +kernel
theorem dX10_turn_123 : decode cX10_turn 123 = .ok (.if_icmp .le 7, 3) := by decide +kernel
theorem dX10_turn_126 : decode cX10_turn 126 = .ok (.iconst 1, 1) := by decide +kernel
theorem dX10_turn_127 : decode cX10_turn 127 = .ok (.goto 4, 3) := by decide +kernel
theorem dX10_turn_130 : decode cX10_turn 130 = .ok (.iconst 0, 1) := by decide +kernel
theorem dX10_turn_131 : decode cX10_turn 131 = .ok (.bastore, 1) := by decide +kernel
theorem dX10_turn_132 : decode cX10_turn 132 = .ok (.iinc 3 1, 3) := by decide +kernel
theorem dX10_turn_135 : decode cX10_turn 135 = .ok (.goto (-53), 3) := by decide +kernel
theorem dX10_turn_138 : decode cX10_turn 138 = .ok (.iload_n 2, 1) := by decide +kernel
theorem dX10_turn_139 : decode cX10_turn 139 = .ok (.ireturn, 1) := by decide +kernel
set_option maxRecDepth 20000 in
theorem ggX10_keep_X10_in : GoodIn wsX10_keep wsX10_in := goodIn_r _ [12] (by decide +kernel) (by decide +kernel)
set_option maxRecDepth 20000 in
theorem gX10_keep_X10_in : GoodIn wsX10_keep (va_wsS RX10 84 yX10_in wsX10_in) := goodIn_app (goodIn_of _ (by decide +kernel)) ggX10_keep_X10_in
set_option maxRecDepth 20000 in
theorem ggX10_keep_X10_figureOf : GoodIn wsX10_keep wsX10_figureOf := goodIn_r _ [16, 17, 18, 19, 20, 21, 22, 23, 24, 25, 26, 27, 28, 29, 30, 31, 32, 33, 34, 35, 36, 37, 38, 39, 40, 41, 42, 43, 44, 45, 46, 47, 48, 49, 50, 51, 52] (by decide +kernel) (by decide +kernel)
set_option maxRecDepth 20000 in
theorem gX10_keep_X10_figureOf : GoodIn wsX10_keep (wsV RX10 167 RX10 yX10_figureOf wsX10_figureOf) := goodIn_app (goodIn_of _ (by decide +kernel)) ggX10_keep_X10_figureOf
theorem dX10_keep_0 : decode cX10_keep 0 = .ok (.aload_n 0, 1) := by decide +kernel
theorem dX10_keep_1 : decode cX10_keep 1 = .ok (.iconst 0, 1) := by decide +kernel
theorem dX10_keep_2 : decode cX10_keep 2 = .ok (.putfield 79, 3) := by decide +kernel
theorem dX10_keep_5 : decode cX10_keep 5 = .ok (.iload_n 1, 1) := by decide +kernel
theorem dX10_keep_6 : decode cX10_keep 6 = .ok (.i2l, 1) := by decide +kernel
theorem dX10_keep_7 : decode cX10_keep 7 = .ok (.lconst 0, 1) := by decide +kernel
theorem dX10_keep_8 : decode cX10_keep 8 = .ok (.lconst 1, 1) := by decide +kernel
theorem dX10_keep_9 : decode cX10_keep 9 = .ok (.invokestatic 84, 3) := by decide +kernel
theorem dX10_keep_12 : decode cX10_keep 12 = .ok (.ifCond .ne 5, 3) := by decide +kernel
theorem dX10_keep_15 : decode cX10_keep 15 = .ok (.iconst (-1), 1) := by decide +kernel
theorem dX10_keep_16 : decode cX10_keep 16 = .ok (.ireturn, 1) := by decide +kernel
theorem dX10_keep_17 : decode cX10_keep 17 = .ok (.aload_n 0, 1) := by decide +kernel
theorem dX10_keep_18 : decode cX10_keep 18 = .ok (.getfield 36, 3) := by decide +kernel
theorem dX10_keep_21 : decode cX10_keep 21 = .ok (.iload_n 1, 1) := by decide +kernel
theorem dX10_keep_22 : decode cX10_keep 22 = .ok (.iconst 1, 1) := by decide +kernel
theorem dX10_keep_23 : decode cX10_keep 23 = .ok (.bastore, 1) := by decide +kernel
theorem dX10_keep_24 : decode cX10_keep 24 = .ok (.iconst 0, 1) := by decide +kernel
theorem dX10_keep_25 : decode cX10_keep 25 = .ok (.istore_n 2, 1) := by decide +kernel
theorem dX10_keep_26 : decode cX10_keep 26 = .ok (.iload_n 2, 1) := by decide +kernel
theorem dX10_keep_27 : decode cX10_keep 27 = .ok (.bipush 36, 2) := by decide +kernel
theorem dX10_keep_29 : decode cX10_keep 29 = .ok (.if_icmp .ge 25, 3) := by decide +kernel
theorem dX10_keep_32 : decode cX10_keep 32 = .ok (.aload_n 0, 1) := by decide +kernel
theorem dX10_keep_33 : decode cX10_keep 33 = .ok (.getfield 30, 3) := by decide +kernel
theorem dX10_keep_36 : decode cX10_keep 36 = .ok (.bipush 36, 2) := by decide +kernel
theorem dX10_keep_38 : decode cX10_keep 38 = .ok (.iload_n 1, 1) := by decide +kernel
theorem dX10_keep_39 : decode cX10_keep 39 = .ok (.imul, 1) := by decide +kernel
theorem dX10_keep_40 : decode cX10_keep 40 = .ok (.iload_n 2, 1) := by decide +kernel
theorem dX10_keep_41 : decode cX10_keep 41 = .ok (.iadd, 1) := by decide +kernel
theorem dX10_keep_42 : decode cX10_keep 42 = .ok (.aload_n 0, 1) := by decide +kernel
theorem dX10_keep_43 : decode cX10_keep 43 = .ok (.iload_n 2, 1) := by decide +kernel
theorem dX10_keep_44 : decode cX10_keep 44 = .ok (.invokevirtual 167, 3) := by decide +kernel
theorem dX10_keep_47 : decode cX10_keep 47 = .ok (.iastore, 1) := by decide +kernel
theorem dX10_keep_48 : decode cX10_keep 48 = .ok (.iinc 2 1, 3) := by decide +kernel
theorem dX10_keep_51 : decode cX10_keep 51 = .ok (.goto (-25), 3) := by decide +kernel
theorem dX10_keep_54 : decode cX10_keep 54 = .ok (.aload_n 0, 1) := by decide +kernel
theorem dX10_keep_55 : decode cX10_keep 55 = .ok (.getfield 33, 3) := by decide +kernel
theorem dX10_keep_58 : decode cX10_keep 58 = .ok (.iconst 4, 1) := by decide +kernel
theorem dX10_keep_59 : decode cX10_keep 59 = .ok (.iload_n 1, 1) := by decide +kernel
theorem dX10_keep_60 : decode cX10_keep 60 = .ok (.imul, 1) := by decide +kernel
theorem dX10_keep_61 : decode cX10_keep 61 = .ok (.aload_n 0, 1) := by decide +kernel
theorem dX10_keep_62 : decode cX10_keep 62 = .ok (.getfield 13, 3) := by decide +kernel
theorem dX10_keep_65 : decode cX10_keep 65 = .ok (.iastore, 1) := by decide +kernel
theorem dX10_keep_66 : decode cX10_keep 66 = .ok (.aload_n 0, 1) := by decide +kernel
theorem dX10_keep_67 : decode cX10_keep 67 = .ok (.getfield 33, 3) := by decide +kernel
theorem dX10_keep_70 : decode cX10_keep 70 = .ok (.iconst 4, 1) := by decide +kernel
theorem dX10_keep_71 : decode cX10_keep 71 = .ok (.iload_n 1, 1) := by decide +kernel
theorem dX10_keep_72 : decode cX10_keep 72 = .ok (.imul, 1) := by decide +kernel
theorem dX10_keep_73 : decode cX10_keep 73 = .ok (.iconst 1, 1) := by decide +kernel
theorem dX10_keep_74 : decode cX10_keep 74 = .ok (.iadd, 1) := by decide +kernel
theorem dX10_keep_75 : decode cX10_keep 75 = .ok (.aload_n 0, 1) := by decide +kernel
theorem dX10_keep_76 : decode cX10_keep 76 = .ok (.getfield 17, 3) := by decide +kernel
theorem dX10_keep_79 : decode cX10_keep 79 = .ok (.iastore, 1) := by decide +kernel
theorem dX10_keep_80 : decode cX10_keep 80 = .ok (.aload_n 0, 1) := by decide +kernel
theorem dX10_keep_81 : decode cX10_keep 81 = .ok (.getfield 33, 3) := by decide +kernel
theorem dX10_keep_84 : decode cX10_keep 84 = .ok (.iconst 4, 1) := by decide +kernel
theorem dX10_keep_85 : decode cX10_keep 85 = .ok (.iload_n 1, 1) := by decide +kernel
theorem dX10_keep_86 : decode cX10_keep 86 = .ok (.imul, 1) := by decide +kernel
theorem dX10_keep_87 : decode cX10_keep 87 = .ok (.iconst 2, 1) := by decide +kernel
theorem dX10_keep_88 : decode cX10_keep 88 = .ok (.iadd, 1) := by decide +kernel
theorem dX10_keep_89 : decode cX10_keep 89 = .ok (.aload_n 0, 1) := by decide +kernel
theorem dX10_keep_90 : decode cX10_keep 90 = .ok (.getfield 103, 3) := by decide +kernel
theorem dX10_keep_93 : decode cX10_keep 93 = .ok (.iastore, 1) := by decide +kernel
theorem dX10_keep_94 : decode cX10_keep 94 = .ok (.aload_n 0, 1) := by decide +kernel
theorem dX10_keep_95 : decode cX10_keep 95 = .ok (.getfield 33, 3) := by decide +kernel
theorem dX10_keep_98 : decode cX10_keep 98 = .ok (.iconst 4, 1) := by decide +kernel
theorem dX10_keep_99 : decode cX10_keep 99 = .ok (.iload_n 1, 1) := by decide +kernel
theorem dX10_keep_100 : decode cX10_keep 100 = .ok (.imul, 1) := by decide +kernel
theorem dX10_keep_101 : decode cX10_keep 101 = .ok (.iconst 3, 1) := by decide +kernel
theorem dX10_keep_102 : decode cX10_keep 102 = .ok (.iadd, 1) := by decide +kernel
theorem dX10_keep_103 : decode cX10_keep 103 = .ok (.aload_n 0, 1) := by decide +kernel
theorem dX10_keep_104 : decode cX10_keep 104 = .ok (.getfield 106, 3) := by decide +kernel
theorem dX10_keep_107 : decode cX10_keep 107 = .ok (.iastore, 1) := by decide +kernel
theorem dX10_keep_108 : decode cX10_keep 108 = .ok (.aload_n 0, 1) := by decide +kernel
theorem dX10_keep_109 : decode cX10_keep 109 = .ok (.getfield 13, 3) := by decide +kernel
theorem dX10_keep_112 : decode cX10_keep 112 = .ok (.aload_n 0, 1) := by decide +kernel
theorem dX10_keep_113 : decode cX10_keep 113 = .ok (.getfield 17, 3) := by decide +kernel
theorem dX10_keep_116 : decode cX10_keep 116 = .ok (.imul, 1) := by decide +kernel
theorem dX10_keep_117 : decode cX10_keep 117 = .ok (.ireturn, 1) := by decide +kernel
set_option maxRecDepth 20000 in
theorem ggX10_again_X10_in : GoodIn wsX10_again wsX10_in := goodIn_r _ [14] (by decide +kernel) (by decide +kernel)
set_option maxRecDepth 20000 in
theorem gX10_again_X10_in : GoodIn wsX10_again (va_wsS RX10 84 yX10_in wsX10_in) := goodIn_app (goodIn_of _ (by decide +kernel)) ggX10_again_X10_in
theorem dX10_again_0 : decode cX10_again 0 = .ok (.aload_n 0, 1) := by decide +kernel
theorem dX10_again_1 : decode cX10_again 1 = .ok (.iconst 0, 1) := by decide +kernel
theorem dX10_again_2 : decode cX10_again 2 = .ok (.putfield 79, 3) := by decide +kernel
theorem dX10_again_5 : decode cX10_again 5 = .ok (.iload_n 1, 1) := by decide +kernel
theorem dX10_again_6 : decode cX10_again 6 = .ok (.i2l, 1) := by decide +kernel
theorem dX10_again_7 : decode cX10_again 7 = .ok (.lconst 0, 1) := by decide +kernel
theorem dX10_again_8 : decode cX10_again 8 = .ok (.lconst 1, 1) := by decide +kernel
theorem dX10_again_9 : decode cX10_again 9 = .ok (.invokestatic 84, 3) := by decide +kernel
theorem dX10_again_12 : decode cX10_again 12 = .ok (.ifCond .ne 5, 3) := by decide +kernel
theorem dX10_again_15 : decode cX10_again 15 = .ok (.iconst (-1), 1) := by decide +kernel
theorem dX10_again_16 : decode cX10_again 16 = .ok (.ireturn, 1) := by decide +kernel
theorem dX10_again_17 : decode cX10_again 17 = .ok (.aload_n 0, 1) := by decide +kernel
theorem dX10_again_18 : decode cX10_again 18 = .ok (.getfield 36, 3) := by decide +kernel
theorem dX10_again_21 : decode cX10_again 21 = .ok (.iload_n 1, 1) := by decide +kernel
theorem dX10_again_22 : decode cX10_again 22 = .ok (.baload, 1) := by decide +kernel
theorem dX10_again_23 : decode cX10_again 23 = .ok (.ifCond .ne 6, 3) := by decide +kernel
theorem dX10_again_26 : decode cX10_again 26 = .ok (.bipush (-3), 2) := by decide +kernel
theorem dX10_again_28 : decode cX10_again 28 = .ok (.ireturn, 1) := by decide +kernel
theorem dX10_again_29 : decode cX10_again 29 = .ok (.aload_n 0, 1) := by decide +kernel
theorem dX10_again_30 : decode cX10_again 30 = .ok (.aload_n 0, 1) := by decide +kernel
theorem dX10_again_31 : decode cX10_again 31 = .ok (.getfield 33, 3) := by decide +kernel
theorem dX10_again_34 : decode cX10_again 34 = .ok (.iconst 4, 1) := by decide +kernel
theorem dX10_again_35 : decode cX10_again 35 = .ok (.iload_n 1, 1) := by decide +kernel
theorem dX10_again_36 : decode cX10_again 36 = .ok (.imul, 1) := by decide +kernel
theorem dX10_again_37 : decode cX10_again 37 = .ok (.iaload, 1) := by decide +kernel
theorem dX10_again_38 : decode cX10_again 38 = .ok (.putfield 13, 3) := by decide +kernel
theorem dX10_again_41 : decode cX10_again 41 = .ok (.aload_n 0, 1) := by decide +kernel
theorem dX10_again_42 : decode cX10_again 42 = .ok (.aload_n 0, 1) := by decide +kernel
theorem dX10_again_43 : decode cX10_again 43 = .ok (.getfield 33, 3) := by decide +kernel
theorem dX10_again_46 : decode cX10_again 46 = .ok (.iconst 4, 1) := by decide +kernel
theorem dX10_again_47 : decode cX10_again 47 = .ok (.iload_n 1, 1) := by decide +kernel
theorem dX10_again_48 : decode cX10_again 48 = .ok (.imul, 1) := by decide +kernel
theorem dX10_again_49 : decode cX10_again 49 = .ok (.iconst 1, 1) := by decide +kernel
theorem dX10_again_50 : decode cX10_again 50 = .ok (.iadd, 1) := by decide +kernel
theorem dX10_again_51 : decode cX10_again 51 = .ok (.iaload, 1) := by decide +kernel
theorem dX10_again_52 : decode cX10_again 52 = .ok (.putfield 17, 3) := by decide +kernel
theorem dX10_again_55 : decode cX10_again 55 = .ok (.aload_n 0, 1) := by decide +kernel
theorem dX10_again_56 : decode cX10_again 56 = .ok (.aload_n 0, 1) := by decide +kernel
theorem dX10_again_57 : decode cX10_again 57 = .ok (.getfield 33, 3) := by decide +kernel
theorem dX10_again_60 : decode cX10_again 60 = .ok (.iconst 4, 1) := by decide +kernel
theorem dX10_again_61 : decode cX10_again 61 = .ok (.iload_n 1, 1) := by decide +kernel
theorem dX10_again_62 : decode cX10_again 62 = .ok (.imul, 1) := by decide +kernel
theorem dX10_again_63 : decode cX10_again 63 = .ok (.iconst 2, 1) := by decide +kernel
theorem dX10_again_64 : decode cX10_again 64 = .ok (.iadd, 1) := by decide +kernel
theorem dX10_again_65 : decode cX10_again 65 = .ok (.iaload, 1) := by decide +kernel
theorem dX10_again_66 : decode cX10_again 66 = .ok (.putfield 103, 3) := by decide +kernel
theorem dX10_again_69 : decode cX10_again 69 = .ok (.aload_n 0, 1) := by decide +kernel
theorem dX10_again_70 : decode cX10_again 70 = .ok (.aload_n 0, 1) := by decide +kernel
theorem dX10_again_71 : decode cX10_again 71 = .ok (.getfield 33, 3) := by decide +kernel
theorem dX10_again_74 : decode cX10_again 74 = .ok (.iconst 4, 1) := by decide +kernel
theorem dX10_again_75 : decode cX10_again 75 = .ok (.iload_n 1, 1) := by decide +kernel
theorem dX10_again_76 : decode cX10_again 76 = .ok (.imul, 1) := by decide +kernel
theorem dX10_again_77 : decode cX10_again 77 = .ok (.iconst 3, 1) := by decide +kernel
theorem dX10_again_78 : decode cX10_again 78 = .ok (.iadd, 1) := by decide +kernel
theorem dX10_again_79 : decode cX10_again 79 = .ok (.iaload, 1) := by decide +kernel
theorem dX10_again_80 : decode cX10_again 80 = .ok (.putfield 106, 3) := by decide +kernel
theorem dX10_again_83 : decode cX10_again 83 = .ok (.iconst 0, 1) := by decide +kernel
theorem dX10_again_84 : decode cX10_again 84 = .ok (.istore_n 2, 1) := by decide +kernel
theorem dX10_again_85 : decode cX10_again 85 = .ok (.iload_n 2, 1) := by decide +kernel
theorem dX10_again_86 : decode cX10_again 86 = .ok (.bipush 36, 2) := by decide +kernel
theorem dX10_again_88 : decode cX10_again 88 = .ok (.if_icmp .ge 63, 3) := by decide +kernel
theorem dX10_again_91 : decode cX10_again 91 = .ok (.aload_n 0, 1) := by decide +kernel
theorem dX10_again_92 : decode cX10_again 92 = .ok (.getfield 20, 3) := by decide +kernel
theorem dX10_again_95 : decode cX10_again 95 = .ok (.iload_n 2, 1) := by decide +kernel
theorem dX10_again_96 : decode cX10_again 96 = .ok (.aload_n 0, 1) := by decide +kernel
theorem dX10_again_97 : decode cX10_again 97 = .ok (.getfield 30, 3) := by decide +kernel
theorem dX10_again_100 : decode cX10_again 100 = .ok (.bipush 36, 2) := by decide +kernel
theorem dX10_again_102 : decode cX10_again 102 = .ok (.iload_n 1, 1) := by decide +kernel
theorem dX10_again_103 : decode cX10_again 103 = .ok (.imul, 1) := by decide +kernel
theorem dX10_again_104 : decode cX10_again 104 = .ok (.iload_n 2, 1) := by decide +kernel
theorem dX10_again_105 : decode cX10_again 105 = .ok (.iadd, 1) := by decide +kernel
theorem dX10_again_106 : decode cX10_again 106 = .ok (.iaload, 1) := by decide +kernel
theorem dX10_again_107 : decode cX10_again 107 = .ok (.iconst 2, 1) := by decide +kernel
theorem dX10_again_108 : decode cX10_again 108 = .ok (.irem, 1) := by decide +kernel
theorem dX10_again_109 : decode cX10_again 109 = .ok (.iconst 1, 1) := by decide +kernel
theorem dX10_again_110 : decode cX10_again 110 = .ok (.if_icmp .ne 7, 3) := by decide +kernel
theorem dX10_again_113 : decode cX10_again 113 = .ok (.iconst 1, 1) := by decide +kernel
theorem dX10_again_114 : decode cX10_again 114 = .ok (.goto 4, 3) := by decide +kernel
theorem dX10_again_117 : decode cX10_again 117 = .ok (.iconst 0, 1) := by decide +kernel
theorem dX10_again_118 : decode cX10_again 118 = .ok (.bastore, 1) := by decide +kernel
theorem dX10_again_119 : decode cX10_again 119 = .ok (.aload_n 0, 1) := by decide +kernel
theorem dX10_again_120 : decode cX10_again 120 = .ok (.getfield 24, 3) := by decide +kernel
theorem dX10_again_123 : decode cX10_again 123 = .ok (.iload_n 2, 1) := by decide +kernel
theorem dX10_again_124 : decode cX10_again 124 = .ok (.aload_n 0, 1) := by decide +kernel
theorem dX10_again_125 : decode cX10_again 125 = .ok (.getfield 30, 3) := by decide +kernel
theorem dX10_again_128 : decode cX10_again 128 = .ok (.bipush 36, 2) := by decide +kernel
theorem dX10_again_130 : decode cX10_again 130 = .ok (.iload_n 1, 1) := by decide +kernel
theorem dX10_again_131 : decode cX10_again 131 = .ok (.imul, 1) := by decide +kernel
theorem dX10_again_132 : decode cX10_again 132 = .ok (.iload_n 2, 1) := by decide +kernel
theorem dX10_again_133 : decode cX10_again 133 = .ok (.iadd, 1) := by decide +kernel
theorem dX10_again_134 : decode cX10_again 134 = .ok (.iaload, 1) := by decide +kernel
theorem dX10_again_135 : decode cX10_again 135 = .ok (.iconst 1, 1) := by decide +kernel
theorem dX10_again_136 : decode cX10_again 136 = .ok (.if_icmp .le 7, 3) := by decide +kernel
theorem dX10_again_139 : decode cX10_again 139 = .ok (.iconst 1, 1) := by decide +kernel
theorem dX10_again_140 : decode cX10_again 140 = .ok (.goto 4, 3) := by decide +kernel
theorem dX10_again_143 : decode cX10_again 143 = .ok (.iconst 0, 1) := by decide +kernel
theorem dX10_again_144 : decode cX10_again 144 = .ok (.bastore, 1) := by decide +kernel
theorem dX10_again_145 : decode cX10_again 145 = .ok (.iinc 2 1, 3) := by decide +kernel
theorem dX10_again_148 : decode cX10_again 148 = .ok (.goto (-63), 3) := by decide +kernel
theorem dX10_again_151 : decode cX10_again 151 = .ok (.aload_n 0, 1) := by decide +kernel
theorem dX10_again_152 : decode cX10_again 152 = .ok (.getfield 13, 3) := by decide +kernel
theorem dX10_again_155 : decode cX10_again 155 = .ok (.aload_n 0, 1) := by decide +kernel
theorem dX10_again_156 : decode cX10_again 156 = .ok (.getfield 17, 3) := by decide +kernel
theorem dX10_again_159 : decode cX10_again 159 = .ok (.imul, 1) := by decide +kernel
theorem dX10_again_160 : decode cX10_again 160 = .ok (.ireturn, 1) := by decide +kernel
theorem dJ13_bitCount_95d88_0 : decode cJ13_bitCount_95d88 0 = .ok (.lload_n 0, 1) := by decide +kernel
theorem dJ13_bitCount_95d88_1 : decode cJ13_bitCount_95d88 1 = .ok (.lload_n 0, 1) := by decide +kernel
theorem dJ13_bitCount_95d88_2 : decode cJ13_bitCount_95d88 2 = .ok (.iconst 1, 1) := by decide +kernel
theorem dJ13_bitCount_95d88_3 : decode cJ13_bitCount_95d88 3 = .ok (.lushr, 1) := by decide +kernel
theorem dJ13_bitCount_95d88_4 : decode cJ13_bitCount_95d88 4 = .ok (.ldc2_w 314, 3) := by decide +kernel
theorem dJ13_bitCount_95d88_7 : decode cJ13_bitCount_95d88 7 = .ok (.land, 1) := by decide +kernel
theorem dJ13_bitCount_95d88_8 : decode cJ13_bitCount_95d88 8 = .ok (.lsub, 1) := by decide +kernel
theorem dJ13_bitCount_95d88_9 : decode cJ13_bitCount_95d88 9 = .ok (.lstore_n 0, 1) := by decide +kernel
theorem dJ13_bitCount_95d88_10 : decode cJ13_bitCount_95d88 10 = .ok (.lload_n 0, 1) := by decide +kernel
theorem dJ13_bitCount_95d88_11 : decode cJ13_bitCount_95d88 11 = .ok (.ldc2_w 316, 3) := by decide +kernel
theorem dJ13_bitCount_95d88_14 : decode cJ13_bitCount_95d88 14 = .ok (.land, 1) := by decide +kernel
theorem dJ13_bitCount_95d88_15 : decode cJ13_bitCount_95d88 15 = .ok (.lload_n 0, 1) := by decide +kernel
theorem dJ13_bitCount_95d88_16 : decode cJ13_bitCount_95d88 16 = .ok (.iconst 2, 1) := by decide +kernel
theorem dJ13_bitCount_95d88_17 : decode cJ13_bitCount_95d88 17 = .ok (.lushr, 1) := by decide +kernel
theorem dJ13_bitCount_95d88_18 : decode cJ13_bitCount_95d88 18 = .ok (.ldc2_w 316, 3) := by decide +kernel
theorem dJ13_bitCount_95d88_21 : decode cJ13_bitCount_95d88 21 = .ok (.land, 1) := by decide +kernel
theorem dJ13_bitCount_95d88_22 : decode cJ13_bitCount_95d88 22 = .ok (.ladd, 1) := by decide +kernel
theorem dJ13_bitCount_95d88_23 : decode cJ13_bitCount_95d88 23 = .ok (.lstore_n 0, 1) := by decide +kernel
theorem dJ13_bitCount_95d88_24 : decode cJ13_bitCount_95d88 24 = .ok (.lload_n 0, 1) := by decide +kernel
theorem dJ13_bitCount_95d88_25 : decode cJ13_bitCount_95d88 25 = .ok (.lload_n 0, 1) := by decide +kernel
theorem dJ13_bitCount_95d88_26 : decode cJ13_bitCount_95d88 26 = .ok (.iconst 4, 1) := by decide +kernel
theorem dJ13_bitCount_95d88_27 : decode cJ13_bitCount_95d88 27 = .ok (.lushr, 1) := by decide +kernel
theorem dJ13_bitCount_95d88_28 : decode cJ13_bitCount_95d88 28 = .ok (.ladd, 1) := by decide +kernel
theorem dJ13_bitCount_95d88_29 : decode cJ13_bitCount_95d88 29 = .ok (.ldc2_w 318, 3) := by decide +kernel
theorem dJ13_bitCount_95d88_32 : decode cJ13_bitCount_95d88 32 = .ok (.land, 1) := by decide +kernel
theorem dJ13_bitCount_95d88_33 : decode cJ13_bitCount_95d88 33 = .ok (.lstore_n 0, 1) := by decide +kernel
theorem dJ13_bitCount_95d88_34 : decode cJ13_bitCount_95d88 34 = .ok (.lload_n 0, 1) := by decide +kernel
theorem dJ13_bitCount_95d88_35 : decode cJ13_bitCount_95d88 35 = .ok (.lload_n 0, 1) := by decide +kernel
theorem dJ13_bitCount_95d88_36 : decode cJ13_bitCount_95d88 36 = .ok (.bipush 8, 2) := by decide +kernel
theorem dJ13_bitCount_95d88_38 : decode cJ13_bitCount_95d88 38 = .ok (.lushr, 1) := by decide +kernel
theorem dJ13_bitCount_95d88_39 : decode cJ13_bitCount_95d88 39 = .ok (.ladd, 1) := by decide +kernel
theorem dJ13_bitCount_95d88_40 : decode cJ13_bitCount_95d88 40 = .ok (.lstore_n 0, 1) := by decide +kernel
theorem dJ13_bitCount_95d88_41 : decode cJ13_bitCount_95d88 41 = .ok (.lload_n 0, 1) := by decide +kernel
theorem dJ13_bitCount_95d88_42 : decode cJ13_bitCount_95d88 42 = .ok (.lload_n 0, 1) := by decide +kernel
theorem dJ13_bitCount_95d88_43 : decode cJ13_bitCount_95d88 43 = .ok (.bipush 16, 2) := by decide +kernel
theorem dJ13_bitCount_95d88_45 : decode cJ13_bitCount_95d88 45 = .ok (.lushr, 1) := by decide +kernel
theorem dJ13_bitCount_95d88_46 : decode cJ13_bitCount_95d88 46 = .ok (.ladd, 1) := by decide +kernel
theorem dJ13_bitCount_95d88_47 : decode cJ13_bitCount_95d88 47 = .ok (.lstore_n 0, 1) := by decide +kernel
theorem dJ13_bitCount_95d88_48 : decode cJ13_bitCount_95d88 48 = .ok (.lload_n 0, 1) := by decide +kernel
theorem dJ13_bitCount_95d88_49 : decode cJ13_bitCount_95d88 49 = .ok (.lload_n 0, 1) := by decide +kernel
theorem dJ13_bitCount_95d88_50 : decode cJ13_bitCount_95d88 50 = .ok (.bipush 32, 2) := by decide +kernel
theorem dJ13_bitCount_95d88_52 : decode cJ13_bitCount_95d88 52 = .ok (.lushr, 1) := by decide +kernel
theorem dJ13_bitCount_95d88_53 : decode cJ13_bitCount_95d88 53 = .ok (.ladd, 1) := by decide +kernel
theorem dJ13_bitCount_95d88_54 : decode cJ13_bitCount_95d88 54 = .ok (.lstore_n 0, 1) := by decide +kernel
theorem dJ13_bitCount_95d88_55 : decode cJ13_bitCount_95d88 55 = .ok (.lload_n 0, 1) := by decide +kernel
theorem dJ13_bitCount_95d88_56 : decode cJ13_bitCount_95d88 56 = .ok (.l2i, 1) := by decide +kernel
theorem dJ13_bitCount_95d88_57 : decode cJ13_bitCount_95d88 57 = .ok (.bipush 127, 2) := by decide +kernel
theorem dJ13_bitCount_95d88_59 : decode cJ13_bitCount_95d88 59 = .ok (.iand, 1) := by decide +kernel
theorem dJ13_bitCount_95d88_60 : decode cJ13_bitCount_95d88 60 = .ok (.ireturn, 1) := by decide +kernel
theorem dJ9_max_7cf53_0 : decode cJ9_max_7cf53 0 = .ok (.iload_n 0, 1) := by decide +kernel
theorem dJ9_max_7cf53_1 : decode cJ9_max_7cf53 1 = .ok (.iload_n 1, 1) := by decide +kernel
theorem dJ9_max_7cf53_2 : decode cJ9_max_7cf53 2 = .ok (.if_icmp .lt 7, 3) := by decide +kernel
theorem dJ9_max_7cf53_5 : decode cJ9_max_7cf53 5 = .ok (.iload_n 0, 1) := by decide +kernel
theorem dJ9_max_7cf53_6 : decode cJ9_max_7cf53 6 = .ok (.goto 4, 3) := by decide +kernel
theorem dJ9_max_7cf53_9 : decode cJ9_max_7cf53 9 = .ok (.iload_n 1, 1) := by decide +kernel
theorem dJ9_max_7cf53_10 : decode cJ9_max_7cf53 10 = .ok (.ireturn, 1) := by decide +kernel
theorem dJ9_min_7cf53_0 : decode cJ9_min_7cf53 0 = .ok (.iload_n 0, 1) := by decide +kernel
theorem dJ9_min_7cf53_1 : decode cJ9_min_7cf53 1 = .ok (.iload_n 1, 1) := by decide +kernel
theorem dJ9_min_7cf53_2 : decode cJ9_min_7cf53 2 = .ok (.if_icmp .gt 7, 3) := by decide +kernel
theorem dJ9_min_7cf53_5 : decode cJ9_min_7cf53 5 = .ok (.iload_n 0, 1) := by decide +kernel
theorem dJ9_min_7cf53_6 : decode cJ9_min_7cf53 6 = .ok (.goto 4, 3) := by decide +kernel
theorem dJ9_min_7cf53_9 : decode cJ9_min_7cf53 9 = .ok (.iload_n 1, 1) := by decide +kernel
theorem dJ9_min_7cf53_10 : decode cJ9_min_7cf53 10 = .ok (.ireturn, 1) := by decide +kernel
set_option maxRecDepth 20000 in
theorem ggL_law_X9_init : GoodIn wsL_law wsX9_init := goodIn_r _ [9, 10, 11, 12, 13, 14, 15, 16, 17, 18, 19, 20, 21, 22, 23, 24, 25, 26, 27, 28, 29, 30, 31, 32, 33, 34, 35, 36, 37, 38, 39, 40, 41, 42, 43, 44, 45, 46, 47, 48, 49, 50, 51, 52, 53, 54, 55, 56, 57, 58, 59, 60, 61, 62, 63, 64, 65, 66, 67, 68, 69, 70, 71, 72, 73, 74, 75, 76, 77, 78, 79, 80, 81, 82, 83, 84, 85, 86, 87, 88, 89, 90, 91, 92, 93, 94, 95, 96, 97, 98, 99, 100, 101, 102, 103, 104, 105, 106, 107, 108, 109, 110, 111, 112, 113, 114, 115, 116, 117, 118, 1028, 1029, 983, 984, 985, 986, 987, 988, 989, 990, 991, 992, 993, 1030, 1031, 1032, 1033, 1034, 1035, 1036, 1037, 1038, 1039, 1040, 1041, 1042, 1043, 1044, 1045, 1046, 1047, 1048, 1049, 1050, 1051, 1052, 1053, 1054, 1055, 1056, 1057, 1058, 1059, 1060] (by decide +kernel) (by decide +kernel)
set_option maxRecDepth 20000 in
theorem gL_law_X9_init : GoodIn wsL_law (wsX9_init) := ggL_law_X9_init
set_option maxRecDepth 20000 in
theorem ggL_law_X10_init : GoodIn wsL_law wsX10_init := goodIn_r _ [121, 122, 11, 12, 55, 123, 124, 125, 126, 127, 128, 129, 130, 131, 132, 133, 134, 90, 135, 136, 137, 138, 139, 140, 141, 142, 143, 144, 145, 994, 995, 996, 997, 998, 999, 1000, 1001, 1002, 1003, 1004, 1005, 1006, 1007, 1008, 1009, 1010, 1011, 1012, 1013, 1014, 1015, 1016, 1017, 1018, 1019, 1020, 1021, 1022, 1023, 1024, 1025, 1026, 1027] (by decide +kernel) (by decide +kernel)
set_option maxRecDepth 20000 in
theorem gL_law_X10_init : GoodIn wsL_law (wsX10_init) := ggL_law_X10_init
set_option maxRecDepth 20000 in
theorem ggL_law_X9_write : GoodIn wsL_law wsX9_write := goodIn_r _ [149, 16, 150, 151, 152, 153, 15, 154, 57, 56, 155, 983, 984, 985, 986, 987, 988, 989, 990, 991, 992, 993, 1028, 1029] (by decide +kernel) (by decide +kernel)
set_option maxRecDepth 20000 in
theorem gL_law_X9_write : GoodIn wsL_law (wsV RL 15 RX9 yX9_write wsX9_write) := goodIn_app (goodIn_of _ (by decide +kernel)) ggL_law_X9_write
set_option maxRecDepth 20000 in
theorem ggL_law_X10_write : GoodIn wsL_law wsX10_write := goodIn_r _ [159, 160, 161, 162, 123, 163, 164, 5, 165, 994, 995, 996, 997, 998, 999, 1000, 1001, 1002, 1003, 1004, 1005, 1006, 1007, 1008, 1009, 1010, 1011, 1012, 1013, 1014, 1015, 1016, 1017, 1018, 1019, 1020, 1021, 1022, 1023, 1024, 1025, 1026, 1027] (by decide +kernel) (by decide +kernel)
set_option maxRecDepth 20000 in
theorem gL_law_X10_write : GoodIn wsL_law (wsV RL 19 RX10 yX10_write wsX10_write) := goodIn_app (goodIn_of _ (by decide +kernel)) ggL_law_X10_write
set_option maxRecDepth 20000 in
theorem ggL_law_X9_wipe : GoodIn wsL_law wsX9_wipe := goodIn_r _ [169, 16, 150, 983, 984, 985, 986, 987, 988, 989, 990, 991, 992, 993, 1028, 1029] (by decide +kernel) (by decide +kernel)
set_option maxRecDepth 20000 in
theorem gL_law_X9_wipe : GoodIn wsL_law (wsV RL 20 RX9 yX9_wipe wsX9_wipe) := goodIn_app (goodIn_of _ (by decide +kernel)) ggL_law_X9_wipe
set_option maxRecDepth 20000 in
theorem ggL_law_X10_wipe : GoodIn wsL_law wsX10_wipe := goodIn_r _ [173, 160, 162, 994, 995, 996, 997, 998, 999, 1000, 1001, 1002, 1003, 1004, 1005, 1006, 1007, 1008, 1009, 1010, 1011, 1012, 1013, 1014, 1015, 1016, 1017, 1018, 1019, 1020, 1021, 1022, 1023, 1024, 1025, 1026, 1027] (by decide +kernel) (by decide +kernel)
set_option maxRecDepth 20000 in
theorem gL_law_X10_wipe : GoodIn wsL_law (wsV RL 24 RX10 yX10_wipe wsX10_wipe) := goodIn_app (goodIn_of _ (by decide +kernel)) ggL_law_X10_wipe
set_option maxRecDepth 20000 in
theorem ggL_law_X9_fault : GoodIn wsL_law wsX9_fault := goodIn_r _ [177, 16, 178, 179, 180, 15, 181, 57, 56, 182, 183, 184, 185, 186, 187, 188, 189, 190, 191, 192, 193, 983, 984, 985, 986, 987, 988, 989, 990, 991, 992, 993, 1028, 1029] (by decide +kernel) (by decide +kernel)
set_option maxRecDepth 20000 in
theorem gL_law_X9_fault : GoodIn wsL_law (wsV RL 25 RX9 yX9_fault wsX9_fault) := goodIn_app (goodIn_of _ (by decide +kernel)) ggL_law_X9_fault
set_option maxRecDepth 20000 in
theorem ggL_law_X10_fault : GoodIn wsL_law wsX10_fault := goodIn_r _ [197, 160, 198, 199, 200, 5, 201, 202, 203, 162, 129, 123, 204, 163, 164, 165, 994, 995, 996, 997, 998, 999, 1000, 1001, 1002, 1003, 1004, 1005, 1006, 1007, 1008, 1009, 1010, 1011, 1012, 1013, 1014, 1015, 1016, 1017, 1018, 1019, 1020, 1021, 1022, 1023, 1024, 1025, 1026, 1027] (by decide +kernel) (by decide +kernel)
set_option maxRecDepth 20000 in
theorem gL_law_X10_fault : GoodIn wsL_law (wsV RL 28 RX10 yX10_fault wsX10_fault) := goodIn_app (goodIn_of _ (by decide +kernel)) ggL_law_X10_fault
set_option maxRecDepth 20000 in
theorem ggL_law_X9_maze : GoodIn wsL_law wsX9_maze := goodIn_r _ [208, 16, 20, 178, 179, 180, 15, 181, 57, 56, 182, 183, 184, 185, 186, 187, 188, 189, 190, 191, 192, 193, 209, 210, 211, 212, 213, 214, 215, 216, 217, 63, 64, 19, 65, 66, 67, 68, 69, 70, 71, 72, 218, 219, 220, 221, 222, 223, 224, 225, 226, 227, 228, 229, 230, 231, 232, 233, 234, 235, 236, 237, 238, 239, 240, 983, 984, 985, 986, 987, 988, 989, 990, 991, 992, 993, 1028, 1029, 1030, 1031, 1032, 1033, 1034, 1035, 1036] (by decide +kernel) (by decide +kernel)
set_option maxRecDepth 20000 in
theorem gL_law_X9_maze : GoodIn wsL_law (wsV RL 29 RX9 yX9_maze wsX9_maze) := goodIn_app (goodIn_of _ (by decide +kernel)) ggL_law_X9_maze
set_option maxRecDepth 20000 in
theorem ggL_law_X10_maze : GoodIn wsL_law wsX10_maze := goodIn_r _ [244, 160, 202, 203, 124, 125, 127, 129, 128, 198, 199, 200, 5, 201, 162, 123, 204, 163, 164, 165, 245, 246, 247, 248, 249, 250, 994, 995, 996, 997, 998, 999, 1000, 1001, 1002, 1003, 1004, 1005, 1006, 1007, 1008, 1009, 1010, 1011, 1012, 1013, 1014, 1015, 1016, 1017, 1018, 1019, 1020, 1021, 1022, 1023, 1024, 1025, 1026, 1027] (by decide +kernel) (by decide +kernel)
set_option maxRecDepth 20000 in
theorem gL_law_X10_maze : GoodIn wsL_law (wsV RL 32 RX10 yX10_maze wsX10_maze) := goodIn_app (goodIn_of _ (by decide +kernel)) ggL_law_X10_maze
set_option maxRecDepth 20000 in
theorem ggL_law_X9_make : GoodIn wsL_law wsX9_make := goodIn_r _ [254, 20, 26, 255, 63, 64, 19, 65, 66, 67, 68, 69, 70, 71, 72, 256, 257, 258, 25, 259, 260, 78, 77, 261, 262, 263, 264, 265, 266, 267, 268, 227, 228, 229, 230, 231, 232, 233, 269, 270, 271, 272, 273, 274, 275, 276, 277, 223, 224, 225, 278, 279, 280, 281, 282, 283, 284, 285, 286, 287, 234, 235, 236, 288, 289, 290, 291, 292, 293, 294, 295, 296, 297, 298, 219, 220, 221, 222, 226, 299, 300, 301, 302, 79, 303, 304, 305, 306, 307, 308, 309, 310, 311, 312, 313, 314, 315, 316, 317, 237, 238, 239, 240, 983, 984, 985, 986, 987, 988, 989, 990, 991, 992, 993, 1030, 1031, 1032, 1033, 1034, 1035, 1036, 1037, 1038, 1039, 1040] (by decide +kernel) (by decide +kernel)
set_option maxRecDepth 20000 in
theorem gL_law_X9_make : GoodIn wsL_law (wsV RL 33 RX9 yX9_make wsX9_make) := goodIn_app (goodIn_of _ (by decide +kernel)) ggL_law_X9_make
set_option maxRecDepth 20000 in
theorem ggL_law_X10_make : GoodIn wsL_law wsX10_make := goodIn_r _ [321, 160, 322, 323, 163, 164, 5, 165, 245, 246, 247, 248, 124, 125, 127, 128, 249, 250, 324, 325, 326, 327, 144, 137, 328, 329, 330, 331, 332, 333, 334, 335, 336, 337, 338, 339, 340, 341, 342, 343, 344, 345, 133, 346, 347, 348, 349, 134, 136, 350, 351, 352, 353, 354, 355, 356, 357, 358, 359, 360, 361, 139, 138, 362, 363, 364, 365, 994, 995, 996, 997, 998, 999, 1000, 1001, 1002, 1003, 1004, 1005, 1006, 1007, 1008, 1009, 1010, 1011, 1012, 1013, 1014, 1015, 1016, 1017, 1018, 1019, 1020, 1021, 1022, 1023, 1024, 1025, 1026, 1027] (by decide +kernel) (by decide +kernel)
set_option maxRecDepth 20000 in
theorem gL_law_X10_make : GoodIn wsL_law (wsV RL 37 RX10 yX10_make wsX10_make) := goodIn_app (goodIn_of _ (by decide +kernel)) ggL_law_X10_make
set_option maxRecDepth 20000 in
theorem ggL_law_X9_open : GoodIn wsL_law wsX9_open := goodIn_r _ [369, 20, 370, 371, 372, 19, 373, 66, 67, 374, 375, 2, 376, 377, 270, 271, 272, 70, 69, 231, 232, 233, 378, 379, 380, 983, 984, 985, 986, 987, 988, 989, 990, 991, 992, 993, 1030, 1031, 1032, 1033, 1034, 1035, 1036] (by decide +kernel) (by decide +kernel)
set_option maxRecDepth 20000 in
theorem gL_law_X9_open : GoodIn wsL_law (wsV RL 38 RX9 yX9_open wsX9_open) := goodIn_app (goodIn_of _ (by decide +kernel)) ggL_law_X9_open
set_option maxRecDepth 20000 in
theorem ggL_law_X10_open : GoodIn wsL_law wsX10_open := goodIn_r _ [384, 160, 385, 386, 387, 5, 388, 124, 125, 389, 390, 391, 204, 163, 164, 165, 392, 393, 394, 350, 351, 352, 353, 127, 128, 332, 333, 334, 335, 994, 995, 996, 997, 998, 999, 1000, 1001, 1002, 1003, 1004, 1005, 1006, 1007, 1008, 1009, 1010, 1011, 1012, 1013, 1014, 1015, 1016, 1017, 1018, 1019, 1020, 1021, 1022, 1023, 1024, 1025, 1026, 1027] (by decide +kernel) (by decide +kernel)
set_option maxRecDepth 20000 in
theorem gL_law_X10_open : GoodIn wsL_law (wsV RL 42 RX10 yX10_open wsX10_open) := goodIn_app (goodIn_of _ (by decide +kernel)) ggL_law_X10_open
set_option maxRecDepth 20000 in
theorem ggL_law_X9_hedge : GoodIn wsL_law wsX9_hedge := goodIn_r _ [398, 20, 370, 371, 372, 19, 373, 66, 67, 374, 375, 2, 376, 399, 228, 229, 230, 68, 231, 232, 233, 377, 270, 271, 272, 70, 69, 378, 379, 380, 400, 219, 220, 221, 222, 223, 224, 225, 226, 227, 234, 235, 236, 983, 984, 985, 986, 987, 988, 989, 990, 991, 992, 993, 1030, 1031, 1032, 1033, 1034, 1035, 1036] (by decide +kernel) (by decide +kernel)
set_option maxRecDepth 20000 in
theorem gL_law_X9_hedge : GoodIn wsL_law (wsV RL 43 RX9 yX9_hedge wsX9_hedge) := goodIn_app (goodIn_of _ (by decide +kernel)) ggL_law_X9_hedge
set_option maxRecDepth 20000 in
theorem ggL_law_X10_hedge : GoodIn wsL_law wsX10_hedge := goodIn_r _ [404, 160, 385, 386, 387, 5, 388, 124, 125, 389, 390, 391, 204, 163, 164, 165, 392, 393, 394, 332, 333, 334, 335, 350, 351, 352, 353, 127, 128, 354, 355, 356, 357, 994, 995, 996, 997, 998, 999, 1000, 1001, 1002, 1003, 1004, 1005, 1006, 1007, 1008, 1009, 1010, 1011, 1012, 1013, 1014, 1015, 1016, 1017, 1018, 1019, 1020, 1021, 1022, 1023, 1024, 1025, 1026, 1027] (by decide +kernel) (by decide +kernel)
set_option maxRecDepth 20000 in
theorem gL_law_X10_hedge : GoodIn wsL_law (wsV RL 47 RX10 yX10_hedge wsX10_hedge) := goodIn_app (goodIn_of _ (by decide +kernel)) ggL_law_X10_hedge
set_option maxRecDepth 20000 in
theorem ggL_law_X9_gates : GoodIn wsL_law wsX9_gates := goodIn_r _ [408, 20, 409, 410, 370, 371, 372, 19, 373, 66, 67, 411, 412, 413, 983, 984, 985, 986, 987, 988, 989, 990, 991, 992, 993, 1030, 1031, 1032, 1033, 1034, 1035, 1036] (by decide +kernel) (by decide +kernel)
set_option maxRecDepth 20000 in
theorem gL_law_X9_gates : GoodIn wsL_law (wsV RL 48 RX9 yX9_gates wsX9_gates) := goodIn_app (goodIn_of _ (by decide +kernel)) ggL_law_X9_gates
set_option maxRecDepth 20000 in
theorem ggL_law_X10_gates : GoodIn wsL_law wsX10_gates := goodIn_r _ [417, 160, 249, 250, 385, 386, 387, 5, 388, 124, 125, 418, 419, 420, 392, 393, 394, 994, 995, 996, 997, 998, 999, 1000, 1001, 1002, 1003, 1004, 1005, 1006, 1007, 1008, 1009, 1010, 1011, 1012, 1013, 1014, 1015, 1016, 1017, 1018, 1019, 1020, 1021, 1022, 1023, 1024, 1025, 1026, 1027] (by decide +kernel) (by decide +kernel)
set_option maxRecDepth 20000 in
theorem gL_law_X10_gates : GoodIn wsL_law (wsV RL 51 RX10 yX10_gates wsX10_gates) := goodIn_app (goodIn_of _ (by decide +kernel)) ggL_law_X10_gates
set_option maxRecDepth 20000 in
theorem ggL_law_X9_figure : GoodIn wsL_law wsX9_figure := goodIn_r _ [424, 20, 370, 371, 372, 19, 373, 66, 67, 377, 270, 271, 272, 70, 69, 231, 232, 233, 378, 379, 2, 380, 983, 984, 985, 986, 987, 988, 989, 990, 991, 992, 993, 1030, 1031, 1032, 1033, 1034, 1035, 1036] (by decide +kernel) (by decide +kernel)
set_option maxRecDepth 20000 in
theorem gL_law_X9_figure : GoodIn wsL_law (wsV RL 52 RX9 yX9_figure wsX9_figure) := goodIn_app (goodIn_of _ (by decide +kernel)) ggL_law_X9_figure
set_option maxRecDepth 20000 in
theorem ggL_law_X10_figure : GoodIn wsL_law wsX10_figure := goodIn_r _ [428, 160, 385, 386, 387, 5, 388, 124, 125, 392, 393, 394, 429, 430, 431, 432, 127, 128, 994, 995, 996, 997, 998, 999, 1000, 1001, 1002, 1003, 1004, 1005, 1006, 1007, 1008, 1009, 1010, 1011, 1012, 1013, 1014, 1015, 1016, 1017, 1018, 1019, 1020, 1021, 1022, 1023, 1024, 1025, 1026, 1027] (by decide +kernel) (by decide +kernel)
set_option maxRecDepth 20000 in
theorem gL_law_X10_figure : GoodIn wsL_law (wsV RL 56 RX10 yX10_figure wsX10_figure) := goodIn_app (goodIn_of _ (by decide +kernel)) ggL_law_X10_figure
set_option maxRecDepth 20000 in
theorem ggL_law_X9_about : GoodIn wsL_law wsX9_about := goodIn_r _ [436, 20, 437, 438, 30, 409, 410, 16, 150, 237, 238, 239, 19, 240, 66, 67, 439, 440, 441, 442, 69, 70, 443, 444, 445, 446, 447, 448, 449, 450, 451, 452, 29, 453, 84, 454, 455, 456, 457, 458, 459, 285, 286, 287, 68, 234, 235, 236, 288, 289, 290, 291, 292, 293, 294, 295, 460, 461, 462, 463, 464, 465, 466, 467, 468, 232, 233, 469, 470, 471, 472, 473, 474, 475, 476, 477, 478, 479, 480, 269, 270, 271, 272, 231, 227, 228, 229, 230, 481, 219, 220, 221, 222, 223, 224, 225, 226, 482, 483, 484, 485, 486, 487, 488, 489, 490, 491, 492, 493, 494, 495, 496, 497, 498, 499, 500, 411, 412, 413, 983, 984, 985, 986, 987, 988, 989, 990, 991, 992, 993, 1030, 1031, 1032, 1033, 1034, 1035, 1036, 1028, 1029, 1041] (by decide +kernel) (by decide +kernel)
set_option maxRecDepth 20000 in
theorem gL_law_X9_about : GoodIn wsL_law (wsV RL 57 RX9 yX9_about wsX9_about) := goodIn_app (goodIn_of _ (by decide +kernel)) ggL_law_X9_about
set_option maxRecDepth 20000 in
theorem ggL_law_X10_about : GoodIn wsL_law wsX10_about := goodIn_r _ [504, 160, 124, 125, 249, 250, 162, 328, 329, 330, 5, 331, 505, 506, 507, 508, 350, 351, 352, 353, 127, 128, 332, 333, 334, 335, 163, 164, 165, 509, 510, 511, 512, 136, 513, 514, 515, 516, 133, 346, 347, 348, 349, 134, 517, 518, 519, 520, 342, 343, 344, 345, 137, 521, 522, 523, 524, 525, 526, 527, 528, 354, 355, 356, 357, 529, 530, 531, 532, 533, 534, 535, 536, 537, 538, 539, 540, 418, 419, 420, 994, 995, 996, 997, 998, 999, 1000, 1001, 1002, 1003, 1004, 1005, 1006, 1007, 1008, 1009, 1010, 1011, 1012, 1013, 1014, 1015, 1016, 1017, 1018, 1019, 1020, 1021, 1022, 1023, 1024, 1025, 1026, 1027] (by decide +kernel) (by decide +kernel)
set_option maxRecDepth 20000 in
theorem gL_law_X10_about : GoodIn wsL_law (wsV RL 60 RX10 yX10_about wsX10_about) := goodIn_app (goodIn_of _ (by decide +kernel)) ggL_law_X10_about
set_option maxRecDepth 20000 in
theorem ggL_law_X9_part : GoodIn wsL_law wsX9_part := goodIn_r _ [544, 20, 370, 371, 372, 19, 373, 66, 67, 545, 285, 286, 287, 68, 234, 235, 236, 288, 289, 290, 291, 292, 293, 294, 295, 69, 70, 546, 457, 458, 443, 444, 445, 446, 447, 448, 449, 411, 412, 413, 983, 984, 985, 986, 987, 988, 989, 990, 991, 992, 993, 1030, 1031, 1032, 1033, 1034, 1035, 1036] (by decide +kernel) (by decide +kernel)
set_option maxRecDepth 20000 in
theorem gL_law_X9_part : GoodIn wsL_law (wsV RL 61 RX9 yX9_part wsX9_part) := goodIn_app (goodIn_of _ (by decide +kernel)) ggL_law_X9_part
set_option maxRecDepth 20000 in
theorem ggL_law_X10_part : GoodIn wsL_law wsX10_part := goodIn_r _ [550, 160, 137, 385, 386, 387, 5, 388, 124, 125, 342, 343, 344, 345, 133, 328, 329, 330, 331, 346, 347, 348, 349, 134, 136, 350, 351, 352, 353, 127, 128, 332, 333, 334, 335, 163, 164, 165, 392, 393, 394, 418, 419, 420, 994, 995, 996, 997, 998, 999, 1000, 1001, 1002, 1003, 1004, 1005, 1006, 1007, 1008, 1009, 1010, 1011, 1012, 1013, 1014, 1015, 1016, 1017, 1018, 1019, 1020, 1021, 1022, 1023, 1024, 1025, 1026, 1027] (by decide +kernel) (by decide +kernel)
set_option maxRecDepth 20000 in
theorem gL_law_X10_part : GoodIn wsL_law (wsV RL 64 RX10 yX10_part wsX10_part) := goodIn_app (goodIn_of _ (by decide +kernel)) ggL_law_X10_part
set_option maxRecDepth 20000 in
theorem ggL_law_X9_bridge : GoodIn wsL_law wsX9_bridge := goodIn_r _ [554, 20, 30, 370, 371, 372, 19, 373, 66, 67, 374, 375, 2, 376, 377, 270, 271, 272, 70, 69, 231, 232, 233, 555, 474, 475, 29, 476, 84, 477, 478, 479, 480, 269, 227, 228, 229, 230, 68, 481, 219, 220, 221, 222, 223, 224, 225, 226, 234, 235, 236, 459, 285, 286, 287, 288, 289, 290, 291, 292, 293, 294, 295, 468, 378, 379, 380, 983, 984, 985, 986, 987, 988, 989, 990, 991, 992, 993, 1030, 1031, 1032, 1033, 1034, 1035, 1036, 1041] (by decide +kernel) (by decide +kernel)
set_option maxRecDepth 20000 in
theorem gL_law_X9_bridge : GoodIn wsL_law (wsV RL 65 RX9 yX9_bridge wsX9_bridge) := goodIn_app (goodIn_of _ (by decide +kernel)) ggL_law_X9_bridge
set_option maxRecDepth 20000 in
theorem ggL_law_X10_bridge : GoodIn wsL_law wsX10_bridge := goodIn_r _ [559, 160, 385, 386, 387, 5, 388, 124, 125, 389, 390, 391, 204, 163, 164, 165, 392, 393, 394, 350, 351, 352, 353, 127, 128, 332, 333, 334, 335, 525, 526, 527, 528, 133, 354, 355, 356, 357, 346, 347, 348, 349, 134, 136, 994, 995, 996, 997, 998, 999, 1000, 1001, 1002, 1003, 1004, 1005, 1006, 1007, 1008, 1009, 1010, 1011, 1012, 1013, 1014, 1015, 1016, 1017, 1018, 1019, 1020, 1021, 1022, 1023, 1024, 1025, 1026, 1027] (by decide +kernel) (by decide +kernel)
set_option maxRecDepth 20000 in
theorem gL_law_X10_bridge : GoodIn wsL_law (wsV RL 68 RX10 yX10_bridge wsX10_bridge) := goodIn_app (goodIn_of _ (by decide +kernel)) ggL_law_X10_bridge
set_option maxRecDepth 20000 in
theorem ggL_law_X9_must : GoodIn wsL_law wsX9_must := goodIn_r _ [563, 20, 30, 370, 371, 372, 19, 373, 66, 67, 482, 483, 484, 29, 485, 84, 486, 454, 487, 455, 488, 235, 236, 489, 289, 290, 291, 292, 293, 294, 295, 69, 70, 468, 232, 233, 564, 378, 379, 2, 380, 983, 984, 985, 986, 987, 988, 989, 990, 991, 992, 993, 1030, 1031, 1032, 1033, 1034, 1035, 1036, 1041] (by decide +kernel) (by decide +kernel)
set_option maxRecDepth 20000 in
theorem gL_law_X9_must : GoodIn wsL_law (wsV RL 69 RX9 yX9_must wsX9_must) := goodIn_app (goodIn_of _ (by decide +kernel)) ggL_law_X9_must
set_option maxRecDepth 20000 in
theorem ggL_law_X10_must : GoodIn wsL_law wsX10_must := goodIn_r _ [568, 160, 385, 386, 387, 5, 388, 124, 125, 392, 393, 394, 509, 510, 511, 512, 249, 250, 136, 513, 514, 515, 516, 133, 346, 347, 348, 349, 134, 350, 351, 352, 353, 127, 128, 332, 333, 334, 335, 163, 164, 165, 994, 995, 996, 997, 998, 999, 1000, 1001, 1002, 1003, 1004, 1005, 1006, 1007, 1008, 1009, 1010, 1011, 1012, 1013, 1014, 1015, 1016, 1017, 1018, 1019, 1020, 1021, 1022, 1023, 1024, 1025, 1026, 1027] (by decide +kernel) (by decide +kernel)
set_option maxRecDepth 20000 in
theorem gL_law_X10_must : GoodIn wsL_law (wsV RL 72 RX10 yX10_must wsX10_must) := goodIn_app (goodIn_of _ (by decide +kernel)) ggL_law_X10_must
set_option maxRecDepth 20000 in
theorem ggL_law_X9_left : GoodIn wsL_law wsX9_left := goodIn_r _ [572, 20, 30, 370, 371, 372, 19, 373, 66, 67, 491, 492, 493, 29, 494, 84, 454, 486, 487, 455, 495, 496, 497, 498, 488, 235, 236, 499, 293, 294, 295, 69, 70, 500, 444, 445, 446, 447, 448, 449, 564, 232, 233, 378, 379, 2, 380, 983, 984, 985, 986, 987, 988, 989, 990, 991, 992, 993, 1030, 1031, 1032, 1033, 1034, 1035, 1036, 1041] (by decide +kernel) (by decide +kernel)
set_option maxRecDepth 20000 in
theorem gL_law_X9_left : GoodIn wsL_law (wsV RL 73 RX9 yX9_left wsX9_left) := goodIn_app (goodIn_of _ (by decide +kernel)) ggL_law_X9_left
set_option maxRecDepth 20000 in
theorem ggL_law_X10_left : GoodIn wsL_law wsX10_left := goodIn_r _ [576, 160, 136, 385, 386, 387, 5, 388, 124, 125, 529, 530, 531, 532, 249, 250, 328, 329, 330, 331, 533, 534, 535, 536, 350, 351, 352, 353, 127, 128, 332, 333, 334, 335, 163, 164, 165, 392, 393, 394, 537, 538, 539, 540, 994, 995, 996, 997, 998, 999, 1000, 1001, 1002, 1003, 1004, 1005, 1006, 1007, 1008, 1009, 1010, 1011, 1012, 1013, 1014, 1015, 1016, 1017, 1018, 1019, 1020, 1021, 1022, 1023, 1024, 1025, 1026, 1027] (by decide +kernel) (by decide +kernel)
set_option maxRecDepth 20000 in
theorem gL_law_X10_left : GoodIn wsL_law (wsV RL 76 RX10 yX10_left wsX10_left) := goodIn_app (goodIn_of _ (by decide +kernel)) ggL_law_X10_left
set_option maxRecDepth 20000 in
theorem ggL_law_X9_far : GoodIn wsL_law wsX9_far := goodIn_r _ [580, 20, 370, 371, 372, 19, 373, 66, 67, 581, 582, 583, 584, 234, 235, 236, 231, 232, 233, 292, 293, 294, 295, 69, 70, 983, 984, 985, 986, 987, 988, 989, 990, 991, 992, 993, 1030, 1031, 1032, 1033, 1034, 1035, 1036] (by decide +kernel) (by decide +kernel)
set_option maxRecDepth 20000 in
theorem gL_law_X9_far : GoodIn wsL_law (wsV RL 77 RX9 yX9_far wsX9_far) := goodIn_app (goodIn_of _ (by decide +kernel)) ggL_law_X9_far
set_option maxRecDepth 20000 in
theorem ggL_law_X10_far : GoodIn wsL_law wsX10_far := goodIn_r _ [588, 160, 385, 386, 387, 5, 388, 124, 125, 392, 393, 394, 513, 514, 515, 516, 133, 346, 347, 348, 349, 134, 136, 350, 351, 352, 353, 127, 128, 332, 333, 334, 335, 163, 164, 165, 994, 995, 996, 997, 998, 999, 1000, 1001, 1002, 1003, 1004, 1005, 1006, 1007, 1008, 1009, 1010, 1011, 1012, 1013, 1014, 1015, 1016, 1017, 1018, 1019, 1020, 1021, 1022, 1023, 1024, 1025, 1026, 1027] (by decide +kernel) (by decide +kernel)
set_option maxRecDepth 20000 in
theorem gL_law_X10_far : GoodIn wsL_law (wsV RL 80 RX10 yX10_far wsX10_far) := goodIn_app (goodIn_of _ (by decide +kernel)) ggL_law_X10_far
set_option maxRecDepth 20000 in
theorem ggL_law_X9_ways : GoodIn wsL_law wsX9_ways := goodIn_r _ [592, 20, 593, 34, 370, 371, 372, 19, 373, 66, 67, 594, 595, 596, 33, 597, 89, 598, 92, 599, 600, 232, 233, 601, 235, 236, 602, 293, 294, 295, 69, 70, 603, 604, 605, 606, 607, 478, 479, 480, 269, 270, 271, 272, 231, 227, 228, 229, 230, 68, 983, 984, 985, 986, 987, 988, 989, 990, 991, 992, 993, 1030, 1031, 1032, 1033, 1034, 1035, 1036, 1042, 1043, 1044] (by decide +kernel) (by decide +kernel)
set_option maxRecDepth 20000 in
theorem gL_law_X9_ways : GoodIn wsL_law (wsV RL 81 RX9 yX9_ways wsX9_ways) := goodIn_app (goodIn_of _ (by decide +kernel)) ggL_law_X9_ways
set_option maxRecDepth 20000 in
theorem ggL_law_X10_ways : GoodIn wsL_law wsX10_ways := goodIn_r _ [611, 160, 612, 135, 133, 385, 386, 387, 5, 388, 124, 125, 392, 393, 394, 346, 347, 348, 349, 134, 136, 350, 351, 352, 353, 127, 128, 332, 333, 334, 335, 163, 164, 165, 994, 995, 996, 997, 998, 999, 1000, 1001, 1002, 1003, 1004, 1005, 1006, 1007, 1008, 1009, 1010, 1011, 1012, 1013, 1014, 1015, 1016, 1017, 1018, 1019, 1020, 1021, 1022, 1023, 1024, 1025, 1026, 1027] (by decide +kernel) (by decide +kernel)
set_option maxRecDepth 20000 in
theorem gL_law_X10_ways : GoodIn wsL_law (wsV RL 85 RX10 yX10_ways wsX10_ways) := goodIn_app (goodIn_of _ (by decide +kernel)) ggL_law_X10_ways
set_option maxRecDepth 20000 in
theorem ggL_law_X9_step : GoodIn wsL_law wsX9_step := goodIn_r _ [616, 20, 34, 370, 371, 372, 19, 373, 66, 67, 617, 618, 619, 33, 620, 89, 91, 621, 582, 583, 584, 234, 235, 236, 231, 232, 233, 292, 293, 294, 295, 69, 70, 601, 602, 622, 623, 624, 625, 607, 478, 479, 480, 269, 270, 271, 272, 227, 228, 229, 230, 68, 600, 411, 412, 413, 983, 984, 985, 986, 987, 988, 989, 990, 991, 992, 993, 1030, 1031, 1032, 1033, 1034, 1035, 1036, 1042, 1043, 1044] (by decide +kernel) (by decide +kernel)
set_option maxRecDepth 20000 in
theorem gL_law_X9_step : GoodIn wsL_law (wsV RL 86 RX9 yX9_step wsX9_step) := goodIn_app (goodIn_of _ (by decide +kernel)) ggL_law_X9_step
set_option maxRecDepth 20000 in
theorem ggL_law_X10_step : GoodIn wsL_law wsX10_step := goodIn_r _ [629, 160, 133, 385, 386, 387, 5, 388, 124, 125, 392, 393, 394, 346, 347, 348, 349, 134, 136, 350, 351, 352, 353, 127, 128, 332, 333, 334, 335, 163, 164, 165, 418, 419, 420, 994, 995, 996, 997, 998, 999, 1000, 1001, 1002, 1003, 1004, 1005, 1006, 1007, 1008, 1009, 1010, 1011, 1012, 1013, 1014, 1015, 1016, 1017, 1018, 1019, 1020, 1021, 1022, 1023, 1024, 1025, 1026, 1027] (by decide +kernel) (by decide +kernel)
set_option maxRecDepth 20000 in
theorem gL_law_X10_step : GoodIn wsL_law (wsV RL 90 RX10 yX10_step wsX10_step) := goodIn_app (goodIn_of _ (by decide +kernel)) ggL_law_X10_step
set_option maxRecDepth 20000 in
theorem ggL_law_X9_widest : GoodIn wsL_law wsX9_widest := goodIn_r _ [633, 20, 34, 370, 371, 372, 19, 373, 66, 67, 545, 285, 286, 287, 68, 234, 235, 236, 288, 289, 290, 291, 292, 293, 294, 295, 69, 70, 634, 635, 636, 33, 637, 638, 639, 224, 640, 600, 232, 233, 641, 642, 643, 644, 89, 601, 602, 983, 984, 985, 986, 987, 988, 989, 990, 991, 992, 993, 1030, 1031, 1032, 1033, 1034, 1035, 1036, 1042, 1043, 1044] (by decide +kernel) (by decide +kernel)
set_option maxRecDepth 20000 in
theorem gL_law_X9_widest : GoodIn wsL_law (wsV RL 91 RX9 yX9_widest wsX9_widest) := goodIn_app (goodIn_of _ (by decide +kernel)) ggL_law_X9_widest
set_option maxRecDepth 20000 in
theorem ggL_law_X10_widest : GoodIn wsL_law wsX10_widest := goodIn_r _ [648, 160, 137, 133, 385, 386, 387, 5, 388, 124, 125, 342, 343, 344, 345, 328, 329, 330, 331, 346, 347, 348, 349, 134, 136, 350, 351, 352, 353, 127, 128, 332, 333, 334, 335, 163, 164, 165, 392, 393, 394, 994, 995, 996, 997, 998, 999, 1000, 1001, 1002, 1003, 1004, 1005, 1006, 1007, 1008, 1009, 1010, 1011, 1012, 1013, 1014, 1015, 1016, 1017, 1018, 1019, 1020, 1021, 1022, 1023, 1024, 1025, 1026, 1027] (by decide +kernel) (by decide +kernel)
set_option maxRecDepth 20000 in
theorem gL_law_X10_widest : GoodIn wsL_law (wsV RL 94 RX10 yX10_widest wsX10_widest) := goodIn_app (goodIn_of _ (by decide +kernel)) ggL_law_X10_widest
set_option maxRecDepth 20000 in
theorem ggL_law_X9_hand : GoodIn wsL_law wsX9_hand := goodIn_r _ [652, 38, 374, 375, 2, 376, 653, 654, 655, 37, 656, 657, 97, 658, 659, 660, 661, 662, 663, 664, 665, 666, 667, 668, 669, 670, 478, 479, 19, 480, 269, 270, 271, 272, 70, 69, 231, 232, 233, 227, 228, 229, 230, 68, 983, 984, 985, 986, 987, 988, 989, 990, 991, 992, 993, 1045, 1046, 1047, 1048, 1049, 1050, 1030, 1031, 1032, 1033, 1034, 1035, 1036] (by decide +kernel) (by decide +kernel)
set_option maxRecDepth 20000 in
theorem gL_law_X9_hand : GoodIn wsL_law (wsV RL 95 RX9 yX9_hand wsX9_hand) := goodIn_app (goodIn_of _ (by decide +kernel)) ggL_law_X9_hand
set_option maxRecDepth 20000 in
theorem ggL_law_X10_hand : GoodIn wsL_law wsX10_hand := goodIn_r _ [674, 160, 249, 675, 676, 250, 389, 390, 5, 391, 204, 163, 164, 165, 677, 678, 679, 680, 350, 351, 352, 353, 127, 128, 332, 333, 334, 335, 124, 125, 994, 995, 996, 997, 998, 999, 1000, 1001, 1002, 1003, 1004, 1005, 1006, 1007, 1008, 1009, 1010, 1011, 1012, 1013, 1014, 1015, 1016, 1017, 1018, 1019, 1020, 1021, 1022, 1023, 1024, 1025, 1026, 1027] (by decide +kernel) (by decide +kernel)
set_option maxRecDepth 20000 in
theorem gL_law_X10_hand : GoodIn wsL_law (wsV RL 99 RX10 yX10_hand wsX10_hand) := goodIn_app (goodIn_of _ (by decide +kernel)) ggL_law_X10_hand
set_option maxRecDepth 20000 in
theorem ggL_law_X9_handAt : GoodIn wsL_law wsX9_handAt := goodIn_r _ [684, 38, 374, 375, 2, 376, 685, 686, 687, 37, 688, 657, 659, 660, 661, 662, 97, 663, 664, 665, 666, 667, 668, 669, 670, 478, 479, 19, 480, 269, 270, 271, 272, 70, 69, 231, 232, 233, 227, 228, 229, 230, 68, 411, 412, 413, 983, 984, 985, 986, 987, 988, 989, 990, 991, 992, 993, 1045, 1046, 1047, 1048, 1049, 1050, 1030, 1031, 1032, 1033, 1034, 1035, 1036] (by decide +kernel) (by decide +kernel)
set_option maxRecDepth 20000 in
theorem gL_law_X9_handAt : GoodIn wsL_law (wsV RL 100 RX9 yX9_handAt wsX9_handAt) := goodIn_app (goodIn_of _ (by decide +kernel)) ggL_law_X9_handAt
set_option maxRecDepth 20000 in
theorem ggL_law_X10_handAt : GoodIn wsL_law wsX10_handAt := goodIn_r _ [692, 160, 693, 249, 675, 676, 389, 390, 5, 391, 204, 163, 164, 165, 677, 678, 679, 680, 350, 351, 352, 353, 127, 128, 332, 333, 334, 335, 124, 125, 418, 419, 420, 994, 995, 996, 997, 998, 999, 1000, 1001, 1002, 1003, 1004, 1005, 1006, 1007, 1008, 1009, 1010, 1011, 1012, 1013, 1014, 1015, 1016, 1017, 1018, 1019, 1020, 1021, 1022, 1023, 1024, 1025, 1026, 1027] (by decide +kernel) (by decide +kernel)
set_option maxRecDepth 20000 in
theorem gL_law_X10_handAt : GoodIn wsL_law (wsV RL 104 RX10 yX10_handAt wsX10_handAt) := goodIn_app (goodIn_of _ (by decide +kernel)) ggL_law_X10_handAt
set_option maxRecDepth 20000 in
theorem ggL_law_X9_thread : GoodIn wsL_law wsX9_thread := goodIn_r _ [697, 38, 698, 699, 700, 37, 701, 97, 663, 657, 702, 658, 98, 703, 704, 235, 19, 236, 705, 706, 707, 708, 670, 478, 479, 480, 269, 270, 271, 272, 70, 69, 231, 232, 233, 227, 228, 229, 230, 68, 709, 983, 984, 985, 986, 987, 988, 989, 990, 991, 992, 993, 1045, 1046, 1047, 1048, 1049, 1050, 1030, 1031, 1032, 1033, 1034, 1035, 1036] (by decide +kernel) (by decide +kernel)
set_option maxRecDepth 20000 in
theorem gL_law_X9_thread : GoodIn wsL_law (wsV RL 105 RX9 yX9_thread wsX9_thread) := goodIn_app (goodIn_of _ (by decide +kernel)) ggL_law_X9_thread
set_option maxRecDepth 20000 in
theorem ggL_law_X10_thread : GoodIn wsL_law wsX10_thread := goodIn_r _ [713, 160, 714, 715, 716, 5, 717, 139, 249, 675, 138, 718, 250, 350, 351, 352, 353, 127, 128, 332, 333, 334, 335, 124, 125, 163, 164, 165, 994, 995, 996, 997, 998, 999, 1000, 1001, 1002, 1003, 1004, 1005, 1006, 1007, 1008, 1009, 1010, 1011, 1012, 1013, 1014, 1015, 1016, 1017, 1018, 1019, 1020, 1021, 1022, 1023, 1024, 1025, 1026, 1027] (by decide +kernel) (by decide +kernel)
set_option maxRecDepth 20000 in
theorem gL_law_X10_thread : GoodIn wsL_law (wsV RL 108 RX10 yX10_thread wsX10_thread) := goodIn_app (goodIn_of _ (by decide +kernel)) ggL_law_X10_thread
set_option maxRecDepth 20000 in
theorem ggL_law_X9_seen : GoodIn wsL_law wsX9_seen := goodIn_r _ [722, 38, 723, 698, 699, 700, 37, 701, 97, 663, 657, 702, 658, 98, 703, 704, 235, 19, 236, 705, 706, 707, 708, 670, 478, 479, 480, 269, 270, 271, 272, 70, 69, 231, 232, 233, 227, 228, 229, 230, 68, 709, 490, 444, 445, 446, 447, 448, 449, 983, 984, 985, 986, 987, 988, 989, 990, 991, 992, 993, 1045, 1046, 1047, 1048, 1049, 1050, 1030, 1031, 1032, 1033, 1034, 1035, 1036] (by decide +kernel) (by decide +kernel)
set_option maxRecDepth 20000 in
theorem gL_law_X9_seen : GoodIn wsL_law (wsV RL 109 RX9 yX9_seen wsX9_seen) := goodIn_app (goodIn_of _ (by decide +kernel)) ggL_law_X9_seen
set_option maxRecDepth 20000 in
theorem ggL_law_X10_seen : GoodIn wsL_law wsX10_seen := goodIn_r _ [727, 160, 718, 714, 715, 716, 5, 717, 139, 249, 675, 138, 250, 350, 351, 352, 353, 127, 128, 332, 333, 334, 335, 124, 125, 163, 164, 165, 994, 995, 996, 997, 998, 999, 1000, 1001, 1002, 1003, 1004, 1005, 1006, 1007, 1008, 1009, 1010, 1011, 1012, 1013, 1014, 1015, 1016, 1017, 1018, 1019, 1020, 1021, 1022, 1023, 1024, 1025, 1026, 1027] (by decide +kernel) (by decide +kernel)
set_option maxRecDepth 20000 in
theorem gL_law_X10_seen : GoodIn wsL_law (wsV RL 112 RX10 yX10_seen wsX10_seen) := goodIn_app (goodIn_of _ (by decide +kernel)) ggL_law_X10_seen
set_option maxRecDepth 20000 in
theorem ggL_law_X9_lost : GoodIn wsL_law wsX9_lost := goodIn_r _ [731, 20, 593, 732, 42, 733, 734, 370, 371, 372, 19, 373, 66, 67, 545, 285, 286, 287, 68, 234, 235, 236, 288, 289, 290, 291, 292, 293, 294, 295, 69, 70, 564, 232, 233, 490, 444, 445, 446, 447, 448, 449, 735, 736, 737, 41, 738, 739, 740, 741, 742, 106, 743, 744, 745, 746, 747, 748, 749, 750, 751, 752, 104, 753, 754, 755, 756, 103, 757, 758, 465, 466, 467, 443, 759, 760, 761, 762, 763, 764, 765, 766, 767, 768, 769, 983, 984, 985, 986, 987, 988, 989, 990, 991, 992, 993, 1051, 1052, 1053, 1054, 1055, 1056, 1030, 1031, 1032, 1033, 1034, 1035, 1036] (by decide +kernel) (by decide +kernel)
set_option maxRecDepth 20000 in
theorem gL_law_X9_lost : GoodIn wsL_law (wsV RL 113 RX9 yX9_lost wsX9_lost) := goodIn_app (goodIn_of _ (by decide +kernel)) ggL_law_X9_lost
set_option maxRecDepth 20000 in
theorem ggL_law_X10_lost : GoodIn wsL_law wsX10_lost := goodIn_r _ [773, 160, 612, 137, 774, 141, 142, 140, 385, 386, 387, 5, 388, 124, 125, 392, 393, 394, 775, 776, 777, 778, 342, 343, 344, 345, 133, 328, 329, 330, 331, 346, 347, 348, 349, 134, 136, 350, 351, 352, 353, 127, 128, 332, 333, 334, 335, 163, 164, 165, 779, 780, 781, 782, 505, 506, 507, 508, 783, 784, 785, 786, 994, 995, 996, 997, 998, 999, 1000, 1001, 1002, 1003, 1004, 1005, 1006, 1007, 1008, 1009, 1010, 1011, 1012, 1013, 1014, 1015, 1016, 1017, 1018, 1019, 1020, 1021, 1022, 1023, 1024, 1025, 1026, 1027] (by decide +kernel) (by decide +kernel)
set_option maxRecDepth 20000 in
theorem gL_law_X10_lost : GoodIn wsL_law (wsV RL 117 RX10 yX10_lost wsX10_lost) := goodIn_app (goodIn_of _ (by decide +kernel)) ggL_law_X10_lost
set_option maxRecDepth 20000 in
theorem ggL_law_X9_trees : GoodIn wsL_law wsX9_trees := goodIn_r _ [790, 20, 593, 732, 42, 370, 371, 372, 19, 373, 66, 67, 545, 285, 286, 287, 68, 234, 235, 236, 288, 289, 290, 291, 292, 293, 294, 295, 69, 70, 490, 444, 445, 446, 447, 448, 449, 791, 792, 793, 41, 794, 741, 742, 106, 743, 744, 745, 746, 747, 748, 232, 233, 749, 750, 751, 752, 104, 753, 754, 755, 756, 103, 757, 758, 465, 466, 467, 443, 759, 760, 761, 762, 983, 984, 985, 986, 987, 988, 989, 990, 991, 992, 993, 1030, 1031, 1032, 1033, 1034, 1035, 1036, 1051, 1052, 1053, 1054, 1055, 1056] (by decide +kernel) (by decide +kernel)
set_option maxRecDepth 20000 in
theorem gL_law_X9_trees : GoodIn wsL_law (wsV RL 118 RX9 yX9_trees wsX9_trees) := goodIn_app (goodIn_of _ (by decide +kernel)) ggL_law_X9_trees
set_option maxRecDepth 20000 in
theorem ggL_law_X10_trees : GoodIn wsL_law wsX10_trees := goodIn_r _ [798, 160, 612, 774, 140, 385, 386, 387, 5, 388, 124, 125, 392, 393, 394, 775, 776, 777, 778, 137, 142, 141, 342, 343, 344, 345, 133, 328, 329, 330, 331, 346, 347, 348, 349, 134, 136, 350, 351, 352, 353, 127, 128, 332, 333, 334, 335, 163, 164, 165, 779, 780, 781, 782, 505, 506, 507, 508, 783, 784, 785, 786, 994, 995, 996, 997, 998, 999, 1000, 1001, 1002, 1003, 1004, 1005, 1006, 1007, 1008, 1009, 1010, 1011, 1012, 1013, 1014, 1015, 1016, 1017, 1018, 1019, 1020, 1021, 1022, 1023, 1024, 1025, 1026, 1027] (by decide +kernel) (by decide +kernel)
set_option maxRecDepth 20000 in
theorem gL_law_X10_trees : GoodIn wsL_law (wsV RL 122 RX10 yX10_trees wsX10_trees) := goodIn_app (goodIn_of _ (by decide +kernel)) ggL_law_X10_trees
set_option maxRecDepth 20000 in
theorem ggL_law_X9_breaks : GoodIn wsL_law wsX9_breaks := goodIn_r _ [802, 20, 46, 370, 371, 372, 19, 373, 66, 67, 803, 804, 805, 45, 806, 111, 807, 808, 285, 286, 287, 68, 234, 235, 236, 288, 289, 290, 291, 292, 293, 294, 295, 69, 70, 809, 232, 233, 810, 811, 812, 813, 814, 983, 984, 985, 986, 987, 988, 989, 990, 991, 992, 993, 1030, 1031, 1032, 1033, 1034, 1035, 1036, 1057] (by decide +kernel) (by decide +kernel)
set_option maxRecDepth 20000 in
theorem gL_law_X9_breaks : GoodIn wsL_law (wsV RL 123 RX9 yX9_breaks wsX9_breaks) := goodIn_app (goodIn_of _ (by decide +kernel)) ggL_law_X9_breaks
set_option maxRecDepth 20000 in
theorem ggL_law_X10_breaks : GoodIn wsL_law wsX10_breaks := goodIn_r _ [818, 160, 133, 385, 386, 387, 5, 388, 124, 125, 392, 393, 394, 328, 329, 330, 331, 332, 333, 334, 335, 163, 164, 165, 350, 351, 352, 353, 127, 128, 994, 995, 996, 997, 998, 999, 1000, 1001, 1002, 1003, 1004, 1005, 1006, 1007, 1008, 1009, 1010, 1011, 1012, 1013, 1014, 1015, 1016, 1017, 1018, 1019, 1020, 1021, 1022, 1023, 1024, 1025, 1026, 1027] (by decide +kernel) (by decide +kernel)
set_option maxRecDepth 20000 in
theorem gL_law_X10_breaks : GoodIn wsL_law (wsV RL 126 RX10 yX10_breaks wsX10_breaks) := goodIn_app (goodIn_of _ (by decide +kernel)) ggL_law_X10_breaks
set_option maxRecDepth 20000 in
theorem ggL_law_X9_shortCut : GoodIn wsL_law wsX9_shortCut := goodIn_r _ [822, 46, 823, 824, 825, 45, 826, 111, 827, 828, 829, 582, 583, 19, 584, 234, 235, 236, 231, 232, 233, 292, 293, 294, 295, 69, 70, 830, 266, 267, 268, 227, 228, 229, 230, 68, 269, 270, 271, 272, 831, 832, 833, 834, 835, 219, 220, 221, 222, 223, 224, 225, 226, 836, 412, 413, 983, 984, 985, 986, 987, 988, 989, 990, 991, 992, 993, 1057, 1030, 1031, 1032, 1033, 1034, 1035, 1036] (by decide +kernel) (by decide +kernel)
set_option maxRecDepth 20000 in
theorem gL_law_X9_shortCut : GoodIn wsL_law (wsV RL 127 RX9 yX9_shortCut wsX9_shortCut) := goodIn_app (goodIn_of _ (by decide +kernel)) ggL_law_X9_shortCut
set_option maxRecDepth 20000 in
theorem ggL_law_X10_shortCut : GoodIn wsL_law wsX10_shortCut := goodIn_r _ [840, 160, 249, 250, 513, 514, 515, 5, 516, 133, 346, 347, 348, 349, 134, 136, 350, 351, 352, 353, 127, 128, 332, 333, 334, 335, 124, 125, 163, 164, 165, 328, 329, 330, 331, 354, 355, 356, 357, 418, 419, 420, 994, 995, 996, 997, 998, 999, 1000, 1001, 1002, 1003, 1004, 1005, 1006, 1007, 1008, 1009, 1010, 1011, 1012, 1013, 1014, 1015, 1016, 1017, 1018, 1019, 1020, 1021, 1022, 1023, 1024, 1025, 1026, 1027] (by decide +kernel) (by decide +kernel)
set_option maxRecDepth 20000 in
theorem gL_law_X10_shortCut : GoodIn wsL_law (wsV RL 130 RX10 yX10_shortCut wsX10_shortCut) := goodIn_app (goodIn_of _ (by decide +kernel)) ggL_law_X10_shortCut
set_option maxRecDepth 20000 in
theorem ggL_law_X9_bar : GoodIn wsL_law wsX9_bar := goodIn_r _ [844, 46, 845, 846, 847, 45, 848, 111, 827, 828, 829, 582, 583, 19, 584, 234, 235, 236, 231, 232, 233, 292, 293, 294, 295, 69, 70, 849, 270, 271, 272, 831, 832, 833, 834, 835, 219, 220, 221, 222, 223, 224, 225, 226, 227, 228, 229, 230, 68, 836, 412, 413, 983, 984, 985, 986, 987, 988, 989, 990, 991, 992, 993, 1057, 1030, 1031, 1032, 1033, 1034, 1035, 1036] (by decide +kernel) (by decide +kernel)
set_option maxRecDepth 20000 in
theorem gL_law_X9_bar : GoodIn wsL_law (wsV RL 131 RX9 yX9_bar wsX9_bar) := goodIn_app (goodIn_of _ (by decide +kernel)) ggL_law_X9_bar
set_option maxRecDepth 20000 in
theorem ggL_law_X10_bar : GoodIn wsL_law wsX10_bar := goodIn_r _ [853, 160, 249, 250, 513, 514, 515, 5, 516, 133, 346, 347, 348, 349, 134, 136, 350, 351, 352, 353, 127, 128, 332, 333, 334, 335, 124, 125, 163, 164, 165, 328, 329, 330, 331, 354, 355, 356, 357, 418, 419, 420, 994, 995, 996, 997, 998, 999, 1000, 1001, 1002, 1003, 1004, 1005, 1006, 1007, 1008, 1009, 1010, 1011, 1012, 1013, 1014, 1015, 1016, 1017, 1018, 1019, 1020, 1021, 1022, 1023, 1024, 1025, 1026, 1027] (by decide +kernel) (by decide +kernel)
set_option maxRecDepth 20000 in
theorem gL_law_X10_bar : GoodIn wsL_law (wsV RL 134 RX10 yX10_bar wsX10_bar) := goodIn_app (goodIn_of _ (by decide +kernel)) ggL_law_X10_bar
set_option maxRecDepth 20000 in
theorem ggL_law_X9_chase : GoodIn wsL_law wsX9_chase := goodIn_r _ [857, 20, 50, 370, 371, 372, 19, 373, 66, 67, 858, 859, 860, 49, 861, 116, 862, 117, 863, 864, 865, 866, 867, 235, 236, 868, 869, 870, 871, 118, 872, 873, 874, 293, 294, 295, 69, 70, 875, 876, 877, 878, 879, 232, 233, 880, 881, 882, 883, 884, 478, 479, 480, 269, 270, 271, 272, 231, 227, 228, 229, 230, 68, 983, 984, 985, 986, 987, 988, 989, 990, 991, 992, 993, 1030, 1031, 1032, 1033, 1034, 1035, 1036, 1058, 1059, 1060] (by decide +kernel) (by decide +kernel)
set_option maxRecDepth 20000 in
theorem gL_law_X9_chase : GoodIn wsL_law (wsV RL 135 RX9 yX9_chase wsX9_chase) := goodIn_app (goodIn_of _ (by decide +kernel)) ggL_law_X9_chase
set_option maxRecDepth 20000 in
theorem ggL_law_X10_chase : GoodIn wsL_law wsX10_chase := goodIn_r _ [888, 160, 143, 385, 386, 387, 5, 388, 124, 125, 889, 890, 891, 892, 328, 329, 330, 331, 893, 894, 895, 896, 250, 897, 898, 899, 900, 350, 351, 352, 353, 127, 128, 332, 333, 334, 335, 163, 164, 165, 901, 902, 903, 904, 905, 906, 907, 908, 392, 393, 394, 994, 995, 996, 997, 998, 999, 1000, 1001, 1002, 1003, 1004, 1005, 1006, 1007, 1008, 1009, 1010, 1011, 1012, 1013, 1014, 1015, 1016, 1017, 1018, 1019, 1020, 1021, 1022, 1023, 1024, 1025, 1026, 1027] (by decide +kernel) (by decide +kernel)
set_option maxRecDepth 20000 in
theorem gL_law_X10_chase : GoodIn wsL_law (wsV RL 138 RX10 yX10_chase wsX10_chase) := goodIn_app (goodIn_of _ (by decide +kernel)) ggL_law_X10_chase
set_option maxRecDepth 20000 in
theorem ggL_law_X9_same : GoodIn wsL_law wsX9_same := goodIn_r _ [912, 21, 20, 913, 914, 915, 19, 916, 67, 66, 71, 72, 62, 63, 64, 65, 68, 69, 70, 269, 270, 271, 272, 231, 232, 233, 917, 918, 919, 920, 921, 922, 923, 924, 219, 220, 221, 222, 223, 224, 225, 226, 227, 228, 229, 230, 234, 235, 236, 925, 926, 927, 928, 378, 379, 2, 380, 983, 984, 985, 986, 987, 988, 989, 990, 991, 992, 993, 1030, 1031, 1032, 1033, 1034, 1035, 1036] (by decide +kernel) (by decide +kernel)
set_option maxRecDepth 20000 in
theorem gL_law_X9_same : GoodIn wsL_law (wsV RL 139 RX9 yX9_same wsX9_same) := goodIn_app (goodIn_of _ (by decide +kernel)) ggL_law_X9_same
set_option maxRecDepth 20000 in
theorem ggL_law_X10_same : GoodIn wsL_law wsX10_same := goodIn_r _ [932, 160, 933, 163, 164, 5, 165, 934, 935, 936, 937, 124, 125, 938, 939, 145, 940, 328, 329, 330, 331, 941, 942, 943, 350, 351, 352, 353, 127, 128, 332, 333, 334, 335, 944, 945, 946, 947, 948, 949, 950, 951, 429, 430, 431, 432, 994, 995, 996, 997, 998, 999, 1000, 1001, 1002, 1003, 1004, 1005, 1006, 1007, 1008, 1009, 1010, 1011, 1012, 1013, 1014, 1015, 1016, 1017, 1018, 1019, 1020, 1021, 1022, 1023, 1024, 1025, 1026, 1027] (by decide +kernel) (by decide +kernel)
set_option maxRecDepth 20000 in
theorem gL_law_X10_same : GoodIn wsL_law (wsV RL 142 RX10 yX10_same wsX10_same) := goodIn_app (goodIn_of _ (by decide +kernel)) ggL_law_X10_same
set_option maxRecDepth 20000 in
theorem ggL_law_X9_turn : GoodIn wsL_law wsX9_turn := goodIn_r _ [955, 21, 20, 913, 914, 915, 19, 916, 67, 66, 71, 72, 62, 63, 64, 65, 68, 69, 70, 269, 270, 271, 272, 231, 232, 233, 917, 918, 919, 920, 921, 922, 923, 924, 219, 220, 221, 222, 223, 224, 225, 226, 227, 228, 229, 230, 234, 235, 236, 925, 926, 927, 928, 378, 379, 2, 380, 956, 957, 958, 959, 983, 984, 985, 986, 987, 988, 989, 990, 991, 992, 993, 1030, 1031, 1032, 1033, 1034, 1035, 1036] (by decide +kernel) (by decide +kernel)
set_option maxRecDepth 20000 in
theorem gL_law_X9_turn : GoodIn wsL_law (wsV RL 143 RX9 yX9_turn wsX9_turn) := goodIn_app (goodIn_of _ (by decide +kernel)) ggL_law_X9_turn
set_option maxRecDepth 20000 in
theorem ggL_law_X10_turn : GoodIn wsL_law wsX10_turn := goodIn_r _ [963, 160, 933, 249, 250, 938, 124, 939, 125, 127, 145, 128, 163, 164, 5, 165, 934, 935, 936, 937, 940, 328, 329, 330, 331, 941, 942, 943, 350, 351, 352, 353, 332, 333, 334, 335, 944, 945, 946, 947, 948, 949, 950, 951, 429, 430, 431, 432, 994, 995, 996, 997, 998, 999, 1000, 1001, 1002, 1003, 1004, 1005, 1006, 1007, 1008, 1009, 1010, 1011, 1012, 1013, 1014, 1015, 1016, 1017, 1018, 1019, 1020, 1021, 1022, 1023, 1024, 1025, 1026, 1027] (by decide +kernel) (by decide +kernel)
set_option maxRecDepth 20000 in
theorem gL_law_X10_turn : GoodIn wsL_law (wsV RL 146 RX10 yX10_turn wsX10_turn) := goodIn_app (goodIn_of _ (by decide +kernel)) ggL_law_X10_turn
set_option maxRecDepth 20000 in
theorem ggL_law_X9_keep : GoodIn wsL_law wsX9_keep := goodIn_r _ [967, 22, 17, 18, 19, 20, 968, 969, 2, 970, 58, 59, 60, 61, 11, 12, 62, 63, 64, 65, 66, 67, 68, 69, 70, 71, 72, 956, 957, 958, 959, 237, 238, 239, 240, 983, 984, 985, 986, 987, 988, 989, 990, 991, 992, 993, 1030, 1031, 1032, 1033, 1034, 1035, 1036] (by decide +kernel) (by decide +kernel)
set_option maxRecDepth 20000 in
theorem gL_law_X9_keep : GoodIn wsL_law (wsV RL 147 RX9 yX9_keep wsX9_keep) := goodIn_app (goodIn_of _ (by decide +kernel)) ggL_law_X9_keep
set_option maxRecDepth 20000 in
theorem ggL_law_X10_keep : GoodIn wsL_law wsX10_keep := goodIn_r _ [974, 160, 132, 130, 131, 124, 125, 249, 250, 163, 164, 5, 165, 429, 430, 431, 432, 127, 128, 994, 995, 996, 997, 998, 999, 1000, 1001, 1002, 1003, 1004, 1005, 1006, 1007, 1008, 1009, 1010, 1011, 1012, 1013, 1014, 1015, 1016, 1017, 1018, 1019, 1020, 1021, 1022, 1023, 1024, 1025, 1026, 1027] (by decide +kernel) (by decide +kernel)
set_option maxRecDepth 20000 in
theorem gL_law_X10_keep : GoodIn wsL_law (wsV RL 150 RX10 yX10_keep wsX10_keep) := goodIn_app (goodIn_of _ (by decide +kernel)) ggL_law_X10_keep
set_option maxRecDepth 20000 in
theorem ggL_law_X9_again : GoodIn wsL_law wsX9_again := goodIn_r _ [978, 22, 20, 968, 969, 2, 970, 956, 957, 958, 19, 959, 66, 67, 71, 72, 68, 69, 70, 237, 238, 239, 240, 983, 984, 985, 986, 987, 988, 989, 990, 991, 992, 993, 1030, 1031, 1032, 1033, 1034, 1035, 1036] (by decide +kernel) (by decide +kernel)
set_option maxRecDepth 20000 in
theorem gL_law_X9_again : GoodIn wsL_law (wsV RL 151 RX9 yX9_again wsX9_again) := goodIn_app (goodIn_of _ (by decide +kernel)) ggL_law_X9_again
set_option maxRecDepth 20000 in
theorem ggL_law_X10_again : GoodIn wsL_law wsX10_again := goodIn_r _ [982, 160, 132, 131, 124, 125, 249, 250, 127, 130, 128, 163, 164, 5, 165, 994, 995, 996, 997, 998, 999, 1000, 1001, 1002, 1003, 1004, 1005, 1006, 1007, 1008, 1009, 1010, 1011, 1012, 1013, 1014, 1015, 1016, 1017, 1018, 1019, 1020, 1021, 1022, 1023, 1024, 1025, 1026, 1027] (by decide +kernel) (by decide +kernel)
set_option maxRecDepth 20000 in
theorem gL_law_X10_again : GoodIn wsL_law (wsV RL 154 RX10 yX10_again wsX10_again) := goodIn_app (goodIn_of _ (by decide +kernel)) ggL_law_X10_again
theorem dL_law_0 : decode cL_law 0 = .ok (.new 7, 3) := by decide +kernel
theorem dL_law_3 : decode cL_law 3 = .ok (.dup, 1) := by decide +kernel
theorem dL_law_4 : decode cL_law 4 = .ok (.invokespecial 9, 3) := by decide +kernel
theorem dL_law_7 : decode cL_law 7 = .ok (.astore_n 1, 1) := by decide +kernel
theorem dL_law_8 : decode cL_law 8 = .ok (.new 10, 3) := by decide +kernel
theorem dL_law_11 : decode cL_law 11 = .ok (.dup, 1) := by decide +kernel
theorem dL_law_12 : decode cL_law 12 = .ok (.invokespecial 12, 3) := by decide +kernel
theorem dL_law_15 : decode cL_law 15 = .ok (.astore_n 2, 1) := by decide +kernel
theorem dL_law_16 : decode cL_law 16 = .ok (.iconst 0, 1) := by decide +kernel
theorem dL_law_17 : decode cL_law 17 = .ok (.istore_n 3, 1) := by decide +kernel
theorem dL_law_18 : decode cL_law 18 = .ok (.iload_n 3, 1) := by decide +kernel
theorem dL_law_19 : decode cL_law 19 = .ok (.aload_n 0, 1) := by decide +kernel
theorem dL_law_20 : decode cL_law 20 = .ok (.arraylength, 1) := by decide +kernel
theorem dL_law_21 : decode cL_law 21 = .ok (.bipush 6, 2) := by decide +kernel
theorem dL_law_23 : decode cL_law 23 = .ok (.isub, 1) := by decide +kernel
theorem dL_law_24 : decode cL_law 24 = .ok (.if_icmp .gt 1177, 3) := by decide +kernel
theorem dL_law_27 : decode cL_law 27 = .ok (.aload_n 0, 1) := by decide +kernel
theorem dL_law_28 : decode cL_law 28 = .ok (.iload_n 3, 1) := by decide +kernel
theorem dL_law_29 : decode cL_law 29 = .ok (.iaload, 1) := by decide +kernel
theorem dL_law_30 : decode cL_law 30 = .ok (.bipush 31, 2) := by decide +kernel
theorem dL_law_32 : decode cL_law 32 = .ok (.iand, 1) := by decide +kernel
theorem dL_law_33 : decode cL_law 33 = .ok (.tableswitch 1162 0 31 #[143, 206, 219, 232, 245, 328, 361, 420, 453, 476, 499, 522, 555, 578, 601, 634, 668, 711, 734, 783, 842, 855, 868, 928, 952, 985, 998, 1011, 1070, 1093, 1116, 1139], 143) := by decide +kernel
theorem dL_law_176 : decode cL_law 176 = .ok (.aload_n 1, 1) := by decide +kernel
theorem dL_law_177 : decode cL_law 177 = .ok (.aload_n 0, 1) := by decide +kernel
theorem dL_law_178 : decode cL_law 178 = .ok (.iload_n 3, 1) := by decide +kernel
theorem dL_law_179 : decode cL_law 179 = .ok (.iconst 1, 1) := by decide +kernel
theorem dL_law_180 : decode cL_law 180 = .ok (.iadd, 1) := by decide +kernel
theorem dL_law_181 : decode cL_law 181 = .ok (.iaload, 1) := by decide +kernel
theorem dL_law_182 : decode cL_law 182 = .ok (.aload_n 0, 1) := by decide +kernel
theorem dL_law_183 : decode cL_law 183 = .ok (.iload_n 3, 1) := by decide +kernel
theorem dL_law_184 : decode cL_law 184 = .ok (.iconst 2, 1) := by decide +kernel
theorem dL_law_185 : decode cL_law 185 = .ok (.iadd, 1) := by decide +kernel
theorem dL_law_186 : decode cL_law 186 = .ok (.iaload, 1) := by decide +kernel
theorem dL_law_187 : decode cL_law 187 = .ok (.i2l, 1) := by decide +kernel
theorem dL_law_188 : decode cL_law 188 = .ok (.bipush 32, 2) := by decide +kernel
theorem dL_law_190 : decode cL_law 190 = .ok (.lshl, 1) := by decide +kernel
theorem dL_law_191 : decode cL_law 191 = .ok (.aload_n 0, 1) := by decide +kernel
theorem dL_law_192 : decode cL_law 192 = .ok (.iload_n 3, 1) := by decide +kernel
theorem dL_law_193 : decode cL_law 193 = .ok (.iconst 3, 1) := by decide +kernel
theorem dL_law_194 : decode cL_law 194 = .ok (.iadd, 1) := by decide +kernel
theorem dL_law_195 : decode cL_law 195 = .ok (.iaload, 1) := by decide +kernel
theorem dL_law_196 : decode cL_law 196 = .ok (.i2l, 1) := by decide +kernel
theorem dL_law_197 : decode cL_law 197 = .ok (.ldc2_w 13, 3) := by decide +kernel
theorem dL_law_200 : decode cL_law 200 = .ok (.land, 1) := by decide +kernel
theorem dL_law_201 : decode cL_law 201 = .ok (.lor, 1) := by decide +kernel
theorem dL_law_202 : decode cL_law 202 = .ok (.invokevirtual 15, 3) := by decide +kernel
theorem dL_law_205 : decode cL_law 205 = .ok (.aload_n 2, 1) := by decide +kernel
theorem dL_law_206 : decode cL_law 206 = .ok (.aload_n 0, 1) := by decide +kernel
theorem dL_law_207 : decode cL_law 207 = .ok (.iload_n 3, 1) := by decide +kernel
theorem dL_law_208 : decode cL_law 208 = .ok (.iconst 1, 1) := by decide +kernel
theorem dL_law_209 : decode cL_law 209 = .ok (.iadd, 1) := by decide +kernel
theorem dL_law_210 : decode cL_law 210 = .ok (.iaload, 1) := by decide +kernel
theorem dL_law_211 : decode cL_law 211 = .ok (.aload_n 0, 1) := by decide +kernel
theorem dL_law_212 : decode cL_law 212 = .ok (.iload_n 3, 1) := by decide +kernel
theorem dL_law_213 : decode cL_law 213 = .ok (.iconst 2, 1) := by decide +kernel
theorem dL_law_214 : decode cL_law 214 = .ok (.iadd, 1) := by decide +kernel
theorem dL_law_215 : decode cL_law 215 = .ok (.iaload, 1) := by decide +kernel
theorem dL_law_216 : decode cL_law 216 = .ok (.i2l, 1) := by decide +kernel
theorem dL_law_217 : decode cL_law 217 = .ok (.bipush 32, 2) := by decide +kernel
theorem dL_law_219 : decode cL_law 219 = .ok (.lshl, 1) := by decide +kernel
theorem dL_law_220 : decode cL_law 220 = .ok (.aload_n 0, 1) := by decide +kernel
theorem dL_law_221 : decode cL_law 221 = .ok (.iload_n 3, 1) := by decide +kernel
theorem dL_law_222 : decode cL_law 222 = .ok (.iconst 3, 1) := by decide +kernel
theorem dL_law_223 : decode cL_law 223 = .ok (.iadd, 1) := by decide +kernel
theorem dL_law_224 : decode cL_law 224 = .ok (.iaload, 1) := by decide +kernel
theorem dL_law_225 : decode cL_law 225 = .ok (.i2l, 1) := by decide +kernel
theorem dL_law_226 : decode cL_law 226 = .ok (.ldc2_w 13, 3) := by decide +kernel
theorem dL_law_229 : decode cL_law 229 = .ok (.land, 1) := by decide +kernel
theorem dL_law_230 : decode cL_law 230 = .ok (.lor, 1) := by decide +kernel
theorem dL_law_231 : decode cL_law 231 = .ok (.invokevirtual 19, 3) := by decide +kernel
theorem dL_law_234 : decode cL_law 234 = .ok (.if_icmp .eq 961, 3) := by decide +kernel
theorem dL_law_237 : decode cL_law 237 = .ok (.iconst 0, 1) := by decide +kernel
theorem dL_law_238 : decode cL_law 238 = .ok (.ireturn, 1) := by decide +kernel
theorem dL_law_239 : decode cL_law 239 = .ok (.aload_n 1, 1) := by decide +kernel
theorem dL_law_240 : decode cL_law 240 = .ok (.invokevirtual 20, 3) := by decide +kernel
theorem dL_law_243 : decode cL_law 243 = .ok (.aload_n 2, 1) := by decide +kernel
theorem dL_law_244 : decode cL_law 244 = .ok (.invokevirtual 24, 3) := by decide +kernel
theorem dL_law_247 : decode cL_law 247 = .ok (.if_icmp .eq 948, 3) := by decide +kernel
theorem dL_law_250 : decode cL_law 250 = .ok (.iconst 0, 1) := by decide +kernel
theorem dL_law_251 : decode cL_law 251 = .ok (.ireturn, 1) := by decide +kernel
theorem dL_law_252 : decode cL_law 252 = .ok (.aload_n 1, 1) := by decide +kernel
theorem dL_law_253 : decode cL_law 253 = .ok (.invokevirtual 25, 3) := by decide +kernel
theorem dL_law_256 : decode cL_law 256 = .ok (.aload_n 2, 1) := by decide +kernel
theorem dL_law_257 : decode cL_law 257 = .ok (.invokevirtual 28, 3) := by decide +kernel
theorem dL_law_260 : decode cL_law 260 = .ok (.if_icmp .eq 935, 3) := by decide +kernel
theorem dL_law_263 : decode cL_law 263 = .ok (.iconst 0, 1) := by decide +kernel
theorem dL_law_264 : decode cL_law 264 = .ok (.ireturn, 1) := by decide +kernel
theorem dL_law_265 : decode cL_law 265 = .ok (.aload_n 1, 1) := by decide +kernel
theorem dL_law_266 : decode cL_law 266 = .ok (.invokevirtual 29, 3) := by decide +kernel
theorem dL_law_269 : decode cL_law 269 = .ok (.aload_n 2, 1) := by decide +kernel
theorem dL_law_270 : decode cL_law 270 = .ok (.invokevirtual 32, 3) := by decide +kernel
theorem dL_law_273 : decode cL_law 273 = .ok (.if_icmp .eq 922, 3) := by decide +kernel
theorem dL_law_276 : decode cL_law 276 = .ok (.iconst 0, 1) := by decide +kernel
theorem dL_law_277 : decode cL_law 277 = .ok (.ireturn, 1) := by decide +kernel
theorem dL_law_278 : decode cL_law 278 = .ok (.aload_n 1, 1) := by decide +kernel
theorem dL_law_279 : decode cL_law 279 = .ok (.aload_n 0, 1) := by decide +kernel
theorem dL_law_280 : decode cL_law 280 = .ok (.iload_n 3, 1) := by decide +kernel
theorem dL_law_281 : decode cL_law 281 = .ok (.iconst 1, 1) := by decide +kernel
theorem dL_law_282 : decode cL_law 282 = .ok (.iadd, 1) := by decide +kernel
theorem dL_law_283 : decode cL_law 283 = .ok (.iaload, 1) := by decide +kernel
theorem dL_law_284 : decode cL_law 284 = .ok (.aload_n 0, 1) := by decide +kernel
theorem dL_law_285 : decode cL_law 285 = .ok (.iload_n 3, 1) := by decide +kernel
theorem dL_law_286 : decode cL_law 286 = .ok (.iconst 2, 1) := by decide +kernel
theorem dL_law_287 : decode cL_law 287 = .ok (.iadd, 1) := by decide +kernel
theorem dL_law_288 : decode cL_law 288 = .ok (.iaload, 1) := by decide +kernel
theorem dL_law_289 : decode cL_law 289 = .ok (.aload_n 0, 1) := by decide +kernel
theorem dL_law_290 : decode cL_law 290 = .ok (.iload_n 3, 1) := by decide +kernel
theorem dL_law_291 : decode cL_law 291 = .ok (.iconst 3, 1) := by decide +kernel
theorem dL_law_292 : decode cL_law 292 = .ok (.iadd, 1) := by decide +kernel
theorem dL_law_293 : decode cL_law 293 = .ok (.iaload, 1) := by decide +kernel
theorem dL_law_294 : decode cL_law 294 = .ok (.i2l, 1) := by decide +kernel
theorem dL_law_295 : decode cL_law 295 = .ok (.bipush 32, 2) := by decide +kernel
theorem dL_law_297 : decode cL_law 297 = .ok (.lshl, 1) := by decide +kernel
theorem dL_law_298 : decode cL_law 298 = .ok (.aload_n 0, 1) := by decide +kernel
theorem dL_law_299 : decode cL_law 299 = .ok (.iload_n 3, 1) := by decide +kernel
theorem dL_law_300 : decode cL_law 300 = .ok (.iconst 4, 1) := by decide +kernel
theorem dL_law_301 : decode cL_law 301 = .ok (.iadd, 1) := by decide +kernel
theorem dL_law_302 : decode cL_law 302 = .ok (.iaload, 1) := by decide +kernel
theorem dL_law_303 : decode cL_law 303 = .ok (.i2l, 1) := by decide +kernel
theorem dL_law_304 : decode cL_law 304 = .ok (.ldc2_w 13, 3) := by decide +kernel
theorem dL_law_307 : decode cL_law 307 = .ok (.land, 1) := by decide +kernel
theorem dL_law_308 : decode cL_law 308 = .ok (.lor, 1) := by decide +kernel
theorem dL_law_309 : decode cL_law 309 = .ok (.aload_n 0, 1) := by decide +kernel
theorem dL_law_310 : decode cL_law 310 = .ok (.iload_n 3, 1) := by decide +kernel
theorem dL_law_311 : decode cL_law 311 = .ok (.iconst 5, 1) := by decide +kernel
theorem dL_law_312 : decode cL_law 312 = .ok (.iadd, 1) := by decide +kernel
theorem dL_law_313 : decode cL_law 313 = .ok (.iaload, 1) := by decide +kernel
theorem dL_law_314 : decode cL_law 314 = .ok (.invokevirtual 33, 3) := by decide +kernel
theorem dL_law_317 : decode cL_law 317 = .ok (.aload_n 2, 1) := by decide +kernel
theorem dL_law_318 : decode cL_law 318 = .ok (.aload_n 0, 1) := by decide +kernel
theorem dL_law_319 : decode cL_law 319 = .ok (.iload_n 3, 1) := by decide +kernel
theorem dL_law_320 : decode cL_law 320 = .ok (.iconst 1, 1) := by decide +kernel
theorem dL_law_321 : decode cL_law 321 = .ok (.iadd, 1) := by decide +kernel
theorem dL_law_322 : decode cL_law 322 = .ok (.iaload, 1) := by decide +kernel
theorem dL_law_323 : decode cL_law 323 = .ok (.aload_n 0, 1) := by decide +kernel
theorem dL_law_324 : decode cL_law 324 = .ok (.iload_n 3, 1) := by decide +kernel
theorem dL_law_325 : decode cL_law 325 = .ok (.iconst 2, 1) := by decide +kernel
theorem dL_law_326 : decode cL_law 326 = .ok (.iadd, 1) := by decide +kernel
theorem dL_law_327 : decode cL_law 327 = .ok (.iaload, 1) := by decide +kernel
theorem dL_law_328 : decode cL_law 328 = .ok (.aload_n 0, 1) := by decide +kernel
theorem dL_law_329 : decode cL_law 329 = .ok (.iload_n 3, 1) := by decide +kernel
theorem dL_law_330 : decode cL_law 330 = .ok (.iconst 3, 1) := by decide +kernel
theorem dL_law_331 : decode cL_law 331 = .ok (.iadd, 1) := by decide +kernel
theorem dL_law_332 : decode cL_law 332 = .ok (.iaload, 1) := by decide +kernel
theorem dL_law_333 : decode cL_law 333 = .ok (.i2l, 1) := by decide +kernel
theorem dL_law_334 : decode cL_law 334 = .ok (.bipush 32, 2) := by decide +kernel
theorem dL_law_336 : decode cL_law 336 = .ok (.lshl, 1) := by decide +kernel
theorem dL_law_337 : decode cL_law 337 = .ok (.aload_n 0, 1) := by decide +kernel
theorem dL_law_338 : decode cL_law 338 = .ok (.iload_n 3, 1) := by decide +kernel
theorem dL_law_339 : decode cL_law 339 = .ok (.iconst 4, 1) := by decide +kernel
theorem dL_law_340 : decode cL_law 340 = .ok (.iadd, 1) := by decide +kernel
theorem dL_law_341 : decode cL_law 341 = .ok (.iaload, 1) := by decide +kernel
theorem dL_law_342 : decode cL_law 342 = .ok (.i2l, 1) := by decide +kernel
theorem dL_law_343 : decode cL_law 343 = .ok (.ldc2_w 13, 3) := by decide +kernel
theorem dL_law_346 : decode cL_law 346 = .ok (.land, 1) := by decide +kernel
theorem dL_law_347 : decode cL_law 347 = .ok (.lor, 1) := by decide +kernel
theorem dL_law_348 : decode cL_law 348 = .ok (.aload_n 0, 1) := by decide +kernel
theorem dL_law_349 : decode cL_law 349 = .ok (.iload_n 3, 1) := by decide +kernel
theorem dL_law_350 : decode cL_law 350 = .ok (.iconst 5, 1) := by decide +kernel
theorem dL_law_351 : decode cL_law 351 = .ok (.iadd, 1) := by decide +kernel
theorem dL_law_352 : decode cL_law 352 = .ok (.iaload, 1) := by decide +kernel
theorem dL_law_353 : decode cL_law 353 = .ok (.invokevirtual 37, 3) := by decide +kernel
theorem dL_law_356 : decode cL_law 356 = .ok (.if_icmp .eq 839, 3) := by decide +kernel
theorem dL_law_359 : decode cL_law 359 = .ok (.iconst 0, 1) := by decide +kernel
theorem dL_law_360 : decode cL_law 360 = .ok (.ireturn, 1) := by decide +kernel
theorem dL_law_361 : decode cL_law 361 = .ok (.aload_n 1, 1) := by decide +kernel
theorem dL_law_362 : decode cL_law 362 = .ok (.aload_n 0, 1) := by decide +kernel
theorem dL_law_363 : decode cL_law 363 = .ok (.iload_n 3, 1) := by decide +kernel
theorem dL_law_364 : decode cL_law 364 = .ok (.iconst 1, 1) := by decide +kernel
theorem dL_law_365 : decode cL_law 365 = .ok (.iadd, 1) := by decide +kernel
theorem dL_law_366 : decode cL_law 366 = .ok (.iaload, 1) := by decide +kernel
theorem dL_law_367 : decode cL_law 367 = .ok (.aload_n 0, 1) := by decide +kernel
theorem dL_law_368 : decode cL_law 368 = .ok (.iload_n 3, 1) := by decide +kernel
theorem dL_law_369 : decode cL_law 369 = .ok (.iconst 2, 1) := by decide +kernel
theorem dL_law_370 : decode cL_law 370 = .ok (.iadd, 1) := by decide +kernel
theorem dL_law_371 : decode cL_law 371 = .ok (.iaload, 1) := by decide +kernel
theorem dL_law_372 : decode cL_law 372 = .ok (.invokevirtual 38, 3) := by decide +kernel
theorem dL_law_375 : decode cL_law 375 = .ok (.aload_n 2, 1) := by decide +kernel
theorem dL_law_376 : decode cL_law 376 = .ok (.aload_n 0, 1) := by decide +kernel
theorem dL_law_377 : decode cL_law 377 = .ok (.iload_n 3, 1) := by decide +kernel
theorem dL_law_378 : decode cL_law 378 = .ok (.iconst 1, 1) := by decide +kernel
theorem dL_law_379 : decode cL_law 379 = .ok (.iadd, 1) := by decide +kernel
theorem dL_law_380 : decode cL_law 380 = .ok (.iaload, 1) := by decide +kernel
theorem dL_law_381 : decode cL_law 381 = .ok (.aload_n 0, 1) := by decide +kernel
theorem dL_law_382 : decode cL_law 382 = .ok (.iload_n 3, 1) := by decide +kernel
theorem dL_law_383 : decode cL_law 383 = .ok (.iconst 2, 1) := by decide +kernel
theorem dL_law_384 : decode cL_law 384 = .ok (.iadd, 1) := by decide +kernel
theorem dL_law_385 : decode cL_law 385 = .ok (.iaload, 1) := by decide +kernel
theorem dL_law_386 : decode cL_law 386 = .ok (.invokevirtual 42, 3) := by decide +kernel
theorem dL_law_389 : decode cL_law 389 = .ok (.if_icmp .eq 806, 3) := by decide +kernel
theorem dL_law_392 : decode cL_law 392 = .ok (.iconst 0, 1) := by decide +kernel
theorem dL_law_393 : decode cL_law 393 = .ok (.ireturn, 1) := by decide +kernel
theorem dL_law_394 : decode cL_law 394 = .ok (.aload_n 1, 1) := by decide +kernel
theorem dL_law_395 : decode cL_law 395 = .ok (.aload_n 0, 1) := by decide +kernel
theorem dL_law_396 : decode cL_law 396 = .ok (.iload_n 3, 1) := by decide +kernel
theorem dL_law_397 : decode cL_law 397 = .ok (.iconst 1, 1) := by decide +kernel
theorem dL_law_398 : decode cL_law 398 = .ok (.iadd, 1) := by decide +kernel
theorem dL_law_399 : decode cL_law 399 = .ok (.iaload, 1) := by decide +kernel
theorem dL_law_400 : decode cL_law 400 = .ok (.aload_n 0, 1) := by decide +kernel
theorem dL_law_401 : decode cL_law 401 = .ok (.iload_n 3, 1) := by decide +kernel
theorem dL_law_402 : decode cL_law 402 = .ok (.iconst 2, 1) := by decide +kernel
theorem dL_law_403 : decode cL_law 403 = .ok (.iadd, 1) := by decide +kernel
theorem dL_law_404 : decode cL_law 404 = .ok (.iaload, 1) := by decide +kernel
theorem dL_law_405 : decode cL_law 405 = .ok (.aload_n 0, 1) := by decide +kernel
theorem dL_law_406 : decode cL_law 406 = .ok (.iload_n 3, 1) := by decide +kernel
theorem dL_law_407 : decode cL_law 407 = .ok (.iconst 3, 1) := by decide +kernel
theorem dL_law_408 : decode cL_law 408 = .ok (.iadd, 1) := by decide +kernel
theorem dL_law_409 : decode cL_law 409 = .ok (.iaload, 1) := by decide +kernel
theorem dL_law_410 : decode cL_law 410 = .ok (.ifCond .eq 7, 3) := by decide +kernel
theorem dL_law_413 : decode cL_law 413 = .ok (.iconst 1, 1) := by decide +kernel
theorem dL_law_414 : decode cL_law 414 = .ok (.goto 4, 3) := by decide +kernel
theorem dL_law_417 : decode cL_law 417 = .ok (.iconst 0, 1) := by decide +kernel
theorem dL_law_418 : decode cL_law 418 = .ok (.invokevirtual 43, 3) := by decide +kernel
theorem dL_law_421 : decode cL_law 421 = .ok (.aload_n 2, 1) := by decide +kernel
theorem dL_law_422 : decode cL_law 422 = .ok (.aload_n 0, 1) := by decide +kernel
theorem dL_law_423 : decode cL_law 423 = .ok (.iload_n 3, 1) := by decide +kernel
theorem dL_law_424 : decode cL_law 424 = .ok (.iconst 1, 1) := by decide +kernel
theorem dL_law_425 : decode cL_law 425 = .ok (.iadd, 1) := by decide +kernel
theorem dL_law_426 : decode cL_law 426 = .ok (.iaload, 1) := by decide +kernel
theorem dL_law_427 : decode cL_law 427 = .ok (.aload_n 0, 1) := by decide +kernel
theorem dL_law_428 : decode cL_law 428 = .ok (.iload_n 3, 1) := by decide +kernel
theorem dL_law_429 : decode cL_law 429 = .ok (.iconst 2, 1) := by decide +kernel
theorem dL_law_430 : decode cL_law 430 = .ok (.iadd, 1) := by decide +kernel
theorem dL_law_431 : decode cL_law 431 = .ok (.iaload, 1) := by decide +kernel
theorem dL_law_432 : decode cL_law 432 = .ok (.aload_n 0, 1) := by decide +kernel
theorem dL_law_433 : decode cL_law 433 = .ok (.iload_n 3, 1) := by decide +kernel
theorem dL_law_434 : decode cL_law 434 = .ok (.iconst 3, 1) := by decide +kernel
theorem dL_law_435 : decode cL_law 435 = .ok (.iadd, 1) := by decide +kernel
theorem dL_law_436 : decode cL_law 436 = .ok (.iaload, 1) := by decide +kernel
theorem dL_law_437 : decode cL_law 437 = .ok (.ifCond .eq 7, 3) := by decide +kernel
theorem dL_law_440 : decode cL_law 440 = .ok (.iconst 1, 1) := by decide +kernel
theorem dL_law_441 : decode cL_law 441 = .ok (.goto 4, 3) := by decide +kernel
theorem dL_law_444 : decode cL_law 444 = .ok (.iconst 0, 1) := by decide +kernel
theorem dL_law_445 : decode cL_law 445 = .ok (.invokevirtual 47, 3) := by decide +kernel
theorem dL_law_448 : decode cL_law 448 = .ok (.if_icmp .eq 747, 3) := by decide +kernel
theorem dL_law_451 : decode cL_law 451 = .ok (.iconst 0, 1) := by decide +kernel
theorem dL_law_452 : decode cL_law 452 = .ok (.ireturn, 1) := by decide +kernel
theorem dL_law_453 : decode cL_law 453 = .ok (.aload_n 1, 1) := by decide +kernel
theorem dL_law_454 : decode cL_law 454 = .ok (.aload_n 0, 1) := by decide +kernel
theorem dL_law_455 : decode cL_law 455 = .ok (.iload_n 3, 1) := by decide +kernel
theorem dL_law_456 : decode cL_law 456 = .ok (.iconst 1, 1) := by decide +kernel
theorem dL_law_457 : decode cL_law 457 = .ok (.iadd, 1) := by decide +kernel
theorem dL_law_458 : decode cL_law 458 = .ok (.iaload, 1) := by decide +kernel
theorem dL_law_459 : decode cL_law 459 = .ok (.aload_n 0, 1) := by decide +kernel
theorem dL_law_460 : decode cL_law 460 = .ok (.iload_n 3, 1) := by decide +kernel
theorem dL_law_461 : decode cL_law 461 = .ok (.iconst 2, 1) := by decide +kernel
theorem dL_law_462 : decode cL_law 462 = .ok (.iadd, 1) := by decide +kernel
theorem dL_law_463 : decode cL_law 463 = .ok (.iaload, 1) := by decide +kernel
theorem dL_law_464 : decode cL_law 464 = .ok (.invokevirtual 48, 3) := by decide +kernel
theorem dL_law_467 : decode cL_law 467 = .ok (.aload_n 2, 1) := by decide +kernel
theorem dL_law_468 : decode cL_law 468 = .ok (.aload_n 0, 1) := by decide +kernel
theorem dL_law_469 : decode cL_law 469 = .ok (.iload_n 3, 1) := by decide +kernel
theorem dL_law_470 : decode cL_law 470 = .ok (.iconst 1, 1) := by decide +kernel
theorem dL_law_471 : decode cL_law 471 = .ok (.iadd, 1) := by decide +kernel
theorem dL_law_472 : decode cL_law 472 = .ok (.iaload, 1) := by decide +kernel
theorem dL_law_473 : decode cL_law 473 = .ok (.aload_n 0, 1) := by decide +kernel
theorem dL_law_474 : decode cL_law 474 = .ok (.iload_n 3, 1) := by decide +kernel
theorem dL_law_475 : decode cL_law 475 = .ok (.iconst 2, 1) := by decide +kernel
theorem dL_law_476 : decode cL_law 476 = .ok (.iadd, 1) := by decide +kernel
theorem dL_law_477 : decode cL_law 477 = .ok (.iaload, 1) := by decide +kernel
theorem dL_law_478 : decode cL_law 478 = .ok (.invokevirtual 51, 3) := by decide +kernel
theorem dL_law_481 : decode cL_law 481 = .ok (.if_icmp .eq 714, 3) := by decide +kernel
theorem dL_law_484 : decode cL_law 484 = .ok (.iconst 0, 1) := by decide +kernel
theorem dL_law_485 : decode cL_law 485 = .ok (.ireturn, 1) := by decide +kernel
theorem dL_law_486 : decode cL_law 486 = .ok (.aload_n 1, 1) := by decide +kernel
theorem dL_law_487 : decode cL_law 487 = .ok (.aload_n 0, 1) := by decide +kernel
theorem dL_law_488 : decode cL_law 488 = .ok (.iload_n 3, 1) := by decide +kernel
theorem dL_law_489 : decode cL_law 489 = .ok (.iconst 1, 1) := by decide +kernel
theorem dL_law_490 : decode cL_law 490 = .ok (.iadd, 1) := by decide +kernel
theorem dL_law_491 : decode cL_law 491 = .ok (.iaload, 1) := by decide +kernel
theorem dL_law_492 : decode cL_law 492 = .ok (.invokevirtual 52, 3) := by decide +kernel
theorem dL_law_495 : decode cL_law 495 = .ok (.aload_n 2, 1) := by decide +kernel
theorem dL_law_496 : decode cL_law 496 = .ok (.aload_n 0, 1) := by decide +kernel
theorem dL_law_497 : decode cL_law 497 = .ok (.iload_n 3, 1) := by decide +kernel
theorem dL_law_498 : decode cL_law 498 = .ok (.iconst 1, 1) := by decide +kernel
theorem dL_law_499 : decode cL_law 499 = .ok (.iadd, 1) := by decide +kernel
theorem dL_law_500 : decode cL_law 500 = .ok (.iaload, 1) := by decide +kernel
theorem dL_law_501 : decode cL_law 501 = .ok (.invokevirtual 56, 3) := by decide +kernel
theorem dL_law_504 : decode cL_law 504 = .ok (.if_icmp .eq 691, 3) := by decide +kernel
theorem dL_law_507 : decode cL_law 507 = .ok (.iconst 0, 1) := by decide +kernel
theorem dL_law_508 : decode cL_law 508 = .ok (.ireturn, 1) := by decide +kernel
theorem dL_law_509 : decode cL_law 509 = .ok (.aload_n 1, 1) := by decide +kernel
theorem dL_law_510 : decode cL_law 510 = .ok (.aload_n 0, 1) := by decide +kernel
theorem dL_law_511 : decode cL_law 511 = .ok (.iload_n 3, 1) := by decide +kernel
theorem dL_law_512 : decode cL_law 512 = .ok (.iconst 1, 1) := by decide +kernel
theorem dL_law_513 : decode cL_law 513 = .ok (.iadd, 1) := by decide +kernel
theorem dL_law_514 : decode cL_law 514 = .ok (.iaload, 1) := by decide +kernel
theorem dL_law_515 : decode cL_law 515 = .ok (.invokevirtual 57, 3) := by decide +kernel
theorem dL_law_518 : decode cL_law 518 = .ok (.aload_n 2, 1) := by decide +kernel
theorem dL_law_519 : decode cL_law 519 = .ok (.aload_n 0, 1) := by decide +kernel
theorem dL_law_520 : decode cL_law 520 = .ok (.iload_n 3, 1) := by decide +kernel
theorem dL_law_521 : decode cL_law 521 = .ok (.iconst 1, 1) := by decide +kernel
theorem dL_law_522 : decode cL_law 522 = .ok (.iadd, 1) := by decide +kernel
theorem dL_law_523 : decode cL_law 523 = .ok (.iaload, 1) := by decide +kernel
theorem dL_law_524 : decode cL_law 524 = .ok (.invokevirtual 60, 3) := by decide +kernel
theorem dL_law_527 : decode cL_law 527 = .ok (.if_icmp .eq 668, 3) := by decide +kernel
theorem dL_law_530 : decode cL_law 530 = .ok (.iconst 0, 1) := by decide +kernel
theorem dL_law_531 : decode cL_law 531 = .ok (.ireturn, 1) := by decide +kernel
theorem dL_law_532 : decode cL_law 532 = .ok (.aload_n 1, 1) := by decide +kernel
theorem dL_law_533 : decode cL_law 533 = .ok (.aload_n 0, 1) := by decide +kernel
theorem dL_law_534 : decode cL_law 534 = .ok (.iload_n 3, 1) := by decide +kernel
theorem dL_law_535 : decode cL_law 535 = .ok (.iconst 1, 1) := by decide +kernel
theorem dL_law_536 : decode cL_law 536 = .ok (.iadd, 1) := by decide +kernel
theorem dL_law_537 : decode cL_law 537 = .ok (.iaload, 1) := by decide +kernel
theorem dL_law_538 : decode cL_law 538 = .ok (.invokevirtual 61, 3) := by decide +kernel
theorem dL_law_541 : decode cL_law 541 = .ok (.aload_n 2, 1) := by decide +kernel
theorem dL_law_542 : decode cL_law 542 = .ok (.aload_n 0, 1) := by decide +kernel
theorem dL_law_543 : decode cL_law 543 = .ok (.iload_n 3, 1) := by decide +kernel
theorem dL_law_544 : decode cL_law 544 = .ok (.iconst 1, 1) := by decide +kernel
theorem dL_law_545 : decode cL_law 545 = .ok (.iadd, 1) := by decide +kernel
theorem dL_law_546 : decode cL_law 546 = .ok (.iaload, 1) := by decide +kernel
theorem dL_law_547 : decode cL_law 547 = .ok (.invokevirtual 64, 3) := by decide +kernel
theorem dL_law_550 : decode cL_law 550 = .ok (.if_icmp .eq 645, 3) := by decide +kernel
theorem dL_law_553 : decode cL_law 553 = .ok (.iconst 0, 1) := by decide +kernel
theorem dL_law_554 : decode cL_law 554 = .ok (.ireturn, 1) := by decide +kernel
theorem dL_law_555 : decode cL_law 555 = .ok (.aload_n 1, 1) := by decide +kernel
theorem dL_law_556 : decode cL_law 556 = .ok (.aload_n 0, 1) := by decide +kernel
theorem dL_law_557 : decode cL_law 557 = .ok (.iload_n 3, 1) := by decide +kernel
theorem dL_law_558 : decode cL_law 558 = .ok (.iconst 1, 1) := by decide +kernel
theorem dL_law_559 : decode cL_law 559 = .ok (.iadd, 1) := by decide +kernel
theorem dL_law_560 : decode cL_law 560 = .ok (.iaload, 1) := by decide +kernel
theorem dL_law_561 : decode cL_law 561 = .ok (.aload_n 0, 1) := by decide +kernel
theorem dL_law_562 : decode cL_law 562 = .ok (.iload_n 3, 1) := by decide +kernel
theorem dL_law_563 : decode cL_law 563 = .ok (.iconst 2, 1) := by decide +kernel
theorem dL_law_564 : decode cL_law 564 = .ok (.iadd, 1) := by decide +kernel
theorem dL_law_565 : decode cL_law 565 = .ok (.iaload, 1) := by decide +kernel
theorem dL_law_566 : decode cL_law 566 = .ok (.invokevirtual 65, 3) := by decide +kernel
theorem dL_law_569 : decode cL_law 569 = .ok (.aload_n 2, 1) := by decide +kernel
theorem dL_law_570 : decode cL_law 570 = .ok (.aload_n 0, 1) := by decide +kernel
theorem dL_law_571 : decode cL_law 571 = .ok (.iload_n 3, 1) := by decide +kernel
theorem dL_law_572 : decode cL_law 572 = .ok (.iconst 1, 1) := by decide +kernel
theorem dL_law_573 : decode cL_law 573 = .ok (.iadd, 1) := by decide +kernel
theorem dL_law_574 : decode cL_law 574 = .ok (.iaload, 1) := by decide +kernel
theorem dL_law_575 : decode cL_law 575 = .ok (.aload_n 0, 1) := by decide +kernel
theorem dL_law_576 : decode cL_law 576 = .ok (.iload_n 3, 1) := by decide +kernel
theorem dL_law_577 : decode cL_law 577 = .ok (.iconst 2, 1) := by decide +kernel
theorem dL_law_578 : decode cL_law 578 = .ok (.iadd, 1) := by decide +kernel
theorem dL_law_579 : decode cL_law 579 = .ok (.iaload, 1) := by decide +kernel
theorem dL_law_580 : decode cL_law 580 = .ok (.invokevirtual 68, 3) := by decide +kernel
theorem dL_law_583 : decode cL_law 583 = .ok (.if_icmp .eq 612, 3) := by decide +kernel
theorem dL_law_586 : decode cL_law 586 = .ok (.iconst 0, 1) := by decide +kernel
theorem dL_law_587 : decode cL_law 587 = .ok (.ireturn, 1) := by decide +kernel
theorem dL_law_588 : decode cL_law 588 = .ok (.aload_n 1, 1) := by decide +kernel
theorem dL_law_589 : decode cL_law 589 = .ok (.aload_n 0, 1) := by decide +kernel
theorem dL_law_590 : decode cL_law 590 = .ok (.iload_n 3, 1) := by decide +kernel
theorem dL_law_591 : decode cL_law 591 = .ok (.iconst 1, 1) := by decide +kernel
theorem dL_law_592 : decode cL_law 592 = .ok (.iadd, 1) := by decide +kernel
theorem dL_law_593 : decode cL_law 593 = .ok (.iaload, 1) := by decide +kernel
theorem dL_law_594 : decode cL_law 594 = .ok (.invokevirtual 69, 3) := by decide +kernel
theorem dL_law_597 : decode cL_law 597 = .ok (.aload_n 2, 1) := by decide +kernel
theorem dL_law_598 : decode cL_law 598 = .ok (.aload_n 0, 1) := by decide +kernel
theorem dL_law_599 : decode cL_law 599 = .ok (.iload_n 3, 1) := by decide +kernel
theorem dL_law_600 : decode cL_law 600 = .ok (.iconst 1, 1) := by decide +kernel
theorem dL_law_601 : decode cL_law 601 = .ok (.iadd, 1) := by decide +kernel
theorem dL_law_602 : decode cL_law 602 = .ok (.iaload, 1) := by decide +kernel
theorem dL_law_603 : decode cL_law 603 = .ok (.invokevirtual 72, 3) := by decide +kernel
theorem dL_law_606 : decode cL_law 606 = .ok (.if_icmp .eq 589, 3) := by decide +kernel
theorem dL_law_609 : decode cL_law 609 = .ok (.iconst 0, 1) := by decide +kernel
theorem dL_law_610 : decode cL_law 610 = .ok (.ireturn, 1) := by decide +kernel
theorem dL_law_611 : decode cL_law 611 = .ok (.aload_n 1, 1) := by decide +kernel
theorem dL_law_612 : decode cL_law 612 = .ok (.aload_n 0, 1) := by decide +kernel
theorem dL_law_613 : decode cL_law 613 = .ok (.iload_n 3, 1) := by decide +kernel
theorem dL_law_614 : decode cL_law 614 = .ok (.iconst 1, 1) := by decide +kernel
theorem dL_law_615 : decode cL_law 615 = .ok (.iadd, 1) := by decide +kernel
theorem dL_law_616 : decode cL_law 616 = .ok (.iaload, 1) := by decide +kernel
theorem dL_law_617 : decode cL_law 617 = .ok (.invokevirtual 73, 3) := by decide +kernel
theorem dL_law_620 : decode cL_law 620 = .ok (.aload_n 2, 1) := by decide +kernel
theorem dL_law_621 : decode cL_law 621 = .ok (.aload_n 0, 1) := by decide +kernel
theorem dL_law_622 : decode cL_law 622 = .ok (.iload_n 3, 1) := by decide +kernel
theorem dL_law_623 : decode cL_law 623 = .ok (.iconst 1, 1) := by decide +kernel
theorem dL_law_624 : decode cL_law 624 = .ok (.iadd, 1) := by decide +kernel
theorem dL_law_625 : decode cL_law 625 = .ok (.iaload, 1) := by decide +kernel
theorem dL_law_626 : decode cL_law 626 = .ok (.invokevirtual 76, 3) := by decide +kernel
theorem dL_law_629 : decode cL_law 629 = .ok (.if_icmp .eq 566, 3) := by decide +kernel
theorem dL_law_632 : decode cL_law 632 = .ok (.iconst 0, 1) := by decide +kernel
theorem dL_law_633 : decode cL_law 633 = .ok (.ireturn, 1) := by decide +kernel
theorem dL_law_634 : decode cL_law 634 = .ok (.aload_n 1, 1) := by decide +kernel
theorem dL_law_635 : decode cL_law 635 = .ok (.aload_n 0, 1) := by decide +kernel
theorem dL_law_636 : decode cL_law 636 = .ok (.iload_n 3, 1) := by decide +kernel
theorem dL_law_637 : decode cL_law 637 = .ok (.iconst 1, 1) := by decide +kernel
theorem dL_law_638 : decode cL_law 638 = .ok (.iadd, 1) := by decide +kernel
theorem dL_law_639 : decode cL_law 639 = .ok (.iaload, 1) := by decide +kernel
theorem dL_law_640 : decode cL_law 640 = .ok (.aload_n 0, 1) := by decide +kernel
theorem dL_law_641 : decode cL_law 641 = .ok (.iload_n 3, 1) := by decide +kernel
theorem dL_law_642 : decode cL_law 642 = .ok (.iconst 2, 1) := by decide +kernel
theorem dL_law_643 : decode cL_law 643 = .ok (.iadd, 1) := by decide +kernel
theorem dL_law_644 : decode cL_law 644 = .ok (.iaload, 1) := by decide +kernel
theorem dL_law_645 : decode cL_law 645 = .ok (.invokevirtual 77, 3) := by decide +kernel
theorem dL_law_648 : decode cL_law 648 = .ok (.aload_n 2, 1) := by decide +kernel
theorem dL_law_649 : decode cL_law 649 = .ok (.aload_n 0, 1) := by decide +kernel
theorem dL_law_650 : decode cL_law 650 = .ok (.iload_n 3, 1) := by decide +kernel
theorem dL_law_651 : decode cL_law 651 = .ok (.iconst 1, 1) := by decide +kernel
theorem dL_law_652 : decode cL_law 652 = .ok (.iadd, 1) := by decide +kernel
theorem dL_law_653 : decode cL_law 653 = .ok (.iaload, 1) := by decide +kernel
theorem dL_law_654 : decode cL_law 654 = .ok (.aload_n 0, 1) := by decide +kernel
theorem dL_law_655 : decode cL_law 655 = .ok (.iload_n 3, 1) := by decide +kernel
theorem dL_law_656 : decode cL_law 656 = .ok (.iconst 2, 1) := by decide +kernel
theorem dL_law_657 : decode cL_law 657 = .ok (.iadd, 1) := by decide +kernel
theorem dL_law_658 : decode cL_law 658 = .ok (.iaload, 1) := by decide +kernel
theorem dL_law_659 : decode cL_law 659 = .ok (.invokevirtual 80, 3) := by decide +kernel
theorem dL_law_662 : decode cL_law 662 = .ok (.if_icmp .eq 533, 3) := by decide +kernel
theorem dL_law_665 : decode cL_law 665 = .ok (.iconst 0, 1) := by decide +kernel
theorem dL_law_666 : decode cL_law 666 = .ok (.ireturn, 1) := by decide +kernel
theorem dL_law_667 : decode cL_law 667 = .ok (.aload_n 1, 1) := by decide +kernel
theorem dL_law_668 : decode cL_law 668 = .ok (.aload_n 0, 1) := by decide +kernel
theorem dL_law_669 : decode cL_law 669 = .ok (.iload_n 3, 1) := by decide +kernel
theorem dL_law_670 : decode cL_law 670 = .ok (.iconst 1, 1) := by decide +kernel
theorem dL_law_671 : decode cL_law 671 = .ok (.iadd, 1) := by decide +kernel
theorem dL_law_672 : decode cL_law 672 = .ok (.iaload, 1) := by decide +kernel
theorem dL_law_673 : decode cL_law 673 = .ok (.aload_n 0, 1) := by decide +kernel
theorem dL_law_674 : decode cL_law 674 = .ok (.iload_n 3, 1) := by decide +kernel
theorem dL_law_675 : decode cL_law 675 = .ok (.iconst 2, 1) := by decide +kernel
theorem dL_law_676 : decode cL_law 676 = .ok (.iadd, 1) := by decide +kernel
theorem dL_law_677 : decode cL_law 677 = .ok (.iaload, 1) := by decide +kernel
theorem dL_law_678 : decode cL_law 678 = .ok (.invokevirtual 81, 3) := by decide +kernel
theorem dL_law_681 : decode cL_law 681 = .ok (.aload_n 2, 1) := by decide +kernel
theorem dL_law_682 : decode cL_law 682 = .ok (.aload_n 0, 1) := by decide +kernel
theorem dL_law_683 : decode cL_law 683 = .ok (.iload_n 3, 1) := by decide +kernel
theorem dL_law_684 : decode cL_law 684 = .ok (.iconst 1, 1) := by decide +kernel
theorem dL_law_685 : decode cL_law 685 = .ok (.iadd, 1) := by decide +kernel
theorem dL_law_686 : decode cL_law 686 = .ok (.iaload, 1) := by decide +kernel
theorem dL_law_687 : decode cL_law 687 = .ok (.aload_n 0, 1) := by decide +kernel
theorem dL_law_688 : decode cL_law 688 = .ok (.iload_n 3, 1) := by decide +kernel
theorem dL_law_689 : decode cL_law 689 = .ok (.iconst 2, 1) := by decide +kernel
theorem dL_law_690 : decode cL_law 690 = .ok (.iadd, 1) := by decide +kernel
theorem dL_law_691 : decode cL_law 691 = .ok (.iaload, 1) := by decide +kernel
theorem dL_law_692 : decode cL_law 692 = .ok (.invokevirtual 85, 3) := by decide +kernel
theorem dL_law_695 : decode cL_law 695 = .ok (.lcmp, 1) := by decide +kernel
theorem dL_law_696 : decode cL_law 696 = .ok (.ifCond .eq 499, 3) := by decide +kernel
theorem dL_law_699 : decode cL_law 699 = .ok (.iconst 0, 1) := by decide +kernel
theorem dL_law_700 : decode cL_law 700 = .ok (.ireturn, 1) := by decide +kernel
theorem dL_law_701 : decode cL_law 701 = .ok (.aload_n 1, 1) := by decide +kernel
theorem dL_law_702 : decode cL_law 702 = .ok (.aload_n 0, 1) := by decide +kernel
theorem dL_law_703 : decode cL_law 703 = .ok (.iload_n 3, 1) := by decide +kernel
theorem dL_law_704 : decode cL_law 704 = .ok (.iconst 1, 1) := by decide +kernel
theorem dL_law_705 : decode cL_law 705 = .ok (.iadd, 1) := by decide +kernel
theorem dL_law_706 : decode cL_law 706 = .ok (.iaload, 1) := by decide +kernel
theorem dL_law_707 : decode cL_law 707 = .ok (.aload_n 0, 1) := by decide +kernel
theorem dL_law_708 : decode cL_law 708 = .ok (.iload_n 3, 1) := by decide +kernel
theorem dL_law_709 : decode cL_law 709 = .ok (.iconst 2, 1) := by decide +kernel
theorem dL_law_710 : decode cL_law 710 = .ok (.iadd, 1) := by decide +kernel
theorem dL_law_711 : decode cL_law 711 = .ok (.iaload, 1) := by decide +kernel
theorem dL_law_712 : decode cL_law 712 = .ok (.aload_n 0, 1) := by decide +kernel
theorem dL_law_713 : decode cL_law 713 = .ok (.iload_n 3, 1) := by decide +kernel
theorem dL_law_714 : decode cL_law 714 = .ok (.iconst 3, 1) := by decide +kernel
theorem dL_law_715 : decode cL_law 715 = .ok (.iadd, 1) := by decide +kernel
theorem dL_law_716 : decode cL_law 716 = .ok (.iaload, 1) := by decide +kernel
theorem dL_law_717 : decode cL_law 717 = .ok (.invokevirtual 86, 3) := by decide +kernel
theorem dL_law_720 : decode cL_law 720 = .ok (.aload_n 2, 1) := by decide +kernel
theorem dL_law_721 : decode cL_law 721 = .ok (.aload_n 0, 1) := by decide +kernel
theorem dL_law_722 : decode cL_law 722 = .ok (.iload_n 3, 1) := by decide +kernel
theorem dL_law_723 : decode cL_law 723 = .ok (.iconst 1, 1) := by decide +kernel
theorem dL_law_724 : decode cL_law 724 = .ok (.iadd, 1) := by decide +kernel
theorem dL_law_725 : decode cL_law 725 = .ok (.iaload, 1) := by decide +kernel
theorem dL_law_726 : decode cL_law 726 = .ok (.aload_n 0, 1) := by decide +kernel
theorem dL_law_727 : decode cL_law 727 = .ok (.iload_n 3, 1) := by decide +kernel
theorem dL_law_728 : decode cL_law 728 = .ok (.iconst 2, 1) := by decide +kernel
theorem dL_law_729 : decode cL_law 729 = .ok (.iadd, 1) := by decide +kernel
theorem dL_law_730 : decode cL_law 730 = .ok (.iaload, 1) := by decide +kernel
theorem dL_law_731 : decode cL_law 731 = .ok (.aload_n 0, 1) := by decide +kernel
theorem dL_law_732 : decode cL_law 732 = .ok (.iload_n 3, 1) := by decide +kernel
theorem dL_law_733 : decode cL_law 733 = .ok (.iconst 3, 1) := by decide +kernel
theorem dL_law_734 : decode cL_law 734 = .ok (.iadd, 1) := by decide +kernel
theorem dL_law_735 : decode cL_law 735 = .ok (.iaload, 1) := by decide +kernel
theorem dL_law_736 : decode cL_law 736 = .ok (.invokevirtual 90, 3) := by decide +kernel
theorem dL_law_739 : decode cL_law 739 = .ok (.if_icmp .eq 456, 3) := by decide +kernel
theorem dL_law_742 : decode cL_law 742 = .ok (.iconst 0, 1) := by decide +kernel
theorem dL_law_743 : decode cL_law 743 = .ok (.ireturn, 1) := by decide +kernel
theorem dL_law_744 : decode cL_law 744 = .ok (.aload_n 1, 1) := by decide +kernel
theorem dL_law_745 : decode cL_law 745 = .ok (.aload_n 0, 1) := by decide +kernel
theorem dL_law_746 : decode cL_law 746 = .ok (.iload_n 3, 1) := by decide +kernel
theorem dL_law_747 : decode cL_law 747 = .ok (.iconst 1, 1) := by decide +kernel
theorem dL_law_748 : decode cL_law 748 = .ok (.iadd, 1) := by decide +kernel
theorem dL_law_749 : decode cL_law 749 = .ok (.iaload, 1) := by decide +kernel
theorem dL_law_750 : decode cL_law 750 = .ok (.invokevirtual 91, 3) := by decide +kernel
theorem dL_law_753 : decode cL_law 753 = .ok (.aload_n 2, 1) := by decide +kernel
theorem dL_law_754 : decode cL_law 754 = .ok (.aload_n 0, 1) := by decide +kernel
theorem dL_law_755 : decode cL_law 755 = .ok (.iload_n 3, 1) := by decide +kernel
theorem dL_law_756 : decode cL_law 756 = .ok (.iconst 1, 1) := by decide +kernel
theorem dL_law_757 : decode cL_law 757 = .ok (.iadd, 1) := by decide +kernel
theorem dL_law_758 : decode cL_law 758 = .ok (.iaload, 1) := by decide +kernel
theorem dL_law_759 : decode cL_law 759 = .ok (.invokevirtual 94, 3) := by decide +kernel
theorem dL_law_762 : decode cL_law 762 = .ok (.if_icmp .eq 433, 3) := by decide +kernel
theorem dL_law_765 : decode cL_law 765 = .ok (.iconst 0, 1) := by decide +kernel
theorem dL_law_766 : decode cL_law 766 = .ok (.ireturn, 1) := by decide +kernel
theorem dL_law_767 : decode cL_law 767 = .ok (.aload_n 1, 1) := by decide +kernel
theorem dL_law_768 : decode cL_law 768 = .ok (.aload_n 0, 1) := by decide +kernel
theorem dL_law_769 : decode cL_law 769 = .ok (.iload_n 3, 1) := by decide +kernel
theorem dL_law_770 : decode cL_law 770 = .ok (.iconst 1, 1) := by decide +kernel
theorem dL_law_771 : decode cL_law 771 = .ok (.iadd, 1) := by decide +kernel
theorem dL_law_772 : decode cL_law 772 = .ok (.iaload, 1) := by decide +kernel
theorem dL_law_773 : decode cL_law 773 = .ok (.aload_n 0, 1) := by decide +kernel
theorem dL_law_774 : decode cL_law 774 = .ok (.iload_n 3, 1) := by decide +kernel
theorem dL_law_775 : decode cL_law 775 = .ok (.iconst 2, 1) := by decide +kernel
theorem dL_law_776 : decode cL_law 776 = .ok (.iadd, 1) := by decide +kernel
theorem dL_law_777 : decode cL_law 777 = .ok (.iaload, 1) := by decide +kernel
theorem dL_law_778 : decode cL_law 778 = .ok (.ifCond .eq 7, 3) := by decide +kernel
theorem dL_law_781 : decode cL_law 781 = .ok (.iconst 1, 1) := by decide +kernel
theorem dL_law_782 : decode cL_law 782 = .ok (.goto 4, 3) := by decide +kernel
theorem dL_law_785 : decode cL_law 785 = .ok (.iconst 0, 1) := by decide +kernel
theorem dL_law_786 : decode cL_law 786 = .ok (.invokevirtual 95, 3) := by decide +kernel
theorem dL_law_789 : decode cL_law 789 = .ok (.aload_n 2, 1) := by decide +kernel
theorem dL_law_790 : decode cL_law 790 = .ok (.aload_n 0, 1) := by decide +kernel
theorem dL_law_791 : decode cL_law 791 = .ok (.iload_n 3, 1) := by decide +kernel
theorem dL_law_792 : decode cL_law 792 = .ok (.iconst 1, 1) := by decide +kernel
theorem dL_law_793 : decode cL_law 793 = .ok (.iadd, 1) := by decide +kernel
theorem dL_law_794 : decode cL_law 794 = .ok (.iaload, 1) := by decide +kernel
theorem dL_law_795 : decode cL_law 795 = .ok (.aload_n 0, 1) := by decide +kernel
theorem dL_law_796 : decode cL_law 796 = .ok (.iload_n 3, 1) := by decide +kernel
theorem dL_law_797 : decode cL_law 797 = .ok (.iconst 2, 1) := by decide +kernel
theorem dL_law_798 : decode cL_law 798 = .ok (.iadd, 1) := by decide +kernel
theorem dL_law_799 : decode cL_law 799 = .ok (.iaload, 1) := by decide +kernel
theorem dL_law_800 : decode cL_law 800 = .ok (.ifCond .eq 7, 3) := by decide +kernel
theorem dL_law_803 : decode cL_law 803 = .ok (.iconst 1, 1) := by decide +kernel
theorem dL_law_804 : decode cL_law 804 = .ok (.goto 4, 3) := by decide +kernel
theorem dL_law_807 : decode cL_law 807 = .ok (.iconst 0, 1) := by decide +kernel
theorem dL_law_808 : decode cL_law 808 = .ok (.invokevirtual 99, 3) := by decide +kernel
theorem dL_law_811 : decode cL_law 811 = .ok (.if_icmp .eq 384, 3) := by decide +kernel
theorem dL_law_814 : decode cL_law 814 = .ok (.iconst 0, 1) := by decide +kernel
theorem dL_law_815 : decode cL_law 815 = .ok (.ireturn, 1) := by decide +kernel
theorem dL_law_816 : decode cL_law 816 = .ok (.aload_n 1, 1) := by decide +kernel
theorem dL_law_817 : decode cL_law 817 = .ok (.aload_n 0, 1) := by decide +kernel
theorem dL_law_818 : decode cL_law 818 = .ok (.iload_n 3, 1) := by decide +kernel
theorem dL_law_819 : decode cL_law 819 = .ok (.iconst 1, 1) := by decide +kernel
theorem dL_law_820 : decode cL_law 820 = .ok (.iadd, 1) := by decide +kernel
theorem dL_law_821 : decode cL_law 821 = .ok (.iaload, 1) := by decide +kernel
theorem dL_law_822 : decode cL_law 822 = .ok (.aload_n 0, 1) := by decide +kernel
theorem dL_law_823 : decode cL_law 823 = .ok (.iload_n 3, 1) := by decide +kernel
theorem dL_law_824 : decode cL_law 824 = .ok (.iconst 2, 1) := by decide +kernel
theorem dL_law_825 : decode cL_law 825 = .ok (.iadd, 1) := by decide +kernel
theorem dL_law_826 : decode cL_law 826 = .ok (.iaload, 1) := by decide +kernel
theorem dL_law_827 : decode cL_law 827 = .ok (.ifCond .eq 7, 3) := by decide +kernel
theorem dL_law_830 : decode cL_law 830 = .ok (.iconst 1, 1) := by decide +kernel
theorem dL_law_831 : decode cL_law 831 = .ok (.goto 4, 3) := by decide +kernel
theorem dL_law_834 : decode cL_law 834 = .ok (.iconst 0, 1) := by decide +kernel
theorem dL_law_835 : decode cL_law 835 = .ok (.aload_n 0, 1) := by decide +kernel
theorem dL_law_836 : decode cL_law 836 = .ok (.iload_n 3, 1) := by decide +kernel
theorem dL_law_837 : decode cL_law 837 = .ok (.iconst 3, 1) := by decide +kernel
theorem dL_law_838 : decode cL_law 838 = .ok (.iadd, 1) := by decide +kernel
theorem dL_law_839 : decode cL_law 839 = .ok (.iaload, 1) := by decide +kernel
theorem dL_law_840 : decode cL_law 840 = .ok (.invokevirtual 100, 3) := by decide +kernel
theorem dL_law_843 : decode cL_law 843 = .ok (.aload_n 2, 1) := by decide +kernel
theorem dL_law_844 : decode cL_law 844 = .ok (.aload_n 0, 1) := by decide +kernel
theorem dL_law_845 : decode cL_law 845 = .ok (.iload_n 3, 1) := by decide +kernel
theorem dL_law_846 : decode cL_law 846 = .ok (.iconst 1, 1) := by decide +kernel
theorem dL_law_847 : decode cL_law 847 = .ok (.iadd, 1) := by decide +kernel
theorem dL_law_848 : decode cL_law 848 = .ok (.iaload, 1) := by decide +kernel
theorem dL_law_849 : decode cL_law 849 = .ok (.aload_n 0, 1) := by decide +kernel
theorem dL_law_850 : decode cL_law 850 = .ok (.iload_n 3, 1) := by decide +kernel
theorem dL_law_851 : decode cL_law 851 = .ok (.iconst 2, 1) := by decide +kernel
theorem dL_law_852 : decode cL_law 852 = .ok (.iadd, 1) := by decide +kernel
theorem dL_law_853 : decode cL_law 853 = .ok (.iaload, 1) := by decide +kernel
theorem dL_law_854 : decode cL_law 854 = .ok (.ifCond .eq 7, 3) := by decide +kernel
theorem dL_law_857 : decode cL_law 857 = .ok (.iconst 1, 1) := by decide +kernel
theorem dL_law_858 : decode cL_law 858 = .ok (.goto 4, 3) := by decide +kernel
theorem dL_law_861 : decode cL_law 861 = .ok (.iconst 0, 1) := by decide +kernel
theorem dL_law_862 : decode cL_law 862 = .ok (.aload_n 0, 1) := by decide +kernel
theorem dL_law_863 : decode cL_law 863 = .ok (.iload_n 3, 1) := by decide +kernel
theorem dL_law_864 : decode cL_law 864 = .ok (.iconst 3, 1) := by decide +kernel
theorem dL_law_865 : decode cL_law 865 = .ok (.iadd, 1) := by decide +kernel
theorem dL_law_866 : decode cL_law 866 = .ok (.iaload, 1) := by decide +kernel
theorem dL_law_867 : decode cL_law 867 = .ok (.invokevirtual 104, 3) := by decide +kernel
theorem dL_law_870 : decode cL_law 870 = .ok (.if_icmp .eq 325, 3) := by decide +kernel
theorem dL_law_873 : decode cL_law 873 = .ok (.iconst 0, 1) := by decide +kernel
theorem dL_law_874 : decode cL_law 874 = .ok (.ireturn, 1) := by decide +kernel
theorem dL_law_875 : decode cL_law 875 = .ok (.aload_n 1, 1) := by decide +kernel
theorem dL_law_876 : decode cL_law 876 = .ok (.invokevirtual 105, 3) := by decide +kernel
theorem dL_law_879 : decode cL_law 879 = .ok (.aload_n 2, 1) := by decide +kernel
theorem dL_law_880 : decode cL_law 880 = .ok (.invokevirtual 108, 3) := by decide +kernel
theorem dL_law_883 : decode cL_law 883 = .ok (.if_icmp .eq 312, 3) := by decide +kernel
theorem dL_law_886 : decode cL_law 886 = .ok (.iconst 0, 1) := by decide +kernel
theorem dL_law_887 : decode cL_law 887 = .ok (.ireturn, 1) := by decide +kernel
theorem dL_law_888 : decode cL_law 888 = .ok (.aload_n 1, 1) := by decide +kernel
theorem dL_law_889 : decode cL_law 889 = .ok (.invokevirtual 109, 3) := by decide +kernel
theorem dL_law_892 : decode cL_law 892 = .ok (.aload_n 2, 1) := by decide +kernel
theorem dL_law_893 : decode cL_law 893 = .ok (.invokevirtual 112, 3) := by decide +kernel
theorem dL_law_896 : decode cL_law 896 = .ok (.if_icmp .eq 299, 3) := by decide +kernel
theorem dL_law_899 : decode cL_law 899 = .ok (.iconst 0, 1) := by decide +kernel
theorem dL_law_900 : decode cL_law 900 = .ok (.ireturn, 1) := by decide +kernel
theorem dL_law_901 : decode cL_law 901 = .ok (.aload_n 1, 1) := by decide +kernel
theorem dL_law_902 : decode cL_law 902 = .ok (.aload_n 0, 1) := by decide +kernel
theorem dL_law_903 : decode cL_law 903 = .ok (.iload_n 3, 1) := by decide +kernel
theorem dL_law_904 : decode cL_law 904 = .ok (.iconst 1, 1) := by decide +kernel
theorem dL_law_905 : decode cL_law 905 = .ok (.iadd, 1) := by decide +kernel
theorem dL_law_906 : decode cL_law 906 = .ok (.iaload, 1) := by decide +kernel
theorem dL_law_907 : decode cL_law 907 = .ok (.aload_n 0, 1) := by decide +kernel
theorem dL_law_908 : decode cL_law 908 = .ok (.iload_n 3, 1) := by decide +kernel
theorem dL_law_909 : decode cL_law 909 = .ok (.iconst 2, 1) := by decide +kernel
theorem dL_law_910 : decode cL_law 910 = .ok (.iadd, 1) := by decide +kernel
theorem dL_law_911 : decode cL_law 911 = .ok (.iaload, 1) := by decide +kernel
theorem dL_law_912 : decode cL_law 912 = .ok (.aload_n 0, 1) := by decide +kernel
theorem dL_law_913 : decode cL_law 913 = .ok (.iload_n 3, 1) := by decide +kernel
theorem dL_law_914 : decode cL_law 914 = .ok (.iconst 3, 1) := by decide +kernel
theorem dL_law_915 : decode cL_law 915 = .ok (.iadd, 1) := by decide +kernel
theorem dL_law_916 : decode cL_law 916 = .ok (.iaload, 1) := by decide +kernel
theorem dL_law_917 : decode cL_law 917 = .ok (.ifCond .eq 7, 3) := by decide +kernel
theorem dL_law_920 : decode cL_law 920 = .ok (.iconst 1, 1) := by decide +kernel
theorem dL_law_921 : decode cL_law 921 = .ok (.goto 4, 3) := by decide +kernel
theorem dL_law_924 : decode cL_law 924 = .ok (.iconst 0, 1) := by decide +kernel
theorem dL_law_925 : decode cL_law 925 = .ok (.invokevirtual 113, 3) := by decide +kernel
theorem dL_law_928 : decode cL_law 928 = .ok (.aload_n 2, 1) := by decide +kernel
theorem dL_law_929 : decode cL_law 929 = .ok (.aload_n 0, 1) := by decide +kernel
theorem dL_law_930 : decode cL_law 930 = .ok (.iload_n 3, 1) := by decide +kernel
theorem dL_law_931 : decode cL_law 931 = .ok (.iconst 1, 1) := by decide +kernel
theorem dL_law_932 : decode cL_law 932 = .ok (.iadd, 1) := by decide +kernel
theorem dL_law_933 : decode cL_law 933 = .ok (.iaload, 1) := by decide +kernel
theorem dL_law_934 : decode cL_law 934 = .ok (.aload_n 0, 1) := by decide +kernel
theorem dL_law_935 : decode cL_law 935 = .ok (.iload_n 3, 1) := by decide +kernel
theorem dL_law_936 : decode cL_law 936 = .ok (.iconst 2, 1) := by decide +kernel
theorem dL_law_937 : decode cL_law 937 = .ok (.iadd, 1) := by decide +kernel
theorem dL_law_938 : decode cL_law 938 = .ok (.iaload, 1) := by decide +kernel
theorem dL_law_939 : decode cL_law 939 = .ok (.aload_n 0, 1) := by decide +kernel
theorem dL_law_940 : decode cL_law 940 = .ok (.iload_n 3, 1) := by decide +kernel
theorem dL_law_941 : decode cL_law 941 = .ok (.iconst 3, 1) := by decide +kernel
theorem dL_law_942 : decode cL_law 942 = .ok (.iadd, 1) := by decide +kernel
theorem dL_law_943 : decode cL_law 943 = .ok (.iaload, 1) := by decide +kernel
theorem dL_law_944 : decode cL_law 944 = .ok (.ifCond .eq 7, 3) := by decide +kernel
theorem dL_law_947 : decode cL_law 947 = .ok (.iconst 1, 1) := by decide +kernel
theorem dL_law_948 : decode cL_law 948 = .ok (.goto 4, 3) := by decide +kernel
theorem dL_law_951 : decode cL_law 951 = .ok (.iconst 0, 1) := by decide +kernel
theorem dL_law_952 : decode cL_law 952 = .ok (.invokevirtual 117, 3) := by decide +kernel
theorem dL_law_955 : decode cL_law 955 = .ok (.lcmp, 1) := by decide +kernel
theorem dL_law_956 : decode cL_law 956 = .ok (.ifCond .eq 239, 3) := by decide +kernel
theorem dL_law_959 : decode cL_law 959 = .ok (.iconst 0, 1) := by decide +kernel
theorem dL_law_960 : decode cL_law 960 = .ok (.ireturn, 1) := by decide +kernel
theorem dL_law_961 : decode cL_law 961 = .ok (.aload_n 1, 1) := by decide +kernel
theorem dL_law_962 : decode cL_law 962 = .ok (.aload_n 0, 1) := by decide +kernel
theorem dL_law_963 : decode cL_law 963 = .ok (.iload_n 3, 1) := by decide +kernel
theorem dL_law_964 : decode cL_law 964 = .ok (.iconst 1, 1) := by decide +kernel
theorem dL_law_965 : decode cL_law 965 = .ok (.iadd, 1) := by decide +kernel
theorem dL_law_966 : decode cL_law 966 = .ok (.iaload, 1) := by decide +kernel
theorem dL_law_967 : decode cL_law 967 = .ok (.invokevirtual 118, 3) := by decide +kernel
theorem dL_law_970 : decode cL_law 970 = .ok (.aload_n 2, 1) := by decide +kernel
theorem dL_law_971 : decode cL_law 971 = .ok (.aload_n 0, 1) := by decide +kernel
theorem dL_law_972 : decode cL_law 972 = .ok (.iload_n 3, 1) := by decide +kernel
theorem dL_law_973 : decode cL_law 973 = .ok (.iconst 1, 1) := by decide +kernel
theorem dL_law_974 : decode cL_law 974 = .ok (.iadd, 1) := by decide +kernel
theorem dL_law_975 : decode cL_law 975 = .ok (.iaload, 1) := by decide +kernel
theorem dL_law_976 : decode cL_law 976 = .ok (.invokevirtual 122, 3) := by decide +kernel
theorem dL_law_979 : decode cL_law 979 = .ok (.lcmp, 1) := by decide +kernel
theorem dL_law_980 : decode cL_law 980 = .ok (.ifCond .eq 215, 3) := by decide +kernel
theorem dL_law_983 : decode cL_law 983 = .ok (.iconst 0, 1) := by decide +kernel
theorem dL_law_984 : decode cL_law 984 = .ok (.ireturn, 1) := by decide +kernel
theorem dL_law_985 : decode cL_law 985 = .ok (.aload_n 1, 1) := by decide +kernel
theorem dL_law_986 : decode cL_law 986 = .ok (.aload_n 0, 1) := by decide +kernel
theorem dL_law_987 : decode cL_law 987 = .ok (.iload_n 3, 1) := by decide +kernel
theorem dL_law_988 : decode cL_law 988 = .ok (.iconst 1, 1) := by decide +kernel
theorem dL_law_989 : decode cL_law 989 = .ok (.iadd, 1) := by decide +kernel
theorem dL_law_990 : decode cL_law 990 = .ok (.iaload, 1) := by decide +kernel
theorem dL_law_991 : decode cL_law 991 = .ok (.aload_n 0, 1) := by decide +kernel
theorem dL_law_992 : decode cL_law 992 = .ok (.iload_n 3, 1) := by decide +kernel
theorem dL_law_993 : decode cL_law 993 = .ok (.iconst 2, 1) := by decide +kernel
theorem dL_law_994 : decode cL_law 994 = .ok (.iadd, 1) := by decide +kernel
theorem dL_law_995 : decode cL_law 995 = .ok (.iaload, 1) := by decide +kernel
theorem dL_law_996 : decode cL_law 996 = .ok (.invokevirtual 123, 3) := by decide +kernel
theorem dL_law_999 : decode cL_law 999 = .ok (.aload_n 2, 1) := by decide +kernel
theorem dL_law_1000 : decode cL_law 1000 = .ok (.aload_n 0, 1) := by decide +kernel
theorem dL_law_1001 : decode cL_law 1001 = .ok (.iload_n 3, 1) := by decide +kernel
theorem dL_law_1002 : decode cL_law 1002 = .ok (.iconst 1, 1) := by decide +kernel
theorem dL_law_1003 : decode cL_law 1003 = .ok (.iadd, 1) := by decide +kernel
theorem dL_law_1004 : decode cL_law 1004 = .ok (.iaload, 1) := by decide +kernel
theorem dL_law_1005 : decode cL_law 1005 = .ok (.aload_n 0, 1) := by decide +kernel
theorem dL_law_1006 : decode cL_law 1006 = .ok (.iload_n 3, 1) := by decide +kernel
theorem dL_law_1007 : decode cL_law 1007 = .ok (.iconst 2, 1) := by decide +kernel
theorem dL_law_1008 : decode cL_law 1008 = .ok (.iadd, 1) := by decide +kernel
theorem dL_law_1009 : decode cL_law 1009 = .ok (.iaload, 1) := by decide +kernel
theorem dL_law_1010 : decode cL_law 1010 = .ok (.invokevirtual 126, 3) := by decide +kernel
theorem dL_law_1013 : decode cL_law 1013 = .ok (.if_icmp .eq 182, 3) := by decide +kernel
theorem dL_law_1016 : decode cL_law 1016 = .ok (.iconst 0, 1) := by decide +kernel
theorem dL_law_1017 : decode cL_law 1017 = .ok (.ireturn, 1) := by decide +kernel
theorem dL_law_1018 : decode cL_law 1018 = .ok (.aload_n 1, 1) := by decide +kernel
theorem dL_law_1019 : decode cL_law 1019 = .ok (.invokevirtual 127, 3) := by decide +kernel
theorem dL_law_1022 : decode cL_law 1022 = .ok (.aload_n 2, 1) := by decide +kernel
theorem dL_law_1023 : decode cL_law 1023 = .ok (.invokevirtual 130, 3) := by decide +kernel
theorem dL_law_1026 : decode cL_law 1026 = .ok (.if_icmp .eq 169, 3) := by decide +kernel
theorem dL_law_1029 : decode cL_law 1029 = .ok (.iconst 0, 1) := by decide +kernel
theorem dL_law_1030 : decode cL_law 1030 = .ok (.ireturn, 1) := by decide +kernel
theorem dL_law_1031 : decode cL_law 1031 = .ok (.aload_n 1, 1) := by decide +kernel
theorem dL_law_1032 : decode cL_law 1032 = .ok (.invokevirtual 131, 3) := by decide +kernel
theorem dL_law_1035 : decode cL_law 1035 = .ok (.aload_n 2, 1) := by decide +kernel
theorem dL_law_1036 : decode cL_law 1036 = .ok (.invokevirtual 134, 3) := by decide +kernel
theorem dL_law_1039 : decode cL_law 1039 = .ok (.if_icmp .eq 156, 3) := by decide +kernel
theorem dL_law_1042 : decode cL_law 1042 = .ok (.iconst 0, 1) := by decide +kernel
theorem dL_law_1043 : decode cL_law 1043 = .ok (.ireturn, 1) := by decide +kernel
theorem dL_law_1044 : decode cL_law 1044 = .ok (.aload_n 1, 1) := by decide +kernel
theorem dL_law_1045 : decode cL_law 1045 = .ok (.aload_n 0, 1) := by decide +kernel
theorem dL_law_1046 : decode cL_law 1046 = .ok (.iload_n 3, 1) := by decide +kernel
theorem dL_law_1047 : decode cL_law 1047 = .ok (.iconst 1, 1) := by decide +kernel
theorem dL_law_1048 : decode cL_law 1048 = .ok (.iadd, 1) := by decide +kernel
theorem dL_law_1049 : decode cL_law 1049 = .ok (.iaload, 1) := by decide +kernel
theorem dL_law_1050 : decode cL_law 1050 = .ok (.aload_n 0, 1) := by decide +kernel
theorem dL_law_1051 : decode cL_law 1051 = .ok (.iload_n 3, 1) := by decide +kernel
theorem dL_law_1052 : decode cL_law 1052 = .ok (.iconst 2, 1) := by decide +kernel
theorem dL_law_1053 : decode cL_law 1053 = .ok (.iadd, 1) := by decide +kernel
theorem dL_law_1054 : decode cL_law 1054 = .ok (.iaload, 1) := by decide +kernel
theorem dL_law_1055 : decode cL_law 1055 = .ok (.aload_n 0, 1) := by decide +kernel
theorem dL_law_1056 : decode cL_law 1056 = .ok (.iload_n 3, 1) := by decide +kernel
theorem dL_law_1057 : decode cL_law 1057 = .ok (.iconst 3, 1) := by decide +kernel
theorem dL_law_1058 : decode cL_law 1058 = .ok (.iadd, 1) := by decide +kernel
theorem dL_law_1059 : decode cL_law 1059 = .ok (.iaload, 1) := by decide +kernel
theorem dL_law_1060 : decode cL_law 1060 = .ok (.ifCond .eq 7, 3) := by decide +kernel
theorem dL_law_1063 : decode cL_law 1063 = .ok (.iconst 1, 1) := by decide +kernel
theorem dL_law_1064 : decode cL_law 1064 = .ok (.goto 4, 3) := by decide +kernel
theorem dL_law_1067 : decode cL_law 1067 = .ok (.iconst 0, 1) := by decide +kernel
theorem dL_law_1068 : decode cL_law 1068 = .ok (.invokevirtual 135, 3) := by decide +kernel
theorem dL_law_1071 : decode cL_law 1071 = .ok (.aload_n 2, 1) := by decide +kernel
theorem dL_law_1072 : decode cL_law 1072 = .ok (.aload_n 0, 1) := by decide +kernel
theorem dL_law_1073 : decode cL_law 1073 = .ok (.iload_n 3, 1) := by decide +kernel
theorem dL_law_1074 : decode cL_law 1074 = .ok (.iconst 1, 1) := by decide +kernel
theorem dL_law_1075 : decode cL_law 1075 = .ok (.iadd, 1) := by decide +kernel
theorem dL_law_1076 : decode cL_law 1076 = .ok (.iaload, 1) := by decide +kernel
theorem dL_law_1077 : decode cL_law 1077 = .ok (.aload_n 0, 1) := by decide +kernel
theorem dL_law_1078 : decode cL_law 1078 = .ok (.iload_n 3, 1) := by decide +kernel
theorem dL_law_1079 : decode cL_law 1079 = .ok (.iconst 2, 1) := by decide +kernel
theorem dL_law_1080 : decode cL_law 1080 = .ok (.iadd, 1) := by decide +kernel
theorem dL_law_1081 : decode cL_law 1081 = .ok (.iaload, 1) := by decide +kernel
theorem dL_law_1082 : decode cL_law 1082 = .ok (.aload_n 0, 1) := by decide +kernel
theorem dL_law_1083 : decode cL_law 1083 = .ok (.iload_n 3, 1) := by decide +kernel
theorem dL_law_1084 : decode cL_law 1084 = .ok (.iconst 3, 1) := by decide +kernel
theorem dL_law_1085 : decode cL_law 1085 = .ok (.iadd, 1) := by decide +kernel
theorem dL_law_1086 : decode cL_law 1086 = .ok (.iaload, 1) := by decide +kernel
theorem dL_law_1087 : decode cL_law 1087 = .ok (.ifCond .eq 7, 3) := by decide +kernel
theorem dL_law_1090 : decode cL_law 1090 = .ok (.iconst 1, 1) := by decide +kernel
theorem dL_law_1091 : decode cL_law 1091 = .ok (.goto 4, 3) := by decide +kernel
theorem dL_law_1094 : decode cL_law 1094 = .ok (.iconst 0, 1) := by decide +kernel
theorem dL_law_1095 : decode cL_law 1095 = .ok (.invokevirtual 138, 3) := by decide +kernel
theorem dL_law_1098 : decode cL_law 1098 = .ok (.if_icmp .eq 97, 3) := by decide +kernel
theorem dL_law_1101 : decode cL_law 1101 = .ok (.iconst 0, 1) := by decide +kernel
theorem dL_law_1102 : decode cL_law 1102 = .ok (.ireturn, 1) := by decide +kernel
theorem dL_law_1103 : decode cL_law 1103 = .ok (.aload_n 1, 1) := by decide +kernel
theorem dL_law_1104 : decode cL_law 1104 = .ok (.aload_n 0, 1) := by decide +kernel
theorem dL_law_1105 : decode cL_law 1105 = .ok (.iload_n 3, 1) := by decide +kernel
theorem dL_law_1106 : decode cL_law 1106 = .ok (.iconst 1, 1) := by decide +kernel
theorem dL_law_1107 : decode cL_law 1107 = .ok (.iadd, 1) := by decide +kernel
theorem dL_law_1108 : decode cL_law 1108 = .ok (.iaload, 1) := by decide +kernel
theorem dL_law_1109 : decode cL_law 1109 = .ok (.invokevirtual 139, 3) := by decide +kernel
theorem dL_law_1112 : decode cL_law 1112 = .ok (.aload_n 2, 1) := by decide +kernel
theorem dL_law_1113 : decode cL_law 1113 = .ok (.aload_n 0, 1) := by decide +kernel
theorem dL_law_1114 : decode cL_law 1114 = .ok (.iload_n 3, 1) := by decide +kernel
theorem dL_law_1115 : decode cL_law 1115 = .ok (.iconst 1, 1) := by decide +kernel
theorem dL_law_1116 : decode cL_law 1116 = .ok (.iadd, 1) := by decide +kernel
theorem dL_law_1117 : decode cL_law 1117 = .ok (.iaload, 1) := by decide +kernel
theorem dL_law_1118 : decode cL_law 1118 = .ok (.invokevirtual 142, 3) := by decide +kernel
theorem dL_law_1121 : decode cL_law 1121 = .ok (.if_icmp .eq 74, 3) := by decide +kernel
theorem dL_law_1124 : decode cL_law 1124 = .ok (.iconst 0, 1) := by decide +kernel
theorem dL_law_1125 : decode cL_law 1125 = .ok (.ireturn, 1) := by decide +kernel
theorem dL_law_1126 : decode cL_law 1126 = .ok (.aload_n 1, 1) := by decide +kernel
theorem dL_law_1127 : decode cL_law 1127 = .ok (.aload_n 0, 1) := by decide +kernel
theorem dL_law_1128 : decode cL_law 1128 = .ok (.iload_n 3, 1) := by decide +kernel
theorem dL_law_1129 : decode cL_law 1129 = .ok (.iconst 1, 1) := by decide +kernel
theorem dL_law_1130 : decode cL_law 1130 = .ok (.iadd, 1) := by decide +kernel
theorem dL_law_1131 : decode cL_law 1131 = .ok (.iaload, 1) := by decide +kernel
theorem dL_law_1132 : decode cL_law 1132 = .ok (.invokevirtual 143, 3) := by decide +kernel
theorem dL_law_1135 : decode cL_law 1135 = .ok (.aload_n 2, 1) := by decide +kernel
theorem dL_law_1136 : decode cL_law 1136 = .ok (.aload_n 0, 1) := by decide +kernel
theorem dL_law_1137 : decode cL_law 1137 = .ok (.iload_n 3, 1) := by decide +kernel
theorem dL_law_1138 : decode cL_law 1138 = .ok (.iconst 1, 1) := by decide +kernel
theorem dL_law_1139 : decode cL_law 1139 = .ok (.iadd, 1) := by decide +kernel
theorem dL_law_1140 : decode cL_law 1140 = .ok (.iaload, 1) := by decide +kernel
theorem dL_law_1141 : decode cL_law 1141 = .ok (.invokevirtual 146, 3) := by decide +kernel
theorem dL_law_1144 : decode cL_law 1144 = .ok (.if_icmp .eq 51, 3) := by decide +kernel
theorem dL_law_1147 : decode cL_law 1147 = .ok (.iconst 0, 1) := by decide +kernel
theorem dL_law_1148 : decode cL_law 1148 = .ok (.ireturn, 1) := by decide +kernel
theorem dL_law_1149 : decode cL_law 1149 = .ok (.aload_n 1, 1) := by decide +kernel
theorem dL_law_1150 : decode cL_law 1150 = .ok (.aload_n 0, 1) := by decide +kernel
theorem dL_law_1151 : decode cL_law 1151 = .ok (.iload_n 3, 1) := by decide +kernel
theorem dL_law_1152 : decode cL_law 1152 = .ok (.iconst 1, 1) := by decide +kernel
theorem dL_law_1153 : decode cL_law 1153 = .ok (.iadd, 1) := by decide +kernel
theorem dL_law_1154 : decode cL_law 1154 = .ok (.iaload, 1) := by decide +kernel
theorem dL_law_1155 : decode cL_law 1155 = .ok (.invokevirtual 147, 3) := by decide +kernel
theorem dL_law_1158 : decode cL_law 1158 = .ok (.aload_n 2, 1) := by decide +kernel
theorem dL_law_1159 : decode cL_law 1159 = .ok (.aload_n 0, 1) := by decide +kernel
theorem dL_law_1160 : decode cL_law 1160 = .ok (.iload_n 3, 1) := by decide +kernel
theorem dL_law_1161 : decode cL_law 1161 = .ok (.iconst 1, 1) := by decide +kernel
theorem dL_law_1162 : decode cL_law 1162 = .ok (.iadd, 1) := by decide +kernel
theorem dL_law_1163 : decode cL_law 1163 = .ok (.iaload, 1) := by decide +kernel
theorem dL_law_1164 : decode cL_law 1164 = .ok (.invokevirtual 150, 3) := by decide +kernel
theorem dL_law_1167 : decode cL_law 1167 = .ok (.if_icmp .eq 28, 3) := by decide +kernel
theorem dL_law_1170 : decode cL_law 1170 = .ok (.iconst 0, 1) := by decide +kernel
theorem dL_law_1171 : decode cL_law 1171 = .ok (.ireturn, 1) := by decide +kernel
theorem dL_law_1172 : decode cL_law 1172 = .ok (.aload_n 1, 1) := by decide +kernel
theorem dL_law_1173 : decode cL_law 1173 = .ok (.aload_n 0, 1) := by decide +kernel
theorem dL_law_1174 : decode cL_law 1174 = .ok (.iload_n 3, 1) := by decide +kernel
theorem dL_law_1175 : decode cL_law 1175 = .ok (.iconst 1, 1) := by decide +kernel
theorem dL_law_1176 : decode cL_law 1176 = .ok (.iadd, 1) := by decide +kernel
theorem dL_law_1177 : decode cL_law 1177 = .ok (.iaload, 1) := by decide +kernel
theorem dL_law_1178 : decode cL_law 1178 = .ok (.invokevirtual 151, 3) := by decide +kernel
theorem dL_law_1181 : decode cL_law 1181 = .ok (.aload_n 2, 1) := by decide +kernel
theorem dL_law_1182 : decode cL_law 1182 = .ok (.aload_n 0, 1) := by decide +kernel
theorem dL_law_1183 : decode cL_law 1183 = .ok (.iload_n 3, 1) := by decide +kernel
theorem dL_law_1184 : decode cL_law 1184 = .ok (.iconst 1, 1) := by decide +kernel
theorem dL_law_1185 : decode cL_law 1185 = .ok (.iadd, 1) := by decide +kernel
theorem dL_law_1186 : decode cL_law 1186 = .ok (.iaload, 1) := by decide +kernel
theorem dL_law_1187 : decode cL_law 1187 = .ok (.invokevirtual 154, 3) := by decide +kernel
theorem dL_law_1190 : decode cL_law 1190 = .ok (.if_icmp .eq 5, 3) := by decide +kernel
theorem dL_law_1193 : decode cL_law 1193 = .ok (.iconst 0, 1) := by decide +kernel
theorem dL_law_1194 : decode cL_law 1194 = .ok (.ireturn, 1) := by decide +kernel
theorem dL_law_1195 : decode cL_law 1195 = .ok (.iinc 3 6, 3) := by decide +kernel
theorem dL_law_1198 : decode cL_law 1198 = .ok (.goto (-1180), 3) := by decide +kernel
theorem dL_law_1201 : decode cL_law 1201 = .ok (.iconst 1, 1) := by decide +kernel
theorem dL_law_1202 : decode cL_law 1202 = .ok (.ireturn, 1) := by decide +kernel
