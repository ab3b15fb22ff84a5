theorem mem_places {big ws : List Cond} (ps : List Nat) (hp : ws = ps.filterMap (fun i => big[i]?)) : ∀ w ∈ ws, w ∈ big := by
  intro w hw
  rw [hp] at hw
  obtain ⟨i, -, hi⟩ := List.mem_filterMap.mp hw
  exact List.mem_of_getElem? hi
set_option maxRecDepth 20000 in
theorem wsL_law_r1_in : ∀ w ∈ wsL_law_r1, w ∈ lw_tbl := mem_places [50, 51, 37, 783, 784, 47, 1190, 52, 53, 54, 55, 56, 57, 58, 59, 38, 250, 73, 74, 39, 251, 252, 253, 123] (by decide +kernel)
set_option maxRecDepth 20000 in
theorem wsL_law_r2_in : ∀ w ∈ wsL_law_r2, w ∈ lw_tbl := mem_places [124, 40, 254, 142, 143, 41, 255, 152, 153, 42, 256, 169, 170, 43, 257, 195, 196, 44, 258, 224, 225, 45, 259, 234] (by decide +kernel)
set_option maxRecDepth 20000 in
theorem wsL_law_r3_in : ∀ w ∈ wsL_law_r3, w ∈ lw_tbl := mem_places [235, 46, 260, 60, 61, 62, 63, 72, 64, 65, 75, 76, 77, 78, 79, 80, 81, 82, 83, 85, 104, 105, 106, 91] (by decide +kernel)
set_option maxRecDepth 20000 in
theorem wsL_law_r4_in : ∀ w ∈ wsL_law_r4, w ∈ lw_tbl := mem_places [97, 125, 126, 127, 128, 129, 130, 131, 144, 145, 146, 147, 148, 154, 155, 156, 157, 158, 168, 159, 160, 171, 172, 173] (by decide +kernel)
set_option maxRecDepth 20000 in
theorem wsL_law_r5_in : ∀ w ∈ wsL_law_r5, w ∈ lw_tbl := mem_places [174, 175, 176, 197, 198, 199, 200, 203, 204, 201, 205, 226, 227, 228, 229, 230, 236, 237, 238, 239, 240, 241, 242, 785] (by decide +kernel)
set_option maxRecDepth 20000 in
theorem wsL_law_r6_in : ∀ w ∈ wsL_law_r6, w ∈ lw_tbl := mem_places [786, 787, 788, 790, 792, 793, 892, 794, 795, 800, 801, 802, 803, 804, 805, 806, 807, 808, 812, 813, 814, 815, 816, 817] (by decide +kernel)
set_option maxRecDepth 20000 in
theorem wsL_law_r7_in : ∀ w ∈ wsL_law_r7, w ∈ lw_tbl := mem_places [819, 820, 284, 285, 286, 287, 66, 288, 289, 290, 291, 292, 893, 894, 895, 896, 789, 897, 791, 898, 899, 900, 293, 294] (by decide +kernel)
set_option maxRecDepth 20000 in
theorem wsL_law_r8_in : ∀ w ∈ wsL_law_r8, w ∈ lw_tbl := mem_places [295, 296, 901, 902, 903, 904, 297, 298, 299, 300, 301, 302, 303, 304, 305, 306, 307, 308, 309, 310, 311, 312, 313, 314] (by decide +kernel)
set_option maxRecDepth 20000 in
theorem wsL_law_r9_in : ∀ w ∈ wsL_law_r9, w ∈ lw_tbl := mem_places [315, 316, 905, 906, 907, 908, 909, 911, 0, 912, 798, 799, 913, 317, 318, 319, 320, 321, 322, 323, 324, 325, 326, 327] (by decide +kernel)
set_option maxRecDepth 20000 in
theorem wsL_law_r10_in : ∀ w ∈ wsL_law_r10, w ∈ lw_tbl := mem_places [328, 329, 330, 331, 332, 333, 343, 344, 48, 345, 349, 334, 335, 336, 337, 340, 341, 342, 346, 347, 348, 350, 351, 352] (by decide +kernel)
set_option maxRecDepth 20000 in
theorem wsL_law_r11_in : ∀ w ∈ wsL_law_r11, w ∈ lw_tbl := mem_places [353, 914, 915, 916, 917, 918, 920, 1, 921, 796, 797, 354, 355, 356, 357, 358, 359, 360, 361, 362, 132, 363, 364, 365] (by decide +kernel)
set_option maxRecDepth 20000 in
theorem wsL_law_r12_in : ∀ w ∈ wsL_law_r12, w ∈ lw_tbl := mem_places [366, 367, 368, 369, 370, 371, 372, 373, 374, 375, 376, 377, 378, 379, 380, 381, 382, 383, 384, 385, 386, 387, 388, 389] (by decide +kernel)
set_option maxRecDepth 20000 in
theorem wsL_law_r13_in : ∀ w ∈ wsL_law_r13, w ∈ lw_tbl := mem_places [390, 391, 392, 393, 394, 395, 396, 397, 398, 399, 400, 401, 402, 403, 404, 103, 405, 406, 407, 408, 409, 410, 411, 412] (by decide +kernel)
set_option maxRecDepth 20000 in
theorem wsL_law_r14_in : ∀ w ∈ wsL_law_r14, w ∈ lw_tbl := mem_places [413, 414, 415, 416, 417, 418, 922, 923, 924, 925, 926, 818, 927, 929, 2, 930, 931, 933, 3, 934, 935, 937, 4, 938] (by decide +kernel)
set_option maxRecDepth 20000 in
theorem wsL_law_r15_in : ∀ w ∈ wsL_law_r15, w ∈ lw_tbl := mem_places [939, 941, 5, 942, 943, 944, 945, 947, 6, 948, 949, 951, 7, 952, 953, 955, 8, 956, 957, 959, 9, 960, 961, 963] (by decide +kernel)
set_option maxRecDepth 20000 in
theorem wsL_law_r16_in : ∀ w ∈ wsL_law_r16, w ∈ lw_tbl := mem_places [10, 964, 965, 967, 11, 968, 419, 420, 421, 422, 423, 424, 425, 426, 427, 428, 429, 430, 431, 432, 433, 969, 970, 971] (by decide +kernel)
set_option maxRecDepth 20000 in
theorem wsL_law_r17_in : ∀ w ∈ wsL_law_r17, w ∈ lw_tbl := mem_places [972, 973, 975, 12, 976, 977, 978, 979, 980, 981, 982, 434, 435, 436, 437, 438, 439, 983, 984, 985, 986, 440, 441, 442] (by decide +kernel)
set_option maxRecDepth 20000 in
theorem wsL_law_r18_in : ∀ w ∈ wsL_law_r18, w ∈ lw_tbl := mem_places [443, 90, 96, 444, 445, 446, 987, 988, 989, 990, 991, 992, 993, 447, 448, 449, 450, 994, 995, 996, 997, 998, 1000, 13] (by decide +kernel)
set_option maxRecDepth 20000 in
theorem wsL_law_r19_in : ∀ w ∈ wsL_law_r19, w ∈ lw_tbl := mem_places [1001, 451, 452, 453, 454, 84, 86, 455, 456, 457, 458, 459, 460, 49, 461, 462, 463, 464, 465, 466, 467, 468, 99, 473] (by decide +kernel)
set_option maxRecDepth 20000 in
theorem wsL_law_r20_in : ∀ w ∈ wsL_law_r20, w ∈ lw_tbl := mem_places [469, 470, 471, 472, 474, 475, 476, 477, 478, 479, 480, 481, 482, 483, 484, 485, 486, 487, 488, 489, 490, 491, 492, 493] (by decide +kernel)
set_option maxRecDepth 20000 in
theorem wsL_law_r21_in : ∀ w ∈ wsL_law_r21, w ∈ lw_tbl := mem_places [494, 495, 496, 497, 498, 499, 89, 95, 500, 501, 502, 503, 504, 505, 506, 507, 508, 509, 510, 511, 512, 1002, 1003, 1004] (by decide +kernel)
set_option maxRecDepth 20000 in
theorem wsL_law_r22_in : ∀ w ∈ wsL_law_r22, w ∈ lw_tbl := mem_places [1005, 1006, 1008, 14, 1009, 1010, 1012, 15, 1013, 1014, 1016, 16, 1017, 1018, 1020, 17, 1021, 1022, 1024, 18, 1025, 1026, 1028, 19] (by decide +kernel)
set_option maxRecDepth 20000 in
theorem wsL_law_r23_in : ∀ w ∈ wsL_law_r23, w ∈ lw_tbl := mem_places [1029, 1030, 1032, 20, 1033, 1034, 1036, 21, 1037, 1038, 1040, 22, 1041, 513, 514, 515, 516, 517, 518, 1042, 1043, 1044, 1045, 519] (by decide +kernel)
set_option maxRecDepth 20000 in
theorem wsL_law_r24_in : ∀ w ∈ wsL_law_r24, w ∈ lw_tbl := mem_places [520, 521, 522, 523, 1046, 1047, 1048, 1049, 524, 525, 526, 527, 528, 1050, 1051, 1052, 1053, 529, 530, 531, 532, 1054, 1055, 1056] (by decide +kernel)
set_option maxRecDepth 20000 in
theorem wsL_law_r25_in : ∀ w ∈ wsL_law_r25, w ∈ lw_tbl := mem_places [1057, 533, 534, 535, 536, 537, 538, 539, 540, 1058, 1059, 1060, 1061, 541, 542, 543, 544, 545, 546, 547, 548, 549, 98, 553] (by decide +kernel)
set_option maxRecDepth 20000 in
theorem wsL_law_r26_in : ∀ w ∈ wsL_law_r26, w ∈ lw_tbl := mem_places [550, 551, 552, 554, 555, 556, 557, 558, 1062, 1063, 1064, 1065, 1066, 559, 560, 561, 562, 563, 564, 565, 566, 567, 568, 569] (by decide +kernel)
set_option maxRecDepth 20000 in
theorem wsL_law_r27_in : ∀ w ∈ wsL_law_r27, w ∈ lw_tbl := mem_places [570, 571, 1067, 1068, 1069, 1070, 572, 573, 574, 575, 576, 577, 578, 579, 584, 585, 586, 580, 581, 582, 583, 1071, 1072, 1073] (by decide +kernel)
set_option maxRecDepth 20000 in
theorem wsL_law_r28_in : ∀ w ∈ wsL_law_r28, w ∈ lw_tbl := mem_places [1074, 587, 588, 589, 590, 591, 592, 593, 594, 177, 94, 595, 596, 597, 598, 87, 178, 179, 599, 600, 601, 602, 603, 1075] (by decide +kernel)
set_option maxRecDepth 20000 in
theorem wsL_law_r29_in : ∀ w ∈ wsL_law_r29, w ∈ lw_tbl := mem_places [1076, 1077, 1078, 809, 810, 1079, 1081, 23, 1082, 604, 605, 606, 607, 608, 609, 610, 611, 1083, 1084, 1085, 1086, 1087, 612, 613] (by decide +kernel)
set_option maxRecDepth 20000 in
theorem wsL_law_r30_in : ∀ w ∈ wsL_law_r30, w ∈ lw_tbl := mem_places [614, 615, 616, 617, 618, 619, 180, 102, 620, 621, 622, 623, 624, 625, 1088, 1089, 1090, 1091, 1092, 1094, 24, 1095, 811, 626] (by decide +kernel)
set_option maxRecDepth 20000 in
theorem wsL_law_r31_in : ∀ w ∈ wsL_law_r31, w ∈ lw_tbl := mem_places [627, 628, 629, 181, 1096, 1097, 1098, 1099, 630, 631, 632, 633, 634, 208, 210, 635, 636, 637, 638, 207, 209, 640, 206, 639] (by decide +kernel)
set_option maxRecDepth 20000 in
theorem wsL_law_r32_in : ∀ w ∈ wsL_law_r32, w ∈ lw_tbl := mem_places [641, 642, 643, 644, 645, 646, 647, 648, 649, 650, 651, 652, 653, 654, 655, 656, 657, 658, 659, 660, 661, 662, 663, 664] (by decide +kernel)
set_option maxRecDepth 20000 in
theorem wsL_law_r33_in : ∀ w ∈ wsL_law_r33, w ∈ lw_tbl := mem_places [665, 666, 1100, 1101, 1102, 1103, 1108, 1104, 1106, 25, 1107, 1109, 1111, 26, 1112, 1113, 1115, 27, 1116, 667, 668, 669, 670, 671] (by decide +kernel)
set_option maxRecDepth 20000 in
theorem wsL_law_r34_in : ∀ w ∈ wsL_law_r34, w ∈ lw_tbl := mem_places [672, 673, 674, 1117, 1118, 1119, 1120, 675, 676, 677, 678, 679, 680, 681, 682, 100, 683, 684, 685, 686, 687, 688, 689, 1121] (by decide +kernel)
set_option maxRecDepth 20000 in
theorem wsL_law_r35_in : ∀ w ∈ wsL_law_r35, w ∈ lw_tbl := mem_places [1122, 1123, 1124, 690, 691, 692, 693, 694, 695, 696, 697, 88, 93, 698, 699, 700, 701, 702, 703, 704, 705, 1125, 1126, 1127] (by decide +kernel)
set_option maxRecDepth 20000 in
theorem wsL_law_r36_in : ∀ w ∈ wsL_law_r36, w ∈ lw_tbl := mem_places [1128, 706, 707, 708, 709, 710, 711, 712, 713, 714, 1129, 1130, 1131, 1132, 715, 716, 717, 718, 719, 720, 721, 722, 92, 723] (by decide +kernel)
set_option maxRecDepth 20000 in
theorem wsL_law_r37_in : ∀ w ∈ wsL_law_r37, w ∈ lw_tbl := mem_places [724, 725, 726, 727, 728, 729, 730, 731, 101, 732, 733, 734, 735, 736, 737, 738, 739, 740, 741, 742, 743, 1133, 1134, 1135] (by decide +kernel)
set_option maxRecDepth 20000 in
theorem wsL_law_r38_in : ∀ w ∈ wsL_law_r38, w ∈ lw_tbl := mem_places [1136, 1137, 1139, 28, 1140, 1141, 1143, 29, 1144, 1145, 1147, 30, 1148, 1149, 1151, 31, 1152, 1153, 1155, 32, 1156, 744, 745, 746] (by decide +kernel)
set_option maxRecDepth 20000 in
theorem wsL_law_r39_in : ∀ w ∈ wsL_law_r39, w ∈ lw_tbl := mem_places [747, 748, 749, 750, 751, 752, 753, 754, 755, 756, 757, 758, 759, 760, 761, 762, 763, 1157, 1158, 1159, 1160, 1161, 1162, 1164] (by decide +kernel)
set_option maxRecDepth 20000 in
theorem wsL_law_r40_in : ∀ w ∈ wsL_law_r40, w ∈ lw_tbl := mem_places [33, 1165, 821, 822, 1169, 1166, 1167, 1168, 1170, 1172, 34, 1173, 1174, 1176, 35, 1177, 764, 765, 766, 767, 768, 769, 770, 771] (by decide +kernel)
set_option maxRecDepth 20000 in
theorem wsL_law_r41_in : ∀ w ∈ wsL_law_r41, w ∈ lw_tbl := mem_places [1178, 1179, 1180, 1181, 772, 773, 774, 775, 776, 777, 778, 1182, 1183, 1184, 1185, 779, 780, 781, 782, 1186, 1187, 1188, 1189] (by decide +kernel)
set_option maxRecDepth 20000 in
theorem inX0 : ∀ w ∈ wsX00, w ∈ lw_tbl := mem_places [231] (by decide +kernel)
set_option maxRecDepth 20000 in
theorem inX1 : ∀ w ∈ wsX10, w ∈ lw_tbl := mem_places [107, 109, 111, 113, 115, 117, 119] (by decide +kernel)
set_option maxRecDepth 20000 in
theorem inX2 : ∀ w ∈ wsX20, w ∈ lw_tbl := mem_places [243, 245, 247] (by decide +kernel)
set_option maxRecDepth 20000 in
theorem inX3 : ∀ w ∈ wsX30, w ∈ lw_tbl := mem_places [133, 135, 137, 139] (by decide +kernel)
set_option maxRecDepth 20000 in
theorem inX4 : ∀ w ∈ wsX40, w ∈ lw_tbl := mem_places [161, 163, 165] (by decide +kernel)
set_option maxRecDepth 20000 in
theorem inX5 : ∀ w ∈ wsX50, w ∈ lw_tbl := mem_places [67, 69] (by decide +kernel)
set_option maxRecDepth 20000 in
theorem inX6 : ∀ w ∈ wsX60, w ∈ lw_tbl := mem_places [211, 213, 215, 217, 219, 221] (by decide +kernel)
set_option maxRecDepth 20000 in
theorem inX7 : ∀ w ∈ wsX70, w ∈ lw_tbl := mem_places [149] (by decide +kernel)
set_option maxRecDepth 20000 in
theorem inX8 : ∀ w ∈ wsX80, w ∈ lw_tbl := mem_places [182, 184, 186, 188, 190, 192] (by decide +kernel)
set_option maxRecDepth 20000 in
theorem inX9 : ∀ w ∈ wsX90, w ∈ lw_tbl := mem_places [261, 263, 265, 267, 269, 271, 273, 275, 277, 279, 281] (by decide +kernel)
set_option maxRecDepth 20000 in
theorem inX10 : ∀ w ∈ wsX100, w ∈ lw_tbl := mem_places [823, 825, 827, 829, 831, 833, 835, 837, 839, 841, 843, 845, 847, 849, 851, 853, 855, 857, 859, 861, 863, 865, 867, 869, 871, 873, 875, 877, 879, 881, 883, 885, 887, 889] (by decide +kernel)
theorem wsL_law_in : ∀ w ∈ wsL_law, w ∈ lw_tbl := List.forall_mem_append.mpr ⟨List.forall_mem_append.mpr ⟨List.forall_mem_append.mpr ⟨List.forall_mem_append.mpr ⟨List.forall_mem_append.mpr ⟨List.forall_mem_append.mpr ⟨List.forall_mem_append.mpr ⟨List.forall_mem_append.mpr ⟨List.forall_mem_append.mpr ⟨List.forall_mem_append.mpr ⟨List.forall_mem_append.mpr ⟨List.forall_mem_append.mpr ⟨List.forall_mem_append.mpr ⟨wsL_law_r1_in, List.forall_mem_append.mpr ⟨wsL_law_r2_in, List.forall_mem_append.mpr ⟨wsL_law_r3_in, List.forall_mem_append.mpr ⟨wsL_law_r4_in, List.forall_mem_append.mpr ⟨wsL_law_r5_in, List.forall_mem_append.mpr ⟨wsL_law_r6_in, List.forall_mem_append.mpr ⟨wsL_law_r7_in, List.forall_mem_append.mpr ⟨wsL_law_r8_in, List.forall_mem_append.mpr ⟨wsL_law_r9_in, List.forall_mem_append.mpr ⟨wsL_law_r10_in, List.forall_mem_append.mpr ⟨wsL_law_r11_in, List.forall_mem_append.mpr ⟨wsL_law_r12_in, List.forall_mem_append.mpr ⟨wsL_law_r13_in, List.forall_mem_append.mpr ⟨wsL_law_r14_in, List.forall_mem_append.mpr ⟨wsL_law_r15_in, List.forall_mem_append.mpr ⟨wsL_law_r16_in, List.forall_mem_append.mpr ⟨wsL_law_r17_in, List.forall_mem_append.mpr ⟨wsL_law_r18_in, List.forall_mem_append.mpr ⟨wsL_law_r19_in, List.forall_mem_append.mpr ⟨wsL_law_r20_in, List.forall_mem_append.mpr ⟨wsL_law_r21_in, List.forall_mem_append.mpr ⟨wsL_law_r22_in, List.forall_mem_append.mpr ⟨wsL_law_r23_in, List.forall_mem_append.mpr ⟨wsL_law_r24_in, List.forall_mem_append.mpr ⟨wsL_law_r25_in, List.forall_mem_append.mpr ⟨wsL_law_r26_in, List.forall_mem_append.mpr ⟨wsL_law_r27_in, List.forall_mem_append.mpr ⟨wsL_law_r28_in, List.forall_mem_append.mpr ⟨wsL_law_r29_in, List.forall_mem_append.mpr ⟨wsL_law_r30_in, List.forall_mem_append.mpr ⟨wsL_law_r31_in, List.forall_mem_append.mpr ⟨wsL_law_r32_in, List.forall_mem_append.mpr ⟨wsL_law_r33_in, List.forall_mem_append.mpr ⟨wsL_law_r34_in, List.forall_mem_append.mpr ⟨wsL_law_r35_in, List.forall_mem_append.mpr ⟨wsL_law_r36_in, List.forall_mem_append.mpr ⟨wsL_law_r37_in, List.forall_mem_append.mpr ⟨wsL_law_r38_in, List.forall_mem_append.mpr ⟨wsL_law_r39_in, List.forall_mem_append.mpr ⟨wsL_law_r40_in, wsL_law_r41_in⟩⟩⟩⟩⟩⟩⟩⟩⟩⟩⟩⟩⟩⟩⟩⟩⟩⟩⟩⟩⟩⟩⟩⟩⟩⟩⟩⟩⟩⟩⟩⟩⟩⟩⟩⟩⟩⟩⟩⟩, inX9⟩, inX10⟩, inX5⟩, inX1⟩, inX3⟩, inX7⟩, inX4⟩, inX8⟩, inX6⟩, inX0⟩, inX2⟩, fun _ h => absurd h List.not_mem_nil⟩
