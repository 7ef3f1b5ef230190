/-! The words of the law's body are the tables' words. -/
set_option maxRecDepth 20000 in
theorem wsL_in_r1 : ∀ w ∈ wsL_law0_r1, w ∈ lw_tbl := fun w h => (goodIn_r wsL_law0_r1 [84, 85, 68, 923, 924, 77, 1275, 86, 87, 88, 89, 90, 91, 92, 93, 69, 285, 286, 226, 227, 74, 287, 245, 246] (by decide +kernel) (by decide +kernel) w h).1
set_option maxRecDepth 20000 in
theorem wsL_in_r2 : ∀ w ∈ wsL_law0_r2, w ∈ lw_tbl := fun w h => (goodIn_r wsL_law0_r2 [75, 288, 260, 261, 76, 289, 94, 95, 96, 97, 98, 99, 70, 200, 160, 105, 71, 202, 203, 204, 205, 206, 207, 208] (by decide +kernel) (by decide +kernel) w h).1
set_option maxRecDepth 20000 in
theorem wsL_in_r3 : ∀ w ∈ wsL_law0_r3, w ∈ lw_tbl := fun w h => (goodIn_r wsL_law0_r3 [100, 101, 102, 103, 104, 126, 128, 130, 133, 135, 137, 139, 141, 106, 107, 108, 109, 110, 111, 72, 112, 117, 113, 118] (by decide +kernel) (by decide +kernel) w h).1
set_option maxRecDepth 20000 in
theorem wsL_in_r4 : ∀ w ∈ wsL_law0_r4, w ∈ lw_tbl := fun w h => (goodIn_r wsL_law0_r4 [119, 120, 121, 122, 123, 124, 125, 161, 162, 163, 164, 165, 131, 166, 168, 0, 169, 170, 127, 171, 172, 173, 174, 175] (by decide +kernel) (by decide +kernel) w h).1
set_option maxRecDepth 20000 in
theorem wsL_in_r5 : ∀ w ∈ wsL_law0_r5, w ∈ lw_tbl := fun w h => (goodIn_r wsL_law0_r5 [176, 73, 177, 178, 179, 180, 181, 182, 183, 184, 185, 187, 1, 188, 129, 189, 190, 191, 192, 193, 194, 195, 196, 197] (by decide +kernel) (by decide +kernel) w h).1
set_option maxRecDepth 20000 in
theorem wsL_in_r6 : ∀ w ∈ wsL_law0_r6, w ∈ lw_tbl := fun w h => (goodIn_r wsL_law0_r6 [198, 199, 228, 229, 230, 231, 232, 235, 236, 237, 234, 248, 249, 250, 251, 253, 254, 252, 263, 264, 265, 266, 267, 268] (by decide +kernel) (by decide +kernel) w h).1
set_option maxRecDepth 20000 in
theorem wsL_in_r7 : ∀ w ∈ wsL_law0_r7, w ∈ lw_tbl := fun w h => (goodIn_r wsL_law0_r7 [269, 270, 271, 925, 926, 927, 928, 930, 931, 932, 934, 679, 680, 67, 681, 682, 683, 684, 685, 686, 687, 702, 82, 201] (by decide +kernel) (by decide +kernel) w h).1
set_option maxRecDepth 20000 in
theorem wsL_in_r8 : ∀ w ∈ wsL_law0_r8, w ∈ lw_tbl := fun w h => (goodIn_r wsL_law0_r8 [688, 689, 690, 578, 81, 692, 693, 694, 697, 698, 699, 701, 463, 464, 465, 466, 467, 468, 469, 470, 471, 472, 473, 474] (by decide +kernel) (by decide +kernel) w h).1
set_option maxRecDepth 20000 in
theorem wsL_in_r9 : ∀ w ∈ wsL_law0_r9, w ∈ lw_tbl := fun w h => (goodIn_r wsL_law0_r9 [475, 476, 477, 478, 479, 480, 481, 482, 483, 484, 305, 306, 307, 308, 321, 322, 323, 309, 311, 2, 312, 313, 314, 315] (by decide +kernel) (by decide +kernel) w h).1
set_option maxRecDepth 20000 in
theorem wsL_in_r10 : ∀ w ∈ wsL_law0_r10, w ∈ lw_tbl := fun w h => (goodIn_r wsL_law0_r10 [316, 317, 318, 319, 320, 510, 511, 512, 513, 138, 140, 340, 514, 516, 17, 517, 366, 367, 368, 494, 495, 496, 497, 498] (by decide +kernel) (by decide +kernel) w h).1
set_option maxRecDepth 20000 in
theorem wsL_in_r11 : ∀ w ∈ wsL_law0_r11, w ∈ lw_tbl := fun w h => (goodIn_r wsL_law0_r11 [518, 519, 520, 521, 522, 523, 524, 525, 526, 527, 528, 529, 970, 971, 972, 973, 929, 974, 976, 25, 977, 978, 979, 980] (by decide +kernel) (by decide +kernel) w h).1
set_option maxRecDepth 20000 in
theorem wsL_in_r12 : ∀ w ∈ wsL_law0_r12, w ∈ lw_tbl := fun w h => (goodIn_r wsL_law0_r12 [981, 982, 983, 984, 985, 986, 987, 989, 26, 990, 991, 993, 27, 994, 995, 997, 28, 998, 999, 1001, 29, 1002, 933, 1003] (by decide +kernel) (by decide +kernel) w h).1
set_option maxRecDepth 20000 in
theorem wsL_in_r13 : ∀ w ∈ wsL_law0_r13, w ∈ lw_tbl := fun w h => (goodIn_r wsL_law0_r13 [1004, 1005, 1006, 1008, 30, 1009, 1010, 1012, 31, 1013, 1014, 1015, 1016, 1017, 1018, 1019, 1020, 1021, 1022, 1023, 1025, 32, 1026, 1027] (by decide +kernel) (by decide +kernel) w h).1
set_option maxRecDepth 20000 in
theorem wsL_in_r14 : ∀ w ∈ wsL_law0_r14, w ∈ lw_tbl := fun w h => (goodIn_r wsL_law0_r14 [1029, 33, 1030, 1031, 1032, 1033, 1034, 1036, 34, 1037, 1038, 1040, 35, 1041, 1042, 1044, 36, 1045, 966, 967, 968, 969, 718, 719] (by decide +kernel) (by decide +kernel) w h).1
set_option maxRecDepth 20000 in
theorem wsL_in_r15 : ∀ w ∈ wsL_law0_r15, w ∈ lw_tbl := fun w h => (goodIn_r wsL_law0_r15 [720, 721, 722, 723, 724, 725, 727, 22, 728, 485, 530, 531, 532, 533, 142, 534, 536, 18, 537, 538, 539, 540, 541, 542] (by decide +kernel) (by decide +kernel) w h).1
set_option maxRecDepth 20000 in
theorem wsL_in_r16 : ∀ w ∈ wsL_law0_r16, w ∈ lw_tbl := fun w h => (goodIn_r wsL_law0_r16 [543, 544, 545, 1046, 1047, 1048, 1049, 1050, 1052, 37, 1053, 1054, 1056, 38, 1057, 1058, 1060, 39, 1061, 1062, 1064, 40, 1065, 1066] (by decide +kernel) (by decide +kernel) w h).1
set_option maxRecDepth 20000 in
theorem wsL_in_r17 : ∀ w ∈ wsL_law0_r17, w ∈ lw_tbl := fun w h => (goodIn_r wsL_law0_r17 [1068, 41, 1069, 730, 731, 732, 733, 734, 735, 736, 737, 738, 739, 740, 1070, 1071, 1072, 1073, 741, 742, 743, 744, 745, 746] (by decide +kernel) (by decide +kernel) w h).1
set_option maxRecDepth 20000 in
theorem wsL_in_r18 : ∀ w ∈ wsL_law0_r18, w ∈ lw_tbl := fun w h => (goodIn_r wsL_law0_r18 [747, 748, 749, 750, 503, 504, 505, 554, 555, 556, 557, 134, 1074, 1075, 1076, 1077, 1078, 1079, 1080, 752, 753, 754, 755, 756] (by decide +kernel) (by decide +kernel) w h).1
set_option maxRecDepth 20000 in
theorem wsL_in_r19 : ∀ w ∈ wsL_law0_r19, w ∈ lw_tbl := fun w h => (goodIn_r wsL_law0_r19 [757, 758, 486, 487, 488, 489, 328, 329, 330, 331, 332, 334, 3, 335, 336, 338, 4, 339, 546, 547, 548, 549, 136, 1081] (by decide +kernel) (by decide +kernel) w h).1
set_option maxRecDepth 20000 in
theorem wsL_in_r20 : ∀ w ∈ wsL_law0_r20, w ∈ lw_tbl := fun w h => (goodIn_r wsL_law0_r20 [1082, 1083, 1084, 1085, 1087, 42, 1088, 1089, 1091, 43, 1092, 1093, 1095, 44, 1096, 1097, 1099, 45, 1100, 760, 761, 762, 763, 764] (by decide +kernel) (by decide +kernel) w h).1
set_option maxRecDepth 20000 in
theorem wsL_in_r21 : ∀ w ∈ wsL_law0_r21, w ∈ lw_tbl := fun w h => (goodIn_r wsL_law0_r21 [765, 766, 490, 491, 492, 493, 550, 551, 552, 553, 357, 359, 6, 360, 1101, 1102, 1103, 1104, 1105, 1107, 46, 1108, 1109, 1111] (by decide +kernel) (by decide +kernel) w h).1
set_option maxRecDepth 20000 in
theorem wsL_in_r22 : ∀ w ∈ wsL_law0_r22, w ∈ lw_tbl := fun w h => (goodIn_r wsL_law0_r22 [47, 1112, 301, 302, 303, 304, 324, 325, 326, 327, 341, 342, 343, 344, 1113, 1114, 1115, 1116, 1117, 1119, 48, 1120, 345, 346] (by decide +kernel) (by decide +kernel) w h).1
set_option maxRecDepth 20000 in
theorem wsL_in_r23 : ∀ w ∈ wsL_law0_r23, w ∈ lw_tbl := fun w h => (goodIn_r wsL_law0_r23 [347, 348, 349, 350, 351, 352, 353, 355, 5, 356, 361, 363, 7, 364, 365, 1121, 1122, 1123, 1124, 1125, 1127, 49, 1128, 768] (by decide +kernel) (by decide +kernel) w h).1
set_option maxRecDepth 20000 in
theorem wsL_in_r24 : ∀ w ∈ wsL_law0_r24, w ∈ lw_tbl := fun w h => (goodIn_r wsL_law0_r24 [769, 770, 771, 772, 773, 774, 775, 1129, 1130, 1131, 1132, 776, 777, 778, 779, 780, 781, 782, 783, 784, 786, 23, 787, 788] (by decide +kernel) (by decide +kernel) w h).1
set_option maxRecDepth 20000 in
theorem wsL_in_r25 : ∀ w ∈ wsL_law0_r25, w ∈ lw_tbl := fun w h => (goodIn_r wsL_law0_r25 [83, 662, 575, 576, 577, 663, 664, 665, 666, 667, 668, 669, 1133, 1134, 1135, 1136, 1137, 1139, 50, 1140, 1141, 1143, 51, 1144] (by decide +kernel) (by decide +kernel) w h).1
set_option maxRecDepth 20000 in
theorem wsL_in_r26 : ∀ w ∈ wsL_law0_r26, w ∈ lw_tbl := fun w h => (goodIn_r wsL_law0_r26 [1145, 1147, 52, 1148, 804, 805, 806, 807, 808, 809, 810, 1149, 1150, 1151, 1152, 811, 812, 813, 814, 815, 816, 817, 818, 819] (by decide +kernel) (by decide +kernel) w h).1
set_option maxRecDepth 20000 in
theorem wsL_in_r27 : ∀ w ∈ wsL_law0_r27, w ∈ lw_tbl := fun w h => (goodIn_r wsL_law0_r27 [820, 821, 1153, 1154, 1155, 1156, 822, 823, 824, 825, 826, 827, 828, 829, 831, 24, 832, 132, 670, 671, 672, 673, 674, 675] (by decide +kernel) (by decide +kernel) w h).1
set_option maxRecDepth 20000 in
theorem wsL_in_r28 : ∀ w ∈ wsL_law0_r28, w ∈ lw_tbl := fun w h => (goodIn_r wsL_law0_r28 [676, 677, 1157, 1158, 1159, 1160, 1161, 1163, 53, 1164, 1165, 1167, 54, 1168, 1169, 1171, 55, 1172, 834, 835, 836, 837, 838, 839] (by decide +kernel) (by decide +kernel) w h).1
set_option maxRecDepth 20000 in
theorem wsL_in_r29 : ∀ w ∈ wsL_law0_r29, w ∈ lw_tbl := fun w h => (goodIn_r wsL_law0_r29 [840, 841, 1173, 1174, 1175, 1176, 842, 843, 844, 845, 846, 847, 848, 849, 850, 851, 852, 1177, 1178, 1179, 1180, 1181, 1183, 56] (by decide +kernel) (by decide +kernel) w h).1
set_option maxRecDepth 20000 in
theorem wsL_in_r30 : ∀ w ∈ wsL_law0_r30, w ∈ lw_tbl := fun w h => (goodIn_r wsL_law0_r30 [1184, 369, 370, 371, 372, 373, 374, 375, 376, 1185, 1186, 1187, 1188, 1189, 1191, 57, 1192, 853, 854, 855, 856, 572, 573, 574] (by decide +kernel) (by decide +kernel) w h).1
set_option maxRecDepth 20000 in
theorem wsL_in_r31 : ∀ w ∈ wsL_law0_r31, w ∈ lw_tbl := fun w h => (goodIn_r wsL_law0_r31 [409, 410, 411, 412, 646, 647, 648, 649, 650, 651, 652, 653, 654, 656, 20, 657, 658, 660, 21, 661, 1193, 1194, 1195, 1196] (by decide +kernel) (by decide +kernel) w h).1
set_option maxRecDepth 20000 in
theorem wsL_in_r32 : ∀ w ∈ wsL_law0_r32, w ∈ lw_tbl := fun w h => (goodIn_r wsL_law0_r32 [1197, 1199, 58, 1200, 935, 1201, 1203, 59, 1204, 857, 858, 859, 860, 861, 862, 863, 864, 1205, 1206, 1207, 1208, 865, 866, 867] (by decide +kernel) (by decide +kernel) w h).1
set_option maxRecDepth 20000 in
theorem wsL_in_r33 : ∀ w ∈ wsL_law0_r33, w ∈ lw_tbl := fun w h => (goodIn_r wsL_law0_r33 [868, 869, 870, 871, 678, 386, 387, 388, 1209, 1210, 1211, 1212, 1213, 1215, 60, 1216, 377, 378, 379, 380, 381, 382, 383, 384] (by decide +kernel) (by decide +kernel) w h).1
set_option maxRecDepth 20000 in
theorem wsL_in_r34 : ∀ w ∈ wsL_law0_r34, w ∈ lw_tbl := fun w h => (goodIn_r wsL_law0_r34 [385, 1217, 1218, 1219, 1220, 1221, 1223, 61, 1224, 872, 873, 874, 875, 876, 877, 878, 879, 880, 881, 882, 883, 884, 1225, 1226] (by decide +kernel) (by decide +kernel) w h).1
set_option maxRecDepth 20000 in
theorem wsL_in_r35 : ∀ w ∈ wsL_law0_r35, w ∈ lw_tbl := fun w h => (goodIn_r wsL_law0_r35 [1227, 1228, 885, 886, 887, 888, 889, 890, 891, 892, 893, 894, 895, 1229, 1230, 1231, 1232, 896, 897, 898, 899, 900, 901, 902] (by decide +kernel) (by decide +kernel) w h).1
set_option maxRecDepth 20000 in
theorem wsL_in_r36 : ∀ w ∈ wsL_law0_r36, w ∈ lw_tbl := fun w h => (goodIn_r wsL_law0_r36 [905, 906, 907, 908, 909, 1233, 1234, 1235, 1236, 389, 390, 391, 392, 393, 394, 395, 396, 1237, 1238, 1239, 1240, 397, 398, 399] (by decide +kernel) (by decide +kernel) w h).1
set_option maxRecDepth 20000 in
theorem wsL_in_r37 : ∀ w ∈ wsL_law0_r37, w ∈ lw_tbl := fun w h => (goodIn_r wsL_law0_r37 [400, 401, 403, 8, 404, 405, 406, 407, 408, 413, 414, 415, 416, 417, 418, 419, 420, 421, 422, 424, 9, 425, 426, 428] (by decide +kernel) (by decide +kernel) w h).1
set_option maxRecDepth 20000 in
theorem wsL_in_r38 : ∀ w ∈ wsL_law0_r38, w ∈ lw_tbl := fun w h => (goodIn_r wsL_law0_r38 [10, 429, 430, 432, 11, 433, 434, 436, 12, 437, 438, 440, 13, 441, 442, 444, 14, 445, 446, 447, 448, 449, 450, 452] (by decide +kernel) (by decide +kernel) w h).1
set_option maxRecDepth 20000 in
theorem wsL_in_r39 : ∀ w ∈ wsL_law0_r39, w ∈ lw_tbl := fun w h => (goodIn_r wsL_law0_r39 [15, 453, 454, 455, 456, 457, 458, 459, 460, 461, 462, 499, 500, 501, 502, 506, 508, 16, 509, 1241, 1242, 1243, 1244, 936] (by decide +kernel) (by decide +kernel) w h).1
set_option maxRecDepth 20000 in
theorem wsL_in_r40 : ∀ w ∈ wsL_law0_r40, w ∈ lw_tbl := fun w h => (goodIn_r wsL_law0_r40 [1245, 1247, 62, 1248, 937, 1249, 1251, 63, 1252, 1253, 1255, 64, 1256, 940, 1257, 1259, 65, 1260, 938, 939, 1261, 1263, 66, 1264] (by decide +kernel) (by decide +kernel) w h).1
set_option maxRecDepth 20000 in
theorem wsL_in_r41 : ∀ w ∈ wsL_law0_r41, w ∈ lw_tbl := fun w h => (goodIn_r wsL_law0_r41 [910, 911, 912, 913, 914, 915, 916, 563, 564, 565, 566, 918, 919, 920, 921, 922, 1265, 1266, 1267, 1268, 558, 559, 560, 561] (by decide +kernel) (by decide +kernel) w h).1
set_option maxRecDepth 20000 in
theorem wsL_in_r42 : ∀ w ∈ wsL_law0_r42, w ∈ lw_tbl := fun w h => (goodIn_r wsL_law0_r42 [562, 567, 568, 569, 570, 571, 1269, 1270, 1271, 1272, 1273, 1274] (by decide +kernel) (by decide +kernel) w h).1
