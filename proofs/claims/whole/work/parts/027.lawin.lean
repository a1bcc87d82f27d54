theorem mem_r {big : List Cond} (ws : List Cond) (ps : List Nat) (hp : ws = ps.filterMap (fun i => big[i]?)) : ∀ w ∈ ws, w ∈ big := by
  intro w hw
  rw [hp] at hw
  obtain ⟨i, -, hi⟩ := List.mem_filterMap.mp hw
  exact List.mem_of_getElem? hi
theorem mem_app {big a b : List Cond} (ha : ∀ w ∈ a, w ∈ big) (hb : ∀ w ∈ b, w ∈ big) : ∀ w ∈ a ++ b, w ∈ big := fun w h => (List.mem_append.mp h).elim (ha w) (hb w)
set_option maxRecDepth 20000 in
theorem wl_in_1 : ∀ w ∈ wsL_law_r1, w ∈ lw_tbl := mem_r _ [62, 63, 46, 908, 909, 58, 64, 65, 66, 67, 68, 69, 70, 71, 47, 422, 129, 130, 48, 423, 173, 174, 49, 424] (by decide +kernel)
set_option maxRecDepth 20000 in
theorem wl_in_2 : ∀ w ∈ wsL_law_r2, w ∈ lw_tbl := mem_r _ [425, 128, 426, 427, 428, 429, 276, 277, 53, 430, 299, 300, 54, 431, 351, 352, 55, 432, 365, 366, 56, 433, 389, 390] (by decide +kernel)
set_option maxRecDepth 20000 in
theorem wl_in_3 : ∀ w ∈ wsL_law_r3, w ∈ lw_tbl := mem_r _ [57, 434, 73, 74, 75, 76, 78, 81, 83, 86, 88, 90, 92, 132, 133, 134, 135, 172, 137, 138, 140, 142, 143, 176] (by decide +kernel)
set_option maxRecDepth 20000 in
theorem wl_in_4 : ∀ w ∈ wsL_law_r4, w ∈ lw_tbl := mem_r _ [177, 178, 226, 228, 230, 233, 179, 180, 50, 236, 198, 199, 51, 237, 239, 182, 183, 184, 185, 187, 201, 202, 203, 204] (by decide +kernel)
set_option maxRecDepth 20000 in
theorem wl_in_5 : ∀ w ∈ wsL_law_r5, w ∈ lw_tbl := mem_r _ [205, 207, 273, 274, 52, 275, 278, 279, 280, 281, 298, 282, 283, 232, 284, 235, 285, 301, 302, 303, 304, 307, 308, 309] (by decide +kernel)
set_option maxRecDepth 20000 in
theorem wl_in_6 : ∀ w ∈ wsL_law_r6, w ∈ lw_tbl := mem_r _ [310, 311, 312, 316, 305, 306, 354, 355, 356, 357, 359, 368, 369, 370, 371, 373, 374, 375, 392, 393, 394, 395, 397, 399] (by decide +kernel)
set_option maxRecDepth 20000 in
theorem wl_in_7 : ∀ w ∈ wsL_law_r7, w ∈ lw_tbl := mem_r _ [400, 401, 402, 403, 910, 911, 912, 913, 916, 918, 920, 921, 922, 923, 924, 925, 926, 927, 928, 929, 930, 932, 933, 934] (by decide +kernel)
set_option maxRecDepth 20000 in
theorem wl_in_8 : ∀ w ∈ wsL_law_r8, w ∈ lw_tbl := mem_r _ [935, 938, 939, 940, 941, 944, 945, 946, 949, 950, 951, 952, 953, 955, 956, 957, 958, 959, 961, 962, 963, 964, 966, 967] (by decide +kernel)
set_option maxRecDepth 20000 in
theorem wl_in_9 : ∀ w ∈ wsL_law_r9, w ∈ lw_tbl := mem_r _ [968, 973, 974, 914, 975, 462, 463, 464, 465, 96, 466, 467, 468, 469, 95, 1104, 1105, 1106, 1107, 915, 1108, 1109, 1110, 470] (by decide +kernel)
set_option maxRecDepth 20000 in
theorem wl_in_10 : ∀ w ∈ wsL_law_r10, w ∈ lw_tbl := mem_r _ [471, 472, 473, 102, 474, 475, 476, 477, 478, 479, 480, 481, 101, 1111, 1112, 1113, 1114, 917, 1115, 1117, 21, 1118, 482, 483] (by decide +kernel)
set_option maxRecDepth 20000 in
theorem wl_in_11 : ∀ w ∈ wsL_law_r11, w ∈ lw_tbl := mem_r _ [484, 485, 104, 486, 487, 488, 489, 103, 1119, 1120, 1121, 1122, 919, 490, 491, 492, 493, 85, 494, 495, 496, 497, 498, 499] (by decide +kernel)
set_option maxRecDepth 20000 in
theorem wl_in_12 : ∀ w ∈ wsL_law_r12, w ∈ lw_tbl := mem_r _ [500, 501, 502, 503, 504, 505, 506, 507, 508, 509, 510, 511, 512, 513, 514, 515, 516, 517, 518, 520, 521, 522, 524, 0] (by decide +kernel)
set_option maxRecDepth 20000 in
theorem wl_in_13 : ∀ w ∈ wsL_law_r13, w ∈ lw_tbl := mem_r _ [525, 1123, 1124, 1125, 1126, 1127, 1129, 22, 1130, 1131, 1133, 23, 1134, 1135, 1137, 24, 1138, 526, 527, 528, 529, 530, 531, 532] (by decide +kernel)
set_option maxRecDepth 20000 in
theorem wl_in_14 : ∀ w ∈ wsL_law_r14, w ∈ lw_tbl := mem_r _ [533, 1139, 1140, 1141, 1142, 534, 535, 536, 537, 150, 596, 538, 540, 1, 541, 227, 542, 543, 544, 545, 148, 546, 548, 2] (by decide +kernel)
set_option maxRecDepth 20000 in
theorem wl_in_15 : ∀ w ∈ wsL_law_r15, w ∈ lw_tbl := mem_r _ [549, 550, 552, 551, 59, 145, 146, 149, 553, 555, 3, 556, 557, 559, 4, 560, 84, 561, 563, 5, 564, 89, 91, 87] (by decide +kernel)
set_option maxRecDepth 20000 in
theorem wl_in_16 : ∀ w ∈ wsL_law_r16, w ∈ lw_tbl := mem_r _ [565, 566, 568, 6, 569, 570, 572, 7, 573, 574, 575, 576, 577, 144, 139, 136, 80, 147, 141, 243, 578, 579, 580, 581] (by decide +kernel)
set_option maxRecDepth 20000 in
theorem wl_in_17 : ∀ w ∈ wsL_law_r17, w ∈ lw_tbl := mem_r _ [189, 582, 583, 584, 585, 586, 587, 588, 589, 591, 592, 593, 60, 594, 595, 1143, 1144, 1145, 1146, 1147, 1149, 25, 1150, 937] (by decide +kernel)
set_option maxRecDepth 20000 in
theorem wl_in_18 : ∀ w ∈ wsL_law_r18, w ∈ lw_tbl := mem_r _ [1159, 931, 942, 936, 1151, 1153, 26, 1154, 1155, 1157, 27, 1158, 597, 598, 599, 600, 601, 602, 603, 604, 605, 606, 607, 608] (by decide +kernel)
set_option maxRecDepth 20000 in
theorem wl_in_19 : ∀ w ∈ wsL_law_r19, w ∈ lw_tbl := mem_r _ [1160, 1161, 1162, 1163, 609, 610, 611, 612, 234, 613, 614, 615, 616, 617, 618, 1164, 1165, 1166, 1167, 1168, 1170, 28, 1171, 619] (by decide +kernel)
set_option maxRecDepth 20000 in
theorem wl_in_20 : ∀ w ∈ wsL_law_r20, w ∈ lw_tbl := mem_r _ [620, 621, 622, 94, 1172, 1173, 1174, 1175, 1176, 1178, 29, 1179, 623, 624, 625, 626, 238, 214, 231, 1180, 1181, 1182, 1183, 1184] (by decide +kernel)
set_option maxRecDepth 20000 in
theorem wl_in_21 : ∀ w ∈ wsL_law_r21, w ∈ lw_tbl := mem_r _ [1185, 1186, 1187, 1189, 30, 1190, 954, 627, 628, 629, 630, 1191, 1192, 1193, 1194, 631, 632, 633, 634, 1195, 1196, 1197, 1198, 635] (by decide +kernel)
set_option maxRecDepth 20000 in
theorem wl_in_22 : ∀ w ∈ wsL_law_r22, w ∈ lw_tbl := mem_r _ [636, 637, 638, 639, 640, 641, 642, 286, 97, 100, 79, 643, 644, 645, 647, 649, 8, 650, 651, 652, 653, 654, 190, 186] (by decide +kernel)
set_option maxRecDepth 20000 in
theorem wl_in_23 : ∀ w ∈ wsL_law_r23, w ∈ lw_tbl := mem_r _ [665, 666, 667, 188, 655, 657, 9, 658, 659, 660, 61, 661, 662, 663, 664, 1199, 1200, 1201, 1202, 1203, 1205, 31, 1206, 668] (by decide +kernel)
set_option maxRecDepth 20000 in
theorem wl_in_24 : ∀ w ∈ wsL_law_r24, w ∈ lw_tbl := mem_r _ [669, 670, 671, 672, 673, 321, 697, 674, 675, 676, 677, 678, 313, 314, 315, 688, 98, 318, 679, 680, 682, 10, 683, 684] (by decide +kernel)
set_option maxRecDepth 20000 in
theorem wl_in_25 : ∀ w ∈ wsL_law_r25, w ∈ lw_tbl := mem_r _ [686, 11, 687, 320, 77, 689, 691, 12, 692, 693, 694, 695, 696, 1207, 1208, 1209, 1210, 1211, 1212, 1217, 947, 948, 1213, 1215] (by decide +kernel)
set_option maxRecDepth 20000 in
theorem wl_in_26 : ∀ w ∈ wsL_law_r26, w ∈ lw_tbl := mem_r _ [32, 1216, 698, 699, 700, 701, 319, 317, 1218, 1219, 1220, 1221, 702, 703, 704, 705, 358, 706, 707, 708, 709, 710, 712, 13] (by decide +kernel)
set_option maxRecDepth 20000 in
theorem wl_in_27 : ∀ w ∈ wsL_law_r27, w ∈ lw_tbl := mem_r _ [713, 99, 93, 714, 716, 718, 14, 719, 1222, 1223, 1224, 1225, 1226, 1228, 33, 1229, 1230, 1232, 34, 1233, 1234, 1236, 35, 1237] (by decide +kernel)
set_option maxRecDepth 20000 in
theorem wl_in_28 : ∀ w ∈ wsL_law_r28, w ∈ lw_tbl := mem_r _ [720, 721, 722, 723, 724, 726, 15, 727, 229, 82, 728, 729, 730, 731, 245, 732, 734, 16, 735, 736, 737, 738, 739, 212] (by decide +kernel)
set_option maxRecDepth 20000 in
theorem wl_in_29 : ∀ w ∈ wsL_law_r29, w ∈ lw_tbl := mem_r _ [209, 740, 741, 742, 743, 744, 1238, 1239, 1240, 1241, 1242, 1244, 36, 1245, 943, 745, 746, 747, 748, 749, 750, 751, 752, 753] (by decide +kernel)
set_option maxRecDepth 20000 in
theorem wl_in_30 : ∀ w ∈ wsL_law_r30, w ∈ lw_tbl := mem_r _ [754, 755, 756, 757, 759, 17, 760, 761, 762, 763, 764, 1246, 1247, 1248, 1249, 765, 766, 767, 768, 769, 770, 771, 772, 1250] (by decide +kernel)
set_option maxRecDepth 20000 in
theorem wl_in_31 : ∀ w ∈ wsL_law_r31, w ∈ lw_tbl := mem_r _ [1251, 1252, 1253, 1254, 773, 774, 775, 776, 777, 778, 779, 780, 781, 1255, 1256, 1257, 1258, 782, 783, 784, 785, 377, 786, 787] (by decide +kernel)
set_option maxRecDepth 20000 in
theorem wl_in_32 : ∀ w ∈ wsL_law_r32, w ∈ lw_tbl := mem_r _ [788, 789, 376, 1259, 1260, 1261, 1262, 960, 790, 791, 792, 793, 372, 794, 795, 796, 797, 798, 799, 800, 801, 1263, 1264, 1265] (by decide +kernel)
set_option maxRecDepth 20000 in
theorem wl_in_33 : ∀ w ∈ wsL_law_r33, w ∈ lw_tbl := mem_r _ [1266, 1267, 1269, 37, 1270, 802, 803, 804, 805, 806, 807, 808, 809, 810, 811, 812, 813, 404, 1271, 1272, 1273, 1274, 1275, 1277] (by decide +kernel)
set_option maxRecDepth 20000 in
theorem wl_in_34 : ∀ w ∈ wsL_law_r34, w ∈ lw_tbl := mem_r _ [38, 1278, 814, 815, 816, 817, 396, 398, 818, 819, 820, 821, 211, 822, 208, 206, 823, 824, 826, 18, 827, 828, 830, 19] (by decide +kernel)
set_option maxRecDepth 20000 in
theorem wl_in_35 : ∀ w ∈ wsL_law_r35, w ∈ lw_tbl := mem_r _ [831, 832, 833, 834, 835, 836, 1279, 1280, 1281, 1282, 970, 1283, 1285, 39, 1286, 969, 965, 1287, 1289, 40, 1290, 1291, 1293, 41] (by decide +kernel)
set_option maxRecDepth 20000 in
theorem wl_in_36 : ∀ w ∈ wsL_law_r36, w ∈ lw_tbl := mem_r _ [1294, 1295, 1297, 42, 1298, 837, 838, 839, 840, 841, 842, 843, 844, 845, 847, 20, 848, 1299, 1300, 1301, 1302, 849, 850, 851] (by decide +kernel)
set_option maxRecDepth 20000 in
theorem wl_in_37 : ∀ w ∈ wsL_law_r37, w ∈ lw_tbl := mem_r _ [852, 1303, 1304, 1305, 1306, 853, 854, 855, 856, 248, 857, 858, 859, 860, 241, 247, 1307, 1308, 1309, 1310, 971, 972, 861, 862] (by decide +kernel)
set_option maxRecDepth 20000 in
theorem wl_in_38 : ∀ w ∈ wsL_law_r38, w ∈ lw_tbl := mem_r _ [863, 864, 242, 240, 1311, 1312, 1313, 1314, 865, 866, 867, 868, 869, 870, 871, 872, 1315, 1316, 1317, 1318, 873, 874, 875, 876] (by decide +kernel)
set_option maxRecDepth 20000 in
theorem wl_in_39 : ∀ w ∈ wsL_law_r39, w ∈ lw_tbl := mem_r _ [877, 878, 879, 880, 881, 213, 1319, 1320, 1321, 1322, 1323, 882, 883, 884, 885, 886, 887, 888, 889, 890, 891, 892, 893, 894] (by decide +kernel)
set_option maxRecDepth 20000 in
theorem wl_in_40 : ∀ w ∈ wsL_law_r40, w ∈ lw_tbl := mem_r _ [895, 896, 897, 898, 899, 1324, 1325, 1326, 1327, 976, 1328, 1330, 43, 1331, 900, 901, 902, 903, 1332, 1333, 1334, 1335, 1336, 1338] (by decide +kernel)
set_option maxRecDepth 20000 in
theorem wl_in_41 : ∀ w ∈ wsL_law_r41, w ∈ lw_tbl := mem_r _ [44, 1339, 904, 905, 906, 907, 244, 246, 210, 1340, 1341, 1342, 1343] (by decide +kernel)
set_option maxRecDepth 20000 in
theorem wl_in_42 : ∀ w ∈ wsX100, w ∈ lw_tbl := mem_r _ [435, 437, 439, 441, 443, 445, 447, 449, 451, 453, 455, 457, 459] (by decide +kernel)
set_option maxRecDepth 20000 in
theorem wl_in_43 : ∀ w ∈ wsX110, w ∈ lw_tbl := mem_r _ [977, 979, 981, 983, 985, 987, 989, 991, 993, 995, 997, 999, 1001, 1003, 1005, 1007, 1009, 1011, 1013, 1015, 1017, 1019, 1021, 1023, 1025, 1027, 1029, 1031, 1033, 1035, 1037, 1039, 1041, 1043, 1045, 1047, 1049, 1051, 1053, 1055, 1057, 1059, 1061, 1063, 1065, 1067, 1069, 1071, 1073, 1075, 1077, 1079, 1081, 1083, 1085, 1087, 1089, 1091, 1093, 1095, 1097, 1099, 1101] (by decide +kernel)
set_option maxRecDepth 20000 in
theorem wl_in_44 : ∀ w ∈ wsX90, w ∈ lw_tbl := mem_r _ [105, 107, 109, 111, 113, 115, 117, 119, 121, 123, 125] (by decide +kernel)
set_option maxRecDepth 20000 in
theorem wl_in_45 : ∀ w ∈ wsX00, w ∈ lw_tbl := mem_r _ [151, 153, 155, 157, 159, 161, 163, 165, 167, 169] (by decide +kernel)
set_option maxRecDepth 20000 in
theorem wl_in_46 : ∀ w ∈ wsX40, w ∈ lw_tbl := mem_r _ [249, 251, 253, 255, 257, 259, 261, 263, 265, 267, 269] (by decide +kernel)
set_option maxRecDepth 20000 in
theorem wl_in_47 : ∀ w ∈ wsX70, w ∈ lw_tbl := mem_r _ [287, 289, 291, 293, 295] (by decide +kernel)
set_option maxRecDepth 20000 in
theorem wl_in_48 : ∀ w ∈ wsX20, w ∈ lw_tbl := mem_r _ [322, 324, 326, 328, 330, 332, 334, 336, 338, 340, 342, 344, 346, 348] (by decide +kernel)
set_option maxRecDepth 20000 in
theorem wl_in_49 : ∀ w ∈ wsX80, w ∈ lw_tbl := mem_r _ [360, 362] (by decide +kernel)
set_option maxRecDepth 20000 in
theorem wl_in_50 : ∀ w ∈ wsX50, w ∈ lw_tbl := mem_r _ [378, 380, 382, 384, 386] (by decide +kernel)
set_option maxRecDepth 20000 in
theorem wl_in_51 : ∀ w ∈ wsX10, w ∈ lw_tbl := mem_r _ [405, 407, 409, 411, 413, 415, 417, 419] (by decide +kernel)
set_option maxRecDepth 20000 in
theorem wl_in_52 : ∀ w ∈ wsX30, w ∈ lw_tbl := mem_r _ [191, 193, 195] (by decide +kernel)
set_option maxRecDepth 20000 in
theorem wl_in_53 : ∀ w ∈ wsX60, w ∈ lw_tbl := mem_r _ [215, 217, 219, 221, 223] (by decide +kernel)
theorem wsL_law_in : ∀ w ∈ wsL_law, w ∈ lw_tbl := by
  unfold wsL_law
  exact (mem_app (mem_app (mem_app (mem_app (mem_app (mem_app (mem_app (mem_app (mem_app (mem_app (mem_app (mem_app (mem_app (mem_app wl_in_1 (mem_app wl_in_2 (mem_app wl_in_3 (mem_app wl_in_4 (mem_app wl_in_5 (mem_app wl_in_6 (mem_app wl_in_7 (mem_app wl_in_8 (mem_app wl_in_9 (mem_app wl_in_10 (mem_app wl_in_11 (mem_app wl_in_12 (mem_app wl_in_13 (mem_app wl_in_14 (mem_app wl_in_15 (mem_app wl_in_16 (mem_app wl_in_17 (mem_app wl_in_18 (mem_app wl_in_19 (mem_app wl_in_20 (mem_app wl_in_21 (mem_app wl_in_22 (mem_app wl_in_23 (mem_app wl_in_24 (mem_app wl_in_25 (mem_app wl_in_26 (mem_app wl_in_27 (mem_app wl_in_28 (mem_app wl_in_29 (mem_app wl_in_30 (mem_app wl_in_31 (mem_app wl_in_32 (mem_app wl_in_33 (mem_app wl_in_34 (mem_app wl_in_35 (mem_app wl_in_36 (mem_app wl_in_37 (mem_app wl_in_38 (mem_app wl_in_39 (mem_app wl_in_40 wl_in_41)))))))))))))))))))))))))))))))))))))))) wl_in_42) wl_in_43) wl_in_44) wl_in_45) wl_in_46) wl_in_47) wl_in_48) wl_in_49) wl_in_50) wl_in_51) wl_in_52) wl_in_53) (fun _ h => absurd h List.not_mem_nil))
