set_option maxRecDepth 20000 in
theorem ggL_law_X10_init : GoodIn wsL_law wsX10_init := goodIn_r _ [8, 9, 10, 11, 12, 13, 14, 15, 16, 17, 18, 19, 20, 21, 22, 23, 24, 25, 26, 27, 28, 29, 30, 31, 32, 33, 34, 35, 36, 37, 38, 39, 40, 41, 42, 43, 44, 45, 46, 47, 48, 49, 50, 51, 52, 53, 54, 55, 56, 57, 58, 59, 60, 61, 62, 63, 64, 65, 66, 67, 68, 69, 70, 71, 72, 73, 74, 75, 76, 77, 78, 79, 80, 81, 82, 83, 84, 85, 86, 87, 88, 89, 90, 91, 92, 93, 94, 95, 96, 97, 98, 99, 100, 101, 102, 103, 104, 105, 106, 107, 108, 109, 110, 111, 112, 113, 114, 115, 116, 117, 118, 119, 120, 121, 122, 123, 124, 125, 126, 127, 128, 129, 130, 131, 132, 133, 134, 135, 136, 137, 138, 139, 140, 141, 142, 143, 144, 145, 146, 147, 1049, 1050, 1051, 1052, 1053, 1054, 1055, 1056, 1057, 1058, 1059, 973, 974, 975, 976, 977, 978, 979, 980, 981, 982, 983, 984, 985, 1060, 1061, 1062, 1063, 1064, 1065, 1066, 1067, 1068, 1069, 1070, 1071, 1072, 1073, 1074, 1075, 1076, 1077, 1078, 1079, 1080, 1081, 1082, 1083, 1084, 1085, 1086, 1087, 1088, 1089, 1090, 1091, 1092, 1093, 1094, 1095, 1096, 1097, 1098, 1099, 1100, 1101, 1102, 1103, 1104, 1105, 1106, 1107, 1108, 1109, 1110, 1111, 1112, 1113, 1114, 1115, 1116, 1117, 1118, 1119, 1120, 1121, 1122] (by decide +kernel) (by decide +kernel)
set_option maxRecDepth 20000 in
theorem gL_law_X10_init : GoodIn wsL_law (wsX10_init) := ggL_law_X10_init
set_option maxRecDepth 20000 in
theorem ggL_law_X11_init : GoodIn wsL_law wsX11_init := goodIn_r _ [150, 151, 10, 11, 25, 152, 153, 154, 155, 156, 157, 158, 159, 160, 161, 162, 163, 164, 165, 65, 166, 167, 168, 169, 170, 171, 172, 173, 174, 175, 176, 177, 178, 179, 180, 181, 182, 183, 184, 185, 186, 187, 188, 189, 190, 191, 192, 193, 194, 195, 196, 986, 987, 988, 989, 990, 991, 992, 993, 994, 995, 996, 997, 998, 999, 1000, 1001, 1002, 1003, 1004, 1005, 1006, 1007, 1008, 1009, 1010, 1011, 1012, 1013, 1014, 1015, 1016, 1017, 1018, 1019, 1020, 1021, 1022, 1023, 1024, 1025, 1026, 1027, 1028, 1029, 1030, 1031, 1032, 1033, 1034, 1035, 1036, 1037, 1038, 1039, 1040, 1041, 1042, 1043, 1044, 1045, 1046, 1047, 1048] (by decide +kernel) (by decide +kernel)
set_option maxRecDepth 20000 in
theorem gL_law_X11_init : GoodIn wsL_law (wsX11_init) := ggL_law_X11_init
set_option maxRecDepth 20000 in
theorem ggL_law_X10_module : GoodIn wsL_law wsX10_module := goodIn_r _ [200, 15, 201, 202, 203, 204, 14, 205, 53, 206, 973, 974, 975, 976, 977, 978, 979, 980, 981, 982, 983, 984, 985, 1049, 1050, 1051, 1052, 1053, 1054, 1055, 1056, 1057, 1058, 1059] (by decide +kernel) (by decide +kernel)
set_option maxRecDepth 20000 in
theorem gL_law_X10_module : GoodIn wsL_law (wsV RL 13 RX10 yX10_module wsX10_module) := goodIn_app (goodIn_of _ (by decide +kernel)) ggL_law_X10_module
set_option maxRecDepth 20000 in
theorem ggL_law_X11_module : GoodIn wsL_law wsX11_module := goodIn_r _ [210, 211, 152, 212, 213, 5, 214, 986, 987, 988, 989, 990, 991, 992, 993, 994, 995, 996, 997, 998, 999, 1000, 1001, 1002, 1003, 1004, 1005, 1006, 1007, 1008, 1009, 1010, 1011, 1012, 1013, 1014, 1015, 1016, 1017, 1018, 1019, 1020, 1021, 1022, 1023, 1024, 1025, 1026, 1027, 1028, 1029, 1030, 1031, 1032, 1033, 1034, 1035, 1036, 1037, 1038, 1039, 1040, 1041, 1042, 1043, 1044, 1045, 1046, 1047, 1048] (by decide +kernel) (by decide +kernel)
set_option maxRecDepth 20000 in
theorem gL_law_X11_module : GoodIn wsL_law (wsV RL 17 RX11 yX11_module wsX11_module) := goodIn_app (goodIn_of _ (by decide +kernel)) ggL_law_X11_module
set_option maxRecDepth 20000 in
theorem ggL_law_X10_table : GoodIn wsL_law wsX10_table := goodIn_r _ [218, 15, 219, 220, 221, 222, 14, 223, 206, 224, 225, 226, 227, 54, 228, 973, 974, 975, 976, 977, 978, 979, 980, 981, 982, 983, 984, 985, 1049, 1050, 1051, 1052, 1053, 1054, 1055, 1056, 1057, 1058, 1059] (by decide +kernel) (by decide +kernel)
set_option maxRecDepth 20000 in
theorem gL_law_X10_table : GoodIn wsL_law (wsV RL 18 RX10 yX10_table wsX10_table) := goodIn_app (goodIn_of _ (by decide +kernel)) ggL_law_X10_table
set_option maxRecDepth 20000 in
theorem ggL_law_X11_table : GoodIn wsL_law wsX11_table := goodIn_r _ [232, 233, 153, 234, 235, 236, 5, 237, 211, 212, 213, 214, 986, 987, 988, 989, 990, 991, 992, 993, 994, 995, 996, 997, 998, 999, 1000, 1001, 1002, 1003, 1004, 1005, 1006, 1007, 1008, 1009, 1010, 1011, 1012, 1013, 1014, 1015, 1016, 1017, 1018, 1019, 1020, 1021, 1022, 1023, 1024, 1025, 1026, 1027, 1028, 1029, 1030, 1031, 1032, 1033, 1034, 1035, 1036, 1037, 1038, 1039, 1040, 1041, 1042, 1043, 1044, 1045, 1046, 1047, 1048] (by decide +kernel) (by decide +kernel)
set_option maxRecDepth 20000 in
theorem gL_law_X11_table : GoodIn wsL_law (wsV RL 21 RX11 yX11_table wsX11_table) := goodIn_app (goodIn_of _ (by decide +kernel)) ggL_law_X11_table
set_option maxRecDepth 20000 in
theorem ggL_law_X10_routine : GoodIn wsL_law wsX10_routine := goodIn_r _ [241, 15, 242, 220, 221, 222, 14, 223, 206, 243, 244, 245, 246, 55, 247, 973, 974, 975, 976, 977, 978, 979, 980, 981, 982, 983, 984, 985, 1049, 1050, 1051, 1052, 1053, 1054, 1055, 1056, 1057, 1058, 1059] (by decide +kernel) (by decide +kernel)
set_option maxRecDepth 20000 in
theorem gL_law_X10_routine : GoodIn wsL_law (wsV RL 22 RX10 yX10_routine wsX10_routine) := goodIn_app (goodIn_of _ (by decide +kernel)) ggL_law_X10_routine
set_option maxRecDepth 20000 in
theorem ggL_law_X11_routine : GoodIn wsL_law wsX11_routine := goodIn_r _ [251, 252, 154, 234, 235, 236, 5, 237, 211, 212, 213, 214, 986, 987, 988, 989, 990, 991, 992, 993, 994, 995, 996, 997, 998, 999, 1000, 1001, 1002, 1003, 1004, 1005, 1006, 1007, 1008, 1009, 1010, 1011, 1012, 1013, 1014, 1015, 1016, 1017, 1018, 1019, 1020, 1021, 1022, 1023, 1024, 1025, 1026, 1027, 1028, 1029, 1030, 1031, 1032, 1033, 1034, 1035, 1036, 1037, 1038, 1039, 1040, 1041, 1042, 1043, 1044, 1045, 1046, 1047, 1048] (by decide +kernel) (by decide +kernel)
set_option maxRecDepth 20000 in
theorem gL_law_X11_routine : GoodIn wsL_law (wsV RL 25 RX11 yX11_routine wsX11_routine) := goodIn_app (goodIn_of _ (by decide +kernel)) ggL_law_X11_routine
set_option maxRecDepth 20000 in
theorem ggL_law_X10_line : GoodIn wsL_law wsX10_line := goodIn_r _ [256, 15, 257, 258, 259, 260, 14, 261, 247, 262, 263, 264, 265, 266, 267, 268, 269, 270, 271, 272, 273, 228, 274, 275, 276, 277, 278, 56, 57, 58, 59, 279, 280, 281, 282, 55, 283, 2, 284, 285, 286, 287, 288, 60, 973, 974, 975, 976, 977, 978, 979, 980, 981, 982, 983, 984, 985, 1049, 1050, 1051, 1052, 1053, 1054, 1055, 1056, 1057, 1058, 1059] (by decide +kernel) (by decide +kernel)
set_option maxRecDepth 20000 in
theorem gL_law_X10_line : GoodIn wsL_law (wsV RL 26 RX10 yX10_line wsX10_line) := goodIn_app (goodIn_of _ (by decide +kernel)) ggL_law_X10_line
set_option maxRecDepth 20000 in
theorem ggL_law_X11_line : GoodIn wsL_law wsX11_line := goodIn_r _ [292, 155, 156, 157, 158, 293, 294, 295, 5, 296, 252, 212, 213, 214, 297, 298, 299, 300, 301, 302, 303, 304, 233, 986, 987, 988, 989, 990, 991, 992, 993, 994, 995, 996, 997, 998, 999, 1000, 1001, 1002, 1003, 1004, 1005, 1006, 1007, 1008, 1009, 1010, 1011, 1012, 1013, 1014, 1015, 1016, 1017, 1018, 1019, 1020, 1021, 1022, 1023, 1024, 1025, 1026, 1027, 1028, 1029, 1030, 1031, 1032, 1033, 1034, 1035, 1036, 1037, 1038, 1039, 1040, 1041, 1042, 1043, 1044, 1045, 1046, 1047, 1048] (by decide +kernel) (by decide +kernel)
set_option maxRecDepth 20000 in
theorem gL_law_X11_line : GoodIn wsL_law (wsV RL 30 RX11 yX11_line wsX11_line) := goodIn_app (goodIn_of _ (by decide +kernel)) ggL_law_X11_line
set_option maxRecDepth 20000 in
theorem ggL_law_X10_clear : GoodIn wsL_law wsX10_clear := goodIn_r _ [308, 15, 258, 259, 260, 14, 261, 247, 309, 310, 311, 312, 56, 279, 280, 281, 282, 55, 57, 58, 283, 2, 284, 285, 286, 287, 288, 60, 973, 974, 975, 976, 977, 978, 979, 980, 981, 982, 983, 984, 985, 1049, 1050, 1051, 1052, 1053, 1054, 1055, 1056, 1057, 1058, 1059] (by decide +kernel) (by decide +kernel)
set_option maxRecDepth 20000 in
theorem gL_law_X10_clear : GoodIn wsL_law (wsV RL 31 RX10 yX10_clear wsX10_clear) := goodIn_app (goodIn_of _ (by decide +kernel)) ggL_law_X10_clear
set_option maxRecDepth 20000 in
theorem ggL_law_X11_clear : GoodIn wsL_law wsX11_clear := goodIn_r _ [316, 155, 293, 294, 295, 5, 296, 252, 212, 213, 214, 986, 987, 988, 989, 990, 991, 992, 993, 994, 995, 996, 997, 998, 999, 1000, 1001, 1002, 1003, 1004, 1005, 1006, 1007, 1008, 1009, 1010, 1011, 1012, 1013, 1014, 1015, 1016, 1017, 1018, 1019, 1020, 1021, 1022, 1023, 1024, 1025, 1026, 1027, 1028, 1029, 1030, 1031, 1032, 1033, 1034, 1035, 1036, 1037, 1038, 1039, 1040, 1041, 1042, 1043, 1044, 1045, 1046, 1047, 1048] (by decide +kernel) (by decide +kernel)
set_option maxRecDepth 20000 in
theorem gL_law_X11_clear : GoodIn wsL_law (wsV RL 34 RX11 yX11_clear wsX11_clear) := goodIn_app (goodIn_of _ (by decide +kernel)) ggL_law_X11_clear
