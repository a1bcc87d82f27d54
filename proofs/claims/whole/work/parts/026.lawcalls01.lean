set_option maxRecDepth 20000 in
theorem ggL_law_X10_run : GoodIn wsL_law wsX10_run := goodIn_r _ [320, 15, 19, 321, 322, 258, 259, 260, 14, 261, 247, 323, 324, 325, 2, 326, 23, 327, 328, 329, 330, 18, 331, 332, 333, 334, 335, 336, 64, 337, 338, 339, 340, 341, 66, 67, 342, 343, 344, 345, 346, 347, 69, 70, 348, 349, 350, 351, 352, 353, 354, 355, 356, 357, 358, 359, 360, 280, 281, 282, 55, 57, 58, 283, 284, 361, 362, 363, 364, 68, 365, 366, 367, 368, 369, 370, 371, 22, 372, 373, 374, 74, 375, 376, 377, 77, 378, 81, 379, 380, 381, 382, 80, 383, 384, 90, 91, 385, 386, 100, 387, 388, 389, 390, 391, 392, 393, 25, 394, 395, 396, 397, 398, 973, 974, 975, 976, 977, 978, 979, 980, 981, 982, 983, 984, 985, 1060, 1061, 1062, 1063, 1064, 1065, 1066, 1067, 1068, 1069, 1049, 1050, 1051, 1052, 1053, 1054, 1055, 1056, 1057, 1058, 1059, 1070, 1071, 1072, 1073, 1074, 1075, 1076, 1077, 1078, 1079, 1080, 1115, 1116, 1117] (by decide +kernel) (by decide +kernel)
set_option maxRecDepth 20000 in
theorem gL_law_X10_run : GoodIn wsL_law (wsV RL 35 RX10 yX10_run wsX10_run) := goodIn_app (goodIn_of _ (by decide +kernel)) ggL_law_X10_run
set_option maxRecDepth 20000 in
theorem ggL_law_X11_run : GoodIn wsL_law wsX11_run := goodIn_r _ [402, 293, 294, 295, 5, 296, 252, 212, 213, 214, 403, 404, 405, 406, 159, 407, 408, 161, 169, 162, 170, 163, 171, 164, 409, 153, 165, 172, 410, 411, 412, 413, 414, 415, 166, 167, 168, 155, 157, 154, 156, 158, 416, 417, 418, 419, 986, 987, 988, 989, 990, 991, 992, 993, 994, 995, 996, 997, 998, 999, 1000, 1001, 1002, 1003, 1004, 1005, 1006, 1007, 1008, 1009, 1010, 1011, 1012, 1013, 1014, 1015, 1016, 1017, 1018, 1019, 1020, 1021, 1022, 1023, 1024, 1025, 1026, 1027, 1028, 1029, 1030, 1031, 1032, 1033, 1034, 1035, 1036, 1037, 1038, 1039, 1040, 1041, 1042, 1043, 1044, 1045, 1046, 1047, 1048] (by decide +kernel) (by decide +kernel)
set_option maxRecDepth 20000 in
theorem gL_law_X11_run : GoodIn wsL_law (wsV RL 39 RX11 yX11_run wsX11_run) := goodIn_app (goodIn_of _ (by decide +kernel)) ggL_law_X11_run
set_option maxRecDepth 20000 in
theorem ggL_law_X10_cell : GoodIn wsL_law wsX10_cell := goodIn_r _ [423, 15, 322, 23, 424, 425, 2, 426, 427, 267, 268, 14, 269, 270, 271, 272, 273, 228, 428, 429, 430, 22, 431, 74, 75, 973, 974, 975, 976, 977, 978, 979, 980, 981, 982, 983, 984, 985, 1049, 1050, 1051, 1052, 1053, 1054, 1055, 1056, 1057, 1058, 1059, 1070, 1071, 1072, 1073, 1074, 1075, 1076, 1077, 1078, 1079, 1080] (by decide +kernel) (by decide +kernel)
set_option maxRecDepth 20000 in
theorem gL_law_X10_cell : GoodIn wsL_law (wsV RL 40 RX10 yX10_cell wsX10_cell) := goodIn_app (goodIn_of _ (by decide +kernel)) ggL_law_X10_cell
set_option maxRecDepth 20000 in
theorem ggL_law_X11_cell : GoodIn wsL_law wsX11_cell := goodIn_r _ [435, 408, 159, 160, 212, 213, 5, 214, 301, 302, 303, 304, 233, 986, 987, 988, 989, 990, 991, 992, 993, 994, 995, 996, 997, 998, 999, 1000, 1001, 1002, 1003, 1004, 1005, 1006, 1007, 1008, 1009, 1010, 1011, 1012, 1013, 1014, 1015, 1016, 1017, 1018, 1019, 1020, 1021, 1022, 1023, 1024, 1025, 1026, 1027, 1028, 1029, 1030, 1031, 1032, 1033, 1034, 1035, 1036, 1037, 1038, 1039, 1040, 1041, 1042, 1043, 1044, 1045, 1046, 1047, 1048] (by decide +kernel) (by decide +kernel)
set_option maxRecDepth 20000 in
theorem gL_law_X11_cell : GoodIn wsL_law (wsV RL 44 RX11 yX11_cell wsX11_cell) := goodIn_app (goodIn_of _ (by decide +kernel)) ggL_law_X11_cell
set_option maxRecDepth 20000 in
theorem ggL_law_X10_counted : GoodIn wsL_law wsX10_counted := goodIn_r _ [439, 15, 23, 440, 441, 442, 443, 14, 444, 445, 221, 222, 223, 206, 270, 271, 272, 273, 228, 446, 283, 2, 284, 973, 974, 975, 976, 977, 978, 979, 980, 981, 982, 983, 984, 985, 1070, 1071, 1072, 1073, 1074, 1075, 1076, 1077, 1078, 1079, 1080, 1049, 1050, 1051, 1052, 1053, 1054, 1055, 1056, 1057, 1058, 1059] (by decide +kernel) (by decide +kernel)
set_option maxRecDepth 20000 in
theorem gL_law_X10_counted : GoodIn wsL_law (wsV RL 45 RX10 yX10_counted wsX10_counted) := goodIn_app (goodIn_of _ (by decide +kernel)) ggL_law_X10_counted
set_option maxRecDepth 20000 in
theorem ggL_law_X11_counted : GoodIn wsL_law wsX11_counted := goodIn_r _ [450, 169, 170, 171, 451, 452, 453, 5, 454, 212, 213, 214, 234, 235, 236, 237, 211, 301, 302, 303, 304, 233, 986, 987, 988, 989, 990, 991, 992, 993, 994, 995, 996, 997, 998, 999, 1000, 1001, 1002, 1003, 1004, 1005, 1006, 1007, 1008, 1009, 1010, 1011, 1012, 1013, 1014, 1015, 1016, 1017, 1018, 1019, 1020, 1021, 1022, 1023, 1024, 1025, 1026, 1027, 1028, 1029, 1030, 1031, 1032, 1033, 1034, 1035, 1036, 1037, 1038, 1039, 1040, 1041, 1042, 1043, 1044, 1045, 1046, 1047, 1048] (by decide +kernel) (by decide +kernel)
set_option maxRecDepth 20000 in
theorem gL_law_X11_counted : GoodIn wsL_law (wsV RL 48 RX11 yX11_counted wsX11_counted) := goodIn_app (goodIn_of _ (by decide +kernel)) ggL_law_X11_counted
set_option maxRecDepth 20000 in
theorem ggL_law_X10_tied : GoodIn wsL_law wsX10_tied := goodIn_r _ [458, 15, 459, 441, 442, 443, 14, 444, 445, 221, 222, 223, 206, 270, 271, 272, 273, 228, 446, 283, 2, 284, 973, 974, 975, 976, 977, 978, 979, 980, 981, 982, 983, 984, 985, 1049, 1050, 1051, 1052, 1053, 1054, 1055, 1056, 1057, 1058, 1059] (by decide +kernel) (by decide +kernel)
set_option maxRecDepth 20000 in
theorem gL_law_X10_tied : GoodIn wsL_law (wsV RL 49 RX10 yX10_tied wsX10_tied) := goodIn_app (goodIn_of _ (by decide +kernel)) ggL_law_X10_tied
set_option maxRecDepth 20000 in
theorem ggL_law_X11_tied : GoodIn wsL_law wsX11_tied := goodIn_r _ [463, 451, 452, 453, 5, 454, 212, 213, 214, 234, 235, 236, 237, 211, 301, 302, 303, 304, 233, 464, 465, 466, 467, 252, 154, 155, 156, 157, 986, 987, 988, 989, 990, 991, 992, 993, 994, 995, 996, 997, 998, 999, 1000, 1001, 1002, 1003, 1004, 1005, 1006, 1007, 1008, 1009, 1010, 1011, 1012, 1013, 1014, 1015, 1016, 1017, 1018, 1019, 1020, 1021, 1022, 1023, 1024, 1025, 1026, 1027, 1028, 1029, 1030, 1031, 1032, 1033, 1034, 1035, 1036, 1037, 1038, 1039, 1040, 1041, 1042, 1043, 1044, 1045, 1046, 1047, 1048] (by decide +kernel) (by decide +kernel)
set_option maxRecDepth 20000 in
theorem gL_law_X11_tied : GoodIn wsL_law (wsV RL 52 RX11 yX11_tied wsX11_tied) := goodIn_app (goodIn_of _ (by decide +kernel)) ggL_law_X11_tied
set_option maxRecDepth 20000 in
theorem ggL_law_X10_room : GoodIn wsL_law wsX10_room := goodIn_r _ [471, 15, 23, 472, 473, 474, 220, 221, 222, 14, 223, 206, 973, 974, 975, 976, 977, 978, 979, 980, 981, 982, 983, 984, 985, 1070, 1071, 1072, 1073, 1074, 1075, 1076, 1077, 1078, 1079, 1080, 1118, 1119, 1120, 1121, 1122, 1049, 1050, 1051, 1052, 1053, 1054, 1055, 1056, 1057, 1058, 1059] (by decide +kernel) (by decide +kernel)
set_option maxRecDepth 20000 in
theorem gL_law_X10_room : GoodIn wsL_law (wsV RL 53 RX10 yX10_room wsX10_room) := goodIn_app (goodIn_of _ (by decide +kernel)) ggL_law_X10_room
set_option maxRecDepth 20000 in
theorem ggL_law_X11_room : GoodIn wsL_law wsX11_room := goodIn_r _ [478, 173, 234, 235, 236, 5, 237, 211, 212, 213, 214, 479, 480, 481, 482, 483, 484, 485, 486, 185, 986, 987, 988, 989, 990, 991, 992, 993, 994, 995, 996, 997, 998, 999, 1000, 1001, 1002, 1003, 1004, 1005, 1006, 1007, 1008, 1009, 1010, 1011, 1012, 1013, 1014, 1015, 1016, 1017, 1018, 1019, 1020, 1021, 1022, 1023, 1024, 1025, 1026, 1027, 1028, 1029, 1030, 1031, 1032, 1033, 1034, 1035, 1036, 1037, 1038, 1039, 1040, 1041, 1042, 1043, 1044, 1045, 1046, 1047, 1048] (by decide +kernel) (by decide +kernel)
set_option maxRecDepth 20000 in
theorem gL_law_X11_room : GoodIn wsL_law (wsV RL 56 RX11 yX11_room wsX11_room) := goodIn_app (goodIn_of _ (by decide +kernel)) ggL_law_X11_room
set_option maxRecDepth 20000 in
theorem ggL_law_X10_weight : GoodIn wsL_law wsX10_weight := goodIn_r _ [490, 28, 973, 974, 975, 976, 977, 978, 979, 980, 981, 982, 983, 984, 985] (by decide +kernel) (by decide +kernel)
set_option maxRecDepth 20000 in
theorem gL_law_X10_weight : GoodIn wsL_law (wsV RL 57 RX10 yX10_weight wsX10_weight) := goodIn_app (goodIn_of _ (by decide +kernel)) ggL_law_X10_weight
set_option maxRecDepth 20000 in
theorem ggL_law_X11_weight : GoodIn wsL_law wsX11_weight := goodIn_r _ [494, 174, 212, 213, 5, 214, 986, 987, 988, 989, 990, 991, 992, 993, 994, 995, 996, 997, 998, 999, 1000, 1001, 1002, 1003, 1004, 1005, 1006, 1007, 1008, 1009, 1010, 1011, 1012, 1013, 1014, 1015, 1016, 1017, 1018, 1019, 1020, 1021, 1022, 1023, 1024, 1025, 1026, 1027, 1028, 1029, 1030, 1031, 1032, 1033, 1034, 1035, 1036, 1037, 1038, 1039, 1040, 1041, 1042, 1043, 1044, 1045, 1046, 1047, 1048] (by decide +kernel) (by decide +kernel)
set_option maxRecDepth 20000 in
theorem gL_law_X11_weight : GoodIn wsL_law (wsV RL 60 RX11 yX11_weight wsX11_weight) := goodIn_app (goodIn_of _ (by decide +kernel)) ggL_law_X11_weight
