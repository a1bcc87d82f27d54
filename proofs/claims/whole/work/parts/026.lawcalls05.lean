set_option maxRecDepth 20000 in
theorem ggL_law_X10_sync : GoodIn wsL_law wsX10_sync := goodIn_r _ [911, 23, 900, 901, 902, 22, 903, 74, 75, 912, 913, 914, 915, 916, 338, 339, 340, 85, 917, 878, 879, 973, 974, 975, 976, 977, 978, 979, 980, 981, 982, 983, 984, 985, 1070, 1071, 1072, 1073, 1074, 1075, 1076, 1077, 1078, 1079, 1080, 1118, 1119, 1120, 1121, 1122] (by decide +kernel) (by decide +kernel)
set_option maxRecDepth 20000 in
theorem gL_law_X10_sync : GoodIn wsL_law (wsV RL 136 RX10 yX10_sync wsX10_sync) := goodIn_app (goodIn_of _ (by decide +kernel)) ggL_law_X10_sync
set_option maxRecDepth 20000 in
theorem ggL_law_X11_sync : GoodIn wsL_law wsX11_sync := goodIn_r _ [921, 160, 159, 486, 185, 884, 885, 922, 905, 906, 5, 907, 233, 986, 987, 988, 989, 990, 991, 992, 993, 994, 995, 996, 997, 998, 999, 1000, 1001, 1002, 1003, 1004, 1005, 1006, 1007, 1008, 1009, 1010, 1011, 1012, 1013, 1014, 1015, 1016, 1017, 1018, 1019, 1020, 1021, 1022, 1023, 1024, 1025, 1026, 1027, 1028, 1029, 1030, 1031, 1032, 1033, 1034, 1035, 1036, 1037, 1038, 1039, 1040, 1041, 1042, 1043, 1044, 1045, 1046, 1047, 1048] (by decide +kernel) (by decide +kernel)
set_option maxRecDepth 20000 in
theorem gL_law_X11_sync : GoodIn wsL_law (wsV RL 139 RX11 yX11_sync wsX11_sync) := goodIn_app (goodIn_of _ (by decide +kernel)) ggL_law_X11_sync
set_option maxRecDepth 20000 in
theorem ggL_law_X10_image : GoodIn wsL_law wsX10_image := goodIn_r _ [926, 24, 20, 21, 22, 23, 26, 15, 201, 27, 219, 71, 72, 73, 10, 11, 25, 74, 75, 76, 77, 78, 79, 80, 81, 82, 83, 84, 85, 86, 87, 88, 89, 90, 91, 92, 93, 94, 95, 96, 97, 927, 928, 929, 930, 916, 338, 339, 340, 878, 379, 662, 879, 931, 932, 933, 934, 384, 935, 936, 937, 938, 939, 672, 940, 671, 973, 974, 975, 976, 977, 978, 979, 980, 981, 982, 983, 984, 985, 1070, 1071, 1072, 1073, 1074, 1075, 1076, 1077, 1078, 1079, 1080, 1049, 1050, 1051, 1052, 1053, 1054, 1055, 1056, 1057, 1058, 1059, 1115, 1116, 1117, 1118, 1119, 1120, 1121, 1122] (by decide +kernel) (by decide +kernel)
set_option maxRecDepth 20000 in
theorem gL_law_X10_image : GoodIn wsL_law (wsV RL 140 RX10 yX10_image wsX10_image) := goodIn_app (goodIn_of _ (by decide +kernel)) ggL_law_X10_image
set_option maxRecDepth 20000 in
theorem ggL_law_X11_image : GoodIn wsL_law wsX11_image := goodIn_r _ [944, 945, 194, 211, 233, 159, 160, 169, 170, 171, 172, 173, 193, 885, 884, 410, 686, 486, 181, 182, 183, 184, 185, 212, 213, 5, 214, 946, 947, 948, 949, 196, 986, 987, 988, 989, 990, 991, 992, 993, 994, 995, 996, 997, 998, 999, 1000, 1001, 1002, 1003, 1004, 1005, 1006, 1007, 1008, 1009, 1010, 1011, 1012, 1013, 1014, 1015, 1016, 1017, 1018, 1019, 1020, 1021, 1022, 1023, 1024, 1025, 1026, 1027, 1028, 1029, 1030, 1031, 1032, 1033, 1034, 1035, 1036, 1037, 1038, 1039, 1040, 1041, 1042, 1043, 1044, 1045, 1046, 1047, 1048] (by decide +kernel) (by decide +kernel)
set_option maxRecDepth 20000 in
theorem gL_law_X11_image : GoodIn wsL_law (wsV RL 143 RX11 yX11_image wsX11_image) := goodIn_app (goodIn_of _ (by decide +kernel)) ggL_law_X11_image
set_option maxRecDepth 20000 in
theorem ggL_law_X10_restore : GoodIn wsL_law wsX10_restore := goodIn_r _ [953, 24, 26, 15, 201, 27, 219, 23, 927, 928, 929, 22, 930, 74, 916, 338, 339, 340, 75, 76, 77, 86, 81, 85, 878, 379, 662, 879, 931, 932, 933, 80, 934, 90, 384, 25, 91, 935, 936, 937, 938, 84, 939, 95, 672, 96, 940, 97, 671, 973, 974, 975, 976, 977, 978, 979, 980, 981, 982, 983, 984, 985, 1049, 1050, 1051, 1052, 1053, 1054, 1055, 1056, 1057, 1058, 1059, 1070, 1071, 1072, 1073, 1074, 1075, 1076, 1077, 1078, 1079, 1080, 1115, 1116, 1117, 1118, 1119, 1120, 1121, 1122] (by decide +kernel) (by decide +kernel)
set_option maxRecDepth 20000 in
theorem gL_law_X10_restore : GoodIn wsL_law (wsV RL 144 RX10 yX10_restore wsX10_restore) := goodIn_app (goodIn_of _ (by decide +kernel)) ggL_law_X10_restore
set_option maxRecDepth 20000 in
theorem ggL_law_X11_restore : GoodIn wsL_law wsX11_restore := goodIn_r _ [957, 945, 194, 196, 211, 233, 159, 160, 169, 170, 171, 172, 173, 193, 885, 884, 410, 686, 486, 181, 182, 183, 184, 185, 212, 213, 5, 214, 958, 959, 960, 961, 986, 987, 988, 989, 990, 991, 992, 993, 994, 995, 996, 997, 998, 999, 1000, 1001, 1002, 1003, 1004, 1005, 1006, 1007, 1008, 1009, 1010, 1011, 1012, 1013, 1014, 1015, 1016, 1017, 1018, 1019, 1020, 1021, 1022, 1023, 1024, 1025, 1026, 1027, 1028, 1029, 1030, 1031, 1032, 1033, 1034, 1035, 1036, 1037, 1038, 1039, 1040, 1041, 1042, 1043, 1044, 1045, 1046, 1047, 1048] (by decide +kernel) (by decide +kernel)
set_option maxRecDepth 20000 in
theorem gL_law_X11_restore : GoodIn wsL_law (wsV RL 147 RX11 yX11_restore wsX11_restore) := goodIn_app (goodIn_of _ (by decide +kernel)) ggL_law_X11_restore
set_option maxRecDepth 20000 in
theorem ggL_law_X10_count : GoodIn wsL_law wsX10_count := goodIn_r _ [965, 15, 201, 219, 242, 45, 741, 23, 966, 967, 472, 968, 473, 873, 973, 974, 975, 976, 977, 978, 979, 980, 981, 982, 983, 984, 985, 1049, 1050, 1051, 1052, 1053, 1054, 1055, 1056, 1057, 1058, 1059, 1102, 1103, 1104, 1105, 1106, 1070, 1071, 1072, 1073, 1074, 1075, 1076, 1077, 1078, 1079, 1080, 1118, 1119, 1120, 1121, 1122] (by decide +kernel) (by decide +kernel)
set_option maxRecDepth 20000 in
theorem gL_law_X10_count : GoodIn wsL_law (wsV RL 148 RX10 yX10_count wsX10_count) := goodIn_app (goodIn_of _ (by decide +kernel)) ggL_law_X10_count
set_option maxRecDepth 20000 in
theorem ggL_law_X11_count : GoodIn wsL_law wsX11_count := goodIn_r _ [972, 211, 233, 252, 751, 410, 686, 486, 884, 482, 483, 484, 5, 485, 185, 986, 987, 988, 989, 990, 991, 992, 993, 994, 995, 996, 997, 998, 999, 1000, 1001, 1002, 1003, 1004, 1005, 1006, 1007, 1008, 1009, 1010, 1011, 1012, 1013, 1014, 1015, 1016, 1017, 1018, 1019, 1020, 1021, 1022, 1023, 1024, 1025, 1026, 1027, 1028, 1029, 1030, 1031, 1032, 1033, 1034, 1035, 1036, 1037, 1038, 1039, 1040, 1041, 1042, 1043, 1044, 1045, 1046, 1047, 1048] (by decide +kernel) (by decide +kernel)
set_option maxRecDepth 20000 in
theorem gL_law_X11_count : GoodIn wsL_law (wsV RL 151 RX11 yX11_count wsX11_count) := goodIn_app (goodIn_of _ (by decide +kernel)) ggL_law_X11_count
