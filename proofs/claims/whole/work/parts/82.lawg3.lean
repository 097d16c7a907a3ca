set_option maxRecDepth 20000 in
theorem ggL_law_X9_made : GoodIn wsL_law wsX9_made := goodIn_r _ [870, 36, 32, 871, 713, 872, 873, 874, 35, 875, 111, 876, 877, 878, 879, 118, 119, 120, 121, 122, 123, 880, 860, 861, 862, 110, 1114, 1115, 1116, 1117, 1118, 1119, 1120, 1121, 1122, 1123, 1188, 1189, 1190, 1191, 1192, 1193, 1194, 1195, 1196, 1197, 1198] (by decide +kernel) (by decide +kernel)
set_option maxRecDepth 20000 in
theorem gL_law_X9_made : GoodIn wsL_law (wsV RL 121 RX9 yX9_made wsX9_made) := goodIn_app (goodIn_of _ (by decide +kernel)) ggL_law_X9_made
set_option maxRecDepth 20000 in
theorem ggL_law_X10_made : GoodIn wsL_law wsX10_made := goodIn_r _ [884, 554, 885, 152, 724, 157, 187, 188, 5, 189, 767, 768, 769, 1124, 1125, 1126, 1127, 1128, 1129, 1130, 1131, 1132, 1133, 1134, 1135, 1136, 1137, 1138, 1139, 1140, 1141, 1142, 1143, 1144, 1145, 1146, 1147, 1148, 1149, 1150, 1151, 1152, 1153, 1154, 1155, 1156, 1157, 1158, 1159, 1160, 1161, 1162] (by decide +kernel) (by decide +kernel)
set_option maxRecDepth 20000 in
theorem gL_law_X10_made : GoodIn wsL_law (wsV RL 124 RX10 yX10_made wsX10_made) := goodIn_app (goodIn_of _ (by decide +kernel)) ggL_law_X10_made
set_option maxRecDepth 20000 in
theorem ggL_law_X9_of : GoodIn wsL_law wsX9_of := goodIn_r _ [889, 36, 32, 603, 604, 2, 605, 890, 891, 892, 35, 893, 111, 110, 894, 775, 776, 31, 777, 778, 779, 780, 781, 104, 99, 97, 98, 782, 783, 784, 785, 105, 100, 895, 832, 833, 1114, 1115, 1116, 1117, 1118, 1119, 1120, 1121, 1122, 1123, 1197, 1198, 1188, 1189, 1190, 1191, 1192, 1193, 1194, 1195, 1196] (by decide +kernel) (by decide +kernel)
set_option maxRecDepth 20000 in
theorem gL_law_X9_of : GoodIn wsL_law (wsV RL 125 RX9 yX9_of wsX9_of) := goodIn_app (goodIn_of _ (by decide +kernel)) ggL_law_X9_of
set_option maxRecDepth 20000 in
theorem ggL_law_X10_of : GoodIn wsL_law wsX10_of := goodIn_r _ [899, 724, 157, 187, 188, 5, 189, 851, 852, 853, 854, 790, 791, 792, 793, 722, 153, 154, 155, 723, 156, 1124, 1125, 1126, 1127, 1128, 1129, 1130, 1131, 1132, 1133, 1134, 1135, 1136, 1137, 1138, 1139, 1140, 1141, 1142, 1143, 1144, 1145, 1146, 1147, 1148, 1149, 1150, 1151, 1152, 1153, 1154, 1155, 1156, 1157, 1158, 1159, 1160, 1161, 1162] (by decide +kernel) (by decide +kernel)
set_option maxRecDepth 20000 in
theorem gL_law_X10_of : GoodIn wsL_law (wsV RL 128 RX10 yX10_of wsX10_of) := goodIn_app (goodIn_of _ (by decide +kernel)) ggL_law_X10_of
set_option maxRecDepth 20000 in
theorem ggL_law_X9_even : GoodIn wsL_law wsX9_even := goodIn_r _ [903, 32, 871, 36, 713, 904, 905, 906, 35, 907, 908, 909, 592, 910, 879, 118, 119, 120, 121, 122, 123, 911, 912, 913, 914, 111, 110, 915, 916, 917, 1114, 1115, 1116, 1117, 1118, 1119, 1120, 1121, 1122, 1123, 1188, 1189, 1190, 1191, 1192, 1193, 1194, 1195, 1196, 1197, 1198] (by decide +kernel) (by decide +kernel)
set_option maxRecDepth 20000 in
theorem gL_law_X9_even : GoodIn wsL_law (wsV RL 129 RX9 yX9_even wsX9_even) := goodIn_app (goodIn_of _ (by decide +kernel)) ggL_law_X9_even
set_option maxRecDepth 20000 in
theorem ggL_law_X10_even : GoodIn wsL_law wsX10_even := goodIn_r _ [921, 885, 152, 724, 187, 188, 5, 189, 767, 768, 769, 922, 923, 924, 925, 157, 1124, 1125, 1126, 1127, 1128, 1129, 1130, 1131, 1132, 1133, 1134, 1135, 1136, 1137, 1138, 1139, 1140, 1141, 1142, 1143, 1144, 1145, 1146, 1147, 1148, 1149, 1150, 1151, 1152, 1153, 1154, 1155, 1156, 1157, 1158, 1159, 1160, 1161, 1162] (by decide +kernel) (by decide +kernel)
set_option maxRecDepth 20000 in
theorem gL_law_X10_even : GoodIn wsL_law (wsV RL 132 RX10 yX10_even wsX10_even) := goodIn_app (goodIn_of _ (by decide +kernel)) ggL_law_X10_even
set_option maxRecDepth 20000 in
theorem ggL_law_X9_error : GoodIn wsL_law wsX9_error := goodIn_r _ [929, 36, 713, 32, 871, 485, 486, 2, 487, 904, 905, 906, 35, 907, 908, 909, 592, 910, 879, 118, 119, 120, 121, 122, 123, 911, 912, 913, 914, 111, 110, 915, 916, 917, 517, 518, 519, 1114, 1115, 1116, 1117, 1118, 1119, 1120, 1121, 1122, 1123, 1197, 1198, 1188, 1189, 1190, 1191, 1192, 1193, 1194, 1195, 1196] (by decide +kernel) (by decide +kernel)
set_option maxRecDepth 20000 in
theorem gL_law_X9_error : GoodIn wsL_law (wsV RL 133 RX9 yX9_error wsX9_error) := goodIn_app (goodIn_of _ (by decide +kernel)) ggL_law_X9_error
set_option maxRecDepth 20000 in
theorem ggL_law_X10_error : GoodIn wsL_law wsX10_error := goodIn_r _ [933, 184, 724, 152, 157, 187, 188, 5, 189, 524, 525, 526, 767, 768, 769, 535, 536, 537, 538, 539, 540, 1124, 1125, 1126, 1127, 1128, 1129, 1130, 1131, 1132, 1133, 1134, 1135, 1136, 1137, 1138, 1139, 1140, 1141, 1142, 1143, 1144, 1145, 1146, 1147, 1148, 1149, 1150, 1151, 1152, 1153, 1154, 1155, 1156, 1157, 1158, 1159, 1160, 1161, 1162] (by decide +kernel) (by decide +kernel)
set_option maxRecDepth 20000 in
theorem gL_law_X10_error : GoodIn wsL_law (wsV RL 136 RX10 yX10_error wsX10_error) := goodIn_app (goodIn_of _ (by decide +kernel)) ggL_law_X10_error
set_option maxRecDepth 20000 in
theorem ggL_law_X9_least : GoodIn wsL_law wsX9_least := goodIn_r _ [937, 40, 664, 665, 2, 666, 938, 939, 940, 39, 941, 942, 943, 944, 945, 946, 947, 948, 591, 592, 593, 117, 118, 119, 120, 121, 122, 123, 949, 950, 951, 952, 953, 954, 955, 956, 116, 957, 916, 917, 958, 959, 960, 1114, 1115, 1116, 1117, 1118, 1119, 1120, 1121, 1122, 1123, 1199] (by decide +kernel) (by decide +kernel)
set_option maxRecDepth 20000 in
theorem gL_law_X9_least : GoodIn wsL_law (wsV RL 137 RX9 yX9_least wsX9_least) := goodIn_app (goodIn_of _ (by decide +kernel)) ggL_law_X9_least
set_option maxRecDepth 20000 in
theorem ggL_law_X10_least : GoodIn wsL_law wsX10_least := goodIn_r _ [964, 965, 598, 187, 188, 5, 189, 687, 688, 689, 690, 767, 768, 769, 966, 967, 968] (by decide +kernel) (by decide +kernel)
set_option maxRecDepth 20000 in
theorem gL_law_X10_least : GoodIn wsL_law (wsV RL 140 RX10 yX10_least wsX10_least) := goodIn_app (goodIn_of _ (by decide +kernel)) ggL_law_X10_least
set_option maxRecDepth 20000 in
theorem ggL_law_X9_walks : GoodIn wsL_law wsX9_walks := goodIn_r _ [972, 32, 750, 751, 752, 31, 753, 103, 973, 974, 975, 976, 101, 977, 978, 979, 592, 980, 981, 982, 983, 984, 102, 104, 97, 98, 985, 673, 430, 674, 1114, 1115, 1116, 1117, 1118, 1119, 1120, 1121, 1122, 1123, 1188, 1189, 1190, 1191, 1192, 1193, 1194, 1195, 1196] (by decide +kernel) (by decide +kernel)
set_option maxRecDepth 20000 in
theorem gL_law_X9_walks : GoodIn wsL_law (wsV RL 141 RX9 yX9_walks wsX9_walks) := goodIn_app (goodIn_of _ (by decide +kernel)) ggL_law_X9_walks
set_option maxRecDepth 20000 in
theorem ggL_law_X10_walks : GoodIn wsL_law wsX10_walks := goodIn_r _ [989, 184, 168, 169, 722, 153, 154, 990, 991, 763, 764, 765, 5, 766, 152, 187, 188, 189, 1124, 1125, 1126, 1127, 1128, 1129, 1130, 1131, 1132, 1133, 1134, 1135, 1136, 1137, 1138, 1139, 1140, 1141, 1142, 1143, 1144, 1145, 1146, 1147, 1148, 1149, 1150, 1151, 1152, 1153, 1154, 1155, 1156, 1157, 1158, 1159, 1160, 1161, 1162] (by decide +kernel) (by decide +kernel)
set_option maxRecDepth 20000 in
theorem gL_law_X10_walks : GoodIn wsL_law (wsV RL 144 RX10 yX10_walks wsX10_walks) := goodIn_app (goodIn_of _ (by decide +kernel)) ggL_law_X10_walks
set_option maxRecDepth 20000 in
theorem ggL_law_X9_term : GoodIn wsL_law wsX9_term := goodIn_r _ [995, 603, 604, 2, 605, 996, 997, 43, 998, 999, 1000, 1001, 1002, 44, 45, 1003, 1004, 1005, 1006, 129, 128, 1114, 1115, 1116, 1117, 1118, 1119, 1120, 1121, 1122, 1123, 1200, 1201] (by decide +kernel) (by decide +kernel)
set_option maxRecDepth 20000 in
theorem gL_law_X9_term : GoodIn wsL_law (wsV RL 145 RX9 yX9_term wsX9_term) := goodIn_app (goodIn_of _ (by decide +kernel)) ggL_law_X9_term
set_option maxRecDepth 20000 in
theorem ggL_law_X10_term : GoodIn wsL_law wsX10_term := goodIn_r _ [1010, 1011, 1012, 158, 159, 160, 161, 162, 1013, 1014, 5, 1015, 187, 188, 189, 1016, 1017, 1018, 1124, 1125, 1126, 1127, 1128, 1129, 1130, 1131, 1132, 1133, 1134, 1135, 1136, 1137, 1138, 1139, 1140, 1141, 1142, 1143, 1144, 1145, 1146, 1147, 1148, 1149, 1150, 1151, 1152, 1153, 1154, 1155, 1156, 1157, 1158, 1159, 1160, 1161, 1162] (by decide +kernel) (by decide +kernel)
set_option maxRecDepth 20000 in
theorem gL_law_X10_term : GoodIn wsL_law (wsV RL 149 RX10 yX10_term wsX10_term) := goodIn_app (goodIn_of _ (by decide +kernel)) ggL_law_X10_term
set_option maxRecDepth 20000 in
theorem ggL_law_X9_value : GoodIn wsL_law wsX9_value := goodIn_r _ [1022, 1023, 49, 603, 604, 2, 605, 1024, 1025, 48, 1026, 999, 1000, 1001, 1002, 44, 45, 1027, 1028, 1029, 1030, 1031, 135, 136, 137, 1032, 1033, 1034, 1114, 1115, 1116, 1117, 1118, 1119, 1120, 1121, 1122, 1123, 1200, 1201, 1202, 1203, 1204, 1205, 1206, 1207] (by decide +kernel) (by decide +kernel)
set_option maxRecDepth 20000 in
theorem gL_law_X9_value : GoodIn wsL_law (wsV RL 150 RX9 yX9_value wsX9_value) := goodIn_app (goodIn_of _ (by decide +kernel)) ggL_law_X9_value
set_option maxRecDepth 20000 in
theorem ggL_law_X10_value : GoodIn wsL_law wsX10_value := goodIn_r _ [1038, 1039, 1013, 1014, 5, 1015, 187, 188, 189, 1016, 1017, 1018, 1040, 1041, 1042, 1043, 158, 159, 160, 161, 162, 694, 695, 696, 1124, 1125, 1126, 1127, 1128, 1129, 1130, 1131, 1132, 1133, 1134, 1135, 1136, 1137, 1138, 1139, 1140, 1141, 1142, 1143, 1144, 1145, 1146, 1147, 1148, 1149, 1150, 1151, 1152, 1153, 1154, 1155, 1156, 1157, 1158, 1159, 1160, 1161, 1162] (by decide +kernel) (by decide +kernel)
set_option maxRecDepth 20000 in
theorem gL_law_X10_value : GoodIn wsL_law (wsV RL 154 RX10 yX10_value wsX10_value) := goodIn_app (goodIn_of _ (by decide +kernel)) ggL_law_X10_value
set_option maxRecDepth 20000 in
theorem ggL_law_X9_degree : GoodIn wsL_law wsX9_degree := goodIn_r _ [1047, 603, 604, 2, 605, 999, 1000, 1001, 1002, 44, 45, 1048, 1049, 1050, 43, 1051, 128, 1052, 909, 592, 910, 1114, 1115, 1116, 1117, 1118, 1119, 1120, 1121, 1122, 1123, 1200, 1201] (by decide +kernel) (by decide +kernel)
set_option maxRecDepth 20000 in
theorem gL_law_X9_degree : GoodIn wsL_law (wsV RL 155 RX9 yX9_degree wsX9_degree) := goodIn_app (goodIn_of _ (by decide +kernel)) ggL_law_X9_degree
set_option maxRecDepth 20000 in
theorem ggL_law_X10_degree : GoodIn wsL_law wsX10_degree := goodIn_r _ [1056, 158, 160, 161, 162, 159, 1013, 1014, 5, 1015, 187, 188, 189, 1124, 1125, 1126, 1127, 1128, 1129, 1130, 1131, 1132, 1133, 1134, 1135, 1136, 1137, 1138, 1139, 1140, 1141, 1142, 1143, 1144, 1145, 1146, 1147, 1148, 1149, 1150, 1151, 1152, 1153, 1154, 1155, 1156, 1157, 1158, 1159, 1160, 1161, 1162] (by decide +kernel) (by decide +kernel)
set_option maxRecDepth 20000 in
theorem gL_law_X10_degree : GoodIn wsL_law (wsV RL 158 RX10 yX10_degree wsX10_degree) := goodIn_app (goodIn_of _ (by decide +kernel)) ggL_law_X10_degree
set_option maxRecDepth 20000 in
theorem ggL_law_X9_same : GoodIn wsL_law wsX9_same := goodIn_r _ [1060, 49, 44, 45, 1061, 1062, 603, 604, 2, 605, 1063, 1064, 1065, 48, 1066, 134, 1031, 138, 139, 135, 136, 1032, 1033, 1034, 1067, 1068, 1069, 1070, 137, 1114, 1115, 1116, 1117, 1118, 1119, 1120, 1121, 1122, 1123, 1202, 1203, 1204, 1205, 1206, 1207, 1200, 1201] (by decide +kernel) (by decide +kernel)
set_option maxRecDepth 20000 in
theorem gL_law_X9_same : GoodIn wsL_law (wsV RL 159 RX9 yX9_same wsX9_same) := goodIn_app (goodIn_of _ (by decide +kernel)) ggL_law_X9_same
set_option maxRecDepth 20000 in
theorem ggL_law_X10_same : GoodIn wsL_law wsX10_same := goodIn_r _ [1074, 1075, 187, 188, 5, 189, 1040, 1041, 1042, 1043, 158, 159, 160, 161, 162, 694, 695, 696, 1124, 1125, 1126, 1127, 1128, 1129, 1130, 1131, 1132, 1133, 1134, 1135, 1136, 1137, 1138, 1139, 1140, 1141, 1142, 1143, 1144, 1145, 1146, 1147, 1148, 1149, 1150, 1151, 1152, 1153, 1154, 1155, 1156, 1157, 1158, 1159, 1160, 1161, 1162] (by decide +kernel) (by decide +kernel)
set_option maxRecDepth 20000 in
theorem gL_law_X10_same : GoodIn wsL_law (wsV RL 162 RX10 yX10_same wsX10_same) := goodIn_app (goodIn_of _ (by decide +kernel)) ggL_law_X10_same
set_option maxRecDepth 20000 in
theorem ggL_law_X9_pressed : GoodIn wsL_law wsX9_pressed := goodIn_r _ [1079] (by decide +kernel) (by decide +kernel)
set_option maxRecDepth 20000 in
theorem gL_law_X9_pressed : GoodIn wsL_law (wsV RL 163 RX9 yX9_pressed wsX9_pressed) := goodIn_app (goodIn_of _ (by decide +kernel)) ggL_law_X9_pressed
set_option maxRecDepth 20000 in
theorem ggL_law_X10_pressed : GoodIn wsL_law wsX10_pressed := goodIn_r _ [1083, 1084, 187, 188, 5, 189] (by decide +kernel) (by decide +kernel)
set_option maxRecDepth 20000 in
theorem gL_law_X10_pressed : GoodIn wsL_law (wsV RL 167 RX10 yX10_pressed wsX10_pressed) := goodIn_app (goodIn_of _ (by decide +kernel)) ggL_law_X10_pressed
set_option maxRecDepth 20000 in
theorem ggL_law_X9_mixed : GoodIn wsL_law wsX9_mixed := goodIn_r _ [1088, 40, 1089, 916, 592, 917, 1090, 1091, 39, 1092, 1093, 485, 486, 2, 487, 754, 118, 119, 120, 121, 122, 123, 1094, 1095, 1096, 1097, 116, 117, 517, 518, 519, 1114, 1115, 1116, 1117, 1118, 1119, 1120, 1121, 1122, 1123, 1199] (by decide +kernel) (by decide +kernel)
set_option maxRecDepth 20000 in
theorem gL_law_X9_mixed : GoodIn wsL_law (wsV RL 168 RX9 yX9_mixed wsX9_mixed) := goodIn_app (goodIn_of _ (by decide +kernel)) ggL_law_X9_mixed
set_option maxRecDepth 20000 in
theorem ggL_law_X10_mixed : GoodIn wsL_law wsX10_mixed := goodIn_r _ [1101, 1102, 187, 188, 5, 189, 524, 525, 526, 767, 768, 769, 535, 536, 537, 538, 539, 540] (by decide +kernel) (by decide +kernel)
set_option maxRecDepth 20000 in
theorem gL_law_X10_mixed : GoodIn wsL_law (wsV RL 171 RX10 yX10_mixed wsX10_mixed) := goodIn_app (goodIn_of _ (by decide +kernel)) ggL_law_X10_mixed
set_option maxRecDepth 20000 in
theorem ggL_law_X9_count : GoodIn wsL_law wsX9_count := goodIn_r _ [1106, 16, 174, 27, 364, 1107, 381, 365, 32, 1108, 1109, 36, 713, 395, 396, 397, 23, 398, 90, 1114, 1115, 1116, 1117, 1118, 1119, 1120, 1121, 1122, 1123, 1163, 1164, 1169, 1170, 1171, 1172, 1173, 1174, 1175, 1176, 1177, 1178, 1179, 1180, 1181, 1182, 1183, 1184, 1185, 1186, 1187, 1188, 1189, 1190, 1191, 1192, 1193, 1194, 1195, 1196, 1197, 1198] (by decide +kernel) (by decide +kernel)
set_option maxRecDepth 20000 in
theorem gL_law_X9_count : GoodIn wsL_law (wsV RL 172 RX9 yX9_count wsX9_count) := goodIn_app (goodIn_of _ (by decide +kernel)) ggL_law_X9_count
set_option maxRecDepth 20000 in
theorem ggL_law_X10_count : GoodIn wsL_law wsX10_count := goodIn_r _ [1113, 185, 374, 375, 151, 404, 722, 723, 724, 1124, 1125, 1126, 1127, 1128, 1129, 1130, 1131, 1132, 1133, 1134, 1135, 1136, 1137, 1138, 1139, 1140, 1141, 1142, 1143, 1144, 1145, 1146, 1147, 1148, 1149, 1150, 1151, 1152, 1153, 1154, 1155, 1156, 1157, 1158, 1159, 1160, 1161, 1162] (by decide +kernel) (by decide +kernel)
set_option maxRecDepth 20000 in
theorem gL_law_X10_count : GoodIn wsL_law (wsV RL 175 RX10 yX10_count wsX10_count) := goodIn_app (goodIn_of _ (by decide +kernel)) ggL_law_X10_count
