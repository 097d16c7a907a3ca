set_option maxRecDepth 20000 in
theorem ggL_law_X9_init : GoodIn wsL_law wsX9_init := goodIn_r _ [9, 10, 11, 12, 13, 14, 15, 16, 17, 18, 19, 20, 21, 22, 23, 24, 25, 26, 27, 28, 29, 30, 31, 32, 33, 34, 35, 36, 37, 38, 39, 40, 41, 42, 43, 44, 45, 46, 47, 48, 49, 50, 51, 52, 53, 54, 55, 56, 57, 58, 59, 60, 61, 62, 63, 64, 65, 66, 67, 68, 69, 70, 71, 72, 73, 74, 75, 76, 77, 78, 79, 80, 81, 82, 83, 84, 85, 86, 87, 88, 89, 90, 91, 92, 93, 94, 95, 96, 97, 98, 99, 100, 101, 102, 103, 104, 105, 106, 107, 108, 109, 110, 111, 112, 113, 114, 115, 116, 117, 118, 119, 120, 121, 122, 123, 124, 125, 126, 127, 128, 129, 130, 131, 132, 133, 134, 135, 136, 137, 138, 139, 1163, 1164, 1114, 1115, 1116, 1117, 1118, 1119, 1120, 1121, 1122, 1123, 1165, 1166, 1167, 1168, 1169, 1170, 1171, 1172, 1173, 1174, 1175, 1176, 1177, 1178, 1179, 1180, 1181, 1182, 1183, 1184, 1185, 1186, 1187, 1188, 1189, 1190, 1191, 1192, 1193, 1194, 1195, 1196, 1197, 1198, 1199, 1200, 1201, 1202, 1203, 1204, 1205, 1206, 1207] (by decide +kernel) (by decide +kernel)
set_option maxRecDepth 20000 in
theorem gL_law_X9_init : GoodIn wsL_law (wsX9_init) := ggL_law_X9_init
set_option maxRecDepth 20000 in
theorem ggL_law_X10_init : GoodIn wsL_law wsX10_init := goodIn_r _ [142, 143, 11, 12, 54, 144, 145, 146, 147, 148, 149, 150, 151, 152, 153, 154, 155, 156, 157, 158, 159, 160, 161, 162, 163, 164, 165, 166, 167, 75, 168, 169, 1124, 1125, 1126, 1127, 1128, 1129, 1130, 1131, 1132, 1133, 1134, 1135, 1136, 1137, 1138, 1139, 1140, 1141, 1142, 1143, 1144, 1145, 1146, 1147, 1148, 1149, 1150, 1151, 1152, 1153, 1154, 1155, 1156, 1157, 1158, 1159, 1160, 1161, 1162] (by decide +kernel) (by decide +kernel)
set_option maxRecDepth 20000 in
theorem gL_law_X10_init : GoodIn wsL_law (wsX10_init) := ggL_law_X10_init
set_option maxRecDepth 20000 in
theorem ggL_law_X9_write : GoodIn wsL_law wsX9_write := goodIn_r _ [173, 16, 174, 175, 176, 177, 178, 15, 179, 56, 55, 1114, 1115, 1116, 1117, 1118, 1119, 1120, 1121, 1122, 1123, 1163, 1164] (by decide +kernel) (by decide +kernel)
set_option maxRecDepth 20000 in
theorem gL_law_X9_write : GoodIn wsL_law (wsV RL 15 RX9 yX9_write wsX9_write) := goodIn_app (goodIn_of _ (by decide +kernel)) ggL_law_X9_write
set_option maxRecDepth 20000 in
theorem ggL_law_X10_write : GoodIn wsL_law wsX10_write := goodIn_r _ [183, 184, 185, 144, 186, 187, 188, 5, 189, 1124, 1125, 1126, 1127, 1128, 1129, 1130, 1131, 1132, 1133, 1134, 1135, 1136, 1137, 1138, 1139, 1140, 1141, 1142, 1143, 1144, 1145, 1146, 1147, 1148, 1149, 1150, 1151, 1152, 1153, 1154, 1155, 1156, 1157, 1158, 1159, 1160, 1161, 1162] (by decide +kernel) (by decide +kernel)
set_option maxRecDepth 20000 in
theorem gL_law_X10_write : GoodIn wsL_law (wsV RL 19 RX10 yX10_write wsX10_write) := goodIn_app (goodIn_of _ (by decide +kernel)) ggL_law_X10_write
set_option maxRecDepth 20000 in
theorem ggL_law_X9_erase : GoodIn wsL_law wsX9_erase := goodIn_r _ [193, 16, 174, 1114, 1115, 1116, 1117, 1118, 1119, 1120, 1121, 1122, 1123, 1163, 1164] (by decide +kernel) (by decide +kernel)
set_option maxRecDepth 20000 in
theorem gL_law_X9_erase : GoodIn wsL_law (wsV RL 20 RX9 yX9_erase wsX9_erase) := goodIn_app (goodIn_of _ (by decide +kernel)) ggL_law_X9_erase
set_option maxRecDepth 20000 in
theorem ggL_law_X10_erase : GoodIn wsL_law wsX10_erase := goodIn_r _ [197, 185, 1124, 1125, 1126, 1127, 1128, 1129, 1130, 1131, 1132, 1133, 1134, 1135, 1136, 1137, 1138, 1139, 1140, 1141, 1142, 1143, 1144, 1145, 1146, 1147, 1148, 1149, 1150, 1151, 1152, 1153, 1154, 1155, 1156, 1157, 1158, 1159, 1160, 1161, 1162] (by decide +kernel) (by decide +kernel)
set_option maxRecDepth 20000 in
theorem gL_law_X10_erase : GoodIn wsL_law (wsV RL 24 RX10 yX10_erase wsX10_erase) := goodIn_app (goodIn_of _ (by decide +kernel)) ggL_law_X10_erase
set_option maxRecDepth 20000 in
theorem ggL_law_X9_fault : GoodIn wsL_law wsX9_fault := goodIn_r _ [201, 20, 28, 202, 203, 204, 19, 205, 63, 62, 64, 61, 206, 207, 208, 26, 209, 77, 78, 79, 80, 210, 211, 212, 213, 214, 215, 216, 217, 218, 219, 220, 221, 15, 222, 56, 55, 223, 224, 225, 226, 227, 228, 229, 230, 231, 232, 233, 234, 235, 236, 237, 238, 239, 240, 241, 242, 243, 244, 245, 246, 247, 248, 249, 250, 251, 252, 253, 254, 255, 256, 257, 258, 259, 260, 261, 262, 263, 264, 265, 266, 267, 268, 269, 270, 271, 272, 273, 274, 275, 276, 277, 278, 279, 280, 281, 282, 283, 284, 285, 286, 287, 288, 289, 290, 291, 292, 293, 294, 295, 296, 297, 298, 69, 70, 299, 300, 301, 302, 303, 304, 305, 306, 307, 308, 309, 310, 311, 71, 312, 313, 314, 315, 72, 1114, 1115, 1116, 1117, 1118, 1119, 1120, 1121, 1122, 1123, 1165, 1166, 1167, 1168, 1177, 1178, 1179, 1180, 1181, 1182, 1183, 1184, 1185, 1186, 1187, 1163, 1164] (by decide +kernel) (by decide +kernel)
set_option maxRecDepth 20000 in
theorem gL_law_X9_fault : GoodIn wsL_law (wsV RL 25 RX9 yX9_fault wsX9_fault) := goodIn_app (goodIn_of _ (by decide +kernel)) ggL_law_X9_fault
set_option maxRecDepth 20000 in
theorem ggL_law_X10_fault : GoodIn wsL_law wsX10_fault := goodIn_r _ [319, 320, 321, 322, 323, 185, 324, 144, 325, 326, 327, 5, 328, 329, 330, 331, 332, 333, 334, 335, 145, 146, 336, 337, 338, 339, 340, 341, 342, 343, 344, 345, 346, 347, 348, 187, 188, 189, 349, 350, 351, 352, 353, 354, 355, 356, 357, 358, 359, 147, 148, 149, 1124, 1125, 1126, 1127, 1128, 1129, 1130, 1131, 1132, 1133, 1134, 1135, 1136, 1137, 1138, 1139, 1140, 1141, 1142, 1143, 1144, 1145, 1146, 1147, 1148, 1149, 1150, 1151, 1152, 1153, 1154, 1155, 1156, 1157, 1158, 1159, 1160, 1161, 1162] (by decide +kernel) (by decide +kernel)
set_option maxRecDepth 20000 in
theorem gL_law_X10_fault : GoodIn wsL_law (wsV RL 28 RX10 yX10_fault wsX10_fault) := goodIn_app (goodIn_of _ (by decide +kernel)) ggL_law_X10_fault
set_option maxRecDepth 20000 in
theorem ggL_law_X9_program : GoodIn wsL_law wsX9_program := goodIn_r _ [363, 20, 28, 27, 16, 174, 364, 365, 202, 203, 204, 19, 205, 63, 62, 64, 61, 206, 207, 208, 26, 209, 77, 78, 79, 80, 210, 211, 212, 213, 214, 215, 216, 217, 218, 219, 220, 221, 15, 222, 56, 55, 223, 224, 225, 226, 227, 228, 229, 230, 231, 232, 233, 234, 235, 236, 237, 238, 239, 240, 241, 242, 243, 244, 245, 246, 247, 248, 249, 250, 251, 252, 253, 254, 255, 256, 257, 258, 259, 260, 261, 262, 263, 264, 265, 266, 267, 268, 269, 270, 271, 272, 273, 274, 275, 276, 277, 278, 279, 280, 281, 282, 283, 284, 285, 286, 287, 288, 289, 290, 291, 292, 293, 294, 295, 296, 297, 298, 69, 70, 299, 300, 301, 302, 303, 304, 305, 306, 307, 308, 309, 310, 311, 71, 312, 313, 314, 315, 72, 366, 367, 368, 23, 369, 85, 92, 1114, 1115, 1116, 1117, 1118, 1119, 1120, 1121, 1122, 1123, 1163, 1164, 1169, 1170, 1171, 1172, 1173, 1174, 1175, 1176, 1177, 1178, 1179, 1180, 1181, 1182, 1183, 1184, 1185, 1186, 1187, 1165, 1166, 1167, 1168] (by decide +kernel) (by decide +kernel)
set_option maxRecDepth 20000 in
theorem gL_law_X9_program : GoodIn wsL_law (wsV RL 29 RX9 yX9_program wsX9_program) := goodIn_app (goodIn_of _ (by decide +kernel)) ggL_law_X9_program
set_option maxRecDepth 20000 in
theorem ggL_law_X10_program : GoodIn wsL_law wsX10_program := goodIn_r _ [373, 321, 374, 322, 151, 375, 145, 146, 147, 148, 149, 150, 185, 376, 317, 318, 5, 319, 320, 323, 324, 144, 325, 326, 327, 328, 329, 330, 331, 332, 333, 334, 335, 336, 337, 338, 339, 340, 341, 342, 343, 344, 345, 346, 347, 348, 187, 188, 189, 349, 350, 351, 352, 353, 354, 355, 356, 357, 358, 359, 1124, 1125, 1126, 1127, 1128, 1129, 1130, 1131, 1132, 1133, 1134, 1135, 1136, 1137, 1138, 1139, 1140, 1141, 1142, 1143, 1144, 1145, 1146, 1147, 1148, 1149, 1150, 1151, 1152, 1153, 1154, 1155, 1156, 1157, 1158, 1159, 1160, 1161, 1162] (by decide +kernel) (by decide +kernel)
set_option maxRecDepth 20000 in
theorem gL_law_X10_program : GoodIn wsL_law (wsV RL 32 RX10 yX10_program wsX10_program) := goodIn_app (goodIn_of _ (by decide +kernel)) ggL_law_X10_program
set_option maxRecDepth 20000 in
theorem ggL_law_X9_draw : GoodIn wsL_law wsX9_draw := goodIn_r _ [380, 27, 364, 381, 382, 1114, 1115, 1116, 1117, 1118, 1119, 1120, 1121, 1122, 1123, 1169, 1170, 1171, 1172, 1173, 1174, 1175, 1176, 1177, 1178, 1179, 1180, 1181, 1182, 1183, 1184, 1185, 1186, 1187] (by decide +kernel) (by decide +kernel)
set_option maxRecDepth 20000 in
theorem gL_law_X9_draw : GoodIn wsL_law (wsV RL 33 RX9 yX9_draw wsX9_draw) := goodIn_app (goodIn_of _ (by decide +kernel)) ggL_law_X9_draw
set_option maxRecDepth 20000 in
theorem ggL_law_X10_draw : GoodIn wsL_law wsX10_draw := goodIn_r _ [386, 375, 150, 187, 188, 5, 189, 1124, 1125, 1126, 1127, 1128, 1129, 1130, 1131, 1132, 1133, 1134, 1135, 1136, 1137, 1138, 1139, 1140, 1141, 1142, 1143, 1144, 1145, 1146, 1147, 1148, 1149, 1150, 1151, 1152, 1153, 1154, 1155, 1156, 1157, 1158, 1159, 1160, 1161, 1162] (by decide +kernel) (by decide +kernel)
set_option maxRecDepth 20000 in
theorem gL_law_X10_draw : GoodIn wsL_law (wsV RL 37 RX10 yX10_draw wsX10_draw) := goodIn_app (goodIn_of _ (by decide +kernel)) ggL_law_X10_draw
set_option maxRecDepth 20000 in
theorem ggL_law_X9_inputs : GoodIn wsL_law wsX9_inputs := goodIn_r _ [390, 27, 391, 392, 393, 23, 394, 90, 91, 92, 395, 396, 397, 398, 1114, 1115, 1116, 1117, 1118, 1119, 1120, 1121, 1122, 1123, 1169, 1170, 1171, 1172, 1173, 1174, 1175, 1176] (by decide +kernel) (by decide +kernel)
set_option maxRecDepth 20000 in
theorem gL_law_X9_inputs : GoodIn wsL_law (wsV RL 38 RX9 yX9_inputs wsX9_inputs) := goodIn_app (goodIn_of _ (by decide +kernel)) ggL_law_X9_inputs
set_option maxRecDepth 20000 in
theorem ggL_law_X10_inputs : GoodIn wsL_law wsX10_inputs := goodIn_r _ [402, 403, 404, 405, 187, 188, 5, 189, 1124, 1125, 1126, 1127, 1128, 1129, 1130, 1131, 1132, 1133, 1134, 1135, 1136, 1137, 1138, 1139, 1140, 1141, 1142, 1143, 1144, 1145, 1146, 1147, 1148, 1149, 1150, 1151, 1152, 1153, 1154, 1155, 1156, 1157, 1158, 1159, 1160, 1161, 1162] (by decide +kernel) (by decide +kernel)
set_option maxRecDepth 20000 in
theorem gL_law_X10_inputs : GoodIn wsL_law (wsV RL 42 RX10 yX10_inputs wsX10_inputs) := goodIn_app (goodIn_of _ (by decide +kernel)) ggL_law_X10_inputs
set_option maxRecDepth 20000 in
theorem ggL_law_X9_run : GoodIn wsL_law wsX9_run := goodIn_r _ [409, 27, 364, 410, 411, 412, 23, 413, 414, 396, 397, 398, 90, 415, 416, 417, 418, 85, 419, 420, 421, 422, 26, 423, 74, 77, 69, 71, 70, 424, 425, 426, 427, 78, 72, 73, 428, 429, 430, 431, 432, 433, 434, 435, 436, 437, 438, 439, 1114, 1115, 1116, 1117, 1118, 1119, 1120, 1121, 1122, 1123, 1169, 1170, 1171, 1172, 1173, 1174, 1175, 1176, 1177, 1178, 1179, 1180, 1181, 1182, 1183, 1184, 1185, 1186, 1187] (by decide +kernel) (by decide +kernel)
set_option maxRecDepth 20000 in
theorem gL_law_X9_run : GoodIn wsL_law (wsV RL 43 RX9 yX9_run wsX9_run) := goodIn_app (goodIn_of _ (by decide +kernel)) ggL_law_X9_run
set_option maxRecDepth 20000 in
theorem ggL_law_X10_run : GoodIn wsL_law wsX10_run := goodIn_r _ [443, 444, 445, 446, 5, 447, 404, 187, 188, 189, 448, 449, 450, 451, 151, 452, 453, 454, 455, 163, 374, 147, 145, 148, 146, 149, 456, 457, 458, 459, 375, 150, 1124, 1125, 1126, 1127, 1128, 1129, 1130, 1131, 1132, 1133, 1134, 1135, 1136, 1137, 1138, 1139, 1140, 1141, 1142, 1143, 1144, 1145, 1146, 1147, 1148, 1149, 1150, 1151, 1152, 1153, 1154, 1155, 1156, 1157, 1158, 1159, 1160, 1161, 1162] (by decide +kernel) (by decide +kernel)
set_option maxRecDepth 20000 in
theorem gL_law_X10_run : GoodIn wsL_law (wsV RL 46 RX10 yX10_run wsX10_run) := goodIn_app (goodIn_of _ (by decide +kernel)) ggL_law_X10_run
set_option maxRecDepth 20000 in
theorem ggL_law_X9_right : GoodIn wsL_law wsX9_right := goodIn_r _ [463, 27, 410, 411, 412, 23, 413, 414, 396, 397, 398, 90, 415, 416, 417, 418, 85, 419, 464, 465, 466, 467, 468, 421, 422, 26, 423, 74, 77, 69, 71, 70, 424, 425, 426, 427, 78, 72, 73, 428, 429, 430, 431, 432, 433, 434, 435, 436, 437, 438, 439, 469, 470, 471, 472, 91, 1114, 1115, 1116, 1117, 1118, 1119, 1120, 1121, 1122, 1123, 1169, 1170, 1171, 1172, 1173, 1174, 1175, 1176, 1177, 1178, 1179, 1180, 1181, 1182, 1183, 1184, 1185, 1186, 1187] (by decide +kernel) (by decide +kernel)
set_option maxRecDepth 20000 in
theorem gL_law_X9_right : GoodIn wsL_law (wsV RL 47 RX9 yX9_right wsX9_right) := goodIn_app (goodIn_of _ (by decide +kernel)) ggL_law_X9_right
set_option maxRecDepth 20000 in
theorem ggL_law_X10_right : GoodIn wsL_law wsX10_right := goodIn_r _ [476, 444, 445, 446, 5, 447, 404, 187, 188, 189, 448, 449, 450, 451, 151, 477, 478, 479, 480, 405, 452, 453, 454, 455, 163, 374, 147, 145, 148, 146, 149, 456, 457, 458, 459, 375, 150, 1124, 1125, 1126, 1127, 1128, 1129, 1130, 1131, 1132, 1133, 1134, 1135, 1136, 1137, 1138, 1139, 1140, 1141, 1142, 1143, 1144, 1145, 1146, 1147, 1148, 1149, 1150, 1151, 1152, 1153, 1154, 1155, 1156, 1157, 1158, 1159, 1160, 1161, 1162] (by decide +kernel) (by decide +kernel)
set_option maxRecDepth 20000 in
theorem gL_law_X10_right : GoodIn wsL_law (wsV RL 50 RX10 yX10_right wsX10_right) := goodIn_app (goodIn_of _ (by decide +kernel)) ggL_law_X10_right
set_option maxRecDepth 20000 in
theorem ggL_law_X9_odds : GoodIn wsL_law wsX9_odds := goodIn_r _ [484, 27, 364, 365, 410, 411, 412, 23, 413, 414, 396, 397, 398, 90, 485, 486, 2, 487, 488, 489, 490, 491, 492, 493, 494, 495, 92, 87, 85, 419, 496, 86, 497, 429, 430, 431, 498, 499, 500, 501, 502, 503, 26, 504, 80, 79, 76, 505, 421, 422, 423, 74, 77, 69, 71, 70, 424, 425, 426, 427, 78, 72, 73, 428, 432, 433, 434, 435, 436, 437, 438, 439, 469, 470, 471, 472, 91, 506, 507, 508, 509, 510, 511, 512, 513, 514, 515, 516, 517, 518, 519, 1114, 1115, 1116, 1117, 1118, 1119, 1120, 1121, 1122, 1123, 1169, 1170, 1171, 1172, 1173, 1174, 1175, 1176, 1177, 1178, 1179, 1180, 1181, 1182, 1183, 1184, 1185, 1186, 1187] (by decide +kernel) (by decide +kernel)
set_option maxRecDepth 20000 in
theorem gL_law_X9_odds : GoodIn wsL_law (wsV RL 51 RX9 yX9_odds wsX9_odds) := goodIn_app (goodIn_of _ (by decide +kernel)) ggL_law_X9_odds
set_option maxRecDepth 20000 in
theorem ggL_law_X10_odds : GoodIn wsL_law wsX10_odds := goodIn_r _ [523, 151, 444, 445, 446, 5, 447, 404, 187, 188, 189, 524, 525, 526, 527, 528, 529, 530, 164, 477, 478, 479, 480, 405, 452, 453, 454, 455, 163, 374, 147, 145, 148, 146, 149, 456, 457, 458, 459, 375, 150, 531, 532, 533, 534, 535, 536, 537, 538, 539, 540, 1124, 1125, 1126, 1127, 1128, 1129, 1130, 1131, 1132, 1133, 1134, 1135, 1136, 1137, 1138, 1139, 1140, 1141, 1142, 1143, 1144, 1145, 1146, 1147, 1148, 1149, 1150, 1151, 1152, 1153, 1154, 1155, 1156, 1157, 1158, 1159, 1160, 1161, 1162] (by decide +kernel) (by decide +kernel)
set_option maxRecDepth 20000 in
theorem gL_law_X10_odds : GoodIn wsL_law (wsV RL 54 RX10 yX10_odds wsX10_odds) := goodIn_app (goodIn_of _ (by decide +kernel)) ggL_law_X10_odds
set_option maxRecDepth 20000 in
theorem ggL_law_X9_worst : GoodIn wsL_law wsX9_worst := goodIn_r _ [544, 27, 364, 365, 488, 489, 490, 2, 491, 492, 493, 494, 23, 495, 92, 87, 85, 419, 496, 86, 497, 429, 430, 431, 498, 499, 500, 414, 396, 397, 398, 90, 501, 502, 503, 26, 504, 80, 79, 76, 505, 421, 422, 423, 74, 77, 69, 71, 70, 424, 425, 426, 427, 78, 72, 73, 428, 432, 433, 434, 435, 436, 437, 438, 439, 469, 470, 471, 472, 91, 545, 546, 547, 548, 549, 507, 508, 509, 510, 511, 512, 513, 514, 515, 516, 506, 517, 518, 519, 1114, 1115, 1116, 1117, 1118, 1119, 1120, 1121, 1122, 1123, 1169, 1170, 1171, 1172, 1173, 1174, 1175, 1176, 1177, 1178, 1179, 1180, 1181, 1182, 1183, 1184, 1185, 1186, 1187] (by decide +kernel) (by decide +kernel)
set_option maxRecDepth 20000 in
theorem gL_law_X9_worst : GoodIn wsL_law (wsV RL 55 RX9 yX9_worst wsX9_worst) := goodIn_app (goodIn_of _ (by decide +kernel)) ggL_law_X9_worst
set_option maxRecDepth 20000 in
theorem ggL_law_X10_worst : GoodIn wsL_law wsX10_worst := goodIn_r _ [553, 554, 404, 151, 187, 188, 5, 189, 527, 528, 529, 530, 164, 477, 478, 479, 480, 405, 452, 453, 454, 455, 163, 374, 147, 145, 148, 146, 149, 456, 457, 458, 459, 375, 150, 531, 532, 533, 534, 535, 536, 537, 538, 539, 540, 1124, 1125, 1126, 1127, 1128, 1129, 1130, 1131, 1132, 1133, 1134, 1135, 1136, 1137, 1138, 1139, 1140, 1141, 1142, 1143, 1144, 1145, 1146, 1147, 1148, 1149, 1150, 1151, 1152, 1153, 1154, 1155, 1156, 1157, 1158, 1159, 1160, 1161, 1162] (by decide +kernel) (by decide +kernel)
set_option maxRecDepth 20000 in
theorem gL_law_X10_worst : GoodIn wsL_law (wsV RL 58 RX10 yX10_worst wsX10_worst) := goodIn_app (goodIn_of _ (by decide +kernel)) ggL_law_X10_worst
set_option maxRecDepth 20000 in
theorem ggL_law_X9_mean : GoodIn wsL_law wsX9_mean := goodIn_r _ [558, 27, 364, 365, 485, 486, 2, 487, 488, 489, 490, 491, 492, 493, 494, 23, 495, 92, 87, 85, 419, 496, 86, 497, 429, 430, 431, 498, 499, 500, 414, 396, 397, 398, 90, 501, 502, 503, 26, 504, 80, 79, 76, 505, 421, 422, 423, 74, 77, 69, 71, 70, 424, 425, 426, 427, 78, 72, 73, 428, 432, 433, 434, 435, 436, 437, 438, 439, 469, 470, 471, 472, 91, 559, 560, 561, 562, 563, 118, 119, 120, 121, 122, 123, 395, 517, 518, 519, 1114, 1115, 1116, 1117, 1118, 1119, 1120, 1121, 1122, 1123, 1169, 1170, 1171, 1172, 1173, 1174, 1175, 1176, 1177, 1178, 1179, 1180, 1181, 1182, 1183, 1184, 1185, 1186, 1187] (by decide +kernel) (by decide +kernel)
set_option maxRecDepth 20000 in
theorem gL_law_X9_mean : GoodIn wsL_law (wsV RL 59 RX9 yX9_mean wsX9_mean) := goodIn_app (goodIn_of _ (by decide +kernel)) ggL_law_X9_mean
set_option maxRecDepth 20000 in
theorem ggL_law_X10_mean : GoodIn wsL_law wsX10_mean := goodIn_r _ [567, 151, 404, 524, 525, 5, 526, 187, 188, 189, 527, 528, 529, 530, 164, 477, 478, 479, 480, 405, 452, 453, 454, 455, 163, 374, 147, 145, 148, 146, 149, 456, 457, 458, 459, 375, 150, 568, 569, 570, 571, 531, 532, 533, 534, 535, 536, 537, 538, 539, 540, 1124, 1125, 1126, 1127, 1128, 1129, 1130, 1131, 1132, 1133, 1134, 1135, 1136, 1137, 1138, 1139, 1140, 1141, 1142, 1143, 1144, 1145, 1146, 1147, 1148, 1149, 1150, 1151, 1152, 1153, 1154, 1155, 1156, 1157, 1158, 1159, 1160, 1161, 1162] (by decide +kernel) (by decide +kernel)
set_option maxRecDepth 20000 in
theorem gL_law_X10_mean : GoodIn wsL_law (wsV RL 62 RX10 yX10_mean wsX10_mean) := goodIn_app (goodIn_of _ (by decide +kernel)) ggL_law_X10_mean
set_option maxRecDepth 20000 in
theorem ggL_law_X9_seen : GoodIn wsL_law wsX9_seen := goodIn_r _ [575, 27, 364, 381, 365, 485, 486, 2, 487, 488, 489, 490, 491, 492, 493, 494, 23, 495, 92, 87, 85, 419, 496, 86, 497, 429, 430, 431, 498, 499, 500, 414, 396, 397, 398, 90, 501, 502, 503, 26, 504, 80, 79, 76, 505, 421, 422, 423, 74, 77, 69, 71, 70, 424, 425, 426, 427, 78, 72, 73, 428, 432, 433, 434, 435, 436, 437, 438, 439, 469, 470, 471, 472, 91, 576, 577, 578, 579, 580, 581, 582, 583, 584, 585, 586, 587, 588, 589, 590, 591, 592, 593, 510, 511, 512, 513, 514, 515, 516, 517, 518, 519, 1114, 1115, 1116, 1117, 1118, 1119, 1120, 1121, 1122, 1123, 1169, 1170, 1171, 1172, 1173, 1174, 1175, 1176, 1177, 1178, 1179, 1180, 1181, 1182, 1183, 1184, 1185, 1186, 1187] (by decide +kernel) (by decide +kernel)
set_option maxRecDepth 20000 in
theorem gL_law_X9_seen : GoodIn wsL_law (wsV RL 63 RX9 yX9_seen wsX9_seen) := goodIn_app (goodIn_of _ (by decide +kernel)) ggL_law_X9_seen
set_option maxRecDepth 20000 in
theorem ggL_law_X10_seen : GoodIn wsL_law wsX10_seen := goodIn_r _ [597, 375, 151, 150, 598, 404, 187, 188, 5, 189, 524, 525, 526, 527, 528, 529, 530, 164, 477, 478, 479, 480, 405, 452, 453, 454, 455, 163, 374, 147, 145, 148, 146, 149, 456, 457, 458, 459, 531, 532, 533, 534, 535, 536, 537, 538, 539, 540, 1124, 1125, 1126, 1127, 1128, 1129, 1130, 1131, 1132, 1133, 1134, 1135, 1136, 1137, 1138, 1139, 1140, 1141, 1142, 1143, 1144, 1145, 1146, 1147, 1148, 1149, 1150, 1151, 1152, 1153, 1154, 1155, 1156, 1157, 1158, 1159, 1160, 1161, 1162] (by decide +kernel) (by decide +kernel)
set_option maxRecDepth 20000 in
theorem gL_law_X10_seen : GoodIn wsL_law (wsV RL 66 RX10 yX10_seen wsX10_seen) := goodIn_app (goodIn_of _ (by decide +kernel)) ggL_law_X10_seen
