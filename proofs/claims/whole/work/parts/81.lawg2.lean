set_option maxRecDepth 20000 in
theorem ggL_law_X9_kept : GoodIn wsL_law wsX9_kept := goodIn_r _ [602, 27, 603, 604, 2, 605, 488, 489, 490, 491, 492, 493, 494, 23, 495, 92, 87, 85, 419, 496, 86, 497, 429, 430, 431, 498, 499, 500, 414, 396, 397, 398, 90, 501, 502, 503, 26, 504, 80, 79, 76, 505, 421, 422, 423, 74, 77, 69, 71, 70, 424, 425, 426, 427, 78, 72, 73, 428, 432, 433, 434, 435, 436, 437, 438, 439, 469, 470, 471, 472, 91, 606, 607, 608, 609, 580, 585, 581, 582, 583, 584, 610, 611, 612, 613, 614, 560, 561, 562, 563, 118, 119, 120, 121, 122, 123, 559, 1114, 1115, 1116, 1117, 1118, 1119, 1120, 1121, 1122, 1123, 1169, 1170, 1171, 1172, 1173, 1174, 1175, 1176, 1177, 1178, 1179, 1180, 1181, 1182, 1183, 1184, 1185, 1186, 1187] (by decide +kernel) (by decide +kernel)
set_option maxRecDepth 20000 in
theorem gL_law_X9_kept : GoodIn wsL_law (wsV RL 67 RX9 yX9_kept wsX9_kept) := goodIn_app (goodIn_of _ (by decide +kernel)) ggL_law_X9_kept
set_option maxRecDepth 20000 in
theorem ggL_law_X10_kept : GoodIn wsL_law wsX10_kept := goodIn_r _ [618, 151, 375, 150, 187, 188, 5, 189, 527, 528, 529, 530, 404, 164, 477, 478, 479, 480, 405, 452, 453, 454, 455, 163, 374, 147, 145, 148, 146, 149, 456, 457, 458, 459, 568, 569, 570, 571, 531, 532, 533, 534, 1124, 1125, 1126, 1127, 1128, 1129, 1130, 1131, 1132, 1133, 1134, 1135, 1136, 1137, 1138, 1139, 1140, 1141, 1142, 1143, 1144, 1145, 1146, 1147, 1148, 1149, 1150, 1151, 1152, 1153, 1154, 1155, 1156, 1157, 1158, 1159, 1160, 1161, 1162] (by decide +kernel) (by decide +kernel)
set_option maxRecDepth 20000 in
theorem gL_law_X10_kept : GoodIn wsL_law (wsV RL 70 RX10 yX10_kept wsX10_kept) := goodIn_app (goodIn_of _ (by decide +kernel)) ggL_law_X10_kept
set_option maxRecDepth 20000 in
theorem ggL_law_X9_good : GoodIn wsL_law wsX9_good := goodIn_r _ [622, 603, 604, 2, 605, 488, 489, 490, 491, 27, 492, 493, 494, 23, 495, 92, 87, 85, 419, 496, 86, 497, 429, 430, 431, 498, 499, 500, 414, 396, 397, 398, 90, 501, 502, 503, 26, 504, 80, 79, 76, 505, 421, 422, 423, 74, 77, 69, 71, 70, 424, 425, 426, 427, 78, 72, 73, 428, 432, 433, 434, 435, 436, 437, 438, 439, 469, 470, 471, 472, 91, 623, 624, 625, 626, 627, 628, 629, 630, 563, 118, 119, 120, 121, 122, 123, 631, 632, 633, 634, 1114, 1115, 1116, 1117, 1118, 1119, 1120, 1121, 1122, 1123, 1169, 1170, 1171, 1172, 1173, 1174, 1175, 1176, 1177, 1178, 1179, 1180, 1181, 1182, 1183, 1184, 1185, 1186, 1187] (by decide +kernel) (by decide +kernel)
set_option maxRecDepth 20000 in
theorem gL_law_X9_good : GoodIn wsL_law (wsV RL 71 RX9 yX9_good wsX9_good) := goodIn_app (goodIn_of _ (by decide +kernel)) ggL_law_X9_good
set_option maxRecDepth 20000 in
theorem ggL_law_X10_good : GoodIn wsL_law wsX10_good := goodIn_r _ [638, 151, 404, 187, 188, 5, 189, 527, 528, 529, 530, 164, 477, 478, 479, 480, 405, 452, 453, 454, 455, 163, 374, 147, 145, 148, 146, 149, 456, 457, 458, 459, 375, 150, 568, 569, 570, 571, 531, 532, 533, 534, 1124, 1125, 1126, 1127, 1128, 1129, 1130, 1131, 1132, 1133, 1134, 1135, 1136, 1137, 1138, 1139, 1140, 1141, 1142, 1143, 1144, 1145, 1146, 1147, 1148, 1149, 1150, 1151, 1152, 1153, 1154, 1155, 1156, 1157, 1158, 1159, 1160, 1161, 1162] (by decide +kernel) (by decide +kernel)
set_option maxRecDepth 20000 in
theorem gL_law_X10_good : GoodIn wsL_law (wsV RL 74 RX10 yX10_good wsX10_good) := goodIn_app (goodIn_of _ (by decide +kernel)) ggL_law_X10_good
set_option maxRecDepth 20000 in
theorem ggL_law_X9_together : GoodIn wsL_law wsX9_together := goodIn_r _ [642, 27, 643, 488, 489, 490, 2, 491, 492, 493, 494, 23, 495, 92, 87, 85, 419, 496, 86, 497, 429, 430, 431, 498, 499, 500, 414, 396, 397, 398, 90, 501, 502, 503, 26, 504, 80, 79, 76, 505, 421, 422, 423, 74, 77, 69, 71, 70, 424, 425, 426, 427, 78, 72, 73, 428, 432, 433, 434, 435, 436, 437, 438, 439, 469, 470, 471, 472, 91, 644, 645, 646, 647, 88, 648, 649, 650, 651, 563, 118, 119, 120, 121, 122, 123, 1114, 1115, 1116, 1117, 1118, 1119, 1120, 1121, 1122, 1123, 1169, 1170, 1171, 1172, 1173, 1174, 1175, 1176, 1177, 1178, 1179, 1180, 1181, 1182, 1183, 1184, 1185, 1186, 1187] (by decide +kernel) (by decide +kernel)
set_option maxRecDepth 20000 in
theorem gL_law_X9_together : GoodIn wsL_law (wsV RL 75 RX9 yX9_together wsX9_together) := goodIn_app (goodIn_of _ (by decide +kernel)) ggL_law_X9_together
set_option maxRecDepth 20000 in
theorem ggL_law_X10_together : GoodIn wsL_law wsX10_together := goodIn_r _ [655, 166, 404, 151, 164, 167, 527, 528, 529, 5, 530, 477, 478, 479, 480, 405, 452, 453, 454, 455, 163, 374, 147, 145, 148, 146, 149, 456, 457, 458, 459, 375, 150, 656, 657, 658, 659, 1124, 1125, 1126, 1127, 1128, 1129, 1130, 1131, 1132, 1133, 1134, 1135, 1136, 1137, 1138, 1139, 1140, 1141, 1142, 1143, 1144, 1145, 1146, 1147, 1148, 1149, 1150, 1151, 1152, 1153, 1154, 1155, 1156, 1157, 1158, 1159, 1160, 1161, 1162] (by decide +kernel) (by decide +kernel)
set_option maxRecDepth 20000 in
theorem gL_law_X10_together : GoodIn wsL_law (wsV RL 78 RX10 yX10_together wsX10_together) := goodIn_app (goodIn_of _ (by decide +kernel)) ggL_law_X10_together
set_option maxRecDepth 20000 in
theorem ggL_law_X9_again : GoodIn wsL_law wsX9_again := goodIn_r _ [663, 664, 665, 2, 666, 488, 489, 490, 491, 27, 492, 493, 494, 23, 495, 92, 87, 85, 419, 496, 86, 497, 429, 430, 431, 498, 499, 500, 414, 396, 397, 398, 90, 501, 502, 503, 26, 504, 80, 79, 76, 505, 421, 422, 423, 74, 77, 69, 71, 70, 424, 425, 426, 427, 78, 72, 73, 428, 432, 433, 434, 435, 436, 437, 438, 439, 469, 470, 471, 472, 91, 667, 668, 669, 670, 89, 671, 546, 547, 548, 549, 507, 508, 509, 510, 511, 512, 513, 514, 515, 516, 672, 673, 674, 675, 676, 677, 678, 679, 680, 681, 682, 1114, 1115, 1116, 1117, 1118, 1119, 1120, 1121, 1122, 1123, 1169, 1170, 1171, 1172, 1173, 1174, 1175, 1176, 1177, 1178, 1179, 1180, 1181, 1182, 1183, 1184, 1185, 1186, 1187] (by decide +kernel) (by decide +kernel)
set_option maxRecDepth 20000 in
theorem gL_law_X9_again : GoodIn wsL_law (wsV RL 79 RX9 yX9_again wsX9_again) := goodIn_app (goodIn_of _ (by decide +kernel)) ggL_law_X9_again
set_option maxRecDepth 20000 in
theorem ggL_law_X10_again : GoodIn wsL_law wsX10_again := goodIn_r _ [686, 404, 151, 687, 688, 5, 689, 690, 187, 188, 189, 527, 528, 529, 530, 164, 477, 478, 479, 480, 405, 452, 453, 454, 455, 163, 374, 147, 145, 148, 146, 149, 456, 457, 458, 459, 375, 150, 531, 532, 533, 534, 691, 692, 693, 694, 695, 696, 1124, 1125, 1126, 1127, 1128, 1129, 1130, 1131, 1132, 1133, 1134, 1135, 1136, 1137, 1138, 1139, 1140, 1141, 1142, 1143, 1144, 1145, 1146, 1147, 1148, 1149, 1150, 1151, 1152, 1153, 1154, 1155, 1156, 1157, 1158, 1159, 1160, 1161, 1162] (by decide +kernel) (by decide +kernel)
set_option maxRecDepth 20000 in
theorem gL_law_X10_again : GoodIn wsL_law (wsV RL 82 RX10 yX10_again wsX10_again) := goodIn_app (goodIn_of _ (by decide +kernel)) ggL_law_X10_again
set_option maxRecDepth 20000 in
theorem ggL_law_X9_cap : GoodIn wsL_law wsX9_cap := goodIn_r _ [700, 664, 665, 2, 666, 488, 489, 490, 491, 27, 492, 493, 494, 23, 495, 92, 87, 85, 419, 496, 86, 497, 429, 430, 431, 498, 499, 500, 414, 396, 397, 398, 90, 501, 502, 503, 26, 504, 80, 79, 76, 505, 421, 422, 423, 74, 77, 69, 71, 70, 424, 425, 426, 427, 78, 72, 73, 428, 432, 433, 434, 435, 436, 437, 438, 439, 469, 470, 471, 472, 91, 701, 702, 703, 704, 671, 546, 547, 548, 549, 507, 508, 509, 510, 511, 512, 513, 514, 515, 516, 1114, 1115, 1116, 1117, 1118, 1119, 1120, 1121, 1122, 1123, 1169, 1170, 1171, 1172, 1173, 1174, 1175, 1176, 1177, 1178, 1179, 1180, 1181, 1182, 1183, 1184, 1185, 1186, 1187] (by decide +kernel) (by decide +kernel)
set_option maxRecDepth 20000 in
theorem gL_law_X9_cap : GoodIn wsL_law (wsV RL 83 RX9 yX9_cap wsX9_cap) := goodIn_app (goodIn_of _ (by decide +kernel)) ggL_law_X9_cap
set_option maxRecDepth 20000 in
theorem ggL_law_X10_cap : GoodIn wsL_law wsX10_cap := goodIn_r _ [708, 404, 151, 687, 688, 5, 689, 690, 187, 188, 189, 527, 528, 529, 530, 164, 477, 478, 479, 480, 405, 452, 453, 454, 455, 163, 374, 147, 145, 148, 146, 149, 456, 457, 458, 459, 375, 150, 531, 532, 533, 534, 694, 695, 696, 1124, 1125, 1126, 1127, 1128, 1129, 1130, 1131, 1132, 1133, 1134, 1135, 1136, 1137, 1138, 1139, 1140, 1141, 1142, 1143, 1144, 1145, 1146, 1147, 1148, 1149, 1150, 1151, 1152, 1153, 1154, 1155, 1156, 1157, 1158, 1159, 1160, 1161, 1162] (by decide +kernel) (by decide +kernel)
set_option maxRecDepth 20000 in
theorem gL_law_X10_cap : GoodIn wsL_law (wsV RL 86 RX10 yX10_cap wsX10_cap) := goodIn_app (goodIn_of _ (by decide +kernel)) ggL_law_X10_cap
set_option maxRecDepth 20000 in
theorem ggL_law_X9_knots : GoodIn wsL_law wsX9_knots := goodIn_r _ [712, 32, 36, 713, 714, 715, 716, 31, 717, 103, 104, 105, 1114, 1115, 1116, 1117, 1118, 1119, 1120, 1121, 1122, 1123, 1197, 1198, 1188, 1189, 1190, 1191, 1192, 1193, 1194, 1195, 1196] (by decide +kernel) (by decide +kernel)
set_option maxRecDepth 20000 in
theorem gL_law_X9_knots : GoodIn wsL_law (wsV RL 87 RX9 yX9_knots wsX9_knots) := goodIn_app (goodIn_of _ (by decide +kernel)) ggL_law_X9_knots
set_option maxRecDepth 20000 in
theorem ggL_law_X10_knots : GoodIn wsL_law wsX10_knots := goodIn_r _ [721, 184, 152, 722, 723, 724, 187, 188, 5, 189, 1124, 1125, 1126, 1127, 1128, 1129, 1130, 1131, 1132, 1133, 1134, 1135, 1136, 1137, 1138, 1139, 1140, 1141, 1142, 1143, 1144, 1145, 1146, 1147, 1148, 1149, 1150, 1151, 1152, 1153, 1154, 1155, 1156, 1157, 1158, 1159, 1160, 1161, 1162] (by decide +kernel) (by decide +kernel)
set_option maxRecDepth 20000 in
theorem gL_law_X10_knots : GoodIn wsL_law (wsV RL 90 RX10 yX10_knots wsX10_knots) := goodIn_app (goodIn_of _ (by decide +kernel)) ggL_law_X10_knots
set_option maxRecDepth 20000 in
theorem ggL_law_X9_edge : GoodIn wsL_law wsX9_edge := goodIn_r _ [728, 32, 729, 730, 731, 31, 732, 103, 733, 734, 735, 736, 104, 97, 98, 99, 1114, 1115, 1116, 1117, 1118, 1119, 1120, 1121, 1122, 1123, 1188, 1189, 1190, 1191, 1192, 1193, 1194, 1195, 1196] (by decide +kernel) (by decide +kernel)
set_option maxRecDepth 20000 in
theorem gL_law_X9_edge : GoodIn wsL_law (wsV RL 91 RX9 yX9_edge wsX9_edge) := goodIn_app (goodIn_of _ (by decide +kernel)) ggL_law_X9_edge
set_option maxRecDepth 20000 in
theorem ggL_law_X10_edge : GoodIn wsL_law wsX10_edge := goodIn_r _ [740, 741, 722, 153, 154, 155, 742, 743, 744, 5, 745, 152, 187, 188, 189, 1124, 1125, 1126, 1127, 1128, 1129, 1130, 1131, 1132, 1133, 1134, 1135, 1136, 1137, 1138, 1139, 1140, 1141, 1142, 1143, 1144, 1145, 1146, 1147, 1148, 1149, 1150, 1151, 1152, 1153, 1154, 1155, 1156, 1157, 1158, 1159, 1160, 1161, 1162] (by decide +kernel) (by decide +kernel)
set_option maxRecDepth 20000 in
theorem gL_law_X10_edge : GoodIn wsL_law (wsV RL 95 RX10 yX10_edge wsX10_edge) := goodIn_app (goodIn_of _ (by decide +kernel)) ggL_law_X10_edge
set_option maxRecDepth 20000 in
theorem ggL_law_X9_cord : GoodIn wsL_law wsX9_cord := goodIn_r _ [749, 32, 750, 751, 752, 31, 753, 103, 754, 118, 119, 120, 121, 122, 123, 755, 756, 757, 758, 105, 100, 1114, 1115, 1116, 1117, 1118, 1119, 1120, 1121, 1122, 1123, 1188, 1189, 1190, 1191, 1192, 1193, 1194, 1195, 1196] (by decide +kernel) (by decide +kernel)
set_option maxRecDepth 20000 in
theorem gL_law_X9_cord : GoodIn wsL_law (wsV RL 96 RX9 yX9_cord wsX9_cord) := goodIn_app (goodIn_of _ (by decide +kernel)) ggL_law_X9_cord
set_option maxRecDepth 20000 in
theorem ggL_law_X10_cord : GoodIn wsL_law wsX10_cord := goodIn_r _ [762, 723, 156, 763, 764, 765, 5, 766, 152, 187, 188, 189, 767, 768, 769, 1124, 1125, 1126, 1127, 1128, 1129, 1130, 1131, 1132, 1133, 1134, 1135, 1136, 1137, 1138, 1139, 1140, 1141, 1142, 1143, 1144, 1145, 1146, 1147, 1148, 1149, 1150, 1151, 1152, 1153, 1154, 1155, 1156, 1157, 1158, 1159, 1160, 1161, 1162] (by decide +kernel) (by decide +kernel)
set_option maxRecDepth 20000 in
theorem gL_law_X10_cord : GoodIn wsL_law (wsV RL 99 RX10 yX10_cord wsX10_cord) := goodIn_app (goodIn_of _ (by decide +kernel)) ggL_law_X10_cord
set_option maxRecDepth 20000 in
theorem ggL_law_X9_measure : GoodIn wsL_law wsX9_measure := goodIn_r _ [773, 32, 603, 604, 2, 605, 750, 751, 752, 31, 753, 103, 774, 775, 776, 777, 778, 779, 780, 781, 104, 99, 97, 98, 782, 783, 784, 785, 105, 100, 1114, 1115, 1116, 1117, 1118, 1119, 1120, 1121, 1122, 1123, 1188, 1189, 1190, 1191, 1192, 1193, 1194, 1195, 1196] (by decide +kernel) (by decide +kernel)
set_option maxRecDepth 20000 in
theorem gL_law_X9_measure : GoodIn wsL_law (wsV RL 100 RX9 yX9_measure wsX9_measure) := goodIn_app (goodIn_of _ (by decide +kernel)) ggL_law_X9_measure
set_option maxRecDepth 20000 in
theorem ggL_law_X10_measure : GoodIn wsL_law wsX10_measure := goodIn_r _ [789, 187, 188, 5, 189, 763, 764, 765, 766, 152, 790, 791, 792, 793, 722, 153, 154, 155, 723, 156, 1124, 1125, 1126, 1127, 1128, 1129, 1130, 1131, 1132, 1133, 1134, 1135, 1136, 1137, 1138, 1139, 1140, 1141, 1142, 1143, 1144, 1145, 1146, 1147, 1148, 1149, 1150, 1151, 1152, 1153, 1154, 1155, 1156, 1157, 1158, 1159, 1160, 1161, 1162] (by decide +kernel) (by decide +kernel)
set_option maxRecDepth 20000 in
theorem gL_law_X10_measure : GoodIn wsL_law (wsV RL 103 RX10 yX10_measure wsX10_measure) := goodIn_app (goodIn_of _ (by decide +kernel)) ggL_law_X10_measure
set_option maxRecDepth 20000 in
theorem ggL_law_X9_expect : GoodIn wsL_law wsX9_expect := goodIn_r _ [797, 32, 603, 604, 2, 605, 485, 486, 487, 750, 751, 752, 31, 753, 103, 798, 799, 800, 801, 802, 803, 804, 805, 104, 97, 98, 99, 806, 807, 808, 809, 105, 100, 810, 118, 119, 120, 121, 122, 123, 811, 812, 813, 517, 518, 519, 1114, 1115, 1116, 1117, 1118, 1119, 1120, 1121, 1122, 1123, 1188, 1189, 1190, 1191, 1192, 1193, 1194, 1195, 1196] (by decide +kernel) (by decide +kernel)
set_option maxRecDepth 20000 in
theorem gL_law_X9_expect : GoodIn wsL_law (wsV RL 104 RX9 yX9_expect wsX9_expect) := goodIn_app (goodIn_of _ (by decide +kernel)) ggL_law_X9_expect
set_option maxRecDepth 20000 in
theorem ggL_law_X10_expect : GoodIn wsL_law wsX10_expect := goodIn_r _ [817, 152, 187, 188, 5, 189, 763, 764, 765, 766, 524, 525, 526, 818, 819, 820, 821, 790, 791, 792, 793, 722, 153, 154, 155, 723, 156, 767, 768, 769, 535, 536, 537, 538, 539, 540, 1124, 1125, 1126, 1127, 1128, 1129, 1130, 1131, 1132, 1133, 1134, 1135, 1136, 1137, 1138, 1139, 1140, 1141, 1142, 1143, 1144, 1145, 1146, 1147, 1148, 1149, 1150, 1151, 1152, 1153, 1154, 1155, 1156, 1157, 1158, 1159, 1160, 1161, 1162] (by decide +kernel) (by decide +kernel)
set_option maxRecDepth 20000 in
theorem gL_law_X10_expect : GoodIn wsL_law (wsV RL 108 RX10 yX10_expect wsX10_expect) := goodIn_app (goodIn_of _ (by decide +kernel)) ggL_law_X10_expect
set_option maxRecDepth 20000 in
theorem ggL_law_X9_byMeans : GoodIn wsL_law wsX9_byMeans := goodIn_r _ [825, 32, 603, 604, 2, 605, 826, 827, 828, 31, 829, 103, 830, 799, 800, 801, 802, 803, 804, 805, 104, 97, 98, 99, 806, 807, 808, 809, 105, 100, 810, 118, 119, 120, 121, 122, 123, 831, 832, 833, 1114, 1115, 1116, 1117, 1118, 1119, 1120, 1121, 1122, 1123, 1188, 1189, 1190, 1191, 1192, 1193, 1194, 1195, 1196] (by decide +kernel) (by decide +kernel)
set_option maxRecDepth 20000 in
theorem gL_law_X9_byMeans : GoodIn wsL_law (wsV RL 109 RX9 yX9_byMeans wsX9_byMeans) := goodIn_app (goodIn_of _ (by decide +kernel)) ggL_law_X9_byMeans
set_option maxRecDepth 20000 in
theorem ggL_law_X10_byMeans : GoodIn wsL_law wsX10_byMeans := goodIn_r _ [837, 152, 187, 188, 5, 189, 818, 819, 820, 821, 790, 791, 792, 793, 722, 153, 154, 155, 723, 156, 1124, 1125, 1126, 1127, 1128, 1129, 1130, 1131, 1132, 1133, 1134, 1135, 1136, 1137, 1138, 1139, 1140, 1141, 1142, 1143, 1144, 1145, 1146, 1147, 1148, 1149, 1150, 1151, 1152, 1153, 1154, 1155, 1156, 1157, 1158, 1159, 1160, 1161, 1162] (by decide +kernel) (by decide +kernel)
set_option maxRecDepth 20000 in
theorem gL_law_X10_byMeans : GoodIn wsL_law (wsV RL 112 RX10 yX10_byMeans wsX10_byMeans) := goodIn_app (goodIn_of _ (by decide +kernel)) ggL_law_X10_byMeans
set_option maxRecDepth 20000 in
theorem ggL_law_X9_best : GoodIn wsL_law wsX9_best := goodIn_r _ [841, 32, 603, 604, 2, 605, 842, 843, 844, 31, 845, 103, 846, 775, 776, 777, 778, 779, 780, 781, 104, 99, 97, 98, 782, 783, 784, 785, 105, 100, 831, 832, 833, 1114, 1115, 1116, 1117, 1118, 1119, 1120, 1121, 1122, 1123, 1188, 1189, 1190, 1191, 1192, 1193, 1194, 1195, 1196] (by decide +kernel) (by decide +kernel)
set_option maxRecDepth 20000 in
theorem gL_law_X9_best : GoodIn wsL_law (wsV RL 113 RX9 yX9_best wsX9_best) := goodIn_app (goodIn_of _ (by decide +kernel)) ggL_law_X9_best
set_option maxRecDepth 20000 in
theorem ggL_law_X10_best : GoodIn wsL_law wsX10_best := goodIn_r _ [850, 152, 187, 188, 5, 189, 851, 852, 853, 854, 790, 791, 792, 793, 722, 153, 154, 155, 723, 156, 1124, 1125, 1126, 1127, 1128, 1129, 1130, 1131, 1132, 1133, 1134, 1135, 1136, 1137, 1138, 1139, 1140, 1141, 1142, 1143, 1144, 1145, 1146, 1147, 1148, 1149, 1150, 1151, 1152, 1153, 1154, 1155, 1156, 1157, 1158, 1159, 1160, 1161, 1162] (by decide +kernel) (by decide +kernel)
set_option maxRecDepth 20000 in
theorem gL_law_X10_best : GoodIn wsL_law (wsV RL 116 RX10 yX10_best wsX10_best) := goodIn_app (goodIn_of _ (by decide +kernel)) ggL_law_X10_best
set_option maxRecDepth 20000 in
theorem ggL_law_X9_heap : GoodIn wsL_law wsX9_heap := goodIn_r _ [858, 32, 36, 750, 751, 752, 31, 753, 103, 859, 860, 861, 35, 862, 111, 110, 1114, 1115, 1116, 1117, 1118, 1119, 1120, 1121, 1122, 1123, 1188, 1189, 1190, 1191, 1192, 1193, 1194, 1195, 1196, 1197, 1198] (by decide +kernel) (by decide +kernel)
set_option maxRecDepth 20000 in
theorem gL_law_X9_heap : GoodIn wsL_law (wsV RL 117 RX9 yX9_heap wsX9_heap) := goodIn_app (goodIn_of _ (by decide +kernel)) ggL_law_X9_heap
set_option maxRecDepth 20000 in
theorem ggL_law_X10_heap : GoodIn wsL_law wsX10_heap := goodIn_r _ [866, 724, 157, 763, 764, 765, 5, 766, 152, 187, 188, 189, 1124, 1125, 1126, 1127, 1128, 1129, 1130, 1131, 1132, 1133, 1134, 1135, 1136, 1137, 1138, 1139, 1140, 1141, 1142, 1143, 1144, 1145, 1146, 1147, 1148, 1149, 1150, 1151, 1152, 1153, 1154, 1155, 1156, 1157, 1158, 1159, 1160, 1161, 1162] (by decide +kernel) (by decide +kernel)
set_option maxRecDepth 20000 in
theorem gL_law_X10_heap : GoodIn wsL_law (wsV RL 120 RX10 yX10_heap wsX10_heap) := goodIn_app (goodIn_of _ (by decide +kernel)) ggL_law_X10_heap
