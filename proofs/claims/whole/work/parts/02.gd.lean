set_option maxRecDepth 20000 in
theorem ggL_law_X6_init : GoodIn wsL_law wsX6_init := goodIn_r _ [9, 10, 11, 12, 13, 14, 15, 16, 17, 18, 19, 20, 21, 22, 23, 24, 25, 26, 27, 28, 29, 30, 31, 32, 33, 34, 35, 36, 37, 38, 39, 40, 41, 42, 43, 44, 45, 46, 47, 48, 49, 50, 51, 52, 53, 54, 55, 56, 57, 58, 59, 60, 61, 62, 63, 64, 65, 66, 67, 68, 69, 70, 71, 72, 73, 74, 75, 76, 77, 78, 79, 80, 81, 82, 83, 84, 85, 86, 87, 88, 89, 90, 91, 92, 93, 94, 95, 96, 97, 98, 99, 100, 101, 102, 103, 104, 105, 106, 107, 108, 109, 110, 1140, 1141, 1142, 1143, 1144, 1145, 1146, 1147, 1148, 1149, 1150, 1151, 1152, 1103, 1104, 1105, 1106, 1107, 1108, 1109, 1110, 1153, 1154, 1155, 1156, 1157, 1158, 1159, 1160, 1161, 1162, 1163, 1164, 1165, 1166, 1167, 1168, 1169, 1170, 1171, 1172, 1173, 1174, 1175, 1176, 1177, 1178, 1179, 1180, 1181, 1182, 1183, 1184, 1185, 1186] (by decide +kernel) (by decide +kernel)
set_option maxRecDepth 20000 in
theorem gL_law_X6_init : GoodIn wsL_law (wsX6_init) := ggL_law_X6_init
set_option maxRecDepth 20000 in
theorem ggL_law_X7_init : GoodIn wsL_law wsX7_init := goodIn_r _ [113, 114, 11, 12, 36, 115, 45, 116, 89, 117, 118, 119, 120, 121, 122, 123, 124, 125, 126, 127, 128, 129, 130, 131, 132, 1111, 1112, 1113, 1114, 1115, 1116, 1117, 1118, 1119, 1120, 1121, 1122, 1123, 1124, 1125, 1126, 1127, 1128, 1129, 1130, 1131, 1132, 1133, 1134, 1135, 1136, 1137, 1138, 1139] (by decide +kernel) (by decide +kernel)
set_option maxRecDepth 20000 in
theorem gL_law_X7_init : GoodIn wsL_law (wsX7_init) := ggL_law_X7_init
set_option maxRecDepth 20000 in
theorem ggL_law_X6_write : GoodIn wsL_law wsX6_write := goodIn_r _ [136, 21, 137, 138, 139, 140, 20, 141, 62, 61, 142, 1103, 1104, 1105, 1106, 1107, 1108, 1109, 1110, 1153, 1154, 1155, 1156, 1157, 1158, 1159, 1160, 1161, 1162, 1163] (by decide +kernel) (by decide +kernel)
set_option maxRecDepth 20000 in
theorem gL_law_X6_write : GoodIn wsL_law (wsV RL 15 RX6 yX6_write wsX6_write) := goodIn_app (goodIn_of _ (by decide +kernel)) ggL_law_X6_write
set_option maxRecDepth 20000 in
theorem ggL_law_X7_write : GoodIn wsL_law wsX7_write := goodIn_r _ [146, 147, 148, 118, 149, 150, 151, 5, 152, 1111, 1112, 1113, 1114, 1115, 1116, 1117, 1118, 1119, 1120, 1121, 1122, 1123, 1124, 1125, 1126, 1127, 1128, 1129, 1130, 1131, 1132, 1133, 1134, 1135, 1136, 1137, 1138, 1139] (by decide +kernel) (by decide +kernel)
set_option maxRecDepth 20000 in
theorem gL_law_X7_write : GoodIn wsL_law (wsV RL 19 RX7 yX7_write wsX7_write) := goodIn_app (goodIn_of _ (by decide +kernel)) ggL_law_X7_write
set_option maxRecDepth 20000 in
theorem ggL_law_X6_erase : GoodIn wsL_law wsX6_erase := goodIn_r _ [156, 21, 137, 1103, 1104, 1105, 1106, 1107, 1108, 1109, 1110, 1153, 1154, 1155, 1156, 1157, 1158, 1159, 1160, 1161, 1162, 1163] (by decide +kernel) (by decide +kernel)
set_option maxRecDepth 20000 in
theorem gL_law_X6_erase : GoodIn wsL_law (wsV RL 20 RX6 yX6_erase wsX6_erase) := goodIn_app (goodIn_of _ (by decide +kernel)) ggL_law_X6_erase
set_option maxRecDepth 20000 in
theorem ggL_law_X7_erase : GoodIn wsL_law wsX7_erase := goodIn_r _ [160, 148, 1111, 1112, 1113, 1114, 1115, 1116, 1117, 1118, 1119, 1120, 1121, 1122, 1123, 1124, 1125, 1126, 1127, 1128, 1129, 1130, 1131, 1132, 1133, 1134, 1135, 1136, 1137, 1138, 1139] (by decide +kernel) (by decide +kernel)
set_option maxRecDepth 20000 in
theorem gL_law_X7_erase : GoodIn wsL_law (wsV RL 24 RX7 yX7_erase wsX7_erase) := goodIn_app (goodIn_of _ (by decide +kernel)) ggL_law_X7_erase
set_option maxRecDepth 20000 in
theorem ggL_law_X6_fault : GoodIn wsL_law wsX6_fault := goodIn_r _ [164, 21, 16, 165, 166, 167, 20, 168, 64, 66, 68, 65, 67, 70, 169, 170, 171, 172, 15, 173, 44, 174, 175, 176, 177, 46, 47, 48, 49, 50, 51, 52, 53, 54, 55, 56, 57, 178, 179, 180, 181, 182, 183, 184, 185, 186, 62, 61, 69, 187, 188, 189, 190, 191, 192, 193, 194, 195, 196, 197, 198, 199, 200, 201, 202, 203, 204, 205, 206, 207, 208, 209, 210, 211, 212, 213, 214, 215, 216, 217, 218, 219, 220, 221, 222, 223, 224, 225, 226, 227, 228, 229, 230, 231, 232, 233, 234, 235, 236, 237, 238, 239, 240, 241, 242, 243, 244, 245, 246, 247, 248, 249, 250, 251, 252, 253, 254, 255, 256, 257, 258, 259, 260, 261, 2, 262, 263, 264, 265, 266, 267, 268, 269, 270, 271, 272, 273, 274, 275, 276, 277, 278, 279, 280, 281, 71, 72, 282, 283, 284, 285, 286, 287, 288, 289, 290, 291, 292, 293, 294, 295, 296, 297, 298, 299, 300, 301, 302, 303, 304, 305, 306, 307, 308, 309, 310, 311, 312, 313, 314, 315, 316, 317, 318, 319, 320, 321, 322, 323, 324, 325, 326, 327, 328, 329, 330, 331, 332, 333, 1103, 1104, 1105, 1106, 1107, 1108, 1109, 1110, 1153, 1154, 1155, 1156, 1157, 1158, 1159, 1160, 1161, 1162, 1163, 1140, 1141, 1142, 1143, 1144, 1145, 1146, 1147, 1148, 1149, 1150, 1151, 1152] (by decide +kernel) (by decide +kernel)
set_option maxRecDepth 20000 in
theorem gL_law_X6_fault : GoodIn wsL_law (wsV RL 25 RX6 yX6_fault wsX6_fault) := goodIn_app (goodIn_of _ (by decide +kernel)) ggL_law_X6_fault
set_option maxRecDepth 20000 in
theorem ggL_law_X7_fault : GoodIn wsL_law wsX7_fault := goodIn_r _ [337, 338, 339, 115, 340, 341, 342, 124, 343, 148, 344, 118, 345, 346, 347, 5, 348, 349, 350, 351, 352, 353, 354, 355, 119, 356, 357, 358, 359, 360, 361, 362, 363, 364, 365, 366, 367, 368, 369, 370, 371, 372, 373, 374, 375, 376, 377, 378, 379, 380, 381, 382, 383, 384, 385, 386, 387, 388, 389, 390, 391, 150, 151, 152, 392, 393, 394, 395, 396, 397, 398, 399, 120, 1111, 1112, 1113, 1114, 1115, 1116, 1117, 1118, 1119, 1120, 1121, 1122, 1123, 1124, 1125, 1126, 1127, 1128, 1129, 1130, 1131, 1132, 1133, 1134, 1135, 1136, 1137, 1138, 1139] (by decide +kernel) (by decide +kernel)
set_option maxRecDepth 20000 in
theorem gL_law_X7_fault : GoodIn wsL_law (wsV RL 28 RX7 yX7_fault wsX7_fault) := goodIn_app (goodIn_of _ (by decide +kernel)) ggL_law_X7_fault
set_option maxRecDepth 20000 in
theorem ggL_law_X6_told : GoodIn wsL_law wsX6_told := goodIn_r _ [403, 21, 16, 404, 137, 405, 165, 166, 167, 20, 168, 64, 66, 68, 65, 67, 70, 169, 170, 171, 172, 15, 173, 44, 174, 175, 176, 177, 46, 47, 48, 49, 50, 51, 52, 53, 54, 55, 56, 57, 178, 179, 180, 181, 182, 183, 184, 185, 186, 62, 61, 69, 187, 188, 189, 190, 191, 192, 193, 194, 195, 196, 197, 198, 199, 200, 201, 202, 203, 204, 205, 206, 207, 208, 209, 210, 211, 212, 213, 214, 215, 216, 217, 218, 219, 220, 221, 222, 223, 224, 225, 226, 227, 228, 229, 230, 231, 232, 233, 234, 235, 236, 237, 238, 239, 240, 241, 242, 243, 244, 245, 246, 247, 248, 249, 250, 251, 252, 253, 254, 255, 256, 257, 258, 259, 260, 261, 2, 262, 263, 264, 265, 266, 267, 268, 269, 270, 271, 272, 273, 274, 275, 276, 277, 278, 279, 280, 281, 71, 72, 282, 283, 284, 285, 286, 287, 288, 289, 290, 291, 292, 293, 294, 295, 296, 297, 298, 299, 300, 301, 302, 303, 304, 305, 306, 307, 308, 309, 310, 311, 312, 313, 314, 315, 316, 317, 318, 319, 320, 321, 322, 323, 324, 325, 326, 327, 328, 329, 330, 331, 332, 333, 406, 1103, 1104, 1105, 1106, 1107, 1108, 1109, 1110, 1153, 1154, 1155, 1156, 1157, 1158, 1159, 1160, 1161, 1162, 1163, 1140, 1141, 1142, 1143, 1144, 1145, 1146, 1147, 1148, 1149, 1150, 1151, 1152] (by decide +kernel) (by decide +kernel)
set_option maxRecDepth 20000 in
theorem gL_law_X6_told : GoodIn wsL_law (wsV RL 29 RX6 yX6_told wsX6_told) := goodIn_app (goodIn_of _ (by decide +kernel)) ggL_law_X6_told
set_option maxRecDepth 20000 in
theorem ggL_law_X7_told : GoodIn wsL_law wsX7_told := goodIn_r _ [410, 339, 148, 411, 335, 336, 5, 337, 338, 115, 340, 341, 342, 124, 343, 344, 118, 345, 346, 347, 348, 349, 350, 351, 352, 353, 354, 355, 119, 356, 357, 358, 359, 360, 361, 362, 363, 364, 365, 366, 367, 368, 369, 370, 371, 372, 373, 374, 375, 376, 377, 378, 379, 380, 381, 382, 383, 384, 385, 386, 387, 388, 389, 390, 391, 150, 151, 152, 392, 393, 394, 395, 396, 397, 398, 399, 120, 412, 413, 414, 415, 116, 416, 417, 418, 419, 420, 421, 422, 423, 1111, 1112, 1113, 1114, 1115, 1116, 1117, 1118, 1119, 1120, 1121, 1122, 1123, 1124, 1125, 1126, 1127, 1128, 1129, 1130, 1131, 1132, 1133, 1134, 1135, 1136, 1137, 1138, 1139] (by decide +kernel) (by decide +kernel)
set_option maxRecDepth 20000 in
theorem gL_law_X7_told : GoodIn wsL_law (wsV RL 32 RX7 yX7_told wsX7_told) := goodIn_app (goodIn_of _ (by decide +kernel)) ggL_law_X7_told
set_option maxRecDepth 20000 in
theorem ggL_law_X6_letter : GoodIn wsL_law wsX6_letter := goodIn_r _ [427, 16, 428, 429, 264, 2, 265, 1103, 1104, 1105, 1106, 1107, 1108, 1109, 1110, 1140, 1141, 1142, 1143, 1144, 1145, 1146, 1147, 1148, 1149, 1150, 1151, 1152] (by decide +kernel) (by decide +kernel)
set_option maxRecDepth 20000 in
theorem gL_law_X6_letter : GoodIn wsL_law (wsV RL 33 RX6 yX6_letter wsX6_letter) := goodIn_app (goodIn_of _ (by decide +kernel)) ggL_law_X6_letter
set_option maxRecDepth 20000 in
theorem ggL_law_X7_letter : GoodIn wsL_law wsX7_letter := goodIn_r _ [433, 434, 115, 150, 151, 5, 152, 1111, 1112, 1113, 1114, 1115, 1116, 1117, 1118, 1119, 1120, 1121, 1122, 1123, 1124, 1125, 1126, 1127, 1128, 1129, 1130, 1131, 1132, 1133, 1134, 1135, 1136, 1137, 1138, 1139] (by decide +kernel) (by decide +kernel)
set_option maxRecDepth 20000 in
theorem gL_law_X7_letter : GoodIn wsL_law (wsV RL 37 RX7 yX7_letter wsX7_letter) := goodIn_app (goodIn_of _ (by decide +kernel)) ggL_law_X7_letter
set_option maxRecDepth 20000 in
theorem ggL_law_X6_person : GoodIn wsL_law wsX6_person := goodIn_r _ [438, 16, 439, 440, 441, 442, 443, 444, 445, 15, 446, 53, 447, 448, 449, 450, 57, 451, 452, 453, 454, 455, 456, 457, 458, 52, 50, 51, 1103, 1104, 1105, 1106, 1107, 1108, 1109, 1110, 1140, 1141, 1142, 1143, 1144, 1145, 1146, 1147, 1148, 1149, 1150, 1151, 1152] (by decide +kernel) (by decide +kernel)
set_option maxRecDepth 20000 in
theorem gL_law_X6_person : GoodIn wsL_law (wsV RL 38 RX6 yX6_person wsX6_person) := goodIn_app (goodIn_of _ (by decide +kernel)) ggL_law_X6_person
set_option maxRecDepth 20000 in
theorem ggL_law_X7_person : GoodIn wsL_law wsX7_person := goodIn_r _ [462, 115, 463, 464, 465, 5, 466, 150, 151, 152, 467, 468, 469, 470, 471, 472, 473, 474, 475, 476, 477, 478, 125, 479, 480, 481, 482, 483, 484, 485, 486, 1111, 1112, 1113, 1114, 1115, 1116, 1117, 1118, 1119, 1120, 1121, 1122, 1123, 1124, 1125, 1126, 1127, 1128, 1129, 1130, 1131, 1132, 1133, 1134, 1135, 1136, 1137, 1138, 1139] (by decide +kernel) (by decide +kernel)
set_option maxRecDepth 20000 in
theorem gL_law_X7_person : GoodIn wsL_law (wsV RL 42 RX7 yX7_person wsX7_person) := goodIn_app (goodIn_of _ (by decide +kernel)) ggL_law_X7_person
set_option maxRecDepth 20000 in
theorem ggL_law_X6_called : GoodIn wsL_law wsX6_called := goodIn_r _ [490, 16, 491, 492, 443, 444, 445, 15, 446, 53, 1103, 1104, 1105, 1106, 1107, 1108, 1109, 1110, 1140, 1141, 1142, 1143, 1144, 1145, 1146, 1147, 1148, 1149, 1150, 1151, 1152] (by decide +kernel) (by decide +kernel)
set_option maxRecDepth 20000 in
theorem gL_law_X6_called : GoodIn wsL_law (wsV RL 43 RX6 yX6_called wsX6_called) := goodIn_app (goodIn_of _ (by decide +kernel)) ggL_law_X6_called
set_option maxRecDepth 20000 in
theorem ggL_law_X7_called : GoodIn wsL_law wsX7_called := goodIn_r _ [496, 116, 497, 463, 464, 465, 5, 466, 115, 150, 151, 152, 1111, 1112, 1113, 1114, 1115, 1116, 1117, 1118, 1119, 1120, 1121, 1122, 1123, 1124, 1125, 1126, 1127, 1128, 1129, 1130, 1131, 1132, 1133, 1134, 1135, 1136, 1137, 1138, 1139] (by decide +kernel) (by decide +kernel)
set_option maxRecDepth 20000 in
theorem gL_law_X7_called : GoodIn wsL_law (wsV RL 47 RX7 yX7_called wsX7_called) := goodIn_app (goodIn_of _ (by decide +kernel)) ggL_law_X7_called
set_option maxRecDepth 20000 in
theorem ggL_law_X6_degrees : GoodIn wsL_law wsX6_degrees := goodIn_r _ [501, 16, 443, 444, 445, 15, 446, 53, 502, 503, 504, 505, 455, 456, 457, 458, 52, 50, 51, 1103, 1104, 1105, 1106, 1107, 1108, 1109, 1110, 1140, 1141, 1142, 1143, 1144, 1145, 1146, 1147, 1148, 1149, 1150, 1151, 1152] (by decide +kernel) (by decide +kernel)
set_option maxRecDepth 20000 in
theorem gL_law_X6_degrees : GoodIn wsL_law (wsV RL 48 RX6 yX6_degrees wsX6_degrees) := goodIn_app (goodIn_of _ (by decide +kernel)) ggL_law_X6_degrees
set_option maxRecDepth 20000 in
theorem ggL_law_X7_degrees : GoodIn wsL_law wsX7_degrees := goodIn_r _ [509, 125, 463, 464, 465, 5, 466, 115, 150, 151, 152, 479, 480, 481, 482, 483, 484, 485, 486, 1111, 1112, 1113, 1114, 1115, 1116, 1117, 1118, 1119, 1120, 1121, 1122, 1123, 1124, 1125, 1126, 1127, 1128, 1129, 1130, 1131, 1132, 1133, 1134, 1135, 1136, 1137, 1138, 1139] (by decide +kernel) (by decide +kernel)
set_option maxRecDepth 20000 in
theorem gL_law_X7_degrees : GoodIn wsL_law (wsV RL 51 RX7 yX7_degrees wsX7_degrees) := goodIn_app (goodIn_of _ (by decide +kernel)) ggL_law_X7_degrees
set_option maxRecDepth 20000 in
theorem ggL_law_X6_as : GoodIn wsL_law wsX6_as := goodIn_r _ [513, 16, 442, 443, 444, 445, 15, 446, 53, 514, 515, 2, 516, 447, 448, 449, 450, 57, 451, 452, 453, 454, 455, 456, 457, 458, 52, 50, 51, 517, 518, 519, 520, 521, 522, 523, 1103, 1104, 1105, 1106, 1107, 1108, 1109, 1110, 1140, 1141, 1142, 1143, 1144, 1145, 1146, 1147, 1148, 1149, 1150, 1151, 1152] (by decide +kernel) (by decide +kernel)
set_option maxRecDepth 20000 in
theorem gL_law_X6_as : GoodIn wsL_law (wsV RL 52 RX6 yX6_as wsX6_as) := goodIn_app (goodIn_of _ (by decide +kernel)) ggL_law_X6_as
set_option maxRecDepth 20000 in
theorem ggL_law_X7_as : GoodIn wsL_law wsX7_as := goodIn_r _ [527, 528, 463, 464, 465, 5, 466, 115, 150, 151, 152, 467, 468, 469, 470, 471, 472, 473, 474, 475, 476, 477, 478, 125, 479, 480, 481, 482, 483, 484, 485, 486, 529, 530, 531, 1111, 1112, 1113, 1114, 1115, 1116, 1117, 1118, 1119, 1120, 1121, 1122, 1123, 1124, 1125, 1126, 1127, 1128, 1129, 1130, 1131, 1132, 1133, 1134, 1135, 1136, 1137, 1138, 1139] (by decide +kernel) (by decide +kernel)
set_option maxRecDepth 20000 in
theorem gL_law_X7_as : GoodIn wsL_law (wsV RL 55 RX7 yX7_as wsX7_as) := goodIn_app (goodIn_of _ (by decide +kernel)) ggL_law_X7_as
set_option maxRecDepth 20000 in
theorem ggL_law_X6_sum : GoodIn wsL_law wsX6_sum := goodIn_r _ [535, 16, 536, 537, 2, 538, 539, 263, 540, 541, 542, 15, 543, 44, 544, 261, 262, 264, 265, 1103, 1104, 1105, 1106, 1107, 1108, 1109, 1110, 1140, 1141, 1142, 1143, 1144, 1145, 1146, 1147, 1148, 1149, 1150, 1151, 1152] (by decide +kernel) (by decide +kernel)
set_option maxRecDepth 20000 in
theorem gL_law_X6_sum : GoodIn wsL_law (wsV RL 56 RX6 yX6_sum wsX6_sum) := goodIn_app (goodIn_of _ (by decide +kernel)) ggL_law_X6_sum
set_option maxRecDepth 20000 in
theorem ggL_law_X7_sum : GoodIn wsL_law wsX7_sum := goodIn_r _ [548, 549, 550, 5, 551, 386, 552, 553, 554, 555, 556, 557, 558, 115, 1111, 1112, 1113, 1114, 1115, 1116, 1117, 1118, 1119, 1120, 1121, 1122, 1123, 1124, 1125, 1126, 1127, 1128, 1129, 1130, 1131, 1132, 1133, 1134, 1135, 1136, 1137, 1138, 1139] (by decide +kernel) (by decide +kernel)
set_option maxRecDepth 20000 in
theorem gL_law_X7_sum : GoodIn wsL_law (wsV RL 60 RX7 yX7_sum wsX7_sum) := goodIn_app (goodIn_of _ (by decide +kernel)) ggL_law_X7_sum
set_option maxRecDepth 20000 in
theorem ggL_law_X6_name : GoodIn wsL_law wsX6_name := goodIn_r _ [562, 16, 536, 537, 2, 538, 539, 263, 563, 564, 565, 15, 566, 567, 568, 569, 570, 44, 544, 261, 262, 264, 265, 571, 541, 542, 543, 572, 573, 574, 575, 274, 275, 276, 277, 47, 46, 1103, 1104, 1105, 1106, 1107, 1108, 1109, 1110, 1140, 1141, 1142, 1143, 1144, 1145, 1146, 1147, 1148, 1149, 1150, 1151, 1152] (by decide +kernel) (by decide +kernel)
set_option maxRecDepth 20000 in
theorem gL_law_X6_name : GoodIn wsL_law (wsV RL 61 RX6 yX6_name wsX6_name) := goodIn_app (goodIn_of _ (by decide +kernel)) ggL_law_X6_name
set_option maxRecDepth 20000 in
theorem ggL_law_X7_name : GoodIn wsL_law wsX7_name := goodIn_r _ [579, 549, 550, 5, 551, 386, 552, 553, 554, 580, 581, 582, 583, 115, 584, 585, 586, 587, 588, 589, 590, 1111, 1112, 1113, 1114, 1115, 1116, 1117, 1118, 1119, 1120, 1121, 1122, 1123, 1124, 1125, 1126, 1127, 1128, 1129, 1130, 1131, 1132, 1133, 1134, 1135, 1136, 1137, 1138, 1139] (by decide +kernel) (by decide +kernel)
set_option maxRecDepth 20000 in
theorem gL_law_X7_name : GoodIn wsL_law (wsV RL 64 RX7 yX7_name wsX7_name) := goodIn_app (goodIn_of _ (by decide +kernel)) ggL_law_X7_name
set_option maxRecDepth 20000 in
theorem ggL_law_X6_judge : GoodIn wsL_law wsX6_judge := goodIn_r _ [594, 16, 443, 444, 445, 15, 446, 53, 595, 596, 597, 598, 49, 599, 564, 565, 566, 567, 568, 569, 570, 44, 544, 261, 2, 262, 263, 264, 265, 571, 541, 542, 543, 572, 573, 574, 575, 274, 275, 276, 277, 47, 46, 600, 601, 602, 603, 48, 604, 448, 449, 450, 57, 451, 452, 453, 454, 455, 456, 457, 458, 52, 50, 51, 605, 606, 607, 608, 1103, 1104, 1105, 1106, 1107, 1108, 1109, 1110, 1140, 1141, 1142, 1143, 1144, 1145, 1146, 1147, 1148, 1149, 1150, 1151, 1152] (by decide +kernel) (by decide +kernel)
set_option maxRecDepth 20000 in
theorem gL_law_X6_judge : GoodIn wsL_law (wsV RL 65 RX6 yX6_judge wsX6_judge) := goodIn_app (goodIn_of _ (by decide +kernel)) ggL_law_X6_judge
set_option maxRecDepth 20000 in
theorem ggL_law_X7_judge : GoodIn wsL_law wsX7_judge := goodIn_r _ [612, 116, 115, 463, 464, 465, 5, 466, 150, 151, 152, 580, 581, 582, 583, 584, 585, 586, 587, 386, 588, 589, 590, 552, 553, 554, 555, 556, 557, 558, 613, 614, 615, 616, 471, 472, 473, 474, 475, 476, 477, 478, 125, 479, 480, 481, 482, 483, 484, 485, 486, 617, 618, 619, 1111, 1112, 1113, 1114, 1115, 1116, 1117, 1118, 1119, 1120, 1121, 1122, 1123, 1124, 1125, 1126, 1127, 1128, 1129, 1130, 1131, 1132, 1133, 1134, 1135, 1136, 1137, 1138, 1139] (by decide +kernel) (by decide +kernel)
set_option maxRecDepth 20000 in
theorem gL_law_X7_judge : GoodIn wsL_law (wsV RL 68 RX7 yX7_judge wsX7_judge) := goodIn_app (goodIn_of _ (by decide +kernel)) ggL_law_X7_judge
set_option maxRecDepth 20000 in
theorem ggL_law_X6_taker : GoodIn wsL_law wsX6_taker := goodIn_r _ [623, 16, 491, 443, 444, 445, 15, 446, 53, 595, 596, 597, 598, 49, 599, 564, 565, 566, 567, 568, 569, 570, 44, 544, 261, 2, 262, 263, 264, 265, 571, 541, 542, 543, 572, 573, 574, 575, 274, 275, 276, 277, 47, 46, 600, 601, 602, 603, 48, 604, 448, 449, 450, 57, 451, 452, 453, 454, 455, 456, 457, 458, 52, 50, 51, 605, 606, 607, 608, 447, 624, 1103, 1104, 1105, 1106, 1107, 1108, 1109, 1110, 1140, 1141, 1142, 1143, 1144, 1145, 1146, 1147, 1148, 1149, 1150, 1151, 1152] (by decide +kernel) (by decide +kernel)
set_option maxRecDepth 20000 in
theorem gL_law_X6_taker : GoodIn wsL_law (wsV RL 69 RX6 yX6_taker wsX6_taker) := goodIn_app (goodIn_of _ (by decide +kernel)) ggL_law_X6_taker
set_option maxRecDepth 20000 in
theorem ggL_law_X7_taker : GoodIn wsL_law wsX7_taker := goodIn_r _ [628, 463, 464, 465, 5, 466, 115, 150, 151, 152, 629, 610, 611, 612, 116, 580, 581, 582, 583, 584, 585, 586, 587, 386, 588, 589, 590, 552, 553, 554, 555, 556, 557, 558, 613, 614, 615, 616, 471, 472, 473, 474, 475, 476, 477, 478, 125, 479, 480, 481, 482, 483, 484, 485, 486, 617, 618, 619, 1111, 1112, 1113, 1114, 1115, 1116, 1117, 1118, 1119, 1120, 1121, 1122, 1123, 1124, 1125, 1126, 1127, 1128, 1129, 1130, 1131, 1132, 1133, 1134, 1135, 1136, 1137, 1138, 1139] (by decide +kernel) (by decide +kernel)
set_option maxRecDepth 20000 in
theorem gL_law_X7_taker : GoodIn wsL_law (wsV RL 72 RX7 yX7_taker wsX7_taker) := goodIn_app (goodIn_of _ (by decide +kernel)) ggL_law_X7_taker
set_option maxRecDepth 20000 in
theorem ggL_law_X6_names : GoodIn wsL_law wsX6_names := goodIn_r _ [633, 25, 16, 634, 635, 636, 637, 2, 638, 639, 640, 641, 24, 642, 83, 84, 78, 643, 644, 645, 646, 82, 647, 648, 79, 80, 81, 649, 568, 569, 15, 570, 44, 544, 261, 262, 263, 264, 265, 571, 541, 542, 543, 650, 651, 652, 653, 654, 655, 656, 657, 658, 659, 660, 661, 77, 662, 663, 664, 665, 666, 667, 668, 669, 670, 536, 537, 538, 539, 1103, 1104, 1105, 1106, 1107, 1108, 1109, 1110, 1164, 1165, 1166, 1167, 1168, 1169, 1170, 1171, 1140, 1141, 1142, 1143, 1144, 1145, 1146, 1147, 1148, 1149, 1150, 1151, 1152] (by decide +kernel) (by decide +kernel)
set_option maxRecDepth 20000 in
theorem gL_law_X6_names : GoodIn wsL_law (wsV RL 73 RX6 yX6_names wsX6_names) := goodIn_app (goodIn_of _ (by decide +kernel)) ggL_law_X6_names
set_option maxRecDepth 20000 in
theorem ggL_law_X7_names : GoodIn wsL_law wsX7_names := goodIn_r _ [674, 675, 676, 126, 677, 678, 5, 679, 680, 150, 151, 152, 681, 682, 683, 684, 115, 584, 585, 586, 587, 386, 685, 686, 687, 688, 588, 589, 590, 552, 553, 554, 555, 556, 557, 558, 1111, 1112, 1113, 1114, 1115, 1116, 1117, 1118, 1119, 1120, 1121, 1122, 1123, 1124, 1125, 1126, 1127, 1128, 1129, 1130, 1131, 1132, 1133, 1134, 1135, 1136, 1137, 1138, 1139] (by decide +kernel) (by decide +kernel)
set_option maxRecDepth 20000 in
theorem gL_law_X7_names : GoodIn wsL_law (wsV RL 76 RX7 yX7_names wsX7_names) := goodIn_app (goodIn_of _ (by decide +kernel)) ggL_law_X7_names
set_option maxRecDepth 20000 in
theorem ggL_law_X6_which : GoodIn wsL_law wsX6_which := goodIn_r _ [692, 693, 25, 16, 634, 635, 694, 636, 637, 2, 638, 639, 640, 641, 24, 642, 83, 84, 78, 643, 644, 645, 646, 82, 647, 648, 79, 80, 81, 649, 568, 569, 15, 570, 44, 544, 261, 262, 263, 264, 265, 571, 541, 542, 543, 650, 651, 652, 653, 654, 655, 656, 657, 658, 659, 660, 661, 77, 662, 663, 664, 665, 666, 667, 668, 669, 670, 1103, 1104, 1105, 1106, 1107, 1108, 1109, 1110, 1164, 1165, 1166, 1167, 1168, 1169, 1170, 1171, 1140, 1141, 1142, 1143, 1144, 1145, 1146, 1147, 1148, 1149, 1150, 1151, 1152] (by decide +kernel) (by decide +kernel)
set_option maxRecDepth 20000 in
theorem gL_law_X6_which : GoodIn wsL_law (wsV RL 77 RX6 yX6_which wsX6_which) := goodIn_app (goodIn_of _ (by decide +kernel)) ggL_law_X6_which
set_option maxRecDepth 20000 in
theorem ggL_law_X7_which : GoodIn wsL_law wsX7_which := goodIn_r _ [698, 699, 676, 126, 381, 677, 678, 5, 679, 680, 150, 151, 152, 681, 682, 683, 684, 115, 584, 585, 586, 587, 386, 685, 686, 687, 688, 588, 589, 590, 552, 553, 554, 555, 556, 557, 558, 1111, 1112, 1113, 1114, 1115, 1116, 1117, 1118, 1119, 1120, 1121, 1122, 1123, 1124, 1125, 1126, 1127, 1128, 1129, 1130, 1131, 1132, 1133, 1134, 1135, 1136, 1137, 1138, 1139] (by decide +kernel) (by decide +kernel)
set_option maxRecDepth 20000 in
theorem gL_law_X7_which : GoodIn wsL_law (wsV RL 81 RX7 yX7_which wsX7_which) := goodIn_app (goodIn_of _ (by decide +kernel)) ggL_law_X7_which
set_option maxRecDepth 20000 in
theorem ggL_law_X6_free : GoodIn wsL_law wsX6_free := goodIn_r _ [703, 16, 492, 693, 25, 439, 634, 635, 694, 443, 444, 445, 15, 446, 53, 639, 640, 641, 24, 642, 83, 84, 78, 643, 644, 645, 646, 82, 647, 648, 79, 80, 81, 649, 568, 569, 570, 44, 544, 261, 2, 262, 263, 264, 265, 571, 541, 542, 543, 650, 651, 652, 653, 654, 655, 656, 657, 658, 659, 660, 661, 77, 662, 663, 664, 665, 666, 667, 668, 669, 670, 447, 448, 449, 450, 57, 451, 452, 453, 454, 455, 456, 457, 458, 52, 50, 51, 704, 705, 706, 707, 708, 606, 607, 608, 49, 1103, 1104, 1105, 1106, 1107, 1108, 1109, 1110, 1140, 1141, 1142, 1143, 1144, 1145, 1146, 1147, 1148, 1149, 1150, 1151, 1152, 1164, 1165, 1166, 1167, 1168, 1169, 1170, 1171] (by decide +kernel) (by decide +kernel)
set_option maxRecDepth 20000 in
theorem gL_law_X6_free : GoodIn wsL_law (wsV RL 82 RX6 yX6_free wsX6_free) := goodIn_app (goodIn_of _ (by decide +kernel)) ggL_law_X6_free
set_option maxRecDepth 20000 in
theorem ggL_law_X7_free : GoodIn wsL_law wsX7_free := goodIn_r _ [712, 497, 699, 676, 126, 115, 381, 463, 464, 465, 5, 466, 150, 151, 152, 681, 682, 683, 684, 584, 585, 586, 587, 386, 685, 686, 687, 688, 588, 589, 590, 552, 553, 554, 471, 472, 473, 474, 475, 476, 477, 478, 125, 479, 480, 481, 482, 483, 484, 485, 486, 555, 556, 557, 558, 713, 714, 715, 716, 116, 617, 618, 619, 1111, 1112, 1113, 1114, 1115, 1116, 1117, 1118, 1119, 1120, 1121, 1122, 1123, 1124, 1125, 1126, 1127, 1128, 1129, 1130, 1131, 1132, 1133, 1134, 1135, 1136, 1137, 1138, 1139] (by decide +kernel) (by decide +kernel)
set_option maxRecDepth 20000 in
theorem gL_law_X7_free : GoodIn wsL_law (wsV RL 85 RX7 yX7_free wsX7_free) := goodIn_app (goodIn_of _ (by decide +kernel)) ggL_law_X7_free
set_option maxRecDepth 20000 in
theorem ggL_law_X6_hopes : GoodIn wsL_law wsX6_hopes := goodIn_r _ [720, 16, 492, 693, 721, 722, 443, 444, 445, 15, 446, 53, 723, 724, 2, 725, 726, 727, 728, 729, 57, 451, 452, 453, 454, 455, 456, 457, 458, 52, 50, 51, 730, 731, 732, 733, 25, 734, 37, 634, 639, 640, 641, 24, 642, 83, 84, 78, 643, 644, 645, 646, 82, 647, 648, 79, 80, 81, 649, 568, 569, 570, 44, 544, 261, 262, 263, 264, 265, 571, 541, 542, 543, 650, 651, 652, 653, 654, 655, 656, 657, 658, 659, 660, 661, 77, 662, 663, 664, 665, 666, 667, 668, 669, 670, 704, 705, 706, 707, 708, 606, 607, 608, 49, 735, 736, 737, 738, 739, 740, 741, 742, 743, 744, 745, 746, 747, 748, 749, 750, 751, 752, 753, 754, 755, 756, 757, 758, 1103, 1104, 1105, 1106, 1107, 1108, 1109, 1110, 1140, 1141, 1142, 1143, 1144, 1145, 1146, 1147, 1148, 1149, 1150, 1151, 1152, 1164, 1165, 1166, 1167, 1168, 1169, 1170, 1171] (by decide +kernel) (by decide +kernel)
set_option maxRecDepth 20000 in
theorem gL_law_X6_hopes : GoodIn wsL_law (wsV RL 86 RX6 yX6_hopes wsX6_hopes) := goodIn_app (goodIn_of _ (by decide +kernel)) ggL_law_X6_hopes
set_option maxRecDepth 20000 in
theorem ggL_law_X7_hopes : GoodIn wsL_law wsX7_hopes := goodIn_r _ [762, 497, 699, 115, 127, 676, 126, 763, 463, 464, 465, 5, 466, 150, 151, 152, 475, 476, 477, 478, 125, 479, 480, 481, 482, 483, 484, 485, 486, 681, 682, 683, 684, 584, 585, 586, 587, 386, 685, 686, 687, 688, 588, 589, 590, 552, 553, 554, 555, 556, 557, 558, 713, 714, 715, 716, 116, 617, 618, 619, 764, 765, 766, 767, 768, 769, 770, 1111, 1112, 1113, 1114, 1115, 1116, 1117, 1118, 1119, 1120, 1121, 1122, 1123, 1124, 1125, 1126, 1127, 1128, 1129, 1130, 1131, 1132, 1133, 1134, 1135, 1136, 1137, 1138, 1139] (by decide +kernel) (by decide +kernel)
set_option maxRecDepth 20000 in
theorem gL_law_X7_hopes : GoodIn wsL_law (wsV RL 90 RX7 yX7_hopes wsX7_hopes) := goodIn_app (goodIn_of _ (by decide +kernel)) ggL_law_X7_hopes
set_option maxRecDepth 20000 in
theorem ggL_law_X6_without : GoodIn wsL_law wsX6_without := goodIn_r _ [774, 29, 16, 775, 776, 2, 777, 636, 637, 638, 723, 724, 725, 778, 779, 780, 28, 781, 88, 782, 783, 784, 568, 569, 15, 570, 44, 544, 261, 262, 263, 264, 265, 571, 541, 542, 543, 785, 786, 787, 788, 789, 790, 757, 791, 792, 793, 794, 795, 796, 797, 798, 799, 1103, 1104, 1105, 1106, 1107, 1108, 1109, 1110, 1172, 1173, 1140, 1141, 1142, 1143, 1144, 1145, 1146, 1147, 1148, 1149, 1150, 1151, 1152] (by decide +kernel) (by decide +kernel)
set_option maxRecDepth 20000 in
theorem gL_law_X6_without : GoodIn wsL_law (wsV RL 91 RX6 yX6_without wsX6_without) := goodIn_app (goodIn_of _ (by decide +kernel)) ggL_law_X6_without
set_option maxRecDepth 20000 in
theorem ggL_law_X7_without : GoodIn wsL_law wsX7_without := goodIn_r _ [803, 804, 805, 5, 806, 677, 678, 679, 680, 150, 151, 152, 807, 808, 809, 810, 811, 115, 128, 584, 585, 586, 587, 386, 555, 556, 557, 558, 812, 813, 814, 815, 129, 816, 817, 818, 819, 820, 821, 822, 823, 1111, 1112, 1113, 1114, 1115, 1116, 1117, 1118, 1119, 1120, 1121, 1122, 1123, 1124, 1125, 1126, 1127, 1128, 1129, 1130, 1131, 1132, 1133, 1134, 1135, 1136, 1137, 1138, 1139] (by decide +kernel) (by decide +kernel)
set_option maxRecDepth 20000 in
theorem gL_law_X7_without : GoodIn wsL_law (wsV RL 95 RX7 yX7_without wsX7_without) := goodIn_app (goodIn_of _ (by decide +kernel)) ggL_law_X7_without
set_option maxRecDepth 20000 in
theorem ggL_law_X6_mend : GoodIn wsL_law wsX6_mend := goodIn_r _ [827, 693, 29, 16, 828, 829, 775, 776, 2, 777, 636, 637, 638, 778, 779, 780, 28, 781, 88, 782, 783, 784, 568, 569, 15, 570, 44, 544, 261, 262, 263, 264, 265, 571, 541, 542, 543, 785, 786, 787, 788, 789, 790, 757, 791, 796, 797, 798, 799, 830, 831, 832, 833, 90, 834, 835, 836, 837, 838, 839, 840, 841, 842, 843, 1103, 1104, 1105, 1106, 1107, 1108, 1109, 1110, 1140, 1141, 1142, 1143, 1144, 1145, 1146, 1147, 1148, 1149, 1150, 1151, 1152, 1172, 1173] (by decide +kernel) (by decide +kernel)
set_option maxRecDepth 20000 in
theorem gL_law_X6_mend : GoodIn wsL_law (wsV RL 96 RX6 yX6_mend wsX6_mend) := goodIn_app (goodIn_of _ (by decide +kernel)) ggL_law_X6_mend
set_option maxRecDepth 20000 in
theorem ggL_law_X7_mend : GoodIn wsL_law wsX7_mend := goodIn_r _ [847, 699, 115, 848, 811, 849, 128, 381, 804, 805, 5, 806, 677, 678, 679, 680, 150, 151, 152, 807, 808, 809, 810, 584, 585, 586, 587, 386, 555, 556, 557, 558, 812, 813, 814, 815, 129, 816, 817, 818, 819, 820, 821, 822, 823, 549, 550, 551, 552, 553, 554, 850, 851, 852, 853, 1111, 1112, 1113, 1114, 1115, 1116, 1117, 1118, 1119, 1120, 1121, 1122, 1123, 1124, 1125, 1126, 1127, 1128, 1129, 1130, 1131, 1132, 1133, 1134, 1135, 1136, 1137, 1138, 1139] (by decide +kernel) (by decide +kernel)
set_option maxRecDepth 20000 in
theorem gL_law_X7_mend : GoodIn wsL_law (wsV RL 99 RX7 yX7_mend wsX7_mend) := goodIn_app (goodIn_of _ (by decide +kernel)) ggL_law_X7_mend
set_option maxRecDepth 20000 in
theorem ggL_law_X6_old : GoodIn wsL_law wsX6_old := goodIn_r _ [857, 33, 16, 858, 429, 264, 2, 265, 859, 860, 861, 32, 862, 94, 104, 101, 863, 864, 865, 866, 867, 868, 869, 96, 95, 870, 871, 872, 873, 874, 263, 875, 261, 262, 876, 877, 878, 879, 99, 98, 100, 880, 881, 882, 883, 102, 884, 885, 886, 887, 103, 888, 175, 176, 177, 889, 890, 891, 892, 893, 790, 757, 791, 894, 895, 896, 897, 898, 899, 900, 901, 902, 903, 904, 905, 906, 907, 908, 909, 910, 911, 912, 1103, 1104, 1105, 1106, 1107, 1108, 1109, 1110, 1174, 1175, 1176, 1177, 1178, 1179, 1180, 1181, 1182, 1183, 1140, 1141, 1142, 1143, 1144, 1145, 1146, 1147, 1148, 1149, 1150, 1151, 1152] (by decide +kernel) (by decide +kernel)
set_option maxRecDepth 20000 in
theorem gL_law_X6_old : GoodIn wsL_law (wsV RL 100 RX6 yX6_old wsX6_old) := goodIn_app (goodIn_of _ (by decide +kernel)) ggL_law_X6_old
set_option maxRecDepth 20000 in
theorem ggL_law_X7_old : GoodIn wsL_law wsX7_old := goodIn_r _ [916, 434, 675, 917, 130, 131, 150, 151, 5, 152, 918, 919, 920, 921, 115, 116, 386, 617, 618, 619, 922, 923, 924, 925, 926, 927, 928, 929, 1111, 1112, 1113, 1114, 1115, 1116, 1117, 1118, 1119, 1120, 1121, 1122, 1123, 1124, 1125, 1126, 1127, 1128, 1129, 1130, 1131, 1132, 1133, 1134, 1135, 1136, 1137, 1138, 1139] (by decide +kernel) (by decide +kernel)
set_option maxRecDepth 20000 in
theorem gL_law_X7_old : GoodIn wsL_law (wsV RL 103 RX7 yX7_old wsX7_old) := goodIn_app (goodIn_of _ (by decide +kernel)) ggL_law_X7_old
set_option maxRecDepth 20000 in
theorem ggL_law_X6_reform : GoodIn wsL_law wsX6_reform := goodIn_r _ [933, 16, 491, 443, 444, 445, 15, 446, 53, 934, 935, 936, 2, 937, 938, 939, 940, 941, 428, 439, 942, 873, 874, 263, 875, 261, 262, 540, 541, 542, 543, 44, 544, 264, 265, 943, 944, 945, 946, 947, 948, 601, 602, 603, 49, 48, 571, 1103, 1104, 1105, 1106, 1107, 1108, 1109, 1110, 1140, 1141, 1142, 1143, 1144, 1145, 1146, 1147, 1148, 1149, 1150, 1151, 1152] (by decide +kernel) (by decide +kernel)
set_option maxRecDepth 20000 in
theorem gL_law_X6_reform : GoodIn wsL_law (wsV RL 104 RX6 yX6_reform wsX6_reform) := goodIn_app (goodIn_of _ (by decide +kernel)) ggL_law_X6_reform
set_option maxRecDepth 20000 in
theorem ggL_law_X7_reform : GoodIn wsL_law wsX7_reform := goodIn_r _ [952, 953, 116, 115, 463, 464, 465, 5, 466, 150, 151, 152, 555, 556, 557, 558, 386, 954, 955, 956, 957, 958, 959, 960, 1111, 1112, 1113, 1114, 1115, 1116, 1117, 1118, 1119, 1120, 1121, 1122, 1123, 1124, 1125, 1126, 1127, 1128, 1129, 1130, 1131, 1132, 1133, 1134, 1135, 1136, 1137, 1138, 1139] (by decide +kernel) (by decide +kernel)
set_option maxRecDepth 20000 in
theorem gL_law_X7_reform : GoodIn wsL_law (wsV RL 107 RX7 yX7_reform wsX7_reform) := goodIn_app (goodIn_of _ (by decide +kernel)) ggL_law_X7_reform
set_option maxRecDepth 20000 in
theorem ggL_law_X6_nicknames : GoodIn wsL_law wsX6_nicknames := goodIn_r _ [964, 16, 492, 693, 491, 829, 25, 439, 634, 635, 694, 443, 444, 445, 15, 446, 53, 723, 724, 2, 725, 639, 640, 641, 24, 642, 83, 84, 78, 643, 644, 645, 646, 82, 647, 648, 79, 80, 81, 649, 568, 569, 570, 44, 544, 261, 262, 263, 264, 265, 571, 541, 542, 543, 650, 651, 652, 653, 654, 655, 656, 657, 658, 659, 660, 661, 77, 662, 663, 664, 665, 666, 667, 668, 669, 670, 965, 966, 967, 968, 969, 970, 875, 1103, 1104, 1105, 1106, 1107, 1108, 1109, 1110, 1140, 1141, 1142, 1143, 1144, 1145, 1146, 1147, 1148, 1149, 1150, 1151, 1152, 1164, 1165, 1166, 1167, 1168, 1169, 1170, 1171] (by decide +kernel) (by decide +kernel)
set_option maxRecDepth 20000 in
theorem gL_law_X6_nicknames : GoodIn wsL_law (wsV RL 108 RX6 yX6_nicknames wsX6_nicknames) := goodIn_app (goodIn_of _ (by decide +kernel)) ggL_law_X6_nicknames
set_option maxRecDepth 20000 in
theorem ggL_law_X7_nicknames : GoodIn wsL_law wsX7_nicknames := goodIn_r _ [974, 497, 699, 116, 848, 381, 386, 132, 115, 463, 464, 465, 5, 466, 150, 151, 152, 552, 553, 554, 617, 618, 619, 580, 581, 582, 583, 584, 585, 586, 587, 588, 589, 590, 555, 556, 557, 558, 1111, 1112, 1113, 1114, 1115, 1116, 1117, 1118, 1119, 1120, 1121, 1122, 1123, 1124, 1125, 1126, 1127, 1128, 1129, 1130, 1131, 1132, 1133, 1134, 1135, 1136, 1137, 1138, 1139] (by decide +kernel) (by decide +kernel)
set_option maxRecDepth 20000 in
theorem gL_law_X7_nicknames : GoodIn wsL_law (wsV RL 111 RX7 yX7_nicknames wsX7_nicknames) := goodIn_app (goodIn_of _ (by decide +kernel)) ggL_law_X7_nicknames
set_option maxRecDepth 20000 in
theorem ggL_law_X6_page : GoodIn wsL_law wsX6_page := goodIn_r _ [978, 16, 947, 491, 723, 724, 2, 725, 624, 606, 607, 15, 608, 53, 49, 979, 980, 981, 982, 571, 541, 542, 543, 44, 544, 261, 262, 263, 264, 265, 983, 984, 985, 986, 987, 988, 989, 990, 1103, 1104, 1105, 1106, 1107, 1108, 1109, 1110, 1140, 1141, 1142, 1143, 1144, 1145, 1146, 1147, 1148, 1149, 1150, 1151, 1152] (by decide +kernel) (by decide +kernel)
set_option maxRecDepth 20000 in
theorem gL_law_X6_page : GoodIn wsL_law (wsV RL 112 RX6 yX6_page wsX6_page) := goodIn_app (goodIn_of _ (by decide +kernel)) ggL_law_X6_page
set_option maxRecDepth 20000 in
theorem ggL_law_X7_page : GoodIn wsL_law wsX7_page := goodIn_r _ [994, 115, 995, 116, 386, 150, 151, 5, 152, 617, 618, 619, 555, 556, 557, 558, 1111, 1112, 1113, 1114, 1115, 1116, 1117, 1118, 1119, 1120, 1121, 1122, 1123, 1124, 1125, 1126, 1127, 1128, 1129, 1130, 1131, 1132, 1133, 1134, 1135, 1136, 1137, 1138, 1139] (by decide +kernel) (by decide +kernel)
set_option maxRecDepth 20000 in
theorem gL_law_X7_page : GoodIn wsL_law (wsV RL 115 RX7 yX7_page wsX7_page) := goodIn_app (goodIn_of _ (by decide +kernel)) ggL_law_X7_page
set_option maxRecDepth 20000 in
theorem ggL_law_X6_sheet : GoodIn wsL_law wsX6_sheet := goodIn_r _ [999, 35, 1000, 1001, 2, 1002, 1003, 1004, 1005, 1006, 1007, 1008, 39, 1009, 109, 110, 108, 1103, 1104, 1105, 1106, 1107, 1108, 1109, 1110, 1184, 1185, 1186] (by decide +kernel) (by decide +kernel)
set_option maxRecDepth 20000 in
theorem gL_law_X6_sheet : GoodIn wsL_law (wsV RL 116 RX6 yX6_sheet wsX6_sheet) := goodIn_app (goodIn_of _ (by decide +kernel)) ggL_law_X6_sheet
set_option maxRecDepth 20000 in
theorem ggL_law_X7_sheet : GoodIn wsL_law wsX7_sheet := goodIn_r _ [1013, 953, 121, 122, 123, 1014, 1015, 5, 1016, 150, 151, 152, 1111, 1112, 1113, 1114, 1115, 1116, 1117, 1118, 1119, 1120, 1121, 1122, 1123, 1124, 1125, 1126, 1127, 1128, 1129, 1130, 1131, 1132, 1133, 1134, 1135, 1136, 1137, 1138, 1139] (by decide +kernel) (by decide +kernel)
set_option maxRecDepth 20000 in
theorem gL_law_X7_sheet : GoodIn wsL_law (wsV RL 119 RX7 yX7_sheet wsX7_sheet) := goodIn_app (goodIn_of _ (by decide +kernel)) ggL_law_X7_sheet
set_option maxRecDepth 20000 in
theorem ggL_law_X6_tear : GoodIn wsL_law wsX6_tear := goodIn_r _ [1020, 35, 1021, 1000, 1001, 2, 1002, 1103, 1104, 1105, 1106, 1107, 1108, 1109, 1110, 1184, 1185, 1186] (by decide +kernel) (by decide +kernel)
set_option maxRecDepth 20000 in
theorem gL_law_X6_tear : GoodIn wsL_law (wsV RL 120 RX6 yX6_tear wsX6_tear) := goodIn_app (goodIn_of _ (by decide +kernel)) ggL_law_X6_tear
set_option maxRecDepth 20000 in
theorem ggL_law_X7_tear : GoodIn wsL_law wsX7_tear := goodIn_r _ [1025, 121, 1014, 1015, 5, 1016, 953, 150, 151, 152, 1111, 1112, 1113, 1114, 1115, 1116, 1117, 1118, 1119, 1120, 1121, 1122, 1123, 1124, 1125, 1126, 1127, 1128, 1129, 1130, 1131, 1132, 1133, 1134, 1135, 1136, 1137, 1138, 1139] (by decide +kernel) (by decide +kernel)
set_option maxRecDepth 20000 in
theorem gL_law_X7_tear : GoodIn wsL_law (wsV RL 123 RX7 yX7_tear wsX7_tear) := goodIn_app (goodIn_of _ (by decide +kernel)) ggL_law_X7_tear
set_option maxRecDepth 20000 in
theorem ggL_law_X6_lay : GoodIn wsL_law wsX6_lay := goodIn_r _ [1029, 35, 1000, 1001, 2, 1002, 1030, 1031, 1032, 39, 1033, 110, 1034, 1035, 1036, 1037, 1038, 1039, 1040, 1041, 109, 108, 1103, 1104, 1105, 1106, 1107, 1108, 1109, 1110, 1184, 1185, 1186] (by decide +kernel) (by decide +kernel)
set_option maxRecDepth 20000 in
theorem gL_law_X6_lay : GoodIn wsL_law (wsV RL 124 RX6 yX6_lay wsX6_lay) := goodIn_app (goodIn_of _ (by decide +kernel)) ggL_law_X6_lay
set_option maxRecDepth 20000 in
theorem ggL_law_X7_lay : GoodIn wsL_law wsX7_lay := goodIn_r _ [1045, 121, 122, 123, 1014, 1015, 5, 1016, 953, 150, 151, 152, 1111, 1112, 1113, 1114, 1115, 1116, 1117, 1118, 1119, 1120, 1121, 1122, 1123, 1124, 1125, 1126, 1127, 1128, 1129, 1130, 1131, 1132, 1133, 1134, 1135, 1136, 1137, 1138, 1139] (by decide +kernel) (by decide +kernel)
set_option maxRecDepth 20000 in
theorem gL_law_X7_lay : GoodIn wsL_law (wsV RL 127 RX7 yX7_lay wsX7_lay) := goodIn_app (goodIn_of _ (by decide +kernel)) ggL_law_X7_lay
set_option maxRecDepth 20000 in
theorem ggL_law_X6_copy : GoodIn wsL_law wsX6_copy := goodIn_r _ [1049, 35, 1050, 1051, 1052, 175, 176, 177, 1000, 1001, 2, 1002, 1030, 1031, 1032, 39, 1033, 110, 1034, 1035, 1036, 1037, 1103, 1104, 1105, 1106, 1107, 1108, 1109, 1110, 1184, 1185, 1186] (by decide +kernel) (by decide +kernel)
set_option maxRecDepth 20000 in
theorem gL_law_X6_copy : GoodIn wsL_law (wsV RL 128 RX6 yX6_copy wsX6_copy) := goodIn_app (goodIn_of _ (by decide +kernel)) ggL_law_X6_copy
set_option maxRecDepth 20000 in
theorem ggL_law_X7_copy : GoodIn wsL_law wsX7_copy := goodIn_r _ [1056, 121, 122, 123, 1014, 1015, 5, 1016, 953, 150, 151, 152, 1111, 1112, 1113, 1114, 1115, 1116, 1117, 1118, 1119, 1120, 1121, 1122, 1123, 1124, 1125, 1126, 1127, 1128, 1129, 1130, 1131, 1132, 1133, 1134, 1135, 1136, 1137, 1138, 1139] (by decide +kernel) (by decide +kernel)
set_option maxRecDepth 20000 in
theorem gL_law_X7_copy : GoodIn wsL_law (wsV RL 132 RX7 yX7_copy wsX7_copy) := goodIn_app (goodIn_of _ (by decide +kernel)) ggL_law_X7_copy
set_option maxRecDepth 20000 in
theorem ggL_law_X6_hope : GoodIn wsL_law wsX6_hope := goodIn_r _ [1060, 35, 1050, 16, 721, 1051, 1000, 1001, 2, 1002, 1003, 1004, 1005, 1030, 1031, 1032, 39, 1033, 110, 1034, 1035, 1036, 1037, 1061, 1062, 1063, 1064, 108, 637, 638, 1065, 318, 319, 15, 320, 56, 54, 55, 1103, 1104, 1105, 1106, 1107, 1108, 1109, 1110, 1184, 1185, 1186, 1140, 1141, 1142, 1143, 1144, 1145, 1146, 1147, 1148, 1149, 1150, 1151, 1152] (by decide +kernel) (by decide +kernel)
set_option maxRecDepth 20000 in
theorem gL_law_X6_hope : GoodIn wsL_law (wsV RL 133 RX6 yX6_hope wsX6_hope) := goodIn_app (goodIn_of _ (by decide +kernel)) ggL_law_X6_hope
set_option maxRecDepth 20000 in
theorem ggL_law_X7_hope : GoodIn wsL_law wsX7_hope := goodIn_r _ [1069, 953, 1070, 763, 121, 122, 123, 115, 1014, 1015, 5, 1016, 150, 151, 152, 677, 678, 679, 680, 420, 421, 422, 423, 1111, 1112, 1113, 1114, 1115, 1116, 1117, 1118, 1119, 1120, 1121, 1122, 1123, 1124, 1125, 1126, 1127, 1128, 1129, 1130, 1131, 1132, 1133, 1134, 1135, 1136, 1137, 1138, 1139] (by decide +kernel) (by decide +kernel)
set_option maxRecDepth 20000 in
theorem gL_law_X7_hope : GoodIn wsL_law (wsV RL 136 RX7 yX7_hope wsX7_hope) := goodIn_app (goodIn_of _ (by decide +kernel)) ggL_law_X7_hope
set_option maxRecDepth 20000 in
theorem ggL_law_X6_keep : GoodIn wsL_law wsX6_keep := goodIn_r _ [1074, 17, 13, 14, 15, 16, 947, 1075, 1076, 2, 1077, 40, 41, 42, 43, 11, 12, 36, 44, 45, 46, 47, 48, 49, 50, 51, 52, 53, 54, 55, 56, 57, 406, 171, 172, 173, 174, 175, 176, 177, 1103, 1104, 1105, 1106, 1107, 1108, 1109, 1110, 1140, 1141, 1142, 1143, 1144, 1145, 1146, 1147, 1148, 1149, 1150, 1151, 1152] (by decide +kernel) (by decide +kernel)
set_option maxRecDepth 20000 in
theorem gL_law_X6_keep : GoodIn wsL_law (wsV RL 137 RX6 yX6_keep wsX6_keep) := goodIn_app (goodIn_of _ (by decide +kernel)) ggL_law_X6_keep
set_option maxRecDepth 20000 in
theorem ggL_law_X7_keep : GoodIn wsL_law wsX7_keep := goodIn_r _ [1081, 117, 115, 150, 151, 5, 152, 1082, 1083, 1084, 1085, 116, 1111, 1112, 1113, 1114, 1115, 1116, 1117, 1118, 1119, 1120, 1121, 1122, 1123, 1124, 1125, 1126, 1127, 1128, 1129, 1130, 1131, 1132, 1133, 1134, 1135, 1136, 1137, 1138, 1139] (by decide +kernel) (by decide +kernel)
set_option maxRecDepth 20000 in
theorem gL_law_X7_keep : GoodIn wsL_law (wsV RL 140 RX7 yX7_keep wsX7_keep) := goodIn_app (goodIn_of _ (by decide +kernel)) ggL_law_X7_keep
set_option maxRecDepth 20000 in
theorem ggL_law_X6_back : GoodIn wsL_law wsX6_back := goodIn_r _ [1089, 17, 16, 947, 1075, 1076, 2, 1077, 406, 171, 172, 15, 173, 44, 174, 175, 176, 177, 46, 47, 48, 49, 50, 51, 52, 53, 54, 55, 56, 57, 1103, 1104, 1105, 1106, 1107, 1108, 1109, 1110, 1140, 1141, 1142, 1143, 1144, 1145, 1146, 1147, 1148, 1149, 1150, 1151, 1152] (by decide +kernel) (by decide +kernel)
set_option maxRecDepth 20000 in
theorem gL_law_X6_back : GoodIn wsL_law (wsV RL 141 RX6 yX6_back wsX6_back) := goodIn_app (goodIn_of _ (by decide +kernel)) ggL_law_X6_back
set_option maxRecDepth 20000 in
theorem ggL_law_X7_back : GoodIn wsL_law wsX7_back := goodIn_r _ [1093, 117, 115, 150, 151, 5, 152, 1082, 1083, 1084, 1085, 116, 1111, 1112, 1113, 1114, 1115, 1116, 1117, 1118, 1119, 1120, 1121, 1122, 1123, 1124, 1125, 1126, 1127, 1128, 1129, 1130, 1131, 1132, 1133, 1134, 1135, 1136, 1137, 1138, 1139] (by decide +kernel) (by decide +kernel)
set_option maxRecDepth 20000 in
theorem gL_law_X7_back : GoodIn wsL_law (wsV RL 144 RX7 yX7_back wsX7_back) := goodIn_app (goodIn_of _ (by decide +kernel)) ggL_law_X7_back
set_option maxRecDepth 20000 in
theorem ggL_law_X6_count : GoodIn wsL_law wsX6_count := goodIn_r _ [1097, 16, 947, 828, 721, 1098, 21, 137, 35, 1021, 1103, 1104, 1105, 1106, 1107, 1108, 1109, 1110, 1140, 1141, 1142, 1143, 1144, 1145, 1146, 1147, 1148, 1149, 1150, 1151, 1152, 1153, 1154, 1155, 1156, 1157, 1158, 1159, 1160, 1161, 1162, 1163, 1184, 1185, 1186] (by decide +kernel) (by decide +kernel)
set_option maxRecDepth 20000 in
theorem gL_law_X6_count : GoodIn wsL_law (wsV RL 145 RX6 yX6_count wsX6_count) := goodIn_app (goodIn_of _ (by decide +kernel)) ggL_law_X6_count
set_option maxRecDepth 20000 in
theorem ggL_law_X7_count : GoodIn wsL_law wsX7_count := goodIn_r _ [1102, 115, 148, 121, 122, 1111, 1112, 1113, 1114, 1115, 1116, 1117, 1118, 1119, 1120, 1121, 1122, 1123, 1124, 1125, 1126, 1127, 1128, 1129, 1130, 1131, 1132, 1133, 1134, 1135, 1136, 1137, 1138, 1139] (by decide +kernel) (by decide +kernel)
set_option maxRecDepth 20000 in
theorem gL_law_X7_count : GoodIn wsL_law (wsV RL 148 RX7 yX7_count wsX7_count) := goodIn_app (goodIn_of _ (by decide +kernel)) ggL_law_X7_count
