/-! the words of the law's calls -/
set_option maxRecDepth 20000 in
theorem ggL0_law_X5_feed : GoodIn wsL_law0 wsX5_feed := goodIn_r _ [117, 16, 118, 119, 120, 121, 15, 122, 45, 46, 1099, 1100, 1101, 1102, 1103, 1104, 1105, 1106, 1107, 1108, 1109, 1110, 1153, 1154, 1155, 1156, 1157, 1158, 1159] (by decide +kernel) (by decide +kernel)
set_option maxRecDepth 20000 in
theorem gL0_law_X5_feed : GoodIn wsL_law0 (wsV RL 21 RX5 yX5_feed wsX5_feed) := goodIn_app (goodIn_of _ (by decide +kernel)) ggL0_law_X5_feed
set_option maxRecDepth 20000 in
theorem ggL0_law_X6_feed : GoodIn wsL_law0 wsX6_feed := goodIn_r _ [126, 127, 128, 93, 1111, 1112, 1113, 1114, 1115, 1116, 1117, 1118, 1119, 1120, 1121, 1122, 1123, 1124, 1125, 1126, 1127, 1128, 1129, 1130, 1131, 1132, 1133, 1134, 1135, 1136, 1137, 1138, 1139, 1140, 1141, 1142, 1143, 1144, 1145, 1146, 1147, 1148, 1149, 1150, 1151, 1152] (by decide +kernel) (by decide +kernel)
set_option maxRecDepth 20000 in
theorem gL0_law_X6_feed : GoodIn wsL_law0 (wsV RL 25 RX6 yX6_feed wsX6_feed) := goodIn_app (goodIn_of _ (by decide +kernel)) ggL0_law_X6_feed
set_option maxRecDepth 20000 in
theorem ggL0_law_X5_text : GoodIn wsL_law0 wsX5_text := goodIn_r _ [132, 16, 118, 20, 24, 133, 134, 37, 135, 38, 136, 39, 29, 137, 40, 138, 139, 140, 19, 141, 56, 142, 57, 58, 59, 60, 61, 62, 63, 143, 144, 145, 146, 15, 147, 47, 48, 148, 149, 150, 151, 45, 49, 50, 152, 153, 154, 155, 156, 157, 158, 159, 160, 161, 162, 163, 164, 165, 166, 167, 168, 51, 169, 170, 171, 172, 173, 174, 175, 176, 177, 178, 179, 180, 181, 182, 183, 184, 185, 186, 187, 188, 189, 190, 191, 192, 193, 194, 195, 196, 197, 198, 199, 200, 201, 202, 203, 204, 205, 206, 207, 208, 209, 210, 211, 212, 213, 214, 215, 216, 217, 218, 219, 220, 221, 222, 223, 224, 225, 226, 227, 228, 229, 230, 231, 232, 233, 234, 235, 236, 237, 238, 239, 240, 241, 242, 2, 243, 244, 245, 246, 23, 247, 69, 67, 68, 248, 249, 250, 251, 252, 253, 254, 255, 256, 257, 258, 259, 260, 261, 262, 263, 264, 265, 266, 267, 268, 269, 270, 271, 272, 273, 274, 275, 276, 277, 278, 279, 1099, 1100, 1101, 1102, 1103, 1104, 1105, 1106, 1107, 1108, 1109, 1110, 1153, 1154, 1155, 1156, 1157, 1158, 1159, 1160, 1161, 1162, 1163, 1164, 1165, 1166, 1167, 1171, 1172, 1173, 1168, 1169, 1170] (by decide +kernel) (by decide +kernel)
set_option maxRecDepth 20000 in
theorem gL0_law_X5_text : GoodIn wsL_law0 (wsV RL 26 RX5 yX5_text wsX5_text) := goodIn_app (goodIn_of _ (by decide +kernel)) ggL0_law_X5_text
set_option maxRecDepth 20000 in
theorem ggL0_law_X6_text : GoodIn wsL_law0 wsX6_text := goodIn_r _ [283, 127, 128, 284, 285, 286, 287, 288, 289, 290, 291, 292, 293, 294, 295, 102, 296, 94, 100, 95, 101, 113, 297, 298, 299, 99, 300, 301, 302, 5, 303, 304, 305, 306, 307, 308, 309, 93, 310, 311, 312, 313, 314, 315, 316, 317, 183, 184, 185, 186, 187, 188, 189, 190, 191, 192, 193, 318, 195, 196, 197, 198, 199, 200, 201, 202, 203, 204, 205, 206, 207, 208, 209, 210, 211, 212, 213, 214, 215, 216, 217, 218, 219, 220, 221, 222, 223, 224, 225, 226, 227, 228, 229, 230, 319, 320, 321, 322, 323, 324, 325, 326, 327, 328, 329, 330, 331, 332, 333, 334, 335, 336, 337, 338, 339, 340, 341, 342, 343, 344, 345, 346, 347, 348, 349, 350, 351, 352, 353, 1111, 1112, 1113, 1114, 1115, 1116, 1117, 1118, 1119, 1120, 1121, 1122, 1123, 1124, 1125, 1126, 1127, 1128, 1129, 1130, 1131, 1132, 1133, 1134, 1135, 1136, 1137, 1138, 1139, 1140, 1141, 1142, 1143, 1144, 1145, 1146, 1147, 1148, 1149, 1150, 1151, 1152] (by decide +kernel) (by decide +kernel)
set_option maxRecDepth 20000 in
theorem gL0_law_X6_text : GoodIn wsL_law0 (wsV RL 30 RX6 yX6_text wsX6_text) := goodIn_app (goodIn_of _ (by decide +kernel)) ggL0_law_X6_text
set_option maxRecDepth 20000 in
theorem ggL0_law_X5_fault : GoodIn wsL_law0 wsX5_fault := goodIn_r _ [357, 20, 358, 359, 1099, 1100, 1101, 1102, 1103, 1104, 1105, 1106, 1107, 1108, 1109, 1110, 1160, 1161, 1162, 1163, 1164, 1165, 1166, 1167] (by decide +kernel) (by decide +kernel)
set_option maxRecDepth 20000 in
theorem gL0_law_X5_fault : GoodIn wsL_law0 (wsV RL 31 RX5 yX5_fault wsX5_fault) := goodIn_app (goodIn_of _ (by decide +kernel)) ggL0_law_X5_fault
set_option maxRecDepth 20000 in
theorem ggL0_law_X6_fault : GoodIn wsL_law0 wsX6_fault := goodIn_r _ [363, 127, 294, 102, 1111, 1112, 1113, 1114, 1115, 1116, 1117, 1118, 1119, 1120, 1121, 1122, 1123, 1124, 1125, 1126, 1127, 1128, 1129, 1130, 1131, 1132, 1133, 1134, 1135, 1136, 1137, 1138, 1139, 1140, 1141, 1142, 1143, 1144, 1145, 1146, 1147, 1148, 1149, 1150, 1151, 1152] (by decide +kernel) (by decide +kernel)
set_option maxRecDepth 20000 in
theorem gL0_law_X6_fault : GoodIn wsL_law0 (wsV RL 34 RX6 yX6_fault wsX6_fault) := goodIn_app (goodIn_of _ (by decide +kernel)) ggL0_law_X6_fault
