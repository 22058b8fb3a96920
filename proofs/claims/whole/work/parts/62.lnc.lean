set_option maxRecDepth 20000 in
theorem ggL_law_X8_init : GoodIn wsL_law wsX8_init := goodIn_r _ [9, 10, 11, 12, 13, 14, 15, 16, 17, 18, 19, 20, 21, 22, 23, 24, 25, 26, 27, 28, 29, 30, 31, 32, 33, 34, 35, 36, 37, 38, 39, 40, 41, 42, 43, 44, 45, 46, 47, 48, 49, 50, 51, 52, 53, 54, 55, 56, 57, 58, 59, 60, 61, 62, 63, 64, 65, 66, 67, 68, 69, 70, 71, 72, 73, 74, 75, 76, 77, 78, 79, 80, 81, 82, 83, 84, 85, 86, 87, 88, 89, 90, 91, 92, 93, 94, 95, 96, 97, 98, 99, 100, 101, 102, 103, 104, 105, 106, 107, 108, 109, 110, 111, 112, 113, 114, 115, 116, 1136, 1137, 1138, 1139, 1140, 1141, 1142, 1143, 1144, 1145, 1146, 1147, 1106, 1107, 1108, 1109, 1110, 1111, 1112, 1113, 1114, 1148, 1149, 1150, 1151, 1152, 1153, 1154, 1155, 1156, 1157, 1158, 1159, 1160, 1161, 1162, 1163, 1164, 1165, 1166, 1167, 1168, 1169, 1170, 1171, 1172, 1173, 1174, 1175, 1176] (by decide +kernel) (by decide +kernel)
set_option maxRecDepth 20000 in
theorem gL_law_X8_init : GoodIn wsL_law (wsX8_init) := ggL_law_X8_init
set_option maxRecDepth 20000 in
theorem ggL_law_X9_init : GoodIn wsL_law wsX9_init := goodIn_r _ [119, 120, 11, 12, 34, 121, 122, 123, 124, 125, 126, 127, 128, 129, 130, 131, 132, 133, 1115, 1116, 1117, 1118, 1119, 1120, 1121, 1122, 1123, 1124, 1125, 1126, 1127, 1128, 1129, 1130, 1131, 1132, 1133, 1134, 1135] (by decide +kernel) (by decide +kernel)
set_option maxRecDepth 20000 in
theorem gL_law_X9_init : GoodIn wsL_law (wsX9_init) := ggL_law_X9_init
set_option maxRecDepth 20000 in
theorem ggL_law_X8_step : GoodIn wsL_law wsX8_step := goodIn_r _ [137, 138, 16, 139, 140, 141, 142, 2, 143, 144, 145, 146, 147, 148, 35, 149, 150, 151, 15, 152, 45, 44, 153, 154, 155, 1106, 1107, 1108, 1109, 1110, 1111, 1112, 1113, 1114, 1136, 1137, 1138, 1139, 1140, 1141, 1142, 1143, 1144, 1145, 1146, 1147, 1169, 1170, 1171, 1172] (by decide +kernel) (by decide +kernel)
set_option maxRecDepth 20000 in
theorem gL_law_X8_step : GoodIn wsL_law (wsV RL 13 RX8 yX8_step wsX8_step) := goodIn_app (goodIn_of _ (by decide +kernel)) ggL_law_X8_step
set_option maxRecDepth 20000 in
theorem ggL_law_X9_step : GoodIn wsL_law wsX9_step := goodIn_r _ [159, 160, 121, 161, 162, 163, 5, 164, 165, 166, 167, 168, 169, 170, 171, 124, 172, 1115, 1116, 1117, 1118, 1119, 1120, 1121, 1122, 1123, 1124, 1125, 1126, 1127, 1128, 1129, 1130, 1131, 1132, 1133, 1134, 1135] (by decide +kernel) (by decide +kernel)
set_option maxRecDepth 20000 in
theorem gL_law_X9_step : GoodIn wsL_law (wsV RL 17 RX9 yX9_step wsX9_step) := goodIn_app (goodIn_of _ (by decide +kernel)) ggL_law_X9_step
set_option maxRecDepth 20000 in
theorem ggL_law_X8_stepIs : GoodIn wsL_law wsX8_stepIs := goodIn_r _ [176, 16, 138, 177, 178, 179, 180, 181, 182, 15, 183, 45, 44, 141, 142, 2, 143, 144, 145, 146, 147, 148, 35, 184, 185, 186, 187, 188, 153, 189, 190, 191, 61, 192, 76, 74, 75, 77, 193, 194, 195, 196, 52, 53, 197, 198, 199, 51, 200, 69, 201, 202, 203, 204, 67, 68, 205, 206, 207, 208, 209, 210, 211, 212, 213, 214, 215, 216, 217, 218, 219, 220, 1106, 1107, 1108, 1109, 1110, 1111, 1112, 1113, 1114, 1169, 1170, 1171, 1172, 1136, 1137, 1138, 1139, 1140, 1141, 1142, 1143, 1144, 1145, 1146, 1147, 1166, 1167, 1168] (by decide +kernel) (by decide +kernel)
set_option maxRecDepth 20000 in
theorem gL_law_X8_stepIs : GoodIn wsL_law (wsV RL 18 RX8 yX8_stepIs wsX8_stepIs) := goodIn_app (goodIn_of _ (by decide +kernel)) ggL_law_X8_stepIs
set_option maxRecDepth 20000 in
theorem ggL_law_X9_stepIs : GoodIn wsL_law wsX9_stepIs := goodIn_r _ [224, 160, 225, 226, 227, 5, 228, 121, 165, 166, 167, 168, 169, 170, 171, 124, 172, 229, 230, 231, 232, 233, 234, 235, 236, 237, 238, 239, 240, 241, 242, 243, 244, 130, 245, 246, 247, 248, 131, 249, 250, 251, 252, 253, 254, 1115, 1116, 1117, 1118, 1119, 1120, 1121, 1122, 1123, 1124, 1125, 1126, 1127, 1128, 1129, 1130, 1131, 1132, 1133, 1134, 1135] (by decide +kernel) (by decide +kernel)
set_option maxRecDepth 20000 in
theorem gL_law_X9_stepIs : GoodIn wsL_law (wsV RL 22 RX9 yX9_stepIs wsX9_stepIs) := goodIn_app (goodIn_of _ (by decide +kernel)) ggL_law_X9_stepIs
set_option maxRecDepth 20000 in
theorem ggL_law_X8_become : GoodIn wsL_law wsX8_become := goodIn_r _ [258, 16, 138, 177, 178, 180, 181, 182, 15, 183, 45, 44, 141, 142, 2, 143, 144, 145, 146, 147, 148, 35, 1106, 1107, 1108, 1109, 1110, 1111, 1112, 1113, 1114, 1169, 1170, 1171, 1172, 1136, 1137, 1138, 1139, 1140, 1141, 1142, 1143, 1144, 1145, 1146, 1147] (by decide +kernel) (by decide +kernel)
set_option maxRecDepth 20000 in
theorem gL_law_X8_become : GoodIn wsL_law (wsV RL 23 RX8 yX8_become wsX8_become) := goodIn_app (goodIn_of _ (by decide +kernel)) ggL_law_X8_become
set_option maxRecDepth 20000 in
theorem ggL_law_X9_become : GoodIn wsL_law wsX9_become := goodIn_r _ [262, 160, 121, 225, 226, 227, 5, 228, 165, 166, 167, 162, 163, 164, 168, 169, 170, 171, 124, 172, 263, 264, 265, 266, 1115, 1116, 1117, 1118, 1119, 1120, 1121, 1122, 1123, 1124, 1125, 1126, 1127, 1128, 1129, 1130, 1131, 1132, 1133, 1134, 1135] (by decide +kernel) (by decide +kernel)
set_option maxRecDepth 20000 in
theorem gL_law_X9_become : GoodIn wsL_law (wsV RL 26 RX9 yX9_become wsX9_become) := goodIn_app (goodIn_of _ (by decide +kernel)) ggL_law_X9_become
set_option maxRecDepth 20000 in
theorem ggL_law_X8_as : GoodIn wsL_law wsX8_as := goodIn_r _ [270, 16, 138, 177, 178, 271, 180, 181, 182, 15, 183, 45, 44, 141, 142, 2, 143, 144, 145, 146, 147, 148, 35, 272, 273, 274, 275, 276, 277, 278, 1106, 1107, 1108, 1109, 1110, 1111, 1112, 1113, 1114, 1169, 1170, 1171, 1172, 1136, 1137, 1138, 1139, 1140, 1141, 1142, 1143, 1144, 1145, 1146, 1147] (by decide +kernel) (by decide +kernel)
set_option maxRecDepth 20000 in
theorem gL_law_X8_as : GoodIn wsL_law (wsV RL 27 RX8 yX8_as wsX8_as) := goodIn_app (goodIn_of _ (by decide +kernel)) ggL_law_X8_as
set_option maxRecDepth 20000 in
theorem ggL_law_X9_as : GoodIn wsL_law wsX9_as := goodIn_r _ [282, 160, 283, 225, 226, 227, 5, 228, 121, 165, 166, 167, 168, 169, 170, 171, 124, 172, 229, 230, 231, 232, 1115, 1116, 1117, 1118, 1119, 1120, 1121, 1122, 1123, 1124, 1125, 1126, 1127, 1128, 1129, 1130, 1131, 1132, 1133, 1134, 1135] (by decide +kernel) (by decide +kernel)
set_option maxRecDepth 20000 in
theorem gL_law_X9_as : GoodIn wsL_law (wsV RL 30 RX9 yX9_as wsX9_as) := goodIn_app (goodIn_of _ (by decide +kernel)) ggL_law_X9_as
set_option maxRecDepth 20000 in
theorem ggL_law_X8_person : GoodIn wsL_law wsX8_person := goodIn_r _ [287, 138, 16, 288, 140, 141, 142, 2, 143, 144, 145, 146, 147, 148, 35, 289, 290, 291, 15, 292, 48, 47, 293, 294, 295, 296, 1106, 1107, 1108, 1109, 1110, 1111, 1112, 1113, 1114, 1136, 1137, 1138, 1139, 1140, 1141, 1142, 1143, 1144, 1145, 1146, 1147, 1173, 1174, 1175, 1176] (by decide +kernel) (by decide +kernel)
set_option maxRecDepth 20000 in
theorem gL_law_X8_person : GoodIn wsL_law (wsV RL 31 RX8 yX8_person wsX8_person) := goodIn_app (goodIn_of _ (by decide +kernel)) ggL_law_X8_person
set_option maxRecDepth 20000 in
theorem ggL_law_X9_person : GoodIn wsL_law wsX9_person := goodIn_r _ [300, 160, 121, 161, 165, 166, 5, 167, 168, 169, 170, 171, 124, 172, 301, 302, 303, 304, 1115, 1116, 1117, 1118, 1119, 1120, 1121, 1122, 1123, 1124, 1125, 1126, 1127, 1128, 1129, 1130, 1131, 1132, 1133, 1134, 1135] (by decide +kernel) (by decide +kernel)
set_option maxRecDepth 20000 in
theorem gL_law_X9_person : GoodIn wsL_law (wsV RL 34 RX9 yX9_person wsX9_person) := goodIn_app (goodIn_of _ (by decide +kernel)) ggL_law_X9_person
set_option maxRecDepth 20000 in
theorem ggL_law_X8_personIs : GoodIn wsL_law wsX8_personIs := goodIn_r _ [308, 16, 138, 309, 310, 311, 312, 313, 314, 315, 15, 316, 48, 47, 141, 142, 2, 143, 144, 145, 146, 147, 148, 35, 317, 318, 319, 320, 293, 45, 1106, 1107, 1108, 1109, 1110, 1111, 1112, 1113, 1114, 1173, 1174, 1175, 1176, 1136, 1137, 1138, 1139, 1140, 1141, 1142, 1143, 1144, 1145, 1146, 1147] (by decide +kernel) (by decide +kernel)
set_option maxRecDepth 20000 in
theorem gL_law_X8_personIs : GoodIn wsL_law (wsV RL 35 RX8 yX8_personIs wsX8_personIs) := goodIn_app (goodIn_of _ (by decide +kernel)) ggL_law_X8_personIs
set_option maxRecDepth 20000 in
theorem ggL_law_X9_personIs : GoodIn wsL_law wsX9_personIs := goodIn_r _ [324, 160, 325, 326, 327, 5, 328, 121, 165, 166, 167, 168, 169, 170, 171, 124, 172, 329, 330, 331, 332, 333, 334, 335, 336, 1115, 1116, 1117, 1118, 1119, 1120, 1121, 1122, 1123, 1124, 1125, 1126, 1127, 1128, 1129, 1130, 1131, 1132, 1133, 1134, 1135] (by decide +kernel) (by decide +kernel)
set_option maxRecDepth 20000 in
theorem gL_law_X9_personIs : GoodIn wsL_law (wsV RL 38 RX9 yX9_personIs wsX9_personIs) := goodIn_app (goodIn_of _ (by decide +kernel)) ggL_law_X9_personIs
set_option maxRecDepth 20000 in
theorem ggL_law_X8_rests : GoodIn wsL_law wsX8_rests := goodIn_r _ [340, 16, 138, 310, 313, 314, 315, 15, 316, 48, 47, 141, 142, 2, 143, 144, 145, 146, 147, 148, 35, 1106, 1107, 1108, 1109, 1110, 1111, 1112, 1113, 1114, 1173, 1174, 1175, 1176, 1136, 1137, 1138, 1139, 1140, 1141, 1142, 1143, 1144, 1145, 1146, 1147] (by decide +kernel) (by decide +kernel)
set_option maxRecDepth 20000 in
theorem gL_law_X8_rests : GoodIn wsL_law (wsV RL 39 RX8 yX8_rests wsX8_rests) := goodIn_app (goodIn_of _ (by decide +kernel)) ggL_law_X8_rests
set_option maxRecDepth 20000 in
theorem ggL_law_X9_rests : GoodIn wsL_law wsX9_rests := goodIn_r _ [344, 160, 325, 326, 327, 5, 328, 121, 165, 166, 167, 263, 264, 265, 266, 168, 169, 170, 171, 124, 172, 1115, 1116, 1117, 1118, 1119, 1120, 1121, 1122, 1123, 1124, 1125, 1126, 1127, 1128, 1129, 1130, 1131, 1132, 1133, 1134, 1135] (by decide +kernel) (by decide +kernel)
set_option maxRecDepth 20000 in
theorem gL_law_X9_rests : GoodIn wsL_law (wsV RL 42 RX9 yX9_rests wsX9_rests) := goodIn_app (goodIn_of _ (by decide +kernel)) ggL_law_X9_rests
set_option maxRecDepth 20000 in
theorem ggL_law_X8_carry : GoodIn wsL_law wsX8_carry := goodIn_r _ [348, 16, 139, 138, 309, 313, 314, 315, 15, 316, 48, 47, 141, 142, 2, 143, 144, 145, 146, 147, 148, 35, 1106, 1107, 1108, 1109, 1110, 1111, 1112, 1113, 1114, 1136, 1137, 1138, 1139, 1140, 1141, 1142, 1143, 1144, 1145, 1146, 1147, 1173, 1174, 1175, 1176] (by decide +kernel) (by decide +kernel)
set_option maxRecDepth 20000 in
theorem gL_law_X8_carry : GoodIn wsL_law (wsV RL 43 RX8 yX8_carry wsX8_carry) := goodIn_app (goodIn_of _ (by decide +kernel)) ggL_law_X8_carry
set_option maxRecDepth 20000 in
theorem ggL_law_X9_carry : GoodIn wsL_law wsX9_carry := goodIn_r _ [352, 121, 160, 325, 326, 327, 5, 328, 165, 166, 167, 263, 264, 265, 266, 168, 169, 170, 171, 124, 172, 1115, 1116, 1117, 1118, 1119, 1120, 1121, 1122, 1123, 1124, 1125, 1126, 1127, 1128, 1129, 1130, 1131, 1132, 1133, 1134, 1135] (by decide +kernel) (by decide +kernel)
set_option maxRecDepth 20000 in
theorem gL_law_X9_carry : GoodIn wsL_law (wsV RL 46 RX9 yX9_carry wsX9_carry) := goodIn_app (goodIn_of _ (by decide +kernel)) ggL_law_X9_carry
set_option maxRecDepth 20000 in
theorem ggL_law_X8_content : GoodIn wsL_law wsX8_content := goodIn_r _ [356, 16, 138, 180, 181, 182, 15, 183, 45, 44, 357, 358, 2, 359, 141, 142, 143, 144, 145, 146, 147, 148, 35, 360, 361, 362, 363, 58, 188, 154, 364, 365, 366, 61, 367, 74, 75, 77, 76, 368, 369, 370, 371, 372, 373, 374, 375, 376, 377, 378, 379, 193, 194, 195, 196, 52, 53, 197, 198, 199, 51, 200, 69, 201, 202, 203, 204, 67, 68, 205, 206, 207, 208, 209, 210, 211, 212, 213, 214, 215, 216, 217, 218, 219, 220, 1106, 1107, 1108, 1109, 1110, 1111, 1112, 1113, 1114, 1136, 1137, 1138, 1139, 1140, 1141, 1142, 1143, 1144, 1145, 1146, 1147, 1169, 1170, 1171, 1172, 1166, 1167, 1168] (by decide +kernel) (by decide +kernel)
set_option maxRecDepth 20000 in
theorem gL_law_X8_content : GoodIn wsL_law (wsV RL 47 RX8 yX8_content wsX8_content) := goodIn_app (goodIn_of _ (by decide +kernel)) ggL_law_X8_content
set_option maxRecDepth 20000 in
theorem ggL_law_X9_content : GoodIn wsL_law wsX9_content := goodIn_r _ [383, 160, 225, 226, 227, 5, 228, 121, 165, 166, 167, 384, 385, 386, 168, 169, 170, 171, 124, 172, 387, 388, 389, 390, 391, 392, 393, 394, 229, 230, 231, 232, 241, 242, 243, 244, 130, 245, 246, 247, 248, 131, 249, 250, 251, 252, 253, 254, 1115, 1116, 1117, 1118, 1119, 1120, 1121, 1122, 1123, 1124, 1125, 1126, 1127, 1128, 1129, 1130, 1131, 1132, 1133, 1134, 1135] (by decide +kernel) (by decide +kernel)
set_option maxRecDepth 20000 in
theorem gL_law_X9_content : GoodIn wsL_law (wsV RL 50 RX9 yX9_content wsX9_content) := goodIn_app (goodIn_of _ (by decide +kernel)) ggL_law_X9_content
set_option maxRecDepth 20000 in
theorem ggL_law_X8_say : GoodIn wsL_law wsX8_say := goodIn_r _ [398, 16, 138, 399, 309, 313, 314, 315, 15, 316, 48, 47, 357, 358, 2, 359, 141, 142, 143, 144, 145, 146, 147, 148, 35, 400, 401, 402, 403, 294, 404, 318, 319, 320, 293, 45, 405, 406, 407, 408, 155, 214, 215, 216, 217, 218, 219, 220, 296, 409, 181, 182, 183, 44, 410, 361, 362, 363, 58, 188, 154, 364, 365, 366, 61, 367, 74, 75, 77, 76, 368, 369, 370, 371, 372, 373, 374, 375, 376, 377, 378, 379, 193, 194, 195, 196, 52, 53, 197, 198, 199, 51, 200, 69, 201, 202, 203, 204, 67, 68, 205, 206, 207, 208, 209, 210, 211, 212, 213, 1106, 1107, 1108, 1109, 1110, 1111, 1112, 1113, 1114, 1173, 1174, 1175, 1176, 1136, 1137, 1138, 1139, 1140, 1141, 1142, 1143, 1144, 1145, 1146, 1147, 1169, 1170, 1171, 1172, 1166, 1167, 1168] (by decide +kernel) (by decide +kernel)
set_option maxRecDepth 20000 in
theorem gL_law_X8_say : GoodIn wsL_law (wsV RL 51 RX8 yX8_say wsX8_say) := goodIn_app (goodIn_of _ (by decide +kernel)) ggL_law_X8_say
set_option maxRecDepth 20000 in
theorem ggL_law_X9_say : GoodIn wsL_law wsX9_say := goodIn_r _ [414, 160, 415, 325, 326, 327, 5, 328, 121, 165, 166, 167, 384, 385, 386, 168, 169, 170, 171, 124, 172, 416, 417, 418, 419, 333, 334, 335, 336, 329, 330, 331, 332, 420, 421, 422, 423, 387, 388, 389, 390, 391, 392, 393, 394, 229, 230, 231, 232, 241, 242, 243, 244, 130, 245, 246, 247, 248, 131, 249, 250, 251, 252, 253, 254, 301, 302, 303, 304, 1115, 1116, 1117, 1118, 1119, 1120, 1121, 1122, 1123, 1124, 1125, 1126, 1127, 1128, 1129, 1130, 1131, 1132, 1133, 1134, 1135] (by decide +kernel) (by decide +kernel)
set_option maxRecDepth 20000 in
theorem gL_law_X9_say : GoodIn wsL_law (wsV RL 54 RX9 yX9_say wsX9_say) := goodIn_app (goodIn_of _ (by decide +kernel)) ggL_law_X9_say
set_option maxRecDepth 20000 in
theorem ggL_law_X8_bribe : GoodIn wsL_law wsX8_bribe := goodIn_r _ [427, 16, 138, 309, 399, 428, 311, 429, 215, 216, 217, 310, 313, 314, 315, 15, 316, 48, 47, 144, 145, 146, 2, 147, 148, 35, 141, 142, 143, 180, 181, 182, 183, 45, 44, 400, 401, 402, 403, 294, 404, 318, 319, 320, 293, 184, 185, 186, 187, 188, 153, 189, 190, 191, 61, 192, 76, 74, 75, 77, 193, 194, 195, 196, 52, 53, 197, 198, 199, 51, 200, 69, 201, 202, 203, 204, 67, 68, 205, 206, 207, 208, 209, 210, 211, 212, 213, 214, 218, 219, 220, 1106, 1107, 1108, 1109, 1110, 1111, 1112, 1113, 1114, 1173, 1174, 1175, 1176, 1136, 1137, 1138, 1139, 1140, 1141, 1142, 1143, 1144, 1145, 1146, 1147, 1169, 1170, 1171, 1172, 1166, 1167, 1168] (by decide +kernel) (by decide +kernel)
set_option maxRecDepth 20000 in
theorem gL_law_X8_bribe : GoodIn wsL_law (wsV RL 55 RX8 yX8_bribe wsX8_bribe) := goodIn_app (goodIn_of _ (by decide +kernel)) ggL_law_X8_bribe
set_option maxRecDepth 20000 in
theorem ggL_law_X9_bribe : GoodIn wsL_law wsX9_bribe := goodIn_r _ [433, 160, 415, 434, 325, 326, 327, 5, 328, 121, 165, 166, 167, 168, 169, 170, 171, 124, 172, 416, 417, 418, 419, 333, 334, 335, 336, 329, 330, 331, 332, 233, 234, 235, 236, 237, 238, 239, 240, 229, 230, 231, 232, 241, 242, 243, 244, 130, 245, 246, 247, 248, 131, 249, 250, 251, 252, 253, 254, 301, 302, 303, 304, 1115, 1116, 1117, 1118, 1119, 1120, 1121, 1122, 1123, 1124, 1125, 1126, 1127, 1128, 1129, 1130, 1131, 1132, 1133, 1134, 1135] (by decide +kernel) (by decide +kernel)
set_option maxRecDepth 20000 in
theorem gL_law_X9_bribe : GoodIn wsL_law (wsV RL 58 RX9 yX9_bribe wsX9_bribe) := goodIn_app (goodIn_of _ (by decide +kernel)) ggL_law_X9_bribe
set_option maxRecDepth 20000 in
theorem ggL_law_X8_feed : GoodIn wsL_law wsX8_feed := goodIn_r _ [438, 138, 16, 439, 140, 22, 141, 142, 2, 143, 144, 145, 146, 147, 148, 35, 1106, 1107, 1108, 1109, 1110, 1111, 1112, 1113, 1114, 1136, 1137, 1138, 1139, 1140, 1141, 1142, 1143, 1144, 1145, 1146, 1147] (by decide +kernel) (by decide +kernel)
set_option maxRecDepth 20000 in
theorem gL_law_X8_feed : GoodIn wsL_law (wsV RL 61 RX8 yX8_feed wsX8_feed) := goodIn_app (goodIn_of _ (by decide +kernel)) ggL_law_X8_feed
set_option maxRecDepth 20000 in
theorem ggL_law_X9_feed : GoodIn wsL_law wsX9_feed := goodIn_r _ [443, 160, 121, 161, 444, 165, 166, 5, 167, 168, 169, 170, 171, 124, 172, 1115, 1116, 1117, 1118, 1119, 1120, 1121, 1122, 1123, 1124, 1125, 1126, 1127, 1128, 1129, 1130, 1131, 1132, 1133, 1134, 1135] (by decide +kernel) (by decide +kernel)
set_option maxRecDepth 20000 in
theorem gL_law_X9_feed : GoodIn wsL_law (wsV RL 65 RX9 yX9_feed wsX9_feed) := goodIn_app (goodIn_of _ (by decide +kernel)) ggL_law_X9_feed
set_option maxRecDepth 20000 in
theorem ggL_law_X8_text : GoodIn wsL_law wsX8_text := goodIn_r _ [448, 16, 138, 23, 439, 449, 450, 451, 452, 453, 15, 454, 52, 53, 144, 145, 146, 2, 147, 148, 35, 141, 142, 143, 455, 456, 457, 21, 458, 90, 91, 94, 459, 215, 216, 217, 92, 93, 460, 461, 462, 51, 463, 69, 464, 465, 466, 467, 468, 469, 470, 471, 472, 473, 474, 475, 476, 477, 478, 479, 480, 481, 67, 482, 483, 484, 485, 486, 487, 488, 489, 490, 491, 492, 493, 494, 495, 496, 497, 498, 499, 500, 501, 502, 503, 504, 505, 506, 507, 508, 509, 510, 511, 512, 513, 514, 515, 516, 517, 518, 519, 219, 220, 520, 521, 522, 523, 524, 525, 526, 527, 528, 529, 530, 531, 532, 533, 534, 535, 536, 537, 538, 539, 540, 541, 542, 543, 544, 545, 546, 547, 548, 549, 550, 551, 552, 553, 554, 555, 556, 557, 558, 559, 560, 561, 562, 563, 564, 565, 566, 567, 568, 569, 570, 571, 572, 573, 574, 575, 576, 577, 578, 579, 580, 581, 582, 583, 584, 585, 586, 587, 588, 589, 1106, 1107, 1108, 1109, 1110, 1111, 1112, 1113, 1114, 1136, 1137, 1138, 1139, 1140, 1141, 1142, 1143, 1144, 1145, 1146, 1147, 1148, 1149, 1150, 1151, 1152, 1166, 1167, 1168] (by decide +kernel) (by decide +kernel)
set_option maxRecDepth 20000 in
theorem gL_law_X8_text : GoodIn wsL_law (wsV RL 66 RX8 yX8_text wsX8_text) := goodIn_app (goodIn_of _ (by decide +kernel)) ggL_law_X8_text
set_option maxRecDepth 20000 in
theorem ggL_law_X9_text : GoodIn wsL_law wsX9_text := goodIn_r _ [593, 160, 594, 595, 596, 597, 598, 121, 128, 129, 165, 166, 5, 167, 168, 169, 170, 171, 124, 172, 599, 600, 601, 602, 603, 604, 605, 606, 607, 608, 609, 610, 611, 612, 613, 614, 615, 616, 617, 618, 619, 620, 621, 622, 623, 624, 625, 626, 627, 628, 629, 630, 631, 632, 633, 634, 635, 636, 637, 638, 639, 640, 641, 642, 1115, 1116, 1117, 1118, 1119, 1120, 1121, 1122, 1123, 1124, 1125, 1126, 1127, 1128, 1129, 1130, 1131, 1132, 1133, 1134, 1135] (by decide +kernel) (by decide +kernel)
set_option maxRecDepth 20000 in
theorem gL_law_X9_text : GoodIn wsL_law (wsV RL 69 RX9 yX9_text wsX9_text) := goodIn_app (goodIn_of _ (by decide +kernel)) ggL_law_X9_text
set_option maxRecDepth 20000 in
theorem ggL_law_X8_untell : GoodIn wsL_law wsX8_untell := goodIn_r _ [646, 16, 138, 451, 452, 453, 15, 454, 52, 53, 144, 145, 146, 2, 147, 148, 35, 141, 142, 143, 647, 198, 199, 51, 200, 69, 648, 461, 462, 463, 1106, 1107, 1108, 1109, 1110, 1111, 1112, 1113, 1114, 1136, 1137, 1138, 1139, 1140, 1141, 1142, 1143, 1144, 1145, 1146, 1147, 1166, 1167, 1168] (by decide +kernel) (by decide +kernel)
set_option maxRecDepth 20000 in
theorem gL_law_X8_untell : GoodIn wsL_law (wsV RL 70 RX8 yX8_untell wsX8_untell) := goodIn_app (goodIn_of _ (by decide +kernel)) ggL_law_X8_untell
set_option maxRecDepth 20000 in
theorem ggL_law_X9_untell : GoodIn wsL_law wsX9_untell := goodIn_r _ [652, 160, 165, 166, 5, 167, 168, 169, 170, 171, 124, 172, 263, 264, 265, 266, 121, 1115, 1116, 1117, 1118, 1119, 1120, 1121, 1122, 1123, 1124, 1125, 1126, 1127, 1128, 1129, 1130, 1131, 1132, 1133, 1134, 1135] (by decide +kernel) (by decide +kernel)
set_option maxRecDepth 20000 in
theorem gL_law_X9_untell : GoodIn wsL_law (wsV RL 73 RX9 yX9_untell wsX9_untell) := goodIn_app (goodIn_of _ (by decide +kernel)) ggL_law_X9_untell
set_option maxRecDepth 20000 in
theorem ggL_law_X8_law : GoodIn wsL_law wsX8_law := goodIn_r _ [656, 138, 16, 141, 142, 2, 143, 144, 145, 146, 147, 148, 35, 657, 194, 195, 15, 196, 52, 53, 197, 198, 199, 51, 200, 69, 201, 202, 203, 204, 67, 68, 205, 206, 207, 208, 209, 210, 211, 212, 213, 214, 215, 216, 217, 218, 219, 220, 1106, 1107, 1108, 1109, 1110, 1111, 1112, 1113, 1114, 1136, 1137, 1138, 1139, 1140, 1141, 1142, 1143, 1144, 1145, 1146, 1147, 1166, 1167, 1168] (by decide +kernel) (by decide +kernel)
set_option maxRecDepth 20000 in
theorem gL_law_X8_law : GoodIn wsL_law (wsV RL 74 RX8 yX8_law wsX8_law) := goodIn_app (goodIn_of _ (by decide +kernel)) ggL_law_X8_law
set_option maxRecDepth 20000 in
theorem ggL_law_X9_law : GoodIn wsL_law wsX9_law := goodIn_r _ [661, 160, 165, 166, 5, 167, 241, 242, 243, 244, 130, 121, 245, 246, 247, 248, 131, 249, 250, 251, 252, 253, 254, 168, 169, 170, 171, 124, 172, 1115, 1116, 1117, 1118, 1119, 1120, 1121, 1122, 1123, 1124, 1125, 1126, 1127, 1128, 1129, 1130, 1131, 1132, 1133, 1134, 1135] (by decide +kernel) (by decide +kernel)
set_option maxRecDepth 20000 in
theorem gL_law_X9_law : GoodIn wsL_law (wsV RL 78 RX9 yX9_law wsX9_law) := goodIn_app (goodIn_of _ (by decide +kernel)) ggL_law_X9_law
set_option maxRecDepth 20000 in
theorem ggL_law_X8_hours : GoodIn wsL_law wsX8_hours := goodIn_r _ [665, 138, 16, 666, 399, 141, 142, 2, 143, 144, 145, 146, 147, 148, 35, 667, 668, 669, 15, 670, 48, 47, 293, 294, 214, 215, 216, 217, 58, 1106, 1107, 1108, 1109, 1110, 1111, 1112, 1113, 1114, 1136, 1137, 1138, 1139, 1140, 1141, 1142, 1143, 1144, 1145, 1146, 1147, 1173, 1174, 1175, 1176] (by decide +kernel) (by decide +kernel)
set_option maxRecDepth 20000 in
theorem gL_law_X8_hours : GoodIn wsL_law (wsV RL 79 RX8 yX8_hours wsX8_hours) := goodIn_app (goodIn_of _ (by decide +kernel)) ggL_law_X8_hours
set_option maxRecDepth 20000 in
theorem ggL_law_X9_hours : GoodIn wsL_law wsX9_hours := goodIn_r _ [674, 160, 121, 415, 165, 166, 5, 167, 168, 169, 170, 171, 124, 172, 675, 676, 677, 678, 329, 330, 331, 332, 252, 253, 254, 301, 302, 303, 304, 1115, 1116, 1117, 1118, 1119, 1120, 1121, 1122, 1123, 1124, 1125, 1126, 1127, 1128, 1129, 1130, 1131, 1132, 1133, 1134, 1135] (by decide +kernel) (by decide +kernel)
set_option maxRecDepth 20000 in
theorem gL_law_X9_hours : GoodIn wsL_law (wsV RL 82 RX9 yX9_hours wsX9_hours) := goodIn_app (goodIn_of _ (by decide +kernel)) ggL_law_X9_hours
set_option maxRecDepth 20000 in
theorem ggL_law_X8_loose : GoodIn wsL_law wsX8_loose := goodIn_r _ [682, 138, 16, 666, 399, 141, 142, 2, 143, 144, 145, 146, 147, 148, 35, 683, 684, 685, 15, 686, 48, 47, 687, 401, 402, 403, 294, 404, 318, 319, 320, 293, 45, 688, 689, 690, 691, 59, 692, 693, 406, 407, 408, 155, 214, 215, 216, 217, 218, 219, 220, 296, 409, 181, 182, 183, 44, 410, 361, 362, 363, 58, 188, 154, 364, 365, 366, 61, 367, 74, 75, 77, 76, 368, 369, 370, 371, 372, 373, 374, 375, 376, 377, 378, 379, 193, 194, 195, 196, 52, 53, 197, 198, 199, 51, 200, 69, 201, 202, 203, 204, 67, 68, 205, 206, 207, 208, 209, 210, 211, 212, 213, 694, 668, 669, 670, 1106, 1107, 1108, 1109, 1110, 1111, 1112, 1113, 1114, 1136, 1137, 1138, 1139, 1140, 1141, 1142, 1143, 1144, 1145, 1146, 1147, 1173, 1174, 1175, 1176, 1169, 1170, 1171, 1172, 1166, 1167, 1168] (by decide +kernel) (by decide +kernel)
set_option maxRecDepth 20000 in
theorem gL_law_X8_loose : GoodIn wsL_law (wsV RL 83 RX8 yX8_loose wsX8_loose) := goodIn_app (goodIn_of _ (by decide +kernel)) ggL_law_X8_loose
set_option maxRecDepth 20000 in
theorem ggL_law_X9_loose : GoodIn wsL_law wsX9_loose := goodIn_r _ [698, 160, 121, 415, 165, 166, 5, 167, 168, 169, 170, 171, 124, 172, 699, 700, 701, 702, 416, 417, 418, 419, 333, 334, 335, 336, 329, 330, 331, 332, 703, 704, 705, 706, 707, 420, 421, 422, 423, 387, 388, 389, 390, 391, 392, 393, 394, 229, 230, 231, 232, 241, 242, 243, 244, 130, 245, 246, 247, 248, 131, 249, 250, 251, 252, 253, 254, 301, 302, 303, 304, 675, 676, 677, 678, 1115, 1116, 1117, 1118, 1119, 1120, 1121, 1122, 1123, 1124, 1125, 1126, 1127, 1128, 1129, 1130, 1131, 1132, 1133, 1134, 1135] (by decide +kernel) (by decide +kernel)
set_option maxRecDepth 20000 in
theorem gL_law_X9_loose : GoodIn wsL_law (wsV RL 86 RX9 yX9_loose wsX9_loose) := goodIn_app (goodIn_of _ (by decide +kernel)) ggL_law_X9_loose
set_option maxRecDepth 20000 in
theorem ggL_law_X8_seed : GoodIn wsL_law wsX8_seed := goodIn_r _ [711, 16, 712, 1106, 1107, 1108, 1109, 1110, 1111, 1112, 1113, 1114, 1136, 1137, 1138, 1139, 1140, 1141, 1142, 1143, 1144, 1145, 1146, 1147] (by decide +kernel) (by decide +kernel)
set_option maxRecDepth 20000 in
theorem gL_law_X8_seed : GoodIn wsL_law (wsV RL 87 RX8 yX8_seed wsX8_seed) := goodIn_app (goodIn_of _ (by decide +kernel)) ggL_law_X8_seed
set_option maxRecDepth 20000 in
theorem ggL_law_X9_seed : GoodIn wsL_law wsX9_seed := goodIn_r _ [716, 263, 264, 265, 5, 266, 121, 1115, 1116, 1117, 1118, 1119, 1120, 1121, 1122, 1123, 1124, 1125, 1126, 1127, 1128, 1129, 1130, 1131, 1132, 1133, 1134, 1135] (by decide +kernel) (by decide +kernel)
set_option maxRecDepth 20000 in
theorem gL_law_X9_seed : GoodIn wsL_law (wsV RL 90 RX9 yX9_seed wsX9_seed) := goodIn_app (goodIn_of _ (by decide +kernel)) ggL_law_X9_seed
set_option maxRecDepth 20000 in
theorem ggL_law_X8_words : GoodIn wsL_law wsX8_words := goodIn_r _ [720, 16, 138, 721, 180, 181, 182, 15, 183, 45, 44, 141, 142, 2, 143, 144, 145, 146, 147, 148, 35, 722, 723, 724, 725, 410, 361, 362, 363, 58, 188, 154, 364, 365, 366, 61, 367, 74, 75, 77, 76, 368, 369, 370, 371, 372, 373, 374, 375, 376, 377, 378, 379, 193, 194, 195, 196, 52, 53, 197, 198, 199, 51, 200, 69, 201, 202, 203, 204, 67, 68, 205, 206, 207, 208, 209, 210, 211, 212, 213, 214, 215, 216, 217, 218, 219, 220, 726, 727, 728, 729, 1106, 1107, 1108, 1109, 1110, 1111, 1112, 1113, 1114, 1136, 1137, 1138, 1139, 1140, 1141, 1142, 1143, 1144, 1145, 1146, 1147, 1169, 1170, 1171, 1172, 1166, 1167, 1168] (by decide +kernel) (by decide +kernel)
set_option maxRecDepth 20000 in
theorem gL_law_X8_words : GoodIn wsL_law (wsV RL 91 RX8 yX8_words wsX8_words) := goodIn_app (goodIn_of _ (by decide +kernel)) ggL_law_X8_words
set_option maxRecDepth 20000 in
theorem ggL_law_X9_words : GoodIn wsL_law wsX9_words := goodIn_r _ [733, 160, 734, 225, 226, 227, 5, 228, 121, 165, 166, 167, 168, 169, 170, 171, 124, 172, 735, 736, 737, 738, 387, 388, 389, 390, 391, 392, 393, 394, 229, 230, 231, 232, 241, 242, 243, 244, 130, 245, 246, 247, 248, 131, 249, 250, 251, 252, 253, 254, 1115, 1116, 1117, 1118, 1119, 1120, 1121, 1122, 1123, 1124, 1125, 1126, 1127, 1128, 1129, 1130, 1131, 1132, 1133, 1134, 1135] (by decide +kernel) (by decide +kernel)
set_option maxRecDepth 20000 in
theorem gL_law_X9_words : GoodIn wsL_law (wsV RL 94 RX9 yX9_words wsX9_words) := goodIn_app (goodIn_of _ (by decide +kernel)) ggL_law_X9_words
set_option maxRecDepth 20000 in
theorem ggL_law_X8_climb : GoodIn wsL_law wsX8_climb := goodIn_r _ [742, 18, 16, 138, 721, 399, 743, 309, 744, 745, 746, 15, 747, 45, 44, 48, 47, 52, 53, 54, 748, 587, 588, 589, 55, 56, 57, 58, 59, 749, 750, 751, 61, 752, 74, 75, 76, 753, 754, 755, 63, 756, 81, 82, 83, 84, 757, 583, 584, 51, 585, 67, 586, 69, 313, 314, 315, 316, 758, 759, 760, 2, 761, 33, 141, 142, 143, 144, 145, 146, 147, 148, 35, 762, 763, 764, 38, 765, 115, 766, 767, 768, 769, 116, 770, 771, 772, 773, 114, 358, 359, 400, 401, 402, 403, 294, 404, 318, 319, 320, 293, 774, 405, 406, 407, 408, 155, 214, 215, 216, 217, 218, 219, 220, 296, 409, 181, 182, 183, 410, 361, 362, 363, 188, 154, 364, 365, 366, 367, 77, 368, 369, 370, 371, 372, 373, 374, 375, 376, 377, 378, 379, 193, 194, 195, 196, 197, 198, 199, 200, 201, 202, 203, 204, 68, 205, 206, 207, 208, 209, 210, 211, 212, 213, 1106, 1107, 1108, 1109, 1110, 1111, 1112, 1113, 1114, 1163, 1164, 1165, 1173, 1174, 1175, 1176, 1136, 1137, 1138, 1139, 1140, 1141, 1142, 1143, 1144, 1145, 1146, 1147, 1169, 1170, 1171, 1172, 1166, 1167, 1168] (by decide +kernel) (by decide +kernel)
set_option maxRecDepth 20000 in
theorem gL_law_X8_climb : GoodIn wsL_law (wsV RL 95 RX8 yX8_climb wsX8_climb) := goodIn_app (goodIn_of _ (by decide +kernel)) ggL_law_X8_climb
set_option maxRecDepth 20000 in
theorem ggL_law_X9_climb : GoodIn wsL_law wsX9_climb := goodIn_r _ [778, 160, 125, 734, 415, 126, 127, 325, 326, 327, 5, 328, 121, 165, 166, 167, 779, 780, 781, 168, 169, 170, 171, 124, 172, 782, 783, 784, 785, 384, 385, 386, 786, 787, 788, 789, 123, 790, 791, 792, 416, 417, 418, 419, 333, 334, 335, 336, 329, 330, 331, 332, 420, 421, 422, 423, 387, 388, 389, 390, 391, 392, 393, 394, 229, 230, 231, 232, 241, 242, 243, 244, 130, 245, 246, 247, 248, 131, 249, 250, 251, 252, 253, 254, 301, 302, 303, 304, 793, 794, 795, 796, 1115, 1116, 1117, 1118, 1119, 1120, 1121, 1122, 1123, 1124, 1125, 1126, 1127, 1128, 1129, 1130, 1131, 1132, 1133, 1134, 1135] (by decide +kernel) (by decide +kernel)
set_option maxRecDepth 20000 in
theorem gL_law_X9_climb : GoodIn wsL_law (wsV RL 99 RX9 yX9_climb wsX9_climb) := goodIn_app (goodIn_of _ (by decide +kernel)) ggL_law_X9_climb
set_option maxRecDepth 20000 in
theorem ggL_law_X8_fewest : GoodIn wsL_law wsX8_fewest := goodIn_r _ [800, 16, 138, 31, 309, 721, 313, 314, 315, 15, 316, 48, 47, 141, 142, 2, 143, 144, 145, 146, 147, 148, 35, 801, 802, 803, 30, 804, 109, 110, 805, 219, 216, 220, 806, 107, 108, 807, 808, 809, 810, 811, 812, 813, 814, 181, 182, 183, 45, 44, 815, 361, 362, 363, 58, 188, 154, 364, 365, 366, 61, 367, 74, 75, 77, 76, 368, 369, 370, 371, 372, 373, 374, 375, 376, 377, 378, 379, 193, 194, 195, 196, 52, 53, 197, 198, 199, 51, 200, 69, 201, 202, 203, 204, 67, 68, 205, 206, 207, 208, 209, 210, 211, 212, 213, 214, 215, 217, 218, 816, 817, 818, 819, 820, 821, 822, 823, 1106, 1107, 1108, 1109, 1110, 1111, 1112, 1113, 1114, 1173, 1174, 1175, 1176, 1136, 1137, 1138, 1139, 1140, 1141, 1142, 1143, 1144, 1145, 1146, 1147, 1159, 1160, 1161, 1162, 1169, 1170, 1171, 1172, 1166, 1167, 1168] (by decide +kernel) (by decide +kernel)
set_option maxRecDepth 20000 in
theorem gL_law_X8_fewest : GoodIn wsL_law (wsV RL 100 RX8 yX8_fewest wsX8_fewest) := goodIn_app (goodIn_of _ (by decide +kernel)) ggL_law_X8_fewest
set_option maxRecDepth 20000 in
theorem ggL_law_X9_fewest : GoodIn wsL_law wsX9_fewest := goodIn_r _ [827, 160, 121, 132, 734, 325, 326, 327, 5, 328, 165, 166, 167, 168, 169, 170, 171, 124, 172, 329, 330, 331, 332, 828, 829, 830, 831, 387, 388, 389, 390, 391, 392, 393, 394, 229, 230, 231, 232, 241, 242, 243, 244, 130, 245, 246, 247, 248, 131, 249, 250, 251, 252, 253, 254, 832, 833, 834, 835, 1115, 1116, 1117, 1118, 1119, 1120, 1121, 1122, 1123, 1124, 1125, 1126, 1127, 1128, 1129, 1130, 1131, 1132, 1133, 1134, 1135] (by decide +kernel) (by decide +kernel)
set_option maxRecDepth 20000 in
theorem gL_law_X9_fewest : GoodIn wsL_law (wsV RL 103 RX9 yX9_fewest wsX9_fewest) := goodIn_app (goodIn_of _ (by decide +kernel)) ggL_law_X9_fewest
set_option maxRecDepth 20000 in
theorem ggL_law_X8_cheapest : GoodIn wsL_law wsX8_cheapest := goodIn_r _ [839, 16, 138, 721, 309, 139, 313, 314, 315, 15, 316, 48, 47, 758, 759, 760, 2, 761, 33, 141, 142, 143, 144, 145, 146, 147, 148, 35, 762, 763, 764, 38, 765, 115, 180, 181, 182, 183, 45, 44, 840, 841, 842, 843, 743, 774, 771, 772, 773, 116, 114, 357, 358, 359, 360, 361, 362, 363, 58, 188, 154, 364, 365, 366, 61, 367, 74, 75, 77, 76, 368, 369, 370, 371, 372, 373, 374, 375, 376, 377, 378, 379, 193, 194, 195, 196, 52, 53, 197, 198, 199, 51, 200, 69, 201, 202, 203, 204, 67, 68, 205, 206, 207, 208, 209, 210, 211, 212, 213, 214, 215, 216, 217, 218, 219, 220, 184, 185, 186, 187, 153, 189, 190, 191, 192, 1106, 1107, 1108, 1109, 1110, 1111, 1112, 1113, 1114, 1173, 1174, 1175, 1176, 1136, 1137, 1138, 1139, 1140, 1141, 1142, 1143, 1144, 1145, 1146, 1147, 1163, 1164, 1165, 1169, 1170, 1171, 1172, 1166, 1167, 1168] (by decide +kernel) (by decide +kernel)
set_option maxRecDepth 20000 in
theorem gL_law_X8_cheapest : GoodIn wsL_law (wsV RL 104 RX8 yX8_cheapest wsX8_cheapest) := goodIn_app (goodIn_of _ (by decide +kernel)) ggL_law_X8_cheapest
set_option maxRecDepth 20000 in
theorem ggL_law_X9_cheapest : GoodIn wsL_law wsX9_cheapest := goodIn_r _ [847, 160, 125, 734, 121, 325, 326, 327, 5, 328, 165, 166, 167, 779, 780, 781, 168, 169, 170, 171, 124, 172, 329, 330, 331, 332, 848, 849, 850, 851, 126, 127, 384, 385, 386, 387, 388, 389, 390, 391, 392, 393, 394, 229, 230, 231, 232, 241, 242, 243, 244, 130, 245, 246, 247, 248, 131, 249, 250, 251, 252, 253, 254, 233, 234, 235, 236, 237, 238, 239, 240, 1115, 1116, 1117, 1118, 1119, 1120, 1121, 1122, 1123, 1124, 1125, 1126, 1127, 1128, 1129, 1130, 1131, 1132, 1133, 1134, 1135] (by decide +kernel) (by decide +kernel)
set_option maxRecDepth 20000 in
theorem gL_law_X9_cheapest : GoodIn wsL_law (wsV RL 107 RX9 yX9_cheapest wsX9_cheapest) := goodIn_app (goodIn_of _ (by decide +kernel)) ggL_law_X9_cheapest
set_option maxRecDepth 20000 in
theorem ggL_law_X8_odds : GoodIn wsL_law wsX8_odds := goodIn_r _ [855, 16, 138, 309, 856, 313, 314, 315, 15, 316, 48, 47, 141, 142, 2, 143, 144, 145, 146, 147, 148, 35, 180, 181, 182, 183, 45, 44, 722, 723, 724, 725, 410, 361, 362, 363, 58, 188, 154, 364, 365, 366, 61, 367, 74, 75, 77, 76, 368, 369, 370, 371, 372, 373, 374, 375, 376, 377, 378, 379, 193, 194, 195, 196, 52, 53, 197, 198, 199, 51, 200, 69, 201, 202, 203, 204, 67, 68, 205, 206, 207, 208, 209, 210, 211, 212, 213, 214, 215, 216, 217, 218, 219, 220, 857, 858, 859, 1106, 1107, 1108, 1109, 1110, 1111, 1112, 1113, 1114, 1173, 1174, 1175, 1176, 1136, 1137, 1138, 1139, 1140, 1141, 1142, 1143, 1144, 1145, 1146, 1147, 1169, 1170, 1171, 1172, 1166, 1167, 1168] (by decide +kernel) (by decide +kernel)
set_option maxRecDepth 20000 in
theorem gL_law_X8_odds : GoodIn wsL_law (wsV RL 108 RX8 yX8_odds wsX8_odds) := goodIn_app (goodIn_of _ (by decide +kernel)) ggL_law_X8_odds
set_option maxRecDepth 20000 in
theorem ggL_law_X9_odds : GoodIn wsL_law wsX9_odds := goodIn_r _ [863, 160, 121, 864, 325, 326, 327, 5, 328, 165, 166, 167, 168, 169, 170, 171, 124, 172, 329, 330, 331, 332, 735, 736, 737, 738, 387, 388, 389, 390, 391, 392, 393, 394, 229, 230, 231, 232, 241, 242, 243, 244, 130, 245, 246, 247, 248, 131, 249, 250, 251, 252, 253, 254, 1115, 1116, 1117, 1118, 1119, 1120, 1121, 1122, 1123, 1124, 1125, 1126, 1127, 1128, 1129, 1130, 1131, 1132, 1133, 1134, 1135] (by decide +kernel) (by decide +kernel)
set_option maxRecDepth 20000 in
theorem gL_law_X9_odds : GoodIn wsL_law (wsV RL 112 RX9 yX9_odds wsX9_odds) := goodIn_app (goodIn_of _ (by decide +kernel)) ggL_law_X9_odds
set_option maxRecDepth 20000 in
theorem ggL_law_X8_fits : GoodIn wsL_law wsX8_fits := goodIn_r _ [868, 138, 721, 758, 759, 760, 2, 761, 33, 141, 142, 143, 144, 145, 146, 147, 148, 35, 762, 763, 764, 38, 765, 115, 869, 870, 871, 872, 743, 16, 180, 181, 182, 15, 183, 45, 44, 774, 771, 772, 773, 116, 114, 360, 361, 362, 363, 58, 188, 154, 364, 365, 366, 61, 367, 74, 75, 77, 76, 368, 369, 370, 371, 372, 373, 374, 375, 376, 377, 378, 379, 193, 194, 195, 196, 52, 53, 197, 198, 199, 51, 200, 69, 201, 202, 203, 204, 67, 68, 205, 206, 207, 208, 209, 210, 211, 212, 213, 214, 215, 216, 217, 218, 219, 220, 1106, 1107, 1108, 1109, 1110, 1111, 1112, 1113, 1114, 1163, 1164, 1165, 1136, 1137, 1138, 1139, 1140, 1141, 1142, 1143, 1144, 1145, 1146, 1147, 1169, 1170, 1171, 1172, 1166, 1167, 1168] (by decide +kernel) (by decide +kernel)
set_option maxRecDepth 20000 in
theorem gL_law_X8_fits : GoodIn wsL_law (wsV RL 113 RX8 yX8_fits wsX8_fits) := goodIn_app (goodIn_of _ (by decide +kernel)) ggL_law_X8_fits
set_option maxRecDepth 20000 in
theorem ggL_law_X9_fits : GoodIn wsL_law wsX9_fits := goodIn_r _ [876, 160, 125, 734, 779, 780, 5, 781, 165, 166, 167, 168, 169, 170, 171, 124, 172, 877, 878, 879, 880, 126, 121, 127, 387, 388, 389, 390, 391, 392, 393, 394, 229, 230, 231, 232, 241, 242, 243, 244, 130, 245, 246, 247, 248, 131, 249, 250, 251, 252, 253, 254, 1115, 1116, 1117, 1118, 1119, 1120, 1121, 1122, 1123, 1124, 1125, 1126, 1127, 1128, 1129, 1130, 1131, 1132, 1133, 1134, 1135] (by decide +kernel) (by decide +kernel)
set_option maxRecDepth 20000 in
theorem gL_law_X9_fits : GoodIn wsL_law (wsV RL 116 RX9 yX9_fits wsX9_fits) := goodIn_app (goodIn_of _ (by decide +kernel)) ggL_law_X9_fits
set_option maxRecDepth 20000 in
theorem ggL_law_X8_voice : GoodIn wsL_law wsX8_voice := goodIn_r _ [884, 16, 138, 27, 885, 886, 180, 181, 182, 15, 183, 45, 44, 141, 142, 2, 143, 144, 145, 146, 147, 148, 35, 887, 888, 889, 26, 890, 98, 99, 891, 101, 892, 102, 893, 103, 894, 895, 896, 897, 898, 899, 900, 901, 902, 903, 276, 277, 278, 904, 905, 906, 907, 908, 909, 910, 911, 912, 100, 913, 914, 915, 916, 917, 918, 919, 1106, 1107, 1108, 1109, 1110, 1111, 1112, 1113, 1114, 1153, 1154, 1155, 1156, 1157, 1158, 1136, 1137, 1138, 1139, 1140, 1141, 1142, 1143, 1144, 1145, 1146, 1147, 1169, 1170, 1171, 1172] (by decide +kernel) (by decide +kernel)
set_option maxRecDepth 20000 in
theorem gL_law_X8_voice : GoodIn wsL_law (wsV RL 117 RX8 yX8_voice wsX8_voice) := goodIn_app (goodIn_of _ (by decide +kernel)) ggL_law_X8_voice
set_option maxRecDepth 20000 in
theorem ggL_law_X9_voice : GoodIn wsL_law wsX9_voice := goodIn_r _ [923, 160, 924, 925, 926, 225, 226, 227, 5, 228, 121, 165, 166, 167, 168, 169, 170, 171, 124, 172, 927, 928, 929, 930, 229, 230, 231, 232, 931, 932, 933, 934, 935, 936, 937, 938, 133, 939, 940, 941, 942, 943, 944, 945, 946, 947, 948, 949, 950, 951, 952, 953, 954, 955, 956, 957, 958, 959, 960, 961, 962, 963, 964, 965, 966, 967, 968, 969, 970, 1115, 1116, 1117, 1118, 1119, 1120, 1121, 1122, 1123, 1124, 1125, 1126, 1127, 1128, 1129, 1130, 1131, 1132, 1133, 1134, 1135] (by decide +kernel) (by decide +kernel)
set_option maxRecDepth 20000 in
theorem gL_law_X9_voice : GoodIn wsL_law (wsV RL 120 RX9 yX9_voice wsX9_voice) := goodIn_app (goodIn_of _ (by decide +kernel)) ggL_law_X9_voice
set_option maxRecDepth 20000 in
theorem ggL_law_X8_body : GoodIn wsL_law wsX8_body := goodIn_r _ [974, 27, 975, 721, 141, 142, 2, 143, 976, 977, 978, 26, 979, 98, 100, 144, 145, 146, 147, 148, 35, 1106, 1107, 1108, 1109, 1110, 1111, 1112, 1113, 1114, 1153, 1154, 1155, 1156, 1157, 1158] (by decide +kernel) (by decide +kernel)
set_option maxRecDepth 20000 in
theorem gL_law_X8_body : GoodIn wsL_law (wsV RL 121 RX8 yX8_body wsX8_body) := goodIn_app (goodIn_of _ (by decide +kernel)) ggL_law_X8_body
set_option maxRecDepth 20000 in
theorem ggL_law_X9_body : GoodIn wsL_law wsX9_body := goodIn_r _ [983, 924, 133, 734, 165, 166, 5, 167, 168, 169, 170, 171, 124, 172, 1115, 1116, 1117, 1118, 1119, 1120, 1121, 1122, 1123, 1124, 1125, 1126, 1127, 1128, 1129, 1130, 1131, 1132, 1133, 1134, 1135] (by decide +kernel) (by decide +kernel)
set_option maxRecDepth 20000 in
theorem gL_law_X9_body : GoodIn wsL_law (wsV RL 124 RX9 yX9_body wsX9_body) := goodIn_app (goodIn_of _ (by decide +kernel)) ggL_law_X9_body
set_option maxRecDepth 20000 in
theorem ggL_law_X8_sheet : GoodIn wsL_law wsX8_sheet := goodIn_r _ [987, 138, 399, 758, 759, 760, 2, 761, 33, 144, 145, 146, 147, 148, 35, 141, 142, 143, 988, 989, 990, 38, 991, 114, 115, 992, 215, 216, 217, 993, 219, 220, 116, 994, 808, 809, 810, 1106, 1107, 1108, 1109, 1110, 1111, 1112, 1113, 1114, 1163, 1164, 1165] (by decide +kernel) (by decide +kernel)
set_option maxRecDepth 20000 in
theorem gL_law_X8_sheet : GoodIn wsL_law (wsV RL 125 RX8 yX8_sheet wsX8_sheet) := goodIn_app (goodIn_of _ (by decide +kernel)) ggL_law_X8_sheet
set_option maxRecDepth 20000 in
theorem ggL_law_X9_sheet : GoodIn wsL_law wsX9_sheet := goodIn_r _ [998, 160, 415, 125, 126, 127, 779, 780, 5, 781, 165, 166, 167, 168, 169, 170, 171, 124, 172, 1115, 1116, 1117, 1118, 1119, 1120, 1121, 1122, 1123, 1124, 1125, 1126, 1127, 1128, 1129, 1130, 1131, 1132, 1133, 1134, 1135] (by decide +kernel) (by decide +kernel)
set_option maxRecDepth 20000 in
theorem gL_law_X9_sheet : GoodIn wsL_law (wsV RL 128 RX9 yX9_sheet wsX9_sheet) := goodIn_app (goodIn_of _ (by decide +kernel)) ggL_law_X9_sheet
set_option maxRecDepth 20000 in
theorem ggL_law_X8_put : GoodIn wsL_law wsX8_put := goodIn_r _ [1002, 138, 721, 743, 758, 759, 760, 2, 761, 33, 144, 145, 146, 147, 148, 35, 141, 142, 143, 762, 763, 764, 38, 765, 115, 1003, 1004, 1005, 1006, 116, 114, 1007, 1008, 1009, 1010, 1011, 1163, 1164, 1165, 1106, 1107, 1108, 1109, 1110, 1111, 1112, 1113, 1114] (by decide +kernel) (by decide +kernel)
set_option maxRecDepth 20000 in
theorem gL_law_X8_put : GoodIn wsL_law (wsV RL 129 RX8 yX8_put wsX8_put) := goodIn_app (goodIn_of _ (by decide +kernel)) ggL_law_X8_put
set_option maxRecDepth 20000 in
theorem ggL_law_X9_put : GoodIn wsL_law wsX9_put := goodIn_r _ [1015, 126, 160, 127, 125, 1016, 1017, 1018, 5, 1019, 734, 779, 780, 781, 165, 166, 167, 168, 169, 170, 171, 124, 172, 1115, 1116, 1117, 1118, 1119, 1120, 1121, 1122, 1123, 1124, 1125, 1126, 1127, 1128, 1129, 1130, 1131, 1132, 1133, 1134, 1135] (by decide +kernel) (by decide +kernel)
set_option maxRecDepth 20000 in
theorem gL_law_X9_put : GoodIn wsL_law (wsV RL 132 RX9 yX9_put wsX9_put) := goodIn_app (goodIn_of _ (by decide +kernel)) ggL_law_X9_put
set_option maxRecDepth 20000 in
theorem ggL_law_X8_move : GoodIn wsL_law wsX8_move := goodIn_r _ [1023, 138, 721, 1024, 271, 1025, 1026, 587, 588, 589, 758, 759, 760, 2, 761, 33, 144, 145, 146, 147, 148, 35, 141, 142, 143, 762, 763, 764, 38, 765, 115, 1027, 1028, 1029, 1030, 116, 1163, 1164, 1165, 1106, 1107, 1108, 1109, 1110, 1111, 1112, 1113, 1114] (by decide +kernel) (by decide +kernel)
set_option maxRecDepth 20000 in
theorem gL_law_X8_move : GoodIn wsL_law (wsV RL 133 RX8 yX8_move wsX8_move) := goodIn_app (goodIn_of _ (by decide +kernel)) ggL_law_X8_move
set_option maxRecDepth 20000 in
theorem ggL_law_X9_move : GoodIn wsL_law wsX9_move := goodIn_r _ [1034, 127, 1035, 1036, 1037, 5, 1038, 160, 125, 734, 283, 126, 779, 780, 781, 165, 166, 167, 168, 169, 170, 171, 124, 172, 1115, 1116, 1117, 1118, 1119, 1120, 1121, 1122, 1123, 1124, 1125, 1126, 1127, 1128, 1129, 1130, 1131, 1132, 1133, 1134, 1135] (by decide +kernel) (by decide +kernel)
set_option maxRecDepth 20000 in
theorem gL_law_X9_move : GoodIn wsL_law (wsV RL 137 RX9 yX9_move wsX9_move) := goodIn_app (goodIn_of _ (by decide +kernel)) ggL_law_X9_move
set_option maxRecDepth 20000 in
theorem ggL_law_X8_carries : GoodIn wsL_law wsX8_carries := goodIn_r _ [1042, 138, 721, 743, 16, 139, 309, 758, 759, 760, 2, 761, 33, 144, 145, 146, 147, 148, 35, 141, 142, 143, 762, 763, 764, 38, 765, 115, 313, 314, 315, 15, 316, 48, 47, 774, 771, 772, 773, 116, 114, 1163, 1164, 1165, 1106, 1107, 1108, 1109, 1110, 1111, 1112, 1113, 1114, 1136, 1137, 1138, 1139, 1140, 1141, 1142, 1143, 1144, 1145, 1146, 1147, 1173, 1174, 1175, 1176] (by decide +kernel) (by decide +kernel)
set_option maxRecDepth 20000 in
theorem gL_law_X8_carries : GoodIn wsL_law (wsV RL 138 RX8 yX8_carries wsX8_carries) := goodIn_app (goodIn_of _ (by decide +kernel)) ggL_law_X8_carries
set_option maxRecDepth 20000 in
theorem ggL_law_X9_carries : GoodIn wsL_law wsX9_carries := goodIn_r _ [1046, 126, 121, 127, 1016, 1017, 1018, 5, 1019, 160, 125, 734, 779, 780, 781, 165, 166, 167, 168, 169, 170, 171, 124, 172, 301, 302, 303, 304, 1115, 1116, 1117, 1118, 1119, 1120, 1121, 1122, 1123, 1124, 1125, 1126, 1127, 1128, 1129, 1130, 1131, 1132, 1133, 1134, 1135] (by decide +kernel) (by decide +kernel)
set_option maxRecDepth 20000 in
theorem gL_law_X9_carries : GoodIn wsL_law (wsV RL 141 RX9 yX9_carries wsX9_carries) := goodIn_app (goodIn_of _ (by decide +kernel)) ggL_law_X9_carries
set_option maxRecDepth 20000 in
theorem ggL_law_X8_judge : GoodIn wsL_law wsX8_judge := goodIn_r _ [1050, 138, 721, 743, 16, 309, 758, 759, 760, 2, 761, 33, 144, 145, 146, 147, 148, 35, 141, 142, 143, 762, 763, 764, 38, 765, 115, 313, 314, 315, 15, 316, 48, 47, 774, 771, 772, 773, 116, 114, 1163, 1164, 1165, 1106, 1107, 1108, 1109, 1110, 1111, 1112, 1113, 1114, 1173, 1174, 1175, 1176, 1136, 1137, 1138, 1139, 1140, 1141, 1142, 1143, 1144, 1145, 1146, 1147] (by decide +kernel) (by decide +kernel)
set_option maxRecDepth 20000 in
theorem gL_law_X8_judge : GoodIn wsL_law (wsV RL 142 RX8 yX8_judge wsX8_judge) := goodIn_app (goodIn_of _ (by decide +kernel)) ggL_law_X8_judge
set_option maxRecDepth 20000 in
theorem ggL_law_X9_judge : GoodIn wsL_law wsX9_judge := goodIn_r _ [1054, 126, 121, 127, 1016, 1017, 1018, 5, 1019, 160, 125, 734, 779, 780, 781, 165, 166, 167, 168, 169, 170, 171, 124, 172, 329, 330, 331, 332, 1115, 1116, 1117, 1118, 1119, 1120, 1121, 1122, 1123, 1124, 1125, 1126, 1127, 1128, 1129, 1130, 1131, 1132, 1133, 1134, 1135] (by decide +kernel) (by decide +kernel)
set_option maxRecDepth 20000 in
theorem gL_law_X9_judge : GoodIn wsL_law (wsV RL 145 RX9 yX9_judge wsX9_judge) := goodIn_app (goodIn_of _ (by decide +kernel)) ggL_law_X9_judge
set_option maxRecDepth 20000 in
theorem ggL_law_X8_image : GoodIn wsL_law wsX8_image := goodIn_r _ [1058, 17, 16, 36, 744, 745, 746, 15, 747, 45, 44, 48, 47, 52, 53, 54, 748, 587, 588, 589, 55, 56, 57, 58, 59, 749, 750, 751, 61, 752, 74, 75, 76, 753, 754, 755, 63, 756, 81, 82, 83, 84, 757, 583, 584, 51, 585, 67, 586, 69, 1106, 1107, 1108, 1109, 1110, 1111, 1112, 1113, 1114, 1136, 1137, 1138, 1139, 1140, 1141, 1142, 1143, 1144, 1145, 1146, 1147, 1169, 1170, 1171, 1172, 1173, 1174, 1175, 1176, 1166, 1167, 1168] (by decide +kernel) (by decide +kernel)
set_option maxRecDepth 20000 in
theorem gL_law_X8_image : GoodIn wsL_law (wsV RL 146 RX8 yX8_image wsX8_image) := goodIn_app (goodIn_of _ (by decide +kernel)) ggL_law_X8_image
set_option maxRecDepth 20000 in
theorem ggL_law_X9_image : GoodIn wsL_law wsX9_image := goodIn_r _ [1062, 121, 122, 1063, 790, 791, 5, 792, 1115, 1116, 1117, 1118, 1119, 1120, 1121, 1122, 1123, 1124, 1125, 1126, 1127, 1128, 1129, 1130, 1131, 1132, 1133, 1134, 1135] (by decide +kernel) (by decide +kernel)
set_option maxRecDepth 20000 in
theorem gL_law_X9_image : GoodIn wsL_law (wsV RL 150 RX9 yX9_image wsX9_image) := goodIn_app (goodIn_of _ (by decide +kernel)) ggL_law_X9_image
set_option maxRecDepth 20000 in
theorem ggL_law_X8_restore : GoodIn wsL_law wsX8_restore := goodIn_r _ [1067, 36, 721, 16, 17, 666, 144, 145, 146, 2, 147, 148, 35, 141, 142, 143, 744, 745, 746, 15, 747, 45, 44, 48, 47, 52, 53, 54, 748, 587, 588, 589, 55, 56, 57, 58, 59, 749, 750, 751, 61, 752, 74, 75, 76, 753, 754, 755, 63, 756, 81, 82, 83, 84, 757, 583, 584, 51, 585, 67, 586, 69, 1106, 1107, 1108, 1109, 1110, 1111, 1112, 1113, 1114, 1136, 1137, 1138, 1139, 1140, 1141, 1142, 1143, 1144, 1145, 1146, 1147, 1169, 1170, 1171, 1172, 1173, 1174, 1175, 1176, 1166, 1167, 1168] (by decide +kernel) (by decide +kernel)
set_option maxRecDepth 20000 in
theorem gL_law_X8_restore : GoodIn wsL_law (wsV RL 151 RX8 yX8_restore wsX8_restore) := goodIn_app (goodIn_of _ (by decide +kernel)) ggL_law_X8_restore
set_option maxRecDepth 20000 in
theorem ggL_law_X9_restore : GoodIn wsL_law wsX9_restore := goodIn_r _ [1071, 1063, 734, 122, 121, 168, 169, 170, 5, 171, 124, 172, 790, 791, 792, 1115, 1116, 1117, 1118, 1119, 1120, 1121, 1122, 1123, 1124, 1125, 1126, 1127, 1128, 1129, 1130, 1131, 1132, 1133, 1134, 1135] (by decide +kernel) (by decide +kernel)
set_option maxRecDepth 20000 in
theorem gL_law_X9_restore : GoodIn wsL_law (wsV RL 154 RX9 yX9_restore wsX9_restore) := goodIn_app (goodIn_of _ (by decide +kernel)) ggL_law_X9_restore
set_option maxRecDepth 20000 in
theorem ggL_law_X8_tell : GoodIn wsL_law wsX8_tell := goodIn_r _ [1075, 16, 1076, 1077, 140, 144, 145, 146, 2, 147, 148, 35, 141, 142, 143, 1106, 1107, 1108, 1109, 1110, 1111, 1112, 1113, 1114, 1136, 1137, 1138, 1139, 1140, 1141, 1142, 1143, 1144, 1145, 1146, 1147] (by decide +kernel) (by decide +kernel)
set_option maxRecDepth 20000 in
theorem gL_law_X8_tell : GoodIn wsL_law (wsV RL 155 RX8 yX8_tell wsX8_tell) := goodIn_app (goodIn_of _ (by decide +kernel)) ggL_law_X8_tell
set_option maxRecDepth 20000 in
theorem ggL_law_X9_tell : GoodIn wsL_law wsX9_tell := goodIn_r _ [1081, 121, 161, 168, 169, 170, 5, 171, 124, 172, 1115, 1116, 1117, 1118, 1119, 1120, 1121, 1122, 1123, 1124, 1125, 1126, 1127, 1128, 1129, 1130, 1131, 1132, 1133, 1134, 1135] (by decide +kernel) (by decide +kernel)
set_option maxRecDepth 20000 in
theorem gL_law_X9_tell : GoodIn wsL_law (wsV RL 158 RX9 yX9_tell wsX9_tell) := goodIn_app (goodIn_of _ (by decide +kernel)) ggL_law_X9_tell
set_option maxRecDepth 20000 in
theorem ggL_law_X8_check : GoodIn wsL_law wsX8_check := goodIn_r _ [1085, 16, 1076, 1077, 429, 215, 216, 217, 310, 313, 314, 315, 15, 316, 48, 47, 1106, 1107, 1108, 1109, 1110, 1111, 1112, 1113, 1114, 1136, 1137, 1138, 1139, 1140, 1141, 1142, 1143, 1144, 1145, 1146, 1147, 1173, 1174, 1175, 1176] (by decide +kernel) (by decide +kernel)
set_option maxRecDepth 20000 in
theorem gL_law_X8_check : GoodIn wsL_law (wsV RL 159 RX8 yX8_check wsX8_check) := goodIn_app (goodIn_of _ (by decide +kernel)) ggL_law_X8_check
set_option maxRecDepth 20000 in
theorem ggL_law_X9_check : GoodIn wsL_law wsX9_check := goodIn_r _ [1089, 121, 325, 326, 327, 5, 328, 165, 166, 167, 329, 330, 331, 332, 1115, 1116, 1117, 1118, 1119, 1120, 1121, 1122, 1123, 1124, 1125, 1126, 1127, 1128, 1129, 1130, 1131, 1132, 1133, 1134, 1135] (by decide +kernel) (by decide +kernel)
set_option maxRecDepth 20000 in
theorem gL_law_X9_check : GoodIn wsL_law (wsV RL 162 RX9 yX9_check wsX9_check) := goodIn_app (goodIn_of _ (by decide +kernel)) ggL_law_X9_check
set_option maxRecDepth 20000 in
theorem ggL_law_X8_count : GoodIn wsL_law wsX8_count := goodIn_r _ [1093, 16, 139, 288, 666, 439, 1076, 27, 975, 712, 138, 144, 145, 146, 2, 147, 148, 35, 141, 142, 143, 1106, 1107, 1108, 1109, 1110, 1111, 1112, 1113, 1114, 1136, 1137, 1138, 1139, 1140, 1141, 1142, 1143, 1144, 1145, 1146, 1147, 1153, 1154, 1155, 1156, 1157, 1158] (by decide +kernel) (by decide +kernel)
set_option maxRecDepth 20000 in
theorem gL_law_X8_count : GoodIn wsL_law (wsV RL 163 RX8 yX8_count wsX8_count) := goodIn_app (goodIn_of _ (by decide +kernel)) ggL_law_X8_count
set_option maxRecDepth 20000 in
theorem ggL_law_X9_count : GoodIn wsL_law wsX9_count := goodIn_r _ [1097, 121, 924, 160, 168, 169, 170, 5, 171, 124, 172, 1115, 1116, 1117, 1118, 1119, 1120, 1121, 1122, 1123, 1124, 1125, 1126, 1127, 1128, 1129, 1130, 1131, 1132, 1133, 1134, 1135] (by decide +kernel) (by decide +kernel)
set_option maxRecDepth 20000 in
theorem gL_law_X9_count : GoodIn wsL_law (wsV RL 166 RX9 yX9_count wsX9_count) := goodIn_app (goodIn_of _ (by decide +kernel)) ggL_law_X9_count
set_option maxRecDepth 20000 in
theorem ggL_law_X8_told : GoodIn wsL_law wsX8_told := goodIn_r _ [1101, 35, 138, 141, 142, 2, 143, 144, 145, 146, 147, 148, 1106, 1107, 1108, 1109, 1110, 1111, 1112, 1113, 1114] (by decide +kernel) (by decide +kernel)
set_option maxRecDepth 20000 in
theorem gL_law_X8_told : GoodIn wsL_law (wsV RL 167 RX8 yX8_told wsX8_told) := goodIn_app (goodIn_of _ (by decide +kernel)) ggL_law_X8_told
set_option maxRecDepth 20000 in
theorem ggL_law_X9_told : GoodIn wsL_law wsX9_told := goodIn_r _ [1105, 124, 160, 165, 166, 5, 167, 168, 169, 170, 171, 172, 1115, 1116, 1117, 1118, 1119, 1120, 1121, 1122, 1123, 1124, 1125, 1126, 1127, 1128, 1129, 1130, 1131, 1132, 1133, 1134, 1135] (by decide +kernel) (by decide +kernel)
set_option maxRecDepth 20000 in
theorem gL_law_X9_told : GoodIn wsL_law (wsV RL 170 RX9 yX9_told wsX9_told) := goodIn_app (goodIn_of _ (by decide +kernel)) ggL_law_X9_told
