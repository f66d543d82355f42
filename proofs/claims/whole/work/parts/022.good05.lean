set_option maxRecDepth 20000 in
theorem gL_law_X8_flownByAccount : GoodIn wsL_law (wsV RL 294 RX8 yX8_flownByAccount wsX8_flownByAccount) := goodIn_app (goodIn_of _ (by decide +kernel)) ggL_law_X8_flownByAccount
set_option maxRecDepth 20000 in
theorem ggL_law_X7_drafts : GoodIn wsL_law wsX7_drafts := goodIn_r _ [1111, 16, 1112, 1229, 1230, 1231, 1232, 1233, 1234, 1252, 1253, 1254, 1255, 1256, 1257, 1258, 1259, 1260, 1261, 1262, 1263, 1264, 1265] (by decide +kernel) (by decide +kernel)
set_option maxRecDepth 20000 in
theorem gL_law_X7_drafts : GoodIn wsL_law (wsV RL 295 RX7 yX7_drafts wsX7_drafts) := goodIn_app (goodIn_of _ (by decide +kernel)) ggL_law_X7_drafts
set_option maxRecDepth 20000 in
theorem ggL_law_X8_drafts : GoodIn wsL_law wsX8_drafts := goodIn_r _ [1116, 80, 702, 703, 704, 5, 705, 173, 1235, 1236, 1237, 1238, 1239, 1240, 1241, 1242, 1243, 1244, 1245, 1246, 1247, 1248, 1249, 1250, 1251] (by decide +kernel) (by decide +kernel)
set_option maxRecDepth 20000 in
theorem gL_law_X8_drafts : GoodIn wsL_law (wsV RL 298 RX8 yX8_drafts wsX8_drafts) := goodIn_app (goodIn_of _ (by decide +kernel)) ggL_law_X8_drafts
set_option maxRecDepth 20000 in
theorem ggL_law_X7_changes : GoodIn wsL_law wsX7_changes := goodIn_r _ [1120, 16, 1121, 1229, 1230, 1231, 1232, 1233, 1234, 1252, 1253, 1254, 1255, 1256, 1257, 1258, 1259, 1260, 1261, 1262, 1263, 1264, 1265] (by decide +kernel) (by decide +kernel)
set_option maxRecDepth 20000 in
theorem gL_law_X7_changes : GoodIn wsL_law (wsV RL 299 RX7 yX7_changes wsX7_changes) := goodIn_app (goodIn_of _ (by decide +kernel)) ggL_law_X7_changes
set_option maxRecDepth 20000 in
theorem ggL_law_X8_changes : GoodIn wsL_law wsX8_changes := goodIn_r _ [1125, 80, 702, 703, 704, 5, 705, 173, 1235, 1236, 1237, 1238, 1239, 1240, 1241, 1242, 1243, 1244, 1245, 1246, 1247, 1248, 1249, 1250, 1251] (by decide +kernel) (by decide +kernel)
set_option maxRecDepth 20000 in
theorem gL_law_X8_changes : GoodIn wsL_law (wsV RL 302 RX8 yX8_changes wsX8_changes) := goodIn_app (goodIn_of _ (by decide +kernel)) ggL_law_X8_changes
set_option maxRecDepth 20000 in
theorem ggL_law_X7_rests : GoodIn wsL_law wsX7_rests := goodIn_r _ [1129, 16, 1130, 1229, 1230, 1231, 1232, 1233, 1234, 1252, 1253, 1254, 1255, 1256, 1257, 1258, 1259, 1260, 1261, 1262, 1263, 1264, 1265] (by decide +kernel) (by decide +kernel)
set_option maxRecDepth 20000 in
theorem gL_law_X7_rests : GoodIn wsL_law (wsV RL 303 RX7 yX7_rests wsX7_rests) := goodIn_app (goodIn_of _ (by decide +kernel)) ggL_law_X7_rests
set_option maxRecDepth 20000 in
theorem ggL_law_X8_rests : GoodIn wsL_law wsX8_rests := goodIn_r _ [1134, 80, 702, 703, 704, 5, 705, 173, 1235, 1236, 1237, 1238, 1239, 1240, 1241, 1242, 1243, 1244, 1245, 1246, 1247, 1248, 1249, 1250, 1251] (by decide +kernel) (by decide +kernel)
set_option maxRecDepth 20000 in
theorem gL_law_X8_rests : GoodIn wsL_law (wsV RL 306 RX8 yX8_rests wsX8_rests) := goodIn_app (goodIn_of _ (by decide +kernel)) ggL_law_X8_rests
set_option maxRecDepth 20000 in
theorem ggL_law_X7_races : GoodIn wsL_law wsX7_races := goodIn_r _ [1138, 16, 1139, 1229, 1230, 1231, 1232, 1233, 1234, 1252, 1253, 1254, 1255, 1256, 1257, 1258, 1259, 1260, 1261, 1262, 1263, 1264, 1265] (by decide +kernel) (by decide +kernel)
set_option maxRecDepth 20000 in
theorem gL_law_X7_races : GoodIn wsL_law (wsV RL 307 RX7 yX7_races wsX7_races) := goodIn_app (goodIn_of _ (by decide +kernel)) ggL_law_X7_races
set_option maxRecDepth 20000 in
theorem ggL_law_X8_races : GoodIn wsL_law wsX8_races := goodIn_r _ [1143, 80, 702, 703, 704, 5, 705, 173, 1235, 1236, 1237, 1238, 1239, 1240, 1241, 1242, 1243, 1244, 1245, 1246, 1247, 1248, 1249, 1250, 1251] (by decide +kernel) (by decide +kernel)
set_option maxRecDepth 20000 in
theorem gL_law_X8_races : GoodIn wsL_law (wsV RL 310 RX8 yX8_races wsX8_races) := goodIn_app (goodIn_of _ (by decide +kernel)) ggL_law_X8_races
set_option maxRecDepth 20000 in
theorem ggL_law_X7_winsInPairs : GoodIn wsL_law wsX7_winsInPairs := goodIn_r _ [1147, 16, 1148, 1229, 1230, 1231, 1232, 1233, 1234, 1252, 1253, 1254, 1255, 1256, 1257, 1258, 1259, 1260, 1261, 1262, 1263, 1264, 1265] (by decide +kernel) (by decide +kernel)
set_option maxRecDepth 20000 in
theorem gL_law_X7_winsInPairs : GoodIn wsL_law (wsV RL 311 RX7 yX7_winsInPairs wsX7_winsInPairs) := goodIn_app (goodIn_of _ (by decide +kernel)) ggL_law_X7_winsInPairs
set_option maxRecDepth 20000 in
theorem ggL_law_X8_winsInPairs : GoodIn wsL_law wsX8_winsInPairs := goodIn_r _ [1152, 80, 702, 703, 704, 5, 705, 173, 1235, 1236, 1237, 1238, 1239, 1240, 1241, 1242, 1243, 1244, 1245, 1246, 1247, 1248, 1249, 1250, 1251] (by decide +kernel) (by decide +kernel)
set_option maxRecDepth 20000 in
theorem gL_law_X8_winsInPairs : GoodIn wsL_law (wsV RL 314 RX8 yX8_winsInPairs wsX8_winsInPairs) := goodIn_app (goodIn_of _ (by decide +kernel)) ggL_law_X8_winsInPairs
set_option maxRecDepth 20000 in
theorem ggL_law_X7_meanFlown : GoodIn wsL_law wsX7_meanFlown := goodIn_r _ [1156, 16, 101, 1087, 1088, 1089, 15, 1090, 39, 407, 259, 260, 261, 262, 250, 119, 1229, 1230, 1231, 1232, 1233, 1234, 1252, 1253, 1254, 1255, 1256, 1257, 1258, 1259, 1260, 1261, 1262, 1263, 1264, 1265, 1276, 1277, 1278, 1279, 1280, 1281, 1282, 1283, 1284, 1285, 1286, 1287, 1288, 1289, 1290] (by decide +kernel) (by decide +kernel)
set_option maxRecDepth 20000 in
theorem gL_law_X7_meanFlown : GoodIn wsL_law (wsV RL 315 RX7 yX7_meanFlown wsX7_meanFlown) := goodIn_app (goodIn_of _ (by decide +kernel)) ggL_law_X7_meanFlown
set_option maxRecDepth 20000 in
theorem ggL_law_X8_meanFlown : GoodIn wsL_law wsX8_meanFlown := goodIn_r _ [1160, 173, 1161, 1162, 1163, 5, 1164, 80, 1095, 1096, 1097, 1098, 214, 215, 216, 217, 1235, 1236, 1237, 1238, 1239, 1240, 1241, 1242, 1243, 1244, 1245, 1246, 1247, 1248, 1249, 1250, 1251] (by decide +kernel) (by decide +kernel)
set_option maxRecDepth 20000 in
theorem gL_law_X8_meanFlown : GoodIn wsL_law (wsV RL 319 RX8 yX8_meanFlown wsX8_meanFlown) := goodIn_app (goodIn_of _ (by decide +kernel)) ggL_law_X8_meanFlown
set_option maxRecDepth 20000 in
theorem ggL_law_X7_digest : GoodIn wsL_law wsX7_digest := goodIn_r _ [1168, 1169, 1170, 1171, 16, 101, 102, 191, 25, 29, 495, 1172, 1173, 1174, 1175, 11, 12, 1176, 1177, 1178, 1179, 1180, 1181, 1182, 198, 155, 156, 15, 157, 119, 39, 1183, 1184, 1185, 2, 1186, 225, 721, 749, 761, 773, 785, 819, 226, 1078, 737, 411, 412, 45, 413, 136, 853, 854, 855, 856, 259, 260, 261, 262, 250, 351, 352, 353, 354, 141, 144, 50, 886, 887, 888, 889, 369, 370, 371, 372, 367, 373, 374, 375, 376, 377, 378, 379, 380, 381, 905, 906, 383, 384, 385, 153, 922, 391, 392, 393, 934, 387, 388, 389, 150, 368, 390, 394, 282, 283, 284, 42, 946, 947, 948, 949, 17, 868, 616, 116, 117, 118, 43, 120, 121, 122, 123, 124, 125, 126, 127, 128, 129, 130, 131, 132, 133, 134, 135, 137, 138, 139, 140, 142, 143, 51, 145, 339, 340, 341, 342, 343, 344, 345, 346, 347, 348, 349, 350, 40, 355, 356, 357, 358, 359, 360, 361, 362, 363, 364, 365, 366, 382, 386, 395, 396, 397, 398, 399, 400, 401, 402, 403, 404, 405, 406, 407, 408, 409, 410, 414, 415, 416, 417, 418, 419, 420, 421, 422, 423, 1187, 1188, 1189, 1190, 869, 870, 281, 969, 970, 971, 972, 331, 965, 966, 967, 968, 973, 974, 975, 976, 1023, 1024, 1025, 1026, 1191, 1192, 1193, 1194, 1047, 1103, 1112, 1121, 1130, 1139, 1148, 21, 697, 1087, 1088, 1089, 1090, 1195, 1154, 1155, 1156, 1196, 1197, 1198, 1199, 1200, 1201, 670, 671, 672, 24, 673, 64, 66, 534, 535, 536, 28, 537, 72, 1291, 1229, 1230, 1231, 1232, 1233, 1234, 1252, 1253, 1254, 1255, 1256, 1257, 1258, 1259, 1260, 1261, 1262, 1263, 1264, 1265, 1276, 1277, 1278, 1279, 1280, 1281, 1282, 1283, 1284, 1285, 1286, 1287, 1288, 1289, 1290, 1270, 1271, 1266, 1267, 1268, 1269] (by decide +kernel) (by decide +kernel)
set_option maxRecDepth 20000 in
theorem gL_law_X7_digest : GoodIn wsL_law (wsV RL 320 RX7 yX7_digest wsX7_digest) := goodIn_app (goodIn_of _ (by decide +kernel)) ggL_law_X7_digest
set_option maxRecDepth 20000 in
theorem ggL_law_X8_digest : GoodIn wsL_law wsX8_digest := goodIn_r _ [1205, 173, 1206, 1207, 80, 178, 84, 509, 85, 1208, 1209, 1210, 5, 1211, 1212, 1213, 1214, 1215, 1216, 214, 215, 216, 217, 436, 437, 438, 439, 440, 441, 442, 443, 231, 232, 233, 234, 444, 445, 446, 447, 456, 457, 458, 459, 448, 449, 450, 451, 460, 461, 462, 463, 464, 465, 466, 467, 166, 167, 168, 472, 473, 474, 475, 468, 469, 470, 471, 954, 955, 956, 957, 628, 629, 630, 631, 81, 428, 429, 430, 431, 432, 433, 434, 435, 86, 452, 453, 454, 455, 476, 477, 478, 479, 480, 481, 482, 483, 484, 485, 486, 487, 640, 641, 642, 643, 875, 876, 877, 878, 981, 982, 983, 984, 985, 986, 987, 988, 989, 1031, 1032, 1033, 1034, 1012, 1013, 1014, 1015, 1095, 1096, 1097, 1098, 1161, 1162, 1163, 1164, 1217, 1218, 1219, 1220, 1221, 1222, 1223, 1224, 1225, 1226, 1227, 1228, 1235, 1236, 1237, 1238, 1239, 1240, 1241, 1242, 1243, 1244, 1245, 1246, 1247, 1248, 1249, 1250, 1251] (by decide +kernel) (by decide +kernel)
set_option maxRecDepth 20000 in
theorem gL_law_X8_digest : GoodIn wsL_law (wsV RL 324 RX8 yX8_digest wsX8_digest) := goodIn_app (goodIn_of _ (by decide +kernel)) ggL_law_X8_digest
