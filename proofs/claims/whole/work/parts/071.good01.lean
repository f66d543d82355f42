set_option maxRecDepth 20000 in
theorem gL_law_X8_keep : GoodIn wsL_law (wsV RL 186 RX8 yX8_keep wsX8_keep) := goodIn_app (goodIn_r _ [659, 660, 661, 5] rfl (by decide +kernel)) ggL_law_X8_keep
set_option maxRecDepth 20000 in
theorem ggL_law_L_goBack : GoodIn wsL_law wsL_goBack := goodIn_ca (goodIn_ca (goodIn_r _ [665, 91, 92, 666, 667, 668, 2, 669, 99, 100, 25, 21, 16, 651, 652, 653, 97, 98, 670, 671, 672, 24, 673, 64, 66, 106, 107, 108, 20, 109, 110, 57, 111, 112, 113, 114, 115, 116, 117, 15, 118, 39, 42, 119, 43, 120, 121, 122, 123, 124, 125, 126, 127, 128, 129, 130, 131, 45, 132, 133, 134, 135, 136, 137, 138, 139, 140, 141, 142, 143, 51, 144, 145, 616, 1229, 1230, 1231, 1232, 1233, 1234, 1268, 1269, 1266, 1267, 1252, 1253, 1254, 1255, 1256, 1257, 1258, 1259, 1260, 1261, 1262, 1263, 1264, 1265, 1276, 1277, 1278, 1279, 1280, 1281, 1282, 1283, 1284, 1285, 1286, 1287, 1288, 1289, 1290] rfl (by decide +kernel)) (goodIn_sub (fun _ h => List.mem_append_left _ (List.mem_append_right _ h)) (by decide +kernel))) (goodIn_sub (fun _ h => List.mem_append_left _ (List.mem_append_left _ (List.mem_append_right _ h))) (by decide +kernel))
set_option maxRecDepth 20000 in
theorem gL_law_L_goBack : GoodIn wsL_law (va_wsS RL 187 yL_goBack wsL_goBack) := goodIn_app (goodIn_r _ [663, 664, 89] rfl (by decide +kernel)) ggL_law_L_goBack
set_option maxRecDepth 20000 in
theorem ggL_law_X8_goBack : GoodIn wsL_law wsX8_goBack := goodIn_r _ [677, 84, 80, 83, 166, 167, 5, 168, 169, 170, 171, 172, 173, 174, 175, 176, 177, 178, 82, 1235, 1236, 1237, 1238, 1239, 1240, 1241, 1242, 1243, 1244, 1245, 1246, 1247, 1248, 1249, 1250, 1251] rfl (by decide +kernel)
set_option maxRecDepth 20000 in
theorem gL_law_X8_goBack : GoodIn wsL_law (wsV RL 189 RX8 yX8_goBack wsX8_goBack) := goodIn_app (goodIn_r _ [674, 675, 676, 5] rfl (by decide +kernel)) ggL_law_X8_goBack
set_option maxRecDepth 20000 in
theorem ggL_law_L_undo : GoodIn wsL_law wsL_undo := goodIn_ca (goodIn_r _ [680, 92, 681, 682, 683, 2, 684, 99, 100, 21, 16, 685, 686, 687, 20, 688, 110, 57, 616, 116, 117, 15, 118, 39, 42, 119, 43, 120, 121, 122, 123, 124, 125, 126, 127, 128, 129, 130, 131, 45, 132, 133, 134, 135, 136, 137, 138, 139, 140, 141, 142, 143, 51, 144, 145, 1229, 1230, 1231, 1232, 1233, 1234, 1266, 1267, 1252, 1253, 1254, 1255, 1256, 1257, 1258, 1259, 1260, 1261, 1262, 1263, 1264, 1265, 1276, 1277, 1278, 1279, 1280, 1281, 1282, 1283, 1284, 1285, 1286, 1287, 1288, 1289, 1290] rfl (by decide +kernel)) (goodIn_sub (fun _ h => List.mem_append_left _ (List.mem_append_right _ h)) (by decide +kernel))
set_option maxRecDepth 20000 in
theorem gL_law_L_undo : GoodIn wsL_law (va_wsS RL 190 yL_undo wsL_undo) := goodIn_app (goodIn_r _ [678, 679, 89] rfl (by decide +kernel)) ggL_law_L_undo
set_option maxRecDepth 20000 in
theorem ggL_law_X8_undo : GoodIn wsL_law wsX8_undo := goodIn_r _ [692, 178, 80, 82, 169, 170, 171, 5, 172, 173, 1235, 1236, 1237, 1238, 1239, 1240, 1241, 1242, 1243, 1244, 1245, 1246, 1247, 1248, 1249, 1250, 1251] rfl (by decide +kernel)
set_option maxRecDepth 20000 in
theorem gL_law_X8_undo : GoodIn wsL_law (wsV RL 193 RX8 yX8_undo wsX8_undo) := goodIn_app (goodIn_r _ [689, 690, 691, 5] rfl (by decide +kernel)) ggL_law_X8_undo
set_option maxRecDepth 20000 in
theorem ggL_law_X7_savedStates : GoodIn wsL_law wsX7_savedStates := goodIn_r _ [696, 21, 697, 1229, 1230, 1231, 1232, 1233, 1234, 1266, 1267] rfl (by decide +kernel)
set_option maxRecDepth 20000 in
theorem gL_law_X7_savedStates : GoodIn wsL_law (wsV RL 194 RX7 yX7_savedStates wsX7_savedStates) := goodIn_app (goodIn_r _ [693, 694, 695, 2] rfl (by decide +kernel)) ggL_law_X7_savedStates
set_option maxRecDepth 20000 in
theorem ggL_law_X8_savedStates : GoodIn wsL_law wsX8_savedStates := goodIn_r _ [701, 178, 702, 703, 704, 5, 705, 173, 1235, 1236, 1237, 1238, 1239, 1240, 1241, 1242, 1243, 1244, 1245, 1246, 1247, 1248, 1249, 1250, 1251] rfl (by decide +kernel)
set_option maxRecDepth 20000 in
theorem gL_law_X8_savedStates : GoodIn wsL_law (wsV RL 197 RX8 yX8_savedStates wsX8_savedStates) := goodIn_app (goodIn_r _ [698, 699, 700, 5] rfl (by decide +kernel)) ggL_law_X8_savedStates
set_option maxRecDepth 20000 in
theorem ggL_law_X7_sparrows : GoodIn wsL_law wsX7_sparrows := goodIn_r _ [709, 16, 101, 1229, 1230, 1231, 1232, 1233, 1234, 1252, 1253, 1254, 1255, 1256, 1257, 1258, 1259, 1260, 1261, 1262, 1263, 1264, 1265] rfl (by decide +kernel)
set_option maxRecDepth 20000 in
theorem gL_law_X7_sparrows : GoodIn wsL_law (wsV RL 198 RX7 yX7_sparrows wsX7_sparrows) := goodIn_app (goodIn_r _ [706, 707, 708, 2] rfl (by decide +kernel)) ggL_law_X7_sparrows
set_option maxRecDepth 20000 in
theorem ggL_law_X8_sparrows : GoodIn wsL_law wsX8_sparrows := goodIn_r _ [713, 80, 702, 703, 704, 5, 705, 173, 1235, 1236, 1237, 1238, 1239, 1240, 1241, 1242, 1243, 1244, 1245, 1246, 1247, 1248, 1249, 1250, 1251] rfl (by decide +kernel)
set_option maxRecDepth 20000 in
theorem gL_law_X8_sparrows : GoodIn wsL_law (wsV RL 201 RX8 yX8_sparrows wsX8_sparrows) := goodIn_app (goodIn_r _ [710, 711, 712, 5] rfl (by decide +kernel)) ggL_law_X8_sparrows
set_option maxRecDepth 20000 in
theorem ggL_law_L_flown : GoodIn wsL_law wsL_flown := goodIn_ca (goodIn_r _ [716, 186, 717, 718, 719, 2, 720, 721, 192, 193, 194, 195, 196, 197, 16, 198, 155, 156, 15, 157, 119, 39, 1276, 1277, 1278, 1279, 1280, 1281, 1282, 1283, 1284, 1285, 1286, 1287, 1288, 1289, 1290, 1229, 1230, 1231, 1232, 1233, 1234, 1252, 1253, 1254, 1255, 1256, 1257, 1258, 1259, 1260, 1261, 1262, 1263, 1264, 1265] rfl (by decide +kernel)) (goodIn_sub (fun _ h => List.mem_append_right _ h) (by decide +kernel))
set_option maxRecDepth 20000 in
theorem gL_law_L_flown : GoodIn wsL_law (va_wsS RL 202 yL_flown wsL_flown) := goodIn_app (goodIn_r _ [714, 715, 89] rfl (by decide +kernel)) ggL_law_L_flown
set_option maxRecDepth 20000 in
theorem ggL_law_X8_flown : GoodIn wsL_law wsX8_flown := goodIn_r _ [725, 726, 727, 728, 5, 729, 206, 207, 208, 209, 80, 166, 167, 168, 169, 170, 171, 172, 173, 214, 215, 216, 217, 1235, 1236, 1237, 1238, 1239, 1240, 1241, 1242, 1243, 1244, 1245, 1246, 1247, 1248, 1249, 1250, 1251] rfl (by decide +kernel)
set_option maxRecDepth 20000 in
theorem gL_law_X8_flown : GoodIn wsL_law (wsV RL 204 RX8 yX8_flown wsX8_flown) := goodIn_app (goodIn_r _ [722, 723, 724, 5] rfl (by decide +kernel)) ggL_law_X8_flown
set_option maxRecDepth 20000 in
theorem ggL_law_L_lapsOf : GoodIn wsL_law wsL_lapsOf := goodIn_ca (goodIn_r _ [732, 186, 733, 734, 735, 2, 736, 192, 193, 194, 195, 196, 197, 16, 198, 155, 156, 15, 157, 119, 39, 737, 411, 412, 45, 413, 136, 1229, 1230, 1231, 1232, 1233, 1234, 1252, 1253, 1254, 1255, 1256, 1257, 1258, 1259, 1260, 1261, 1262, 1263, 1264, 1265, 1276, 1277, 1278, 1279, 1280, 1281, 1282, 1283, 1284, 1285, 1286, 1287, 1288, 1289, 1290] rfl (by decide +kernel)) (goodIn_sub (fun _ h => List.mem_append_right _ h) (by decide +kernel))
set_option maxRecDepth 20000 in
theorem gL_law_L_lapsOf : GoodIn wsL_law (va_wsS RL 205 yL_lapsOf wsL_lapsOf) := goodIn_app (goodIn_r _ [730, 731, 89] rfl (by decide +kernel)) ggL_law_L_lapsOf
set_option maxRecDepth 20000 in
theorem ggL_law_X8_lapsOf : GoodIn wsL_law wsX8_lapsOf := goodIn_r _ [741, 726, 727, 728, 5, 729, 206, 207, 208, 209, 80, 166, 167, 168, 169, 170, 171, 172, 173, 214, 215, 216, 217, 1235, 1236, 1237, 1238, 1239, 1240, 1241, 1242, 1243, 1244, 1245, 1246, 1247, 1248, 1249, 1250, 1251] rfl (by decide +kernel)
set_option maxRecDepth 20000 in
theorem gL_law_X8_lapsOf : GoodIn wsL_law (wsV RL 207 RX8 yX8_lapsOf wsX8_lapsOf) := goodIn_app (goodIn_r _ [738, 739, 740, 5] rfl (by decide +kernel)) ggL_law_X8_lapsOf
set_option maxRecDepth 20000 in
theorem ggL_law_L_speedOf : GoodIn wsL_law wsL_speedOf := goodIn_ca (goodIn_r _ [744, 186, 745, 746, 747, 2, 748, 749, 192, 193, 194, 195, 196, 197, 16, 198, 155, 156, 15, 157, 119, 39, 1276, 1277, 1278, 1279, 1280, 1281, 1282, 1283, 1284, 1285, 1286, 1287, 1288, 1289, 1290, 1229, 1230, 1231, 1232, 1233, 1234, 1252, 1253, 1254, 1255, 1256, 1257, 1258, 1259, 1260, 1261, 1262, 1263, 1264, 1265] rfl (by decide +kernel)) (goodIn_sub (fun _ h => List.mem_append_right _ h) (by decide +kernel))
set_option maxRecDepth 20000 in
theorem gL_law_L_speedOf : GoodIn wsL_law (va_wsS RL 208 yL_speedOf wsL_speedOf) := goodIn_app (goodIn_r _ [742, 743, 89] rfl (by decide +kernel)) ggL_law_L_speedOf
set_option maxRecDepth 20000 in
theorem ggL_law_X8_speedOf : GoodIn wsL_law wsX8_speedOf := goodIn_r _ [753, 726, 727, 728, 5, 729, 206, 207, 208, 209, 80, 166, 167, 168, 169, 170, 171, 172, 173, 214, 215, 216, 217, 1235, 1236, 1237, 1238, 1239, 1240, 1241, 1242, 1243, 1244, 1245, 1246, 1247, 1248, 1249, 1250, 1251] rfl (by decide +kernel)
set_option maxRecDepth 20000 in
theorem gL_law_X8_speedOf : GoodIn wsL_law (wsV RL 210 RX8 yX8_speedOf wsX8_speedOf) := goodIn_app (goodIn_r _ [750, 751, 752, 5] rfl (by decide +kernel)) ggL_law_X8_speedOf
set_option maxRecDepth 20000 in
theorem ggL_law_L_strengthOf : GoodIn wsL_law wsL_strengthOf := goodIn_ca (goodIn_r _ [756, 186, 757, 758, 759, 2, 760, 761, 192, 193, 194, 195, 196, 197, 16, 198, 155, 156, 15, 157, 119, 39, 1276, 1277, 1278, 1279, 1280, 1281, 1282, 1283, 1284, 1285, 1286, 1287, 1288, 1289, 1290, 1229, 1230, 1231, 1232, 1233, 1234, 1252, 1253, 1254, 1255, 1256, 1257, 1258, 1259, 1260, 1261, 1262, 1263, 1264, 1265] rfl (by decide +kernel)) (goodIn_sub (fun _ h => List.mem_append_right _ h) (by decide +kernel))
set_option maxRecDepth 20000 in
theorem gL_law_L_strengthOf : GoodIn wsL_law (va_wsS RL 211 yL_strengthOf wsL_strengthOf) := goodIn_app (goodIn_r _ [754, 755, 89] rfl (by decide +kernel)) ggL_law_L_strengthOf
set_option maxRecDepth 20000 in
theorem ggL_law_X8_strengthOf : GoodIn wsL_law wsX8_strengthOf := goodIn_r _ [765, 726, 727, 728, 5, 729, 206, 207, 208, 209, 80, 166, 167, 168, 169, 170, 171, 172, 173, 214, 215, 216, 217, 1235, 1236, 1237, 1238, 1239, 1240, 1241, 1242, 1243, 1244, 1245, 1246, 1247, 1248, 1249, 1250, 1251] rfl (by decide +kernel)
set_option maxRecDepth 20000 in
theorem gL_law_X8_strengthOf : GoodIn wsL_law (wsV RL 213 RX8 yX8_strengthOf wsX8_strengthOf) := goodIn_app (goodIn_r _ [762, 763, 764, 5] rfl (by decide +kernel)) ggL_law_X8_strengthOf
set_option maxRecDepth 20000 in
theorem ggL_law_L_wearOf : GoodIn wsL_law wsL_wearOf := goodIn_ca (goodIn_r _ [768, 186, 769, 770, 771, 2, 772, 773, 192, 193, 194, 195, 196, 197, 16, 198, 155, 156, 15, 157, 119, 39, 1276, 1277, 1278, 1279, 1280, 1281, 1282, 1283, 1284, 1285, 1286, 1287, 1288, 1289, 1290, 1229, 1230, 1231, 1232, 1233, 1234, 1252, 1253, 1254, 1255, 1256, 1257, 1258, 1259, 1260, 1261, 1262, 1263, 1264, 1265] rfl (by decide +kernel)) (goodIn_sub (fun _ h => List.mem_append_right _ h) (by decide +kernel))
set_option maxRecDepth 20000 in
theorem gL_law_L_wearOf : GoodIn wsL_law (va_wsS RL 214 yL_wearOf wsL_wearOf) := goodIn_app (goodIn_r _ [766, 767, 89] rfl (by decide +kernel)) ggL_law_L_wearOf
set_option maxRecDepth 20000 in
theorem ggL_law_X8_wearOf : GoodIn wsL_law wsX8_wearOf := goodIn_r _ [777, 726, 727, 728, 5, 729, 206, 207, 208, 209, 80, 166, 167, 168, 169, 170, 171, 172, 173, 214, 215, 216, 217, 1235, 1236, 1237, 1238, 1239, 1240, 1241, 1242, 1243, 1244, 1245, 1246, 1247, 1248, 1249, 1250, 1251] rfl (by decide +kernel)
set_option maxRecDepth 20000 in
theorem gL_law_X8_wearOf : GoodIn wsL_law (wsV RL 216 RX8 yX8_wearOf wsX8_wearOf) := goodIn_app (goodIn_r _ [774, 775, 776, 5] rfl (by decide +kernel)) ggL_law_X8_wearOf
set_option maxRecDepth 20000 in
theorem ggL_law_L_laneOf : GoodIn wsL_law wsL_laneOf := goodIn_ca (goodIn_r _ [780, 186, 781, 782, 783, 2, 784, 785, 192, 193, 194, 195, 196, 197, 16, 198, 155, 156, 15, 157, 119, 39, 1276, 1277, 1278, 1279, 1280, 1281, 1282, 1283, 1284, 1285, 1286, 1287, 1288, 1289, 1290, 1229, 1230, 1231, 1232, 1233, 1234, 1252, 1253, 1254, 1255, 1256, 1257, 1258, 1259, 1260, 1261, 1262, 1263, 1264, 1265] rfl (by decide +kernel)) (goodIn_sub (fun _ h => List.mem_append_right _ h) (by decide +kernel))
set_option maxRecDepth 20000 in
theorem gL_law_L_laneOf : GoodIn wsL_law (va_wsS RL 217 yL_laneOf wsL_laneOf) := goodIn_app (goodIn_r _ [778, 779, 89] rfl (by decide +kernel)) ggL_law_L_laneOf
set_option maxRecDepth 20000 in
theorem ggL_law_X8_laneOf : GoodIn wsL_law wsX8_laneOf := goodIn_r _ [789, 726, 727, 728, 5, 729, 206, 207, 208, 209, 80, 166, 167, 168, 169, 170, 171, 172, 173, 214, 215, 216, 217, 1235, 1236, 1237, 1238, 1239, 1240, 1241, 1242, 1243, 1244, 1245, 1246, 1247, 1248, 1249, 1250, 1251] rfl (by decide +kernel)
set_option maxRecDepth 20000 in
theorem gL_law_X8_laneOf : GoodIn wsL_law (wsV RL 219 RX8 yX8_laneOf wsX8_laneOf) := goodIn_app (goodIn_r _ [786, 787, 788, 5] rfl (by decide +kernel)) ggL_law_X8_laneOf
set_option maxRecDepth 20000 in
theorem ggL_law_L_stateOf : GoodIn wsL_law wsL_stateOf := goodIn_ca (goodIn_r _ [792, 186, 793, 794, 795, 2, 796, 225, 192, 193, 194, 195, 196, 197, 16, 198, 155, 156, 15, 157, 119, 39, 1276, 1277, 1278, 1279, 1280, 1281, 1282, 1283, 1284, 1285, 1286, 1287, 1288, 1289, 1290, 1229, 1230, 1231, 1232, 1233, 1234, 1252, 1253, 1254, 1255, 1256, 1257, 1258, 1259, 1260, 1261, 1262, 1263, 1264, 1265] rfl (by decide +kernel)) (goodIn_sub (fun _ h => List.mem_append_right _ h) (by decide +kernel))
set_option maxRecDepth 20000 in
theorem gL_law_L_stateOf : GoodIn wsL_law (va_wsS RL 220 yL_stateOf wsL_stateOf) := goodIn_app (goodIn_r _ [790, 791, 89] rfl (by decide +kernel)) ggL_law_L_stateOf
set_option maxRecDepth 20000 in
theorem ggL_law_X8_stateOf : GoodIn wsL_law wsX8_stateOf := goodIn_r _ [800, 726, 727, 728, 5, 729, 206, 207, 208, 209, 80, 166, 167, 168, 169, 170, 171, 172, 173, 214, 215, 216, 217, 1235, 1236, 1237, 1238, 1239, 1240, 1241, 1242, 1243, 1244, 1245, 1246, 1247, 1248, 1249, 1250, 1251] rfl (by decide +kernel)
set_option maxRecDepth 20000 in
theorem gL_law_X8_stateOf : GoodIn wsL_law (wsV RL 222 RX8 yX8_stateOf wsX8_stateOf) := goodIn_app (goodIn_r _ [797, 798, 799, 5] rfl (by decide +kernel)) ggL_law_X8_stateOf
set_option maxRecDepth 20000 in
theorem ggL_law_L_paceOf : GoodIn wsL_law wsL_paceOf := goodIn_ca (goodIn_r _ [803, 186, 804, 805, 806, 2, 807, 191, 192, 193, 194, 195, 196, 197, 16, 198, 155, 156, 15, 157, 119, 39, 1276, 1277, 1278, 1279, 1280, 1281, 1282, 1283, 1284, 1285, 1286, 1287, 1288, 1289, 1290, 1229, 1230, 1231, 1232, 1233, 1234, 1252, 1253, 1254, 1255, 1256, 1257, 1258, 1259, 1260, 1261, 1262, 1263, 1264, 1265] rfl (by decide +kernel)) (goodIn_sub (fun _ h => List.mem_append_right _ h) (by decide +kernel))
set_option maxRecDepth 20000 in
theorem gL_law_L_paceOf : GoodIn wsL_law (va_wsS RL 223 yL_paceOf wsL_paceOf) := goodIn_app (goodIn_r _ [801, 802, 89] rfl (by decide +kernel)) ggL_law_L_paceOf
set_option maxRecDepth 20000 in
theorem ggL_law_X8_paceOf : GoodIn wsL_law wsX8_paceOf := goodIn_r _ [811, 726, 727, 728, 5, 729, 206, 207, 208, 209, 80, 166, 167, 168, 169, 170, 171, 172, 173, 214, 215, 216, 217, 1235, 1236, 1237, 1238, 1239, 1240, 1241, 1242, 1243, 1244, 1245, 1246, 1247, 1248, 1249, 1250, 1251] rfl (by decide +kernel)
set_option maxRecDepth 20000 in
theorem gL_law_X8_paceOf : GoodIn wsL_law (wsV RL 225 RX8 yX8_paceOf wsX8_paceOf) := goodIn_app (goodIn_r _ [808, 809, 810, 5] rfl (by decide +kernel)) ggL_law_X8_paceOf
set_option maxRecDepth 20000 in
theorem ggL_law_L_partnerOf : GoodIn wsL_law wsL_partnerOf := goodIn_ca (goodIn_ca (goodIn_r _ [814, 186, 92, 815, 816, 817, 2, 818, 99, 100, 819, 192, 193, 194, 195, 196, 197, 16, 198, 155, 156, 15, 157, 119, 39, 1276, 1277, 1278, 1279, 1280, 1281, 1282, 1283, 1284, 1285, 1286, 1287, 1288, 1289, 1290, 1229, 1230, 1231, 1232, 1233, 1234, 1252, 1253, 1254, 1255, 1256, 1257, 1258, 1259, 1260, 1261, 1262, 1263, 1264, 1265] rfl (by decide +kernel)) (goodIn_sub (fun _ h => List.mem_append_left _ (List.mem_append_right _ h)) (by decide +kernel))) (goodIn_sub (fun _ h => List.mem_append_right _ h) (by decide +kernel))
set_option maxRecDepth 20000 in
theorem gL_law_L_partnerOf : GoodIn wsL_law (va_wsS RL 226 yL_partnerOf wsL_partnerOf) := goodIn_app (goodIn_r _ [812, 813, 89] rfl (by decide +kernel)) ggL_law_L_partnerOf
set_option maxRecDepth 20000 in
theorem ggL_law_X8_partnerOf : GoodIn wsL_law wsX8_partnerOf := goodIn_r _ [823, 206, 207, 208, 5, 209, 80, 166, 167, 168, 214, 215, 216, 217, 169, 170, 171, 172, 173, 1235, 1236, 1237, 1238, 1239, 1240, 1241, 1242, 1243, 1244, 1245, 1246, 1247, 1248, 1249, 1250, 1251] rfl (by decide +kernel)
set_option maxRecDepth 20000 in
theorem gL_law_X8_partnerOf : GoodIn wsL_law (wsV RL 228 RX8 yX8_partnerOf wsX8_partnerOf) := goodIn_app (goodIn_r _ [820, 821, 822, 5] rfl (by decide +kernel)) ggL_law_X8_partnerOf
set_option maxRecDepth 20000 in
theorem ggL_law_L_isCalledIn : GoodIn wsL_law wsL_isCalledIn := goodIn_ca (goodIn_r _ [826, 186, 827, 828, 829, 2, 830, 226, 192, 193, 194, 195, 196, 197, 16, 198, 155, 156, 15, 157, 119, 39, 1276, 1277, 1278, 1279, 1280, 1281, 1282, 1283, 1284, 1285, 1286, 1287, 1288, 1289, 1290, 1229, 1230, 1231, 1232, 1233, 1234, 1252, 1253, 1254, 1255, 1256, 1257, 1258, 1259, 1260, 1261, 1262, 1263, 1264, 1265] rfl (by decide +kernel)) (goodIn_sub (fun _ h => List.mem_append_right _ h) (by decide +kernel))
set_option maxRecDepth 20000 in
theorem gL_law_L_isCalledIn : GoodIn wsL_law (va_wsS RL 229 yL_isCalledIn wsL_isCalledIn) := goodIn_app (goodIn_r _ [824, 825, 89] rfl (by decide +kernel)) ggL_law_L_isCalledIn
set_option maxRecDepth 20000 in
theorem ggL_law_X8_isCalledIn : GoodIn wsL_law wsX8_isCalledIn := goodIn_r _ [834, 726, 727, 728, 5, 729, 206, 207, 208, 209, 80, 166, 167, 168, 169, 170, 171, 172, 173, 214, 215, 216, 217, 1235, 1236, 1237, 1238, 1239, 1240, 1241, 1242, 1243, 1244, 1245, 1246, 1247, 1248, 1249, 1250, 1251] rfl (by decide +kernel)
set_option maxRecDepth 20000 in
theorem gL_law_X8_isCalledIn : GoodIn wsL_law (wsV RL 231 RX8 yX8_isCalledIn wsX8_isCalledIn) := goodIn_app (goodIn_r _ [831, 832, 833, 5] rfl (by decide +kernel)) ggL_law_X8_isCalledIn
set_option maxRecDepth 20000 in
theorem ggL_law_L_limitOf : GoodIn wsL_law wsL_limitOf := goodIn_ca (goodIn_r _ [837, 186, 838, 839, 840, 2, 841, 16, 278, 279, 280, 196, 197, 281, 282, 283, 15, 284, 42, 1229, 1230, 1231, 1232, 1233, 1234, 1252, 1253, 1254, 1255, 1256, 1257, 1258, 1259, 1260, 1261, 1262, 1263, 1264, 1265] rfl (by decide +kernel)) (goodIn_sub (fun _ h => List.mem_append_right _ h) (by decide +kernel))
set_option maxRecDepth 20000 in
theorem gL_law_L_limitOf : GoodIn wsL_law (va_wsS RL 232 yL_limitOf wsL_limitOf) := goodIn_app (goodIn_r _ [835, 836, 89] rfl (by decide +kernel)) ggL_law_L_limitOf
set_option maxRecDepth 20000 in
theorem ggL_law_X8_limitOf : GoodIn wsL_law wsX8_limitOf := goodIn_r _ [845, 80, 166, 167, 5, 168, 169, 170, 171, 172, 173, 1235, 1236, 1237, 1238, 1239, 1240, 1241, 1242, 1243, 1244, 1245, 1246, 1247, 1248, 1249, 1250, 1251] rfl (by decide +kernel)
set_option maxRecDepth 20000 in
theorem gL_law_X8_limitOf : GoodIn wsL_law (wsV RL 234 RX8 yX8_limitOf wsX8_limitOf) := goodIn_app (goodIn_r _ [842, 843, 844, 5] rfl (by decide +kernel)) ggL_law_X8_limitOf
set_option maxRecDepth 20000 in
theorem ggL_law_L_placeByCounting : GoodIn wsL_law wsL_placeByCounting := goodIn_ca (goodIn_r _ [848, 186, 849, 850, 851, 2, 852, 16, 192, 193, 194, 195, 196, 197, 198, 155, 156, 15, 157, 119, 39, 853, 854, 855, 856, 259, 260, 261, 262, 250, 351, 352, 353, 45, 354, 141, 144, 136, 50, 1229, 1230, 1231, 1232, 1233, 1234, 1252, 1253, 1254, 1255, 1256, 1257, 1258, 1259, 1260, 1261, 1262, 1263, 1264, 1265, 1276, 1277, 1278, 1279, 1280, 1281, 1282, 1283, 1284, 1285, 1286, 1287, 1288, 1289, 1290] rfl (by decide +kernel)) (goodIn_sub (fun _ h => List.mem_append_right _ h) (by decide +kernel))
set_option maxRecDepth 20000 in
theorem gL_law_L_placeByCounting : GoodIn wsL_law (va_wsS RL 235 yL_placeByCounting wsL_placeByCounting) := goodIn_app (goodIn_r _ [846, 847, 89] rfl (by decide +kernel)) ggL_law_L_placeByCounting
set_option maxRecDepth 20000 in
theorem ggL_law_X8_placeByCounting : GoodIn wsL_law wsX8_placeByCounting := goodIn_r _ [860, 206, 207, 208, 5, 209, 80, 166, 167, 168, 169, 170, 171, 172, 173, 436, 437, 438, 439, 440, 441, 442, 443, 231, 232, 233, 234, 214, 215, 216, 217, 444, 445, 446, 447, 1235, 1236, 1237, 1238, 1239, 1240, 1241, 1242, 1243, 1244, 1245, 1246, 1247, 1248, 1249, 1250, 1251] rfl (by decide +kernel)
set_option maxRecDepth 20000 in
theorem gL_law_X8_placeByCounting : GoodIn wsL_law (wsV RL 237 RX8 yX8_placeByCounting wsX8_placeByCounting) := goodIn_app (goodIn_r _ [857, 858, 859, 5] rfl (by decide +kernel)) ggL_law_X8_placeByCounting
set_option maxRecDepth 20000 in
theorem ggL_law_L_birdByOrder : GoodIn wsL_law wsL_birdByOrder := goodIn_ca (goodIn_r _ [863, 186, 864, 865, 866, 2, 867, 196, 197, 16, 868, 869, 344, 345, 15, 346, 39, 259, 260, 261, 262, 250, 119, 347, 348, 349, 350, 40, 351, 352, 353, 45, 354, 141, 144, 136, 50, 870, 356, 357, 358, 1229, 1230, 1231, 1232, 1233, 1234, 1276, 1277, 1278, 1279, 1280, 1281, 1282, 1283, 1284, 1285, 1286, 1287, 1288, 1289, 1290, 1252, 1253, 1254, 1255, 1256, 1257, 1258, 1259, 1260, 1261, 1262, 1263, 1264, 1265] rfl (by decide +kernel)) (goodIn_sub (fun _ h => List.mem_append_right _ h) (by decide +kernel))
set_option maxRecDepth 20000 in
theorem gL_law_L_birdByOrder : GoodIn wsL_law (va_wsS RL 238 yL_birdByOrder wsL_birdByOrder) := goodIn_app (goodIn_r _ [861, 862, 89] rfl (by decide +kernel)) ggL_law_L_birdByOrder
set_option maxRecDepth 20000 in
theorem ggL_law_X8_birdByOrder : GoodIn wsL_law wsX8_birdByOrder := goodIn_r _ [874, 206, 207, 208, 5, 209, 80, 166, 167, 168, 169, 170, 171, 172, 173, 875, 876, 877, 878, 436, 437, 438, 439, 440, 441, 442, 443, 231, 232, 233, 234, 214, 215, 216, 217, 444, 445, 446, 447, 1235, 1236, 1237, 1238, 1239, 1240, 1241, 1242, 1243, 1244, 1245, 1246, 1247, 1248, 1249, 1250, 1251] rfl (by decide +kernel)
set_option maxRecDepth 20000 in
theorem gL_law_X8_birdByOrder : GoodIn wsL_law (wsV RL 240 RX8 yX8_birdByOrder wsX8_birdByOrder) := goodIn_app (goodIn_r _ [871, 872, 873, 5] rfl (by decide +kernel)) ggL_law_X8_birdByOrder
set_option maxRecDepth 20000 in
theorem ggL_law_L_gapAhead : GoodIn wsL_law wsL_gapAhead := goodIn_ca (goodIn_r _ [881, 186, 882, 883, 884, 2, 885, 16, 192, 193, 194, 195, 196, 197, 198, 155, 156, 15, 157, 119, 39, 886, 887, 888, 889, 369, 370, 371, 372, 367, 373, 374, 375, 376, 250, 377, 378, 379, 380, 45, 381, 136, 1229, 1230, 1231, 1232, 1233, 1234, 1252, 1253, 1254, 1255, 1256, 1257, 1258, 1259, 1260, 1261, 1262, 1263, 1264, 1265, 1276, 1277, 1278, 1279, 1280, 1281, 1282, 1283, 1284, 1285, 1286, 1287, 1288, 1289, 1290] rfl (by decide +kernel)) (goodIn_sub (fun _ h => List.mem_append_right _ h) (by decide +kernel))
set_option maxRecDepth 20000 in
theorem gL_law_L_gapAhead : GoodIn wsL_law (va_wsS RL 241 yL_gapAhead wsL_gapAhead) := goodIn_app (goodIn_r _ [879, 880, 89] rfl (by decide +kernel)) ggL_law_L_gapAhead
set_option maxRecDepth 20000 in
theorem ggL_law_X8_gapAhead : GoodIn wsL_law wsX8_gapAhead := goodIn_r _ [893, 206, 207, 208, 5, 209, 80, 166, 167, 168, 169, 170, 171, 172, 173, 214, 215, 216, 217, 456, 457, 458, 459, 448, 449, 450, 451, 460, 461, 462, 463, 1235, 1236, 1237, 1238, 1239, 1240, 1241, 1242, 1243, 1244, 1245, 1246, 1247, 1248, 1249, 1250, 1251] rfl (by decide +kernel)
set_option maxRecDepth 20000 in
theorem gL_law_X8_gapAhead : GoodIn wsL_law (wsV RL 243 RX8 yX8_gapAhead wsX8_gapAhead) := goodIn_app (goodIn_r _ [890, 891, 892, 5] rfl (by decide +kernel)) ggL_law_X8_gapAhead
set_option maxRecDepth 20000 in
theorem ggL_law_L_isDrafting : GoodIn wsL_law wsL_isDrafting := goodIn_ca (goodIn_ca (goodIn_r _ [896, 186, 92, 897, 898, 899, 2, 900, 16, 901, 902, 903, 904, 99, 100, 225, 192, 193, 194, 195, 196, 197, 198, 155, 156, 15, 157, 119, 39, 905, 370, 371, 372, 367, 373, 374, 375, 376, 250, 377, 378, 379, 380, 45, 381, 136, 906, 383, 384, 385, 153, 1229, 1230, 1231, 1232, 1233, 1234, 1276, 1277, 1278, 1279, 1280, 1281, 1282, 1283, 1284, 1285, 1286, 1287, 1288, 1289, 1290, 1252, 1253, 1254, 1255, 1256, 1257, 1258, 1259, 1260, 1261, 1262, 1263, 1264, 1265] rfl (by decide +kernel)) (goodIn_sub (fun _ h => List.mem_append_left _ (List.mem_append_right _ h)) (by decide +kernel))) (goodIn_sub (fun _ h => List.mem_append_right _ h) (by decide +kernel))
set_option maxRecDepth 20000 in
theorem gL_law_L_isDrafting : GoodIn wsL_law (va_wsS RL 244 yL_isDrafting wsL_isDrafting) := goodIn_app (goodIn_r _ [894, 895, 89] rfl (by decide +kernel)) ggL_law_L_isDrafting
set_option maxRecDepth 20000 in
theorem ggL_law_X8_isDrafting : GoodIn wsL_law wsX8_isDrafting := goodIn_r _ [910, 911, 912, 913, 5, 914, 206, 207, 208, 209, 80, 166, 167, 168, 448, 449, 450, 451, 214, 215, 216, 217, 169, 170, 171, 172, 173, 464, 465, 466, 467, 456, 457, 458, 459, 460, 461, 462, 463, 1235, 1236, 1237, 1238, 1239, 1240, 1241, 1242, 1243, 1244, 1245, 1246, 1247, 1248, 1249, 1250, 1251] rfl (by decide +kernel)
set_option maxRecDepth 20000 in
theorem gL_law_X8_isDrafting : GoodIn wsL_law (wsV RL 246 RX8 yX8_isDrafting wsX8_isDrafting) := goodIn_app (goodIn_r _ [907, 908, 909, 5] rfl (by decide +kernel)) ggL_law_X8_isDrafting
set_option maxRecDepth 20000 in
theorem ggL_law_L_whereIs : GoodIn wsL_law wsL_whereIs := goodIn_ca (goodIn_r _ [917, 186, 918, 919, 920, 2, 921, 192, 193, 194, 195, 196, 197, 16, 198, 155, 156, 15, 157, 119, 39, 922, 391, 392, 45, 393, 136, 1229, 1230, 1231, 1232, 1233, 1234, 1252, 1253, 1254, 1255, 1256, 1257, 1258, 1259, 1260, 1261, 1262, 1263, 1264, 1265, 1276, 1277, 1278, 1279, 1280, 1281, 1282, 1283, 1284, 1285, 1286, 1287, 1288, 1289, 1290] rfl (by decide +kernel)) (goodIn_sub (fun _ h => List.mem_append_right _ h) (by decide +kernel))
set_option maxRecDepth 20000 in
theorem gL_law_L_whereIs : GoodIn wsL_law (va_wsS RL 247 yL_whereIs wsL_whereIs) := goodIn_app (goodIn_r _ [915, 916, 89] rfl (by decide +kernel)) ggL_law_L_whereIs
set_option maxRecDepth 20000 in
theorem ggL_law_X8_whereIs : GoodIn wsL_law wsX8_whereIs := goodIn_r _ [926, 206, 207, 208, 5, 209, 80, 166, 167, 168, 169, 170, 171, 172, 173, 472, 473, 474, 475, 214, 215, 216, 217, 1235, 1236, 1237, 1238, 1239, 1240, 1241, 1242, 1243, 1244, 1245, 1246, 1247, 1248, 1249, 1250, 1251] rfl (by decide +kernel)
