set_option maxRecDepth 20000 in
theorem gL_law_X8_whereIs : GoodIn wsL_law (wsV RL 249 RX8 yX8_whereIs wsX8_whereIs) := goodIn_app (goodIn_r _ [923, 924, 925, 5] rfl (by decide +kernel)) ggL_law_X8_whereIs
set_option maxRecDepth 20000 in
theorem ggL_law_L_allowance : GoodIn wsL_law wsL_allowance := goodIn_ca (goodIn_ca (goodIn_r _ [929, 186, 92, 930, 931, 932, 2, 933, 16, 901, 902, 903, 904, 99, 100, 225, 192, 193, 194, 195, 196, 197, 198, 155, 156, 15, 157, 119, 39, 934, 387, 388, 389, 150, 367, 368, 390, 391, 392, 45, 393, 136, 394, 282, 283, 284, 42, 1229, 1230, 1231, 1232, 1233, 1234, 1276, 1277, 1278, 1279, 1280, 1281, 1282, 1283, 1284, 1285, 1286, 1287, 1288, 1289, 1290, 1252, 1253, 1254, 1255, 1256, 1257, 1258, 1259, 1260, 1261, 1262, 1263, 1264, 1265] rfl (by decide +kernel)) (goodIn_sub (fun _ h => List.mem_append_left _ (List.mem_append_right _ h)) (by decide +kernel))) (goodIn_sub (fun _ h => List.mem_append_right _ h) (by decide +kernel))
set_option maxRecDepth 20000 in
theorem gL_law_L_allowance : GoodIn wsL_law (va_wsS RL 250 yL_allowance wsL_allowance) := goodIn_app (goodIn_r _ [927, 928, 89] rfl (by decide +kernel)) ggL_law_L_allowance
set_option maxRecDepth 20000 in
theorem ggL_law_X8_allowance : GoodIn wsL_law wsX8_allowance := goodIn_r _ [938, 911, 912, 913, 5, 914, 206, 207, 208, 209, 80, 166, 167, 168, 448, 449, 450, 451, 214, 215, 216, 217, 169, 170, 171, 172, 173, 468, 469, 470, 471, 472, 473, 474, 475, 1235, 1236, 1237, 1238, 1239, 1240, 1241, 1242, 1243, 1244, 1245, 1246, 1247, 1248, 1249, 1250, 1251] rfl (by decide +kernel)
set_option maxRecDepth 20000 in
theorem gL_law_X8_allowance : GoodIn wsL_law (wsV RL 252 RX8 yX8_allowance wsX8_allowance) := goodIn_app (goodIn_r _ [935, 936, 937, 5] rfl (by decide +kernel)) ggL_law_X8_allowance
set_option maxRecDepth 20000 in
theorem ggL_law_L_wouldFly : GoodIn wsL_law wsL_wouldFly := goodIn_ca (goodIn_ca (goodIn_ca (goodIn_r _ [941, 186, 91, 92, 942, 943, 944, 2, 945, 191, 192, 193, 194, 195, 196, 197, 16, 198, 155, 156, 15, 157, 119, 39, 332, 333, 334, 97, 98, 335, 336, 337, 338, 99, 100, 102, 946, 947, 948, 949, 17, 868, 721, 616, 116, 117, 118, 42, 43, 120, 121, 122, 123, 124, 125, 126, 127, 128, 129, 130, 131, 45, 132, 133, 134, 135, 136, 137, 138, 139, 140, 141, 142, 143, 51, 144, 145, 339, 340, 341, 342, 343, 344, 345, 346, 259, 260, 261, 262, 250, 347, 348, 349, 350, 40, 351, 352, 353, 354, 50, 355, 356, 357, 358, 359, 360, 361, 362, 363, 364, 365, 366, 367, 368, 369, 370, 371, 372, 373, 374, 375, 376, 377, 378, 379, 380, 381, 382, 383, 384, 385, 153, 386, 387, 388, 389, 150, 390, 391, 392, 393, 394, 282, 283, 284, 395, 396, 397, 398, 399, 400, 401, 402, 403, 404, 405, 406, 407, 408, 409, 410, 411, 412, 413, 414, 415, 416, 417, 418, 419, 420, 421, 422, 423, 1276, 1277, 1278, 1279, 1280, 1281, 1282, 1283, 1284, 1285, 1286, 1287, 1288, 1289, 1290, 1229, 1230, 1231, 1232, 1233, 1234, 1252, 1253, 1254, 1255, 1256, 1257, 1258, 1259, 1260, 1261, 1262, 1263, 1264, 1265] rfl (by decide +kernel)) (goodIn_sub (fun _ h => List.mem_append_right _ h) (by decide +kernel))) (goodIn_sub (fun _ h => List.mem_append_left _ (List.mem_append_left _ (List.mem_append_right _ h))) (by decide +kernel))) (goodIn_sub (fun _ h => List.mem_append_left _ (List.mem_append_right _ h)) (by decide +kernel))
set_option maxRecDepth 20000 in
theorem gL_law_L_wouldFly : GoodIn wsL_law (va_wsS RL 253 yL_wouldFly wsL_wouldFly) := goodIn_app (goodIn_r _ [939, 940, 89] rfl (by decide +kernel)) ggL_law_L_wouldFly
set_option maxRecDepth 20000 in
theorem ggL_law_X8_wouldFly : GoodIn wsL_law wsX8_wouldFly := goodIn_r _ [953, 80, 206, 207, 208, 5, 209, 166, 167, 168, 169, 170, 171, 172, 173, 954, 955, 956, 957, 628, 629, 630, 631, 81, 428, 429, 430, 431, 432, 433, 434, 435, 86, 436, 437, 438, 439, 440, 441, 442, 443, 231, 232, 233, 234, 214, 215, 216, 217, 444, 445, 446, 447, 448, 449, 450, 451, 452, 453, 454, 455, 456, 457, 458, 459, 460, 461, 462, 463, 464, 465, 466, 467, 468, 469, 470, 471, 472, 473, 474, 475, 476, 477, 478, 479, 480, 481, 482, 483, 484, 485, 486, 487, 640, 641, 642, 643, 1235, 1236, 1237, 1238, 1239, 1240, 1241, 1242, 1243, 1244, 1245, 1246, 1247, 1248, 1249, 1250, 1251] rfl (by decide +kernel)
set_option maxRecDepth 20000 in
theorem gL_law_X8_wouldFly : GoodIn wsL_law (wsV RL 255 RX8 yX8_wouldFly wsX8_wouldFly) := goodIn_app (goodIn_r _ [950, 951, 952, 5] rfl (by decide +kernel)) ggL_law_X8_wouldFly
set_option maxRecDepth 20000 in
theorem ggL_law_L_wouldWin : GoodIn wsL_law wsL_wouldWin := goodIn_ca (goodIn_r _ [960, 92, 961, 962, 963, 2, 964, 99, 100, 965, 966, 967, 968, 16, 331, 17, 868, 969, 970, 971, 972, 102, 616, 116, 117, 15, 118, 39, 42, 119, 43, 120, 121, 122, 123, 124, 125, 126, 127, 128, 129, 130, 131, 45, 132, 133, 134, 135, 136, 137, 138, 139, 140, 141, 142, 143, 51, 144, 145, 339, 340, 341, 342, 343, 344, 345, 346, 259, 260, 261, 262, 250, 347, 348, 349, 350, 40, 351, 352, 353, 354, 50, 355, 356, 357, 358, 359, 360, 361, 362, 363, 364, 365, 366, 367, 368, 369, 370, 371, 372, 373, 374, 375, 376, 377, 378, 379, 380, 381, 382, 383, 384, 385, 153, 386, 387, 388, 389, 150, 390, 391, 392, 393, 394, 282, 283, 284, 395, 396, 397, 398, 399, 400, 401, 402, 403, 404, 405, 406, 407, 408, 409, 410, 411, 412, 413, 414, 415, 416, 417, 418, 419, 420, 421, 422, 423, 973, 974, 975, 976, 1229, 1230, 1231, 1232, 1233, 1234, 1252, 1253, 1254, 1255, 1256, 1257, 1258, 1259, 1260, 1261, 1262, 1263, 1264, 1265, 1276, 1277, 1278, 1279, 1280, 1281, 1282, 1283, 1284, 1285, 1286, 1287, 1288, 1289, 1290] rfl (by decide +kernel)) (goodIn_sub (fun _ h => List.mem_append_left _ (List.mem_append_right _ h)) (by decide +kernel))
set_option maxRecDepth 20000 in
theorem gL_law_L_wouldWin : GoodIn wsL_law (va_wsS RL 256 yL_wouldWin wsL_wouldWin) := goodIn_app (goodIn_r _ [958, 959, 89] rfl (by decide +kernel)) ggL_law_L_wouldWin
set_option maxRecDepth 20000 in
theorem ggL_law_X8_wouldWin : GoodIn wsL_law wsX8_wouldWin := goodIn_r _ [980, 981, 982, 983, 5, 984, 80, 985, 986, 987, 988, 989, 628, 629, 630, 631, 81, 432, 433, 434, 435, 86, 436, 437, 438, 439, 440, 441, 442, 443, 231, 232, 233, 234, 214, 215, 216, 217, 444, 445, 446, 447, 448, 449, 450, 451, 452, 453, 454, 455, 456, 457, 458, 459, 460, 461, 462, 463, 464, 465, 466, 467, 166, 167, 168, 468, 469, 470, 471, 472, 473, 474, 475, 476, 477, 478, 479, 480, 481, 482, 483, 484, 485, 486, 487, 640, 641, 642, 643, 169, 170, 171, 172, 173, 1235, 1236, 1237, 1238, 1239, 1240, 1241, 1242, 1243, 1244, 1245, 1246, 1247, 1248, 1249, 1250, 1251] rfl (by decide +kernel)
set_option maxRecDepth 20000 in
theorem gL_law_X8_wouldWin : GoodIn wsL_law (wsV RL 258 RX8 yX8_wouldWin wsX8_wouldWin) := goodIn_app (goodIn_r _ [977, 978, 979, 5] rfl (by decide +kernel)) ggL_law_X8_wouldWin
set_option maxRecDepth 20000 in
theorem ggL_law_L_secondsToNext : GoodIn wsL_law wsL_secondsToNext := goodIn_ca (goodIn_r _ [992, 92, 993, 994, 995, 2, 996, 99, 100, 969, 970, 971, 972, 17, 16, 102, 331, 616, 116, 117, 15, 118, 39, 42, 119, 43, 120, 121, 122, 123, 124, 125, 126, 127, 128, 129, 130, 131, 45, 132, 133, 134, 135, 136, 137, 138, 139, 140, 141, 142, 143, 51, 144, 145, 339, 340, 341, 342, 343, 344, 345, 346, 259, 260, 261, 262, 250, 347, 348, 349, 350, 40, 351, 352, 353, 354, 50, 355, 356, 357, 358, 359, 360, 361, 362, 363, 364, 365, 366, 367, 368, 369, 370, 371, 372, 373, 374, 375, 376, 377, 378, 379, 380, 381, 382, 383, 384, 385, 153, 386, 387, 388, 389, 150, 390, 391, 392, 393, 394, 282, 283, 284, 395, 396, 397, 398, 399, 400, 401, 402, 403, 404, 405, 406, 407, 408, 409, 410, 411, 412, 413, 414, 415, 416, 417, 418, 419, 420, 421, 422, 423, 1229, 1230, 1231, 1232, 1233, 1234, 1252, 1253, 1254, 1255, 1256, 1257, 1258, 1259, 1260, 1261, 1262, 1263, 1264, 1265, 1276, 1277, 1278, 1279, 1280, 1281, 1282, 1283, 1284, 1285, 1286, 1287, 1288, 1289, 1290] rfl (by decide +kernel)) (goodIn_sub (fun _ h => List.mem_append_left _ (List.mem_append_right _ h)) (by decide +kernel))
set_option maxRecDepth 20000 in
theorem gL_law_L_secondsToNext : GoodIn wsL_law (va_wsS RL 259 yL_secondsToNext wsL_secondsToNext) := goodIn_app (goodIn_r _ [990, 991, 89] rfl (by decide +kernel)) ggL_law_L_secondsToNext
set_option maxRecDepth 20000 in
theorem ggL_law_X8_secondsToNext : GoodIn wsL_law wsX8_secondsToNext := goodIn_r _ [1000, 986, 987, 988, 5, 989, 80, 985, 628, 629, 630, 631, 81, 432, 433, 434, 435, 86, 436, 437, 438, 439, 440, 441, 442, 443, 231, 232, 233, 234, 214, 215, 216, 217, 444, 445, 446, 447, 448, 449, 450, 451, 452, 453, 454, 455, 456, 457, 458, 459, 460, 461, 462, 463, 464, 465, 466, 467, 166, 167, 168, 468, 469, 470, 471, 472, 473, 474, 475, 476, 477, 478, 479, 480, 481, 482, 483, 484, 485, 486, 487, 640, 641, 642, 643, 169, 170, 171, 172, 173, 1235, 1236, 1237, 1238, 1239, 1240, 1241, 1242, 1243, 1244, 1245, 1246, 1247, 1248, 1249, 1250, 1251] rfl (by decide +kernel)
set_option maxRecDepth 20000 in
theorem gL_law_X8_secondsToNext : GoodIn wsL_law (wsV RL 261 RX8 yX8_secondsToNext wsX8_secondsToNext) := goodIn_app (goodIn_r _ [997, 998, 999, 5] rfl (by decide +kernel)) ggL_law_X8_secondsToNext
set_option maxRecDepth 20000 in
theorem ggL_law_L_flownWithPace : GoodIn wsL_law wsL_flownWithPace := goodIn_ca (goodIn_ca (goodIn_ca (goodIn_r _ [1003, 186, 91, 92, 1004, 1005, 1006, 2, 1007, 192, 193, 194, 195, 196, 197, 16, 198, 155, 156, 15, 157, 119, 39, 199, 200, 201, 97, 98, 103, 104, 105, 335, 336, 337, 338, 99, 100, 102, 946, 947, 948, 949, 17, 868, 191, 721, 616, 116, 117, 118, 42, 43, 120, 121, 122, 123, 124, 125, 126, 127, 128, 129, 130, 131, 45, 132, 133, 134, 135, 136, 137, 138, 139, 140, 141, 142, 143, 51, 144, 145, 339, 340, 341, 342, 343, 344, 345, 346, 259, 260, 261, 262, 250, 347, 348, 349, 350, 40, 351, 352, 353, 354, 50, 355, 356, 357, 358, 359, 360, 361, 362, 363, 364, 365, 366, 367, 368, 369, 370, 371, 372, 373, 374, 375, 376, 377, 378, 379, 380, 381, 382, 383, 384, 385, 153, 386, 387, 388, 389, 150, 390, 391, 392, 393, 394, 282, 283, 284, 395, 396, 397, 398, 399, 400, 401, 402, 403, 404, 405, 406, 407, 408, 409, 410, 411, 412, 413, 414, 415, 416, 417, 418, 419, 420, 421, 422, 423, 1229, 1230, 1231, 1232, 1233, 1234, 1252, 1253, 1254, 1255, 1256, 1257, 1258, 1259, 1260, 1261, 1262, 1263, 1264, 1265, 1276, 1277, 1278, 1279, 1280, 1281, 1282, 1283, 1284, 1285, 1286, 1287, 1288, 1289, 1290] rfl (by decide +kernel)) (goodIn_sub (fun _ h => List.mem_append_right _ h) (by decide +kernel))) (goodIn_sub (fun _ h => List.mem_append_left _ (List.mem_append_left _ (List.mem_append_right _ h))) (by decide +kernel))) (goodIn_sub (fun _ h => List.mem_append_left _ (List.mem_append_right _ h)) (by decide +kernel))
set_option maxRecDepth 20000 in
theorem gL_law_L_flownWithPace : GoodIn wsL_law (va_wsS RL 262 yL_flownWithPace wsL_flownWithPace) := goodIn_app (goodIn_r _ [1001, 1002, 89] rfl (by decide +kernel)) ggL_law_L_flownWithPace
set_option maxRecDepth 20000 in
theorem ggL_law_X8_flownWithPace : GoodIn wsL_law wsX8_flownWithPace := goodIn_r _ [1011, 80, 206, 207, 208, 5, 209, 166, 167, 168, 169, 170, 171, 172, 173, 1012, 1013, 1014, 1015, 214, 215, 216, 217, 954, 955, 956, 957, 628, 629, 630, 631, 81, 428, 429, 430, 431, 432, 433, 434, 435, 86, 436, 437, 438, 439, 440, 441, 442, 443, 231, 232, 233, 234, 444, 445, 446, 447, 448, 449, 450, 451, 452, 453, 454, 455, 456, 457, 458, 459, 460, 461, 462, 463, 464, 465, 466, 467, 468, 469, 470, 471, 472, 473, 474, 475, 476, 477, 478, 479, 480, 481, 482, 483, 484, 485, 486, 487, 640, 641, 642, 643, 1235, 1236, 1237, 1238, 1239, 1240, 1241, 1242, 1243, 1244, 1245, 1246, 1247, 1248, 1249, 1250, 1251] rfl (by decide +kernel)
set_option maxRecDepth 20000 in
theorem gL_law_X8_flownWithPace : GoodIn wsL_law (wsV RL 264 RX8 yX8_flownWithPace wsX8_flownWithPace) := goodIn_app (goodIn_r _ [1008, 1009, 1010, 5] rfl (by decide +kernel)) ggL_law_X8_flownWithPace
set_option maxRecDepth 20000 in
theorem ggL_law_L_bestPace : GoodIn wsL_law wsL_bestPace := goodIn_ca (goodIn_ca (goodIn_r _ [1018, 186, 92, 1019, 1020, 1021, 2, 1022, 192, 193, 194, 195, 196, 197, 16, 198, 155, 156, 15, 157, 119, 39, 335, 336, 337, 338, 99, 100, 102, 1023, 1024, 1025, 1026, 946, 947, 948, 949, 17, 868, 191, 721, 616, 116, 117, 118, 42, 43, 120, 121, 122, 123, 124, 125, 126, 127, 128, 129, 130, 131, 45, 132, 133, 134, 135, 136, 137, 138, 139, 140, 141, 142, 143, 51, 144, 145, 339, 340, 341, 342, 343, 344, 345, 346, 259, 260, 261, 262, 250, 347, 348, 349, 350, 40, 351, 352, 353, 354, 50, 355, 356, 357, 358, 359, 360, 361, 362, 363, 364, 365, 366, 367, 368, 369, 370, 371, 372, 373, 374, 375, 376, 377, 378, 379, 380, 381, 382, 383, 384, 385, 153, 386, 387, 388, 389, 150, 390, 391, 392, 393, 394, 282, 283, 284, 395, 396, 397, 398, 399, 400, 401, 402, 403, 404, 405, 406, 407, 408, 409, 410, 411, 412, 413, 414, 415, 416, 417, 418, 419, 420, 421, 422, 423, 1229, 1230, 1231, 1232, 1233, 1234, 1252, 1253, 1254, 1255, 1256, 1257, 1258, 1259, 1260, 1261, 1262, 1263, 1264, 1265, 1276, 1277, 1278, 1279, 1280, 1281, 1282, 1283, 1284, 1285, 1286, 1287, 1288, 1289, 1290] rfl (by decide +kernel)) (goodIn_sub (fun _ h => List.mem_append_right _ h) (by decide +kernel))) (goodIn_sub (fun _ h => List.mem_append_left _ (List.mem_append_right _ h)) (by decide +kernel))
set_option maxRecDepth 20000 in
theorem gL_law_L_bestPace : GoodIn wsL_law (va_wsS RL 265 yL_bestPace wsL_bestPace) := goodIn_app (goodIn_r _ [1016, 1017, 89] rfl (by decide +kernel)) ggL_law_L_bestPace
set_option maxRecDepth 20000 in
theorem ggL_law_X8_bestPace : GoodIn wsL_law wsX8_bestPace := goodIn_r _ [1030, 80, 206, 207, 208, 5, 209, 166, 167, 168, 169, 170, 171, 172, 173, 1031, 1032, 1033, 1034, 1012, 1013, 1014, 1015, 214, 215, 216, 217, 954, 955, 956, 957, 628, 629, 630, 631, 81, 428, 429, 430, 431, 432, 433, 434, 435, 86, 436, 437, 438, 439, 440, 441, 442, 443, 231, 232, 233, 234, 444, 445, 446, 447, 448, 449, 450, 451, 452, 453, 454, 455, 456, 457, 458, 459, 460, 461, 462, 463, 464, 465, 466, 467, 468, 469, 470, 471, 472, 473, 474, 475, 476, 477, 478, 479, 480, 481, 482, 483, 484, 485, 486, 487, 640, 641, 642, 643, 1235, 1236, 1237, 1238, 1239, 1240, 1241, 1242, 1243, 1244, 1245, 1246, 1247, 1248, 1249, 1250, 1251] rfl (by decide +kernel)
set_option maxRecDepth 20000 in
theorem gL_law_X8_bestPace : GoodIn wsL_law (wsV RL 267 RX8 yX8_bestPace wsX8_bestPace) := goodIn_app (goodIn_r _ [1027, 1028, 1029, 5] rfl (by decide +kernel)) ggL_law_X8_bestPace
set_option maxRecDepth 20000 in
theorem ggL_law_X7_isRacing : GoodIn wsL_law wsX7_isRacing := goodIn_r _ [1038, 16, 102, 1229, 1230, 1231, 1232, 1233, 1234, 1252, 1253, 1254, 1255, 1256, 1257, 1258, 1259, 1260, 1261, 1262, 1263, 1264, 1265] rfl (by decide +kernel)
set_option maxRecDepth 20000 in
theorem gL_law_X7_isRacing : GoodIn wsL_law (wsV RL 268 RX7 yX7_isRacing wsX7_isRacing) := goodIn_app (goodIn_r _ [1035, 1036, 1037, 2] rfl (by decide +kernel)) ggL_law_X7_isRacing
set_option maxRecDepth 20000 in
theorem ggL_law_X8_isRacing : GoodIn wsL_law wsX8_isRacing := goodIn_r _ [1042, 80, 702, 703, 704, 5, 705, 173, 1235, 1236, 1237, 1238, 1239, 1240, 1241, 1242, 1243, 1244, 1245, 1246, 1247, 1248, 1249, 1250, 1251] rfl (by decide +kernel)
set_option maxRecDepth 20000 in
theorem gL_law_X8_isRacing : GoodIn wsL_law (wsV RL 272 RX8 yX8_isRacing wsX8_isRacing) := goodIn_app (goodIn_r _ [1039, 1040, 1041, 5] rfl (by decide +kernel)) ggL_law_X8_isRacing
set_option maxRecDepth 20000 in
theorem ggL_law_X7_seconds : GoodIn wsL_law wsX7_seconds := goodIn_r _ [1046, 16, 1047, 1229, 1230, 1231, 1232, 1233, 1234, 1252, 1253, 1254, 1255, 1256, 1257, 1258, 1259, 1260, 1261, 1262, 1263, 1264, 1265] rfl (by decide +kernel)
set_option maxRecDepth 20000 in
theorem gL_law_X7_seconds : GoodIn wsL_law (wsV RL 273 RX7 yX7_seconds wsX7_seconds) := goodIn_app (goodIn_r _ [1043, 1044, 1045, 2] rfl (by decide +kernel)) ggL_law_X7_seconds
set_option maxRecDepth 20000 in
theorem ggL_law_X8_seconds : GoodIn wsL_law wsX8_seconds := goodIn_r _ [1051, 80, 702, 703, 704, 5, 705, 173, 1235, 1236, 1237, 1238, 1239, 1240, 1241, 1242, 1243, 1244, 1245, 1246, 1247, 1248, 1249, 1250, 1251] rfl (by decide +kernel)
set_option maxRecDepth 20000 in
theorem gL_law_X8_seconds : GoodIn wsL_law (wsV RL 276 RX8 yX8_seconds wsX8_seconds) := goodIn_app (goodIn_r _ [1048, 1049, 1050, 5] rfl (by decide +kernel)) ggL_law_X8_seconds
set_option maxRecDepth 20000 in
theorem ggL_law_X7_arrived : GoodIn wsL_law wsX7_arrived := goodIn_r _ [1055, 16, 331, 1229, 1230, 1231, 1232, 1233, 1234, 1252, 1253, 1254, 1255, 1256, 1257, 1258, 1259, 1260, 1261, 1262, 1263, 1264, 1265] rfl (by decide +kernel)
set_option maxRecDepth 20000 in
theorem gL_law_X7_arrived : GoodIn wsL_law (wsV RL 277 RX7 yX7_arrived wsX7_arrived) := goodIn_app (goodIn_r _ [1052, 1053, 1054, 2] rfl (by decide +kernel)) ggL_law_X7_arrived
set_option maxRecDepth 20000 in
theorem ggL_law_X8_arrived : GoodIn wsL_law wsX8_arrived := goodIn_r _ [1059, 80, 702, 703, 704, 5, 705, 173, 1235, 1236, 1237, 1238, 1239, 1240, 1241, 1242, 1243, 1244, 1245, 1246, 1247, 1248, 1249, 1250, 1251] rfl (by decide +kernel)
set_option maxRecDepth 20000 in
theorem gL_law_X8_arrived : GoodIn wsL_law (wsV RL 280 RX8 yX8_arrived wsX8_arrived) := goodIn_app (goodIn_r _ [1056, 1057, 1058, 5] rfl (by decide +kernel)) ggL_law_X8_arrived
set_option maxRecDepth 20000 in
theorem ggL_law_L_arrivedAt : GoodIn wsL_law wsL_arrivedAt := goodIn_ca (goodIn_r _ [1062, 186, 1063, 1064, 1065, 2, 1066, 196, 197, 16, 868, 973, 974, 975, 15, 976, 39, 377, 418, 259, 260, 261, 262, 250, 119, 1229, 1230, 1231, 1232, 1233, 1234, 1276, 1277, 1278, 1279, 1280, 1281, 1282, 1283, 1284, 1285, 1286, 1287, 1288, 1289, 1290, 1252, 1253, 1254, 1255, 1256, 1257, 1258, 1259, 1260, 1261, 1262, 1263, 1264, 1265] rfl (by decide +kernel)) (goodIn_sub (fun _ h => List.mem_append_right _ h) (by decide +kernel))
set_option maxRecDepth 20000 in
theorem gL_law_L_arrivedAt : GoodIn wsL_law (va_wsS RL 281 yL_arrivedAt wsL_arrivedAt) := goodIn_app (goodIn_r _ [1060, 1061, 89] rfl (by decide +kernel)) ggL_law_L_arrivedAt
set_option maxRecDepth 20000 in
theorem ggL_law_X8_arrivedAt : GoodIn wsL_law wsX8_arrivedAt := goodIn_r _ [1070, 80, 166, 167, 5, 168, 169, 170, 171, 172, 173, 1235, 1236, 1237, 1238, 1239, 1240, 1241, 1242, 1243, 1244, 1245, 1246, 1247, 1248, 1249, 1250, 1251] rfl (by decide +kernel)
set_option maxRecDepth 20000 in
theorem gL_law_X8_arrivedAt : GoodIn wsL_law (wsV RL 283 RX8 yX8_arrivedAt wsX8_arrivedAt) := goodIn_app (goodIn_r _ [1067, 1068, 1069, 5] rfl (by decide +kernel)) ggL_law_X8_arrivedAt
set_option maxRecDepth 20000 in
theorem ggL_law_L_timeOf : GoodIn wsL_law wsL_timeOf := goodIn_ca (goodIn_ca (goodIn_r _ [1073, 186, 92, 1074, 1075, 1076, 2, 1077, 99, 100, 225, 1078, 192, 193, 194, 195, 196, 197, 16, 198, 155, 156, 15, 157, 119, 39, 1276, 1277, 1278, 1279, 1280, 1281, 1282, 1283, 1284, 1285, 1286, 1287, 1288, 1289, 1290, 1229, 1230, 1231, 1232, 1233, 1234, 1252, 1253, 1254, 1255, 1256, 1257, 1258, 1259, 1260, 1261, 1262, 1263, 1264, 1265] rfl (by decide +kernel)) (goodIn_sub (fun _ h => List.mem_append_left _ (List.mem_append_right _ h)) (by decide +kernel))) (goodIn_sub (fun _ h => List.mem_append_right _ h) (by decide +kernel))
set_option maxRecDepth 20000 in
theorem gL_law_L_timeOf : GoodIn wsL_law (va_wsS RL 284 yL_timeOf wsL_timeOf) := goodIn_app (goodIn_r _ [1071, 1072, 89] rfl (by decide +kernel)) ggL_law_L_timeOf
set_option maxRecDepth 20000 in
theorem ggL_law_X8_timeOf : GoodIn wsL_law wsX8_timeOf := goodIn_r _ [1082, 206, 207, 208, 5, 209, 80, 166, 167, 168, 231, 232, 233, 234, 214, 215, 216, 217, 169, 170, 171, 172, 173, 1235, 1236, 1237, 1238, 1239, 1240, 1241, 1242, 1243, 1244, 1245, 1246, 1247, 1248, 1249, 1250, 1251] rfl (by decide +kernel)
set_option maxRecDepth 20000 in
theorem gL_law_X8_timeOf : GoodIn wsL_law (wsV RL 286 RX8 yX8_timeOf wsX8_timeOf) := goodIn_app (goodIn_r _ [1079, 1080, 1081, 5] rfl (by decide +kernel)) ggL_law_X8_timeOf
set_option maxRecDepth 20000 in
theorem ggL_law_X7_flownByBirds : GoodIn wsL_law wsX7_flownByBirds := goodIn_r _ [1086, 16, 1087, 1088, 1089, 15, 1090, 39, 407, 259, 260, 261, 262, 250, 119, 1229, 1230, 1231, 1232, 1233, 1234, 1252, 1253, 1254, 1255, 1256, 1257, 1258, 1259, 1260, 1261, 1262, 1263, 1264, 1265, 1276, 1277, 1278, 1279, 1280, 1281, 1282, 1283, 1284, 1285, 1286, 1287, 1288, 1289, 1290] rfl (by decide +kernel)
set_option maxRecDepth 20000 in
theorem gL_law_X7_flownByBirds : GoodIn wsL_law (wsV RL 287 RX7 yX7_flownByBirds wsX7_flownByBirds) := goodIn_app (goodIn_r _ [1083, 1084, 1085, 2] rfl (by decide +kernel)) ggL_law_X7_flownByBirds
set_option maxRecDepth 20000 in
theorem ggL_law_X8_flownByBirds : GoodIn wsL_law wsX8_flownByBirds := goodIn_r _ [1094, 1095, 1096, 1097, 5, 1098, 80, 214, 215, 216, 217, 702, 703, 704, 705, 173, 1235, 1236, 1237, 1238, 1239, 1240, 1241, 1242, 1243, 1244, 1245, 1246, 1247, 1248, 1249, 1250, 1251] rfl (by decide +kernel)
set_option maxRecDepth 20000 in
theorem gL_law_X8_flownByBirds : GoodIn wsL_law (wsV RL 290 RX8 yX8_flownByBirds wsX8_flownByBirds) := goodIn_app (goodIn_r _ [1091, 1092, 1093, 5] rfl (by decide +kernel)) ggL_law_X8_flownByBirds
set_option maxRecDepth 20000 in
theorem ggL_law_X7_flownByAccount : GoodIn wsL_law wsX7_flownByAccount := goodIn_r _ [1102, 16, 1103, 1229, 1230, 1231, 1232, 1233, 1234, 1252, 1253, 1254, 1255, 1256, 1257, 1258, 1259, 1260, 1261, 1262, 1263, 1264, 1265] rfl (by decide +kernel)
set_option maxRecDepth 20000 in
theorem gL_law_X7_flownByAccount : GoodIn wsL_law (wsV RL 291 RX7 yX7_flownByAccount wsX7_flownByAccount) := goodIn_app (goodIn_r _ [1099, 1100, 1101, 2] rfl (by decide +kernel)) ggL_law_X7_flownByAccount
set_option maxRecDepth 20000 in
theorem ggL_law_X8_flownByAccount : GoodIn wsL_law wsX8_flownByAccount := goodIn_r _ [1107, 80, 702, 703, 704, 5, 705, 173, 1235, 1236, 1237, 1238, 1239, 1240, 1241, 1242, 1243, 1244, 1245, 1246, 1247, 1248, 1249, 1250, 1251] rfl (by decide +kernel)
set_option maxRecDepth 20000 in
theorem gL_law_X8_flownByAccount : GoodIn wsL_law (wsV RL 294 RX8 yX8_flownByAccount wsX8_flownByAccount) := goodIn_app (goodIn_r _ [1104, 1105, 1106, 5] rfl (by decide +kernel)) ggL_law_X8_flownByAccount
set_option maxRecDepth 20000 in
theorem ggL_law_X7_drafts : GoodIn wsL_law wsX7_drafts := goodIn_r _ [1111, 16, 1112, 1229, 1230, 1231, 1232, 1233, 1234, 1252, 1253, 1254, 1255, 1256, 1257, 1258, 1259, 1260, 1261, 1262, 1263, 1264, 1265] rfl (by decide +kernel)
set_option maxRecDepth 20000 in
theorem gL_law_X7_drafts : GoodIn wsL_law (wsV RL 295 RX7 yX7_drafts wsX7_drafts) := goodIn_app (goodIn_r _ [1108, 1109, 1110, 2] rfl (by decide +kernel)) ggL_law_X7_drafts
set_option maxRecDepth 20000 in
theorem ggL_law_X8_drafts : GoodIn wsL_law wsX8_drafts := goodIn_r _ [1116, 80, 702, 703, 704, 5, 705, 173, 1235, 1236, 1237, 1238, 1239, 1240, 1241, 1242, 1243, 1244, 1245, 1246, 1247, 1248, 1249, 1250, 1251] rfl (by decide +kernel)
set_option maxRecDepth 20000 in
theorem gL_law_X8_drafts : GoodIn wsL_law (wsV RL 298 RX8 yX8_drafts wsX8_drafts) := goodIn_app (goodIn_r _ [1113, 1114, 1115, 5] rfl (by decide +kernel)) ggL_law_X8_drafts
set_option maxRecDepth 20000 in
theorem ggL_law_X7_changes : GoodIn wsL_law wsX7_changes := goodIn_r _ [1120, 16, 1121, 1229, 1230, 1231, 1232, 1233, 1234, 1252, 1253, 1254, 1255, 1256, 1257, 1258, 1259, 1260, 1261, 1262, 1263, 1264, 1265] rfl (by decide +kernel)
set_option maxRecDepth 20000 in
theorem gL_law_X7_changes : GoodIn wsL_law (wsV RL 299 RX7 yX7_changes wsX7_changes) := goodIn_app (goodIn_r _ [1117, 1118, 1119, 2] rfl (by decide +kernel)) ggL_law_X7_changes
set_option maxRecDepth 20000 in
theorem ggL_law_X8_changes : GoodIn wsL_law wsX8_changes := goodIn_r _ [1125, 80, 702, 703, 704, 5, 705, 173, 1235, 1236, 1237, 1238, 1239, 1240, 1241, 1242, 1243, 1244, 1245, 1246, 1247, 1248, 1249, 1250, 1251] rfl (by decide +kernel)
set_option maxRecDepth 20000 in
theorem gL_law_X8_changes : GoodIn wsL_law (wsV RL 302 RX8 yX8_changes wsX8_changes) := goodIn_app (goodIn_r _ [1122, 1123, 1124, 5] rfl (by decide +kernel)) ggL_law_X8_changes
set_option maxRecDepth 20000 in
theorem ggL_law_X7_rests : GoodIn wsL_law wsX7_rests := goodIn_r _ [1129, 16, 1130, 1229, 1230, 1231, 1232, 1233, 1234, 1252, 1253, 1254, 1255, 1256, 1257, 1258, 1259, 1260, 1261, 1262, 1263, 1264, 1265] rfl (by decide +kernel)
set_option maxRecDepth 20000 in
theorem gL_law_X7_rests : GoodIn wsL_law (wsV RL 303 RX7 yX7_rests wsX7_rests) := goodIn_app (goodIn_r _ [1126, 1127, 1128, 2] rfl (by decide +kernel)) ggL_law_X7_rests
set_option maxRecDepth 20000 in
theorem ggL_law_X8_rests : GoodIn wsL_law wsX8_rests := goodIn_r _ [1134, 80, 702, 703, 704, 5, 705, 173, 1235, 1236, 1237, 1238, 1239, 1240, 1241, 1242, 1243, 1244, 1245, 1246, 1247, 1248, 1249, 1250, 1251] rfl (by decide +kernel)
set_option maxRecDepth 20000 in
theorem gL_law_X8_rests : GoodIn wsL_law (wsV RL 306 RX8 yX8_rests wsX8_rests) := goodIn_app (goodIn_r _ [1131, 1132, 1133, 5] rfl (by decide +kernel)) ggL_law_X8_rests
set_option maxRecDepth 20000 in
theorem ggL_law_X7_races : GoodIn wsL_law wsX7_races := goodIn_r _ [1138, 16, 1139, 1229, 1230, 1231, 1232, 1233, 1234, 1252, 1253, 1254, 1255, 1256, 1257, 1258, 1259, 1260, 1261, 1262, 1263, 1264, 1265] rfl (by decide +kernel)
set_option maxRecDepth 20000 in
theorem gL_law_X7_races : GoodIn wsL_law (wsV RL 307 RX7 yX7_races wsX7_races) := goodIn_app (goodIn_r _ [1135, 1136, 1137, 2] rfl (by decide +kernel)) ggL_law_X7_races
set_option maxRecDepth 20000 in
theorem ggL_law_X8_races : GoodIn wsL_law wsX8_races := goodIn_r _ [1143, 80, 702, 703, 704, 5, 705, 173, 1235, 1236, 1237, 1238, 1239, 1240, 1241, 1242, 1243, 1244, 1245, 1246, 1247, 1248, 1249, 1250, 1251] rfl (by decide +kernel)
set_option maxRecDepth 20000 in
theorem gL_law_X8_races : GoodIn wsL_law (wsV RL 310 RX8 yX8_races wsX8_races) := goodIn_app (goodIn_r _ [1140, 1141, 1142, 5] rfl (by decide +kernel)) ggL_law_X8_races
set_option maxRecDepth 20000 in
theorem ggL_law_X7_winsInPairs : GoodIn wsL_law wsX7_winsInPairs := goodIn_r _ [1147, 16, 1148, 1229, 1230, 1231, 1232, 1233, 1234, 1252, 1253, 1254, 1255, 1256, 1257, 1258, 1259, 1260, 1261, 1262, 1263, 1264, 1265] rfl (by decide +kernel)
set_option maxRecDepth 20000 in
theorem gL_law_X7_winsInPairs : GoodIn wsL_law (wsV RL 311 RX7 yX7_winsInPairs wsX7_winsInPairs) := goodIn_app (goodIn_r _ [1144, 1145, 1146, 2] rfl (by decide +kernel)) ggL_law_X7_winsInPairs
set_option maxRecDepth 20000 in
theorem ggL_law_X8_winsInPairs : GoodIn wsL_law wsX8_winsInPairs := goodIn_r _ [1152, 80, 702, 703, 704, 5, 705, 173, 1235, 1236, 1237, 1238, 1239, 1240, 1241, 1242, 1243, 1244, 1245, 1246, 1247, 1248, 1249, 1250, 1251] rfl (by decide +kernel)
set_option maxRecDepth 20000 in
theorem gL_law_X8_winsInPairs : GoodIn wsL_law (wsV RL 314 RX8 yX8_winsInPairs wsX8_winsInPairs) := goodIn_app (goodIn_r _ [1149, 1150, 1151, 5] rfl (by decide +kernel)) ggL_law_X8_winsInPairs
set_option maxRecDepth 20000 in
theorem ggL_law_X7_meanFlown : GoodIn wsL_law wsX7_meanFlown := goodIn_r _ [1156, 16, 101, 1087, 1088, 1089, 15, 1090, 39, 407, 259, 260, 261, 262, 250, 119, 1229, 1230, 1231, 1232, 1233, 1234, 1252, 1253, 1254, 1255, 1256, 1257, 1258, 1259, 1260, 1261, 1262, 1263, 1264, 1265, 1276, 1277, 1278, 1279, 1280, 1281, 1282, 1283, 1284, 1285, 1286, 1287, 1288, 1289, 1290] rfl (by decide +kernel)
set_option maxRecDepth 20000 in
theorem gL_law_X7_meanFlown : GoodIn wsL_law (wsV RL 315 RX7 yX7_meanFlown wsX7_meanFlown) := goodIn_app (goodIn_r _ [1153, 1154, 1155, 2] rfl (by decide +kernel)) ggL_law_X7_meanFlown
set_option maxRecDepth 20000 in
theorem ggL_law_X8_meanFlown : GoodIn wsL_law wsX8_meanFlown := goodIn_r _ [1160, 173, 1161, 1162, 1163, 5, 1164, 80, 1095, 1096, 1097, 1098, 214, 215, 216, 217, 1235, 1236, 1237, 1238, 1239, 1240, 1241, 1242, 1243, 1244, 1245, 1246, 1247, 1248, 1249, 1250, 1251] rfl (by decide +kernel)
set_option maxRecDepth 20000 in
theorem gL_law_X8_meanFlown : GoodIn wsL_law (wsV RL 319 RX8 yX8_meanFlown wsX8_meanFlown) := goodIn_app (goodIn_r _ [1157, 1158, 1159, 5] rfl (by decide +kernel)) ggL_law_X8_meanFlown
set_option maxRecDepth 20000 in
theorem ggL_law_X7_digest : GoodIn wsL_law wsX7_digest := goodIn_r _ [1168, 1169, 1170, 1171, 16, 101, 102, 191, 25, 29, 495, 1172, 1173, 1174, 1175, 11, 12, 1176, 1177, 1178, 1179, 1180, 1181, 1182, 198, 155, 156, 15, 157, 119, 39, 1183, 1184, 1185, 2, 1186, 225, 721, 749, 761, 773, 785, 819, 226, 1078, 737, 411, 412, 45, 413, 136, 853, 854, 855, 856, 259, 260, 261, 262, 250, 351, 352, 353, 354, 141, 144, 50, 886, 887, 888, 889, 369, 370, 371, 372, 367, 373, 374, 375, 376, 377, 378, 379, 380, 381, 905, 906, 383, 384, 385, 153, 922, 391, 392, 393, 934, 387, 388, 389, 150, 368, 390, 394, 282, 283, 284, 42, 946, 947, 948, 949, 17, 868, 616, 116, 117, 118, 43, 120, 121, 122, 123, 124, 125, 126, 127, 128, 129, 130, 131, 132, 133, 134, 135, 137, 138, 139, 140, 142, 143, 51, 145, 339, 340, 341, 342, 343, 344, 345, 346, 347, 348, 349, 350, 40, 355, 356, 357, 358, 359, 360, 361, 362, 363, 364, 365, 366, 382, 386, 395, 396, 397, 398, 399, 400, 401, 402, 403, 404, 405, 406, 407, 408, 409, 410, 414, 415, 416, 417, 418, 419, 420, 421, 422, 423, 1187, 1188, 1189, 1190, 869, 870, 281, 969, 970, 971, 972, 331, 965, 966, 967, 968, 973, 974, 975, 976, 1023, 1024, 1025, 1026, 1191, 1192, 1193, 1194, 1047, 1103, 1112, 1121, 1130, 1139, 1148, 21, 697, 1087, 1088, 1089, 1090, 1195, 1154, 1155, 1156, 1196, 1197, 1198, 1199, 1200, 1201, 670, 671, 672, 24, 673, 64, 66, 534, 535, 536, 28, 537, 72, 1291, 1229, 1230, 1231, 1232, 1233, 1234, 1252, 1253, 1254, 1255, 1256, 1257, 1258, 1259, 1260, 1261, 1262, 1263, 1264, 1265, 1276, 1277, 1278, 1279, 1280, 1281, 1282, 1283, 1284, 1285, 1286, 1287, 1288, 1289, 1290, 1270, 1271, 1266, 1267, 1268, 1269] rfl (by decide +kernel)
set_option maxRecDepth 20000 in
theorem gL_law_X7_digest : GoodIn wsL_law (wsV RL 320 RX7 yX7_digest wsX7_digest) := goodIn_app (goodIn_r _ [1165, 1166, 1167, 2] rfl (by decide +kernel)) ggL_law_X7_digest
set_option maxRecDepth 20000 in
theorem ggL_law_X8_digest : GoodIn wsL_law wsX8_digest := goodIn_r _ [1205, 173, 1206, 1207, 80, 178, 84, 509, 85, 1208, 1209, 1210, 5, 1211, 1212, 1213, 1214, 1215, 1216, 214, 215, 216, 217, 436, 437, 438, 439, 440, 441, 442, 443, 231, 232, 233, 234, 444, 445, 446, 447, 456, 457, 458, 459, 448, 449, 450, 451, 460, 461, 462, 463, 464, 465, 466, 467, 166, 167, 168, 472, 473, 474, 475, 468, 469, 470, 471, 954, 955, 956, 957, 628, 629, 630, 631, 81, 428, 429, 430, 431, 432, 433, 434, 435, 86, 452, 453, 454, 455, 476, 477, 478, 479, 480, 481, 482, 483, 484, 485, 486, 487, 640, 641, 642, 643, 875, 876, 877, 878, 981, 982, 983, 984, 985, 986, 987, 988, 989, 1031, 1032, 1033, 1034, 1012, 1013, 1014, 1015, 1095, 1096, 1097, 1098, 1161, 1162, 1163, 1164, 1217, 1218, 1219, 1220, 1221, 1222, 1223, 1224, 1225, 1226, 1227, 1228, 1235, 1236, 1237, 1238, 1239, 1240, 1241, 1242, 1243, 1244, 1245, 1246, 1247, 1248, 1249, 1250, 1251] rfl (by decide +kernel)
