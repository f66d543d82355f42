set_option maxRecDepth 20000 in
theorem ggX7_hashSparrow_X3_nextAhead : GoodIn wsX7_hashSparrow wsX3_nextAhead := goodIn_r _ [51, 30, 52, 53, 54, 55, 28, 56, 35, 36, 57, 58, 59, 60, 22, 61, 24, 106, 107, 108, 109, 110, 111, 112, 113, 114, 115, 116, 117, 118, 119, 84, 85, 86, 87, 88, 89, 90, 91, 92, 93, 94, 95, 96, 97, 98] rfl (by decide +kernel)
set_option maxRecDepth 20000 in
theorem gX7_hashSparrow_X3_nextAhead : GoodIn wsX7_hashSparrow (wsV RX7 245 RX3 yX3_nextAhead wsX3_nextAhead) := goodIn_app (goodIn_r _ [62, 49, 50, 28] rfl (by decide +kernel)) ggX7_hashSparrow_X3_nextAhead
set_option maxRecDepth 20000 in
theorem ggX7_hashSparrow_X3_draftFeet : GoodIn wsX7_hashSparrow wsX3_draftFeet := goodIn_r _ [66, 35, 67, 58, 59, 60, 22, 61, 24, 84, 85, 86, 87, 88, 89, 90, 91, 92, 93, 94, 95, 96, 97, 98] rfl (by decide +kernel)
set_option maxRecDepth 20000 in
theorem gX7_hashSparrow_X3_draftFeet : GoodIn wsX7_hashSparrow (wsV RX7 249 RX3 yX3_draftFeet wsX3_draftFeet) := goodIn_app (goodIn_r _ [63, 64, 65, 28] rfl (by decide +kernel)) ggX7_hashSparrow_X3_draftFeet
set_option maxRecDepth 20000 in
theorem ggX7_hashSparrow_X6_partOfCourse : GoodIn wsX7_hashSparrow wsX6_partOfCourse := goodIn_r _ [71, 24, 84, 85, 86, 87, 88, 89, 90, 91, 92, 93, 94, 95, 96, 97, 98] rfl (by decide +kernel)
set_option maxRecDepth 20000 in
theorem gX7_hashSparrow_X6_partOfCourse : GoodIn wsX7_hashSparrow (wsV RX7 253 RX6 yX6_partOfCourse wsX6_partOfCourse) := goodIn_app (goodIn_r _ [68, 69, 70, 22] rfl (by decide +kernel)) ggX7_hashSparrow_X6_partOfCourse
set_option maxRecDepth 20000 in
theorem ggX7_hashSparrow_X3_allowedFeet : GoodIn wsX7_hashSparrow wsX3_allowedFeet := goodIn_r _ [75, 76, 52, 77, 78, 69, 70, 22, 71, 24, 79, 80, 81, 28, 82, 83, 84, 85, 86, 87, 88, 89, 90, 91, 92, 93, 94, 95, 96, 97, 98, 106, 107, 108, 109, 110, 111, 112, 113, 114, 115, 116, 117, 118, 119] rfl (by decide +kernel)
set_option maxRecDepth 20000 in
theorem gX7_hashSparrow_X3_allowedFeet : GoodIn wsX7_hashSparrow (wsV RX7 256 RX3 yX3_allowedFeet wsX3_allowedFeet) := goodIn_app (goodIn_r _ [72, 73, 74, 28] rfl (by decide +kernel)) ggX7_hashSparrow_X3_allowedFeet
set_option maxRecDepth 20000 in
theorem ggX7_hashOrder_X3_putInOrder : GoodIn wsX7_hashOrder wsX3_putInOrder := goodIn_r _ [8, 9, 10, 11, 12, 7, 13, 14, 15, 16, 17, 18, 19, 20, 21, 22, 23, 24, 25, 26, 27, 28, 29, 47, 48, 49, 50, 51, 52, 53, 54, 55, 56, 57, 58, 59, 60, 61, 62, 63, 64, 65, 66, 67, 68, 69, 70, 71, 72, 73, 74, 75] rfl (by decide +kernel)
set_option maxRecDepth 20000 in
theorem gX7_hashOrder_X3_putInOrder : GoodIn wsX7_hashOrder (wsV RX7 225 RX3 yX3_putInOrder wsX3_putInOrder) := goodIn_app (goodIn_r _ [4, 5, 6, 7] rfl (by decide +kernel)) ggX7_hashOrder_X3_putInOrder
set_option maxRecDepth 20000 in
theorem ggX7_hashOrder_X3_inOrder : GoodIn wsX7_hashOrder wsX3_inOrder := goodIn_r _ [33, 15, 20, 47, 48, 49, 50, 51, 52, 53, 54, 55, 56, 57, 58, 59, 60] rfl (by decide +kernel)
set_option maxRecDepth 20000 in
theorem gX7_hashOrder_X3_inOrder : GoodIn wsX7_hashOrder (wsV RX7 228 RX3 yX3_inOrder wsX3_inOrder) := goodIn_app (goodIn_r _ [30, 31, 32, 7] rfl (by decide +kernel)) ggX7_hashOrder_X3_inOrder
set_option maxRecDepth 20000 in
theorem ggX7_hashOrder_X0_add : GoodIn wsX7_hashOrder wsX0_add := goodIn_r _ [38, 39, 40, 76] rfl (by decide +kernel)
set_option maxRecDepth 20000 in
theorem gX7_hashOrder_X0_add : GoodIn wsX7_hashOrder (wsV RX7 313 RX0 yX0_add wsX0_add) := goodIn_app (goodIn_r _ [34, 35, 36, 37] rfl (by decide +kernel)) ggX7_hashOrder_X0_add
set_option maxRecDepth 20000 in
theorem ggX7_hashAccounts_X0_add : GoodIn wsX7_hashAccounts wsX0_add := goodIn_r _ [18, 19, 20, 89] rfl (by decide +kernel)
set_option maxRecDepth 20000 in
theorem gX7_hashAccounts_X0_add : GoodIn wsX7_hashAccounts (wsV RX7 313 RX0 yX0_add wsX0_add) := goodIn_app (goodIn_r _ [14, 15, 16, 17] rfl (by decide +kernel)) ggX7_hashAccounts_X0_add
set_option maxRecDepth 20000 in
theorem ggX7_hashAccounts_X3_arrivedAs : GoodIn wsX7_hashAccounts wsX3_arrivedAs := goodIn_r _ [25, 26, 27, 28, 29, 30, 31, 24, 32, 33, 34, 58, 59, 60, 61, 62, 63, 64, 65, 66, 67, 68, 69, 70, 71, 72, 73, 74, 75, 76, 77, 78, 79, 80, 81, 82, 83, 84, 85, 86] rfl (by decide +kernel)
set_option maxRecDepth 20000 in
theorem gX7_hashAccounts_X3_arrivedAs : GoodIn wsX7_hashAccounts (wsV RX7 279 RX3 yX3_arrivedAs wsX3_arrivedAs) := goodIn_app (goodIn_r _ [21, 22, 23, 24] rfl (by decide +kernel)) ggX7_hashAccounts_X3_arrivedAs
set_option maxRecDepth 20000 in
theorem ggX7_hashAccounts_X3_sumFlown : GoodIn wsX7_hashAccounts wsX3_sumFlown := goodIn_r _ [38, 26, 39, 29, 30, 31, 24, 32, 33, 34, 58, 59, 60, 61, 62, 63, 64, 65, 66, 67, 68, 69, 70, 71, 72, 73, 74, 75, 76, 77, 78, 79, 80, 81, 82, 83, 84, 85, 86] rfl (by decide +kernel)
set_option maxRecDepth 20000 in
theorem gX7_hashAccounts_X3_sumFlown : GoodIn wsX7_hashAccounts (wsV RX7 289 RX3 yX3_sumFlown wsX3_sumFlown) := goodIn_app (goodIn_r _ [35, 36, 37, 24] rfl (by decide +kernel)) ggX7_hashAccounts_X3_sumFlown
set_option maxRecDepth 20000 in
theorem ggX7_hashAccounts_X7_meanFlown : GoodIn wsX7_hashAccounts wsX7_meanFlown := goodIn_r _ [44, 1, 45, 35, 36, 37, 24, 38, 26, 39, 29, 30, 31, 32, 33, 34, 52, 53, 54, 55, 56, 57, 58, 59, 60, 61, 62, 63, 64, 65, 66, 67, 68, 69, 70, 71, 72, 73, 74, 75, 76, 77, 78, 79, 80, 81, 82, 83, 84, 85, 86] rfl (by decide +kernel)
set_option maxRecDepth 20000 in
theorem gX7_hashAccounts_X7_meanFlown : GoodIn wsX7_hashAccounts (wsV RX7 337 RX7 yX7_meanFlown wsX7_meanFlown) := goodIn_app (goodIn_r _ [40, 41, 42, 43] rfl (by decide +kernel)) ggX7_hashAccounts_X7_meanFlown
set_option maxRecDepth 20000 in
theorem ggX7_hashAccounts_X7_bitsOf : GoodIn wsX7_hashAccounts wsX7_bitsOf := goodIn_r _ [48, 49, 50, 51] rfl (by decide +kernel)
set_option maxRecDepth 20000 in
theorem gX7_hashAccounts_X7_bitsOf : GoodIn wsX7_hashAccounts (va_wsS RX7 341 yX7_bitsOf wsX7_bitsOf) := goodIn_app (goodIn_r _ [46, 47, 43] rfl (by decide +kernel)) ggX7_hashAccounts_X7_bitsOf
set_option maxRecDepth 20000 in
theorem ggX7_foretell_X3_takeFrom : GoodIn wsX7_foretell wsX3_takeFrom := goodIn_r _ [10, 11, 12, 13, 14, 15, 16, 17, 18, 19, 20, 21, 22, 23, 24, 25, 26, 27, 28, 29, 30, 31, 32, 33, 34, 35, 36, 37, 38, 39, 40, 41, 42, 165, 166, 167, 168, 169, 170, 171, 172, 173, 174, 175, 176, 177, 178, 150, 151, 152, 153, 154, 155, 156, 157, 158, 159, 160, 161, 162, 163, 164] rfl (by decide +kernel)
set_option maxRecDepth 20000 in
theorem gX7_foretell_X3_takeFrom : GoodIn wsX7_foretell (wsV RX7 175 RX3 yX3_takeFrom wsX3_takeFrom) := goodIn_app (goodIn_r _ [6, 7, 8, 9] rfl (by decide +kernel)) ggX7_foretell_X3_takeFrom
set_option maxRecDepth 20000 in
theorem ggX7_foretell_X3_at : GoodIn wsX7_foretell wsX3_at := goodIn_r _ [46, 13, 11, 165, 166, 167, 168, 169, 170, 171, 172, 173, 174, 175, 176, 177, 178] rfl (by decide +kernel)
set_option maxRecDepth 20000 in
theorem gX7_foretell_X3_at : GoodIn wsX7_foretell (wsV RX7 316 RX3 yX3_at wsX3_at) := goodIn_app (goodIn_r _ [43, 44, 45, 9] rfl (by decide +kernel)) ggX7_foretell_X3_at
set_option maxRecDepth 20000 in
theorem ggX7_foretell_X3_letGoBy : GoodIn wsX7_foretell wsX3_letGoBy := goodIn_r _ [50, 15, 16, 13, 17, 51, 52, 53, 9, 54, 11, 55, 56, 57, 58, 59, 60, 61, 62, 63, 64, 65, 66, 67, 27, 68, 37, 41, 32, 69, 70, 71, 72, 73, 74, 75, 76, 77, 33, 38, 78, 79, 80, 81, 19, 82, 20, 83, 84, 85, 86, 87, 88, 89, 90, 91, 92, 93, 94, 95, 96, 97, 98, 99, 100, 101, 102, 103, 104, 105, 106, 107, 108, 109, 110, 111, 112, 113, 114, 12, 115, 116, 117, 118, 119, 120, 121, 122, 34, 123, 124, 125, 126, 127, 14, 128, 129, 18, 21, 130, 131, 132, 133, 134, 135, 136, 137, 138, 139, 23, 140, 141, 142, 143, 39, 35, 165, 166, 167, 168, 169, 170, 171, 172, 173, 174, 175, 176, 177, 178, 150, 151, 152, 153, 154, 155, 156, 157, 158, 159, 160, 161, 162, 163, 164] rfl (by decide +kernel)
set_option maxRecDepth 20000 in
theorem gX7_foretell_X3_letGoBy : GoodIn wsX7_foretell (wsV RX7 144 RX3 yX3_letGoBy wsX3_letGoBy) := goodIn_app (goodIn_r _ [47, 48, 49, 9] rfl (by decide +kernel)) ggX7_foretell_X3_letGoBy
set_option maxRecDepth 20000 in
theorem ggX7_foretellBestPace_X7_foretell : GoodIn wsX7_foretellBestPace wsX7_foretell := goodIn_r _ [5, 6, 7, 8, 9, 10, 11, 12, 13, 14, 15, 16, 17, 18, 19, 20, 21, 22, 23, 24, 25, 26, 27, 28, 29, 30, 31, 32, 33, 34, 35, 36, 37, 38, 39, 40, 41, 42, 43, 44, 45, 46, 47, 48, 49, 50, 51, 52, 53, 54, 55, 56, 57, 58, 59, 60, 61, 62, 63, 64, 65, 66, 67, 68, 69, 70, 71, 72, 73, 74, 75, 76, 77, 78, 79, 80, 81, 82, 83, 84, 85, 86, 87, 88, 89, 90, 91, 92, 93, 94, 95, 96, 97, 98, 99, 100, 101, 102, 103, 104, 105, 106, 107, 108, 109, 110, 111, 112, 113, 114, 115, 116, 117, 118, 119, 120, 121, 122, 123, 124, 125, 126, 127, 128, 129, 130, 131, 132, 133, 134, 135, 136, 137, 138, 139, 140, 141, 142, 143, 144, 145, 146, 147, 148, 149, 150, 151, 152, 153, 154, 155, 156, 157, 158, 159, 160, 161, 162, 163, 164, 165, 166, 167, 168, 169, 170, 171, 172, 173, 174, 175, 176, 177, 178, 179, 180, 181, 182, 183] rfl (by decide +kernel)
set_option maxRecDepth 20000 in
theorem gX7_foretellBestPace_X7_foretell : GoodIn wsX7_foretellBestPace (wsV RX7 259 RX7 yX7_foretell wsX7_foretell) := goodIn_app (goodIn_r _ [1, 2, 3, 4] rfl (by decide +kernel)) ggX7_foretellBestPace_X7_foretell
set_option maxRecDepth 20000 in
theorem ggX7_foretellSeconds_X3_takeFrom : GoodIn wsX7_foretellSeconds wsX3_takeFrom := goodIn_r _ [9, 10, 11, 12, 13, 14, 15, 16, 17, 18, 19, 20, 21, 22, 23, 24, 25, 26, 27, 28, 29, 30, 31, 32, 33, 34, 35, 36, 37, 38, 39, 40, 41, 145, 146, 147, 148, 149, 150, 151, 152, 153, 154, 155, 156, 157, 158, 159, 160, 161, 162, 163, 164, 165, 166, 167, 168, 169, 170, 171, 172, 173] rfl (by decide +kernel)
set_option maxRecDepth 20000 in
theorem gX7_foretellSeconds_X3_takeFrom : GoodIn wsX7_foretellSeconds (wsV RX7 175 RX3 yX3_takeFrom wsX3_takeFrom) := goodIn_app (goodIn_r _ [5, 6, 7, 8] rfl (by decide +kernel)) ggX7_foretellSeconds_X3_takeFrom
set_option maxRecDepth 20000 in
theorem ggX7_foretellSeconds_X3_letGoBy : GoodIn wsX7_foretellSeconds wsX3_letGoBy := goodIn_r _ [45, 14, 15, 12, 16, 46, 47, 48, 8, 49, 10, 50, 51, 52, 53, 54, 55, 56, 57, 58, 59, 60, 61, 62, 26, 63, 36, 40, 31, 64, 65, 66, 67, 68, 69, 70, 71, 72, 32, 37, 73, 74, 75, 76, 18, 77, 19, 78, 79, 80, 81, 82, 83, 84, 85, 86, 87, 88, 89, 90, 91, 92, 93, 94, 95, 96, 97, 98, 99, 100, 101, 102, 103, 104, 105, 106, 107, 108, 109, 11, 110, 111, 112, 113, 114, 115, 116, 117, 33, 118, 119, 120, 121, 122, 13, 123, 124, 17, 20, 125, 126, 127, 128, 129, 130, 131, 132, 133, 134, 22, 135, 136, 137, 138, 38, 34, 145, 146, 147, 148, 149, 150, 151, 152, 153, 154, 155, 156, 157, 158, 159, 160, 161, 162, 163, 164, 165, 166, 167, 168, 169, 170, 171, 172, 173] rfl (by decide +kernel)
set_option maxRecDepth 20000 in
theorem gX7_foretellSeconds_X3_letGoBy : GoodIn wsX7_foretellSeconds (wsV RX7 144 RX3 yX3_letGoBy wsX3_letGoBy) := goodIn_app (goodIn_r _ [42, 43, 44, 8] rfl (by decide +kernel)) ggX7_foretellSeconds_X3_letGoBy
set_option maxRecDepth 20000 in
theorem ggX7_foretellWinner_X7_foretellSeconds : GoodIn wsX7_foretellWinner wsX7_foretellSeconds := goodIn_r _ [9, 3, 1, 10, 2, 11, 12, 13, 14, 15, 16, 17, 18, 19, 20, 21, 22, 23, 24, 25, 26, 27, 28, 29, 30, 31, 32, 33, 34, 35, 36, 37, 38, 39, 40, 41, 42, 43, 44, 45, 46, 47, 48, 49, 50, 51, 52, 53, 54, 55, 56, 57, 58, 59, 60, 61, 62, 63, 64, 65, 66, 67, 68, 69, 70, 71, 72, 73, 74, 75, 76, 77, 78, 79, 80, 81, 82, 83, 84, 85, 86, 87, 88, 89, 90, 91, 92, 93, 94, 95, 96, 97, 98, 99, 100, 101, 102, 103, 104, 105, 106, 107, 108, 109, 110, 111, 112, 113, 114, 115, 116, 117, 118, 119, 120, 121, 122, 123, 124, 125, 126, 127, 128, 129, 130, 131, 132, 133, 134, 135, 136, 137, 138, 139, 140, 141, 142, 143, 144, 149, 150, 151, 152, 153, 154, 155, 156, 157, 158, 159, 160, 161, 162, 163, 164, 165, 166, 167, 168, 169, 170, 171, 172, 173, 174, 175, 176, 177, 178, 179, 180, 181, 182, 183] rfl (by decide +kernel)
set_option maxRecDepth 20000 in
theorem gX7_foretellWinner_X7_foretellSeconds : GoodIn wsX7_foretellWinner (wsV RX7 268 RX7 yX7_foretellSeconds wsX7_foretellSeconds) := goodIn_app (goodIn_r _ [5, 6, 7, 8] rfl (by decide +kernel)) ggX7_foretellWinner_X7_foretellSeconds
set_option maxRecDepth 20000 in
theorem ggX7_foretellWinner_X3_arrivedAs : GoodIn wsX7_foretellWinner wsX3_arrivedAs := goodIn_r _ [148, 16, 93, 139, 56, 57, 58, 14, 59, 60, 18, 155, 156, 157, 158, 159, 160, 161, 162, 163, 164, 165, 166, 167, 168, 169, 170, 171, 172, 173, 174, 175, 176, 177, 178, 179, 180, 181, 182, 183] rfl (by decide +kernel)
set_option maxRecDepth 20000 in
theorem gX7_foretellWinner_X3_arrivedAs : GoodIn wsX7_foretellWinner (wsV RX7 279 RX3 yX3_arrivedAs wsX3_arrivedAs) := goodIn_app (goodIn_r _ [145, 146, 147, 14] rfl (by decide +kernel)) ggX7_foretellWinner_X3_arrivedAs
set_option maxRecDepth 20000 in
theorem ggX7_readText_X1_start : GoodIn wsX7_readText wsX1_start := goodIn_r _ [8, 9, 10, 11, 12, 60, 61, 62, 63] rfl (by decide +kernel)
set_option maxRecDepth 20000 in
theorem gX7_readText_X1_start : GoodIn wsX7_readText (wsV RX7 351 RX1 yX1_start wsX1_start) := goodIn_app (goodIn_r _ [4, 5, 6, 7] rfl (by decide +kernel)) ggX7_readText_X1_start
set_option maxRecDepth 20000 in
theorem ggX7_readText_X2_at : GoodIn wsX7_readText wsX2_at := goodIn_r _ [17, 18, 58, 59] rfl (by decide +kernel)
set_option maxRecDepth 20000 in
theorem gX7_readText_X2_at : GoodIn wsX7_readText (wsV RX7 330 RX2 yX2_at wsX2_at) := goodIn_app (goodIn_r _ [13, 14, 15, 16] rfl (by decide +kernel)) ggX7_readText_X2_at
set_option maxRecDepth 20000 in
theorem ggX7_readText_X1_accepts : GoodIn wsX7_readText wsX1_accepts := goodIn_r _ [22, 9, 23, 24, 25, 7, 26, 12, 27, 28, 29, 30, 10, 31, 32, 33, 34, 35, 5, 6, 8, 11, 36, 37, 38, 39, 40, 41, 42, 43, 44, 45, 46, 47, 48, 49, 50, 51, 60, 61, 62, 63] rfl (by decide +kernel)
set_option maxRecDepth 20000 in
theorem gX7_readText_X1_accepts : GoodIn wsX7_readText (wsV RX7 354 RX1 yX1_accepts wsX1_accepts) := goodIn_app (goodIn_r _ [19, 20, 21, 7] rfl (by decide +kernel)) ggX7_readText_X1_accepts
set_option maxRecDepth 20000 in
theorem ggX7_followOnTrial_X3_takeFrom : GoodIn wsX7_followOnTrial wsX3_takeFrom := goodIn_r _ [10, 11, 12, 13, 14, 15, 16, 17, 18, 19, 20, 21, 22, 23, 24, 25, 26, 27, 28, 29, 30, 31, 32, 33, 34, 35, 36, 37, 38, 39, 40, 41, 42, 216, 217, 218, 219, 220, 221, 222, 223, 224, 225, 226, 227, 228, 229, 230, 231, 232, 233, 234, 235, 236, 237, 238, 239, 240, 241, 242, 243, 244] rfl (by decide +kernel)
set_option maxRecDepth 20000 in
theorem gX7_followOnTrial_X3_takeFrom : GoodIn wsX7_followOnTrial (wsV RX7 175 RX3 yX3_takeFrom wsX3_takeFrom) := goodIn_app (goodIn_r _ [6, 7, 8, 9] rfl (by decide +kernel)) ggX7_followOnTrial_X3_takeFrom
set_option maxRecDepth 20000 in
theorem ggX7_followOnTrial_X1_start : GoodIn wsX7_followOnTrial wsX1_start := goodIn_r _ [47, 48, 49, 50, 51, 245, 246, 247, 248] rfl (by decide +kernel)
set_option maxRecDepth 20000 in
theorem gX7_followOnTrial_X1_start : GoodIn wsX7_followOnTrial (wsV RX7 351 RX1 yX1_start wsX1_start) := goodIn_app (goodIn_r _ [43, 44, 45, 46] rfl (by decide +kernel)) ggX7_followOnTrial_X1_start
set_option maxRecDepth 20000 in
theorem ggX7_followOnTrial_X2_at : GoodIn wsX7_followOnTrial wsX2_at := goodIn_r _ [56, 57, 214, 215] rfl (by decide +kernel)
set_option maxRecDepth 20000 in
theorem gX7_followOnTrial_X2_at : GoodIn wsX7_followOnTrial (wsV RX7 330 RX2 yX2_at wsX2_at) := goodIn_app (goodIn_r _ [52, 53, 54, 55] rfl (by decide +kernel)) ggX7_followOnTrial_X2_at
set_option maxRecDepth 20000 in
theorem ggX7_followOnTrial_X7_followOneOnTrial : GoodIn wsX7_followOnTrial wsX7_followOneOnTrial := goodIn_r _ [62, 1, 3, 63, 64, 65, 66, 67, 68, 69, 70, 71, 72, 9, 73, 13, 11, 74, 75, 76, 77, 12, 78, 79, 80, 81, 15, 16, 17, 82, 83, 84, 85, 86, 87, 88, 89, 90, 91, 92, 93, 94, 95, 96, 97, 98, 27, 99, 37, 41, 32, 100, 101, 102, 103, 104, 105, 106, 107, 108, 33, 38, 109, 110, 111, 112, 19, 113, 20, 114, 115, 116, 117, 118, 119, 120, 121, 122, 123, 124, 125, 126, 127, 128, 129, 130, 131, 132, 133, 134, 135, 136, 137, 138, 139, 140, 141, 142, 143, 144, 145, 146, 147, 148, 149, 150, 151, 152, 153, 34, 154, 155, 156, 157, 158, 14, 159, 160, 18, 21, 161, 162, 163, 164, 165, 166, 167, 168, 169, 170, 23, 171, 172, 173, 174, 39, 35, 208, 209, 210, 211, 212, 213, 245, 246, 247, 248, 230, 231, 232, 233, 234, 235, 236, 237, 238, 239, 240, 241, 242, 243, 244, 216, 217, 218, 219, 220, 221, 222, 223, 224, 225, 226, 227, 228, 229] rfl (by decide +kernel)
set_option maxRecDepth 20000 in
theorem gX7_followOnTrial_X7_followOneOnTrial : GoodIn wsX7_followOnTrial (wsV RX7 358 RX7 yX7_followOneOnTrial wsX7_followOneOnTrial) := goodIn_app (goodIn_r _ [58, 59, 60, 61] rfl (by decide +kernel)) ggX7_followOnTrial_X7_followOneOnTrial
set_option maxRecDepth 20000 in
theorem ggX7_followOnTrial_X1_accepts : GoodIn wsX7_followOnTrial wsX1_accepts := goodIn_r _ [178, 48, 179, 180, 181, 46, 182, 51, 183, 184, 185, 186, 49, 187, 188, 189, 190, 191, 44, 45, 47, 50, 192, 193, 194, 195, 196, 197, 198, 199, 200, 201, 202, 203, 204, 205, 206, 207, 245, 246, 247, 248] rfl (by decide +kernel)
set_option maxRecDepth 20000 in
theorem gX7_followOnTrial_X1_accepts : GoodIn wsX7_followOnTrial (wsV RX7 354 RX1 yX1_accepts wsX1_accepts) := goodIn_app (goodIn_r _ [175, 176, 177, 46] rfl (by decide +kernel)) ggX7_followOnTrial_X1_accepts
set_option maxRecDepth 20000 in
theorem ggX7_followOneOnTrial_X3_at : GoodIn wsX7_followOneOnTrial wsX3_at := goodIn_r _ [14, 15, 16, 162, 163, 164, 165, 166, 167, 168, 169, 170, 171, 172, 173, 174, 175] rfl (by decide +kernel)
set_option maxRecDepth 20000 in
theorem gX7_followOneOnTrial_X3_at : GoodIn wsX7_followOneOnTrial (wsV RX7 316 RX3 yX3_at wsX3_at) := goodIn_app (goodIn_r _ [10, 11, 12, 13] rfl (by decide +kernel)) ggX7_followOneOnTrial_X3_at
set_option maxRecDepth 20000 in
theorem ggX7_followOneOnTrial_X3_changeLimit : GoodIn wsX7_followOneOnTrial wsX3_changeLimit := goodIn_r _ [20, 21, 162, 163, 164, 165, 166, 167, 168, 169, 170, 171, 172, 173, 174, 175] rfl (by decide +kernel)
set_option maxRecDepth 20000 in
theorem gX7_followOneOnTrial_X3_changeLimit : GoodIn wsX7_followOneOnTrial (wsV RX7 119 RX3 yX3_changeLimit wsX3_changeLimit) := goodIn_app (goodIn_r _ [17, 18, 19, 13] rfl (by decide +kernel)) ggX7_followOneOnTrial_X3_changeLimit
set_option maxRecDepth 20000 in
theorem ggX7_followOneOnTrial_X3_letGoBy : GoodIn wsX7_followOneOnTrial wsX3_letGoBy := goodIn_r _ [25, 26, 27, 15, 28, 29, 30, 31, 13, 32, 16, 33, 34, 35, 36, 37, 38, 39, 40, 41, 42, 43, 44, 45, 46, 47, 48, 49, 50, 51, 52, 53, 54, 55, 56, 57, 58, 59, 60, 61, 62, 63, 64, 65, 66, 67, 68, 69, 70, 71, 72, 73, 74, 75, 76, 77, 78, 79, 80, 81, 82, 83, 84, 85, 86, 87, 88, 89, 90, 91, 92, 93, 94, 95, 96, 97, 98, 99, 100, 21, 101, 102, 103, 104, 105, 106, 107, 108, 109, 110, 111, 112, 113, 114, 115, 116, 117, 118, 119, 120, 121, 122, 123, 124, 125, 126, 127, 128, 129, 130, 131, 132, 133, 134, 135, 136, 162, 163, 164, 165, 166, 167, 168, 169, 170, 171, 172, 173, 174, 175, 147, 148, 149, 150, 151, 152, 153, 154, 155, 156, 157, 158, 159, 160, 161] rfl (by decide +kernel)
set_option maxRecDepth 20000 in
theorem gX7_followOneOnTrial_X3_letGoBy : GoodIn wsX7_followOneOnTrial (wsV RX7 144 RX3 yX3_letGoBy wsX3_letGoBy) := goodIn_app (goodIn_r _ [22, 23, 24, 13] rfl (by decide +kernel)) ggX7_followOneOnTrial_X3_letGoBy
set_option maxRecDepth 20000 in
theorem ggX7_known_X3_at : GoodIn wsX7_known wsX3_at := goodIn_r _ [8, 9, 10, 17, 18, 19, 20, 21, 22, 23, 24, 25, 26, 27, 28, 29, 30] rfl (by decide +kernel)
set_option maxRecDepth 20000 in
theorem gX7_known_X3_at : GoodIn wsX7_known (wsV RX7 316 RX3 yX3_at wsX3_at) := goodIn_app (goodIn_r _ [4, 5, 6, 7] rfl (by decide +kernel)) ggX7_known_X3_at
set_option maxRecDepth 20000 in
theorem ggX7_knownToFly_X7_known : GoodIn wsX7_knownToFly wsX7_known := goodIn_ca (goodIn_r _ [8, 9, 10, 11, 12, 13, 14, 15, 16, 17, 18, 34, 35, 36, 37, 38, 39, 40, 41, 42, 43, 44, 45, 46, 47, 48, 49, 50, 51, 52, 53] rfl (by decide +kernel)) (goodIn_sub (fun _ h => List.mem_cons_of_mem _ (List.mem_append_right _ h)) (by decide +kernel))
set_option maxRecDepth 20000 in
theorem gX7_knownToFly_X7_known : GoodIn wsX7_knownToFly (wsV RX7 79 RX7 yX7_known wsX7_known) := goodIn_app (goodIn_r _ [4, 5, 6, 7] rfl (by decide +kernel)) ggX7_knownToFly_X7_known
set_option maxRecDepth 20000 in
theorem ggX7_checkPace_X7_isPace : GoodIn wsX7_checkPace wsX7_isPace := goodIn_r _ [6] rfl (by decide +kernel)
set_option maxRecDepth 20000 in
theorem gX7_checkPace_X7_isPace : GoodIn wsX7_checkPace (va_wsS RX7 47 yX7_isPace wsX7_isPace) := goodIn_app (goodIn_r _ [3, 4, 5] rfl (by decide +kernel)) ggX7_checkPace_X7_isPace
set_option maxRecDepth 20000 in
theorem ggX8_isBird_X8_in : GoodIn wsX8_isBird wsX8_in := goodIn_r _ [5] rfl (by decide +kernel)
set_option maxRecDepth 20000 in
theorem gX8_isBird_X8_in : GoodIn wsX8_isBird (va_wsS RX8 36 yX8_in wsX8_in) := goodIn_app (goodIn_r _ [2, 3, 4] rfl (by decide +kernel)) ggX8_isBird_X8_in
set_option maxRecDepth 20000 in
theorem ggX8_flies_X8_of : GoodIn wsX8_flies wsX8_of := goodIn_r _ [5, 6, 7, 8, 9, 10, 11, 12, 13, 14, 15, 16, 17, 18, 19, 20, 21, 22, 23] rfl (by decide +kernel)
set_option maxRecDepth 20000 in
theorem gX8_flies_X8_of : GoodIn wsX8_flies (wsV RX8 40 RX8 yX8_of wsX8_of) := goodIn_app (goodIn_r _ [1, 2, 3, 4] rfl (by decide +kernel)) ggX8_flies_X8_of
set_option maxRecDepth 20000 in
theorem ggX8_isOver_X8_of : GoodIn wsX8_isOver wsX8_of := goodIn_r _ [5, 6, 7, 8, 9, 10, 11, 12, 13, 14, 15, 16, 17, 18, 19, 20, 21, 22, 23] rfl (by decide +kernel)
set_option maxRecDepth 20000 in
theorem gX8_isOver_X8_of : GoodIn wsX8_isOver (wsV RX8 40 RX8 yX8_of wsX8_of) := goodIn_app (goodIn_r _ [1, 2, 3, 4] rfl (by decide +kernel)) ggX8_isOver_X8_of
set_option maxRecDepth 20000 in
theorem ggX8_isAhead_X8_isOver : GoodIn wsX8_isAhead wsX8_isOver := goodIn_r _ [5, 6, 7, 8, 4, 9, 10, 15, 16, 17, 18, 19, 20, 21, 22, 23, 24, 25, 26, 27, 28, 29, 30, 31] rfl (by decide +kernel)
set_option maxRecDepth 20000 in
theorem gX8_isAhead_X8_isOver : GoodIn wsX8_isAhead (wsV RX8 47 RX8 yX8_isOver wsX8_isOver) := goodIn_app (goodIn_r _ [1, 2, 3, 4] rfl (by decide +kernel)) ggX8_isAhead_X8_isOver
set_option maxRecDepth 20000 in
theorem ggX8_isAhead_X8_arrival : GoodIn wsX8_isAhead wsX8_arrival := goodIn_r _ [14, 10, 15, 16, 17, 18, 19, 20, 21, 22, 23, 24, 25, 26, 27, 28, 29, 30, 31] rfl (by decide +kernel)
set_option maxRecDepth 20000 in
theorem gX8_isAhead_X8_arrival : GoodIn wsX8_isAhead (wsV RX8 51 RX8 yX8_arrival wsX8_arrival) := goodIn_app (goodIn_r _ [11, 12, 13, 4] rfl (by decide +kernel)) ggX8_isAhead_X8_arrival
set_option maxRecDepth 20000 in
theorem ggX8_isAhead_X8_of : GoodIn wsX8_isAhead wsX8_of := goodIn_r _ [9, 10, 15, 16, 17, 18, 19, 20, 21, 22, 23, 24, 25, 26, 27, 28, 29, 30, 31] rfl (by decide +kernel)
set_option maxRecDepth 20000 in
theorem gX8_isAhead_X8_of : GoodIn wsX8_isAhead (wsV RX8 40 RX8 yX8_of wsX8_of) := goodIn_app (goodIn_r _ [6, 7, 8, 4] rfl (by decide +kernel)) ggX8_isAhead_X8_of
set_option maxRecDepth 20000 in
theorem ggX8_place_X8_isAhead : GoodIn wsX8_place wsX8_isAhead := goodIn_r _ [6, 7, 8, 9, 5, 10, 11, 12, 13, 14, 1, 15, 16, 17, 18, 19, 20, 21, 22, 23, 24, 25, 26, 27, 28, 29, 30, 31, 32, 33, 34, 35] rfl (by decide +kernel)
set_option maxRecDepth 20000 in
theorem gX8_place_X8_isAhead : GoodIn wsX8_place (wsV RX8 55 RX8 yX8_isAhead wsX8_isAhead) := goodIn_app (goodIn_r _ [2, 3, 4, 5] rfl (by decide +kernel)) ggX8_place_X8_isAhead
set_option maxRecDepth 20000 in
theorem ggX8_birdAt_X8_place : GoodIn wsX8_birdAt wsX8_place := goodIn_r _ [6, 1, 7, 8, 9, 5, 10, 11, 12, 13, 14, 15, 16, 17, 18, 19, 20, 21, 22, 23, 24, 25, 26, 27, 28, 29, 30, 31, 32, 33, 34, 35, 36, 37, 38, 39] rfl (by decide +kernel)
set_option maxRecDepth 20000 in
theorem gX8_birdAt_X8_place : GoodIn wsX8_birdAt (wsV RX8 59 RX8 yX8_place wsX8_place) := goodIn_app (goodIn_r _ [2, 3, 4, 5] rfl (by decide +kernel)) ggX8_birdAt_X8_place
set_option maxRecDepth 20000 in
theorem ggX8_ahead_X8_of : GoodIn wsX8_ahead wsX8_of := goodIn_r _ [5, 6, 7, 8, 9, 10, 11, 12, 13, 14, 15, 16, 17, 18, 19, 20, 21, 22, 23] rfl (by decide +kernel)
set_option maxRecDepth 20000 in
theorem gX8_ahead_X8_of : GoodIn wsX8_ahead (wsV RX8 40 RX8 yX8_of wsX8_of) := goodIn_app (goodIn_r _ [1, 2, 3, 4] rfl (by decide +kernel)) ggX8_ahead_X8_of
set_option maxRecDepth 20000 in
theorem ggX8_gap_X8_flies : GoodIn wsX8_gap wsX8_flies := goodIn_r _ [6, 7, 8, 9, 5, 10, 1, 15, 16, 17, 18, 19, 20, 21, 22, 23, 24, 25, 26, 27, 28, 29, 30, 31] rfl (by decide +kernel)
set_option maxRecDepth 20000 in
theorem gX8_gap_X8_flies : GoodIn wsX8_gap (wsV RX8 62 RX8 yX8_flies wsX8_flies) := goodIn_app (goodIn_r _ [2, 3, 4, 5] rfl (by decide +kernel)) ggX8_gap_X8_flies
set_option maxRecDepth 20000 in
theorem ggX8_gap_X8_of : GoodIn wsX8_gap wsX8_of := goodIn_r _ [10, 1, 15, 16, 17, 18, 19, 20, 21, 22, 23, 24, 25, 26, 27, 28, 29, 30, 31] rfl (by decide +kernel)
set_option maxRecDepth 20000 in
theorem gX8_gap_X8_of : GoodIn wsX8_gap (wsV RX8 40 RX8 yX8_of wsX8_of) := goodIn_app (goodIn_r _ [7, 8, 9, 5] rfl (by decide +kernel)) ggX8_gap_X8_of
set_option maxRecDepth 20000 in
theorem ggX8_gap_X8_ahead : GoodIn wsX8_gap wsX8_ahead := goodIn_r _ [14, 7, 8, 9, 5, 10, 1, 15, 16, 17, 18, 19, 20, 21, 22, 23, 24, 25, 26, 27, 28, 29, 30, 31] rfl (by decide +kernel)
set_option maxRecDepth 20000 in
theorem gX8_gap_X8_ahead : GoodIn wsX8_gap (wsV RX8 65 RX8 yX8_ahead wsX8_ahead) := goodIn_app (goodIn_r _ [11, 12, 13, 5] rfl (by decide +kernel)) ggX8_gap_X8_ahead
set_option maxRecDepth 20000 in
theorem ggX8_isDrafted_X8_of : GoodIn wsX8_isDrafted wsX8_of := goodIn_r _ [5, 6, 22, 23, 24, 25, 26, 27, 28, 29, 30, 31, 32, 33, 34, 35, 36, 37, 38] rfl (by decide +kernel)
set_option maxRecDepth 20000 in
theorem gX8_isDrafted_X8_of : GoodIn wsX8_isDrafted (wsV RX8 40 RX8 yX8_of wsX8_of) := goodIn_app (goodIn_r _ [1, 2, 3, 4] rfl (by decide +kernel)) ggX8_isDrafted_X8_of
set_option maxRecDepth 20000 in
theorem ggX8_isDrafted_X8_gap : GoodIn wsX8_isDrafted wsX8_gap := goodIn_r _ [10, 6, 11, 12, 13, 4, 14, 1, 2, 3, 5, 15, 16, 17, 18, 22, 23, 24, 25, 26, 27, 28, 29, 30, 31, 32, 33, 34, 35, 36, 37, 38] rfl (by decide +kernel)
set_option maxRecDepth 20000 in
theorem gX8_isDrafted_X8_gap : GoodIn wsX8_isDrafted (wsV RX8 68 RX8 yX8_gap wsX8_gap) := goodIn_app (goodIn_r _ [7, 8, 9, 4] rfl (by decide +kernel)) ggX8_isDrafted_X8_gap
set_option maxRecDepth 20000 in
theorem ggX8_isDrafted_X8_in : GoodIn wsX8_isDrafted wsX8_in := goodIn_r _ [21] rfl (by decide +kernel)
set_option maxRecDepth 20000 in
theorem gX8_isDrafted_X8_in : GoodIn wsX8_isDrafted (va_wsS RX8 36 yX8_in wsX8_in) := goodIn_app (goodIn_r _ [19, 20, 4] rfl (by decide +kernel)) ggX8_isDrafted_X8_in
set_option maxRecDepth 20000 in
theorem ggX8_isPartnerNext_X8_of : GoodIn wsX8_isPartnerNext wsX8_of := goodIn_r _ [6, 1, 19, 20, 21, 22, 23, 24, 25, 26, 27, 28, 29, 30, 31, 32, 33, 34, 35] rfl (by decide +kernel)
set_option maxRecDepth 20000 in
theorem gX8_isPartnerNext_X8_of : GoodIn wsX8_isPartnerNext (wsV RX8 40 RX8 yX8_of wsX8_of) := goodIn_app (goodIn_r _ [2, 3, 4, 5] rfl (by decide +kernel)) ggX8_isPartnerNext_X8_of
set_option maxRecDepth 20000 in
theorem ggX8_isPartnerNext_X8_gap : GoodIn wsX8_isPartnerNext wsX8_gap := goodIn_r _ [10, 1, 11, 12, 13, 5, 14, 2, 3, 4, 6, 15, 16, 17, 18, 19, 20, 21, 22, 23, 24, 25, 26, 27, 28, 29, 30, 31, 32, 33, 34, 35] rfl (by decide +kernel)
set_option maxRecDepth 20000 in
theorem gX8_isPartnerNext_X8_gap : GoodIn wsX8_isPartnerNext (wsV RX8 68 RX8 yX8_gap wsX8_gap) := goodIn_app (goodIn_r _ [7, 8, 9, 5] rfl (by decide +kernel)) ggX8_isPartnerNext_X8_gap
set_option maxRecDepth 20000 in
theorem ggX8_isPartnerNext_X8_flies : GoodIn wsX8_isPartnerNext wsX8_flies := goodIn_r _ [14, 2, 3, 4, 5, 6, 1, 19, 20, 21, 22, 23, 24, 25, 26, 27, 28, 29, 30, 31, 32, 33, 34, 35] rfl (by decide +kernel)
set_option maxRecDepth 20000 in
theorem gX8_isPartnerNext_X8_flies : GoodIn wsX8_isPartnerNext (wsV RX8 62 RX8 yX8_flies wsX8_flies) := goodIn_app (goodIn_r _ [11, 12, 13, 5] rfl (by decide +kernel)) ggX8_isPartnerNext_X8_flies
set_option maxRecDepth 20000 in
theorem ggX8_isPartnerNext_X8_ahead : GoodIn wsX8_isPartnerNext wsX8_ahead := goodIn_r _ [18, 2, 3, 4, 5, 6, 1, 19, 20, 21, 22, 23, 24, 25, 26, 27, 28, 29, 30, 31, 32, 33, 34, 35] rfl (by decide +kernel)
set_option maxRecDepth 20000 in
theorem gX8_isPartnerNext_X8_ahead : GoodIn wsX8_isPartnerNext (wsV RX8 65 RX8 yX8_ahead wsX8_ahead) := goodIn_app (goodIn_r _ [15, 16, 17, 5] rfl (by decide +kernel)) ggX8_isPartnerNext_X8_ahead
set_option maxRecDepth 20000 in
theorem ggX8_where_X8_of : GoodIn wsX8_where wsX8_of := goodIn_r _ [5, 6, 7, 8, 9, 10, 11, 12, 13, 14, 15, 16, 17, 18, 19, 20, 21, 22, 23] rfl (by decide +kernel)
set_option maxRecDepth 20000 in
theorem gX8_where_X8_of : GoodIn wsX8_where (wsV RX8 40 RX8 yX8_of wsX8_of) := goodIn_app (goodIn_r _ [1, 2, 3, 4] rfl (by decide +kernel)) ggX8_where_X8_of
set_option maxRecDepth 20000 in
theorem ggX8_allowed_X8_where : GoodIn wsX8_allowed wsX8_where := goodIn_r _ [6, 7, 8, 9, 5, 10, 1, 11, 12, 13, 14, 15, 16, 17, 18, 19, 20, 21, 22, 23, 24, 25, 26, 27] rfl (by decide +kernel)
set_option maxRecDepth 20000 in
theorem gX8_allowed_X8_where : GoodIn wsX8_allowed (wsV RX8 71 RX8 yX8_where wsX8_where) := goodIn_app (goodIn_r _ [2, 3, 4, 5] rfl (by decide +kernel)) ggX8_allowed_X8_where
set_option maxRecDepth 20000 in
theorem ggX8_allowed_X8_of : GoodIn wsX8_allowed wsX8_of := goodIn_r _ [10, 1, 11, 12, 13, 14, 15, 16, 17, 18, 19, 20, 21, 22, 23, 24, 25, 26, 27] rfl (by decide +kernel)
set_option maxRecDepth 20000 in
theorem gX8_allowed_X8_of : GoodIn wsX8_allowed (wsV RX8 40 RX8 yX8_of wsX8_of) := goodIn_app (goodIn_r _ [7, 8, 9, 5] rfl (by decide +kernel)) ggX8_allowed_X8_of
set_option maxRecDepth 20000 in
theorem ggX8_isFree_X8_ahead : GoodIn wsX8_isFree wsX8_ahead := goodIn_r _ [6, 7, 8, 9, 5, 10, 1, 15, 16, 17, 18, 19, 20, 21, 22, 23, 24, 25, 26, 27, 28, 29, 30, 31] rfl (by decide +kernel)
set_option maxRecDepth 20000 in
theorem gX8_isFree_X8_ahead : GoodIn wsX8_isFree (wsV RX8 65 RX8 yX8_ahead wsX8_ahead) := goodIn_app (goodIn_r _ [2, 3, 4, 5] rfl (by decide +kernel)) ggX8_isFree_X8_ahead
set_option maxRecDepth 20000 in
theorem ggX8_isFree_X8_flies : GoodIn wsX8_isFree wsX8_flies := goodIn_r _ [14, 7, 8, 9, 5, 10, 1, 15, 16, 17, 18, 19, 20, 21, 22, 23, 24, 25, 26, 27, 28, 29, 30, 31] rfl (by decide +kernel)
set_option maxRecDepth 20000 in
theorem gX8_isFree_X8_flies : GoodIn wsX8_isFree (wsV RX8 62 RX8 yX8_flies wsX8_flies) := goodIn_app (goodIn_r _ [11, 12, 13, 5] rfl (by decide +kernel)) ggX8_isFree_X8_flies
set_option maxRecDepth 20000 in
theorem ggX8_isFree_X8_of : GoodIn wsX8_isFree wsX8_of := goodIn_r _ [10, 1, 15, 16, 17, 18, 19, 20, 21, 22, 23, 24, 25, 26, 27, 28, 29, 30, 31] rfl (by decide +kernel)
set_option maxRecDepth 20000 in
theorem gX8_isFree_X8_of : GoodIn wsX8_isFree (wsV RX8 40 RX8 yX8_of wsX8_of) := goodIn_app (goodIn_r _ [7, 8, 9, 5] rfl (by decide +kernel)) ggX8_isFree_X8_of
set_option maxRecDepth 20000 in
theorem ggX8_fly_X8_gap : GoodIn wsX8_fly wsX8_gap := goodIn_r _ [6, 1, 7, 8, 9, 5, 10, 11, 12, 13, 14, 15, 16, 17, 18, 46, 47, 48, 49, 50, 51, 52, 53, 54, 55, 56, 57, 58, 59, 60, 61, 62] rfl (by decide +kernel)
set_option maxRecDepth 20000 in
theorem gX8_fly_X8_gap : GoodIn wsX8_fly (wsV RX8 68 RX8 yX8_gap wsX8_gap) := goodIn_app (goodIn_r _ [2, 3, 4, 5] rfl (by decide +kernel)) ggX8_fly_X8_gap
set_option maxRecDepth 20000 in
theorem ggX8_fly_X8_isDrafted : GoodIn wsX8_fly wsX8_isDrafted := goodIn_r _ [22, 11, 12, 13, 5, 14, 1, 2, 3, 4, 6, 7, 8, 9, 10, 15, 16, 17, 18, 23, 24, 25, 46, 47, 48, 49, 50, 51, 52, 53, 54, 55, 56, 57, 58, 59, 60, 61, 62] rfl (by decide +kernel)
set_option maxRecDepth 20000 in
theorem gX8_fly_X8_isDrafted : GoodIn wsX8_fly (wsV RX8 74 RX8 yX8_isDrafted wsX8_isDrafted) := goodIn_app (goodIn_r _ [19, 20, 21, 5] rfl (by decide +kernel)) ggX8_fly_X8_isDrafted
set_option maxRecDepth 20000 in
theorem ggX8_fly_X8_allowed : GoodIn wsX8_fly wsX8_allowed := goodIn_r _ [29, 1, 30, 31, 32, 5, 33, 11, 12, 13, 14, 46, 47, 48, 49, 50, 51, 52, 53, 54, 55, 56, 57, 58, 59, 60, 61, 62] rfl (by decide +kernel)
set_option maxRecDepth 20000 in
theorem gX8_fly_X8_allowed : GoodIn wsX8_fly (wsV RX8 77 RX8 yX8_allowed wsX8_allowed) := goodIn_app (goodIn_r _ [26, 27, 28, 5] rfl (by decide +kernel)) ggX8_fly_X8_allowed
set_option maxRecDepth 20000 in
theorem ggX8_fly_X8_isPartnerNext : GoodIn wsX8_fly wsX8_isPartnerNext := goodIn_r _ [37, 1, 11, 12, 13, 5, 14, 2, 3, 4, 6, 7, 8, 9, 10, 15, 16, 17, 18, 46, 47, 48, 49, 50, 51, 52, 53, 54, 55, 56, 57, 58, 59, 60, 61, 62] rfl (by decide +kernel)
set_option maxRecDepth 20000 in
theorem gX8_fly_X8_isPartnerNext : GoodIn wsX8_fly (wsV RX8 80 RX8 yX8_isPartnerNext wsX8_isPartnerNext) := goodIn_app (goodIn_r _ [34, 35, 36, 5] rfl (by decide +kernel)) ggX8_fly_X8_isPartnerNext
set_option maxRecDepth 20000 in
theorem ggX8_fly_X8_where : GoodIn wsX8_fly wsX8_where := goodIn_r _ [33, 11, 12, 13, 5, 14, 1, 46, 47, 48, 49, 50, 51, 52, 53, 54, 55, 56, 57, 58, 59, 60, 61, 62] rfl (by decide +kernel)
set_option maxRecDepth 20000 in
theorem gX8_fly_X8_where : GoodIn wsX8_fly (wsV RX8 71 RX8 yX8_where wsX8_where) := goodIn_app (goodIn_r _ [30, 31, 32, 5] rfl (by decide +kernel)) ggX8_fly_X8_where
set_option maxRecDepth 20000 in
theorem ggX8_fly_X8_isFree : GoodIn wsX8_fly wsX8_isFree := goodIn_r _ [41, 1, 15, 16, 17, 5, 18, 11, 12, 13, 14, 7, 8, 9, 10, 46, 47, 48, 49, 50, 51, 52, 53, 54, 55, 56, 57, 58, 59, 60, 61, 62] rfl (by decide +kernel)
set_option maxRecDepth 20000 in
theorem gX8_fly_X8_isFree : GoodIn wsX8_fly (wsV RX8 83 RX8 yX8_isFree wsX8_isFree) := goodIn_app (goodIn_r _ [38, 39, 40, 5] rfl (by decide +kernel)) ggX8_fly_X8_isFree
set_option maxRecDepth 20000 in
theorem ggX8_fly_X8_atMost : GoodIn wsX8_fly wsX8_atMost := goodIn_r _ [45] rfl (by decide +kernel)
set_option maxRecDepth 20000 in
theorem gX8_fly_X8_atMost : GoodIn wsX8_fly (wsV RX8 86 RX8 yX8_atMost wsX8_atMost) := goodIn_app (goodIn_r _ [42, 43, 44, 5] rfl (by decide +kernel)) ggX8_fly_X8_atMost
set_option maxRecDepth 20000 in
theorem ggX8_second_X8_place : GoodIn wsX8_second wsX8_place := goodIn_r _ [7, 1, 8, 9, 10, 6, 11, 12, 13, 14, 15, 16, 17, 18, 19, 20, 21, 22, 23, 67, 68, 69, 70, 71, 72, 73, 74, 75, 76, 77, 78, 79, 80, 81, 82, 83] rfl (by decide +kernel)
set_option maxRecDepth 20000 in
theorem gX8_second_X8_place : GoodIn wsX8_second (wsV RX8 59 RX8 yX8_place wsX8_place) := goodIn_app (goodIn_r _ [3, 4, 5, 6] rfl (by decide +kernel)) ggX8_second_X8_place
set_option maxRecDepth 20000 in
theorem ggX8_second_X8_of : GoodIn wsX8_second wsX8_of := goodIn_r _ [19, 1, 67, 68, 69, 70, 71, 72, 73, 74, 75, 76, 77, 78, 79, 80, 81, 82, 83] rfl (by decide +kernel)
set_option maxRecDepth 20000 in
theorem gX8_second_X8_of : GoodIn wsX8_second (wsV RX8 40 RX8 yX8_of wsX8_of) := goodIn_app (goodIn_r _ [16, 17, 18, 6] rfl (by decide +kernel)) ggX8_second_X8_of
set_option maxRecDepth 20000 in
theorem ggX8_second_X8_flies : GoodIn wsX8_second wsX8_flies := goodIn_r _ [27, 16, 17, 18, 6, 19, 1, 67, 68, 69, 70, 71, 72, 73, 74, 75, 76, 77, 78, 79, 80, 81, 82, 83] rfl (by decide +kernel)
set_option maxRecDepth 20000 in
theorem gX8_second_X8_flies : GoodIn wsX8_second (wsV RX8 62 RX8 yX8_flies wsX8_flies) := goodIn_app (goodIn_r _ [24, 25, 26, 6] rfl (by decide +kernel)) ggX8_second_X8_flies
set_option maxRecDepth 20000 in
theorem ggX8_second_X8_fly : GoodIn wsX8_second wsX8_fly := goodIn_r _ [31, 1, 32, 33, 34, 6, 35, 24, 25, 26, 27, 16, 17, 18, 19, 36, 37, 38, 39, 40, 41, 42, 43, 44, 45, 46, 47, 48, 49, 50, 51, 52, 53, 54, 55, 56, 57, 58, 59, 60, 61, 62, 63, 64, 65, 66, 67, 68, 69, 70, 71, 72, 73, 74, 75, 76, 77, 78, 79, 80, 81, 82, 83] rfl (by decide +kernel)
set_option maxRecDepth 20000 in
theorem gX8_second_X8_fly : GoodIn wsX8_second (wsV RX8 89 RX8 yX8_fly wsX8_fly) := goodIn_app (goodIn_r _ [28, 29, 30, 6] rfl (by decide +kernel)) ggX8_second_X8_fly
set_option maxRecDepth 20000 in
theorem ggX8_passes_X8_second : GoodIn wsX8_passes wsX8_second := goodIn_r _ [6, 1, 7, 8, 9, 10, 5, 11, 12, 13, 14, 15, 16, 17, 18, 19, 20, 21, 22, 23, 24, 25, 26, 27, 28, 29, 30, 31, 32, 33, 34, 35, 36, 37, 38, 39, 40, 41, 42, 43, 44, 45, 46, 47, 48, 49, 50, 51, 52, 53, 54, 55, 56, 57, 58, 59, 60, 61, 62, 63, 64, 65, 66, 67, 68, 69, 70, 71, 72, 73, 74, 75, 76, 77, 78, 79, 80, 81, 82, 83, 84, 85, 86, 87] rfl (by decide +kernel)
set_option maxRecDepth 20000 in
theorem gX8_passes_X8_second : GoodIn wsX8_passes (wsV RX8 92 RX8 yX8_second wsX8_second) := goodIn_app (goodIn_r _ [2, 3, 4, 5] rfl (by decide +kernel)) ggX8_passes_X8_second
set_option maxRecDepth 20000 in
theorem ggX8_enter_X8_in : GoodIn wsX8_enter wsX8_in := goodIn_r _ [5] rfl (by decide +kernel)
set_option maxRecDepth 20000 in
theorem gX8_enter_X8_in : GoodIn wsX8_enter (va_wsS RX8 36 yX8_in wsX8_in) := goodIn_app (goodIn_r _ [2, 3, 4] rfl (by decide +kernel)) ggX8_enter_X8_in
set_option maxRecDepth 20000 in
theorem ggX8_enter_X8_refused : GoodIn wsX8_enter wsX8_refused := goodIn_r _ [9, 10, 17, 18, 19, 20, 21, 22, 23, 24, 25, 26, 27, 28, 29, 30, 31, 32, 33] rfl (by decide +kernel)
set_option maxRecDepth 20000 in
theorem gX8_enter_X8_refused : GoodIn wsX8_enter (wsV RX8 96 RX8 yX8_refused wsX8_refused) := goodIn_app (goodIn_r _ [6, 7, 8, 4] rfl (by decide +kernel)) ggX8_enter_X8_refused
set_option maxRecDepth 20000 in
theorem ggX8_enter_X8_records : GoodIn wsX8_enter wsX8_records := goodIn_r _ [14, 15, 16, 1, 17, 18, 19, 20, 21, 22, 23, 24, 25, 26, 27, 28, 29, 30, 31, 32, 33] rfl (by decide +kernel)
set_option maxRecDepth 20000 in
theorem gX8_enter_X8_records : GoodIn wsX8_enter (wsV RX8 99 RX8 yX8_records wsX8_records) := goodIn_app (goodIn_r _ [11, 12, 13, 4] rfl (by decide +kernel)) ggX8_enter_X8_records
set_option maxRecDepth 20000 in
theorem ggX8_setsPace_X8_of : GoodIn wsX8_setsPace wsX8_of := goodIn_r _ [6, 1, 7, 8, 9, 10, 11, 12, 13, 14, 15, 16, 17, 18, 19, 20, 21, 22, 23] rfl (by decide +kernel)
set_option maxRecDepth 20000 in
theorem gX8_setsPace_X8_of : GoodIn wsX8_setsPace (wsV RX8 40 RX8 yX8_of wsX8_of) := goodIn_app (goodIn_r _ [2, 3, 4, 5] rfl (by decide +kernel)) ggX8_setsPace_X8_of
set_option maxRecDepth 20000 in
theorem ggX8_setPace_X8_isBird : GoodIn wsX8_setPace wsX8_isBird := goodIn_r _ [5, 6, 7, 8, 4, 9, 29, 30, 31, 32, 33, 34, 35, 36, 37, 38, 39, 40, 41, 42, 43, 44, 45] rfl (by decide +kernel)
set_option maxRecDepth 20000 in
theorem gX8_setPace_X8_isBird : GoodIn wsX8_setPace (wsV RX8 102 RX8 yX8_isBird wsX8_isBird) := goodIn_app (goodIn_r _ [1, 2, 3, 4] rfl (by decide +kernel)) ggX8_setPace_X8_isBird
set_option maxRecDepth 20000 in
theorem ggX8_setPace_X8_in : GoodIn wsX8_setPace wsX8_in := goodIn_r _ [9] rfl (by decide +kernel)
set_option maxRecDepth 20000 in
theorem gX8_setPace_X8_in : GoodIn wsX8_setPace (va_wsS RX8 36 yX8_in wsX8_in) := goodIn_app (goodIn_r _ [7, 8, 4] rfl (by decide +kernel)) ggX8_setPace_X8_in
set_option maxRecDepth 20000 in
theorem ggX8_setPace_X8_refused : GoodIn wsX8_setPace wsX8_refused := goodIn_r _ [13, 14, 29, 30, 31, 32, 33, 34, 35, 36, 37, 38, 39, 40, 41, 42, 43, 44, 45] rfl (by decide +kernel)
set_option maxRecDepth 20000 in
theorem gX8_setPace_X8_refused : GoodIn wsX8_setPace (wsV RX8 96 RX8 yX8_refused wsX8_refused) := goodIn_app (goodIn_r _ [10, 11, 12, 4] rfl (by decide +kernel)) ggX8_setPace_X8_refused
set_option maxRecDepth 20000 in
theorem ggX8_setPace_X8_records : GoodIn wsX8_setPace wsX8_records := goodIn_r _ [18, 19, 20, 6, 29, 30, 31, 32, 33, 34, 35, 36, 37, 38, 39, 40, 41, 42, 43, 44, 45] rfl (by decide +kernel)
set_option maxRecDepth 20000 in
theorem gX8_setPace_X8_records : GoodIn wsX8_setPace (wsV RX8 99 RX8 yX8_records wsX8_records) := goodIn_app (goodIn_r _ [15, 16, 17, 4] rfl (by decide +kernel)) ggX8_setPace_X8_records
set_option maxRecDepth 20000 in
theorem ggX8_setPace_X8_setsPace : GoodIn wsX8_setPace wsX8_setsPace := goodIn_r _ [24, 6, 25, 26, 27, 4, 28, 29, 30, 31, 32, 33, 34, 35, 36, 37, 38, 39, 40, 41, 42, 43, 44, 45] rfl (by decide +kernel)
set_option maxRecDepth 20000 in
theorem gX8_setPace_X8_setsPace : GoodIn wsX8_setPace (wsV RX8 105 RX8 yX8_setsPace wsX8_setsPace) := goodIn_app (goodIn_r _ [21, 22, 23, 4] rfl (by decide +kernel)) ggX8_setPace_X8_setsPace
set_option maxRecDepth 20000 in
theorem ggX8_calls_X8_of : GoodIn wsX8_calls wsX8_of := goodIn_r _ [6, 1, 7, 8, 9, 10, 11, 12, 13, 14, 15, 16, 17, 18, 19, 20, 21, 22, 23] rfl (by decide +kernel)
set_option maxRecDepth 20000 in
theorem gX8_calls_X8_of : GoodIn wsX8_calls (wsV RX8 40 RX8 yX8_of wsX8_of) := goodIn_app (goodIn_r _ [2, 3, 4, 5] rfl (by decide +kernel)) ggX8_calls_X8_of
set_option maxRecDepth 20000 in
theorem ggX8_callIn_X8_isBird : GoodIn wsX8_callIn wsX8_isBird := goodIn_r _ [5, 6, 7, 8, 4, 9, 33, 34, 35, 36, 37, 38, 39, 40, 41, 42, 43, 44, 45, 46, 47, 48, 49] rfl (by decide +kernel)
set_option maxRecDepth 20000 in
theorem gX8_callIn_X8_isBird : GoodIn wsX8_callIn (wsV RX8 102 RX8 yX8_isBird wsX8_isBird) := goodIn_app (goodIn_r _ [1, 2, 3, 4] rfl (by decide +kernel)) ggX8_callIn_X8_isBird
set_option maxRecDepth 20000 in
theorem ggX8_callIn_X8_isOver : GoodIn wsX8_callIn wsX8_isOver := goodIn_r _ [13, 14, 15, 16, 4, 17, 6, 33, 34, 35, 36, 37, 38, 39, 40, 41, 42, 43, 44, 45, 46, 47, 48, 49] rfl (by decide +kernel)
set_option maxRecDepth 20000 in
theorem gX8_callIn_X8_isOver : GoodIn wsX8_callIn (wsV RX8 47 RX8 yX8_isOver wsX8_isOver) := goodIn_app (goodIn_r _ [10, 11, 12, 4] rfl (by decide +kernel)) ggX8_callIn_X8_isOver
set_option maxRecDepth 20000 in
theorem ggX8_callIn_X8_refused : GoodIn wsX8_callIn wsX8_refused := goodIn_r _ [21, 22, 33, 34, 35, 36, 37, 38, 39, 40, 41, 42, 43, 44, 45, 46, 47, 48, 49] rfl (by decide +kernel)
set_option maxRecDepth 20000 in
theorem gX8_callIn_X8_refused : GoodIn wsX8_callIn (wsV RX8 96 RX8 yX8_refused wsX8_refused) := goodIn_app (goodIn_r _ [18, 19, 20, 4] rfl (by decide +kernel)) ggX8_callIn_X8_refused
set_option maxRecDepth 20000 in
theorem ggX8_callIn_X8_records : GoodIn wsX8_callIn wsX8_records := goodIn_r _ [26, 27, 28, 6, 33, 34, 35, 36, 37, 38, 39, 40, 41, 42, 43, 44, 45, 46, 47, 48, 49] rfl (by decide +kernel)
set_option maxRecDepth 20000 in
theorem gX8_callIn_X8_records : GoodIn wsX8_callIn (wsV RX8 99 RX8 yX8_records wsX8_records) := goodIn_app (goodIn_r _ [23, 24, 25, 4] rfl (by decide +kernel)) ggX8_callIn_X8_records
set_option maxRecDepth 20000 in
theorem ggX8_callIn_X8_calls : GoodIn wsX8_callIn wsX8_calls := goodIn_r _ [32, 6, 14, 15, 16, 4, 17, 33, 34, 35, 36, 37, 38, 39, 40, 41, 42, 43, 44, 45, 46, 47, 48, 49] rfl (by decide +kernel)
set_option maxRecDepth 20000 in
theorem gX8_callIn_X8_calls : GoodIn wsX8_callIn (wsV RX8 108 RX8 yX8_calls wsX8_calls) := goodIn_app (goodIn_r _ [29, 30, 31, 4] rfl (by decide +kernel)) ggX8_callIn_X8_calls
set_option maxRecDepth 20000 in
theorem ggX8_leaves_X8_of : GoodIn wsX8_leaves wsX8_of := goodIn_r _ [6, 1, 7, 8, 9, 10, 11, 12, 13, 14, 15, 16, 17, 18, 19, 20, 21, 22, 23] rfl (by decide +kernel)
set_option maxRecDepth 20000 in
theorem gX8_leaves_X8_of : GoodIn wsX8_leaves (wsV RX8 40 RX8 yX8_of wsX8_of) := goodIn_app (goodIn_r _ [2, 3, 4, 5] rfl (by decide +kernel)) ggX8_leaves_X8_of
set_option maxRecDepth 20000 in
theorem ggX8_pair_X8_isBird : GoodIn wsX8_pair wsX8_isBird := goodIn_r _ [6, 1, 7, 8, 5, 9, 29, 30, 31, 32, 33, 34, 35, 36, 37, 38, 39, 40, 41, 42, 43, 44, 45] rfl (by decide +kernel)
set_option maxRecDepth 20000 in
theorem gX8_pair_X8_isBird : GoodIn wsX8_pair (wsV RX8 102 RX8 yX8_isBird wsX8_isBird) := goodIn_app (goodIn_r _ [2, 3, 4, 5] rfl (by decide +kernel)) ggX8_pair_X8_isBird
set_option maxRecDepth 20000 in
theorem ggX8_pair_X8_refused : GoodIn wsX8_pair wsX8_refused := goodIn_r _ [13, 14, 29, 30, 31, 32, 33, 34, 35, 36, 37, 38, 39, 40, 41, 42, 43, 44, 45] rfl (by decide +kernel)
set_option maxRecDepth 20000 in
theorem gX8_pair_X8_refused : GoodIn wsX8_pair (wsV RX8 96 RX8 yX8_refused wsX8_refused) := goodIn_app (goodIn_r _ [10, 11, 12, 5] rfl (by decide +kernel)) ggX8_pair_X8_refused
set_option maxRecDepth 20000 in
theorem ggX8_pair_X8_records : GoodIn wsX8_pair wsX8_records := goodIn_r _ [18, 19, 20, 1, 29, 30, 31, 32, 33, 34, 35, 36, 37, 38, 39, 40, 41, 42, 43, 44, 45] rfl (by decide +kernel)
set_option maxRecDepth 20000 in
theorem gX8_pair_X8_records : GoodIn wsX8_pair (wsV RX8 99 RX8 yX8_records wsX8_records) := goodIn_app (goodIn_r _ [15, 16, 17, 5] rfl (by decide +kernel)) ggX8_pair_X8_records
set_option maxRecDepth 20000 in
theorem ggX8_pair_X8_leaves : GoodIn wsX8_pair wsX8_leaves := goodIn_r _ [24, 1, 25, 26, 27, 5, 28, 29, 30, 31, 32, 33, 34, 35, 36, 37, 38, 39, 40, 41, 42, 43, 44, 45] rfl (by decide +kernel)
set_option maxRecDepth 20000 in
theorem gX8_pair_X8_leaves : GoodIn wsX8_pair (wsV RX8 111 RX8 yX8_leaves wsX8_leaves) := goodIn_app (goodIn_r _ [21, 22, 23, 5] rfl (by decide +kernel)) ggX8_pair_X8_leaves
set_option maxRecDepth 20000 in
theorem ggX8_pair_X8_of : GoodIn wsX8_pair wsX8_of := goodIn_r _ [28, 1, 29, 30, 31, 32, 33, 34, 35, 36, 37, 38, 39, 40, 41, 42, 43, 44, 45] rfl (by decide +kernel)
set_option maxRecDepth 20000 in
theorem gX8_pair_X8_of : GoodIn wsX8_pair (wsV RX8 40 RX8 yX8_of wsX8_of) := goodIn_app (goodIn_r _ [25, 26, 27, 5] rfl (by decide +kernel)) ggX8_pair_X8_of
set_option maxRecDepth 20000 in
theorem ggX8_setLimit_X8_in : GoodIn wsX8_setLimit wsX8_in := goodIn_r _ [4] rfl (by decide +kernel)
set_option maxRecDepth 20000 in
theorem gX8_setLimit_X8_in : GoodIn wsX8_setLimit (va_wsS RX8 36 yX8_in wsX8_in) := goodIn_app (goodIn_r _ [1, 2, 3] rfl (by decide +kernel)) ggX8_setLimit_X8_in
set_option maxRecDepth 20000 in
theorem ggX8_setLimit_X8_refused : GoodIn wsX8_setLimit wsX8_refused := goodIn_r _ [8, 9, 21, 22, 23, 24, 25, 26, 27, 28, 29, 30, 31, 32, 33, 34, 35, 36, 37] rfl (by decide +kernel)
set_option maxRecDepth 20000 in
theorem gX8_setLimit_X8_refused : GoodIn wsX8_setLimit (wsV RX8 96 RX8 yX8_refused wsX8_refused) := goodIn_app (goodIn_r _ [5, 6, 7, 3] rfl (by decide +kernel)) ggX8_setLimit_X8_refused
set_option maxRecDepth 20000 in
theorem ggX8_setLimit_X8_records : GoodIn wsX8_setLimit wsX8_records := goodIn_r _ [13, 14, 15, 16, 21, 22, 23, 24, 25, 26, 27, 28, 29, 30, 31, 32, 33, 34, 35, 36, 37] rfl (by decide +kernel)
set_option maxRecDepth 20000 in
theorem gX8_setLimit_X8_records : GoodIn wsX8_setLimit (wsV RX8 99 RX8 yX8_records wsX8_records) := goodIn_app (goodIn_r _ [10, 11, 12, 3] rfl (by decide +kernel)) ggX8_setLimit_X8_records
set_option maxRecDepth 20000 in
theorem ggX8_setLimit_X8_sets : GoodIn wsX8_setLimit wsX8_sets := goodIn_r _ [20, 16, 21, 22, 23, 24, 25, 26, 27, 28, 29, 30, 31, 32, 33, 34, 35, 36, 37] rfl (by decide +kernel)
set_option maxRecDepth 20000 in
theorem gX8_setLimit_X8_sets : GoodIn wsX8_setLimit (wsV RX8 115 RX8 yX8_sets wsX8_sets) := goodIn_app (goodIn_r _ [17, 18, 19, 3] rfl (by decide +kernel)) ggX8_setLimit_X8_sets
set_option maxRecDepth 20000 in
theorem ggX8_setLaps_X8_in : GoodIn wsX8_setLaps wsX8_in := goodIn_r _ [5] rfl (by decide +kernel)
set_option maxRecDepth 20000 in
theorem gX8_setLaps_X8_in : GoodIn wsX8_setLaps (va_wsS RX8 36 yX8_in wsX8_in) := goodIn_app (goodIn_r _ [2, 3, 4] rfl (by decide +kernel)) ggX8_setLaps_X8_in
set_option maxRecDepth 20000 in
theorem ggX8_setLaps_X8_refused : GoodIn wsX8_setLaps wsX8_refused := goodIn_r _ [9, 10, 21, 22, 23, 24, 25, 26, 27, 28, 29, 30, 31, 32, 33, 34, 35, 36, 37] rfl (by decide +kernel)
set_option maxRecDepth 20000 in
theorem gX8_setLaps_X8_refused : GoodIn wsX8_setLaps (wsV RX8 96 RX8 yX8_refused wsX8_refused) := goodIn_app (goodIn_r _ [6, 7, 8, 4] rfl (by decide +kernel)) ggX8_setLaps_X8_refused
set_option maxRecDepth 20000 in
theorem ggX8_setLaps_X8_records : GoodIn wsX8_setLaps wsX8_records := goodIn_r _ [14, 15, 16, 1, 21, 22, 23, 24, 25, 26, 27, 28, 29, 30, 31, 32, 33, 34, 35, 36, 37] rfl (by decide +kernel)
set_option maxRecDepth 20000 in
theorem gX8_setLaps_X8_records : GoodIn wsX8_setLaps (wsV RX8 99 RX8 yX8_records wsX8_records) := goodIn_app (goodIn_r _ [11, 12, 13, 4] rfl (by decide +kernel)) ggX8_setLaps_X8_records
set_option maxRecDepth 20000 in
theorem ggX8_setLaps_X8_sets : GoodIn wsX8_setLaps wsX8_sets := goodIn_r _ [20, 1, 21, 22, 23, 24, 25, 26, 27, 28, 29, 30, 31, 32, 33, 34, 35, 36, 37] rfl (by decide +kernel)
set_option maxRecDepth 20000 in
theorem gX8_setLaps_X8_sets : GoodIn wsX8_setLaps (wsV RX8 115 RX8 yX8_sets wsX8_sets) := goodIn_app (goodIn_r _ [17, 18, 19, 4] rfl (by decide +kernel)) ggX8_setLaps_X8_sets
set_option maxRecDepth 20000 in
theorem ggX8_begin_X8_refused : GoodIn wsX8_begin wsX8_refused := goodIn_r _ [6, 7, 14, 15, 16, 17, 18, 19, 20, 21, 22, 23, 24, 25, 26, 27, 28, 29, 30] rfl (by decide +kernel)
set_option maxRecDepth 20000 in
theorem gX8_begin_X8_refused : GoodIn wsX8_begin (wsV RX8 96 RX8 yX8_refused wsX8_refused) := goodIn_app (goodIn_r _ [2, 3, 4, 5] rfl (by decide +kernel)) ggX8_begin_X8_refused
set_option maxRecDepth 20000 in
theorem ggX8_begin_X8_records : GoodIn wsX8_begin wsX8_records := goodIn_r _ [11, 12, 13, 1, 14, 15, 16, 17, 18, 19, 20, 21, 22, 23, 24, 25, 26, 27, 28, 29, 30] rfl (by decide +kernel)
set_option maxRecDepth 20000 in
theorem gX8_begin_X8_records : GoodIn wsX8_begin (wsV RX8 99 RX8 yX8_records wsX8_records) := goodIn_app (goodIn_r _ [8, 9, 10, 5] rfl (by decide +kernel)) ggX8_begin_X8_records
set_option maxRecDepth 20000 in
theorem ggX8_pass_X8_in : GoodIn wsX8_pass wsX8_in := goodIn_r _ [5] rfl (by decide +kernel)
set_option maxRecDepth 20000 in
theorem gX8_pass_X8_in : GoodIn wsX8_pass (va_wsS RX8 36 yX8_in wsX8_in) := goodIn_app (goodIn_r _ [2, 3, 4] rfl (by decide +kernel)) ggX8_pass_X8_in
set_option maxRecDepth 20000 in
theorem ggX8_pass_X8_refused : GoodIn wsX8_pass wsX8_refused := goodIn_r _ [9, 10, 86, 87, 88, 89, 90, 91, 92, 93, 94, 95, 96, 97, 98, 99, 100, 101, 102] rfl (by decide +kernel)
set_option maxRecDepth 20000 in
theorem gX8_pass_X8_refused : GoodIn wsX8_pass (wsV RX8 96 RX8 yX8_refused wsX8_refused) := goodIn_app (goodIn_r _ [6, 7, 8, 4] rfl (by decide +kernel)) ggX8_pass_X8_refused
set_option maxRecDepth 20000 in
theorem ggX8_pass_X8_records : GoodIn wsX8_pass wsX8_records := goodIn_r _ [14, 15, 16, 1, 86, 87, 88, 89, 90, 91, 92, 93, 94, 95, 96, 97, 98, 99, 100, 101, 102] rfl (by decide +kernel)
set_option maxRecDepth 20000 in
theorem gX8_pass_X8_records : GoodIn wsX8_pass (wsV RX8 99 RX8 yX8_records wsX8_records) := goodIn_app (goodIn_r _ [11, 12, 13, 4] rfl (by decide +kernel)) ggX8_pass_X8_records
set_option maxRecDepth 20000 in
theorem ggX8_pass_X8_passes : GoodIn wsX8_pass wsX8_passes := goodIn_r _ [20, 1, 21, 22, 23, 4, 24, 25, 26, 27, 28, 29, 30, 31, 32, 33, 34, 35, 36, 37, 38, 39, 40, 41, 42, 43, 44, 45, 46, 47, 48, 49, 50, 51, 52, 53, 54, 55, 56, 57, 58, 59, 60, 61, 62, 63, 64, 65, 2, 3, 5, 66, 67, 68, 69, 70, 71, 72, 73, 74, 75, 76, 77, 78, 79, 80, 81, 82, 83, 84, 85, 86, 87, 88, 89, 90, 91, 92, 93, 94, 95, 96, 97, 98, 99, 100, 101, 102] rfl (by decide +kernel)
set_option maxRecDepth 20000 in
theorem gX8_pass_X8_passes : GoodIn wsX8_pass (wsV RX8 118 RX8 yX8_passes wsX8_passes) := goodIn_app (goodIn_r _ [17, 18, 19, 4] rfl (by decide +kernel)) ggX8_pass_X8_passes
set_option maxRecDepth 20000 in
theorem ggX8_append_X8_in : GoodIn wsX8_append wsX8_in := goodIn_r _ [6] rfl (by decide +kernel)
set_option maxRecDepth 20000 in
theorem gX8_append_X8_in : GoodIn wsX8_append (va_wsS RX8 36 yX8_in wsX8_in) := goodIn_app (goodIn_r _ [3, 4, 5] rfl (by decide +kernel)) ggX8_append_X8_in
set_option maxRecDepth 20000 in
theorem ggX8_append_X8_refused : GoodIn wsX8_append wsX8_refused := goodIn_r _ [10, 11, 12, 13, 14, 15, 16, 17, 18, 19, 20, 21, 22, 23, 24, 25, 26, 27, 28] rfl (by decide +kernel)
set_option maxRecDepth 20000 in
theorem gX8_append_X8_refused : GoodIn wsX8_append (wsV RX8 96 RX8 yX8_refused wsX8_refused) := goodIn_app (goodIn_r _ [7, 8, 9, 5] rfl (by decide +kernel)) ggX8_append_X8_refused
set_option maxRecDepth 20000 in
theorem ggX8_digit_X8_next : GoodIn wsX8_digit wsX8_next := goodIn_r _ [5, 6, 7, 8, 17, 18, 19, 20, 21, 22, 23, 24, 25, 26, 27, 28, 29, 30, 31, 32, 33] rfl (by decide +kernel)
set_option maxRecDepth 20000 in
theorem gX8_digit_X8_next : GoodIn wsX8_digit (wsV RX8 131 RX8 yX8_next wsX8_next) := goodIn_app (goodIn_r _ [1, 2, 3, 4] rfl (by decide +kernel)) ggX8_digit_X8_next
set_option maxRecDepth 20000 in
theorem ggX8_digit_X8_in : GoodIn wsX8_digit wsX8_in := goodIn_r _ [11] rfl (by decide +kernel)
set_option maxRecDepth 20000 in
theorem gX8_digit_X8_in : GoodIn wsX8_digit (va_wsS RX8 36 yX8_in wsX8_in) := goodIn_app (goodIn_r _ [9, 10, 4] rfl (by decide +kernel)) ggX8_digit_X8_in
set_option maxRecDepth 20000 in
theorem ggX8_digit_X8_sign : GoodIn wsX8_digit wsX8_sign := goodIn_r _ [15, 16, 6, 17, 18, 19, 20, 21, 22, 23, 24, 25, 26, 27, 28, 29, 30, 31, 32, 33] rfl (by decide +kernel)
set_option maxRecDepth 20000 in
theorem gX8_digit_X8_sign : GoodIn wsX8_digit (wsV RX8 134 RX8 yX8_sign wsX8_sign) := goodIn_app (goodIn_r _ [12, 13, 14, 4] rfl (by decide +kernel)) ggX8_digit_X8_sign
set_option maxRecDepth 20000 in
theorem ggX8_number_X8_digit : GoodIn wsX8_number wsX8_digit := goodIn_r _ [7, 8, 9, 10, 6, 11, 2, 12, 13, 14, 15, 16, 17, 18, 19, 20, 1, 21, 22, 23, 24, 25, 26, 27, 28, 29, 30, 31, 32, 33, 34, 35, 36, 37] rfl (by decide +kernel)
set_option maxRecDepth 20000 in
theorem gX8_number_X8_digit : GoodIn wsX8_number (wsV RX8 138 RX8 yX8_digit wsX8_digit) := goodIn_app (goodIn_r _ [3, 4, 5, 6] rfl (by decide +kernel)) ggX8_number_X8_digit
set_option maxRecDepth 20000 in
theorem ggX8_number_X8_next : GoodIn wsX8_number wsX8_next := goodIn_r _ [11, 2, 12, 13, 21, 22, 23, 24, 25, 26, 27, 28, 29, 30, 31, 32, 33, 34, 35, 36, 37] rfl (by decide +kernel)
set_option maxRecDepth 20000 in
theorem gX8_number_X8_next : GoodIn wsX8_number (wsV RX8 131 RX8 yX8_next wsX8_next) := goodIn_app (goodIn_r _ [8, 9, 10, 6] rfl (by decide +kernel)) ggX8_number_X8_next
set_option maxRecDepth 20000 in
theorem ggX8_number_X8_in : GoodIn wsX8_number wsX8_in := goodIn_r _ [16] rfl (by decide +kernel)
set_option maxRecDepth 20000 in
theorem gX8_number_X8_in : GoodIn wsX8_number (va_wsS RX8 36 yX8_in wsX8_in) := goodIn_app (goodIn_r _ [14, 15, 6] rfl (by decide +kernel)) ggX8_number_X8_in
set_option maxRecDepth 20000 in
theorem ggX8_part_X8_next : GoodIn wsX8_part wsX8_next := goodIn_r _ [9, 10, 11, 12, 28, 29, 30, 31, 32, 33, 34, 35, 36, 37, 38, 39, 40, 41, 42, 43, 44] rfl (by decide +kernel)
set_option maxRecDepth 20000 in
theorem gX8_part_X8_next : GoodIn wsX8_part (wsV RX8 131 RX8 yX8_next wsX8_next) := goodIn_app (goodIn_r _ [5, 6, 7, 8] rfl (by decide +kernel)) ggX8_part_X8_next
set_option maxRecDepth 20000 in
theorem ggX8_part_X8_sign : GoodIn wsX8_part wsX8_sign := goodIn_r _ [16, 4, 10, 28, 29, 30, 31, 32, 33, 34, 35, 36, 37, 38, 39, 40, 41, 42, 43, 44] rfl (by decide +kernel)
set_option maxRecDepth 20000 in
theorem gX8_part_X8_sign : GoodIn wsX8_part (wsV RX8 134 RX8 yX8_sign wsX8_sign) := goodIn_app (goodIn_r _ [13, 14, 15, 8] rfl (by decide +kernel)) ggX8_part_X8_sign
set_option maxRecDepth 20000 in
theorem ggX8_part_X8_number : GoodIn wsX8_part wsX8_number := goodIn_r _ [20, 4, 10, 21, 22, 23, 8, 24, 5, 6, 7, 9, 11, 12, 25, 26, 27, 13, 14, 15, 16, 28, 29, 30, 31, 32, 33, 34, 35, 36, 37, 38, 39, 40, 41, 42, 43, 44] rfl (by decide +kernel)
set_option maxRecDepth 20000 in
theorem gX8_part_X8_number : GoodIn wsX8_part (wsV RX8 144 RX8 yX8_number wsX8_number) := goodIn_app (goodIn_r _ [17, 18, 19, 8] rfl (by decide +kernel)) ggX8_part_X8_number
set_option maxRecDepth 20000 in
theorem ggX8_part_X8_digit : GoodIn wsX8_part wsX8_digit := goodIn_r _ [24, 5, 6, 7, 8, 9, 10, 11, 12, 25, 26, 27, 13, 14, 15, 16, 4, 28, 29, 30, 31, 32, 33, 34, 35, 36, 37, 38, 39, 40, 41, 42, 43, 44] rfl (by decide +kernel)
set_option maxRecDepth 20000 in
theorem gX8_part_X8_digit : GoodIn wsX8_part (wsV RX8 138 RX8 yX8_digit wsX8_digit) := goodIn_app (goodIn_r _ [21, 22, 23, 8] rfl (by decide +kernel)) ggX8_part_X8_digit
set_option maxRecDepth 20000 in
theorem ggX8_isText_X8_part : GoodIn wsX8_isText wsX8_part := goodIn_r _ [8, 9, 10, 11, 2, 12, 13, 14, 7, 15, 1, 3, 16, 17, 18, 19, 20, 21, 22, 23, 24, 25, 26, 27, 28, 29, 30, 31, 32, 33, 34, 35, 36, 37, 38, 39, 40, 41, 42, 43, 44, 45, 46, 47, 48] rfl (by decide +kernel)
set_option maxRecDepth 20000 in
theorem gX8_isText_X8_part : GoodIn wsX8_isText (wsV RX8 153 RX8 yX8_part wsX8_part) := goodIn_app (goodIn_r _ [4, 5, 6, 7] rfl (by decide +kernel)) ggX8_isText_X8_part
set_option maxRecDepth 20000 in
theorem ggX8_isText_X8_next : GoodIn wsX8_isText wsX8_next := goodIn_r _ [15, 1, 3, 16, 32, 33, 34, 35, 36, 37, 38, 39, 40, 41, 42, 43, 44, 45, 46, 47, 48] rfl (by decide +kernel)
set_option maxRecDepth 20000 in
theorem gX8_isText_X8_next : GoodIn wsX8_isText (wsV RX8 131 RX8 yX8_next wsX8_next) := goodIn_app (goodIn_r _ [12, 13, 14, 7] rfl (by decide +kernel)) ggX8_isText_X8_next
set_option maxRecDepth 20000 in
theorem ggX8_isText_X8_sign : GoodIn wsX8_isText wsX8_sign := goodIn_r _ [20, 2, 1, 32, 33, 34, 35, 36, 37, 38, 39, 40, 41, 42, 43, 44, 45, 46, 47, 48] rfl (by decide +kernel)
set_option maxRecDepth 20000 in
theorem gX8_isText_X8_sign : GoodIn wsX8_isText (wsV RX8 134 RX8 yX8_sign wsX8_sign) := goodIn_app (goodIn_r _ [17, 18, 19, 7] rfl (by decide +kernel)) ggX8_isText_X8_sign
set_option maxRecDepth 20000 in
theorem ggX8_firstError_X8_isText : GoodIn wsX8_firstError wsX8_isText := goodIn_r _ [8, 3, 9, 2, 10, 11, 12, 7, 13, 14, 15, 16, 17, 18, 19, 20, 21, 22, 23, 24, 25, 26, 27, 28, 29, 30, 31, 32, 33, 34, 35, 36, 37, 38, 39, 40, 41, 42, 43, 44, 45, 46, 47, 48, 49, 50, 51, 52, 53] rfl (by decide +kernel)
set_option maxRecDepth 20000 in
theorem gX8_firstError_X8_isText : GoodIn wsX8_firstError (wsV RX8 156 RX8 yX8_isText wsX8_isText) := goodIn_app (goodIn_r _ [4, 5, 6, 7] rfl (by decide +kernel)) ggX8_firstError_X8_isText
set_option maxRecDepth 20000 in
theorem ggX8_can_X8_isBird : GoodIn wsX8_can wsX8_isBird := goodIn_r _ [8, 2, 9, 10, 7, 11, 20, 21, 22, 23, 24, 25, 26, 27, 28, 29, 30, 31, 32, 33, 34, 35, 36] rfl (by decide +kernel)
set_option maxRecDepth 20000 in
theorem gX8_can_X8_isBird : GoodIn wsX8_can (wsV RX8 102 RX8 yX8_isBird wsX8_isBird) := goodIn_app (goodIn_r _ [4, 5, 6, 7] rfl (by decide +kernel)) ggX8_can_X8_isBird
set_option maxRecDepth 20000 in
theorem ggX8_can_X8_isOver : GoodIn wsX8_can wsX8_isOver := goodIn_r _ [15, 16, 17, 18, 7, 19, 2, 20, 21, 22, 23, 24, 25, 26, 27, 28, 29, 30, 31, 32, 33, 34, 35, 36] rfl (by decide +kernel)
set_option maxRecDepth 20000 in
theorem gX8_can_X8_isOver : GoodIn wsX8_can (wsV RX8 47 RX8 yX8_isOver wsX8_isOver) := goodIn_app (goodIn_r _ [12, 13, 14, 7] rfl (by decide +kernel)) ggX8_can_X8_isOver
set_option maxRecDepth 20000 in
theorem ggX8_followsAll_X8_part : GoodIn wsX8_followsAll wsX8_part := goodIn_r _ [11, 4, 6, 5, 2, 12, 13, 14, 10, 15, 1, 3, 16, 17, 18, 19, 20, 21, 22, 23, 24, 25, 26, 27, 28, 29, 30, 31, 122, 123, 124, 125, 126, 127, 128, 129, 130, 131, 132, 133, 134, 135, 136, 137, 138] rfl (by decide +kernel)
set_option maxRecDepth 20000 in
theorem gX8_followsAll_X8_part : GoodIn wsX8_followsAll (wsV RX8 153 RX8 yX8_part wsX8_part) := goodIn_app (goodIn_r _ [7, 8, 9, 10] rfl (by decide +kernel)) ggX8_followsAll_X8_part
set_option maxRecDepth 20000 in
theorem ggX8_followsAll_X8_can : GoodIn wsX8_followsAll wsX8_can := goodIn_r _ [35, 4, 36, 5, 37, 38, 39, 10, 40, 29, 30, 31, 41, 42, 43, 44, 45, 46, 47, 48, 122, 123, 124, 125, 126, 127, 128, 129, 130, 131, 132, 133, 134, 135, 136, 137, 138] rfl (by decide +kernel)
set_option maxRecDepth 20000 in
theorem gX8_followsAll_X8_can : GoodIn wsX8_followsAll (wsV RX8 160 RX8 yX8_can wsX8_can) := goodIn_app (goodIn_r _ [32, 33, 34, 10] rfl (by decide +kernel)) ggX8_followsAll_X8_can
set_option maxRecDepth 20000 in
theorem ggX8_followsAll_X8_setsPace : GoodIn wsX8_followsAll wsX8_setsPace := goodIn_r _ [52, 36, 45, 46, 47, 10, 48, 122, 123, 124, 125, 126, 127, 128, 129, 130, 131, 132, 133, 134, 135, 136, 137, 138] rfl (by decide +kernel)
set_option maxRecDepth 20000 in
theorem gX8_followsAll_X8_setsPace : GoodIn wsX8_followsAll (wsV RX8 105 RX8 yX8_setsPace wsX8_setsPace) := goodIn_app (goodIn_r _ [49, 50, 51, 10] rfl (by decide +kernel)) ggX8_followsAll_X8_setsPace
set_option maxRecDepth 20000 in
theorem ggX8_followsAll_X8_calls : GoodIn wsX8_followsAll wsX8_calls := goodIn_r _ [56, 36, 45, 46, 47, 10, 48, 122, 123, 124, 125, 126, 127, 128, 129, 130, 131, 132, 133, 134, 135, 136, 137, 138] rfl (by decide +kernel)
set_option maxRecDepth 20000 in
theorem gX8_followsAll_X8_calls : GoodIn wsX8_followsAll (wsV RX8 108 RX8 yX8_calls wsX8_calls) := goodIn_app (goodIn_r _ [53, 54, 55, 10] rfl (by decide +kernel)) ggX8_followsAll_X8_calls
set_option maxRecDepth 20000 in
theorem ggX8_followsAll_X8_sets : GoodIn wsX8_followsAll wsX8_sets := goodIn_r _ [60, 36, 122, 123, 124, 125, 126, 127, 128, 129, 130, 131, 132, 133, 134, 135, 136, 137, 138] rfl (by decide +kernel)
set_option maxRecDepth 20000 in
theorem gX8_followsAll_X8_sets : GoodIn wsX8_followsAll (wsV RX8 115 RX8 yX8_sets wsX8_sets) := goodIn_app (goodIn_r _ [57, 58, 59, 10] rfl (by decide +kernel)) ggX8_followsAll_X8_sets
set_option maxRecDepth 20000 in
theorem ggX8_followsAll_X8_passes : GoodIn wsX8_followsAll wsX8_passes := goodIn_r _ [64, 36, 65, 66, 67, 10, 68, 69, 70, 71, 72, 73, 74, 75, 76, 77, 41, 42, 43, 44, 45, 46, 47, 48, 78, 79, 80, 81, 82, 83, 84, 85, 86, 87, 88, 89, 90, 91, 92, 93, 94, 95, 96, 97, 98, 99, 100, 101, 29, 30, 31, 102, 103, 104, 105, 106, 107, 108, 109, 110, 111, 112, 113, 114, 115, 116, 117, 118, 119, 120, 121, 122, 123, 124, 125, 126, 127, 128, 129, 130, 131, 132, 133, 134, 135, 136, 137, 138] rfl (by decide +kernel)
set_option maxRecDepth 20000 in
theorem gX8_followsAll_X8_passes : GoodIn wsX8_followsAll (wsV RX8 118 RX8 yX8_passes wsX8_passes) := goodIn_app (goodIn_r _ [61, 62, 63, 10] rfl (by decide +kernel)) ggX8_followsAll_X8_passes
set_option maxRecDepth 20000 in
theorem ggX8_follow_X8_isText : GoodIn wsX8_follow wsX8_isText := goodIn_r _ [6, 7, 8, 1, 9, 10, 11, 5, 12, 13, 14, 15, 16, 17, 18, 19, 20, 21, 22, 23, 24, 25, 26, 27, 28, 29, 30, 31, 32, 33, 34, 35, 150, 151, 152, 153, 154, 155, 156, 157, 158, 159, 160, 161, 162, 163, 164, 165, 166] rfl (by decide +kernel)
set_option maxRecDepth 20000 in
theorem gX8_follow_X8_isText : GoodIn wsX8_follow (wsV RX8 156 RX8 yX8_isText wsX8_isText) := goodIn_app (goodIn_r _ [2, 3, 4, 5] rfl (by decide +kernel)) ggX8_follow_X8_isText
set_option maxRecDepth 20000 in
theorem ggX8_follow_X8_refused : GoodIn wsX8_follow wsX8_refused := goodIn_r _ [39, 40, 150, 151, 152, 153, 154, 155, 156, 157, 158, 159, 160, 161, 162, 163, 164, 165, 166] rfl (by decide +kernel)
set_option maxRecDepth 20000 in
theorem gX8_follow_X8_refused : GoodIn wsX8_follow (wsV RX8 96 RX8 yX8_refused wsX8_refused) := goodIn_app (goodIn_r _ [36, 37, 38, 5] rfl (by decide +kernel)) ggX8_follow_X8_refused
set_option maxRecDepth 20000 in
theorem ggX8_follow_X8_putAside : GoodIn wsX8_follow wsX8_putAside := goodIn_r _ [44, 45, 46, 150, 151, 152, 153, 154, 155, 156, 157, 158, 159, 160, 161, 162, 163, 164, 165, 166] rfl (by decide +kernel)
set_option maxRecDepth 20000 in
theorem gX8_follow_X8_putAside : GoodIn wsX8_follow (wsV RX8 163 RX8 yX8_putAside wsX8_putAside) := goodIn_app (goodIn_r _ [41, 42, 43, 5] rfl (by decide +kernel)) ggX8_follow_X8_putAside
set_option maxRecDepth 20000 in
theorem ggX8_follow_X8_followsAll : GoodIn wsX8_follow wsX8_followsAll := goodIn_r _ [50, 7, 8, 1, 13, 15, 14, 9, 10, 11, 5, 12, 16, 17, 18, 19, 20, 21, 22, 23, 24, 25, 26, 27, 28, 29, 30, 31, 32, 33, 34, 35, 51, 52, 53, 54, 46, 55, 56, 57, 58, 59, 60, 61, 62, 63, 64, 65, 66, 67, 68, 69, 70, 71, 72, 73, 74, 75, 76, 77, 78, 79, 80, 81, 82, 83, 84, 85, 86, 87, 88, 89, 90, 91, 92, 93, 94, 95, 96, 97, 98, 99, 100, 101, 102, 103, 104, 105, 106, 107, 108, 109, 110, 111, 112, 113, 114, 115, 116, 117, 118, 119, 120, 121, 122, 123, 124, 125, 126, 127, 128, 129, 130, 131, 132, 133, 134, 135, 136, 137, 138, 139, 150, 151, 152, 153, 154, 155, 156, 157, 158, 159, 160, 161, 162, 163, 164, 165, 166] rfl (by decide +kernel)
set_option maxRecDepth 20000 in
theorem gX8_follow_X8_followsAll : GoodIn wsX8_follow (wsV RX8 166 RX8 yX8_followsAll wsX8_followsAll) := goodIn_app (goodIn_r _ [47, 48, 49, 5] rfl (by decide +kernel)) ggX8_follow_X8_followsAll
set_option maxRecDepth 20000 in
theorem ggX8_follow_X8_putBack : GoodIn wsX8_follow wsX8_putBack := goodIn_r _ [143, 46, 45, 150, 151, 152, 153, 154, 155, 156, 157, 158, 159, 160, 161, 162, 163, 164, 165, 166] rfl (by decide +kernel)
set_option maxRecDepth 20000 in
theorem gX8_follow_X8_putBack : GoodIn wsX8_follow (wsV RX8 169 RX8 yX8_putBack wsX8_putBack) := goodIn_app (goodIn_r _ [140, 141, 142, 5] rfl (by decide +kernel)) ggX8_follow_X8_putBack
set_option maxRecDepth 20000 in
theorem ggX8_follow_X8_records : GoodIn wsX8_follow wsX8_records := goodIn_r _ [147, 148, 149, 46, 150, 151, 152, 153, 154, 155, 156, 157, 158, 159, 160, 161, 162, 163, 164, 165, 166] rfl (by decide +kernel)
set_option maxRecDepth 20000 in
theorem gX8_follow_X8_records : GoodIn wsX8_follow (wsV RX8 99 RX8 yX8_records wsX8_records) := goodIn_app (goodIn_r _ [144, 145, 146, 5] rfl (by decide +kernel)) ggX8_follow_X8_records
set_option maxRecDepth 20000 in
theorem ggX8_keep_X8_in : GoodIn wsX8_keep wsX8_in := goodIn_r _ [7] rfl (by decide +kernel)
set_option maxRecDepth 20000 in
theorem gX8_keep_X8_in : GoodIn wsX8_keep (va_wsS RX8 36 yX8_in wsX8_in) := goodIn_app (goodIn_r _ [4, 5, 6] rfl (by decide +kernel)) ggX8_keep_X8_in
set_option maxRecDepth 20000 in
theorem ggX8_keep_X8_refused : GoodIn wsX8_keep wsX8_refused := goodIn_r _ [11, 12, 13, 14, 15, 16, 17, 18, 19, 20, 21, 22, 23, 24, 25, 26, 27, 28, 29] rfl (by decide +kernel)
set_option maxRecDepth 20000 in
theorem gX8_keep_X8_refused : GoodIn wsX8_keep (wsV RX8 96 RX8 yX8_refused wsX8_refused) := goodIn_app (goodIn_r _ [8, 9, 10, 6] rfl (by decide +kernel)) ggX8_keep_X8_refused
set_option maxRecDepth 20000 in
theorem ggX8_goBack_X8_in : GoodIn wsX8_goBack wsX8_in := goodIn_r _ [7] rfl (by decide +kernel)
set_option maxRecDepth 20000 in
theorem gX8_goBack_X8_in : GoodIn wsX8_goBack (va_wsS RX8 36 yX8_in wsX8_in) := goodIn_app (goodIn_r _ [4, 5, 6] rfl (by decide +kernel)) ggX8_goBack_X8_in
set_option maxRecDepth 20000 in
theorem ggX8_goBack_X8_refused : GoodIn wsX8_goBack wsX8_refused := goodIn_r _ [11, 12, 19, 20, 21, 22, 23, 24, 25, 26, 27, 28, 29, 30, 31, 32, 33, 34, 35] rfl (by decide +kernel)
set_option maxRecDepth 20000 in
theorem gX8_goBack_X8_refused : GoodIn wsX8_goBack (wsV RX8 96 RX8 yX8_refused wsX8_refused) := goodIn_app (goodIn_r _ [8, 9, 10, 6] rfl (by decide +kernel)) ggX8_goBack_X8_refused
set_option maxRecDepth 20000 in
theorem ggX8_goBack_X8_records : GoodIn wsX8_goBack wsX8_records := goodIn_r _ [16, 17, 18, 2, 19, 20, 21, 22, 23, 24, 25, 26, 27, 28, 29, 30, 31, 32, 33, 34, 35] rfl (by decide +kernel)
set_option maxRecDepth 20000 in
theorem gX8_goBack_X8_records : GoodIn wsX8_goBack (wsV RX8 99 RX8 yX8_records wsX8_records) := goodIn_app (goodIn_r _ [13, 14, 15, 6] rfl (by decide +kernel)) ggX8_goBack_X8_records
set_option maxRecDepth 20000 in
theorem ggX8_undo_X8_refused : GoodIn wsX8_undo wsX8_refused := goodIn_r _ [8, 9, 10, 11, 12, 13, 14, 15, 16, 17, 18, 19, 20, 21, 22, 23, 24, 25, 26] rfl (by decide +kernel)
set_option maxRecDepth 20000 in
theorem gX8_undo_X8_refused : GoodIn wsX8_undo (wsV RX8 96 RX8 yX8_refused wsX8_refused) := goodIn_app (goodIn_r _ [4, 5, 6, 7] rfl (by decide +kernel)) ggX8_undo_X8_refused
set_option maxRecDepth 20000 in
theorem ggX8_savedStates_X8_told : GoodIn wsX8_savedStates wsX8_told := goodIn_r _ [6, 7, 8, 9, 10, 11, 12, 13, 14, 15, 16, 17, 18, 19, 20, 21, 22, 23, 24] rfl (by decide +kernel)
set_option maxRecDepth 20000 in
theorem gX8_savedStates_X8_told : GoodIn wsX8_savedStates (wsV RX8 172 RX8 yX8_told wsX8_told) := goodIn_app (goodIn_r _ [2, 3, 4, 5] rfl (by decide +kernel)) ggX8_savedStates_X8_told
set_option maxRecDepth 20000 in
theorem ggX8_sparrows_X8_told : GoodIn wsX8_sparrows wsX8_told := goodIn_r _ [6, 7, 8, 9, 10, 11, 12, 13, 14, 15, 16, 17, 18, 19, 20, 21, 22, 23, 24] rfl (by decide +kernel)
set_option maxRecDepth 20000 in
theorem gX8_sparrows_X8_told : GoodIn wsX8_sparrows (wsV RX8 172 RX8 yX8_told wsX8_told) := goodIn_app (goodIn_r _ [2, 3, 4, 5] rfl (by decide +kernel)) ggX8_sparrows_X8_told
set_option maxRecDepth 20000 in
theorem ggX8_ofBird_X8_isBird : GoodIn wsX8_ofBird wsX8_isBird := goodIn_r _ [5, 6, 7, 8, 4, 9, 19, 20, 21, 22, 23, 24, 25, 26, 27, 28, 29, 30, 31, 32, 33, 34, 35] rfl (by decide +kernel)
set_option maxRecDepth 20000 in
theorem gX8_ofBird_X8_isBird : GoodIn wsX8_ofBird (wsV RX8 102 RX8 yX8_isBird wsX8_isBird) := goodIn_app (goodIn_r _ [1, 2, 3, 4] rfl (by decide +kernel)) ggX8_ofBird_X8_isBird
set_option maxRecDepth 20000 in
theorem ggX8_ofBird_X8_refused : GoodIn wsX8_ofBird wsX8_refused := goodIn_r _ [13, 14, 19, 20, 21, 22, 23, 24, 25, 26, 27, 28, 29, 30, 31, 32, 33, 34, 35] rfl (by decide +kernel)
set_option maxRecDepth 20000 in
theorem gX8_ofBird_X8_refused : GoodIn wsX8_ofBird (wsV RX8 96 RX8 yX8_refused wsX8_refused) := goodIn_app (goodIn_r _ [10, 11, 12, 4] rfl (by decide +kernel)) ggX8_ofBird_X8_refused
set_option maxRecDepth 20000 in
theorem ggX8_ofBird_X8_of : GoodIn wsX8_ofBird wsX8_of := goodIn_r _ [18, 6, 19, 20, 21, 22, 23, 24, 25, 26, 27, 28, 29, 30, 31, 32, 33, 34, 35] rfl (by decide +kernel)
set_option maxRecDepth 20000 in
theorem gX8_ofBird_X8_of : GoodIn wsX8_ofBird (wsV RX8 40 RX8 yX8_of wsX8_of) := goodIn_app (goodIn_r _ [15, 16, 17, 4] rfl (by decide +kernel)) ggX8_ofBird_X8_of
set_option maxRecDepth 20000 in
theorem ggX8_flown_X8_ofBird : GoodIn wsX8_flown wsX8_ofBird := goodIn_r _ [5, 6, 7, 8, 4, 9, 10, 11, 12, 13, 14, 15, 16, 17, 18, 19, 20, 21, 22, 23, 24, 25, 26, 27, 28, 29, 30, 31, 32, 33, 34, 35, 36, 37, 38, 39] rfl (by decide +kernel)
set_option maxRecDepth 20000 in
theorem gX8_flown_X8_ofBird : GoodIn wsX8_flown (wsV RX8 175 RX8 yX8_ofBird wsX8_ofBird) := goodIn_app (goodIn_r _ [1, 2, 3, 4] rfl (by decide +kernel)) ggX8_flown_X8_ofBird
set_option maxRecDepth 20000 in
theorem ggX8_lapsOf_X8_ofBird : GoodIn wsX8_lapsOf wsX8_ofBird := goodIn_r _ [5, 6, 7, 8, 4, 9, 10, 11, 12, 13, 14, 15, 16, 17, 18, 19, 20, 21, 22, 23, 24, 25, 26, 27, 28, 29, 30, 31, 32, 33, 34, 35, 36, 37, 38, 39] rfl (by decide +kernel)
set_option maxRecDepth 20000 in
theorem gX8_lapsOf_X8_ofBird : GoodIn wsX8_lapsOf (wsV RX8 175 RX8 yX8_ofBird wsX8_ofBird) := goodIn_app (goodIn_r _ [1, 2, 3, 4] rfl (by decide +kernel)) ggX8_lapsOf_X8_ofBird
set_option maxRecDepth 20000 in
theorem ggX8_speedOf_X8_ofBird : GoodIn wsX8_speedOf wsX8_ofBird := goodIn_r _ [5, 6, 7, 8, 4, 9, 10, 11, 12, 13, 14, 15, 16, 17, 18, 19, 20, 21, 22, 23, 24, 25, 26, 27, 28, 29, 30, 31, 32, 33, 34, 35, 36, 37, 38, 39] rfl (by decide +kernel)
set_option maxRecDepth 20000 in
theorem gX8_speedOf_X8_ofBird : GoodIn wsX8_speedOf (wsV RX8 175 RX8 yX8_ofBird wsX8_ofBird) := goodIn_app (goodIn_r _ [1, 2, 3, 4] rfl (by decide +kernel)) ggX8_speedOf_X8_ofBird
set_option maxRecDepth 20000 in
theorem ggX8_strengthOf_X8_ofBird : GoodIn wsX8_strengthOf wsX8_ofBird := goodIn_r _ [5, 6, 7, 8, 4, 9, 10, 11, 12, 13, 14, 15, 16, 17, 18, 19, 20, 21, 22, 23, 24, 25, 26, 27, 28, 29, 30, 31, 32, 33, 34, 35, 36, 37, 38, 39] rfl (by decide +kernel)
set_option maxRecDepth 20000 in
theorem gX8_strengthOf_X8_ofBird : GoodIn wsX8_strengthOf (wsV RX8 175 RX8 yX8_ofBird wsX8_ofBird) := goodIn_app (goodIn_r _ [1, 2, 3, 4] rfl (by decide +kernel)) ggX8_strengthOf_X8_ofBird
set_option maxRecDepth 20000 in
theorem ggX8_wearOf_X8_ofBird : GoodIn wsX8_wearOf wsX8_ofBird := goodIn_r _ [5, 6, 7, 8, 4, 9, 10, 11, 12, 13, 14, 15, 16, 17, 18, 19, 20, 21, 22, 23, 24, 25, 26, 27, 28, 29, 30, 31, 32, 33, 34, 35, 36, 37, 38, 39] rfl (by decide +kernel)
set_option maxRecDepth 20000 in
theorem gX8_wearOf_X8_ofBird : GoodIn wsX8_wearOf (wsV RX8 175 RX8 yX8_ofBird wsX8_ofBird) := goodIn_app (goodIn_r _ [1, 2, 3, 4] rfl (by decide +kernel)) ggX8_wearOf_X8_ofBird
set_option maxRecDepth 20000 in
theorem ggX8_laneOf_X8_ofBird : GoodIn wsX8_laneOf wsX8_ofBird := goodIn_r _ [5, 6, 7, 8, 4, 9, 10, 11, 12, 13, 14, 15, 16, 17, 18, 19, 20, 21, 22, 23, 24, 25, 26, 27, 28, 29, 30, 31, 32, 33, 34, 35, 36, 37, 38, 39] rfl (by decide +kernel)
set_option maxRecDepth 20000 in
theorem gX8_laneOf_X8_ofBird : GoodIn wsX8_laneOf (wsV RX8 175 RX8 yX8_ofBird wsX8_ofBird) := goodIn_app (goodIn_r _ [1, 2, 3, 4] rfl (by decide +kernel)) ggX8_laneOf_X8_ofBird
set_option maxRecDepth 20000 in
theorem ggX8_stateOf_X8_ofBird : GoodIn wsX8_stateOf wsX8_ofBird := goodIn_r _ [5, 6, 7, 8, 4, 9, 10, 11, 12, 13, 14, 15, 16, 17, 18, 19, 20, 21, 22, 23, 24, 25, 26, 27, 28, 29, 30, 31, 32, 33, 34, 35, 36, 37, 38, 39] rfl (by decide +kernel)
set_option maxRecDepth 20000 in
theorem gX8_stateOf_X8_ofBird : GoodIn wsX8_stateOf (wsV RX8 175 RX8 yX8_ofBird wsX8_ofBird) := goodIn_app (goodIn_r _ [1, 2, 3, 4] rfl (by decide +kernel)) ggX8_stateOf_X8_ofBird
set_option maxRecDepth 20000 in
theorem ggX8_paceOf_X8_ofBird : GoodIn wsX8_paceOf wsX8_ofBird := goodIn_r _ [5, 6, 7, 8, 4, 9, 10, 11, 12, 13, 14, 15, 16, 17, 18, 19, 20, 21, 22, 23, 24, 25, 26, 27, 28, 29, 30, 31, 32, 33, 34, 35, 36, 37, 38, 39] rfl (by decide +kernel)
set_option maxRecDepth 20000 in
theorem gX8_paceOf_X8_ofBird : GoodIn wsX8_paceOf (wsV RX8 175 RX8 yX8_ofBird wsX8_ofBird) := goodIn_app (goodIn_r _ [1, 2, 3, 4] rfl (by decide +kernel)) ggX8_paceOf_X8_ofBird
set_option maxRecDepth 20000 in
theorem ggX8_partnerOf_X8_isBird : GoodIn wsX8_partnerOf wsX8_isBird := goodIn_r _ [5, 6, 7, 8, 4, 9, 19, 20, 21, 22, 23, 24, 25, 26, 27, 28, 29, 30, 31, 32, 33, 34, 35] rfl (by decide +kernel)
set_option maxRecDepth 20000 in
theorem gX8_partnerOf_X8_isBird : GoodIn wsX8_partnerOf (wsV RX8 102 RX8 yX8_isBird wsX8_isBird) := goodIn_app (goodIn_r _ [1, 2, 3, 4] rfl (by decide +kernel)) ggX8_partnerOf_X8_isBird
set_option maxRecDepth 20000 in
theorem ggX8_partnerOf_X8_of : GoodIn wsX8_partnerOf wsX8_of := goodIn_r _ [13, 6, 19, 20, 21, 22, 23, 24, 25, 26, 27, 28, 29, 30, 31, 32, 33, 34, 35] rfl (by decide +kernel)
set_option maxRecDepth 20000 in
theorem gX8_partnerOf_X8_of : GoodIn wsX8_partnerOf (wsV RX8 40 RX8 yX8_of wsX8_of) := goodIn_app (goodIn_r _ [10, 11, 12, 4] rfl (by decide +kernel)) ggX8_partnerOf_X8_of
set_option maxRecDepth 20000 in
theorem ggX8_partnerOf_X8_refused : GoodIn wsX8_partnerOf wsX8_refused := goodIn_r _ [17, 18, 19, 20, 21, 22, 23, 24, 25, 26, 27, 28, 29, 30, 31, 32, 33, 34, 35] rfl (by decide +kernel)
set_option maxRecDepth 20000 in
theorem gX8_partnerOf_X8_refused : GoodIn wsX8_partnerOf (wsV RX8 96 RX8 yX8_refused wsX8_refused) := goodIn_app (goodIn_r _ [14, 15, 16, 4] rfl (by decide +kernel)) ggX8_partnerOf_X8_refused
set_option maxRecDepth 20000 in
theorem ggX8_isCalledIn_X8_ofBird : GoodIn wsX8_isCalledIn wsX8_ofBird := goodIn_r _ [5, 6, 7, 8, 4, 9, 10, 11, 12, 13, 14, 15, 16, 17, 18, 19, 20, 21, 22, 23, 24, 25, 26, 27, 28, 29, 30, 31, 32, 33, 34, 35, 36, 37, 38, 39] rfl (by decide +kernel)
set_option maxRecDepth 20000 in
theorem gX8_isCalledIn_X8_ofBird : GoodIn wsX8_isCalledIn (wsV RX8 175 RX8 yX8_ofBird wsX8_ofBird) := goodIn_app (goodIn_r _ [1, 2, 3, 4] rfl (by decide +kernel)) ggX8_isCalledIn_X8_ofBird
set_option maxRecDepth 20000 in
theorem ggX8_limitOf_X8_in : GoodIn wsX8_limitOf wsX8_in := goodIn_r _ [5] rfl (by decide +kernel)
set_option maxRecDepth 20000 in
theorem gX8_limitOf_X8_in : GoodIn wsX8_limitOf (va_wsS RX8 36 yX8_in wsX8_in) := goodIn_app (goodIn_r _ [2, 3, 4] rfl (by decide +kernel)) ggX8_limitOf_X8_in
