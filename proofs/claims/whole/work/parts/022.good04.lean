set_option maxRecDepth 20000 in
theorem gL_partnerOf_X7_partnerOf : GoodIn wsL_partnerOf (wsV RL 84 RX7 yX7_partnerOf wsX7_partnerOf) := goodIn_app (goodIn_of _ (by decide +kernel)) ggL_partnerOf_X7_partnerOf
set_option maxRecDepth 20000 in
theorem ggL_isCalledIn_X7_isCalledIn : GoodIn wsL_isCalledIn wsX7_isCalledIn := goodIn_ca (goodIn_r _ [6, 7, 8, 9, 10, 5, 11, 12, 13, 14, 15, 16, 17, 18, 19, 20, 21, 22, 23, 24, 25, 26, 27, 28, 29, 30, 31, 32, 33, 34, 35, 36, 37, 38, 39, 40, 41, 42, 43, 44, 45, 46, 47, 48, 49, 50, 51, 52, 53, 54, 55, 56] (by decide +kernel) (by decide +kernel)) (goodIn_sub (fun _ h => List.mem_cons_of_mem _ (List.mem_append_right _ h)) (by decide +kernel))
set_option maxRecDepth 20000 in
theorem gL_isCalledIn_X7_isCalledIn : GoodIn wsL_isCalledIn (wsV RL 87 RX7 yX7_isCalledIn wsX7_isCalledIn) := goodIn_app (goodIn_of _ (by decide +kernel)) ggL_isCalledIn_X7_isCalledIn
set_option maxRecDepth 20000 in
theorem ggL_limitOf_X7_limitOf : GoodIn wsL_limitOf wsX7_limitOf := goodIn_ca (goodIn_r _ [6, 7, 8, 9, 5, 10, 11, 12, 13, 14, 15, 16, 17, 18, 19, 20, 21, 22, 23, 24, 25, 26, 27, 28, 29, 30, 31, 32, 33, 34, 35, 36, 37, 38] (by decide +kernel) (by decide +kernel)) (goodIn_sub (fun _ h => List.mem_cons_of_mem _ (List.mem_append_right _ h)) (by decide +kernel))
set_option maxRecDepth 20000 in
theorem gL_limitOf_X7_limitOf : GoodIn wsL_limitOf (wsV RL 90 RX7 yX7_limitOf wsX7_limitOf) := goodIn_app (goodIn_of _ (by decide +kernel)) ggL_limitOf_X7_limitOf
set_option maxRecDepth 20000 in
theorem ggL_placeByCounting_X7_placeByCounting : GoodIn wsL_placeByCounting wsX7_placeByCounting := goodIn_ca (goodIn_r _ [6, 7, 8, 9, 10, 5, 11, 12, 13, 14, 15, 16, 17, 18, 19, 20, 21, 22, 23, 24, 25, 26, 27, 28, 29, 30, 31, 32, 33, 34, 35, 36, 37, 38, 39, 40, 41, 42, 43, 44, 45, 46, 47, 48, 49, 50, 51, 52, 53, 54, 55, 56, 57, 58, 59, 60, 61, 62, 63, 64, 65, 66, 67, 68, 69, 70, 71, 72, 73] (by decide +kernel) (by decide +kernel)) (goodIn_sub (fun _ h => List.mem_cons_of_mem _ (List.mem_append_right _ h)) (by decide +kernel))
set_option maxRecDepth 20000 in
theorem gL_placeByCounting_X7_placeByCounting : GoodIn wsL_placeByCounting (wsV RL 93 RX7 yX7_placeByCounting wsX7_placeByCounting) := goodIn_app (goodIn_of _ (by decide +kernel)) ggL_placeByCounting_X7_placeByCounting
set_option maxRecDepth 20000 in
theorem ggL_birdByOrder_X7_birdByOrder : GoodIn wsL_birdByOrder wsX7_birdByOrder := goodIn_ca (goodIn_r _ [6, 7, 8, 9, 10, 11, 12, 13, 14, 15, 16, 17, 18, 19, 20, 21, 22, 23, 24, 25, 26, 27, 28, 29, 30, 31, 32, 33, 34, 35, 36, 37, 38, 39, 40, 41, 42, 43, 44, 45, 46, 47, 48, 49, 50, 51, 52, 53, 54, 55, 56, 57, 58, 59, 60, 61, 62, 63, 64, 65, 66, 67, 68, 69, 70, 71, 72, 73, 74, 75] (by decide +kernel) (by decide +kernel)) (goodIn_sub (fun _ h => List.mem_cons_of_mem _ (List.mem_append_right _ h)) (by decide +kernel))
set_option maxRecDepth 20000 in
theorem gL_birdByOrder_X7_birdByOrder : GoodIn wsL_birdByOrder (wsV RL 96 RX7 yX7_birdByOrder wsX7_birdByOrder) := goodIn_app (goodIn_of _ (by decide +kernel)) ggL_birdByOrder_X7_birdByOrder
set_option maxRecDepth 20000 in
theorem ggL_gapAhead_X7_gapAhead : GoodIn wsL_gapAhead wsX7_gapAhead := goodIn_ca (goodIn_r _ [6, 7, 8, 9, 10, 5, 11, 12, 13, 14, 15, 16, 17, 18, 19, 20, 21, 22, 23, 24, 25, 26, 27, 28, 29, 30, 31, 32, 33, 34, 35, 36, 37, 38, 39, 40, 41, 42, 43, 44, 45, 46, 47, 48, 49, 50, 51, 52, 53, 54, 55, 56, 57, 58, 59, 60, 61, 62, 63, 64, 65, 66, 67, 68, 69, 70, 71, 72, 73, 74, 75, 76] (by decide +kernel) (by decide +kernel)) (goodIn_sub (fun _ h => List.mem_cons_of_mem _ (List.mem_append_right _ h)) (by decide +kernel))
set_option maxRecDepth 20000 in
theorem gL_gapAhead_X7_gapAhead : GoodIn wsL_gapAhead (wsV RL 99 RX7 yX7_gapAhead wsX7_gapAhead) := goodIn_app (goodIn_of _ (by decide +kernel)) ggL_gapAhead_X7_gapAhead
set_option maxRecDepth 20000 in
theorem ggL_isDrafting_X7_isDrafting : GoodIn wsL_isDrafting wsX7_isDrafting := goodIn_ca (goodIn_ca (goodIn_r _ [7, 8, 9, 10, 11, 6, 12, 13, 14, 15, 16, 17, 18, 19, 20, 21, 22, 23, 24, 25, 26, 27, 28, 29, 30, 31, 32, 33, 34, 35, 36, 37, 38, 39, 40, 41, 42, 43, 44, 45, 46, 47, 48, 49, 50, 51, 52, 53, 54, 55, 56, 57, 58, 59, 60, 61, 62, 63, 64, 65, 66, 67, 68, 69, 70, 71, 72, 73, 74, 75, 76, 77, 78, 79, 80, 81, 82, 83, 84, 85] (by decide +kernel) (by decide +kernel)) (goodIn_sub (fun _ h => List.mem_cons_of_mem _ (List.mem_append_left _ (List.mem_append_right _ h))) (by decide +kernel))) (goodIn_sub (fun _ h => List.mem_cons_of_mem _ (List.mem_append_right _ h)) (by decide +kernel))
set_option maxRecDepth 20000 in
theorem gL_isDrafting_X7_isDrafting : GoodIn wsL_isDrafting (wsV RL 102 RX7 yX7_isDrafting wsX7_isDrafting) := goodIn_app (goodIn_of _ (by decide +kernel)) ggL_isDrafting_X7_isDrafting
set_option maxRecDepth 20000 in
theorem ggL_whereIs_X7_whereIs : GoodIn wsL_whereIs wsX7_whereIs := goodIn_ca (goodIn_r _ [6, 7, 8, 9, 5, 10, 11, 12, 13, 14, 15, 16, 17, 18, 19, 20, 21, 22, 23, 24, 25, 26, 27, 28, 29, 30, 31, 32, 33, 34, 35, 36, 37, 38, 39, 40, 41, 42, 43, 44, 45, 46, 47, 48, 49, 50, 51, 52, 53, 54, 55, 56, 57, 58, 59, 60, 61] (by decide +kernel) (by decide +kernel)) (goodIn_sub (fun _ h => List.mem_cons_of_mem _ (List.mem_append_right _ h)) (by decide +kernel))
set_option maxRecDepth 20000 in
theorem gL_whereIs_X7_whereIs : GoodIn wsL_whereIs (wsV RL 105 RX7 yX7_whereIs wsX7_whereIs) := goodIn_app (goodIn_of _ (by decide +kernel)) ggL_whereIs_X7_whereIs
set_option maxRecDepth 20000 in
theorem ggL_allowance_X7_allowance : GoodIn wsL_allowance wsX7_allowance := goodIn_ca (goodIn_ca (goodIn_r _ [7, 8, 9, 10, 11, 6, 12, 13, 14, 15, 16, 17, 18, 19, 20, 21, 22, 23, 24, 25, 26, 27, 28, 29, 30, 31, 32, 33, 34, 35, 36, 37, 38, 39, 40, 41, 42, 43, 44, 45, 46, 47, 48, 49, 50, 51, 52, 53, 54, 55, 56, 57, 58, 59, 60, 61, 62, 63, 64, 65, 66, 67, 68, 69, 70, 71, 72, 73, 74, 75, 76, 77, 78, 79, 80, 81] (by decide +kernel) (by decide +kernel)) (goodIn_sub (fun _ h => List.mem_cons_of_mem _ (List.mem_append_left _ (List.mem_append_right _ h))) (by decide +kernel))) (goodIn_sub (fun _ h => List.mem_cons_of_mem _ (List.mem_append_right _ h)) (by decide +kernel))
set_option maxRecDepth 20000 in
theorem gL_allowance_X7_allowance : GoodIn wsL_allowance (wsV RL 108 RX7 yX7_allowance wsX7_allowance) := goodIn_app (goodIn_of _ (by decide +kernel)) ggL_allowance_X7_allowance
set_option maxRecDepth 20000 in
theorem ggL_wouldFly_X7_wouldFly : GoodIn wsL_wouldFly wsX7_wouldFly := goodIn_ca (goodIn_ca (goodIn_ca (goodIn_r _ [8, 9, 10, 11, 12, 7, 13, 14, 15, 16, 17, 18, 19, 20, 21, 22, 23, 24, 25, 26, 27, 28, 29, 30, 31, 32, 33, 34, 35, 36, 37, 38, 39, 40, 41, 42, 43, 44, 45, 46, 47, 48, 49, 50, 51, 52, 53, 54, 55, 56, 57, 58, 59, 60, 61, 62, 63, 64, 65, 66, 67, 68, 69, 70, 71, 72, 73, 74, 75, 76, 77, 78, 79, 80, 81, 82, 83, 84, 85, 86, 87, 88, 89, 90, 91, 92, 93, 94, 95, 96, 97, 98, 99, 100, 101, 102, 103, 104, 105, 106, 107, 108, 109, 110, 111, 112, 113, 114, 115, 116, 117, 118, 119, 120, 121, 122, 123, 124, 125, 126, 127, 128, 129, 130, 131, 132, 133, 134, 135, 136, 137, 138, 139, 140, 141, 142, 143, 144, 145, 146, 147, 148, 149, 150, 151, 152, 153, 154, 155, 156, 157, 158, 159, 160, 161, 162, 163, 164, 165, 166, 167, 168, 169, 170, 171, 172, 173, 174, 175, 176, 177, 178, 179, 180, 181, 182, 183, 184, 185, 186, 187, 188, 189, 190, 191, 192, 193, 194, 195, 196, 197, 198, 199, 200, 201, 202, 203, 204, 205, 206, 207, 208] (by decide +kernel) (by decide +kernel)) (goodIn_sub (fun _ h => List.mem_cons_of_mem _ (List.mem_append_left _ (List.mem_append_left _ (List.mem_append_right _ h)))) (by decide +kernel))) (goodIn_sub (fun _ h => List.mem_cons_of_mem _ (List.mem_append_left _ (List.mem_append_right _ h))) (by decide +kernel))) (goodIn_sub (fun _ h => List.mem_cons_of_mem _ (List.mem_append_right _ h)) (by decide +kernel))
set_option maxRecDepth 20000 in
theorem gL_wouldFly_X7_wouldFly : GoodIn wsL_wouldFly (wsV RL 111 RX7 yX7_wouldFly wsX7_wouldFly) := goodIn_app (goodIn_of _ (by decide +kernel)) ggL_wouldFly_X7_wouldFly
set_option maxRecDepth 20000 in
theorem ggL_wouldWin_X7_wouldWin : GoodIn wsL_wouldWin wsX7_wouldWin := goodIn_ca (goodIn_r _ [6, 7, 8, 9, 10, 11, 5, 12, 13, 14, 15, 16, 17, 18, 19, 20, 21, 22, 23, 24, 25, 26, 27, 28, 29, 30, 31, 32, 33, 34, 35, 36, 37, 38, 39, 40, 41, 42, 43, 44, 45, 46, 47, 48, 49, 50, 51, 52, 53, 54, 55, 56, 57, 58, 59, 60, 61, 62, 63, 64, 65, 66, 67, 68, 69, 70, 71, 72, 73, 74, 75, 76, 77, 78, 79, 80, 81, 82, 83, 84, 85, 86, 87, 88, 89, 90, 91, 92, 93, 94, 95, 96, 97, 98, 99, 100, 101, 102, 103, 104, 105, 106, 107, 108, 109, 110, 111, 112, 113, 114, 115, 116, 117, 118, 119, 120, 121, 122, 123, 124, 125, 126, 127, 128, 129, 130, 131, 132, 133, 134, 135, 136, 137, 138, 139, 140, 141, 142, 143, 144, 145, 146, 147, 148, 149, 150, 151, 152, 153, 154, 155, 156, 157, 158, 159, 160, 161, 162, 163, 164, 165, 166, 167, 168, 169, 170, 171, 172, 173, 174, 175, 176, 177, 178, 179, 180, 181, 182, 183, 184, 185, 186, 187, 188, 189, 190, 191, 192, 193, 194] (by decide +kernel) (by decide +kernel)) (goodIn_sub (fun _ h => List.mem_cons_of_mem _ (List.mem_append_right _ h)) (by decide +kernel))
set_option maxRecDepth 20000 in
theorem gL_wouldWin_X7_wouldWin : GoodIn wsL_wouldWin (wsV RL 114 RX7 yX7_wouldWin wsX7_wouldWin) := goodIn_app (goodIn_of _ (by decide +kernel)) ggL_wouldWin_X7_wouldWin
set_option maxRecDepth 20000 in
theorem ggL_secondsToNext_X7_secondsToNext : GoodIn wsL_secondsToNext wsX7_secondsToNext := goodIn_ca (goodIn_r _ [6, 7, 8, 9, 10, 11, 5, 12, 13, 14, 15, 16, 17, 18, 19, 20, 21, 22, 23, 24, 25, 26, 27, 28, 29, 30, 31, 32, 33, 34, 35, 36, 37, 38, 39, 40, 41, 42, 43, 44, 45, 46, 47, 48, 49, 50, 51, 52, 53, 54, 55, 56, 57, 58, 59, 60, 61, 62, 63, 64, 65, 66, 67, 68, 69, 70, 71, 72, 73, 74, 75, 76, 77, 78, 79, 80, 81, 82, 83, 84, 85, 86, 87, 88, 89, 90, 91, 92, 93, 94, 95, 96, 97, 98, 99, 100, 101, 102, 103, 104, 105, 106, 107, 108, 109, 110, 111, 112, 113, 114, 115, 116, 117, 118, 119, 120, 121, 122, 123, 124, 125, 126, 127, 128, 129, 130, 131, 132, 133, 134, 135, 136, 137, 138, 139, 140, 141, 142, 143, 144, 145, 146, 147, 148, 149, 150, 151, 152, 153, 154, 155, 156, 157, 158, 159, 160, 161, 162, 163, 164, 165, 166, 167, 168, 169, 170, 171, 172, 173, 174, 175, 176, 177, 178, 179, 180, 181, 182, 183, 184, 185] (by decide +kernel) (by decide +kernel)) (goodIn_sub (fun _ h => List.mem_cons_of_mem _ (List.mem_append_right _ h)) (by decide +kernel))
set_option maxRecDepth 20000 in
theorem gL_secondsToNext_X7_secondsToNext : GoodIn wsL_secondsToNext (wsV RL 117 RX7 yX7_secondsToNext wsX7_secondsToNext) := goodIn_app (goodIn_of _ (by decide +kernel)) ggL_secondsToNext_X7_secondsToNext
set_option maxRecDepth 20000 in
theorem ggL_flownWithPace_X7_flownWithPace : GoodIn wsL_flownWithPace wsX7_flownWithPace := goodIn_ca (goodIn_ca (goodIn_ca (goodIn_r _ [8, 9, 10, 11, 7, 12, 13, 14, 15, 16, 17, 18, 19, 20, 21, 22, 23, 24, 25, 26, 27, 28, 29, 30, 31, 32, 33, 34, 35, 36, 37, 38, 39, 40, 41, 42, 43, 44, 45, 46, 47, 48, 49, 50, 51, 52, 53, 54, 55, 56, 57, 58, 59, 60, 61, 62, 63, 64, 65, 66, 67, 68, 69, 70, 71, 72, 73, 74, 75, 76, 77, 78, 79, 80, 81, 82, 83, 84, 85, 86, 87, 88, 89, 90, 91, 92, 93, 94, 95, 96, 97, 98, 99, 100, 101, 102, 103, 104, 105, 106, 107, 108, 109, 110, 111, 112, 113, 114, 115, 116, 117, 118, 119, 120, 121, 122, 123, 124, 125, 126, 127, 128, 129, 130, 131, 132, 133, 134, 135, 136, 137, 138, 139, 140, 141, 142, 143, 144, 145, 146, 147, 148, 149, 150, 151, 152, 153, 154, 155, 156, 157, 158, 159, 160, 161, 162, 163, 164, 165, 166, 167, 168, 169, 170, 171, 172, 173, 174, 175, 176, 177, 178, 179, 180, 181, 182, 183, 184, 185, 186, 187, 188, 189, 190, 191, 192, 193, 194, 195, 196, 197, 198, 199, 200, 201, 202, 203, 204, 205, 206, 207, 208, 209, 210, 211] (by decide +kernel) (by decide +kernel)) (goodIn_sub (fun _ h => List.mem_cons_of_mem _ (List.mem_append_left _ (List.mem_append_left _ (List.mem_append_right _ h)))) (by decide +kernel))) (goodIn_sub (fun _ h => List.mem_cons_of_mem _ (List.mem_append_left _ (List.mem_append_right _ h))) (by decide +kernel))) (goodIn_sub (fun _ h => List.mem_cons_of_mem _ (List.mem_append_right _ h)) (by decide +kernel))
set_option maxRecDepth 20000 in
theorem gL_flownWithPace_X7_flownWithPace : GoodIn wsL_flownWithPace (wsV RL 120 RX7 yX7_flownWithPace wsX7_flownWithPace) := goodIn_app (goodIn_of _ (by decide +kernel)) ggL_flownWithPace_X7_flownWithPace
set_option maxRecDepth 20000 in
theorem ggL_bestPace_X7_bestPace : GoodIn wsL_bestPace wsX7_bestPace := goodIn_ca (goodIn_ca (goodIn_r _ [7, 8, 9, 10, 6, 11, 12, 13, 14, 15, 16, 17, 18, 19, 20, 21, 22, 23, 24, 25, 26, 27, 28, 29, 30, 31, 32, 33, 34, 35, 36, 37, 38, 39, 40, 41, 42, 43, 44, 45, 46, 47, 48, 49, 50, 51, 52, 53, 54, 55, 56, 57, 58, 59, 60, 61, 62, 63, 64, 65, 66, 67, 68, 69, 70, 71, 72, 73, 74, 75, 76, 77, 78, 79, 80, 81, 82, 83, 84, 85, 86, 87, 88, 89, 90, 91, 92, 93, 94, 95, 96, 97, 98, 99, 100, 101, 102, 103, 104, 105, 106, 107, 108, 109, 110, 111, 112, 113, 114, 115, 116, 117, 118, 119, 120, 121, 122, 123, 124, 125, 126, 127, 128, 129, 130, 131, 132, 133, 134, 135, 136, 137, 138, 139, 140, 141, 142, 143, 144, 145, 146, 147, 148, 149, 150, 151, 152, 153, 154, 155, 156, 157, 158, 159, 160, 161, 162, 163, 164, 165, 166, 167, 168, 169, 170, 171, 172, 173, 174, 175, 176, 177, 178, 179, 180, 181, 182, 183, 184, 185, 186, 187, 188, 189, 190, 191, 192, 193, 194, 195, 196, 197, 198, 199, 200, 201, 202, 203, 204, 205, 206] (by decide +kernel) (by decide +kernel)) (goodIn_sub (fun _ h => List.mem_cons_of_mem _ (List.mem_append_left _ (List.mem_append_right _ h))) (by decide +kernel))) (goodIn_sub (fun _ h => List.mem_cons_of_mem _ (List.mem_append_right _ h)) (by decide +kernel))
set_option maxRecDepth 20000 in
theorem gL_bestPace_X7_bestPace : GoodIn wsL_bestPace (wsV RL 123 RX7 yX7_bestPace wsX7_bestPace) := goodIn_app (goodIn_of _ (by decide +kernel)) ggL_bestPace_X7_bestPace
set_option maxRecDepth 20000 in
theorem ggL_arrivedAt_X7_arrivedAt : GoodIn wsL_arrivedAt wsX7_arrivedAt := goodIn_ca (goodIn_r _ [6, 7, 8, 9, 10, 11, 12, 13, 14, 15, 16, 17, 18, 19, 20, 21, 22, 23, 24, 25, 26, 27, 28, 29, 30, 31, 32, 33, 34, 35, 36, 37, 38, 39, 40, 41, 42, 43, 44, 45, 46, 47, 48, 49, 50, 51, 52, 53, 54, 55, 56, 57, 58, 59] (by decide +kernel) (by decide +kernel)) (goodIn_sub (fun _ h => List.mem_cons_of_mem _ (List.mem_append_right _ h)) (by decide +kernel))
set_option maxRecDepth 20000 in
theorem gL_arrivedAt_X7_arrivedAt : GoodIn wsL_arrivedAt (wsV RL 126 RX7 yX7_arrivedAt wsX7_arrivedAt) := goodIn_app (goodIn_of _ (by decide +kernel)) ggL_arrivedAt_X7_arrivedAt
set_option maxRecDepth 20000 in
theorem ggL_timeOf_X7_timeOf : GoodIn wsL_timeOf wsX7_timeOf := goodIn_ca (goodIn_ca (goodIn_r _ [7, 8, 9, 10, 11, 12, 13, 14, 6, 15, 16, 17, 18, 19, 20, 21, 22, 23, 24, 25, 26, 27, 28, 29, 30, 31, 32, 33, 34, 35, 36, 37, 38, 39, 40, 41, 42, 43, 44, 45, 46, 47, 48, 49, 50, 51, 52, 53, 54, 55, 56, 57, 58, 59, 60] (by decide +kernel) (by decide +kernel)) (goodIn_sub (fun _ h => List.mem_cons_of_mem _ (List.mem_append_left _ (List.mem_append_right _ h))) (by decide +kernel))) (goodIn_sub (fun _ h => List.mem_cons_of_mem _ (List.mem_append_right _ h)) (by decide +kernel))
set_option maxRecDepth 20000 in
theorem gL_timeOf_X7_timeOf : GoodIn wsL_timeOf (wsV RL 129 RX7 yX7_timeOf wsX7_timeOf) := goodIn_app (goodIn_of _ (by decide +kernel)) ggL_timeOf_X7_timeOf
set_option maxRecDepth 20000 in
theorem ggL_law_X7_init : GoodIn wsL_law wsX7_init := goodIn_r _ [9, 10, 11, 12, 13, 14, 15, 16, 17, 18, 19, 20, 21, 22, 23, 24, 25, 26, 27, 28, 29, 30, 31, 32, 33, 34, 35, 36, 37, 38, 39, 40, 41, 42, 43, 44, 45, 46, 47, 48, 49, 50, 51, 52, 53, 54, 55, 56, 57, 58, 59, 60, 61, 62, 63, 64, 65, 66, 67, 68, 69, 70, 71, 72, 73, 74, 75, 1252, 1253, 1254, 1255, 1256, 1257, 1258, 1259, 1260, 1261, 1262, 1263, 1264, 1265, 1229, 1230, 1231, 1232, 1233, 1234, 1266, 1267, 1268, 1269, 1270, 1271, 1272, 1273, 1274, 1275, 1276, 1277, 1278, 1279, 1280, 1281, 1282, 1283, 1284, 1285, 1286, 1287, 1288, 1289, 1290] (by decide +kernel) (by decide +kernel)
set_option maxRecDepth 20000 in
theorem gL_law_X7_init : GoodIn wsL_law (wsX7_init) := ggL_law_X7_init
set_option maxRecDepth 20000 in
theorem ggL_law_X8_init : GoodIn wsL_law wsX8_init := goodIn_r _ [78, 79, 11, 12, 41, 80, 81, 82, 83, 65, 84, 85, 86, 1235, 1236, 1237, 1238, 1239, 1240, 1241, 1242, 1243, 1244, 1245, 1246, 1247, 1248, 1249, 1250, 1251] (by decide +kernel) (by decide +kernel)
set_option maxRecDepth 20000 in
theorem gL_law_X8_init : GoodIn wsL_law (wsX8_init) := ggL_law_X8_init
set_option maxRecDepth 20000 in
theorem ggL_law_L_enter : GoodIn wsL_law wsL_enter := goodIn_ca (goodIn_ca (goodIn_r _ [90, 91, 92, 93, 94, 95, 2, 96, 97, 98, 99, 100, 16, 101, 102, 21, 103, 104, 105, 106, 107, 108, 20, 109, 110, 57, 111, 112, 113, 114, 115, 116, 117, 15, 118, 39, 42, 119, 43, 120, 121, 122, 123, 124, 125, 126, 127, 128, 129, 130, 131, 45, 132, 133, 134, 135, 136, 137, 138, 139, 140, 141, 142, 143, 51, 144, 145, 146, 147, 148, 149, 150, 151, 152, 153, 154, 155, 156, 157, 158, 159, 160, 161, 1229, 1230, 1231, 1232, 1233, 1234, 1252, 1253, 1254, 1255, 1256, 1257, 1258, 1259, 1260, 1261, 1262, 1263, 1264, 1265, 1266, 1267, 1276, 1277, 1278, 1279, 1280, 1281, 1282, 1283, 1284, 1285, 1286, 1287, 1288, 1289, 1290] (by decide +kernel) (by decide +kernel)) (goodIn_sub (fun _ h => List.mem_append_left _ (List.mem_append_left _ (List.mem_append_right _ h))) (by decide +kernel))) (goodIn_sub (fun _ h => List.mem_append_left _ (List.mem_append_right _ h)) (by decide +kernel))
set_option maxRecDepth 20000 in
theorem gL_law_L_enter : GoodIn wsL_law (va_wsS RL 136 yL_enter wsL_enter) := goodIn_app (goodIn_of _ (by decide +kernel)) ggL_law_L_enter
set_option maxRecDepth 20000 in
theorem ggL_law_X8_enter : GoodIn wsL_law wsX8_enter := goodIn_r _ [165, 80, 166, 167, 5, 168, 169, 170, 171, 172, 173, 174, 175, 176, 177, 178, 82, 1235, 1236, 1237, 1238, 1239, 1240, 1241, 1242, 1243, 1244, 1245, 1246, 1247, 1248, 1249, 1250, 1251] (by decide +kernel) (by decide +kernel)
set_option maxRecDepth 20000 in
theorem gL_law_X8_enter : GoodIn wsL_law (wsV RL 141 RX8 yX8_enter wsX8_enter) := goodIn_app (goodIn_of _ (by decide +kernel)) ggL_law_X8_enter
set_option maxRecDepth 20000 in
theorem ggL_law_X8_thrown : GoodIn wsL_law wsX8_thrown := goodIn_r _ [182, 173, 1235, 1236, 1237, 1238, 1239, 1240, 1241, 1242, 1243, 1244, 1245, 1246, 1247, 1248, 1249, 1250, 1251] (by decide +kernel) (by decide +kernel)
set_option maxRecDepth 20000 in
theorem gL_law_X8_thrown : GoodIn wsL_law (wsV RL 142 RX8 yX8_thrown wsX8_thrown) := goodIn_app (goodIn_of _ (by decide +kernel)) ggL_law_X8_thrown
set_option maxRecDepth 20000 in
theorem ggL_law_L_setPace : GoodIn wsL_law wsL_setPace := goodIn_ca (goodIn_ca (goodIn_r _ [185, 186, 91, 187, 188, 189, 2, 190, 21, 16, 191, 192, 193, 194, 195, 196, 197, 198, 155, 156, 15, 157, 119, 39, 199, 200, 201, 97, 98, 103, 104, 105, 106, 107, 108, 20, 109, 110, 57, 111, 112, 113, 114, 115, 116, 117, 118, 42, 43, 120, 121, 122, 123, 124, 125, 126, 127, 128, 129, 130, 131, 45, 132, 133, 134, 135, 136, 137, 138, 139, 140, 141, 142, 143, 51, 144, 145, 1229, 1230, 1231, 1232, 1233, 1234, 1276, 1277, 1278, 1279, 1280, 1281, 1282, 1283, 1284, 1285, 1286, 1287, 1288, 1289, 1290, 1252, 1253, 1254, 1255, 1256, 1257, 1258, 1259, 1260, 1261, 1262, 1263, 1264, 1265, 1266, 1267] (by decide +kernel) (by decide +kernel)) (goodIn_sub (fun _ h => List.mem_append_right _ h) (by decide +kernel))) (goodIn_sub (fun _ h => List.mem_append_left _ (List.mem_append_left _ (List.mem_append_right _ h))) (by decide +kernel))
set_option maxRecDepth 20000 in
theorem gL_law_L_setPace : GoodIn wsL_law (va_wsS RL 145 yL_setPace wsL_setPace) := goodIn_app (goodIn_of _ (by decide +kernel)) ggL_law_L_setPace
set_option maxRecDepth 20000 in
theorem ggL_law_X8_setPace : GoodIn wsL_law wsX8_setPace := goodIn_r _ [205, 206, 207, 208, 5, 209, 80, 166, 167, 168, 169, 170, 171, 172, 173, 174, 175, 176, 177, 178, 82, 210, 211, 212, 213, 214, 215, 216, 217, 1235, 1236, 1237, 1238, 1239, 1240, 1241, 1242, 1243, 1244, 1245, 1246, 1247, 1248, 1249, 1250, 1251] (by decide +kernel) (by decide +kernel)
set_option maxRecDepth 20000 in
theorem gL_law_X8_setPace : GoodIn wsL_law (wsV RL 148 RX8 yX8_setPace wsX8_setPace) := goodIn_app (goodIn_of _ (by decide +kernel)) ggL_law_X8_setPace
set_option maxRecDepth 20000 in
theorem ggL_law_L_callIn : GoodIn wsL_law wsL_callIn := goodIn_ca (goodIn_ca (goodIn_r _ [220, 186, 92, 221, 222, 223, 2, 224, 99, 100, 225, 21, 16, 226, 192, 193, 194, 195, 196, 197, 198, 155, 156, 15, 157, 119, 39, 106, 107, 108, 20, 109, 110, 57, 111, 112, 113, 114, 115, 116, 117, 118, 42, 43, 120, 121, 122, 123, 124, 125, 126, 127, 128, 129, 130, 131, 45, 132, 133, 134, 135, 136, 137, 138, 139, 140, 141, 142, 143, 51, 144, 145, 1276, 1277, 1278, 1279, 1280, 1281, 1282, 1283, 1284, 1285, 1286, 1287, 1288, 1289, 1290, 1229, 1230, 1231, 1232, 1233, 1234, 1252, 1253, 1254, 1255, 1256, 1257, 1258, 1259, 1260, 1261, 1262, 1263, 1264, 1265, 1266, 1267] (by decide +kernel) (by decide +kernel)) (goodIn_sub (fun _ h => List.mem_append_left _ (List.mem_append_right _ h)) (by decide +kernel))) (goodIn_sub (fun _ h => List.mem_append_right _ h) (by decide +kernel))
set_option maxRecDepth 20000 in
theorem gL_law_L_callIn : GoodIn wsL_law (va_wsS RL 149 yL_callIn wsL_callIn) := goodIn_app (goodIn_of _ (by decide +kernel)) ggL_law_L_callIn
set_option maxRecDepth 20000 in
theorem ggL_law_X8_callIn : GoodIn wsL_law wsX8_callIn := goodIn_r _ [230, 206, 207, 208, 5, 209, 80, 166, 167, 168, 231, 232, 233, 234, 214, 215, 216, 217, 169, 170, 171, 172, 173, 174, 175, 176, 177, 178, 82, 235, 236, 237, 238, 1235, 1236, 1237, 1238, 1239, 1240, 1241, 1242, 1243, 1244, 1245, 1246, 1247, 1248, 1249, 1250, 1251] (by decide +kernel) (by decide +kernel)
set_option maxRecDepth 20000 in
theorem gL_law_X8_callIn : GoodIn wsL_law (wsV RL 152 RX8 yX8_callIn wsX8_callIn) := goodIn_app (goodIn_of _ (by decide +kernel)) ggL_law_X8_callIn
set_option maxRecDepth 20000 in
theorem ggL_law_L_pair : GoodIn wsL_law wsL_pair := goodIn_ca (goodIn_ca (goodIn_r _ [241, 186, 91, 242, 243, 244, 2, 245, 97, 98, 21, 16, 192, 193, 194, 195, 196, 197, 198, 155, 156, 15, 157, 119, 39, 106, 107, 108, 20, 109, 110, 57, 111, 112, 113, 114, 115, 116, 117, 118, 42, 43, 120, 121, 122, 123, 124, 125, 126, 127, 128, 129, 130, 131, 45, 132, 133, 134, 135, 136, 137, 138, 139, 140, 141, 142, 143, 51, 144, 145, 246, 247, 248, 249, 250, 153, 251, 252, 253, 254, 154, 255, 256, 257, 258, 259, 260, 261, 262, 1229, 1230, 1231, 1232, 1233, 1234, 1252, 1253, 1254, 1255, 1256, 1257, 1258, 1259, 1260, 1261, 1262, 1263, 1264, 1265, 1266, 1267, 1276, 1277, 1278, 1279, 1280, 1281, 1282, 1283, 1284, 1285, 1286, 1287, 1288, 1289, 1290] (by decide +kernel) (by decide +kernel)) (goodIn_sub (fun _ h => List.mem_append_left _ (List.mem_append_left _ (List.mem_append_right _ h))) (by decide +kernel))) (goodIn_sub (fun _ h => List.mem_append_right _ h) (by decide +kernel))
set_option maxRecDepth 20000 in
theorem gL_law_L_pair : GoodIn wsL_law (va_wsS RL 153 yL_pair wsL_pair) := goodIn_app (goodIn_of _ (by decide +kernel)) ggL_law_L_pair
set_option maxRecDepth 20000 in
theorem ggL_law_X8_pair : GoodIn wsL_law wsX8_pair := goodIn_r _ [266, 80, 206, 207, 208, 5, 209, 166, 167, 168, 169, 170, 171, 172, 173, 174, 175, 176, 177, 178, 82, 267, 268, 269, 270, 214, 215, 216, 217, 1235, 1236, 1237, 1238, 1239, 1240, 1241, 1242, 1243, 1244, 1245, 1246, 1247, 1248, 1249, 1250, 1251] (by decide +kernel) (by decide +kernel)
set_option maxRecDepth 20000 in
theorem gL_law_X8_pair : GoodIn wsL_law (wsV RL 155 RX8 yX8_pair wsX8_pair) := goodIn_app (goodIn_of _ (by decide +kernel)) ggL_law_X8_pair
set_option maxRecDepth 20000 in
theorem ggL_law_L_setLimit : GoodIn wsL_law wsL_setLimit := goodIn_ca (goodIn_ca (goodIn_r _ [273, 186, 91, 274, 275, 276, 2, 277, 97, 98, 21, 16, 278, 279, 280, 196, 197, 106, 107, 108, 20, 109, 110, 57, 111, 112, 113, 114, 115, 116, 117, 15, 118, 39, 42, 119, 43, 120, 121, 122, 123, 124, 125, 126, 127, 128, 129, 130, 131, 45, 132, 133, 134, 135, 136, 137, 138, 139, 140, 141, 142, 143, 51, 144, 145, 281, 282, 283, 284, 285, 286, 287, 288, 1229, 1230, 1231, 1232, 1233, 1234, 1266, 1267, 1252, 1253, 1254, 1255, 1256, 1257, 1258, 1259, 1260, 1261, 1262, 1263, 1264, 1265, 1276, 1277, 1278, 1279, 1280, 1281, 1282, 1283, 1284, 1285, 1286, 1287, 1288, 1289, 1290] (by decide +kernel) (by decide +kernel)) (goodIn_sub (fun _ h => List.mem_append_left _ (List.mem_append_left _ (List.mem_append_right _ h))) (by decide +kernel))) (goodIn_sub (fun _ h => List.mem_append_right _ h) (by decide +kernel))
set_option maxRecDepth 20000 in
theorem gL_law_L_setLimit : GoodIn wsL_law (va_wsS RL 156 yL_setLimit wsL_setLimit) := goodIn_app (goodIn_of _ (by decide +kernel)) ggL_law_L_setLimit
set_option maxRecDepth 20000 in
theorem ggL_law_X8_setLimit : GoodIn wsL_law wsX8_setLimit := goodIn_r _ [292, 166, 167, 5, 168, 169, 170, 171, 172, 173, 174, 175, 176, 177, 178, 82, 80, 293, 294, 295, 296, 1235, 1236, 1237, 1238, 1239, 1240, 1241, 1242, 1243, 1244, 1245, 1246, 1247, 1248, 1249, 1250, 1251] (by decide +kernel) (by decide +kernel)
set_option maxRecDepth 20000 in
theorem gL_law_X8_setLimit : GoodIn wsL_law (wsV RL 158 RX8 yX8_setLimit wsX8_setLimit) := goodIn_app (goodIn_of _ (by decide +kernel)) ggL_law_X8_setLimit
set_option maxRecDepth 20000 in
theorem ggL_law_L_setLaps : GoodIn wsL_law wsL_setLaps := goodIn_ca (goodIn_ca (goodIn_r _ [299, 91, 92, 300, 301, 302, 2, 303, 97, 98, 99, 100, 16, 102, 21, 304, 106, 107, 108, 20, 109, 110, 57, 111, 112, 113, 114, 115, 116, 117, 15, 118, 39, 42, 119, 43, 120, 121, 122, 123, 124, 125, 126, 127, 128, 129, 130, 131, 45, 132, 133, 134, 135, 136, 137, 138, 139, 140, 141, 142, 143, 51, 144, 145, 1229, 1230, 1231, 1232, 1233, 1234, 1252, 1253, 1254, 1255, 1256, 1257, 1258, 1259, 1260, 1261, 1262, 1263, 1264, 1265, 1266, 1267, 1276, 1277, 1278, 1279, 1280, 1281, 1282, 1283, 1284, 1285, 1286, 1287, 1288, 1289, 1290] (by decide +kernel) (by decide +kernel)) (goodIn_sub (fun _ h => List.mem_append_left _ (List.mem_append_left _ (List.mem_append_right _ h))) (by decide +kernel))) (goodIn_sub (fun _ h => List.mem_append_left _ (List.mem_append_right _ h)) (by decide +kernel))
set_option maxRecDepth 20000 in
theorem gL_law_L_setLaps : GoodIn wsL_law (va_wsS RL 159 yL_setLaps wsL_setLaps) := goodIn_app (goodIn_of _ (by decide +kernel)) ggL_law_L_setLaps
set_option maxRecDepth 20000 in
theorem ggL_law_X8_setLaps : GoodIn wsL_law wsX8_setLaps := goodIn_r _ [308, 80, 166, 167, 5, 168, 169, 170, 171, 172, 173, 174, 175, 176, 177, 178, 82, 293, 294, 295, 296, 1235, 1236, 1237, 1238, 1239, 1240, 1241, 1242, 1243, 1244, 1245, 1246, 1247, 1248, 1249, 1250, 1251] (by decide +kernel) (by decide +kernel)
set_option maxRecDepth 20000 in
theorem gL_law_X8_setLaps : GoodIn wsL_law (wsV RL 161 RX8 yX8_setLaps wsX8_setLaps) := goodIn_app (goodIn_of _ (by decide +kernel)) ggL_law_X8_setLaps
set_option maxRecDepth 20000 in
theorem ggL_law_L_begin : GoodIn wsL_law wsL_begin := goodIn_ca (goodIn_r _ [311, 92, 312, 313, 314, 2, 315, 99, 100, 16, 101, 21, 106, 107, 108, 20, 109, 110, 57, 111, 112, 113, 114, 115, 116, 117, 15, 118, 39, 42, 119, 43, 120, 121, 122, 123, 124, 125, 126, 127, 128, 129, 130, 131, 45, 132, 133, 134, 135, 136, 137, 138, 139, 140, 141, 142, 143, 51, 144, 145, 316, 317, 318, 319, 259, 260, 261, 262, 250, 158, 159, 160, 161, 1229, 1230, 1231, 1232, 1233, 1234, 1252, 1253, 1254, 1255, 1256, 1257, 1258, 1259, 1260, 1261, 1262, 1263, 1264, 1265, 1266, 1267, 1276, 1277, 1278, 1279, 1280, 1281, 1282, 1283, 1284, 1285, 1286, 1287, 1288, 1289, 1290] (by decide +kernel) (by decide +kernel)) (goodIn_sub (fun _ h => List.mem_append_left _ (List.mem_append_right _ h)) (by decide +kernel))
set_option maxRecDepth 20000 in
theorem gL_law_L_begin : GoodIn wsL_law (va_wsS RL 162 yL_begin wsL_begin) := goodIn_app (goodIn_of _ (by decide +kernel)) ggL_law_L_begin
set_option maxRecDepth 20000 in
theorem ggL_law_X8_begin : GoodIn wsL_law wsX8_begin := goodIn_r _ [323, 80, 169, 170, 171, 5, 172, 173, 174, 175, 176, 177, 178, 82, 1235, 1236, 1237, 1238, 1239, 1240, 1241, 1242, 1243, 1244, 1245, 1246, 1247, 1248, 1249, 1250, 1251] (by decide +kernel) (by decide +kernel)
set_option maxRecDepth 20000 in
theorem gL_law_X8_begin : GoodIn wsL_law (wsV RL 165 RX8 yX8_begin wsX8_begin) := goodIn_app (goodIn_of _ (by decide +kernel)) ggL_law_X8_begin
set_option maxRecDepth 20000 in
theorem ggL_law_L_pass : GoodIn wsL_law wsL_pass := goodIn_ca (goodIn_ca (goodIn_r _ [326, 91, 92, 327, 328, 329, 2, 330, 21, 16, 331, 332, 333, 334, 97, 98, 335, 336, 337, 338, 99, 100, 102, 106, 107, 108, 20, 109, 110, 57, 111, 112, 113, 114, 115, 116, 117, 15, 118, 39, 42, 119, 43, 120, 121, 122, 123, 124, 125, 126, 127, 128, 129, 130, 131, 45, 132, 133, 134, 135, 136, 137, 138, 139, 140, 141, 142, 143, 51, 144, 145, 339, 340, 341, 342, 343, 344, 345, 346, 259, 260, 261, 262, 250, 347, 348, 349, 350, 40, 351, 352, 353, 354, 50, 355, 356, 357, 358, 359, 360, 361, 362, 363, 364, 365, 366, 367, 368, 369, 370, 371, 372, 373, 374, 375, 376, 377, 378, 379, 380, 381, 382, 383, 384, 385, 153, 386, 387, 388, 389, 150, 390, 391, 392, 393, 394, 282, 283, 284, 395, 396, 397, 398, 399, 400, 401, 402, 403, 404, 405, 406, 407, 408, 409, 410, 411, 412, 413, 414, 415, 416, 417, 418, 419, 420, 421, 422, 423, 1229, 1230, 1231, 1232, 1233, 1234, 1252, 1253, 1254, 1255, 1256, 1257, 1258, 1259, 1260, 1261, 1262, 1263, 1264, 1265, 1266, 1267, 1276, 1277, 1278, 1279, 1280, 1281, 1282, 1283, 1284, 1285, 1286, 1287, 1288, 1289, 1290] (by decide +kernel) (by decide +kernel)) (goodIn_sub (fun _ h => List.mem_append_left _ (List.mem_append_left _ (List.mem_append_right _ h))) (by decide +kernel))) (goodIn_sub (fun _ h => List.mem_append_left _ (List.mem_append_right _ h)) (by decide +kernel))
set_option maxRecDepth 20000 in
theorem gL_law_L_pass : GoodIn wsL_law (va_wsS RL 166 yL_pass wsL_pass) := goodIn_app (goodIn_of _ (by decide +kernel)) ggL_law_L_pass
set_option maxRecDepth 20000 in
theorem ggL_law_X8_pass : GoodIn wsL_law wsX8_pass := goodIn_r _ [427, 80, 166, 167, 5, 168, 169, 170, 171, 172, 173, 174, 175, 176, 177, 178, 82, 428, 429, 430, 431, 432, 433, 434, 435, 86, 436, 437, 438, 439, 440, 441, 442, 443, 231, 232, 233, 234, 214, 215, 216, 217, 444, 445, 446, 447, 448, 449, 450, 451, 452, 453, 454, 455, 456, 457, 458, 459, 460, 461, 462, 463, 464, 465, 466, 467, 468, 469, 470, 471, 472, 473, 474, 475, 476, 477, 478, 479, 480, 481, 482, 483, 484, 485, 486, 487, 1235, 1236, 1237, 1238, 1239, 1240, 1241, 1242, 1243, 1244, 1245, 1246, 1247, 1248, 1249, 1250, 1251] (by decide +kernel) (by decide +kernel)
set_option maxRecDepth 20000 in
theorem gL_law_X8_pass : GoodIn wsL_law (wsV RL 168 RX8 yX8_pass wsX8_pass) := goodIn_app (goodIn_of _ (by decide +kernel)) ggL_law_X8_pass
set_option maxRecDepth 20000 in
theorem ggL_law_L_append : GoodIn wsL_law wsL_append := goodIn_ca (goodIn_ca (goodIn_r _ [490, 91, 92, 491, 492, 493, 2, 494, 97, 98, 99, 100, 29, 495, 496, 497, 498, 28, 499, 500, 72, 501, 502, 503, 504, 1229, 1230, 1231, 1232, 1233, 1234, 1270, 1271] (by decide +kernel) (by decide +kernel)) (goodIn_sub (fun _ h => List.mem_append_left _ (List.mem_append_left _ (List.mem_append_right _ h))) (by decide +kernel))) (goodIn_sub (fun _ h => List.mem_append_left _ (List.mem_append_right _ h)) (by decide +kernel))
set_option maxRecDepth 20000 in
theorem gL_law_L_append : GoodIn wsL_law (va_wsS RL 169 yL_append wsL_append) := goodIn_app (goodIn_of _ (by decide +kernel)) ggL_law_L_append
set_option maxRecDepth 20000 in
theorem ggL_law_X8_append : GoodIn wsL_law wsX8_append := goodIn_r _ [508, 509, 85, 166, 167, 5, 168, 169, 170, 171, 172, 173, 1235, 1236, 1237, 1238, 1239, 1240, 1241, 1242, 1243, 1244, 1245, 1246, 1247, 1248, 1249, 1250, 1251] (by decide +kernel) (by decide +kernel)
set_option maxRecDepth 20000 in
theorem gL_law_X8_append : GoodIn wsL_law (wsV RL 171 RX8 yX8_append wsX8_append) := goodIn_app (goodIn_of _ (by decide +kernel)) ggL_law_X8_append
set_option maxRecDepth 20000 in
theorem ggL_law_X7_clearBuffer : GoodIn wsL_law wsX7_clearBuffer := goodIn_r _ [513, 29, 495, 1229, 1230, 1231, 1232, 1233, 1234, 1270, 1271] (by decide +kernel) (by decide +kernel)
set_option maxRecDepth 20000 in
theorem gL_law_X7_clearBuffer : GoodIn wsL_law (wsV RL 172 RX7 yX7_clearBuffer wsX7_clearBuffer) := goodIn_app (goodIn_of _ (by decide +kernel)) ggL_law_X7_clearBuffer
set_option maxRecDepth 20000 in
theorem ggL_law_X8_clearBuffer : GoodIn wsL_law wsX8_clearBuffer := goodIn_r _ [517, 173, 509, 1235, 1236, 1237, 1238, 1239, 1240, 1241, 1242, 1243, 1244, 1245, 1246, 1247, 1248, 1249, 1250, 1251] (by decide +kernel) (by decide +kernel)
set_option maxRecDepth 20000 in
theorem gL_law_X8_clearBuffer : GoodIn wsL_law (wsV RL 175 RX8 yX8_clearBuffer wsX8_clearBuffer) := goodIn_app (goodIn_of _ (by decide +kernel)) ggL_law_X8_clearBuffer
set_option maxRecDepth 20000 in
theorem ggL_law_X7_firstError : GoodIn wsL_law wsX7_firstError := goodIn_r _ [521, 522, 523, 524, 2, 525, 33, 29, 495, 526, 527, 528, 32, 529, 530, 531, 532, 533, 534, 535, 536, 28, 537, 72, 538, 539, 540, 541, 542, 543, 544, 545, 546, 547, 548, 549, 550, 551, 552, 553, 554, 555, 556, 557, 558, 559, 560, 561, 562, 563, 564, 565, 566, 567, 568, 569, 570, 1229, 1230, 1231, 1232, 1233, 1234, 1270, 1271, 1272, 1273, 1274, 1275] (by decide +kernel) (by decide +kernel)
set_option maxRecDepth 20000 in
theorem gL_law_X7_firstError : GoodIn wsL_law (wsV RL 176 RX7 yX7_firstError wsX7_firstError) := goodIn_app (goodIn_of _ (by decide +kernel)) ggL_law_X7_firstError
set_option maxRecDepth 20000 in
theorem ggL_law_X8_firstError : GoodIn wsL_law wsX8_firstError := goodIn_r _ [574, 173, 509, 575, 576, 577, 578, 5, 579, 580, 581, 582, 583, 584, 585, 586, 587, 588, 589, 590, 591, 85, 592, 593, 594, 595, 596, 597, 598, 599, 600, 601, 602, 603, 166, 167, 168, 1235, 1236, 1237, 1238, 1239, 1240, 1241, 1242, 1243, 1244, 1245, 1246, 1247, 1248, 1249, 1250, 1251] (by decide +kernel) (by decide +kernel)
set_option maxRecDepth 20000 in
theorem gL_law_X8_firstError : GoodIn wsL_law (wsV RL 179 RX8 yX8_firstError wsX8_firstError) := goodIn_app (goodIn_of _ (by decide +kernel)) ggL_law_X8_firstError
set_option maxRecDepth 20000 in
theorem ggL_law_L_follow : GoodIn wsL_law wsL_follow := goodIn_ca (goodIn_ca (goodIn_r _ [606, 91, 92, 607, 608, 609, 2, 610, 97, 98, 99, 100, 29, 495, 33, 21, 16, 17, 522, 523, 524, 525, 526, 527, 528, 32, 529, 530, 531, 532, 533, 534, 535, 536, 28, 537, 72, 538, 539, 540, 541, 542, 543, 544, 545, 546, 547, 548, 549, 550, 551, 552, 553, 554, 555, 556, 557, 558, 559, 560, 561, 562, 563, 564, 565, 566, 567, 568, 569, 570, 611, 612, 613, 614, 615, 616, 116, 117, 15, 118, 39, 42, 119, 43, 120, 121, 122, 123, 124, 125, 126, 127, 128, 129, 130, 131, 45, 132, 133, 134, 135, 136, 137, 138, 139, 140, 141, 142, 143, 51, 144, 145, 617, 618, 619, 620, 621, 622, 623, 191, 225, 226, 102, 198, 155, 156, 157, 285, 286, 287, 288, 339, 340, 341, 342, 343, 344, 345, 346, 259, 260, 261, 262, 250, 347, 348, 349, 350, 40, 351, 352, 353, 354, 50, 355, 356, 357, 358, 359, 360, 361, 362, 363, 364, 365, 366, 367, 368, 369, 370, 371, 372, 373, 374, 375, 376, 377, 378, 379, 380, 381, 382, 383, 384, 385, 153, 386, 387, 388, 389, 150, 390, 391, 392, 393, 394, 282, 283, 284, 395, 396, 397, 398, 399, 400, 401, 402, 403, 404, 405, 406, 407, 408, 409, 410, 411, 412, 413, 414, 415, 416, 417, 418, 419, 420, 421, 422, 423, 106, 107, 108, 20, 109, 110, 57, 111, 112, 113, 114, 115, 1229, 1230, 1231, 1232, 1233, 1234, 1270, 1271, 1272, 1273, 1274, 1275, 1252, 1253, 1254, 1255, 1256, 1257, 1258, 1259, 1260, 1261, 1262, 1263, 1264, 1265, 1276, 1277, 1278, 1279, 1280, 1281, 1282, 1283, 1284, 1285, 1286, 1287, 1288, 1289, 1290, 1266, 1267] (by decide +kernel) (by decide +kernel)) (goodIn_sub (fun _ h => List.mem_append_left _ (List.mem_append_left _ (List.mem_append_right _ h))) (by decide +kernel))) (goodIn_sub (fun _ h => List.mem_append_left _ (List.mem_append_right _ h)) (by decide +kernel))
set_option maxRecDepth 20000 in
theorem gL_law_L_follow : GoodIn wsL_law (va_wsS RL 180 yL_follow wsL_follow) := goodIn_app (goodIn_of _ (by decide +kernel)) ggL_law_L_follow
set_option maxRecDepth 20000 in
theorem ggL_law_X8_follow : GoodIn wsL_law wsX8_follow := goodIn_r _ [627, 509, 576, 577, 578, 5, 579, 575, 580, 581, 582, 583, 584, 585, 586, 587, 588, 589, 590, 591, 85, 592, 593, 594, 595, 596, 597, 598, 599, 600, 601, 602, 603, 166, 167, 168, 169, 170, 171, 172, 173, 628, 629, 630, 631, 81, 80, 632, 633, 634, 635, 636, 637, 638, 639, 206, 207, 208, 209, 231, 232, 233, 234, 214, 215, 216, 217, 210, 211, 212, 213, 235, 236, 237, 238, 293, 294, 295, 296, 428, 429, 430, 431, 432, 433, 434, 435, 86, 436, 437, 438, 439, 440, 441, 442, 443, 444, 445, 446, 447, 448, 449, 450, 451, 452, 453, 454, 455, 456, 457, 458, 459, 460, 461, 462, 463, 464, 465, 466, 467, 468, 469, 470, 471, 472, 473, 474, 475, 476, 477, 478, 479, 480, 481, 482, 483, 484, 485, 486, 487, 640, 641, 642, 643, 174, 175, 176, 177, 178, 82, 1235, 1236, 1237, 1238, 1239, 1240, 1241, 1242, 1243, 1244, 1245, 1246, 1247, 1248, 1249, 1250, 1251] (by decide +kernel) (by decide +kernel)
set_option maxRecDepth 20000 in
theorem gL_law_X8_follow : GoodIn wsL_law (wsV RL 182 RX8 yX8_follow wsX8_follow) := goodIn_app (goodIn_of _ (by decide +kernel)) ggL_law_X8_follow
set_option maxRecDepth 20000 in
theorem ggL_law_L_keep : GoodIn wsL_law wsL_keep := goodIn_ca (goodIn_r _ [646, 91, 647, 648, 649, 2, 650, 25, 16, 651, 652, 653, 97, 98, 654, 655, 656, 24, 657, 64, 66, 658, 116, 117, 15, 118, 39, 42, 119, 43, 120, 121, 122, 123, 124, 125, 126, 127, 128, 129, 130, 131, 45, 132, 133, 134, 135, 136, 137, 138, 139, 140, 141, 142, 143, 51, 144, 145, 1229, 1230, 1231, 1232, 1233, 1234, 1268, 1269, 1252, 1253, 1254, 1255, 1256, 1257, 1258, 1259, 1260, 1261, 1262, 1263, 1264, 1265, 1276, 1277, 1278, 1279, 1280, 1281, 1282, 1283, 1284, 1285, 1286, 1287, 1288, 1289, 1290] (by decide +kernel) (by decide +kernel)) (goodIn_sub (fun _ h => List.mem_append_left _ (List.mem_append_left _ (List.mem_append_right _ h))) (by decide +kernel))
set_option maxRecDepth 20000 in
theorem gL_law_L_keep : GoodIn wsL_law (va_wsS RL 183 yL_keep wsL_keep) := goodIn_app (goodIn_of _ (by decide +kernel)) ggL_law_L_keep
set_option maxRecDepth 20000 in
theorem ggL_law_X8_keep : GoodIn wsL_law wsX8_keep := goodIn_r _ [662, 83, 80, 84, 166, 167, 5, 168, 169, 170, 171, 172, 173, 1235, 1236, 1237, 1238, 1239, 1240, 1241, 1242, 1243, 1244, 1245, 1246, 1247, 1248, 1249, 1250, 1251] (by decide +kernel) (by decide +kernel)
set_option maxRecDepth 20000 in
theorem gL_law_X8_keep : GoodIn wsL_law (wsV RL 186 RX8 yX8_keep wsX8_keep) := goodIn_app (goodIn_of _ (by decide +kernel)) ggL_law_X8_keep
set_option maxRecDepth 20000 in
theorem ggL_law_L_goBack : GoodIn wsL_law wsL_goBack := goodIn_ca (goodIn_ca (goodIn_r _ [665, 91, 92, 666, 667, 668, 2, 669, 99, 100, 25, 21, 16, 651, 652, 653, 97, 98, 670, 671, 672, 24, 673, 64, 66, 106, 107, 108, 20, 109, 110, 57, 111, 112, 113, 114, 115, 116, 117, 15, 118, 39, 42, 119, 43, 120, 121, 122, 123, 124, 125, 126, 127, 128, 129, 130, 131, 45, 132, 133, 134, 135, 136, 137, 138, 139, 140, 141, 142, 143, 51, 144, 145, 616, 1229, 1230, 1231, 1232, 1233, 1234, 1268, 1269, 1266, 1267, 1252, 1253, 1254, 1255, 1256, 1257, 1258, 1259, 1260, 1261, 1262, 1263, 1264, 1265, 1276, 1277, 1278, 1279, 1280, 1281, 1282, 1283, 1284, 1285, 1286, 1287, 1288, 1289, 1290] (by decide +kernel) (by decide +kernel)) (goodIn_sub (fun _ h => List.mem_append_left _ (List.mem_append_right _ h)) (by decide +kernel))) (goodIn_sub (fun _ h => List.mem_append_left _ (List.mem_append_left _ (List.mem_append_right _ h))) (by decide +kernel))
set_option maxRecDepth 20000 in
theorem gL_law_L_goBack : GoodIn wsL_law (va_wsS RL 187 yL_goBack wsL_goBack) := goodIn_app (goodIn_of _ (by decide +kernel)) ggL_law_L_goBack
set_option maxRecDepth 20000 in
theorem ggL_law_X8_goBack : GoodIn wsL_law wsX8_goBack := goodIn_r _ [677, 84, 80, 83, 166, 167, 5, 168, 169, 170, 171, 172, 173, 174, 175, 176, 177, 178, 82, 1235, 1236, 1237, 1238, 1239, 1240, 1241, 1242, 1243, 1244, 1245, 1246, 1247, 1248, 1249, 1250, 1251] (by decide +kernel) (by decide +kernel)
set_option maxRecDepth 20000 in
theorem gL_law_X8_goBack : GoodIn wsL_law (wsV RL 189 RX8 yX8_goBack wsX8_goBack) := goodIn_app (goodIn_of _ (by decide +kernel)) ggL_law_X8_goBack
set_option maxRecDepth 20000 in
theorem ggL_law_L_undo : GoodIn wsL_law wsL_undo := goodIn_ca (goodIn_r _ [680, 92, 681, 682, 683, 2, 684, 99, 100, 21, 16, 685, 686, 687, 20, 688, 110, 57, 616, 116, 117, 15, 118, 39, 42, 119, 43, 120, 121, 122, 123, 124, 125, 126, 127, 128, 129, 130, 131, 45, 132, 133, 134, 135, 136, 137, 138, 139, 140, 141, 142, 143, 51, 144, 145, 1229, 1230, 1231, 1232, 1233, 1234, 1266, 1267, 1252, 1253, 1254, 1255, 1256, 1257, 1258, 1259, 1260, 1261, 1262, 1263, 1264, 1265, 1276, 1277, 1278, 1279, 1280, 1281, 1282, 1283, 1284, 1285, 1286, 1287, 1288, 1289, 1290] (by decide +kernel) (by decide +kernel)) (goodIn_sub (fun _ h => List.mem_append_left _ (List.mem_append_right _ h)) (by decide +kernel))
set_option maxRecDepth 20000 in
theorem gL_law_L_undo : GoodIn wsL_law (va_wsS RL 190 yL_undo wsL_undo) := goodIn_app (goodIn_of _ (by decide +kernel)) ggL_law_L_undo
set_option maxRecDepth 20000 in
theorem ggL_law_X8_undo : GoodIn wsL_law wsX8_undo := goodIn_r _ [692, 178, 80, 82, 169, 170, 171, 5, 172, 173, 1235, 1236, 1237, 1238, 1239, 1240, 1241, 1242, 1243, 1244, 1245, 1246, 1247, 1248, 1249, 1250, 1251] (by decide +kernel) (by decide +kernel)
set_option maxRecDepth 20000 in
theorem gL_law_X8_undo : GoodIn wsL_law (wsV RL 193 RX8 yX8_undo wsX8_undo) := goodIn_app (goodIn_of _ (by decide +kernel)) ggL_law_X8_undo
set_option maxRecDepth 20000 in
theorem ggL_law_X7_savedStates : GoodIn wsL_law wsX7_savedStates := goodIn_r _ [696, 21, 697, 1229, 1230, 1231, 1232, 1233, 1234, 1266, 1267] (by decide +kernel) (by decide +kernel)
set_option maxRecDepth 20000 in
theorem gL_law_X7_savedStates : GoodIn wsL_law (wsV RL 194 RX7 yX7_savedStates wsX7_savedStates) := goodIn_app (goodIn_of _ (by decide +kernel)) ggL_law_X7_savedStates
set_option maxRecDepth 20000 in
theorem ggL_law_X8_savedStates : GoodIn wsL_law wsX8_savedStates := goodIn_r _ [701, 178, 702, 703, 704, 5, 705, 173, 1235, 1236, 1237, 1238, 1239, 1240, 1241, 1242, 1243, 1244, 1245, 1246, 1247, 1248, 1249, 1250, 1251] (by decide +kernel) (by decide +kernel)
set_option maxRecDepth 20000 in
theorem gL_law_X8_savedStates : GoodIn wsL_law (wsV RL 197 RX8 yX8_savedStates wsX8_savedStates) := goodIn_app (goodIn_of _ (by decide +kernel)) ggL_law_X8_savedStates
set_option maxRecDepth 20000 in
theorem ggL_law_X7_sparrows : GoodIn wsL_law wsX7_sparrows := goodIn_r _ [709, 16, 101, 1229, 1230, 1231, 1232, 1233, 1234, 1252, 1253, 1254, 1255, 1256, 1257, 1258, 1259, 1260, 1261, 1262, 1263, 1264, 1265] (by decide +kernel) (by decide +kernel)
set_option maxRecDepth 20000 in
theorem gL_law_X7_sparrows : GoodIn wsL_law (wsV RL 198 RX7 yX7_sparrows wsX7_sparrows) := goodIn_app (goodIn_of _ (by decide +kernel)) ggL_law_X7_sparrows
set_option maxRecDepth 20000 in
theorem ggL_law_X8_sparrows : GoodIn wsL_law wsX8_sparrows := goodIn_r _ [713, 80, 702, 703, 704, 5, 705, 173, 1235, 1236, 1237, 1238, 1239, 1240, 1241, 1242, 1243, 1244, 1245, 1246, 1247, 1248, 1249, 1250, 1251] (by decide +kernel) (by decide +kernel)
set_option maxRecDepth 20000 in
theorem gL_law_X8_sparrows : GoodIn wsL_law (wsV RL 201 RX8 yX8_sparrows wsX8_sparrows) := goodIn_app (goodIn_of _ (by decide +kernel)) ggL_law_X8_sparrows
set_option maxRecDepth 20000 in
theorem ggL_law_L_flown : GoodIn wsL_law wsL_flown := goodIn_ca (goodIn_r _ [716, 186, 717, 718, 719, 2, 720, 721, 192, 193, 194, 195, 196, 197, 16, 198, 155, 156, 15, 157, 119, 39, 1276, 1277, 1278, 1279, 1280, 1281, 1282, 1283, 1284, 1285, 1286, 1287, 1288, 1289, 1290, 1229, 1230, 1231, 1232, 1233, 1234, 1252, 1253, 1254, 1255, 1256, 1257, 1258, 1259, 1260, 1261, 1262, 1263, 1264, 1265] (by decide +kernel) (by decide +kernel)) (goodIn_sub (fun _ h => List.mem_append_right _ h) (by decide +kernel))
set_option maxRecDepth 20000 in
theorem gL_law_L_flown : GoodIn wsL_law (va_wsS RL 202 yL_flown wsL_flown) := goodIn_app (goodIn_of _ (by decide +kernel)) ggL_law_L_flown
set_option maxRecDepth 20000 in
theorem ggL_law_X8_flown : GoodIn wsL_law wsX8_flown := goodIn_r _ [725, 726, 727, 728, 5, 729, 206, 207, 208, 209, 80, 166, 167, 168, 169, 170, 171, 172, 173, 214, 215, 216, 217, 1235, 1236, 1237, 1238, 1239, 1240, 1241, 1242, 1243, 1244, 1245, 1246, 1247, 1248, 1249, 1250, 1251] (by decide +kernel) (by decide +kernel)
set_option maxRecDepth 20000 in
theorem gL_law_X8_flown : GoodIn wsL_law (wsV RL 204 RX8 yX8_flown wsX8_flown) := goodIn_app (goodIn_of _ (by decide +kernel)) ggL_law_X8_flown
set_option maxRecDepth 20000 in
theorem ggL_law_L_lapsOf : GoodIn wsL_law wsL_lapsOf := goodIn_ca (goodIn_r _ [732, 186, 733, 734, 735, 2, 736, 192, 193, 194, 195, 196, 197, 16, 198, 155, 156, 15, 157, 119, 39, 737, 411, 412, 45, 413, 136, 1229, 1230, 1231, 1232, 1233, 1234, 1252, 1253, 1254, 1255, 1256, 1257, 1258, 1259, 1260, 1261, 1262, 1263, 1264, 1265, 1276, 1277, 1278, 1279, 1280, 1281, 1282, 1283, 1284, 1285, 1286, 1287, 1288, 1289, 1290] (by decide +kernel) (by decide +kernel)) (goodIn_sub (fun _ h => List.mem_append_right _ h) (by decide +kernel))
set_option maxRecDepth 20000 in
theorem gL_law_L_lapsOf : GoodIn wsL_law (va_wsS RL 205 yL_lapsOf wsL_lapsOf) := goodIn_app (goodIn_of _ (by decide +kernel)) ggL_law_L_lapsOf
set_option maxRecDepth 20000 in
theorem ggL_law_X8_lapsOf : GoodIn wsL_law wsX8_lapsOf := goodIn_r _ [741, 726, 727, 728, 5, 729, 206, 207, 208, 209, 80, 166, 167, 168, 169, 170, 171, 172, 173, 214, 215, 216, 217, 1235, 1236, 1237, 1238, 1239, 1240, 1241, 1242, 1243, 1244, 1245, 1246, 1247, 1248, 1249, 1250, 1251] (by decide +kernel) (by decide +kernel)
set_option maxRecDepth 20000 in
theorem gL_law_X8_lapsOf : GoodIn wsL_law (wsV RL 207 RX8 yX8_lapsOf wsX8_lapsOf) := goodIn_app (goodIn_of _ (by decide +kernel)) ggL_law_X8_lapsOf
set_option maxRecDepth 20000 in
theorem ggL_law_L_speedOf : GoodIn wsL_law wsL_speedOf := goodIn_ca (goodIn_r _ [744, 186, 745, 746, 747, 2, 748, 749, 192, 193, 194, 195, 196, 197, 16, 198, 155, 156, 15, 157, 119, 39, 1276, 1277, 1278, 1279, 1280, 1281, 1282, 1283, 1284, 1285, 1286, 1287, 1288, 1289, 1290, 1229, 1230, 1231, 1232, 1233, 1234, 1252, 1253, 1254, 1255, 1256, 1257, 1258, 1259, 1260, 1261, 1262, 1263, 1264, 1265] (by decide +kernel) (by decide +kernel)) (goodIn_sub (fun _ h => List.mem_append_right _ h) (by decide +kernel))
set_option maxRecDepth 20000 in
theorem gL_law_L_speedOf : GoodIn wsL_law (va_wsS RL 208 yL_speedOf wsL_speedOf) := goodIn_app (goodIn_of _ (by decide +kernel)) ggL_law_L_speedOf
set_option maxRecDepth 20000 in
theorem ggL_law_X8_speedOf : GoodIn wsL_law wsX8_speedOf := goodIn_r _ [753, 726, 727, 728, 5, 729, 206, 207, 208, 209, 80, 166, 167, 168, 169, 170, 171, 172, 173, 214, 215, 216, 217, 1235, 1236, 1237, 1238, 1239, 1240, 1241, 1242, 1243, 1244, 1245, 1246, 1247, 1248, 1249, 1250, 1251] (by decide +kernel) (by decide +kernel)
set_option maxRecDepth 20000 in
theorem gL_law_X8_speedOf : GoodIn wsL_law (wsV RL 210 RX8 yX8_speedOf wsX8_speedOf) := goodIn_app (goodIn_of _ (by decide +kernel)) ggL_law_X8_speedOf
set_option maxRecDepth 20000 in
theorem ggL_law_L_strengthOf : GoodIn wsL_law wsL_strengthOf := goodIn_ca (goodIn_r _ [756, 186, 757, 758, 759, 2, 760, 761, 192, 193, 194, 195, 196, 197, 16, 198, 155, 156, 15, 157, 119, 39, 1276, 1277, 1278, 1279, 1280, 1281, 1282, 1283, 1284, 1285, 1286, 1287, 1288, 1289, 1290, 1229, 1230, 1231, 1232, 1233, 1234, 1252, 1253, 1254, 1255, 1256, 1257, 1258, 1259, 1260, 1261, 1262, 1263, 1264, 1265] (by decide +kernel) (by decide +kernel)) (goodIn_sub (fun _ h => List.mem_append_right _ h) (by decide +kernel))
set_option maxRecDepth 20000 in
theorem gL_law_L_strengthOf : GoodIn wsL_law (va_wsS RL 211 yL_strengthOf wsL_strengthOf) := goodIn_app (goodIn_of _ (by decide +kernel)) ggL_law_L_strengthOf
set_option maxRecDepth 20000 in
theorem ggL_law_X8_strengthOf : GoodIn wsL_law wsX8_strengthOf := goodIn_r _ [765, 726, 727, 728, 5, 729, 206, 207, 208, 209, 80, 166, 167, 168, 169, 170, 171, 172, 173, 214, 215, 216, 217, 1235, 1236, 1237, 1238, 1239, 1240, 1241, 1242, 1243, 1244, 1245, 1246, 1247, 1248, 1249, 1250, 1251] (by decide +kernel) (by decide +kernel)
set_option maxRecDepth 20000 in
theorem gL_law_X8_strengthOf : GoodIn wsL_law (wsV RL 213 RX8 yX8_strengthOf wsX8_strengthOf) := goodIn_app (goodIn_of _ (by decide +kernel)) ggL_law_X8_strengthOf
set_option maxRecDepth 20000 in
theorem ggL_law_L_wearOf : GoodIn wsL_law wsL_wearOf := goodIn_ca (goodIn_r _ [768, 186, 769, 770, 771, 2, 772, 773, 192, 193, 194, 195, 196, 197, 16, 198, 155, 156, 15, 157, 119, 39, 1276, 1277, 1278, 1279, 1280, 1281, 1282, 1283, 1284, 1285, 1286, 1287, 1288, 1289, 1290, 1229, 1230, 1231, 1232, 1233, 1234, 1252, 1253, 1254, 1255, 1256, 1257, 1258, 1259, 1260, 1261, 1262, 1263, 1264, 1265] (by decide +kernel) (by decide +kernel)) (goodIn_sub (fun _ h => List.mem_append_right _ h) (by decide +kernel))
set_option maxRecDepth 20000 in
theorem gL_law_L_wearOf : GoodIn wsL_law (va_wsS RL 214 yL_wearOf wsL_wearOf) := goodIn_app (goodIn_of _ (by decide +kernel)) ggL_law_L_wearOf
set_option maxRecDepth 20000 in
theorem ggL_law_X8_wearOf : GoodIn wsL_law wsX8_wearOf := goodIn_r _ [777, 726, 727, 728, 5, 729, 206, 207, 208, 209, 80, 166, 167, 168, 169, 170, 171, 172, 173, 214, 215, 216, 217, 1235, 1236, 1237, 1238, 1239, 1240, 1241, 1242, 1243, 1244, 1245, 1246, 1247, 1248, 1249, 1250, 1251] (by decide +kernel) (by decide +kernel)
set_option maxRecDepth 20000 in
theorem gL_law_X8_wearOf : GoodIn wsL_law (wsV RL 216 RX8 yX8_wearOf wsX8_wearOf) := goodIn_app (goodIn_of _ (by decide +kernel)) ggL_law_X8_wearOf
set_option maxRecDepth 20000 in
theorem ggL_law_L_laneOf : GoodIn wsL_law wsL_laneOf := goodIn_ca (goodIn_r _ [780, 186, 781, 782, 783, 2, 784, 785, 192, 193, 194, 195, 196, 197, 16, 198, 155, 156, 15, 157, 119, 39, 1276, 1277, 1278, 1279, 1280, 1281, 1282, 1283, 1284, 1285, 1286, 1287, 1288, 1289, 1290, 1229, 1230, 1231, 1232, 1233, 1234, 1252, 1253, 1254, 1255, 1256, 1257, 1258, 1259, 1260, 1261, 1262, 1263, 1264, 1265] (by decide +kernel) (by decide +kernel)) (goodIn_sub (fun _ h => List.mem_append_right _ h) (by decide +kernel))
set_option maxRecDepth 20000 in
theorem gL_law_L_laneOf : GoodIn wsL_law (va_wsS RL 217 yL_laneOf wsL_laneOf) := goodIn_app (goodIn_of _ (by decide +kernel)) ggL_law_L_laneOf
set_option maxRecDepth 20000 in
theorem ggL_law_X8_laneOf : GoodIn wsL_law wsX8_laneOf := goodIn_r _ [789, 726, 727, 728, 5, 729, 206, 207, 208, 209, 80, 166, 167, 168, 169, 170, 171, 172, 173, 214, 215, 216, 217, 1235, 1236, 1237, 1238, 1239, 1240, 1241, 1242, 1243, 1244, 1245, 1246, 1247, 1248, 1249, 1250, 1251] (by decide +kernel) (by decide +kernel)
set_option maxRecDepth 20000 in
theorem gL_law_X8_laneOf : GoodIn wsL_law (wsV RL 219 RX8 yX8_laneOf wsX8_laneOf) := goodIn_app (goodIn_of _ (by decide +kernel)) ggL_law_X8_laneOf
set_option maxRecDepth 20000 in
theorem ggL_law_L_stateOf : GoodIn wsL_law wsL_stateOf := goodIn_ca (goodIn_r _ [792, 186, 793, 794, 795, 2, 796, 225, 192, 193, 194, 195, 196, 197, 16, 198, 155, 156, 15, 157, 119, 39, 1276, 1277, 1278, 1279, 1280, 1281, 1282, 1283, 1284, 1285, 1286, 1287, 1288, 1289, 1290, 1229, 1230, 1231, 1232, 1233, 1234, 1252, 1253, 1254, 1255, 1256, 1257, 1258, 1259, 1260, 1261, 1262, 1263, 1264, 1265] (by decide +kernel) (by decide +kernel)) (goodIn_sub (fun _ h => List.mem_append_right _ h) (by decide +kernel))
set_option maxRecDepth 20000 in
theorem gL_law_L_stateOf : GoodIn wsL_law (va_wsS RL 220 yL_stateOf wsL_stateOf) := goodIn_app (goodIn_of _ (by decide +kernel)) ggL_law_L_stateOf
set_option maxRecDepth 20000 in
theorem ggL_law_X8_stateOf : GoodIn wsL_law wsX8_stateOf := goodIn_r _ [800, 726, 727, 728, 5, 729, 206, 207, 208, 209, 80, 166, 167, 168, 169, 170, 171, 172, 173, 214, 215, 216, 217, 1235, 1236, 1237, 1238, 1239, 1240, 1241, 1242, 1243, 1244, 1245, 1246, 1247, 1248, 1249, 1250, 1251] (by decide +kernel) (by decide +kernel)
set_option maxRecDepth 20000 in
theorem gL_law_X8_stateOf : GoodIn wsL_law (wsV RL 222 RX8 yX8_stateOf wsX8_stateOf) := goodIn_app (goodIn_of _ (by decide +kernel)) ggL_law_X8_stateOf
set_option maxRecDepth 20000 in
theorem ggL_law_L_paceOf : GoodIn wsL_law wsL_paceOf := goodIn_ca (goodIn_r _ [803, 186, 804, 805, 806, 2, 807, 191, 192, 193, 194, 195, 196, 197, 16, 198, 155, 156, 15, 157, 119, 39, 1276, 1277, 1278, 1279, 1280, 1281, 1282, 1283, 1284, 1285, 1286, 1287, 1288, 1289, 1290, 1229, 1230, 1231, 1232, 1233, 1234, 1252, 1253, 1254, 1255, 1256, 1257, 1258, 1259, 1260, 1261, 1262, 1263, 1264, 1265] (by decide +kernel) (by decide +kernel)) (goodIn_sub (fun _ h => List.mem_append_right _ h) (by decide +kernel))
set_option maxRecDepth 20000 in
theorem gL_law_L_paceOf : GoodIn wsL_law (va_wsS RL 223 yL_paceOf wsL_paceOf) := goodIn_app (goodIn_of _ (by decide +kernel)) ggL_law_L_paceOf
set_option maxRecDepth 20000 in
theorem ggL_law_X8_paceOf : GoodIn wsL_law wsX8_paceOf := goodIn_r _ [811, 726, 727, 728, 5, 729, 206, 207, 208, 209, 80, 166, 167, 168, 169, 170, 171, 172, 173, 214, 215, 216, 217, 1235, 1236, 1237, 1238, 1239, 1240, 1241, 1242, 1243, 1244, 1245, 1246, 1247, 1248, 1249, 1250, 1251] (by decide +kernel) (by decide +kernel)
set_option maxRecDepth 20000 in
theorem gL_law_X8_paceOf : GoodIn wsL_law (wsV RL 225 RX8 yX8_paceOf wsX8_paceOf) := goodIn_app (goodIn_of _ (by decide +kernel)) ggL_law_X8_paceOf
set_option maxRecDepth 20000 in
theorem ggL_law_L_partnerOf : GoodIn wsL_law wsL_partnerOf := goodIn_ca (goodIn_ca (goodIn_r _ [814, 186, 92, 815, 816, 817, 2, 818, 99, 100, 819, 192, 193, 194, 195, 196, 197, 16, 198, 155, 156, 15, 157, 119, 39, 1276, 1277, 1278, 1279, 1280, 1281, 1282, 1283, 1284, 1285, 1286, 1287, 1288, 1289, 1290, 1229, 1230, 1231, 1232, 1233, 1234, 1252, 1253, 1254, 1255, 1256, 1257, 1258, 1259, 1260, 1261, 1262, 1263, 1264, 1265] (by decide +kernel) (by decide +kernel)) (goodIn_sub (fun _ h => List.mem_append_left _ (List.mem_append_right _ h)) (by decide +kernel))) (goodIn_sub (fun _ h => List.mem_append_right _ h) (by decide +kernel))
set_option maxRecDepth 20000 in
theorem gL_law_L_partnerOf : GoodIn wsL_law (va_wsS RL 226 yL_partnerOf wsL_partnerOf) := goodIn_app (goodIn_of _ (by decide +kernel)) ggL_law_L_partnerOf
set_option maxRecDepth 20000 in
theorem ggL_law_X8_partnerOf : GoodIn wsL_law wsX8_partnerOf := goodIn_r _ [823, 206, 207, 208, 5, 209, 80, 166, 167, 168, 214, 215, 216, 217, 169, 170, 171, 172, 173, 1235, 1236, 1237, 1238, 1239, 1240, 1241, 1242, 1243, 1244, 1245, 1246, 1247, 1248, 1249, 1250, 1251] (by decide +kernel) (by decide +kernel)
set_option maxRecDepth 20000 in
theorem gL_law_X8_partnerOf : GoodIn wsL_law (wsV RL 228 RX8 yX8_partnerOf wsX8_partnerOf) := goodIn_app (goodIn_of _ (by decide +kernel)) ggL_law_X8_partnerOf
set_option maxRecDepth 20000 in
theorem ggL_law_L_isCalledIn : GoodIn wsL_law wsL_isCalledIn := goodIn_ca (goodIn_r _ [826, 186, 827, 828, 829, 2, 830, 226, 192, 193, 194, 195, 196, 197, 16, 198, 155, 156, 15, 157, 119, 39, 1276, 1277, 1278, 1279, 1280, 1281, 1282, 1283, 1284, 1285, 1286, 1287, 1288, 1289, 1290, 1229, 1230, 1231, 1232, 1233, 1234, 1252, 1253, 1254, 1255, 1256, 1257, 1258, 1259, 1260, 1261, 1262, 1263, 1264, 1265] (by decide +kernel) (by decide +kernel)) (goodIn_sub (fun _ h => List.mem_append_right _ h) (by decide +kernel))
set_option maxRecDepth 20000 in
theorem gL_law_L_isCalledIn : GoodIn wsL_law (va_wsS RL 229 yL_isCalledIn wsL_isCalledIn) := goodIn_app (goodIn_of _ (by decide +kernel)) ggL_law_L_isCalledIn
set_option maxRecDepth 20000 in
theorem ggL_law_X8_isCalledIn : GoodIn wsL_law wsX8_isCalledIn := goodIn_r _ [834, 726, 727, 728, 5, 729, 206, 207, 208, 209, 80, 166, 167, 168, 169, 170, 171, 172, 173, 214, 215, 216, 217, 1235, 1236, 1237, 1238, 1239, 1240, 1241, 1242, 1243, 1244, 1245, 1246, 1247, 1248, 1249, 1250, 1251] (by decide +kernel) (by decide +kernel)
set_option maxRecDepth 20000 in
theorem gL_law_X8_isCalledIn : GoodIn wsL_law (wsV RL 231 RX8 yX8_isCalledIn wsX8_isCalledIn) := goodIn_app (goodIn_of _ (by decide +kernel)) ggL_law_X8_isCalledIn
set_option maxRecDepth 20000 in
theorem ggL_law_L_limitOf : GoodIn wsL_law wsL_limitOf := goodIn_ca (goodIn_r _ [837, 186, 838, 839, 840, 2, 841, 16, 278, 279, 280, 196, 197, 281, 282, 283, 15, 284, 42, 1229, 1230, 1231, 1232, 1233, 1234, 1252, 1253, 1254, 1255, 1256, 1257, 1258, 1259, 1260, 1261, 1262, 1263, 1264, 1265] (by decide +kernel) (by decide +kernel)) (goodIn_sub (fun _ h => List.mem_append_right _ h) (by decide +kernel))
set_option maxRecDepth 20000 in
theorem gL_law_L_limitOf : GoodIn wsL_law (va_wsS RL 232 yL_limitOf wsL_limitOf) := goodIn_app (goodIn_of _ (by decide +kernel)) ggL_law_L_limitOf
set_option maxRecDepth 20000 in
theorem ggL_law_X8_limitOf : GoodIn wsL_law wsX8_limitOf := goodIn_r _ [845, 80, 166, 167, 5, 168, 169, 170, 171, 172, 173, 1235, 1236, 1237, 1238, 1239, 1240, 1241, 1242, 1243, 1244, 1245, 1246, 1247, 1248, 1249, 1250, 1251] (by decide +kernel) (by decide +kernel)
set_option maxRecDepth 20000 in
theorem gL_law_X8_limitOf : GoodIn wsL_law (wsV RL 234 RX8 yX8_limitOf wsX8_limitOf) := goodIn_app (goodIn_of _ (by decide +kernel)) ggL_law_X8_limitOf
set_option maxRecDepth 20000 in
theorem ggL_law_L_placeByCounting : GoodIn wsL_law wsL_placeByCounting := goodIn_ca (goodIn_r _ [848, 186, 849, 850, 851, 2, 852, 16, 192, 193, 194, 195, 196, 197, 198, 155, 156, 15, 157, 119, 39, 853, 854, 855, 856, 259, 260, 261, 262, 250, 351, 352, 353, 45, 354, 141, 144, 136, 50, 1229, 1230, 1231, 1232, 1233, 1234, 1252, 1253, 1254, 1255, 1256, 1257, 1258, 1259, 1260, 1261, 1262, 1263, 1264, 1265, 1276, 1277, 1278, 1279, 1280, 1281, 1282, 1283, 1284, 1285, 1286, 1287, 1288, 1289, 1290] (by decide +kernel) (by decide +kernel)) (goodIn_sub (fun _ h => List.mem_append_right _ h) (by decide +kernel))
set_option maxRecDepth 20000 in
theorem gL_law_L_placeByCounting : GoodIn wsL_law (va_wsS RL 235 yL_placeByCounting wsL_placeByCounting) := goodIn_app (goodIn_of _ (by decide +kernel)) ggL_law_L_placeByCounting
set_option maxRecDepth 20000 in
theorem ggL_law_X8_placeByCounting : GoodIn wsL_law wsX8_placeByCounting := goodIn_r _ [860, 206, 207, 208, 5, 209, 80, 166, 167, 168, 169, 170, 171, 172, 173, 436, 437, 438, 439, 440, 441, 442, 443, 231, 232, 233, 234, 214, 215, 216, 217, 444, 445, 446, 447, 1235, 1236, 1237, 1238, 1239, 1240, 1241, 1242, 1243, 1244, 1245, 1246, 1247, 1248, 1249, 1250, 1251] (by decide +kernel) (by decide +kernel)
set_option maxRecDepth 20000 in
theorem gL_law_X8_placeByCounting : GoodIn wsL_law (wsV RL 237 RX8 yX8_placeByCounting wsX8_placeByCounting) := goodIn_app (goodIn_of _ (by decide +kernel)) ggL_law_X8_placeByCounting
set_option maxRecDepth 20000 in
theorem ggL_law_L_birdByOrder : GoodIn wsL_law wsL_birdByOrder := goodIn_ca (goodIn_r _ [863, 186, 864, 865, 866, 2, 867, 196, 197, 16, 868, 869, 344, 345, 15, 346, 39, 259, 260, 261, 262, 250, 119, 347, 348, 349, 350, 40, 351, 352, 353, 45, 354, 141, 144, 136, 50, 870, 356, 357, 358, 1229, 1230, 1231, 1232, 1233, 1234, 1276, 1277, 1278, 1279, 1280, 1281, 1282, 1283, 1284, 1285, 1286, 1287, 1288, 1289, 1290, 1252, 1253, 1254, 1255, 1256, 1257, 1258, 1259, 1260, 1261, 1262, 1263, 1264, 1265] (by decide +kernel) (by decide +kernel)) (goodIn_sub (fun _ h => List.mem_append_right _ h) (by decide +kernel))
set_option maxRecDepth 20000 in
theorem gL_law_L_birdByOrder : GoodIn wsL_law (va_wsS RL 238 yL_birdByOrder wsL_birdByOrder) := goodIn_app (goodIn_of _ (by decide +kernel)) ggL_law_L_birdByOrder
set_option maxRecDepth 20000 in
theorem ggL_law_X8_birdByOrder : GoodIn wsL_law wsX8_birdByOrder := goodIn_r _ [874, 206, 207, 208, 5, 209, 80, 166, 167, 168, 169, 170, 171, 172, 173, 875, 876, 877, 878, 436, 437, 438, 439, 440, 441, 442, 443, 231, 232, 233, 234, 214, 215, 216, 217, 444, 445, 446, 447, 1235, 1236, 1237, 1238, 1239, 1240, 1241, 1242, 1243, 1244, 1245, 1246, 1247, 1248, 1249, 1250, 1251] (by decide +kernel) (by decide +kernel)
set_option maxRecDepth 20000 in
theorem gL_law_X8_birdByOrder : GoodIn wsL_law (wsV RL 240 RX8 yX8_birdByOrder wsX8_birdByOrder) := goodIn_app (goodIn_of _ (by decide +kernel)) ggL_law_X8_birdByOrder
set_option maxRecDepth 20000 in
theorem ggL_law_L_gapAhead : GoodIn wsL_law wsL_gapAhead := goodIn_ca (goodIn_r _ [881, 186, 882, 883, 884, 2, 885, 16, 192, 193, 194, 195, 196, 197, 198, 155, 156, 15, 157, 119, 39, 886, 887, 888, 889, 369, 370, 371, 372, 367, 373, 374, 375, 376, 250, 377, 378, 379, 380, 45, 381, 136, 1229, 1230, 1231, 1232, 1233, 1234, 1252, 1253, 1254, 1255, 1256, 1257, 1258, 1259, 1260, 1261, 1262, 1263, 1264, 1265, 1276, 1277, 1278, 1279, 1280, 1281, 1282, 1283, 1284, 1285, 1286, 1287, 1288, 1289, 1290] (by decide +kernel) (by decide +kernel)) (goodIn_sub (fun _ h => List.mem_append_right _ h) (by decide +kernel))
set_option maxRecDepth 20000 in
theorem gL_law_L_gapAhead : GoodIn wsL_law (va_wsS RL 241 yL_gapAhead wsL_gapAhead) := goodIn_app (goodIn_of _ (by decide +kernel)) ggL_law_L_gapAhead
set_option maxRecDepth 20000 in
theorem ggL_law_X8_gapAhead : GoodIn wsL_law wsX8_gapAhead := goodIn_r _ [893, 206, 207, 208, 5, 209, 80, 166, 167, 168, 169, 170, 171, 172, 173, 214, 215, 216, 217, 456, 457, 458, 459, 448, 449, 450, 451, 460, 461, 462, 463, 1235, 1236, 1237, 1238, 1239, 1240, 1241, 1242, 1243, 1244, 1245, 1246, 1247, 1248, 1249, 1250, 1251] (by decide +kernel) (by decide +kernel)
set_option maxRecDepth 20000 in
theorem gL_law_X8_gapAhead : GoodIn wsL_law (wsV RL 243 RX8 yX8_gapAhead wsX8_gapAhead) := goodIn_app (goodIn_of _ (by decide +kernel)) ggL_law_X8_gapAhead
set_option maxRecDepth 20000 in
theorem ggL_law_L_isDrafting : GoodIn wsL_law wsL_isDrafting := goodIn_ca (goodIn_ca (goodIn_r _ [896, 186, 92, 897, 898, 899, 2, 900, 16, 901, 902, 903, 904, 99, 100, 225, 192, 193, 194, 195, 196, 197, 198, 155, 156, 15, 157, 119, 39, 905, 370, 371, 372, 367, 373, 374, 375, 376, 250, 377, 378, 379, 380, 45, 381, 136, 906, 383, 384, 385, 153, 1229, 1230, 1231, 1232, 1233, 1234, 1276, 1277, 1278, 1279, 1280, 1281, 1282, 1283, 1284, 1285, 1286, 1287, 1288, 1289, 1290, 1252, 1253, 1254, 1255, 1256, 1257, 1258, 1259, 1260, 1261, 1262, 1263, 1264, 1265] (by decide +kernel) (by decide +kernel)) (goodIn_sub (fun _ h => List.mem_append_left _ (List.mem_append_right _ h)) (by decide +kernel))) (goodIn_sub (fun _ h => List.mem_append_right _ h) (by decide +kernel))
set_option maxRecDepth 20000 in
theorem gL_law_L_isDrafting : GoodIn wsL_law (va_wsS RL 244 yL_isDrafting wsL_isDrafting) := goodIn_app (goodIn_of _ (by decide +kernel)) ggL_law_L_isDrafting
set_option maxRecDepth 20000 in
theorem ggL_law_X8_isDrafting : GoodIn wsL_law wsX8_isDrafting := goodIn_r _ [910, 911, 912, 913, 5, 914, 206, 207, 208, 209, 80, 166, 167, 168, 448, 449, 450, 451, 214, 215, 216, 217, 169, 170, 171, 172, 173, 464, 465, 466, 467, 456, 457, 458, 459, 460, 461, 462, 463, 1235, 1236, 1237, 1238, 1239, 1240, 1241, 1242, 1243, 1244, 1245, 1246, 1247, 1248, 1249, 1250, 1251] (by decide +kernel) (by decide +kernel)
set_option maxRecDepth 20000 in
theorem gL_law_X8_isDrafting : GoodIn wsL_law (wsV RL 246 RX8 yX8_isDrafting wsX8_isDrafting) := goodIn_app (goodIn_of _ (by decide +kernel)) ggL_law_X8_isDrafting
set_option maxRecDepth 20000 in
theorem ggL_law_L_whereIs : GoodIn wsL_law wsL_whereIs := goodIn_ca (goodIn_r _ [917, 186, 918, 919, 920, 2, 921, 192, 193, 194, 195, 196, 197, 16, 198, 155, 156, 15, 157, 119, 39, 922, 391, 392, 45, 393, 136, 1229, 1230, 1231, 1232, 1233, 1234, 1252, 1253, 1254, 1255, 1256, 1257, 1258, 1259, 1260, 1261, 1262, 1263, 1264, 1265, 1276, 1277, 1278, 1279, 1280, 1281, 1282, 1283, 1284, 1285, 1286, 1287, 1288, 1289, 1290] (by decide +kernel) (by decide +kernel)) (goodIn_sub (fun _ h => List.mem_append_right _ h) (by decide +kernel))
set_option maxRecDepth 20000 in
theorem gL_law_L_whereIs : GoodIn wsL_law (va_wsS RL 247 yL_whereIs wsL_whereIs) := goodIn_app (goodIn_of _ (by decide +kernel)) ggL_law_L_whereIs
set_option maxRecDepth 20000 in
theorem ggL_law_X8_whereIs : GoodIn wsL_law wsX8_whereIs := goodIn_r _ [926, 206, 207, 208, 5, 209, 80, 166, 167, 168, 169, 170, 171, 172, 173, 472, 473, 474, 475, 214, 215, 216, 217, 1235, 1236, 1237, 1238, 1239, 1240, 1241, 1242, 1243, 1244, 1245, 1246, 1247, 1248, 1249, 1250, 1251] (by decide +kernel) (by decide +kernel)
set_option maxRecDepth 20000 in
theorem gL_law_X8_whereIs : GoodIn wsL_law (wsV RL 249 RX8 yX8_whereIs wsX8_whereIs) := goodIn_app (goodIn_of _ (by decide +kernel)) ggL_law_X8_whereIs
set_option maxRecDepth 20000 in
theorem ggL_law_L_allowance : GoodIn wsL_law wsL_allowance := goodIn_ca (goodIn_ca (goodIn_r _ [929, 186, 92, 930, 931, 932, 2, 933, 16, 901, 902, 903, 904, 99, 100, 225, 192, 193, 194, 195, 196, 197, 198, 155, 156, 15, 157, 119, 39, 934, 387, 388, 389, 150, 367, 368, 390, 391, 392, 45, 393, 136, 394, 282, 283, 284, 42, 1229, 1230, 1231, 1232, 1233, 1234, 1276, 1277, 1278, 1279, 1280, 1281, 1282, 1283, 1284, 1285, 1286, 1287, 1288, 1289, 1290, 1252, 1253, 1254, 1255, 1256, 1257, 1258, 1259, 1260, 1261, 1262, 1263, 1264, 1265] (by decide +kernel) (by decide +kernel)) (goodIn_sub (fun _ h => List.mem_append_left _ (List.mem_append_right _ h)) (by decide +kernel))) (goodIn_sub (fun _ h => List.mem_append_right _ h) (by decide +kernel))
set_option maxRecDepth 20000 in
theorem gL_law_L_allowance : GoodIn wsL_law (va_wsS RL 250 yL_allowance wsL_allowance) := goodIn_app (goodIn_of _ (by decide +kernel)) ggL_law_L_allowance
set_option maxRecDepth 20000 in
theorem ggL_law_X8_allowance : GoodIn wsL_law wsX8_allowance := goodIn_r _ [938, 911, 912, 913, 5, 914, 206, 207, 208, 209, 80, 166, 167, 168, 448, 449, 450, 451, 214, 215, 216, 217, 169, 170, 171, 172, 173, 468, 469, 470, 471, 472, 473, 474, 475, 1235, 1236, 1237, 1238, 1239, 1240, 1241, 1242, 1243, 1244, 1245, 1246, 1247, 1248, 1249, 1250, 1251] (by decide +kernel) (by decide +kernel)
set_option maxRecDepth 20000 in
theorem gL_law_X8_allowance : GoodIn wsL_law (wsV RL 252 RX8 yX8_allowance wsX8_allowance) := goodIn_app (goodIn_of _ (by decide +kernel)) ggL_law_X8_allowance
set_option maxRecDepth 20000 in
theorem ggL_law_L_wouldFly : GoodIn wsL_law wsL_wouldFly := goodIn_ca (goodIn_ca (goodIn_ca (goodIn_r _ [941, 186, 91, 92, 942, 943, 944, 2, 945, 191, 192, 193, 194, 195, 196, 197, 16, 198, 155, 156, 15, 157, 119, 39, 332, 333, 334, 97, 98, 335, 336, 337, 338, 99, 100, 102, 946, 947, 948, 949, 17, 868, 721, 616, 116, 117, 118, 42, 43, 120, 121, 122, 123, 124, 125, 126, 127, 128, 129, 130, 131, 45, 132, 133, 134, 135, 136, 137, 138, 139, 140, 141, 142, 143, 51, 144, 145, 339, 340, 341, 342, 343, 344, 345, 346, 259, 260, 261, 262, 250, 347, 348, 349, 350, 40, 351, 352, 353, 354, 50, 355, 356, 357, 358, 359, 360, 361, 362, 363, 364, 365, 366, 367, 368, 369, 370, 371, 372, 373, 374, 375, 376, 377, 378, 379, 380, 381, 382, 383, 384, 385, 153, 386, 387, 388, 389, 150, 390, 391, 392, 393, 394, 282, 283, 284, 395, 396, 397, 398, 399, 400, 401, 402, 403, 404, 405, 406, 407, 408, 409, 410, 411, 412, 413, 414, 415, 416, 417, 418, 419, 420, 421, 422, 423, 1276, 1277, 1278, 1279, 1280, 1281, 1282, 1283, 1284, 1285, 1286, 1287, 1288, 1289, 1290, 1229, 1230, 1231, 1232, 1233, 1234, 1252, 1253, 1254, 1255, 1256, 1257, 1258, 1259, 1260, 1261, 1262, 1263, 1264, 1265] (by decide +kernel) (by decide +kernel)) (goodIn_sub (fun _ h => List.mem_append_right _ h) (by decide +kernel))) (goodIn_sub (fun _ h => List.mem_append_left _ (List.mem_append_left _ (List.mem_append_right _ h))) (by decide +kernel))) (goodIn_sub (fun _ h => List.mem_append_left _ (List.mem_append_right _ h)) (by decide +kernel))
set_option maxRecDepth 20000 in
theorem gL_law_L_wouldFly : GoodIn wsL_law (va_wsS RL 253 yL_wouldFly wsL_wouldFly) := goodIn_app (goodIn_of _ (by decide +kernel)) ggL_law_L_wouldFly
set_option maxRecDepth 20000 in
theorem ggL_law_X8_wouldFly : GoodIn wsL_law wsX8_wouldFly := goodIn_r _ [953, 80, 206, 207, 208, 5, 209, 166, 167, 168, 169, 170, 171, 172, 173, 954, 955, 956, 957, 628, 629, 630, 631, 81, 428, 429, 430, 431, 432, 433, 434, 435, 86, 436, 437, 438, 439, 440, 441, 442, 443, 231, 232, 233, 234, 214, 215, 216, 217, 444, 445, 446, 447, 448, 449, 450, 451, 452, 453, 454, 455, 456, 457, 458, 459, 460, 461, 462, 463, 464, 465, 466, 467, 468, 469, 470, 471, 472, 473, 474, 475, 476, 477, 478, 479, 480, 481, 482, 483, 484, 485, 486, 487, 640, 641, 642, 643, 1235, 1236, 1237, 1238, 1239, 1240, 1241, 1242, 1243, 1244, 1245, 1246, 1247, 1248, 1249, 1250, 1251] (by decide +kernel) (by decide +kernel)
set_option maxRecDepth 20000 in
theorem gL_law_X8_wouldFly : GoodIn wsL_law (wsV RL 255 RX8 yX8_wouldFly wsX8_wouldFly) := goodIn_app (goodIn_of _ (by decide +kernel)) ggL_law_X8_wouldFly
set_option maxRecDepth 20000 in
theorem ggL_law_L_wouldWin : GoodIn wsL_law wsL_wouldWin := goodIn_ca (goodIn_r _ [960, 92, 961, 962, 963, 2, 964, 99, 100, 965, 966, 967, 968, 16, 331, 17, 868, 969, 970, 971, 972, 102, 616, 116, 117, 15, 118, 39, 42, 119, 43, 120, 121, 122, 123, 124, 125, 126, 127, 128, 129, 130, 131, 45, 132, 133, 134, 135, 136, 137, 138, 139, 140, 141, 142, 143, 51, 144, 145, 339, 340, 341, 342, 343, 344, 345, 346, 259, 260, 261, 262, 250, 347, 348, 349, 350, 40, 351, 352, 353, 354, 50, 355, 356, 357, 358, 359, 360, 361, 362, 363, 364, 365, 366, 367, 368, 369, 370, 371, 372, 373, 374, 375, 376, 377, 378, 379, 380, 381, 382, 383, 384, 385, 153, 386, 387, 388, 389, 150, 390, 391, 392, 393, 394, 282, 283, 284, 395, 396, 397, 398, 399, 400, 401, 402, 403, 404, 405, 406, 407, 408, 409, 410, 411, 412, 413, 414, 415, 416, 417, 418, 419, 420, 421, 422, 423, 973, 974, 975, 976, 1229, 1230, 1231, 1232, 1233, 1234, 1252, 1253, 1254, 1255, 1256, 1257, 1258, 1259, 1260, 1261, 1262, 1263, 1264, 1265, 1276, 1277, 1278, 1279, 1280, 1281, 1282, 1283, 1284, 1285, 1286, 1287, 1288, 1289, 1290] (by decide +kernel) (by decide +kernel)) (goodIn_sub (fun _ h => List.mem_append_left _ (List.mem_append_right _ h)) (by decide +kernel))
set_option maxRecDepth 20000 in
theorem gL_law_L_wouldWin : GoodIn wsL_law (va_wsS RL 256 yL_wouldWin wsL_wouldWin) := goodIn_app (goodIn_of _ (by decide +kernel)) ggL_law_L_wouldWin
set_option maxRecDepth 20000 in
theorem ggL_law_X8_wouldWin : GoodIn wsL_law wsX8_wouldWin := goodIn_r _ [980, 981, 982, 983, 5, 984, 80, 985, 986, 987, 988, 989, 628, 629, 630, 631, 81, 432, 433, 434, 435, 86, 436, 437, 438, 439, 440, 441, 442, 443, 231, 232, 233, 234, 214, 215, 216, 217, 444, 445, 446, 447, 448, 449, 450, 451, 452, 453, 454, 455, 456, 457, 458, 459, 460, 461, 462, 463, 464, 465, 466, 467, 166, 167, 168, 468, 469, 470, 471, 472, 473, 474, 475, 476, 477, 478, 479, 480, 481, 482, 483, 484, 485, 486, 487, 640, 641, 642, 643, 169, 170, 171, 172, 173, 1235, 1236, 1237, 1238, 1239, 1240, 1241, 1242, 1243, 1244, 1245, 1246, 1247, 1248, 1249, 1250, 1251] (by decide +kernel) (by decide +kernel)
set_option maxRecDepth 20000 in
theorem gL_law_X8_wouldWin : GoodIn wsL_law (wsV RL 258 RX8 yX8_wouldWin wsX8_wouldWin) := goodIn_app (goodIn_of _ (by decide +kernel)) ggL_law_X8_wouldWin
set_option maxRecDepth 20000 in
theorem ggL_law_L_secondsToNext : GoodIn wsL_law wsL_secondsToNext := goodIn_ca (goodIn_r _ [992, 92, 993, 994, 995, 2, 996, 99, 100, 969, 970, 971, 972, 17, 16, 102, 331, 616, 116, 117, 15, 118, 39, 42, 119, 43, 120, 121, 122, 123, 124, 125, 126, 127, 128, 129, 130, 131, 45, 132, 133, 134, 135, 136, 137, 138, 139, 140, 141, 142, 143, 51, 144, 145, 339, 340, 341, 342, 343, 344, 345, 346, 259, 260, 261, 262, 250, 347, 348, 349, 350, 40, 351, 352, 353, 354, 50, 355, 356, 357, 358, 359, 360, 361, 362, 363, 364, 365, 366, 367, 368, 369, 370, 371, 372, 373, 374, 375, 376, 377, 378, 379, 380, 381, 382, 383, 384, 385, 153, 386, 387, 388, 389, 150, 390, 391, 392, 393, 394, 282, 283, 284, 395, 396, 397, 398, 399, 400, 401, 402, 403, 404, 405, 406, 407, 408, 409, 410, 411, 412, 413, 414, 415, 416, 417, 418, 419, 420, 421, 422, 423, 1229, 1230, 1231, 1232, 1233, 1234, 1252, 1253, 1254, 1255, 1256, 1257, 1258, 1259, 1260, 1261, 1262, 1263, 1264, 1265, 1276, 1277, 1278, 1279, 1280, 1281, 1282, 1283, 1284, 1285, 1286, 1287, 1288, 1289, 1290] (by decide +kernel) (by decide +kernel)) (goodIn_sub (fun _ h => List.mem_append_left _ (List.mem_append_right _ h)) (by decide +kernel))
set_option maxRecDepth 20000 in
theorem gL_law_L_secondsToNext : GoodIn wsL_law (va_wsS RL 259 yL_secondsToNext wsL_secondsToNext) := goodIn_app (goodIn_of _ (by decide +kernel)) ggL_law_L_secondsToNext
set_option maxRecDepth 20000 in
theorem ggL_law_X8_secondsToNext : GoodIn wsL_law wsX8_secondsToNext := goodIn_r _ [1000, 986, 987, 988, 5, 989, 80, 985, 628, 629, 630, 631, 81, 432, 433, 434, 435, 86, 436, 437, 438, 439, 440, 441, 442, 443, 231, 232, 233, 234, 214, 215, 216, 217, 444, 445, 446, 447, 448, 449, 450, 451, 452, 453, 454, 455, 456, 457, 458, 459, 460, 461, 462, 463, 464, 465, 466, 467, 166, 167, 168, 468, 469, 470, 471, 472, 473, 474, 475, 476, 477, 478, 479, 480, 481, 482, 483, 484, 485, 486, 487, 640, 641, 642, 643, 169, 170, 171, 172, 173, 1235, 1236, 1237, 1238, 1239, 1240, 1241, 1242, 1243, 1244, 1245, 1246, 1247, 1248, 1249, 1250, 1251] (by decide +kernel) (by decide +kernel)
set_option maxRecDepth 20000 in
theorem gL_law_X8_secondsToNext : GoodIn wsL_law (wsV RL 261 RX8 yX8_secondsToNext wsX8_secondsToNext) := goodIn_app (goodIn_of _ (by decide +kernel)) ggL_law_X8_secondsToNext
set_option maxRecDepth 20000 in
theorem ggL_law_L_flownWithPace : GoodIn wsL_law wsL_flownWithPace := goodIn_ca (goodIn_ca (goodIn_ca (goodIn_r _ [1003, 186, 91, 92, 1004, 1005, 1006, 2, 1007, 192, 193, 194, 195, 196, 197, 16, 198, 155, 156, 15, 157, 119, 39, 199, 200, 201, 97, 98, 103, 104, 105, 335, 336, 337, 338, 99, 100, 102, 946, 947, 948, 949, 17, 868, 191, 721, 616, 116, 117, 118, 42, 43, 120, 121, 122, 123, 124, 125, 126, 127, 128, 129, 130, 131, 45, 132, 133, 134, 135, 136, 137, 138, 139, 140, 141, 142, 143, 51, 144, 145, 339, 340, 341, 342, 343, 344, 345, 346, 259, 260, 261, 262, 250, 347, 348, 349, 350, 40, 351, 352, 353, 354, 50, 355, 356, 357, 358, 359, 360, 361, 362, 363, 364, 365, 366, 367, 368, 369, 370, 371, 372, 373, 374, 375, 376, 377, 378, 379, 380, 381, 382, 383, 384, 385, 153, 386, 387, 388, 389, 150, 390, 391, 392, 393, 394, 282, 283, 284, 395, 396, 397, 398, 399, 400, 401, 402, 403, 404, 405, 406, 407, 408, 409, 410, 411, 412, 413, 414, 415, 416, 417, 418, 419, 420, 421, 422, 423, 1229, 1230, 1231, 1232, 1233, 1234, 1252, 1253, 1254, 1255, 1256, 1257, 1258, 1259, 1260, 1261, 1262, 1263, 1264, 1265, 1276, 1277, 1278, 1279, 1280, 1281, 1282, 1283, 1284, 1285, 1286, 1287, 1288, 1289, 1290] (by decide +kernel) (by decide +kernel)) (goodIn_sub (fun _ h => List.mem_append_right _ h) (by decide +kernel))) (goodIn_sub (fun _ h => List.mem_append_left _ (List.mem_append_left _ (List.mem_append_right _ h))) (by decide +kernel))) (goodIn_sub (fun _ h => List.mem_append_left _ (List.mem_append_right _ h)) (by decide +kernel))
set_option maxRecDepth 20000 in
theorem gL_law_L_flownWithPace : GoodIn wsL_law (va_wsS RL 262 yL_flownWithPace wsL_flownWithPace) := goodIn_app (goodIn_of _ (by decide +kernel)) ggL_law_L_flownWithPace
set_option maxRecDepth 20000 in
theorem ggL_law_X8_flownWithPace : GoodIn wsL_law wsX8_flownWithPace := goodIn_r _ [1011, 80, 206, 207, 208, 5, 209, 166, 167, 168, 169, 170, 171, 172, 173, 1012, 1013, 1014, 1015, 214, 215, 216, 217, 954, 955, 956, 957, 628, 629, 630, 631, 81, 428, 429, 430, 431, 432, 433, 434, 435, 86, 436, 437, 438, 439, 440, 441, 442, 443, 231, 232, 233, 234, 444, 445, 446, 447, 448, 449, 450, 451, 452, 453, 454, 455, 456, 457, 458, 459, 460, 461, 462, 463, 464, 465, 466, 467, 468, 469, 470, 471, 472, 473, 474, 475, 476, 477, 478, 479, 480, 481, 482, 483, 484, 485, 486, 487, 640, 641, 642, 643, 1235, 1236, 1237, 1238, 1239, 1240, 1241, 1242, 1243, 1244, 1245, 1246, 1247, 1248, 1249, 1250, 1251] (by decide +kernel) (by decide +kernel)
set_option maxRecDepth 20000 in
theorem gL_law_X8_flownWithPace : GoodIn wsL_law (wsV RL 264 RX8 yX8_flownWithPace wsX8_flownWithPace) := goodIn_app (goodIn_of _ (by decide +kernel)) ggL_law_X8_flownWithPace
set_option maxRecDepth 20000 in
theorem ggL_law_L_bestPace : GoodIn wsL_law wsL_bestPace := goodIn_ca (goodIn_ca (goodIn_r _ [1018, 186, 92, 1019, 1020, 1021, 2, 1022, 192, 193, 194, 195, 196, 197, 16, 198, 155, 156, 15, 157, 119, 39, 335, 336, 337, 338, 99, 100, 102, 1023, 1024, 1025, 1026, 946, 947, 948, 949, 17, 868, 191, 721, 616, 116, 117, 118, 42, 43, 120, 121, 122, 123, 124, 125, 126, 127, 128, 129, 130, 131, 45, 132, 133, 134, 135, 136, 137, 138, 139, 140, 141, 142, 143, 51, 144, 145, 339, 340, 341, 342, 343, 344, 345, 346, 259, 260, 261, 262, 250, 347, 348, 349, 350, 40, 351, 352, 353, 354, 50, 355, 356, 357, 358, 359, 360, 361, 362, 363, 364, 365, 366, 367, 368, 369, 370, 371, 372, 373, 374, 375, 376, 377, 378, 379, 380, 381, 382, 383, 384, 385, 153, 386, 387, 388, 389, 150, 390, 391, 392, 393, 394, 282, 283, 284, 395, 396, 397, 398, 399, 400, 401, 402, 403, 404, 405, 406, 407, 408, 409, 410, 411, 412, 413, 414, 415, 416, 417, 418, 419, 420, 421, 422, 423, 1229, 1230, 1231, 1232, 1233, 1234, 1252, 1253, 1254, 1255, 1256, 1257, 1258, 1259, 1260, 1261, 1262, 1263, 1264, 1265, 1276, 1277, 1278, 1279, 1280, 1281, 1282, 1283, 1284, 1285, 1286, 1287, 1288, 1289, 1290] (by decide +kernel) (by decide +kernel)) (goodIn_sub (fun _ h => List.mem_append_right _ h) (by decide +kernel))) (goodIn_sub (fun _ h => List.mem_append_left _ (List.mem_append_right _ h)) (by decide +kernel))
set_option maxRecDepth 20000 in
theorem gL_law_L_bestPace : GoodIn wsL_law (va_wsS RL 265 yL_bestPace wsL_bestPace) := goodIn_app (goodIn_of _ (by decide +kernel)) ggL_law_L_bestPace
set_option maxRecDepth 20000 in
theorem ggL_law_X8_bestPace : GoodIn wsL_law wsX8_bestPace := goodIn_r _ [1030, 80, 206, 207, 208, 5, 209, 166, 167, 168, 169, 170, 171, 172, 173, 1031, 1032, 1033, 1034, 1012, 1013, 1014, 1015, 214, 215, 216, 217, 954, 955, 956, 957, 628, 629, 630, 631, 81, 428, 429, 430, 431, 432, 433, 434, 435, 86, 436, 437, 438, 439, 440, 441, 442, 443, 231, 232, 233, 234, 444, 445, 446, 447, 448, 449, 450, 451, 452, 453, 454, 455, 456, 457, 458, 459, 460, 461, 462, 463, 464, 465, 466, 467, 468, 469, 470, 471, 472, 473, 474, 475, 476, 477, 478, 479, 480, 481, 482, 483, 484, 485, 486, 487, 640, 641, 642, 643, 1235, 1236, 1237, 1238, 1239, 1240, 1241, 1242, 1243, 1244, 1245, 1246, 1247, 1248, 1249, 1250, 1251] (by decide +kernel) (by decide +kernel)
set_option maxRecDepth 20000 in
theorem gL_law_X8_bestPace : GoodIn wsL_law (wsV RL 267 RX8 yX8_bestPace wsX8_bestPace) := goodIn_app (goodIn_of _ (by decide +kernel)) ggL_law_X8_bestPace
set_option maxRecDepth 20000 in
theorem ggL_law_X7_isRacing : GoodIn wsL_law wsX7_isRacing := goodIn_r _ [1038, 16, 102, 1229, 1230, 1231, 1232, 1233, 1234, 1252, 1253, 1254, 1255, 1256, 1257, 1258, 1259, 1260, 1261, 1262, 1263, 1264, 1265] (by decide +kernel) (by decide +kernel)
set_option maxRecDepth 20000 in
theorem gL_law_X7_isRacing : GoodIn wsL_law (wsV RL 268 RX7 yX7_isRacing wsX7_isRacing) := goodIn_app (goodIn_of _ (by decide +kernel)) ggL_law_X7_isRacing
set_option maxRecDepth 20000 in
theorem ggL_law_X8_isRacing : GoodIn wsL_law wsX8_isRacing := goodIn_r _ [1042, 80, 702, 703, 704, 5, 705, 173, 1235, 1236, 1237, 1238, 1239, 1240, 1241, 1242, 1243, 1244, 1245, 1246, 1247, 1248, 1249, 1250, 1251] (by decide +kernel) (by decide +kernel)
set_option maxRecDepth 20000 in
theorem gL_law_X8_isRacing : GoodIn wsL_law (wsV RL 272 RX8 yX8_isRacing wsX8_isRacing) := goodIn_app (goodIn_of _ (by decide +kernel)) ggL_law_X8_isRacing
set_option maxRecDepth 20000 in
theorem ggL_law_X7_seconds : GoodIn wsL_law wsX7_seconds := goodIn_r _ [1046, 16, 1047, 1229, 1230, 1231, 1232, 1233, 1234, 1252, 1253, 1254, 1255, 1256, 1257, 1258, 1259, 1260, 1261, 1262, 1263, 1264, 1265] (by decide +kernel) (by decide +kernel)
set_option maxRecDepth 20000 in
theorem gL_law_X7_seconds : GoodIn wsL_law (wsV RL 273 RX7 yX7_seconds wsX7_seconds) := goodIn_app (goodIn_of _ (by decide +kernel)) ggL_law_X7_seconds
set_option maxRecDepth 20000 in
theorem ggL_law_X8_seconds : GoodIn wsL_law wsX8_seconds := goodIn_r _ [1051, 80, 702, 703, 704, 5, 705, 173, 1235, 1236, 1237, 1238, 1239, 1240, 1241, 1242, 1243, 1244, 1245, 1246, 1247, 1248, 1249, 1250, 1251] (by decide +kernel) (by decide +kernel)
set_option maxRecDepth 20000 in
theorem gL_law_X8_seconds : GoodIn wsL_law (wsV RL 276 RX8 yX8_seconds wsX8_seconds) := goodIn_app (goodIn_of _ (by decide +kernel)) ggL_law_X8_seconds
set_option maxRecDepth 20000 in
theorem ggL_law_X7_arrived : GoodIn wsL_law wsX7_arrived := goodIn_r _ [1055, 16, 331, 1229, 1230, 1231, 1232, 1233, 1234, 1252, 1253, 1254, 1255, 1256, 1257, 1258, 1259, 1260, 1261, 1262, 1263, 1264, 1265] (by decide +kernel) (by decide +kernel)
set_option maxRecDepth 20000 in
theorem gL_law_X7_arrived : GoodIn wsL_law (wsV RL 277 RX7 yX7_arrived wsX7_arrived) := goodIn_app (goodIn_of _ (by decide +kernel)) ggL_law_X7_arrived
set_option maxRecDepth 20000 in
theorem ggL_law_X8_arrived : GoodIn wsL_law wsX8_arrived := goodIn_r _ [1059, 80, 702, 703, 704, 5, 705, 173, 1235, 1236, 1237, 1238, 1239, 1240, 1241, 1242, 1243, 1244, 1245, 1246, 1247, 1248, 1249, 1250, 1251] (by decide +kernel) (by decide +kernel)
set_option maxRecDepth 20000 in
theorem gL_law_X8_arrived : GoodIn wsL_law (wsV RL 280 RX8 yX8_arrived wsX8_arrived) := goodIn_app (goodIn_of _ (by decide +kernel)) ggL_law_X8_arrived
set_option maxRecDepth 20000 in
theorem ggL_law_L_arrivedAt : GoodIn wsL_law wsL_arrivedAt := goodIn_ca (goodIn_r _ [1062, 186, 1063, 1064, 1065, 2, 1066, 196, 197, 16, 868, 973, 974, 975, 15, 976, 39, 377, 418, 259, 260, 261, 262, 250, 119, 1229, 1230, 1231, 1232, 1233, 1234, 1276, 1277, 1278, 1279, 1280, 1281, 1282, 1283, 1284, 1285, 1286, 1287, 1288, 1289, 1290, 1252, 1253, 1254, 1255, 1256, 1257, 1258, 1259, 1260, 1261, 1262, 1263, 1264, 1265] (by decide +kernel) (by decide +kernel)) (goodIn_sub (fun _ h => List.mem_append_right _ h) (by decide +kernel))
set_option maxRecDepth 20000 in
theorem gL_law_L_arrivedAt : GoodIn wsL_law (va_wsS RL 281 yL_arrivedAt wsL_arrivedAt) := goodIn_app (goodIn_of _ (by decide +kernel)) ggL_law_L_arrivedAt
set_option maxRecDepth 20000 in
theorem ggL_law_X8_arrivedAt : GoodIn wsL_law wsX8_arrivedAt := goodIn_r _ [1070, 80, 166, 167, 5, 168, 169, 170, 171, 172, 173, 1235, 1236, 1237, 1238, 1239, 1240, 1241, 1242, 1243, 1244, 1245, 1246, 1247, 1248, 1249, 1250, 1251] (by decide +kernel) (by decide +kernel)
set_option maxRecDepth 20000 in
theorem gL_law_X8_arrivedAt : GoodIn wsL_law (wsV RL 283 RX8 yX8_arrivedAt wsX8_arrivedAt) := goodIn_app (goodIn_of _ (by decide +kernel)) ggL_law_X8_arrivedAt
set_option maxRecDepth 20000 in
theorem ggL_law_L_timeOf : GoodIn wsL_law wsL_timeOf := goodIn_ca (goodIn_ca (goodIn_r _ [1073, 186, 92, 1074, 1075, 1076, 2, 1077, 99, 100, 225, 1078, 192, 193, 194, 195, 196, 197, 16, 198, 155, 156, 15, 157, 119, 39, 1276, 1277, 1278, 1279, 1280, 1281, 1282, 1283, 1284, 1285, 1286, 1287, 1288, 1289, 1290, 1229, 1230, 1231, 1232, 1233, 1234, 1252, 1253, 1254, 1255, 1256, 1257, 1258, 1259, 1260, 1261, 1262, 1263, 1264, 1265] (by decide +kernel) (by decide +kernel)) (goodIn_sub (fun _ h => List.mem_append_left _ (List.mem_append_right _ h)) (by decide +kernel))) (goodIn_sub (fun _ h => List.mem_append_right _ h) (by decide +kernel))
set_option maxRecDepth 20000 in
theorem gL_law_L_timeOf : GoodIn wsL_law (va_wsS RL 284 yL_timeOf wsL_timeOf) := goodIn_app (goodIn_of _ (by decide +kernel)) ggL_law_L_timeOf
set_option maxRecDepth 20000 in
theorem ggL_law_X8_timeOf : GoodIn wsL_law wsX8_timeOf := goodIn_r _ [1082, 206, 207, 208, 5, 209, 80, 166, 167, 168, 231, 232, 233, 234, 214, 215, 216, 217, 169, 170, 171, 172, 173, 1235, 1236, 1237, 1238, 1239, 1240, 1241, 1242, 1243, 1244, 1245, 1246, 1247, 1248, 1249, 1250, 1251] (by decide +kernel) (by decide +kernel)
set_option maxRecDepth 20000 in
theorem gL_law_X8_timeOf : GoodIn wsL_law (wsV RL 286 RX8 yX8_timeOf wsX8_timeOf) := goodIn_app (goodIn_of _ (by decide +kernel)) ggL_law_X8_timeOf
set_option maxRecDepth 20000 in
theorem ggL_law_X7_flownByBirds : GoodIn wsL_law wsX7_flownByBirds := goodIn_r _ [1086, 16, 1087, 1088, 1089, 15, 1090, 39, 407, 259, 260, 261, 262, 250, 119, 1229, 1230, 1231, 1232, 1233, 1234, 1252, 1253, 1254, 1255, 1256, 1257, 1258, 1259, 1260, 1261, 1262, 1263, 1264, 1265, 1276, 1277, 1278, 1279, 1280, 1281, 1282, 1283, 1284, 1285, 1286, 1287, 1288, 1289, 1290] (by decide +kernel) (by decide +kernel)
set_option maxRecDepth 20000 in
theorem gL_law_X7_flownByBirds : GoodIn wsL_law (wsV RL 287 RX7 yX7_flownByBirds wsX7_flownByBirds) := goodIn_app (goodIn_of _ (by decide +kernel)) ggL_law_X7_flownByBirds
set_option maxRecDepth 20000 in
theorem ggL_law_X8_flownByBirds : GoodIn wsL_law wsX8_flownByBirds := goodIn_r _ [1094, 1095, 1096, 1097, 5, 1098, 80, 214, 215, 216, 217, 702, 703, 704, 705, 173, 1235, 1236, 1237, 1238, 1239, 1240, 1241, 1242, 1243, 1244, 1245, 1246, 1247, 1248, 1249, 1250, 1251] (by decide +kernel) (by decide +kernel)
set_option maxRecDepth 20000 in
theorem gL_law_X8_flownByBirds : GoodIn wsL_law (wsV RL 290 RX8 yX8_flownByBirds wsX8_flownByBirds) := goodIn_app (goodIn_of _ (by decide +kernel)) ggL_law_X8_flownByBirds
set_option maxRecDepth 20000 in
theorem ggL_law_X7_flownByAccount : GoodIn wsL_law wsX7_flownByAccount := goodIn_r _ [1102, 16, 1103, 1229, 1230, 1231, 1232, 1233, 1234, 1252, 1253, 1254, 1255, 1256, 1257, 1258, 1259, 1260, 1261, 1262, 1263, 1264, 1265] (by decide +kernel) (by decide +kernel)
set_option maxRecDepth 20000 in
theorem gL_law_X7_flownByAccount : GoodIn wsL_law (wsV RL 291 RX7 yX7_flownByAccount wsX7_flownByAccount) := goodIn_app (goodIn_of _ (by decide +kernel)) ggL_law_X7_flownByAccount
set_option maxRecDepth 20000 in
theorem ggL_law_X8_flownByAccount : GoodIn wsL_law wsX8_flownByAccount := goodIn_r _ [1107, 80, 702, 703, 704, 5, 705, 173, 1235, 1236, 1237, 1238, 1239, 1240, 1241, 1242, 1243, 1244, 1245, 1246, 1247, 1248, 1249, 1250, 1251] (by decide +kernel) (by decide +kernel)
