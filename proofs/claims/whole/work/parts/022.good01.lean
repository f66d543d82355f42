set_option maxRecDepth 20000 in
theorem gX7_undo_X4_dropLatest : GoodIn wsX7_undo (wsV RX7 191 RX4 yX4_dropLatest wsX4_dropLatest) := goodIn_app (goodIn_of _ (by decide +kernel)) ggX7_undo_X4_dropLatest
set_option maxRecDepth 20000 in
theorem ggX7_undo_X3_takeFrom : GoodIn wsX7_undo wsX3_takeFrom := goodIn_r _ [16, 17, 18, 19, 20, 21, 22, 23, 24, 25, 26, 27, 28, 29, 30, 31, 32, 33, 34, 35, 36, 37, 38, 39, 40, 41, 42, 43, 44, 45, 46, 47, 48, 57, 58, 59, 60, 61, 62, 63, 64, 65, 66, 67, 68, 69, 70, 71, 72, 73, 74, 75, 76, 77, 78, 79, 80, 81, 82, 83, 84, 85] (by decide +kernel) (by decide +kernel)
set_option maxRecDepth 20000 in
theorem gX7_undo_X3_takeFrom : GoodIn wsX7_undo (wsV RX7 175 RX3 yX3_takeFrom wsX3_takeFrom) := goodIn_app (goodIn_of _ (by decide +kernel)) ggX7_undo_X3_takeFrom
set_option maxRecDepth 20000 in
theorem ggX7_flown_X7_known : GoodIn wsX7_flown wsX7_known := goodIn_ca (goodIn_r _ [6, 7, 8, 9, 10, 11, 12, 13, 14, 15, 16, 32, 33, 34, 35, 36, 37, 38, 39, 40, 41, 42, 43, 44, 45, 46, 47, 48, 49, 50, 51] (by decide +kernel) (by decide +kernel)) (goodIn_sub (fun _ h => List.mem_cons_of_mem _ (List.mem_append_right _ h)) (by decide +kernel))
set_option maxRecDepth 20000 in
theorem gX7_flown_X7_known : GoodIn wsX7_flown (wsV RX7 79 RX7 yX7_known wsX7_known) := goodIn_app (goodIn_of _ (by decide +kernel)) ggX7_flown_X7_known
set_option maxRecDepth 20000 in
theorem ggX7_lapsOf_X7_known : GoodIn wsX7_lapsOf wsX7_known := goodIn_ca (goodIn_r _ [5, 6, 7, 8, 9, 10, 11, 12, 13, 14, 15, 22, 23, 24, 25, 26, 27, 28, 29, 30, 31, 32, 33, 34, 35, 36, 37, 38, 39, 40, 41] (by decide +kernel) (by decide +kernel)) (goodIn_sub (fun _ h => List.mem_cons_of_mem _ (List.mem_append_right _ h)) (by decide +kernel))
set_option maxRecDepth 20000 in
theorem gX7_lapsOf_X7_known : GoodIn wsX7_lapsOf (wsV RX7 79 RX7 yX7_known wsX7_known) := goodIn_app (goodIn_of _ (by decide +kernel)) ggX7_lapsOf_X7_known
set_option maxRecDepth 20000 in
theorem ggX7_lapsOf_X6_lapsOver : GoodIn wsX7_lapsOf wsX6_lapsOver := goodIn_r _ [20, 21, 42, 43, 44, 45, 46, 47, 48, 49, 50, 51, 52, 53, 54, 55, 56] (by decide +kernel) (by decide +kernel)
set_option maxRecDepth 20000 in
theorem gX7_lapsOf_X6_lapsOver : GoodIn wsX7_lapsOf (wsV RX7 201 RX6 yX6_lapsOver wsX6_lapsOver) := goodIn_app (goodIn_of _ (by decide +kernel)) ggX7_lapsOf_X6_lapsOver
set_option maxRecDepth 20000 in
theorem ggX7_speedOf_X7_known : GoodIn wsX7_speedOf wsX7_known := goodIn_ca (goodIn_r _ [6, 7, 8, 9, 10, 11, 12, 13, 14, 15, 16, 32, 33, 34, 35, 36, 37, 38, 39, 40, 41, 42, 43, 44, 45, 46, 47, 48, 49, 50, 51] (by decide +kernel) (by decide +kernel)) (goodIn_sub (fun _ h => List.mem_cons_of_mem _ (List.mem_append_right _ h)) (by decide +kernel))
set_option maxRecDepth 20000 in
theorem gX7_speedOf_X7_known : GoodIn wsX7_speedOf (wsV RX7 79 RX7 yX7_known wsX7_known) := goodIn_app (goodIn_of _ (by decide +kernel)) ggX7_speedOf_X7_known
set_option maxRecDepth 20000 in
theorem ggX7_strengthOf_X7_known : GoodIn wsX7_strengthOf wsX7_known := goodIn_ca (goodIn_r _ [6, 7, 8, 9, 10, 11, 12, 13, 14, 15, 16, 32, 33, 34, 35, 36, 37, 38, 39, 40, 41, 42, 43, 44, 45, 46, 47, 48, 49, 50, 51] (by decide +kernel) (by decide +kernel)) (goodIn_sub (fun _ h => List.mem_cons_of_mem _ (List.mem_append_right _ h)) (by decide +kernel))
set_option maxRecDepth 20000 in
theorem gX7_strengthOf_X7_known : GoodIn wsX7_strengthOf (wsV RX7 79 RX7 yX7_known wsX7_known) := goodIn_app (goodIn_of _ (by decide +kernel)) ggX7_strengthOf_X7_known
set_option maxRecDepth 20000 in
theorem ggX7_wearOf_X7_known : GoodIn wsX7_wearOf wsX7_known := goodIn_ca (goodIn_r _ [6, 7, 8, 9, 10, 11, 12, 13, 14, 15, 16, 32, 33, 34, 35, 36, 37, 38, 39, 40, 41, 42, 43, 44, 45, 46, 47, 48, 49, 50, 51] (by decide +kernel) (by decide +kernel)) (goodIn_sub (fun _ h => List.mem_cons_of_mem _ (List.mem_append_right _ h)) (by decide +kernel))
set_option maxRecDepth 20000 in
theorem gX7_wearOf_X7_known : GoodIn wsX7_wearOf (wsV RX7 79 RX7 yX7_known wsX7_known) := goodIn_app (goodIn_of _ (by decide +kernel)) ggX7_wearOf_X7_known
set_option maxRecDepth 20000 in
theorem ggX7_laneOf_X7_known : GoodIn wsX7_laneOf wsX7_known := goodIn_ca (goodIn_r _ [6, 7, 8, 9, 10, 11, 12, 13, 14, 15, 16, 32, 33, 34, 35, 36, 37, 38, 39, 40, 41, 42, 43, 44, 45, 46, 47, 48, 49, 50, 51] (by decide +kernel) (by decide +kernel)) (goodIn_sub (fun _ h => List.mem_cons_of_mem _ (List.mem_append_right _ h)) (by decide +kernel))
set_option maxRecDepth 20000 in
theorem gX7_laneOf_X7_known : GoodIn wsX7_laneOf (wsV RX7 79 RX7 yX7_known wsX7_known) := goodIn_app (goodIn_of _ (by decide +kernel)) ggX7_laneOf_X7_known
set_option maxRecDepth 20000 in
theorem ggX7_stateOf_X7_known : GoodIn wsX7_stateOf wsX7_known := goodIn_ca (goodIn_r _ [6, 7, 8, 9, 10, 11, 12, 13, 14, 15, 16, 32, 33, 34, 35, 36, 37, 38, 39, 40, 41, 42, 43, 44, 45, 46, 47, 48, 49, 50, 51] (by decide +kernel) (by decide +kernel)) (goodIn_sub (fun _ h => List.mem_cons_of_mem _ (List.mem_append_right _ h)) (by decide +kernel))
set_option maxRecDepth 20000 in
theorem gX7_stateOf_X7_known : GoodIn wsX7_stateOf (wsV RX7 79 RX7 yX7_known wsX7_known) := goodIn_app (goodIn_of _ (by decide +kernel)) ggX7_stateOf_X7_known
set_option maxRecDepth 20000 in
theorem ggX7_paceOf_X7_known : GoodIn wsX7_paceOf wsX7_known := goodIn_ca (goodIn_r _ [6, 7, 8, 9, 10, 11, 12, 13, 14, 15, 16, 32, 33, 34, 35, 36, 37, 38, 39, 40, 41, 42, 43, 44, 45, 46, 47, 48, 49, 50, 51] (by decide +kernel) (by decide +kernel)) (goodIn_sub (fun _ h => List.mem_cons_of_mem _ (List.mem_append_right _ h)) (by decide +kernel))
set_option maxRecDepth 20000 in
theorem gX7_paceOf_X7_known : GoodIn wsX7_paceOf (wsV RX7 79 RX7 yX7_known wsX7_known) := goodIn_app (goodIn_of _ (by decide +kernel)) ggX7_paceOf_X7_known
set_option maxRecDepth 20000 in
theorem ggX7_partnerOf_X7_known : GoodIn wsX7_partnerOf wsX7_known := goodIn_ca (goodIn_r _ [8, 9, 10, 11, 12, 13, 14, 15, 16, 17, 18, 34, 35, 36, 37, 38, 39, 40, 41, 42, 43, 44, 45, 46, 47, 48, 49, 50, 51, 52, 53] (by decide +kernel) (by decide +kernel)) (goodIn_sub (fun _ h => List.mem_cons_of_mem _ (List.mem_append_right _ h)) (by decide +kernel))
set_option maxRecDepth 20000 in
theorem gX7_partnerOf_X7_known : GoodIn wsX7_partnerOf (wsV RX7 79 RX7 yX7_known wsX7_known) := goodIn_app (goodIn_of _ (by decide +kernel)) ggX7_partnerOf_X7_known
set_option maxRecDepth 20000 in
theorem ggX7_isCalledIn_X7_known : GoodIn wsX7_isCalledIn wsX7_known := goodIn_ca (goodIn_r _ [6, 7, 8, 9, 10, 11, 12, 13, 14, 15, 16, 32, 33, 34, 35, 36, 37, 38, 39, 40, 41, 42, 43, 44, 45, 46, 47, 48, 49, 50, 51] (by decide +kernel) (by decide +kernel)) (goodIn_sub (fun _ h => List.mem_cons_of_mem _ (List.mem_append_right _ h)) (by decide +kernel))
set_option maxRecDepth 20000 in
theorem gX7_isCalledIn_X7_known : GoodIn wsX7_isCalledIn (wsV RX7 79 RX7 yX7_known wsX7_known) := goodIn_app (goodIn_of _ (by decide +kernel)) ggX7_isCalledIn_X7_known
set_option maxRecDepth 20000 in
theorem ggX7_limitOf_X7_checkCorner : GoodIn wsX7_limitOf wsX7_checkCorner := goodIn_ca (goodIn_r _ [5, 6, 7] (by decide +kernel) (by decide +kernel)) (goodIn_sub (fun _ h => List.mem_cons_of_mem _ (List.mem_append_right _ h)) (by decide +kernel))
set_option maxRecDepth 20000 in
theorem gX7_limitOf_X7_checkCorner : GoodIn wsX7_limitOf (va_wsS RX7 110 yX7_checkCorner wsX7_checkCorner) := goodIn_app (goodIn_of _ (by decide +kernel)) ggX7_limitOf_X7_checkCorner
set_option maxRecDepth 20000 in
theorem ggX7_limitOf_X3_limitAt : GoodIn wsX7_limitOf wsX3_limitAt := goodIn_r _ [12, 13, 20, 21, 22, 23, 24, 25, 26, 27, 28, 29, 30, 31, 32, 33] (by decide +kernel) (by decide +kernel)
set_option maxRecDepth 20000 in
theorem gX7_limitOf_X3_limitAt : GoodIn wsX7_limitOf (wsV RX7 115 RX3 yX3_limitAt wsX3_limitAt) := goodIn_app (goodIn_of _ (by decide +kernel)) ggX7_limitOf_X3_limitAt
set_option maxRecDepth 20000 in
theorem ggX7_placeByCounting_X7_known : GoodIn wsX7_placeByCounting wsX7_known := goodIn_ca (goodIn_r _ [6, 7, 8, 1, 9, 10, 11, 12, 13, 14, 15, 34, 35, 36, 37, 38, 39, 40, 41, 42, 43, 44, 45, 46, 47, 48, 49, 50, 51, 52, 53] (by decide +kernel) (by decide +kernel)) (goodIn_sub (fun _ h => List.mem_cons_of_mem _ (List.mem_append_right _ h)) (by decide +kernel))
set_option maxRecDepth 20000 in
theorem gX7_placeByCounting_X7_known : GoodIn wsX7_placeByCounting (wsV RX7 79 RX7 yX7_known wsX7_known) := goodIn_app (goodIn_of _ (by decide +kernel)) ggX7_placeByCounting_X7_known
set_option maxRecDepth 20000 in
theorem ggX7_placeByCounting_X3_countAheadOf : GoodIn wsX7_placeByCounting wsX3_countAheadOf := goodIn_r _ [19, 15, 20, 21, 22, 12, 23, 24, 14, 25, 26, 27, 28, 29, 30, 31, 32, 33, 40, 41, 42, 43, 44, 45, 46, 47, 48, 49, 50, 51, 52, 53, 54, 55, 56, 57, 58, 59, 60, 61, 62, 63, 64, 65, 66, 67, 68] (by decide +kernel) (by decide +kernel)
set_option maxRecDepth 20000 in
theorem gX7_placeByCounting_X3_countAheadOf : GoodIn wsX7_placeByCounting (wsV RX7 221 RX3 yX3_countAheadOf wsX3_countAheadOf) := goodIn_app (goodIn_of _ (by decide +kernel)) ggX7_placeByCounting_X3_countAheadOf
set_option maxRecDepth 20000 in
theorem ggX7_birdByOrder_X3_putInOrder : GoodIn wsX7_birdByOrder wsX3_putInOrder := goodIn_r _ [9, 10, 11, 12, 13, 8, 14, 15, 16, 17, 18, 19, 20, 21, 22, 23, 24, 25, 26, 27, 28, 29, 30, 56, 57, 58, 59, 60, 61, 62, 63, 64, 65, 66, 67, 68, 69, 41, 42, 43, 44, 45, 46, 47, 48, 49, 50, 51, 52, 53, 54, 55] (by decide +kernel) (by decide +kernel)
set_option maxRecDepth 20000 in
theorem gX7_birdByOrder_X3_putInOrder : GoodIn wsX7_birdByOrder (wsV RX7 225 RX3 yX3_putInOrder wsX3_putInOrder) := goodIn_app (goodIn_of _ (by decide +kernel)) ggX7_birdByOrder_X3_putInOrder
set_option maxRecDepth 20000 in
theorem ggX7_birdByOrder_X3_inOrder : GoodIn wsX7_birdByOrder wsX3_inOrder := goodIn_r _ [34, 16, 21, 56, 57, 58, 59, 60, 61, 62, 63, 64, 65, 66, 67, 68, 69] (by decide +kernel) (by decide +kernel)
set_option maxRecDepth 20000 in
theorem gX7_birdByOrder_X3_inOrder : GoodIn wsX7_birdByOrder (wsV RX7 228 RX3 yX3_inOrder wsX3_inOrder) := goodIn_app (goodIn_of _ (by decide +kernel)) ggX7_birdByOrder_X3_inOrder
set_option maxRecDepth 20000 in
theorem ggX7_gapAhead_X7_known : GoodIn wsX7_gapAhead wsX7_known := goodIn_ca (goodIn_r _ [6, 7, 8, 1, 9, 10, 11, 12, 13, 14, 15, 37, 38, 39, 40, 41, 42, 43, 44, 45, 46, 47, 48, 49, 50, 51, 52, 53, 54, 55, 56] (by decide +kernel) (by decide +kernel)) (goodIn_sub (fun _ h => List.mem_cons_of_mem _ (List.mem_append_right _ h)) (by decide +kernel))
set_option maxRecDepth 20000 in
theorem gX7_gapAhead_X7_known : GoodIn wsX7_gapAhead (wsV RX7 79 RX7 yX7_known wsX7_known) := goodIn_app (goodIn_of _ (by decide +kernel)) ggX7_gapAhead_X7_known
set_option maxRecDepth 20000 in
theorem ggX7_gapAhead_X3_gapOf : GoodIn wsX7_gapAhead wsX3_gapOf := goodIn_r _ [19, 20, 21, 22, 12, 23, 15, 24, 25, 26, 27, 28, 29, 14, 30, 31, 32, 33, 34, 35, 36, 43, 44, 45, 46, 47, 48, 49, 50, 51, 52, 53, 54, 55, 56, 57, 58, 59, 60, 61, 62, 63, 64, 65, 66, 67, 68, 69, 70, 71] (by decide +kernel) (by decide +kernel)
set_option maxRecDepth 20000 in
theorem gX7_gapAhead_X3_gapOf : GoodIn wsX7_gapAhead (wsV RX7 239 RX3 yX3_gapOf wsX3_gapOf) := goodIn_app (goodIn_of _ (by decide +kernel)) ggX7_gapAhead_X3_gapOf
set_option maxRecDepth 20000 in
theorem ggX7_isDrafting_X7_knownToFly : GoodIn wsX7_isDrafting wsX7_knownToFly := goodIn_ca (goodIn_ca (goodIn_r _ [6, 7, 8, 9, 10, 11, 12, 5, 13, 14, 15, 1, 16, 17, 18, 19, 20, 21, 22, 51, 52, 53, 54, 55, 56, 57, 58, 59, 60, 61, 62, 63, 64, 65, 45, 46, 47, 48, 49, 50, 66, 67, 68, 69, 70, 71, 72, 73, 74, 75, 76, 77, 78, 79] (by decide +kernel) (by decide +kernel)) (goodIn_sub (fun _ h => List.mem_cons_of_mem _ (List.mem_append_left _ (List.mem_append_right _ h))) (by decide +kernel))) (goodIn_sub (fun _ h => List.mem_cons_of_mem _ (List.mem_append_right _ h)) (by decide +kernel))
set_option maxRecDepth 20000 in
theorem gX7_isDrafting_X7_knownToFly : GoodIn wsX7_isDrafting (wsV RX7 242 RX7 yX7_knownToFly wsX7_knownToFly) := goodIn_app (goodIn_of _ (by decide +kernel)) ggX7_isDrafting_X7_knownToFly
set_option maxRecDepth 20000 in
theorem ggX7_isDrafting_X3_nextAhead : GoodIn wsX7_isDrafting wsX3_nextAhead := goodIn_r _ [26, 22, 27, 28, 29, 30, 19, 31, 32, 21, 33, 34, 35, 36, 37, 38, 39, 66, 67, 68, 69, 70, 71, 72, 73, 74, 75, 76, 77, 78, 79, 51, 52, 53, 54, 55, 56, 57, 58, 59, 60, 61, 62, 63, 64, 65] (by decide +kernel) (by decide +kernel)
set_option maxRecDepth 20000 in
theorem gX7_isDrafting_X3_nextAhead : GoodIn wsX7_isDrafting (wsV RX7 245 RX3 yX3_nextAhead wsX3_nextAhead) := goodIn_app (goodIn_of _ (by decide +kernel)) ggX7_isDrafting_X3_nextAhead
set_option maxRecDepth 20000 in
theorem ggX7_isDrafting_X3_draftFeet : GoodIn wsX7_isDrafting wsX3_draftFeet := goodIn_r _ [43, 32, 44, 34, 35, 36, 37, 38, 39, 51, 52, 53, 54, 55, 56, 57, 58, 59, 60, 61, 62, 63, 64, 65] (by decide +kernel) (by decide +kernel)
set_option maxRecDepth 20000 in
theorem gX7_isDrafting_X3_draftFeet : GoodIn wsX7_isDrafting (wsV RX7 249 RX3 yX3_draftFeet wsX3_draftFeet) := goodIn_app (goodIn_of _ (by decide +kernel)) ggX7_isDrafting_X3_draftFeet
set_option maxRecDepth 20000 in
theorem ggX7_whereIs_X7_known : GoodIn wsX7_whereIs wsX7_known := goodIn_ca (goodIn_r _ [5, 6, 7, 8, 9, 10, 11, 12, 13, 14, 15, 22, 23, 24, 25, 26, 27, 28, 29, 30, 31, 32, 33, 34, 35, 36, 37, 38, 39, 40, 41] (by decide +kernel) (by decide +kernel)) (goodIn_sub (fun _ h => List.mem_cons_of_mem _ (List.mem_append_right _ h)) (by decide +kernel))
set_option maxRecDepth 20000 in
theorem gX7_whereIs_X7_known : GoodIn wsX7_whereIs (wsV RX7 79 RX7 yX7_known wsX7_known) := goodIn_app (goodIn_of _ (by decide +kernel)) ggX7_whereIs_X7_known
set_option maxRecDepth 20000 in
theorem ggX7_whereIs_X6_partOfCourse : GoodIn wsX7_whereIs wsX6_partOfCourse := goodIn_r _ [20, 21, 42, 43, 44, 45, 46, 47, 48, 49, 50, 51, 52, 53, 54, 55, 56] (by decide +kernel) (by decide +kernel)
set_option maxRecDepth 20000 in
theorem gX7_whereIs_X6_partOfCourse : GoodIn wsX7_whereIs (wsV RX7 253 RX6 yX6_partOfCourse wsX6_partOfCourse) := goodIn_app (goodIn_of _ (by decide +kernel)) ggX7_whereIs_X6_partOfCourse
set_option maxRecDepth 20000 in
theorem ggX7_allowance_X7_knownToFly : GoodIn wsX7_allowance wsX7_knownToFly := goodIn_ca (goodIn_ca (goodIn_r _ [6, 7, 8, 9, 10, 11, 12, 5, 13, 14, 15, 1, 16, 17, 18, 19, 20, 21, 22, 47, 48, 49, 50, 51, 52, 53, 54, 55, 56, 57, 58, 59, 60, 61, 41, 42, 43, 44, 45, 46, 62, 63, 64, 65, 66, 67, 68, 69, 70, 71, 72, 73, 74, 75] (by decide +kernel) (by decide +kernel)) (goodIn_sub (fun _ h => List.mem_cons_of_mem _ (List.mem_append_left _ (List.mem_append_right _ h))) (by decide +kernel))) (goodIn_sub (fun _ h => List.mem_cons_of_mem _ (List.mem_append_right _ h)) (by decide +kernel))
set_option maxRecDepth 20000 in
theorem gX7_allowance_X7_knownToFly : GoodIn wsX7_allowance (wsV RX7 242 RX7 yX7_knownToFly wsX7_knownToFly) := goodIn_app (goodIn_of _ (by decide +kernel)) ggX7_allowance_X7_knownToFly
set_option maxRecDepth 20000 in
theorem ggX7_allowance_X3_allowedFeet : GoodIn wsX7_allowance wsX3_allowedFeet := goodIn_r _ [26, 27, 28, 29, 30, 31, 32, 33, 34, 35, 36, 37, 38, 19, 39, 40, 47, 48, 49, 50, 51, 52, 53, 54, 55, 56, 57, 58, 59, 60, 61, 62, 63, 64, 65, 66, 67, 68, 69, 70, 71, 72, 73, 74, 75] (by decide +kernel) (by decide +kernel)
set_option maxRecDepth 20000 in
theorem gX7_allowance_X3_allowedFeet : GoodIn wsX7_allowance (wsV RX7 256 RX3 yX3_allowedFeet wsX3_allowedFeet) := goodIn_app (goodIn_of _ (by decide +kernel)) ggX7_allowance_X3_allowedFeet
set_option maxRecDepth 20000 in
theorem ggX7_wouldFly_X7_known : GoodIn wsX7_wouldFly wsX7_known := goodIn_ca (goodIn_r _ [6, 7, 8, 9, 10, 11, 12, 13, 14, 15, 16, 182, 183, 184, 185, 186, 187, 188, 189, 190, 191, 192, 193, 194, 195, 196, 197, 198, 199, 200, 201] (by decide +kernel) (by decide +kernel)) (goodIn_sub (fun _ h => List.mem_cons_of_mem _ (List.mem_append_left _ (List.mem_append_left _ (List.mem_append_right _ h)))) (by decide +kernel))
set_option maxRecDepth 20000 in
theorem gX7_wouldFly_X7_known : GoodIn wsX7_wouldFly (wsV RX7 79 RX7 yX7_known wsX7_known) := goodIn_app (goodIn_of _ (by decide +kernel)) ggX7_wouldFly_X7_known
set_option maxRecDepth 20000 in
theorem ggX7_wouldFly_X7_checkSeconds : GoodIn wsX7_wouldFly wsX7_checkSeconds := goodIn_ca (goodIn_r _ [19, 20, 21] (by decide +kernel) (by decide +kernel)) (goodIn_sub (fun _ h => List.mem_cons_of_mem _ (List.mem_append_left _ (List.mem_append_right _ h))) (by decide +kernel))
set_option maxRecDepth 20000 in
theorem gX7_wouldFly_X7_checkSeconds : GoodIn wsX7_wouldFly (va_wsS RX7 135 yX7_checkSeconds wsX7_checkSeconds) := goodIn_app (goodIn_of _ (by decide +kernel)) ggX7_wouldFly_X7_checkSeconds
set_option maxRecDepth 20000 in
theorem ggX7_wouldFly_X7_checkRacing : GoodIn wsX7_wouldFly wsX7_checkRacing := goodIn_ca (goodIn_r _ [25, 26, 27, 9, 28, 182, 183, 184, 185, 186, 187, 188, 189, 190, 191, 192, 193, 194, 195, 196, 197, 198, 199, 200, 201] (by decide +kernel) (by decide +kernel)) (goodIn_sub (fun _ h => List.mem_cons_of_mem _ (List.mem_append_right _ h)) (by decide +kernel))
set_option maxRecDepth 20000 in
theorem gX7_wouldFly_X7_checkRacing : GoodIn wsX7_wouldFly (wsV RX7 138 RX7 yX7_checkRacing wsX7_checkRacing) := goodIn_app (goodIn_of _ (by decide +kernel)) ggX7_wouldFly_X7_checkRacing
set_option maxRecDepth 20000 in
theorem ggX7_wouldFly_X7_foretell : GoodIn wsX7_wouldFly wsX7_foretell := goodIn_r _ [32, 33, 9, 34, 1, 35, 36, 37, 38, 13, 39, 16, 40, 15, 41, 42, 43, 44, 45, 46, 47, 48, 49, 50, 51, 52, 53, 54, 55, 56, 57, 58, 59, 60, 61, 62, 63, 64, 65, 66, 67, 68, 69, 10, 11, 12, 14, 70, 71, 72, 73, 74, 75, 76, 77, 78, 79, 80, 81, 82, 83, 84, 85, 86, 87, 88, 89, 90, 91, 92, 93, 94, 95, 96, 97, 98, 99, 100, 101, 102, 103, 104, 105, 106, 107, 108, 109, 110, 111, 112, 113, 114, 115, 116, 117, 118, 119, 120, 121, 122, 123, 124, 125, 126, 127, 128, 129, 130, 131, 132, 133, 134, 135, 136, 137, 138, 139, 140, 141, 142, 143, 144, 145, 146, 147, 148, 149, 150, 151, 152, 153, 154, 155, 156, 157, 158, 159, 160, 161, 162, 163, 164, 165, 166, 182, 183, 184, 185, 186, 187, 167, 168, 169, 170, 171, 172, 173, 174, 175, 176, 177, 178, 179, 180, 181, 188, 189, 190, 191, 192, 193, 194, 195, 196, 197, 198, 199, 200, 201] (by decide +kernel) (by decide +kernel)
set_option maxRecDepth 20000 in
theorem gX7_wouldFly_X7_foretell : GoodIn wsX7_wouldFly (wsV RX7 259 RX7 yX7_foretell wsX7_foretell) := goodIn_app (goodIn_of _ (by decide +kernel)) ggX7_wouldFly_X7_foretell
set_option maxRecDepth 20000 in
theorem ggX7_wouldWin_X7_foretellWinner : GoodIn wsX7_wouldWin wsX7_foretellWinner := goodIn_r _ [7, 8, 9, 10, 11, 12, 13, 14, 6, 15, 16, 17, 18, 19, 20, 21, 22, 23, 24, 25, 26, 27, 28, 29, 30, 31, 32, 33, 34, 35, 36, 37, 38, 39, 40, 41, 42, 43, 44, 45, 46, 47, 48, 49, 50, 51, 52, 53, 54, 55, 56, 57, 58, 59, 60, 61, 62, 63, 64, 65, 66, 67, 68, 69, 70, 71, 72, 73, 74, 75, 76, 77, 78, 79, 80, 81, 82, 83, 84, 85, 86, 87, 88, 89, 90, 91, 92, 93, 94, 95, 96, 97, 98, 99, 100, 101, 102, 103, 104, 105, 106, 107, 108, 109, 110, 111, 112, 113, 114, 115, 116, 117, 118, 119, 120, 121, 122, 123, 124, 125, 126, 127, 128, 129, 130, 131, 132, 133, 134, 135, 136, 137, 138, 139, 140, 141, 142, 143, 144, 145, 146, 147, 148, 149, 150, 151, 152, 153, 154, 155, 156, 157, 158, 159, 160, 161, 162, 163, 164, 165, 166, 167, 168, 169, 170, 171, 172, 173, 174, 175, 176, 177, 178, 179, 180, 181, 182, 183, 184, 185, 186, 187, 188, 189] (by decide +kernel) (by decide +kernel)
set_option maxRecDepth 20000 in
theorem gX7_wouldWin_X7_foretellWinner : GoodIn wsX7_wouldWin (wsV RX7 263 RX7 yX7_foretellWinner wsX7_foretellWinner) := goodIn_app (goodIn_of _ (by decide +kernel)) ggX7_wouldWin_X7_foretellWinner
set_option maxRecDepth 20000 in
theorem ggX7_secondsToNext_X7_foretellSeconds : GoodIn wsX7_secondsToNext wsX7_foretellSeconds := goodIn_r _ [7, 8, 9, 10, 11, 12, 13, 14, 15, 16, 17, 18, 19, 20, 21, 22, 23, 24, 25, 26, 27, 28, 29, 30, 31, 32, 33, 34, 35, 36, 37, 38, 39, 40, 41, 42, 43, 44, 45, 46, 47, 48, 49, 50, 51, 52, 53, 54, 55, 56, 57, 58, 59, 60, 61, 62, 63, 64, 65, 66, 67, 68, 69, 70, 71, 72, 73, 74, 75, 76, 77, 78, 79, 80, 81, 82, 83, 84, 85, 86, 87, 88, 89, 90, 91, 92, 93, 94, 95, 96, 97, 98, 99, 100, 101, 102, 103, 104, 105, 106, 107, 108, 109, 110, 111, 112, 113, 114, 115, 116, 117, 118, 119, 120, 121, 122, 123, 124, 125, 126, 127, 128, 129, 130, 131, 132, 133, 134, 135, 136, 137, 138, 139, 140, 141, 142, 143, 144, 145, 146, 147, 148, 149, 150, 151, 152, 153, 154, 155, 156, 157, 158, 159, 160, 161, 162, 163, 164, 165, 166, 167, 168, 169, 170, 171, 172, 173, 174, 175, 176, 177, 178, 179, 180] (by decide +kernel) (by decide +kernel)
set_option maxRecDepth 20000 in
theorem gX7_secondsToNext_X7_foretellSeconds : GoodIn wsX7_secondsToNext (wsV RX7 268 RX7 yX7_foretellSeconds wsX7_foretellSeconds) := goodIn_app (goodIn_of _ (by decide +kernel)) ggX7_secondsToNext_X7_foretellSeconds
set_option maxRecDepth 20000 in
theorem ggX7_flownWithPace_X7_known : GoodIn wsX7_flownWithPace wsX7_known := goodIn_ca (goodIn_r _ [5, 6, 7, 8, 9, 10, 11, 12, 13, 14, 15, 170, 171, 172, 173, 174, 175, 176, 177, 178, 179, 180, 181, 182, 183, 184, 185, 186, 187, 188, 189] (by decide +kernel) (by decide +kernel)) (goodIn_sub (fun _ h => List.mem_cons_of_mem _ (List.mem_append_left _ (List.mem_append_left _ (List.mem_append_right _ h)))) (by decide +kernel))
set_option maxRecDepth 20000 in
theorem gX7_flownWithPace_X7_known : GoodIn wsX7_flownWithPace (wsV RX7 79 RX7 yX7_known wsX7_known) := goodIn_app (goodIn_of _ (by decide +kernel)) ggX7_flownWithPace_X7_known
set_option maxRecDepth 20000 in
theorem ggX7_flownWithPace_X7_checkPace : GoodIn wsX7_flownWithPace wsX7_checkPace := goodIn_ca (goodIn_r _ [18, 19, 20, 21, 22, 4, 23] (by decide +kernel) (by decide +kernel)) (goodIn_sub (fun _ h => List.mem_cons_of_mem _ (List.mem_append_left _ (List.mem_append_right _ h))) (by decide +kernel))
set_option maxRecDepth 20000 in
theorem gX7_flownWithPace_X7_checkPace : GoodIn wsX7_flownWithPace (va_wsS RX7 83 yX7_checkPace wsX7_checkPace) := goodIn_app (goodIn_of _ (by decide +kernel)) ggX7_flownWithPace_X7_checkPace
set_option maxRecDepth 20000 in
theorem ggX7_flownWithPace_X7_checkRacing : GoodIn wsX7_flownWithPace wsX7_checkRacing := goodIn_ca (goodIn_r _ [27, 28, 29, 8, 30, 170, 171, 172, 173, 174, 175, 176, 177, 178, 179, 180, 181, 182, 183, 184, 185, 186, 187, 188, 189] (by decide +kernel) (by decide +kernel)) (goodIn_sub (fun _ h => List.mem_cons_of_mem _ (List.mem_append_right _ h)) (by decide +kernel))
set_option maxRecDepth 20000 in
theorem gX7_flownWithPace_X7_checkRacing : GoodIn wsX7_flownWithPace (wsV RX7 138 RX7 yX7_checkRacing wsX7_checkRacing) := goodIn_app (goodIn_of _ (by decide +kernel)) ggX7_flownWithPace_X7_checkRacing
set_option maxRecDepth 20000 in
theorem ggX7_flownWithPace_X7_foretell : GoodIn wsX7_flownWithPace wsX7_foretell := goodIn_r _ [34, 35, 8, 36, 37, 38, 39, 40, 41, 12, 42, 15, 43, 14, 44, 45, 46, 47, 48, 49, 50, 51, 52, 53, 54, 55, 56, 57, 58, 59, 60, 61, 62, 63, 64, 65, 66, 67, 68, 69, 70, 71, 72, 9, 10, 11, 13, 73, 74, 75, 76, 77, 78, 79, 80, 81, 82, 83, 84, 85, 86, 87, 88, 89, 90, 91, 92, 93, 94, 95, 96, 97, 98, 99, 100, 101, 102, 103, 104, 105, 106, 107, 108, 109, 110, 111, 112, 113, 114, 115, 116, 117, 118, 119, 120, 121, 122, 123, 124, 125, 126, 127, 128, 129, 130, 131, 132, 133, 134, 135, 136, 137, 138, 139, 140, 141, 142, 143, 144, 145, 146, 147, 148, 149, 150, 151, 152, 153, 154, 155, 156, 157, 158, 159, 160, 161, 162, 163, 164, 165, 166, 167, 168, 169, 170, 171, 172, 173, 174, 175, 190, 191, 192, 193, 194, 195, 196, 197, 198, 199, 200, 201, 202, 203, 204, 176, 177, 178, 179, 180, 181, 182, 183, 184, 185, 186, 187, 188, 189] (by decide +kernel) (by decide +kernel)
set_option maxRecDepth 20000 in
theorem gX7_flownWithPace_X7_foretell : GoodIn wsX7_flownWithPace (wsV RX7 259 RX7 yX7_foretell wsX7_foretell) := goodIn_app (goodIn_of _ (by decide +kernel)) ggX7_flownWithPace_X7_foretell
set_option maxRecDepth 20000 in
theorem ggX7_bestPace_X7_known : GoodIn wsX7_bestPace wsX7_known := goodIn_ca (goodIn_r _ [5, 6, 7, 8, 9, 10, 11, 12, 13, 14, 15, 166, 167, 168, 169, 170, 171, 172, 173, 174, 175, 176, 177, 178, 179, 180, 181, 182, 183, 184, 185] (by decide +kernel) (by decide +kernel)) (goodIn_sub (fun _ h => List.mem_cons_of_mem _ (List.mem_append_left _ (List.mem_append_right _ h))) (by decide +kernel))
set_option maxRecDepth 20000 in
theorem gX7_bestPace_X7_known : GoodIn wsX7_bestPace (wsV RX7 79 RX7 yX7_known wsX7_known) := goodIn_app (goodIn_of _ (by decide +kernel)) ggX7_bestPace_X7_known
set_option maxRecDepth 20000 in
theorem ggX7_bestPace_X7_checkRacing : GoodIn wsX7_bestPace wsX7_checkRacing := goodIn_ca (goodIn_r _ [19, 20, 21, 8, 22, 166, 167, 168, 169, 170, 171, 172, 173, 174, 175, 176, 177, 178, 179, 180, 181, 182, 183, 184, 185] (by decide +kernel) (by decide +kernel)) (goodIn_sub (fun _ h => List.mem_cons_of_mem _ (List.mem_append_right _ h)) (by decide +kernel))
set_option maxRecDepth 20000 in
theorem gX7_bestPace_X7_checkRacing : GoodIn wsX7_bestPace (wsV RX7 138 RX7 yX7_checkRacing wsX7_checkRacing) := goodIn_app (goodIn_of _ (by decide +kernel)) ggX7_bestPace_X7_checkRacing
set_option maxRecDepth 20000 in
theorem ggX7_bestPace_X7_foretellBestPace : GoodIn wsX7_bestPace wsX7_foretellBestPace := goodIn_r _ [26, 27, 28, 29, 4, 30, 31, 8, 32, 33, 34, 35, 36, 37, 12, 38, 15, 39, 14, 40, 41, 42, 43, 44, 45, 46, 47, 48, 49, 50, 51, 52, 53, 54, 55, 56, 57, 58, 59, 60, 61, 62, 63, 64, 65, 66, 67, 68, 9, 10, 11, 13, 69, 70, 71, 72, 73, 74, 75, 76, 77, 78, 79, 80, 81, 82, 83, 84, 85, 86, 87, 88, 89, 90, 91, 92, 93, 94, 95, 96, 97, 98, 99, 100, 101, 102, 103, 104, 105, 106, 107, 108, 109, 110, 111, 112, 113, 114, 115, 116, 117, 118, 119, 120, 121, 122, 123, 124, 125, 126, 127, 128, 129, 130, 131, 132, 133, 134, 135, 136, 137, 138, 139, 140, 141, 142, 143, 144, 145, 146, 147, 148, 149, 150, 151, 152, 153, 154, 155, 156, 157, 158, 159, 160, 161, 162, 163, 164, 165, 166, 167, 168, 169, 170, 171, 186, 187, 188, 189, 190, 191, 192, 193, 194, 195, 196, 197, 198, 199, 200, 172, 173, 174, 175, 176, 177, 178, 179, 180, 181, 182, 183, 184, 185] (by decide +kernel) (by decide +kernel)
set_option maxRecDepth 20000 in
theorem gX7_bestPace_X7_foretellBestPace : GoodIn wsX7_bestPace (wsV RX7 273 RX7 yX7_foretellBestPace wsX7_foretellBestPace) := goodIn_app (goodIn_of _ (by decide +kernel)) ggX7_bestPace_X7_foretellBestPace
set_option maxRecDepth 20000 in
theorem ggX7_arrivedAt_X3_arrivedAs : GoodIn wsX7_arrivedAt wsX3_arrivedAs := goodIn_r _ [9, 10, 11, 12, 13, 14, 15, 8, 16, 17, 18, 40, 41, 42, 43, 44, 45, 46, 47, 48, 49, 50, 51, 52, 53, 25, 26, 27, 28, 29, 30, 31, 32, 33, 34, 35, 36, 37, 38, 39] (by decide +kernel) (by decide +kernel)
set_option maxRecDepth 20000 in
theorem gX7_arrivedAt_X3_arrivedAs : GoodIn wsX7_arrivedAt (wsV RX7 279 RX3 yX3_arrivedAs wsX3_arrivedAs) := goodIn_app (goodIn_of _ (by decide +kernel)) ggX7_arrivedAt_X3_arrivedAs
set_option maxRecDepth 20000 in
theorem ggX7_timeOf_X7_known : GoodIn wsX7_timeOf wsX7_known := goodIn_ca (goodIn_r _ [9, 10, 11, 12, 13, 14, 15, 16, 17, 18, 19, 35, 36, 37, 38, 39, 40, 41, 42, 43, 44, 45, 46, 47, 48, 49, 50, 51, 52, 53, 54] (by decide +kernel) (by decide +kernel)) (goodIn_sub (fun _ h => List.mem_cons_of_mem _ (List.mem_append_right _ h)) (by decide +kernel))
set_option maxRecDepth 20000 in
theorem gX7_timeOf_X7_known : GoodIn wsX7_timeOf (wsV RX7 79 RX7 yX7_known wsX7_known) := goodIn_app (goodIn_of _ (by decide +kernel)) ggX7_timeOf_X7_known
set_option maxRecDepth 20000 in
theorem ggX7_flownByBirds_X3_sumFlown : GoodIn wsX7_flownByBirds wsX3_sumFlown := goodIn_r _ [6, 7, 8, 9, 10, 11, 5, 12, 13, 14, 21, 22, 23, 24, 25, 26, 27, 28, 29, 30, 31, 32, 33, 34, 35, 36, 37, 38, 39, 40, 41, 42, 43, 44, 45, 46, 47, 48, 49] (by decide +kernel) (by decide +kernel)
set_option maxRecDepth 20000 in
theorem gX7_flownByBirds_X3_sumFlown : GoodIn wsX7_flownByBirds (wsV RX7 289 RX3 yX3_sumFlown wsX3_sumFlown) := goodIn_app (goodIn_of _ (by decide +kernel)) ggX7_flownByBirds_X3_sumFlown
set_option maxRecDepth 20000 in
theorem ggX7_meanFlown_X3_sumFlown : GoodIn wsX7_meanFlown wsX3_sumFlown := goodIn_r _ [7, 8, 9, 10, 11, 12, 6, 13, 14, 15, 22, 23, 24, 25, 26, 27, 28, 29, 30, 31, 32, 33, 34, 35, 36, 37, 38, 39, 40, 41, 42, 43, 44, 45, 46, 47, 48, 49, 50] (by decide +kernel) (by decide +kernel)
set_option maxRecDepth 20000 in
theorem gX7_meanFlown_X3_sumFlown : GoodIn wsX7_meanFlown (wsV RX7 289 RX3 yX3_sumFlown wsX3_sumFlown) := goodIn_app (goodIn_of _ (by decide +kernel)) ggX7_meanFlown_X3_sumFlown
set_option maxRecDepth 20000 in
theorem ggX7_digest_X0_init : GoodIn wsX7_digest wsX0_init := goodIn_r _ [13, 14, 15, 16, 17, 18, 259] (by decide +kernel) (by decide +kernel)
set_option maxRecDepth 20000 in
theorem gX7_digest_X0_init_n312 : GoodIn wsX7_digest (wsX0_init) := ggX7_digest_X0_init
set_option maxRecDepth 20000 in
theorem ggX7_digest_X0_add : GoodIn wsX7_digest wsX0_add := goodIn_r _ [22, 23, 18, 259] (by decide +kernel) (by decide +kernel)
set_option maxRecDepth 20000 in
theorem gX7_digest_X0_add : GoodIn wsX7_digest (wsV RX7 313 RX0 yX0_add wsX0_add) := goodIn_app (goodIn_of _ (by decide +kernel)) ggX7_digest_X0_add
set_option maxRecDepth 20000 in
theorem ggX7_digest_X3_at : GoodIn wsX7_digest wsX3_at := goodIn_r _ [28, 29, 30, 266, 267, 268, 269, 270, 271, 272, 273, 274, 275, 276, 277, 278, 279] (by decide +kernel) (by decide +kernel)
set_option maxRecDepth 20000 in
theorem gX7_digest_X3_at : GoodIn wsX7_digest (wsV RX7 316 RX3 yX3_at wsX3_at) := goodIn_app (goodIn_of _ (by decide +kernel)) ggX7_digest_X3_at
set_option maxRecDepth 20000 in
theorem ggX7_digest_X7_hashSparrow : GoodIn wsX7_digest wsX7_hashSparrow := goodIn_r _ [35, 36, 37, 38, 39, 40, 41, 7, 42, 43, 4, 44, 19, 20, 21, 3, 22, 23, 18, 45, 46, 47, 48, 49, 50, 51, 52, 53, 27, 54, 30, 55, 56, 57, 58, 59, 29, 60, 61, 62, 63, 64, 65, 66, 67, 68, 69, 70, 71, 72, 73, 74, 75, 76, 77, 78, 79, 80, 81, 82, 83, 84, 85, 86, 87, 88, 89, 90, 91, 92, 93, 94, 95, 96, 97, 98, 99, 100, 101, 102, 103, 104, 105, 106, 280, 281, 282, 283, 284, 285, 286, 287, 288, 289, 290, 291, 292, 293, 294, 260, 261, 262, 263, 264, 265, 259, 266, 267, 268, 269, 270, 271, 272, 273, 274, 275, 276, 277, 278, 279] (by decide +kernel) (by decide +kernel)
set_option maxRecDepth 20000 in
theorem gX7_digest_X7_hashSparrow : GoodIn wsX7_digest (wsV RX7 319 RX7 yX7_hashSparrow wsX7_hashSparrow) := goodIn_app (goodIn_of _ (by decide +kernel)) ggX7_digest_X7_hashSparrow
set_option maxRecDepth 20000 in
theorem ggX7_digest_X7_foretell : GoodIn wsX7_digest wsX7_foretell := goodIn_r _ [110, 111, 4, 112, 7, 37, 113, 114, 115, 27, 116, 30, 106, 29, 117, 118, 119, 120, 121, 122, 123, 124, 125, 126, 127, 128, 129, 48, 130, 131, 132, 133, 50, 134, 135, 136, 137, 64, 138, 139, 140, 65, 141, 24, 25, 26, 28, 142, 143, 144, 145, 146, 147, 148, 149, 55, 56, 57, 58, 59, 150, 151, 152, 153, 154, 60, 61, 62, 63, 66, 155, 156, 157, 158, 159, 160, 161, 162, 163, 164, 165, 166, 75, 100, 71, 72, 73, 74, 76, 77, 78, 79, 80, 81, 82, 83, 84, 167, 87, 88, 89, 90, 168, 96, 97, 98, 99, 101, 92, 93, 94, 102, 103, 104, 105, 169, 170, 171, 172, 173, 174, 175, 176, 177, 178, 179, 180, 181, 182, 183, 184, 46, 47, 49, 185, 186, 187, 188, 189, 190, 191, 192, 193, 194, 260, 261, 262, 263, 264, 265, 280, 281, 282, 283, 284, 285, 286, 287, 288, 289, 290, 291, 292, 293, 294, 266, 267, 268, 269, 270, 271, 272, 273, 274, 275, 276, 277, 278, 279] (by decide +kernel) (by decide +kernel)
set_option maxRecDepth 20000 in
theorem gX7_digest_X7_foretell : GoodIn wsX7_digest (wsV RX7 259 RX7 yX7_foretell wsX7_foretell) := goodIn_app (goodIn_of _ (by decide +kernel)) ggX7_digest_X7_foretell
set_option maxRecDepth 20000 in
theorem ggX7_digest_X7_hashOrder : GoodIn wsX7_digest wsX7_hashOrder := goodIn_r _ [198, 4, 5, 112, 199, 147, 148, 27, 149, 30, 55, 56, 57, 58, 59, 29, 150, 151, 152, 153, 154, 60, 61, 62, 48, 63, 64, 65, 50, 66, 200, 156, 157, 158, 19, 20, 21, 3, 22, 23, 18, 260, 261, 262, 263, 264, 265, 266, 267, 268, 269, 270, 271, 272, 273, 274, 275, 276, 277, 278, 279, 280, 281, 282, 283, 284, 285, 286, 287, 288, 289, 290, 291, 292, 293, 294, 259] (by decide +kernel) (by decide +kernel)
set_option maxRecDepth 20000 in
theorem gX7_digest_X7_hashOrder : GoodIn wsX7_digest (wsV RX7 323 RX7 yX7_hashOrder wsX7_hashOrder) := goodIn_app (goodIn_of _ (by decide +kernel)) ggX7_digest_X7_hashOrder
set_option maxRecDepth 20000 in
theorem ggX7_digest_X3_limitAt : GoodIn wsX7_digest wsX3_limitAt := goodIn_r _ [105, 106, 266, 267, 268, 269, 270, 271, 272, 273, 274, 275, 276, 277, 278, 279] (by decide +kernel) (by decide +kernel)
set_option maxRecDepth 20000 in
theorem gX7_digest_X3_limitAt : GoodIn wsX7_digest (wsV RX7 115 RX3 yX3_limitAt wsX3_limitAt) := goodIn_app (goodIn_of _ (by decide +kernel)) ggX7_digest_X3_limitAt
set_option maxRecDepth 20000 in
theorem ggX7_digest_X7_foretellSeconds : GoodIn wsX7_digest wsX7_foretellSeconds := goodIn_r _ [205, 111, 4, 6, 206, 113, 114, 115, 27, 116, 30, 106, 29, 117, 118, 119, 120, 121, 122, 123, 124, 125, 126, 127, 128, 129, 48, 130, 131, 132, 133, 50, 134, 135, 136, 137, 64, 138, 139, 140, 65, 141, 142, 143, 144, 145, 146, 147, 148, 149, 55, 56, 57, 58, 59, 150, 151, 152, 153, 154, 60, 61, 62, 63, 66, 155, 156, 157, 158, 159, 160, 161, 162, 163, 164, 165, 166, 75, 100, 71, 72, 73, 74, 76, 77, 78, 79, 80, 81, 82, 83, 84, 167, 87, 88, 89, 90, 168, 96, 97, 98, 99, 101, 92, 93, 94, 102, 103, 104, 105, 169, 170, 171, 172, 173, 174, 175, 176, 177, 178, 179, 180, 181, 182, 183, 184, 46, 47, 49, 185, 186, 187, 188, 189, 190, 191, 192, 193, 194, 260, 261, 262, 263, 264, 265, 266, 267, 268, 269, 270, 271, 272, 273, 274, 275, 276, 277, 278, 279, 280, 281, 282, 283, 284, 285, 286, 287, 288, 289, 290, 291, 292, 293, 294] (by decide +kernel) (by decide +kernel)
set_option maxRecDepth 20000 in
theorem gX7_digest_X7_foretellSeconds : GoodIn wsX7_digest (wsV RX7 268 RX7 yX7_foretellSeconds wsX7_foretellSeconds) := goodIn_app (goodIn_of _ (by decide +kernel)) ggX7_digest_X7_foretellSeconds
set_option maxRecDepth 20000 in
theorem ggX7_digest_X7_foretellWinner : GoodIn wsX7_digest wsX7_foretellWinner := goodIn_r _ [210, 4, 206, 111, 112, 202, 203, 204, 34, 205, 6, 113, 114, 115, 27, 116, 30, 106, 29, 117, 118, 119, 120, 121, 122, 123, 124, 125, 126, 127, 128, 129, 48, 130, 131, 132, 133, 50, 134, 135, 136, 137, 64, 138, 139, 140, 65, 141, 142, 143, 144, 145, 146, 147, 148, 149, 55, 56, 57, 58, 59, 150, 151, 152, 153, 154, 60, 61, 62, 63, 66, 155, 156, 157, 158, 159, 160, 161, 162, 163, 164, 165, 166, 75, 100, 71, 72, 73, 74, 76, 77, 78, 79, 80, 81, 82, 83, 84, 167, 87, 88, 89, 90, 168, 96, 97, 98, 99, 101, 92, 93, 94, 102, 103, 104, 105, 169, 170, 171, 172, 173, 174, 175, 176, 177, 178, 179, 180, 181, 182, 183, 184, 46, 47, 49, 185, 186, 187, 188, 189, 190, 191, 192, 193, 194, 211, 212, 213, 214, 260, 261, 262, 263, 264, 265, 266, 267, 268, 269, 270, 271, 272, 273, 274, 275, 276, 277, 278, 279, 280, 281, 282, 283, 284, 285, 286, 287, 288, 289, 290, 291, 292, 293, 294] (by decide +kernel) (by decide +kernel)
set_option maxRecDepth 20000 in
theorem gX7_digest_X7_foretellWinner : GoodIn wsX7_digest (wsV RX7 263 RX7 yX7_foretellWinner wsX7_foretellWinner) := goodIn_app (goodIn_of _ (by decide +kernel)) ggX7_digest_X7_foretellWinner
set_option maxRecDepth 20000 in
theorem ggX7_digest_X7_foretellBestPace : GoodIn wsX7_digest wsX7_foretellBestPace := goodIn_r _ [218, 107, 108, 109, 34, 110, 111, 4, 112, 7, 37, 113, 114, 115, 27, 116, 30, 106, 29, 117, 118, 119, 120, 121, 122, 123, 124, 125, 126, 127, 128, 129, 48, 130, 131, 132, 133, 50, 134, 135, 136, 137, 64, 138, 139, 140, 65, 141, 24, 25, 26, 28, 142, 143, 144, 145, 146, 147, 148, 149, 55, 56, 57, 58, 59, 150, 151, 152, 153, 154, 60, 61, 62, 63, 66, 155, 156, 157, 158, 159, 160, 161, 162, 163, 164, 165, 166, 75, 100, 71, 72, 73, 74, 76, 77, 78, 79, 80, 81, 82, 83, 84, 167, 87, 88, 89, 90, 168, 96, 97, 98, 99, 101, 92, 93, 94, 102, 103, 104, 105, 169, 170, 171, 172, 173, 174, 175, 176, 177, 178, 179, 180, 181, 182, 183, 184, 46, 47, 49, 185, 186, 187, 188, 189, 190, 191, 192, 193, 194, 260, 261, 262, 263, 264, 265, 280, 281, 282, 283, 284, 285, 286, 287, 288, 289, 290, 291, 292, 293, 294, 266, 267, 268, 269, 270, 271, 272, 273, 274, 275, 276, 277, 278, 279] (by decide +kernel) (by decide +kernel)
set_option maxRecDepth 20000 in
theorem gX7_digest_X7_foretellBestPace : GoodIn wsX7_digest (wsV RX7 273 RX7 yX7_foretellBestPace wsX7_foretellBestPace) := goodIn_app (goodIn_of _ (by decide +kernel)) ggX7_digest_X7_foretellBestPace
set_option maxRecDepth 20000 in
theorem ggX7_digest_X7_hashAccounts : GoodIn wsX7_digest wsX7_hashAccounts := goodIn_r _ [222, 4, 6, 223, 206, 112, 224, 225, 226, 227, 228, 229, 230, 231, 19, 20, 21, 3, 22, 23, 18, 211, 212, 213, 27, 214, 30, 80, 189, 55, 56, 57, 58, 59, 29, 232, 233, 234, 235, 181, 236, 237, 238, 34, 239, 5, 240, 241, 242, 243, 244, 245, 260, 261, 262, 263, 264, 265, 266, 267, 268, 269, 270, 271, 272, 273, 274, 275, 276, 277, 278, 279, 280, 281, 282, 283, 284, 285, 286, 287, 288, 289, 290, 291, 292, 293, 294, 297, 298, 259] (by decide +kernel) (by decide +kernel)
set_option maxRecDepth 20000 in
theorem gX7_digest_X7_hashAccounts : GoodIn wsX7_digest (wsV RX7 327 RX7 yX7_hashAccounts wsX7_hashAccounts) := goodIn_app (goodIn_of _ (by decide +kernel)) ggX7_digest_X7_hashAccounts
set_option maxRecDepth 20000 in
theorem ggX7_digest_X5_kept : GoodIn wsX7_digest wsX5_kept := goodIn_r _ [250, 251, 252, 299, 300] (by decide +kernel) (by decide +kernel)
set_option maxRecDepth 20000 in
theorem gX7_digest_X5_kept : GoodIn wsX7_digest (wsV RX7 185 RX5 yX5_kept wsX5_kept) := goodIn_app (goodIn_of _ (by decide +kernel)) ggX7_digest_X5_kept
set_option maxRecDepth 20000 in
theorem ggX7_digest_X2_at : GoodIn wsX7_digest wsX2_at := goodIn_r _ [257, 258, 295, 296] (by decide +kernel) (by decide +kernel)
set_option maxRecDepth 20000 in
theorem gX7_digest_X2_at : GoodIn wsX7_digest (wsV RX7 330 RX2 yX2_at wsX2_at) := goodIn_app (goodIn_of _ (by decide +kernel)) ggX7_digest_X2_at
set_option maxRecDepth 20000 in
theorem ggX7_hashSparrow_X0_add : GoodIn wsX7_hashSparrow wsX0_add := goodIn_r _ [16, 17, 18, 105] (by decide +kernel) (by decide +kernel)
set_option maxRecDepth 20000 in
theorem gX7_hashSparrow_X0_add : GoodIn wsX7_hashSparrow (wsV RX7 313 RX0 yX0_add wsX0_add) := goodIn_app (goodIn_of _ (by decide +kernel)) ggX7_hashSparrow_X0_add
set_option maxRecDepth 20000 in
theorem ggX7_hashSparrow_X6_lapsOver : GoodIn wsX7_hashSparrow wsX6_lapsOver := goodIn_r _ [23, 24, 84, 85, 86, 87, 88, 89, 90, 91, 92, 93, 94, 95, 96, 97, 98] (by decide +kernel) (by decide +kernel)
set_option maxRecDepth 20000 in
theorem gX7_hashSparrow_X6_lapsOver : GoodIn wsX7_hashSparrow (wsV RX7 201 RX6 yX6_lapsOver wsX6_lapsOver) := goodIn_app (goodIn_of _ (by decide +kernel)) ggX7_hashSparrow_X6_lapsOver
set_option maxRecDepth 20000 in
theorem ggX7_hashSparrow_X3_countAheadOf : GoodIn wsX7_hashSparrow wsX3_countAheadOf := goodIn_r _ [29, 30, 31, 32, 33, 28, 34, 35, 36, 37, 38, 39, 22, 40, 41, 42, 24, 43, 106, 107, 108, 109, 110, 111, 112, 113, 114, 115, 116, 117, 118, 119, 84, 85, 86, 87, 88, 89, 90, 91, 92, 93, 94, 95, 96, 97, 98] (by decide +kernel) (by decide +kernel)
set_option maxRecDepth 20000 in
theorem gX7_hashSparrow_X3_countAheadOf : GoodIn wsX7_hashSparrow (wsV RX7 221 RX3 yX3_countAheadOf wsX3_countAheadOf) := goodIn_app (goodIn_of _ (by decide +kernel)) ggX7_hashSparrow_X3_countAheadOf
set_option maxRecDepth 20000 in
theorem ggX7_hashSparrow_X3_gapOf : GoodIn wsX7_hashSparrow wsX3_gapOf := goodIn_r _ [47, 48, 49, 50, 28, 51, 30, 52, 53, 54, 55, 56, 35, 36, 57, 58, 59, 60, 22, 61, 24, 106, 107, 108, 109, 110, 111, 112, 113, 114, 115, 116, 117, 118, 119, 84, 85, 86, 87, 88, 89, 90, 91, 92, 93, 94, 95, 96, 97, 98] (by decide +kernel) (by decide +kernel)
set_option maxRecDepth 20000 in
theorem gX7_hashSparrow_X3_gapOf : GoodIn wsX7_hashSparrow (wsV RX7 239 RX3 yX3_gapOf wsX3_gapOf) := goodIn_app (goodIn_of _ (by decide +kernel)) ggX7_hashSparrow_X3_gapOf
set_option maxRecDepth 20000 in
theorem ggX7_hashSparrow_X3_nextAhead : GoodIn wsX7_hashSparrow wsX3_nextAhead := goodIn_r _ [51, 30, 52, 53, 54, 55, 28, 56, 35, 36, 57, 58, 59, 60, 22, 61, 24, 106, 107, 108, 109, 110, 111, 112, 113, 114, 115, 116, 117, 118, 119, 84, 85, 86, 87, 88, 89, 90, 91, 92, 93, 94, 95, 96, 97, 98] (by decide +kernel) (by decide +kernel)
set_option maxRecDepth 20000 in
theorem gX7_hashSparrow_X3_nextAhead : GoodIn wsX7_hashSparrow (wsV RX7 245 RX3 yX3_nextAhead wsX3_nextAhead) := goodIn_app (goodIn_of _ (by decide +kernel)) ggX7_hashSparrow_X3_nextAhead
set_option maxRecDepth 20000 in
theorem ggX7_hashSparrow_X3_draftFeet : GoodIn wsX7_hashSparrow wsX3_draftFeet := goodIn_r _ [66, 35, 67, 58, 59, 60, 22, 61, 24, 84, 85, 86, 87, 88, 89, 90, 91, 92, 93, 94, 95, 96, 97, 98] (by decide +kernel) (by decide +kernel)
set_option maxRecDepth 20000 in
theorem gX7_hashSparrow_X3_draftFeet : GoodIn wsX7_hashSparrow (wsV RX7 249 RX3 yX3_draftFeet wsX3_draftFeet) := goodIn_app (goodIn_of _ (by decide +kernel)) ggX7_hashSparrow_X3_draftFeet
set_option maxRecDepth 20000 in
theorem ggX7_hashSparrow_X6_partOfCourse : GoodIn wsX7_hashSparrow wsX6_partOfCourse := goodIn_r _ [71, 24, 84, 85, 86, 87, 88, 89, 90, 91, 92, 93, 94, 95, 96, 97, 98] (by decide +kernel) (by decide +kernel)
set_option maxRecDepth 20000 in
theorem gX7_hashSparrow_X6_partOfCourse : GoodIn wsX7_hashSparrow (wsV RX7 253 RX6 yX6_partOfCourse wsX6_partOfCourse) := goodIn_app (goodIn_of _ (by decide +kernel)) ggX7_hashSparrow_X6_partOfCourse
set_option maxRecDepth 20000 in
theorem ggX7_hashSparrow_X3_allowedFeet : GoodIn wsX7_hashSparrow wsX3_allowedFeet := goodIn_r _ [75, 76, 52, 77, 78, 69, 70, 22, 71, 24, 79, 80, 81, 28, 82, 83, 84, 85, 86, 87, 88, 89, 90, 91, 92, 93, 94, 95, 96, 97, 98, 106, 107, 108, 109, 110, 111, 112, 113, 114, 115, 116, 117, 118, 119] (by decide +kernel) (by decide +kernel)
set_option maxRecDepth 20000 in
theorem gX7_hashSparrow_X3_allowedFeet : GoodIn wsX7_hashSparrow (wsV RX7 256 RX3 yX3_allowedFeet wsX3_allowedFeet) := goodIn_app (goodIn_of _ (by decide +kernel)) ggX7_hashSparrow_X3_allowedFeet
set_option maxRecDepth 20000 in
theorem ggX7_hashOrder_X3_putInOrder : GoodIn wsX7_hashOrder wsX3_putInOrder := goodIn_r _ [8, 9, 10, 11, 12, 7, 13, 14, 15, 16, 17, 18, 19, 20, 21, 22, 23, 24, 25, 26, 27, 28, 29, 47, 48, 49, 50, 51, 52, 53, 54, 55, 56, 57, 58, 59, 60, 61, 62, 63, 64, 65, 66, 67, 68, 69, 70, 71, 72, 73, 74, 75] (by decide +kernel) (by decide +kernel)
set_option maxRecDepth 20000 in
theorem gX7_hashOrder_X3_putInOrder : GoodIn wsX7_hashOrder (wsV RX7 225 RX3 yX3_putInOrder wsX3_putInOrder) := goodIn_app (goodIn_of _ (by decide +kernel)) ggX7_hashOrder_X3_putInOrder
set_option maxRecDepth 20000 in
theorem ggX7_hashOrder_X3_inOrder : GoodIn wsX7_hashOrder wsX3_inOrder := goodIn_r _ [33, 15, 20, 47, 48, 49, 50, 51, 52, 53, 54, 55, 56, 57, 58, 59, 60] (by decide +kernel) (by decide +kernel)
set_option maxRecDepth 20000 in
theorem gX7_hashOrder_X3_inOrder : GoodIn wsX7_hashOrder (wsV RX7 228 RX3 yX3_inOrder wsX3_inOrder) := goodIn_app (goodIn_of _ (by decide +kernel)) ggX7_hashOrder_X3_inOrder
set_option maxRecDepth 20000 in
theorem ggX7_hashOrder_X0_add : GoodIn wsX7_hashOrder wsX0_add := goodIn_r _ [38, 39, 40, 76] (by decide +kernel) (by decide +kernel)
set_option maxRecDepth 20000 in
theorem gX7_hashOrder_X0_add : GoodIn wsX7_hashOrder (wsV RX7 313 RX0 yX0_add wsX0_add) := goodIn_app (goodIn_of _ (by decide +kernel)) ggX7_hashOrder_X0_add
set_option maxRecDepth 20000 in
theorem ggX7_hashAccounts_X0_add : GoodIn wsX7_hashAccounts wsX0_add := goodIn_r _ [18, 19, 20, 89] (by decide +kernel) (by decide +kernel)
set_option maxRecDepth 20000 in
theorem gX7_hashAccounts_X0_add : GoodIn wsX7_hashAccounts (wsV RX7 313 RX0 yX0_add wsX0_add) := goodIn_app (goodIn_of _ (by decide +kernel)) ggX7_hashAccounts_X0_add
set_option maxRecDepth 20000 in
theorem ggX7_hashAccounts_X3_arrivedAs : GoodIn wsX7_hashAccounts wsX3_arrivedAs := goodIn_r _ [25, 26, 27, 28, 29, 30, 31, 24, 32, 33, 34, 58, 59, 60, 61, 62, 63, 64, 65, 66, 67, 68, 69, 70, 71, 72, 73, 74, 75, 76, 77, 78, 79, 80, 81, 82, 83, 84, 85, 86] (by decide +kernel) (by decide +kernel)
set_option maxRecDepth 20000 in
theorem gX7_hashAccounts_X3_arrivedAs : GoodIn wsX7_hashAccounts (wsV RX7 279 RX3 yX3_arrivedAs wsX3_arrivedAs) := goodIn_app (goodIn_of _ (by decide +kernel)) ggX7_hashAccounts_X3_arrivedAs
set_option maxRecDepth 20000 in
theorem ggX7_hashAccounts_X3_sumFlown : GoodIn wsX7_hashAccounts wsX3_sumFlown := goodIn_r _ [38, 26, 39, 29, 30, 31, 24, 32, 33, 34, 58, 59, 60, 61, 62, 63, 64, 65, 66, 67, 68, 69, 70, 71, 72, 73, 74, 75, 76, 77, 78, 79, 80, 81, 82, 83, 84, 85, 86] (by decide +kernel) (by decide +kernel)
set_option maxRecDepth 20000 in
theorem gX7_hashAccounts_X3_sumFlown : GoodIn wsX7_hashAccounts (wsV RX7 289 RX3 yX3_sumFlown wsX3_sumFlown) := goodIn_app (goodIn_of _ (by decide +kernel)) ggX7_hashAccounts_X3_sumFlown
set_option maxRecDepth 20000 in
theorem ggX7_hashAccounts_X7_meanFlown : GoodIn wsX7_hashAccounts wsX7_meanFlown := goodIn_r _ [44, 1, 45, 35, 36, 37, 24, 38, 26, 39, 29, 30, 31, 32, 33, 34, 52, 53, 54, 55, 56, 57, 58, 59, 60, 61, 62, 63, 64, 65, 66, 67, 68, 69, 70, 71, 72, 73, 74, 75, 76, 77, 78, 79, 80, 81, 82, 83, 84, 85, 86] (by decide +kernel) (by decide +kernel)
set_option maxRecDepth 20000 in
theorem gX7_hashAccounts_X7_meanFlown : GoodIn wsX7_hashAccounts (wsV RX7 337 RX7 yX7_meanFlown wsX7_meanFlown) := goodIn_app (goodIn_of _ (by decide +kernel)) ggX7_hashAccounts_X7_meanFlown
set_option maxRecDepth 20000 in
theorem ggX7_hashAccounts_X7_bitsOf : GoodIn wsX7_hashAccounts wsX7_bitsOf := goodIn_r _ [48, 49, 50, 51] (by decide +kernel) (by decide +kernel)
set_option maxRecDepth 20000 in
theorem gX7_hashAccounts_X7_bitsOf : GoodIn wsX7_hashAccounts (va_wsS RX7 341 yX7_bitsOf wsX7_bitsOf) := goodIn_app (goodIn_of _ (by decide +kernel)) ggX7_hashAccounts_X7_bitsOf
set_option maxRecDepth 20000 in
theorem ggX7_foretell_X3_takeFrom : GoodIn wsX7_foretell wsX3_takeFrom := goodIn_r _ [10, 11, 12, 13, 14, 15, 16, 17, 18, 19, 20, 21, 22, 23, 24, 25, 26, 27, 28, 29, 30, 31, 32, 33, 34, 35, 36, 37, 38, 39, 40, 41, 42, 165, 166, 167, 168, 169, 170, 171, 172, 173, 174, 175, 176, 177, 178, 150, 151, 152, 153, 154, 155, 156, 157, 158, 159, 160, 161, 162, 163, 164] (by decide +kernel) (by decide +kernel)
set_option maxRecDepth 20000 in
theorem gX7_foretell_X3_takeFrom : GoodIn wsX7_foretell (wsV RX7 175 RX3 yX3_takeFrom wsX3_takeFrom) := goodIn_app (goodIn_of _ (by decide +kernel)) ggX7_foretell_X3_takeFrom
set_option maxRecDepth 20000 in
theorem ggX7_foretell_X3_at : GoodIn wsX7_foretell wsX3_at := goodIn_r _ [46, 13, 11, 165, 166, 167, 168, 169, 170, 171, 172, 173, 174, 175, 176, 177, 178] (by decide +kernel) (by decide +kernel)
set_option maxRecDepth 20000 in
theorem gX7_foretell_X3_at : GoodIn wsX7_foretell (wsV RX7 316 RX3 yX3_at wsX3_at) := goodIn_app (goodIn_of _ (by decide +kernel)) ggX7_foretell_X3_at
set_option maxRecDepth 20000 in
theorem ggX7_foretell_X3_letGoBy : GoodIn wsX7_foretell wsX3_letGoBy := goodIn_r _ [50, 15, 16, 13, 17, 51, 52, 53, 9, 54, 11, 55, 56, 57, 58, 59, 60, 61, 62, 63, 64, 65, 66, 67, 27, 68, 37, 41, 32, 69, 70, 71, 72, 73, 74, 75, 76, 77, 33, 38, 78, 79, 80, 81, 19, 82, 20, 83, 84, 85, 86, 87, 88, 89, 90, 91, 92, 93, 94, 95, 96, 97, 98, 99, 100, 101, 102, 103, 104, 105, 106, 107, 108, 109, 110, 111, 112, 113, 114, 12, 115, 116, 117, 118, 119, 120, 121, 122, 34, 123, 124, 125, 126, 127, 14, 128, 129, 18, 21, 130, 131, 132, 133, 134, 135, 136, 137, 138, 139, 23, 140, 141, 142, 143, 39, 35, 165, 166, 167, 168, 169, 170, 171, 172, 173, 174, 175, 176, 177, 178, 150, 151, 152, 153, 154, 155, 156, 157, 158, 159, 160, 161, 162, 163, 164] (by decide +kernel) (by decide +kernel)
set_option maxRecDepth 20000 in
theorem gX7_foretell_X3_letGoBy : GoodIn wsX7_foretell (wsV RX7 144 RX3 yX3_letGoBy wsX3_letGoBy) := goodIn_app (goodIn_of _ (by decide +kernel)) ggX7_foretell_X3_letGoBy
set_option maxRecDepth 20000 in
theorem ggX7_foretellBestPace_X7_foretell : GoodIn wsX7_foretellBestPace wsX7_foretell := goodIn_r _ [5, 6, 7, 8, 9, 10, 11, 12, 13, 14, 15, 16, 17, 18, 19, 20, 21, 22, 23, 24, 25, 26, 27, 28, 29, 30, 31, 32, 33, 34, 35, 36, 37, 38, 39, 40, 41, 42, 43, 44, 45, 46, 47, 48, 49, 50, 51, 52, 53, 54, 55, 56, 57, 58, 59, 60, 61, 62, 63, 64, 65, 66, 67, 68, 69, 70, 71, 72, 73, 74, 75, 76, 77, 78, 79, 80, 81, 82, 83, 84, 85, 86, 87, 88, 89, 90, 91, 92, 93, 94, 95, 96, 97, 98, 99, 100, 101, 102, 103, 104, 105, 106, 107, 108, 109, 110, 111, 112, 113, 114, 115, 116, 117, 118, 119, 120, 121, 122, 123, 124, 125, 126, 127, 128, 129, 130, 131, 132, 133, 134, 135, 136, 137, 138, 139, 140, 141, 142, 143, 144, 145, 146, 147, 148, 149, 150, 151, 152, 153, 154, 155, 156, 157, 158, 159, 160, 161, 162, 163, 164, 165, 166, 167, 168, 169, 170, 171, 172, 173, 174, 175, 176, 177, 178, 179, 180, 181, 182, 183] (by decide +kernel) (by decide +kernel)
set_option maxRecDepth 20000 in
theorem gX7_foretellBestPace_X7_foretell : GoodIn wsX7_foretellBestPace (wsV RX7 259 RX7 yX7_foretell wsX7_foretell) := goodIn_app (goodIn_of _ (by decide +kernel)) ggX7_foretellBestPace_X7_foretell
set_option maxRecDepth 20000 in
theorem ggX7_foretellSeconds_X3_takeFrom : GoodIn wsX7_foretellSeconds wsX3_takeFrom := goodIn_r _ [9, 10, 11, 12, 13, 14, 15, 16, 17, 18, 19, 20, 21, 22, 23, 24, 25, 26, 27, 28, 29, 30, 31, 32, 33, 34, 35, 36, 37, 38, 39, 40, 41, 145, 146, 147, 148, 149, 150, 151, 152, 153, 154, 155, 156, 157, 158, 159, 160, 161, 162, 163, 164, 165, 166, 167, 168, 169, 170, 171, 172, 173] (by decide +kernel) (by decide +kernel)
set_option maxRecDepth 20000 in
theorem gX7_foretellSeconds_X3_takeFrom : GoodIn wsX7_foretellSeconds (wsV RX7 175 RX3 yX3_takeFrom wsX3_takeFrom) := goodIn_app (goodIn_of _ (by decide +kernel)) ggX7_foretellSeconds_X3_takeFrom
set_option maxRecDepth 20000 in
theorem ggX7_foretellSeconds_X3_letGoBy : GoodIn wsX7_foretellSeconds wsX3_letGoBy := goodIn_r _ [45, 14, 15, 12, 16, 46, 47, 48, 8, 49, 10, 50, 51, 52, 53, 54, 55, 56, 57, 58, 59, 60, 61, 62, 26, 63, 36, 40, 31, 64, 65, 66, 67, 68, 69, 70, 71, 72, 32, 37, 73, 74, 75, 76, 18, 77, 19, 78, 79, 80, 81, 82, 83, 84, 85, 86, 87, 88, 89, 90, 91, 92, 93, 94, 95, 96, 97, 98, 99, 100, 101, 102, 103, 104, 105, 106, 107, 108, 109, 11, 110, 111, 112, 113, 114, 115, 116, 117, 33, 118, 119, 120, 121, 122, 13, 123, 124, 17, 20, 125, 126, 127, 128, 129, 130, 131, 132, 133, 134, 22, 135, 136, 137, 138, 38, 34, 145, 146, 147, 148, 149, 150, 151, 152, 153, 154, 155, 156, 157, 158, 159, 160, 161, 162, 163, 164, 165, 166, 167, 168, 169, 170, 171, 172, 173] (by decide +kernel) (by decide +kernel)
set_option maxRecDepth 20000 in
theorem gX7_foretellSeconds_X3_letGoBy : GoodIn wsX7_foretellSeconds (wsV RX7 144 RX3 yX3_letGoBy wsX3_letGoBy) := goodIn_app (goodIn_of _ (by decide +kernel)) ggX7_foretellSeconds_X3_letGoBy
set_option maxRecDepth 20000 in
theorem ggX7_foretellWinner_X7_foretellSeconds : GoodIn wsX7_foretellWinner wsX7_foretellSeconds := goodIn_r _ [9, 3, 1, 10, 2, 11, 12, 13, 14, 15, 16, 17, 18, 19, 20, 21, 22, 23, 24, 25, 26, 27, 28, 29, 30, 31, 32, 33, 34, 35, 36, 37, 38, 39, 40, 41, 42, 43, 44, 45, 46, 47, 48, 49, 50, 51, 52, 53, 54, 55, 56, 57, 58, 59, 60, 61, 62, 63, 64, 65, 66, 67, 68, 69, 70, 71, 72, 73, 74, 75, 76, 77, 78, 79, 80, 81, 82, 83, 84, 85, 86, 87, 88, 89, 90, 91, 92, 93, 94, 95, 96, 97, 98, 99, 100, 101, 102, 103, 104, 105, 106, 107, 108, 109, 110, 111, 112, 113, 114, 115, 116, 117, 118, 119, 120, 121, 122, 123, 124, 125, 126, 127, 128, 129, 130, 131, 132, 133, 134, 135, 136, 137, 138, 139, 140, 141, 142, 143, 144, 149, 150, 151, 152, 153, 154, 155, 156, 157, 158, 159, 160, 161, 162, 163, 164, 165, 166, 167, 168, 169, 170, 171, 172, 173, 174, 175, 176, 177, 178, 179, 180, 181, 182, 183] (by decide +kernel) (by decide +kernel)
set_option maxRecDepth 20000 in
theorem gX7_foretellWinner_X7_foretellSeconds : GoodIn wsX7_foretellWinner (wsV RX7 268 RX7 yX7_foretellSeconds wsX7_foretellSeconds) := goodIn_app (goodIn_of _ (by decide +kernel)) ggX7_foretellWinner_X7_foretellSeconds
set_option maxRecDepth 20000 in
theorem ggX7_foretellWinner_X3_arrivedAs : GoodIn wsX7_foretellWinner wsX3_arrivedAs := goodIn_r _ [148, 16, 93, 139, 56, 57, 58, 14, 59, 60, 18, 155, 156, 157, 158, 159, 160, 161, 162, 163, 164, 165, 166, 167, 168, 169, 170, 171, 172, 173, 174, 175, 176, 177, 178, 179, 180, 181, 182, 183] (by decide +kernel) (by decide +kernel)
set_option maxRecDepth 20000 in
theorem gX7_foretellWinner_X3_arrivedAs : GoodIn wsX7_foretellWinner (wsV RX7 279 RX3 yX3_arrivedAs wsX3_arrivedAs) := goodIn_app (goodIn_of _ (by decide +kernel)) ggX7_foretellWinner_X3_arrivedAs
set_option maxRecDepth 20000 in
theorem ggX7_readText_X1_start : GoodIn wsX7_readText wsX1_start := goodIn_r _ [8, 9, 10, 11, 12, 60, 61, 62, 63] (by decide +kernel) (by decide +kernel)
set_option maxRecDepth 20000 in
theorem gX7_readText_X1_start : GoodIn wsX7_readText (wsV RX7 351 RX1 yX1_start wsX1_start) := goodIn_app (goodIn_of _ (by decide +kernel)) ggX7_readText_X1_start
set_option maxRecDepth 20000 in
theorem ggX7_readText_X2_at : GoodIn wsX7_readText wsX2_at := goodIn_r _ [17, 18, 58, 59] (by decide +kernel) (by decide +kernel)
set_option maxRecDepth 20000 in
theorem gX7_readText_X2_at : GoodIn wsX7_readText (wsV RX7 330 RX2 yX2_at wsX2_at) := goodIn_app (goodIn_of _ (by decide +kernel)) ggX7_readText_X2_at
set_option maxRecDepth 20000 in
theorem ggX7_readText_X1_accepts : GoodIn wsX7_readText wsX1_accepts := goodIn_r _ [22, 9, 23, 24, 25, 7, 26, 12, 27, 28, 29, 30, 10, 31, 32, 33, 34, 35, 5, 6, 8, 11, 36, 37, 38, 39, 40, 41, 42, 43, 44, 45, 46, 47, 48, 49, 50, 51, 60, 61, 62, 63] (by decide +kernel) (by decide +kernel)
set_option maxRecDepth 20000 in
theorem gX7_readText_X1_accepts : GoodIn wsX7_readText (wsV RX7 354 RX1 yX1_accepts wsX1_accepts) := goodIn_app (goodIn_of _ (by decide +kernel)) ggX7_readText_X1_accepts
set_option maxRecDepth 20000 in
theorem ggX7_followOnTrial_X3_takeFrom : GoodIn wsX7_followOnTrial wsX3_takeFrom := goodIn_r _ [10, 11, 12, 13, 14, 15, 16, 17, 18, 19, 20, 21, 22, 23, 24, 25, 26, 27, 28, 29, 30, 31, 32, 33, 34, 35, 36, 37, 38, 39, 40, 41, 42, 216, 217, 218, 219, 220, 221, 222, 223, 224, 225, 226, 227, 228, 229, 230, 231, 232, 233, 234, 235, 236, 237, 238, 239, 240, 241, 242, 243, 244] (by decide +kernel) (by decide +kernel)
set_option maxRecDepth 20000 in
theorem gX7_followOnTrial_X3_takeFrom : GoodIn wsX7_followOnTrial (wsV RX7 175 RX3 yX3_takeFrom wsX3_takeFrom) := goodIn_app (goodIn_of _ (by decide +kernel)) ggX7_followOnTrial_X3_takeFrom
set_option maxRecDepth 20000 in
theorem ggX7_followOnTrial_X1_start : GoodIn wsX7_followOnTrial wsX1_start := goodIn_r _ [47, 48, 49, 50, 51, 245, 246, 247, 248] (by decide +kernel) (by decide +kernel)
set_option maxRecDepth 20000 in
theorem gX7_followOnTrial_X1_start : GoodIn wsX7_followOnTrial (wsV RX7 351 RX1 yX1_start wsX1_start) := goodIn_app (goodIn_of _ (by decide +kernel)) ggX7_followOnTrial_X1_start
set_option maxRecDepth 20000 in
theorem ggX7_followOnTrial_X2_at : GoodIn wsX7_followOnTrial wsX2_at := goodIn_r _ [56, 57, 214, 215] (by decide +kernel) (by decide +kernel)
set_option maxRecDepth 20000 in
theorem gX7_followOnTrial_X2_at : GoodIn wsX7_followOnTrial (wsV RX7 330 RX2 yX2_at wsX2_at) := goodIn_app (goodIn_of _ (by decide +kernel)) ggX7_followOnTrial_X2_at
set_option maxRecDepth 20000 in
theorem ggX7_followOnTrial_X7_followOneOnTrial : GoodIn wsX7_followOnTrial wsX7_followOneOnTrial := goodIn_r _ [62, 1, 3, 63, 64, 65, 66, 67, 68, 69, 70, 71, 72, 9, 73, 13, 11, 74, 75, 76, 77, 12, 78, 79, 80, 81, 15, 16, 17, 82, 83, 84, 85, 86, 87, 88, 89, 90, 91, 92, 93, 94, 95, 96, 97, 98, 27, 99, 37, 41, 32, 100, 101, 102, 103, 104, 105, 106, 107, 108, 33, 38, 109, 110, 111, 112, 19, 113, 20, 114, 115, 116, 117, 118, 119, 120, 121, 122, 123, 124, 125, 126, 127, 128, 129, 130, 131, 132, 133, 134, 135, 136, 137, 138, 139, 140, 141, 142, 143, 144, 145, 146, 147, 148, 149, 150, 151, 152, 153, 34, 154, 155, 156, 157, 158, 14, 159, 160, 18, 21, 161, 162, 163, 164, 165, 166, 167, 168, 169, 170, 23, 171, 172, 173, 174, 39, 35, 208, 209, 210, 211, 212, 213, 245, 246, 247, 248, 230, 231, 232, 233, 234, 235, 236, 237, 238, 239, 240, 241, 242, 243, 244, 216, 217, 218, 219, 220, 221, 222, 223, 224, 225, 226, 227, 228, 229] (by decide +kernel) (by decide +kernel)
set_option maxRecDepth 20000 in
theorem gX7_followOnTrial_X7_followOneOnTrial : GoodIn wsX7_followOnTrial (wsV RX7 358 RX7 yX7_followOneOnTrial wsX7_followOneOnTrial) := goodIn_app (goodIn_of _ (by decide +kernel)) ggX7_followOnTrial_X7_followOneOnTrial
set_option maxRecDepth 20000 in
theorem ggX7_followOnTrial_X1_accepts : GoodIn wsX7_followOnTrial wsX1_accepts := goodIn_r _ [178, 48, 179, 180, 181, 46, 182, 51, 183, 184, 185, 186, 49, 187, 188, 189, 190, 191, 44, 45, 47, 50, 192, 193, 194, 195, 196, 197, 198, 199, 200, 201, 202, 203, 204, 205, 206, 207, 245, 246, 247, 248] (by decide +kernel) (by decide +kernel)
set_option maxRecDepth 20000 in
theorem gX7_followOnTrial_X1_accepts : GoodIn wsX7_followOnTrial (wsV RX7 354 RX1 yX1_accepts wsX1_accepts) := goodIn_app (goodIn_of _ (by decide +kernel)) ggX7_followOnTrial_X1_accepts
set_option maxRecDepth 20000 in
theorem ggX7_followOneOnTrial_X3_at : GoodIn wsX7_followOneOnTrial wsX3_at := goodIn_r _ [14, 15, 16, 162, 163, 164, 165, 166, 167, 168, 169, 170, 171, 172, 173, 174, 175] (by decide +kernel) (by decide +kernel)
set_option maxRecDepth 20000 in
theorem gX7_followOneOnTrial_X3_at : GoodIn wsX7_followOneOnTrial (wsV RX7 316 RX3 yX3_at wsX3_at) := goodIn_app (goodIn_of _ (by decide +kernel)) ggX7_followOneOnTrial_X3_at
set_option maxRecDepth 20000 in
theorem ggX7_followOneOnTrial_X3_changeLimit : GoodIn wsX7_followOneOnTrial wsX3_changeLimit := goodIn_r _ [20, 21, 162, 163, 164, 165, 166, 167, 168, 169, 170, 171, 172, 173, 174, 175] (by decide +kernel) (by decide +kernel)
set_option maxRecDepth 20000 in
theorem gX7_followOneOnTrial_X3_changeLimit : GoodIn wsX7_followOneOnTrial (wsV RX7 119 RX3 yX3_changeLimit wsX3_changeLimit) := goodIn_app (goodIn_of _ (by decide +kernel)) ggX7_followOneOnTrial_X3_changeLimit
set_option maxRecDepth 20000 in
theorem ggX7_followOneOnTrial_X3_letGoBy : GoodIn wsX7_followOneOnTrial wsX3_letGoBy := goodIn_r _ [25, 26, 27, 15, 28, 29, 30, 31, 13, 32, 16, 33, 34, 35, 36, 37, 38, 39, 40, 41, 42, 43, 44, 45, 46, 47, 48, 49, 50, 51, 52, 53, 54, 55, 56, 57, 58, 59, 60, 61, 62, 63, 64, 65, 66, 67, 68, 69, 70, 71, 72, 73, 74, 75, 76, 77, 78, 79, 80, 81, 82, 83, 84, 85, 86, 87, 88, 89, 90, 91, 92, 93, 94, 95, 96, 97, 98, 99, 100, 21, 101, 102, 103, 104, 105, 106, 107, 108, 109, 110, 111, 112, 113, 114, 115, 116, 117, 118, 119, 120, 121, 122, 123, 124, 125, 126, 127, 128, 129, 130, 131, 132, 133, 134, 135, 136, 162, 163, 164, 165, 166, 167, 168, 169, 170, 171, 172, 173, 174, 175, 147, 148, 149, 150, 151, 152, 153, 154, 155, 156, 157, 158, 159, 160, 161] (by decide +kernel) (by decide +kernel)
set_option maxRecDepth 20000 in
theorem gX7_followOneOnTrial_X3_letGoBy : GoodIn wsX7_followOneOnTrial (wsV RX7 144 RX3 yX3_letGoBy wsX3_letGoBy) := goodIn_app (goodIn_of _ (by decide +kernel)) ggX7_followOneOnTrial_X3_letGoBy
set_option maxRecDepth 20000 in
theorem ggX7_known_X3_at : GoodIn wsX7_known wsX3_at := goodIn_r _ [8, 9, 10, 17, 18, 19, 20, 21, 22, 23, 24, 25, 26, 27, 28, 29, 30] (by decide +kernel) (by decide +kernel)
set_option maxRecDepth 20000 in
theorem gX7_known_X3_at : GoodIn wsX7_known (wsV RX7 316 RX3 yX3_at wsX3_at) := goodIn_app (goodIn_of _ (by decide +kernel)) ggX7_known_X3_at
set_option maxRecDepth 20000 in
theorem ggX7_knownToFly_X7_known : GoodIn wsX7_knownToFly wsX7_known := goodIn_ca (goodIn_r _ [8, 9, 10, 11, 12, 13, 14, 15, 16, 17, 18, 34, 35, 36, 37, 38, 39, 40, 41, 42, 43, 44, 45, 46, 47, 48, 49, 50, 51, 52, 53] (by decide +kernel) (by decide +kernel)) (goodIn_sub (fun _ h => List.mem_cons_of_mem _ (List.mem_append_right _ h)) (by decide +kernel))
set_option maxRecDepth 20000 in
theorem gX7_knownToFly_X7_known : GoodIn wsX7_knownToFly (wsV RX7 79 RX7 yX7_known wsX7_known) := goodIn_app (goodIn_of _ (by decide +kernel)) ggX7_knownToFly_X7_known
set_option maxRecDepth 20000 in
theorem ggX7_checkPace_X7_isPace : GoodIn wsX7_checkPace wsX7_isPace := goodIn_r _ [6] (by decide +kernel) (by decide +kernel)
set_option maxRecDepth 20000 in
theorem gX7_checkPace_X7_isPace : GoodIn wsX7_checkPace (va_wsS RX7 47 yX7_isPace wsX7_isPace) := goodIn_app (goodIn_of _ (by decide +kernel)) ggX7_checkPace_X7_isPace
set_option maxRecDepth 20000 in
theorem ggX8_isBird_X8_in : GoodIn wsX8_isBird wsX8_in := goodIn_r _ [5] (by decide +kernel) (by decide +kernel)
set_option maxRecDepth 20000 in
theorem gX8_isBird_X8_in : GoodIn wsX8_isBird (va_wsS RX8 36 yX8_in wsX8_in) := goodIn_app (goodIn_of _ (by decide +kernel)) ggX8_isBird_X8_in
set_option maxRecDepth 20000 in
theorem ggX8_flies_X8_of : GoodIn wsX8_flies wsX8_of := goodIn_r _ [5, 6, 7, 8, 9, 10, 11, 12, 13, 14, 15, 16, 17, 18, 19, 20, 21, 22, 23] (by decide +kernel) (by decide +kernel)
set_option maxRecDepth 20000 in
theorem gX8_flies_X8_of : GoodIn wsX8_flies (wsV RX8 40 RX8 yX8_of wsX8_of) := goodIn_app (goodIn_of _ (by decide +kernel)) ggX8_flies_X8_of
set_option maxRecDepth 20000 in
theorem ggX8_isOver_X8_of : GoodIn wsX8_isOver wsX8_of := goodIn_r _ [5, 6, 7, 8, 9, 10, 11, 12, 13, 14, 15, 16, 17, 18, 19, 20, 21, 22, 23] (by decide +kernel) (by decide +kernel)
set_option maxRecDepth 20000 in
theorem gX8_isOver_X8_of : GoodIn wsX8_isOver (wsV RX8 40 RX8 yX8_of wsX8_of) := goodIn_app (goodIn_of _ (by decide +kernel)) ggX8_isOver_X8_of
set_option maxRecDepth 20000 in
theorem ggX8_isAhead_X8_isOver : GoodIn wsX8_isAhead wsX8_isOver := goodIn_r _ [5, 6, 7, 8, 4, 9, 10, 15, 16, 17, 18, 19, 20, 21, 22, 23, 24, 25, 26, 27, 28, 29, 30, 31] (by decide +kernel) (by decide +kernel)
set_option maxRecDepth 20000 in
theorem gX8_isAhead_X8_isOver : GoodIn wsX8_isAhead (wsV RX8 47 RX8 yX8_isOver wsX8_isOver) := goodIn_app (goodIn_of _ (by decide +kernel)) ggX8_isAhead_X8_isOver
set_option maxRecDepth 20000 in
theorem ggX8_isAhead_X8_arrival : GoodIn wsX8_isAhead wsX8_arrival := goodIn_r _ [14, 10, 15, 16, 17, 18, 19, 20, 21, 22, 23, 24, 25, 26, 27, 28, 29, 30, 31] (by decide +kernel) (by decide +kernel)
set_option maxRecDepth 20000 in
theorem gX8_isAhead_X8_arrival : GoodIn wsX8_isAhead (wsV RX8 51 RX8 yX8_arrival wsX8_arrival) := goodIn_app (goodIn_of _ (by decide +kernel)) ggX8_isAhead_X8_arrival
set_option maxRecDepth 20000 in
theorem ggX8_isAhead_X8_of : GoodIn wsX8_isAhead wsX8_of := goodIn_r _ [9, 10, 15, 16, 17, 18, 19, 20, 21, 22, 23, 24, 25, 26, 27, 28, 29, 30, 31] (by decide +kernel) (by decide +kernel)
set_option maxRecDepth 20000 in
theorem gX8_isAhead_X8_of : GoodIn wsX8_isAhead (wsV RX8 40 RX8 yX8_of wsX8_of) := goodIn_app (goodIn_of _ (by decide +kernel)) ggX8_isAhead_X8_of
set_option maxRecDepth 20000 in
theorem ggX8_place_X8_isAhead : GoodIn wsX8_place wsX8_isAhead := goodIn_r _ [6, 7, 8, 9, 5, 10, 11, 12, 13, 14, 1, 15, 16, 17, 18, 19, 20, 21, 22, 23, 24, 25, 26, 27, 28, 29, 30, 31, 32, 33, 34, 35] (by decide +kernel) (by decide +kernel)
set_option maxRecDepth 20000 in
theorem gX8_place_X8_isAhead : GoodIn wsX8_place (wsV RX8 55 RX8 yX8_isAhead wsX8_isAhead) := goodIn_app (goodIn_of _ (by decide +kernel)) ggX8_place_X8_isAhead
set_option maxRecDepth 20000 in
theorem ggX8_birdAt_X8_place : GoodIn wsX8_birdAt wsX8_place := goodIn_r _ [6, 1, 7, 8, 9, 5, 10, 11, 12, 13, 14, 15, 16, 17, 18, 19, 20, 21, 22, 23, 24, 25, 26, 27, 28, 29, 30, 31, 32, 33, 34, 35, 36, 37, 38, 39] (by decide +kernel) (by decide +kernel)
set_option maxRecDepth 20000 in
theorem gX8_birdAt_X8_place : GoodIn wsX8_birdAt (wsV RX8 59 RX8 yX8_place wsX8_place) := goodIn_app (goodIn_of _ (by decide +kernel)) ggX8_birdAt_X8_place
set_option maxRecDepth 20000 in
theorem ggX8_ahead_X8_of : GoodIn wsX8_ahead wsX8_of := goodIn_r _ [5, 6, 7, 8, 9, 10, 11, 12, 13, 14, 15, 16, 17, 18, 19, 20, 21, 22, 23] (by decide +kernel) (by decide +kernel)
set_option maxRecDepth 20000 in
theorem gX8_ahead_X8_of : GoodIn wsX8_ahead (wsV RX8 40 RX8 yX8_of wsX8_of) := goodIn_app (goodIn_of _ (by decide +kernel)) ggX8_ahead_X8_of
set_option maxRecDepth 20000 in
theorem ggX8_gap_X8_flies : GoodIn wsX8_gap wsX8_flies := goodIn_r _ [6, 7, 8, 9, 5, 10, 1, 15, 16, 17, 18, 19, 20, 21, 22, 23, 24, 25, 26, 27, 28, 29, 30, 31] (by decide +kernel) (by decide +kernel)
set_option maxRecDepth 20000 in
theorem gX8_gap_X8_flies : GoodIn wsX8_gap (wsV RX8 62 RX8 yX8_flies wsX8_flies) := goodIn_app (goodIn_of _ (by decide +kernel)) ggX8_gap_X8_flies
set_option maxRecDepth 20000 in
theorem ggX8_gap_X8_of : GoodIn wsX8_gap wsX8_of := goodIn_r _ [10, 1, 15, 16, 17, 18, 19, 20, 21, 22, 23, 24, 25, 26, 27, 28, 29, 30, 31] (by decide +kernel) (by decide +kernel)
set_option maxRecDepth 20000 in
theorem gX8_gap_X8_of : GoodIn wsX8_gap (wsV RX8 40 RX8 yX8_of wsX8_of) := goodIn_app (goodIn_of _ (by decide +kernel)) ggX8_gap_X8_of
set_option maxRecDepth 20000 in
theorem ggX8_gap_X8_ahead : GoodIn wsX8_gap wsX8_ahead := goodIn_r _ [14, 7, 8, 9, 5, 10, 1, 15, 16, 17, 18, 19, 20, 21, 22, 23, 24, 25, 26, 27, 28, 29, 30, 31] (by decide +kernel) (by decide +kernel)
set_option maxRecDepth 20000 in
theorem gX8_gap_X8_ahead : GoodIn wsX8_gap (wsV RX8 65 RX8 yX8_ahead wsX8_ahead) := goodIn_app (goodIn_of _ (by decide +kernel)) ggX8_gap_X8_ahead
set_option maxRecDepth 20000 in
theorem ggX8_isDrafted_X8_of : GoodIn wsX8_isDrafted wsX8_of := goodIn_r _ [5, 6, 22, 23, 24, 25, 26, 27, 28, 29, 30, 31, 32, 33, 34, 35, 36, 37, 38] (by decide +kernel) (by decide +kernel)
set_option maxRecDepth 20000 in
theorem gX8_isDrafted_X8_of : GoodIn wsX8_isDrafted (wsV RX8 40 RX8 yX8_of wsX8_of) := goodIn_app (goodIn_of _ (by decide +kernel)) ggX8_isDrafted_X8_of
set_option maxRecDepth 20000 in
theorem ggX8_isDrafted_X8_gap : GoodIn wsX8_isDrafted wsX8_gap := goodIn_r _ [10, 6, 11, 12, 13, 4, 14, 1, 2, 3, 5, 15, 16, 17, 18, 22, 23, 24, 25, 26, 27, 28, 29, 30, 31, 32, 33, 34, 35, 36, 37, 38] (by decide +kernel) (by decide +kernel)
set_option maxRecDepth 20000 in
theorem gX8_isDrafted_X8_gap : GoodIn wsX8_isDrafted (wsV RX8 68 RX8 yX8_gap wsX8_gap) := goodIn_app (goodIn_of _ (by decide +kernel)) ggX8_isDrafted_X8_gap
set_option maxRecDepth 20000 in
theorem ggX8_isDrafted_X8_in : GoodIn wsX8_isDrafted wsX8_in := goodIn_r _ [21] (by decide +kernel) (by decide +kernel)
