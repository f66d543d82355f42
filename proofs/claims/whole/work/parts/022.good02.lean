set_option maxRecDepth 20000 in
theorem ggX8_limitOf_X8_refused : GoodIn wsX8_limitOf wsX8_refused := goodIn_r _ [9, 10, 11, 12, 13, 14, 15, 16, 17, 18, 19, 20, 21, 22, 23, 24, 25, 26, 27] rfl (by decide +kernel)
set_option maxRecDepth 20000 in
theorem gX8_limitOf_X8_refused : GoodIn wsX8_limitOf (wsV RX8 96 RX8 yX8_refused wsX8_refused) := goodIn_app (goodIn_r _ [6, 7, 8, 4] rfl (by decide +kernel)) ggX8_limitOf_X8_refused
set_option maxRecDepth 20000 in
theorem ggX8_placeByCounting_X8_isBird : GoodIn wsX8_placeByCounting wsX8_isBird := goodIn_r _ [5, 6, 7, 8, 4, 9, 35, 36, 37, 38, 39, 40, 41, 42, 43, 44, 45, 46, 47, 48, 49, 50, 51] rfl (by decide +kernel)
set_option maxRecDepth 20000 in
theorem gX8_placeByCounting_X8_isBird : GoodIn wsX8_placeByCounting (wsV RX8 102 RX8 yX8_isBird wsX8_isBird) := goodIn_app (goodIn_r _ [1, 2, 3, 4] rfl (by decide +kernel)) ggX8_placeByCounting_X8_isBird
set_option maxRecDepth 20000 in
theorem ggX8_placeByCounting_X8_refused : GoodIn wsX8_placeByCounting wsX8_refused := goodIn_r _ [13, 14, 35, 36, 37, 38, 39, 40, 41, 42, 43, 44, 45, 46, 47, 48, 49, 50, 51] rfl (by decide +kernel)
set_option maxRecDepth 20000 in
theorem gX8_placeByCounting_X8_refused : GoodIn wsX8_placeByCounting (wsV RX8 96 RX8 yX8_refused wsX8_refused) := goodIn_app (goodIn_r _ [10, 11, 12, 4] rfl (by decide +kernel)) ggX8_placeByCounting_X8_refused
set_option maxRecDepth 20000 in
theorem ggX8_placeByCounting_X8_place : GoodIn wsX8_placeByCounting wsX8_place := goodIn_r _ [18, 6, 19, 20, 21, 4, 22, 23, 24, 25, 26, 27, 28, 29, 30, 31, 32, 33, 34, 35, 36, 37, 38, 39, 40, 41, 42, 43, 44, 45, 46, 47, 48, 49, 50, 51] rfl (by decide +kernel)
set_option maxRecDepth 20000 in
theorem gX8_placeByCounting_X8_place : GoodIn wsX8_placeByCounting (wsV RX8 59 RX8 yX8_place wsX8_place) := goodIn_app (goodIn_r _ [15, 16, 17, 4] rfl (by decide +kernel)) ggX8_placeByCounting_X8_place
set_option maxRecDepth 20000 in
theorem ggX8_birdByOrder_X8_isBird : GoodIn wsX8_birdByOrder wsX8_isBird := goodIn_r _ [5, 6, 7, 8, 4, 9, 39, 40, 41, 42, 43, 44, 45, 46, 47, 48, 49, 50, 51, 52, 53, 54, 55] rfl (by decide +kernel)
set_option maxRecDepth 20000 in
theorem gX8_birdByOrder_X8_isBird : GoodIn wsX8_birdByOrder (wsV RX8 102 RX8 yX8_isBird wsX8_isBird) := goodIn_app (goodIn_r _ [1, 2, 3, 4] rfl (by decide +kernel)) ggX8_birdByOrder_X8_isBird
set_option maxRecDepth 20000 in
theorem ggX8_birdByOrder_X8_refused : GoodIn wsX8_birdByOrder wsX8_refused := goodIn_r _ [13, 14, 39, 40, 41, 42, 43, 44, 45, 46, 47, 48, 49, 50, 51, 52, 53, 54, 55] rfl (by decide +kernel)
set_option maxRecDepth 20000 in
theorem gX8_birdByOrder_X8_refused : GoodIn wsX8_birdByOrder (wsV RX8 96 RX8 yX8_refused wsX8_refused) := goodIn_app (goodIn_r _ [10, 11, 12, 4] rfl (by decide +kernel)) ggX8_birdByOrder_X8_refused
set_option maxRecDepth 20000 in
theorem ggX8_birdByOrder_X8_birdAt : GoodIn wsX8_birdByOrder wsX8_birdAt := goodIn_r _ [18, 6, 19, 20, 21, 4, 22, 23, 24, 25, 26, 27, 28, 29, 30, 31, 32, 33, 34, 35, 36, 37, 38, 39, 40, 41, 42, 43, 44, 45, 46, 47, 48, 49, 50, 51, 52, 53, 54, 55] rfl (by decide +kernel)
set_option maxRecDepth 20000 in
theorem gX8_birdByOrder_X8_birdAt : GoodIn wsX8_birdByOrder (wsV RX8 178 RX8 yX8_birdAt wsX8_birdAt) := goodIn_app (goodIn_r _ [15, 16, 17, 4] rfl (by decide +kernel)) ggX8_birdByOrder_X8_birdAt
set_option maxRecDepth 20000 in
theorem ggX8_gapAhead_X8_isBird : GoodIn wsX8_gapAhead wsX8_isBird := goodIn_r _ [5, 6, 7, 8, 4, 9, 31, 32, 33, 34, 35, 36, 37, 38, 39, 40, 41, 42, 43, 44, 45, 46, 47] rfl (by decide +kernel)
set_option maxRecDepth 20000 in
theorem gX8_gapAhead_X8_isBird : GoodIn wsX8_gapAhead (wsV RX8 102 RX8 yX8_isBird wsX8_isBird) := goodIn_app (goodIn_r _ [1, 2, 3, 4] rfl (by decide +kernel)) ggX8_gapAhead_X8_isBird
set_option maxRecDepth 20000 in
theorem ggX8_gapAhead_X8_refused : GoodIn wsX8_gapAhead wsX8_refused := goodIn_r _ [13, 14, 31, 32, 33, 34, 35, 36, 37, 38, 39, 40, 41, 42, 43, 44, 45, 46, 47] rfl (by decide +kernel)
set_option maxRecDepth 20000 in
theorem gX8_gapAhead_X8_refused : GoodIn wsX8_gapAhead (wsV RX8 96 RX8 yX8_refused wsX8_refused) := goodIn_app (goodIn_r _ [10, 11, 12, 4] rfl (by decide +kernel)) ggX8_gapAhead_X8_refused
set_option maxRecDepth 20000 in
theorem ggX8_gapAhead_X8_of : GoodIn wsX8_gapAhead wsX8_of := goodIn_r _ [18, 6, 31, 32, 33, 34, 35, 36, 37, 38, 39, 40, 41, 42, 43, 44, 45, 46, 47] rfl (by decide +kernel)
set_option maxRecDepth 20000 in
theorem gX8_gapAhead_X8_of : GoodIn wsX8_gapAhead (wsV RX8 40 RX8 yX8_of wsX8_of) := goodIn_app (goodIn_r _ [15, 16, 17, 4] rfl (by decide +kernel)) ggX8_gapAhead_X8_of
set_option maxRecDepth 20000 in
theorem ggX8_gapAhead_X8_gap : GoodIn wsX8_gapAhead wsX8_gap := goodIn_r _ [22, 6, 23, 24, 25, 4, 26, 15, 16, 17, 18, 27, 28, 29, 30, 31, 32, 33, 34, 35, 36, 37, 38, 39, 40, 41, 42, 43, 44, 45, 46, 47] rfl (by decide +kernel)
set_option maxRecDepth 20000 in
theorem gX8_gapAhead_X8_gap : GoodIn wsX8_gapAhead (wsV RX8 68 RX8 yX8_gap wsX8_gap) := goodIn_app (goodIn_r _ [19, 20, 21, 4] rfl (by decide +kernel)) ggX8_gapAhead_X8_gap
set_option maxRecDepth 20000 in
theorem ggX8_isIdle_X8_isBird : GoodIn wsX8_isIdle wsX8_isBird := goodIn_r _ [5, 6, 7, 8, 4, 9, 23, 24, 25, 26, 27, 28, 29, 30, 31, 32, 33, 34, 35, 36, 37, 38, 39] rfl (by decide +kernel)
set_option maxRecDepth 20000 in
theorem gX8_isIdle_X8_isBird : GoodIn wsX8_isIdle (wsV RX8 102 RX8 yX8_isBird wsX8_isBird) := goodIn_app (goodIn_r _ [1, 2, 3, 4] rfl (by decide +kernel)) ggX8_isIdle_X8_isBird
set_option maxRecDepth 20000 in
theorem ggX8_isIdle_X8_flies : GoodIn wsX8_isIdle wsX8_flies := goodIn_r _ [13, 14, 15, 16, 4, 17, 6, 23, 24, 25, 26, 27, 28, 29, 30, 31, 32, 33, 34, 35, 36, 37, 38, 39] rfl (by decide +kernel)
set_option maxRecDepth 20000 in
theorem gX8_isIdle_X8_flies : GoodIn wsX8_isIdle (wsV RX8 62 RX8 yX8_flies wsX8_flies) := goodIn_app (goodIn_r _ [10, 11, 12, 4] rfl (by decide +kernel)) ggX8_isIdle_X8_flies
set_option maxRecDepth 20000 in
theorem ggX8_isIdle_X8_refused : GoodIn wsX8_isIdle wsX8_refused := goodIn_r _ [21, 22, 23, 24, 25, 26, 27, 28, 29, 30, 31, 32, 33, 34, 35, 36, 37, 38, 39] rfl (by decide +kernel)
set_option maxRecDepth 20000 in
theorem gX8_isIdle_X8_refused : GoodIn wsX8_isIdle (wsV RX8 96 RX8 yX8_refused wsX8_refused) := goodIn_app (goodIn_r _ [18, 19, 20, 4] rfl (by decide +kernel)) ggX8_isIdle_X8_refused
set_option maxRecDepth 20000 in
theorem ggX8_isDrafting_X8_isIdle : GoodIn wsX8_isDrafting wsX8_isIdle := goodIn_r _ [5, 6, 7, 8, 4, 9, 10, 11, 12, 13, 14, 15, 16, 17, 18, 19, 20, 21, 22, 23, 24, 25, 26, 39, 40, 41, 42, 43, 44, 45, 46, 47, 48, 49, 50, 51, 52, 53, 54, 55] rfl (by decide +kernel)
set_option maxRecDepth 20000 in
theorem gX8_isDrafting_X8_isIdle : GoodIn wsX8_isDrafting (wsV RX8 181 RX8 yX8_isIdle wsX8_isIdle) := goodIn_app (goodIn_r _ [1, 2, 3, 4] rfl (by decide +kernel)) ggX8_isDrafting_X8_isIdle
set_option maxRecDepth 20000 in
theorem ggX8_isDrafting_X8_isDrafted : GoodIn wsX8_isDrafting wsX8_isDrafted := goodIn_r _ [30, 18, 19, 20, 4, 21, 10, 31, 32, 33, 34, 14, 15, 16, 17, 35, 36, 37, 38, 11, 12, 13, 39, 40, 41, 42, 43, 44, 45, 46, 47, 48, 49, 50, 51, 52, 53, 54, 55] rfl (by decide +kernel)
set_option maxRecDepth 20000 in
theorem gX8_isDrafting_X8_isDrafted : GoodIn wsX8_isDrafting (wsV RX8 74 RX8 yX8_isDrafted wsX8_isDrafted) := goodIn_app (goodIn_r _ [27, 28, 29, 4] rfl (by decide +kernel)) ggX8_isDrafting_X8_isDrafted
set_option maxRecDepth 20000 in
theorem ggX8_whereIs_X8_isBird : GoodIn wsX8_whereIs wsX8_isBird := goodIn_r _ [5, 6, 7, 8, 4, 9, 23, 24, 25, 26, 27, 28, 29, 30, 31, 32, 33, 34, 35, 36, 37, 38, 39] rfl (by decide +kernel)
set_option maxRecDepth 20000 in
theorem gX8_whereIs_X8_isBird : GoodIn wsX8_whereIs (wsV RX8 102 RX8 yX8_isBird wsX8_isBird) := goodIn_app (goodIn_r _ [1, 2, 3, 4] rfl (by decide +kernel)) ggX8_whereIs_X8_isBird
set_option maxRecDepth 20000 in
theorem ggX8_whereIs_X8_refused : GoodIn wsX8_whereIs wsX8_refused := goodIn_r _ [13, 14, 23, 24, 25, 26, 27, 28, 29, 30, 31, 32, 33, 34, 35, 36, 37, 38, 39] rfl (by decide +kernel)
set_option maxRecDepth 20000 in
theorem gX8_whereIs_X8_refused : GoodIn wsX8_whereIs (wsV RX8 96 RX8 yX8_refused wsX8_refused) := goodIn_app (goodIn_r _ [10, 11, 12, 4] rfl (by decide +kernel)) ggX8_whereIs_X8_refused
set_option maxRecDepth 20000 in
theorem ggX8_whereIs_X8_where : GoodIn wsX8_whereIs wsX8_where := goodIn_r _ [18, 19, 20, 21, 4, 22, 6, 23, 24, 25, 26, 27, 28, 29, 30, 31, 32, 33, 34, 35, 36, 37, 38, 39] rfl (by decide +kernel)
set_option maxRecDepth 20000 in
theorem gX8_whereIs_X8_where : GoodIn wsX8_whereIs (wsV RX8 71 RX8 yX8_where wsX8_where) := goodIn_app (goodIn_r _ [15, 16, 17, 4] rfl (by decide +kernel)) ggX8_whereIs_X8_where
set_option maxRecDepth 20000 in
theorem ggX8_allowance_X8_isIdle : GoodIn wsX8_allowance wsX8_isIdle := goodIn_r _ [5, 6, 7, 8, 4, 9, 10, 11, 12, 13, 14, 15, 16, 17, 18, 19, 20, 21, 22, 23, 24, 25, 26, 35, 36, 37, 38, 39, 40, 41, 42, 43, 44, 45, 46, 47, 48, 49, 50, 51] rfl (by decide +kernel)
set_option maxRecDepth 20000 in
theorem gX8_allowance_X8_isIdle : GoodIn wsX8_allowance (wsV RX8 181 RX8 yX8_isIdle wsX8_isIdle) := goodIn_app (goodIn_r _ [1, 2, 3, 4] rfl (by decide +kernel)) ggX8_allowance_X8_isIdle
set_option maxRecDepth 20000 in
theorem ggX8_allowance_X8_allowed : GoodIn wsX8_allowance wsX8_allowed := goodIn_r _ [30, 10, 31, 32, 33, 4, 34, 18, 19, 20, 21, 35, 36, 37, 38, 39, 40, 41, 42, 43, 44, 45, 46, 47, 48, 49, 50, 51] rfl (by decide +kernel)
set_option maxRecDepth 20000 in
theorem gX8_allowance_X8_allowed : GoodIn wsX8_allowance (wsV RX8 77 RX8 yX8_allowed wsX8_allowed) := goodIn_app (goodIn_r _ [27, 28, 29, 4] rfl (by decide +kernel)) ggX8_allowance_X8_allowed
set_option maxRecDepth 20000 in
theorem ggX8_flownIn_X8_putAside : GoodIn wsX8_flownIn wsX8_putAside := goodIn_r _ [5, 6, 7, 84, 85, 86, 87, 88, 89, 90, 91, 92, 93, 94, 95, 96, 97, 98, 99, 100] rfl (by decide +kernel)
set_option maxRecDepth 20000 in
theorem gX8_flownIn_X8_putAside : GoodIn wsX8_flownIn (wsV RX8 163 RX8 yX8_putAside wsX8_putAside) := goodIn_app (goodIn_r _ [1, 2, 3, 4] rfl (by decide +kernel)) ggX8_flownIn_X8_putAside
set_option maxRecDepth 20000 in
theorem ggX8_flownIn_X8_passes : GoodIn wsX8_flownIn wsX8_passes := goodIn_r _ [11, 7, 12, 13, 14, 4, 15, 16, 17, 18, 19, 20, 21, 22, 23, 24, 25, 26, 27, 28, 29, 30, 31, 32, 33, 34, 35, 36, 37, 38, 39, 40, 41, 42, 43, 44, 45, 46, 47, 48, 49, 50, 51, 52, 53, 54, 55, 56, 57, 58, 59, 60, 61, 62, 63, 64, 65, 66, 67, 68, 69, 70, 71, 72, 73, 74, 75, 76, 77, 78, 79, 84, 85, 86, 87, 88, 89, 90, 91, 92, 93, 94, 95, 96, 97, 98, 99, 100] rfl (by decide +kernel)
set_option maxRecDepth 20000 in
theorem gX8_flownIn_X8_passes : GoodIn wsX8_flownIn (wsV RX8 118 RX8 yX8_passes wsX8_passes) := goodIn_app (goodIn_r _ [8, 9, 10, 4] rfl (by decide +kernel)) ggX8_flownIn_X8_passes
set_option maxRecDepth 20000 in
theorem ggX8_flownIn_X8_of : GoodIn wsX8_flownIn wsX8_of := goodIn_r _ [32, 7, 84, 85, 86, 87, 88, 89, 90, 91, 92, 93, 94, 95, 96, 97, 98, 99, 100] rfl (by decide +kernel)
set_option maxRecDepth 20000 in
theorem gX8_flownIn_X8_of : GoodIn wsX8_flownIn (wsV RX8 40 RX8 yX8_of wsX8_of) := goodIn_app (goodIn_r _ [29, 30, 31, 4] rfl (by decide +kernel)) ggX8_flownIn_X8_of
set_option maxRecDepth 20000 in
theorem ggX8_flownIn_X8_putBack : GoodIn wsX8_flownIn wsX8_putBack := goodIn_r _ [83, 7, 6, 84, 85, 86, 87, 88, 89, 90, 91, 92, 93, 94, 95, 96, 97, 98, 99, 100] rfl (by decide +kernel)
set_option maxRecDepth 20000 in
theorem gX8_flownIn_X8_putBack : GoodIn wsX8_flownIn (wsV RX8 169 RX8 yX8_putBack wsX8_putBack) := goodIn_app (goodIn_r _ [80, 81, 82, 4] rfl (by decide +kernel)) ggX8_flownIn_X8_putBack
set_option maxRecDepth 20000 in
theorem ggX8_wouldFly_X8_isBird : GoodIn wsX8_wouldFly wsX8_isBird := goodIn_r _ [6, 1, 7, 8, 5, 9, 97, 98, 99, 100, 101, 102, 103, 104, 105, 106, 107, 108, 109, 110, 111, 112, 113] rfl (by decide +kernel)
set_option maxRecDepth 20000 in
theorem gX8_wouldFly_X8_isBird : GoodIn wsX8_wouldFly (wsV RX8 102 RX8 yX8_isBird wsX8_isBird) := goodIn_app (goodIn_r _ [2, 3, 4, 5] rfl (by decide +kernel)) ggX8_wouldFly_X8_isBird
set_option maxRecDepth 20000 in
theorem ggX8_wouldFly_X8_in : GoodIn wsX8_wouldFly wsX8_in := goodIn_r _ [9] rfl (by decide +kernel)
set_option maxRecDepth 20000 in
theorem gX8_wouldFly_X8_in : GoodIn wsX8_wouldFly (va_wsS RX8 36 yX8_in wsX8_in) := goodIn_app (goodIn_r _ [7, 8, 5] rfl (by decide +kernel)) ggX8_wouldFly_X8_in
set_option maxRecDepth 20000 in
theorem ggX8_wouldFly_X8_refused : GoodIn wsX8_wouldFly wsX8_refused := goodIn_r _ [13, 14, 97, 98, 99, 100, 101, 102, 103, 104, 105, 106, 107, 108, 109, 110, 111, 112, 113] rfl (by decide +kernel)
set_option maxRecDepth 20000 in
theorem gX8_wouldFly_X8_refused : GoodIn wsX8_wouldFly (wsV RX8 96 RX8 yX8_refused wsX8_refused) := goodIn_app (goodIn_r _ [10, 11, 12, 5] rfl (by decide +kernel)) ggX8_wouldFly_X8_refused
set_option maxRecDepth 20000 in
theorem ggX8_wouldFly_X8_flownIn : GoodIn wsX8_wouldFly wsX8_flownIn := goodIn_r _ [18, 19, 20, 21, 5, 22, 23, 1, 24, 25, 26, 27, 28, 29, 30, 31, 32, 33, 34, 35, 36, 37, 38, 39, 40, 41, 42, 43, 44, 45, 46, 47, 48, 49, 50, 51, 52, 53, 54, 55, 56, 57, 58, 59, 60, 61, 62, 63, 64, 65, 66, 67, 68, 69, 70, 71, 72, 7, 8, 9, 73, 74, 75, 76, 77, 78, 79, 80, 81, 82, 83, 84, 85, 86, 87, 88, 89, 90, 91, 92, 93, 94, 95, 96, 97, 98, 99, 100, 101, 102, 103, 104, 105, 106, 107, 108, 109, 110, 111, 112, 113] rfl (by decide +kernel)
set_option maxRecDepth 20000 in
theorem gX8_wouldFly_X8_flownIn : GoodIn wsX8_wouldFly (wsV RX8 184 RX8 yX8_flownIn wsX8_flownIn) := goodIn_app (goodIn_r _ [15, 16, 17, 5] rfl (by decide +kernel)) ggX8_wouldFly_X8_flownIn
set_option maxRecDepth 20000 in
theorem ggX8_nextIn_X8_putAside : GoodIn wsX8_nextIn wsX8_putAside := goodIn_r _ [7, 8, 1, 81, 82, 83, 84, 85, 86, 87, 88, 89, 90, 91, 92, 93, 94, 95, 96, 97] rfl (by decide +kernel)
set_option maxRecDepth 20000 in
theorem gX8_nextIn_X8_putAside : GoodIn wsX8_nextIn (wsV RX8 163 RX8 yX8_putAside wsX8_putAside) := goodIn_app (goodIn_r _ [3, 4, 5, 6] rfl (by decide +kernel)) ggX8_nextIn_X8_putAside
set_option maxRecDepth 20000 in
theorem ggX8_nextIn_X8_second : GoodIn wsX8_nextIn wsX8_second := goodIn_r _ [12, 1, 13, 14, 15, 16, 6, 17, 18, 19, 20, 21, 22, 23, 24, 25, 26, 27, 28, 29, 30, 31, 32, 33, 34, 35, 36, 37, 38, 39, 40, 41, 42, 43, 44, 45, 46, 47, 48, 49, 50, 51, 52, 53, 54, 55, 56, 57, 58, 59, 60, 61, 62, 63, 64, 65, 66, 67, 68, 69, 70, 71, 72, 73, 74, 75, 76, 81, 82, 83, 84, 85, 86, 87, 88, 89, 90, 91, 92, 93, 94, 95, 96, 97] rfl (by decide +kernel)
set_option maxRecDepth 20000 in
theorem gX8_nextIn_X8_second : GoodIn wsX8_nextIn (wsV RX8 92 RX8 yX8_second wsX8_second) := goodIn_app (goodIn_r _ [9, 10, 11, 6] rfl (by decide +kernel)) ggX8_nextIn_X8_second
set_option maxRecDepth 20000 in
theorem ggX8_nextIn_X8_putBack : GoodIn wsX8_nextIn wsX8_putBack := goodIn_r _ [80, 1, 8, 81, 82, 83, 84, 85, 86, 87, 88, 89, 90, 91, 92, 93, 94, 95, 96, 97] rfl (by decide +kernel)
set_option maxRecDepth 20000 in
theorem gX8_nextIn_X8_putBack : GoodIn wsX8_nextIn (wsV RX8 169 RX8 yX8_putBack wsX8_putBack) := goodIn_app (goodIn_r _ [77, 78, 79, 6] rfl (by decide +kernel)) ggX8_nextIn_X8_putBack
set_option maxRecDepth 20000 in
theorem ggX8_first_X8_nextIn : GoodIn wsX8_first wsX8_nextIn := goodIn_r _ [7, 1, 2, 8, 9, 10, 6, 11, 12, 13, 14, 15, 16, 17, 18, 19, 20, 21, 22, 23, 24, 25, 26, 27, 28, 29, 30, 31, 32, 33, 34, 35, 36, 37, 38, 39, 40, 41, 42, 43, 44, 45, 46, 47, 48, 49, 50, 51, 52, 53, 54, 55, 56, 57, 58, 59, 60, 61, 62, 63, 64, 65, 66, 67, 68, 69, 70, 71, 72, 73, 74, 75, 76, 77, 78, 79, 80, 81, 82, 83, 84, 85, 86, 87, 88, 89, 90, 91, 92, 93, 94, 95, 96, 97, 98, 99, 100, 101] rfl (by decide +kernel)
set_option maxRecDepth 20000 in
theorem gX8_first_X8_nextIn : GoodIn wsX8_first (wsV RX8 190 RX8 yX8_nextIn wsX8_nextIn) := goodIn_app (goodIn_r _ [3, 4, 5, 6] rfl (by decide +kernel)) ggX8_first_X8_nextIn
set_option maxRecDepth 20000 in
theorem ggX8_wouldWin_X8_first : GoodIn wsX8_wouldWin wsX8_first := goodIn_r _ [5, 6, 7, 8, 9, 10, 4, 11, 12, 13, 14, 15, 16, 17, 18, 19, 20, 21, 22, 23, 24, 25, 26, 27, 28, 29, 30, 31, 32, 33, 34, 35, 36, 37, 38, 39, 40, 41, 42, 43, 44, 45, 46, 47, 48, 49, 50, 51, 52, 53, 54, 55, 56, 57, 58, 59, 60, 61, 62, 63, 64, 65, 66, 67, 68, 69, 70, 71, 72, 73, 74, 75, 76, 77, 78, 79, 80, 81, 82, 83, 84, 85, 86, 87, 88, 94, 95, 96, 97, 98, 99, 100, 101, 102, 103, 104, 105, 106, 107, 108, 109, 110] rfl (by decide +kernel)
set_option maxRecDepth 20000 in
theorem gX8_wouldWin_X8_first : GoodIn wsX8_wouldWin (wsV RX8 193 RX8 yX8_first wsX8_first) := goodIn_app (goodIn_r _ [1, 2, 3, 4] rfl (by decide +kernel)) ggX8_wouldWin_X8_first
set_option maxRecDepth 20000 in
theorem ggX8_wouldWin_X8_refused : GoodIn wsX8_wouldWin wsX8_refused := goodIn_r _ [92, 93, 94, 95, 96, 97, 98, 99, 100, 101, 102, 103, 104, 105, 106, 107, 108, 109, 110] rfl (by decide +kernel)
set_option maxRecDepth 20000 in
theorem gX8_wouldWin_X8_refused : GoodIn wsX8_wouldWin (wsV RX8 96 RX8 yX8_refused wsX8_refused) := goodIn_app (goodIn_r _ [89, 90, 91, 4] rfl (by decide +kernel)) ggX8_wouldWin_X8_refused
set_option maxRecDepth 20000 in
theorem ggX8_secondsToNext_X8_nextIn : GoodIn wsX8_secondsToNext wsX8_nextIn := goodIn_r _ [5, 6, 7, 8, 9, 10, 4, 11, 12, 13, 14, 15, 16, 17, 18, 19, 20, 21, 22, 23, 24, 25, 26, 27, 28, 29, 30, 31, 32, 33, 34, 35, 36, 37, 38, 39, 40, 41, 42, 43, 44, 45, 46, 47, 48, 49, 50, 51, 52, 53, 54, 55, 56, 57, 58, 59, 60, 61, 62, 63, 64, 65, 66, 67, 68, 69, 70, 71, 72, 73, 74, 75, 76, 77, 78, 79, 80, 81, 82, 83, 84, 90, 91, 92, 93, 94, 95, 96, 97, 98, 99, 100, 101, 102, 103, 104, 105, 106] rfl (by decide +kernel)
set_option maxRecDepth 20000 in
theorem gX8_secondsToNext_X8_nextIn : GoodIn wsX8_secondsToNext (wsV RX8 190 RX8 yX8_nextIn wsX8_nextIn) := goodIn_app (goodIn_r _ [1, 2, 3, 4] rfl (by decide +kernel)) ggX8_secondsToNext_X8_nextIn
set_option maxRecDepth 20000 in
theorem ggX8_secondsToNext_X8_refused : GoodIn wsX8_secondsToNext wsX8_refused := goodIn_r _ [88, 89, 90, 91, 92, 93, 94, 95, 96, 97, 98, 99, 100, 101, 102, 103, 104, 105, 106] rfl (by decide +kernel)
set_option maxRecDepth 20000 in
theorem gX8_secondsToNext_X8_refused : GoodIn wsX8_secondsToNext (wsV RX8 96 RX8 yX8_refused wsX8_refused) := goodIn_app (goodIn_r _ [85, 86, 87, 4] rfl (by decide +kernel)) ggX8_secondsToNext_X8_refused
set_option maxRecDepth 20000 in
theorem ggX8_flownAt_X8_of : GoodIn wsX8_flownAt wsX8_of := goodIn_r _ [6, 1, 88, 89, 90, 91, 92, 93, 94, 95, 96, 97, 98, 99, 100, 101, 102, 103, 104] rfl (by decide +kernel)
set_option maxRecDepth 20000 in
theorem gX8_flownAt_X8_of : GoodIn wsX8_flownAt (wsV RX8 40 RX8 yX8_of wsX8_of) := goodIn_app (goodIn_r _ [2, 3, 4, 5] rfl (by decide +kernel)) ggX8_flownAt_X8_of
set_option maxRecDepth 20000 in
theorem ggX8_flownAt_X8_flownIn : GoodIn wsX8_flownAt wsX8_flownIn := goodIn_r _ [10, 11, 12, 13, 5, 14, 15, 1, 16, 17, 18, 19, 20, 21, 22, 23, 24, 25, 26, 27, 28, 29, 30, 31, 32, 33, 34, 35, 36, 2, 3, 4, 6, 37, 38, 39, 40, 41, 42, 43, 44, 45, 46, 47, 48, 49, 50, 51, 52, 53, 54, 55, 56, 57, 58, 59, 60, 61, 62, 63, 64, 65, 66, 67, 68, 69, 70, 71, 72, 73, 74, 75, 76, 77, 78, 79, 80, 81, 82, 83, 84, 85, 86, 87, 88, 89, 90, 91, 92, 93, 94, 95, 96, 97, 98, 99, 100, 101, 102, 103, 104] rfl (by decide +kernel)
set_option maxRecDepth 20000 in
theorem gX8_flownAt_X8_flownIn : GoodIn wsX8_flownAt (wsV RX8 184 RX8 yX8_flownIn wsX8_flownIn) := goodIn_app (goodIn_r _ [7, 8, 9, 5] rfl (by decide +kernel)) ggX8_flownAt_X8_flownIn
set_option maxRecDepth 20000 in
theorem ggX8_flownWithPace_X8_isBird : GoodIn wsX8_flownWithPace wsX8_isBird := goodIn_r _ [6, 1, 7, 8, 5, 9, 101, 102, 103, 104, 105, 106, 107, 108, 109, 110, 111, 112, 113, 114, 115, 116, 117] rfl (by decide +kernel)
set_option maxRecDepth 20000 in
theorem gX8_flownWithPace_X8_isBird : GoodIn wsX8_flownWithPace (wsV RX8 102 RX8 yX8_isBird wsX8_isBird) := goodIn_app (goodIn_r _ [2, 3, 4, 5] rfl (by decide +kernel)) ggX8_flownWithPace_X8_isBird
set_option maxRecDepth 20000 in
theorem ggX8_flownWithPace_X8_in : GoodIn wsX8_flownWithPace wsX8_in := goodIn_r _ [9] rfl (by decide +kernel)
set_option maxRecDepth 20000 in
theorem gX8_flownWithPace_X8_in : GoodIn wsX8_flownWithPace (va_wsS RX8 36 yX8_in wsX8_in) := goodIn_app (goodIn_r _ [7, 8, 5] rfl (by decide +kernel)) ggX8_flownWithPace_X8_in
set_option maxRecDepth 20000 in
theorem ggX8_flownWithPace_X8_refused : GoodIn wsX8_flownWithPace wsX8_refused := goodIn_r _ [13, 14, 101, 102, 103, 104, 105, 106, 107, 108, 109, 110, 111, 112, 113, 114, 115, 116, 117] rfl (by decide +kernel)
set_option maxRecDepth 20000 in
theorem gX8_flownWithPace_X8_refused : GoodIn wsX8_flownWithPace (wsV RX8 96 RX8 yX8_refused wsX8_refused) := goodIn_app (goodIn_r _ [10, 11, 12, 5] rfl (by decide +kernel)) ggX8_flownWithPace_X8_refused
set_option maxRecDepth 20000 in
theorem ggX8_flownWithPace_X8_flownAt : GoodIn wsX8_flownWithPace wsX8_flownAt := goodIn_r _ [18, 1, 19, 20, 21, 5, 22, 23, 24, 25, 26, 27, 28, 29, 30, 31, 32, 33, 34, 35, 36, 37, 38, 39, 40, 41, 42, 43, 44, 45, 46, 47, 48, 49, 50, 51, 52, 53, 54, 55, 56, 57, 58, 59, 60, 61, 62, 63, 64, 65, 66, 67, 68, 69, 70, 71, 72, 73, 74, 75, 76, 7, 8, 9, 77, 78, 79, 80, 81, 82, 83, 84, 85, 86, 87, 88, 89, 90, 91, 92, 93, 94, 95, 96, 97, 98, 99, 100, 101, 102, 103, 104, 105, 106, 107, 108, 109, 110, 111, 112, 113, 114, 115, 116, 117] rfl (by decide +kernel)
set_option maxRecDepth 20000 in
theorem gX8_flownWithPace_X8_flownAt : GoodIn wsX8_flownWithPace (wsV RX8 196 RX8 yX8_flownAt wsX8_flownAt) := goodIn_app (goodIn_r _ [15, 16, 17, 5] rfl (by decide +kernel)) ggX8_flownWithPace_X8_flownAt
set_option maxRecDepth 20000 in
theorem ggX8_best_X8_flownAt : GoodIn wsX8_best wsX8_flownAt := goodIn_r _ [5, 6, 7, 8, 9, 4, 10, 11, 12, 13, 14, 15, 16, 17, 18, 19, 20, 21, 22, 23, 24, 25, 26, 27, 28, 29, 30, 31, 32, 33, 34, 35, 36, 37, 38, 39, 40, 41, 42, 43, 44, 45, 46, 47, 48, 49, 50, 51, 52, 53, 54, 55, 56, 57, 58, 59, 60, 61, 62, 63, 64, 65, 66, 67, 68, 69, 70, 71, 72, 73, 74, 75, 76, 77, 78, 79, 80, 81, 82, 83, 84, 85, 86, 87, 88, 89, 90, 91, 92, 93, 94, 95, 96, 97, 98, 99, 100, 101, 102, 103, 104, 105, 106, 107, 108] rfl (by decide +kernel)
set_option maxRecDepth 20000 in
theorem gX8_best_X8_flownAt : GoodIn wsX8_best (wsV RX8 196 RX8 yX8_flownAt wsX8_flownAt) := goodIn_app (goodIn_r _ [1, 2, 3, 4] rfl (by decide +kernel)) ggX8_best_X8_flownAt
set_option maxRecDepth 20000 in
theorem ggX8_bestPace_X8_isBird : GoodIn wsX8_bestPace wsX8_isBird := goodIn_r _ [6, 1, 7, 8, 5, 9, 105, 106, 107, 108, 109, 110, 111, 112, 113, 114, 115, 116, 117, 118, 119, 120, 121] rfl (by decide +kernel)
set_option maxRecDepth 20000 in
theorem gX8_bestPace_X8_isBird : GoodIn wsX8_bestPace (wsV RX8 102 RX8 yX8_isBird wsX8_isBird) := goodIn_app (goodIn_r _ [2, 3, 4, 5] rfl (by decide +kernel)) ggX8_bestPace_X8_isBird
set_option maxRecDepth 20000 in
theorem ggX8_bestPace_X8_refused : GoodIn wsX8_bestPace wsX8_refused := goodIn_r _ [13, 14, 105, 106, 107, 108, 109, 110, 111, 112, 113, 114, 115, 116, 117, 118, 119, 120, 121] rfl (by decide +kernel)
set_option maxRecDepth 20000 in
theorem gX8_bestPace_X8_refused : GoodIn wsX8_bestPace (wsV RX8 96 RX8 yX8_refused wsX8_refused) := goodIn_app (goodIn_r _ [10, 11, 12, 5] rfl (by decide +kernel)) ggX8_bestPace_X8_refused
set_option maxRecDepth 20000 in
theorem ggX8_bestPace_X8_best : GoodIn wsX8_bestPace wsX8_best := goodIn_r _ [18, 19, 20, 21, 5, 22, 1, 23, 24, 25, 26, 27, 28, 29, 30, 31, 32, 33, 34, 35, 36, 37, 38, 39, 40, 41, 42, 43, 44, 45, 46, 47, 48, 49, 50, 51, 52, 53, 54, 55, 56, 57, 58, 59, 60, 61, 62, 63, 64, 65, 66, 67, 68, 69, 70, 71, 72, 73, 74, 75, 76, 77, 78, 79, 80, 7, 8, 9, 81, 82, 83, 84, 85, 86, 87, 88, 89, 90, 91, 92, 93, 94, 95, 96, 97, 98, 99, 100, 101, 102, 103, 104, 105, 106, 107, 108, 109, 110, 111, 112, 113, 114, 115, 116, 117, 118, 119, 120, 121] rfl (by decide +kernel)
set_option maxRecDepth 20000 in
theorem gX8_bestPace_X8_best : GoodIn wsX8_bestPace (wsV RX8 199 RX8 yX8_best wsX8_best) := goodIn_app (goodIn_r _ [15, 16, 17, 5] rfl (by decide +kernel)) ggX8_bestPace_X8_best
set_option maxRecDepth 20000 in
theorem ggX8_isRacing_X8_told : GoodIn wsX8_isRacing wsX8_told := goodIn_r _ [6, 7, 8, 9, 10, 11, 12, 13, 14, 15, 16, 17, 18, 19, 20, 21, 22, 23, 24] rfl (by decide +kernel)
set_option maxRecDepth 20000 in
theorem gX8_isRacing_X8_told : GoodIn wsX8_isRacing (wsV RX8 172 RX8 yX8_told wsX8_told) := goodIn_app (goodIn_r _ [2, 3, 4, 5] rfl (by decide +kernel)) ggX8_isRacing_X8_told
set_option maxRecDepth 20000 in
theorem ggX8_seconds_X8_told : GoodIn wsX8_seconds wsX8_told := goodIn_r _ [6, 7, 8, 9, 10, 11, 12, 13, 14, 15, 16, 17, 18, 19, 20, 21, 22, 23, 24] rfl (by decide +kernel)
set_option maxRecDepth 20000 in
theorem gX8_seconds_X8_told : GoodIn wsX8_seconds (wsV RX8 172 RX8 yX8_told wsX8_told) := goodIn_app (goodIn_r _ [2, 3, 4, 5] rfl (by decide +kernel)) ggX8_seconds_X8_told
set_option maxRecDepth 20000 in
theorem ggX8_arrived_X8_told : GoodIn wsX8_arrived wsX8_told := goodIn_r _ [6, 7, 8, 9, 10, 11, 12, 13, 14, 15, 16, 17, 18, 19, 20, 21, 22, 23, 24] rfl (by decide +kernel)
set_option maxRecDepth 20000 in
theorem gX8_arrived_X8_told : GoodIn wsX8_arrived (wsV RX8 172 RX8 yX8_told wsX8_told) := goodIn_app (goodIn_r _ [2, 3, 4, 5] rfl (by decide +kernel)) ggX8_arrived_X8_told
set_option maxRecDepth 20000 in
theorem ggX8_arrivedAt_X8_in : GoodIn wsX8_arrivedAt wsX8_in := goodIn_r _ [5] rfl (by decide +kernel)
set_option maxRecDepth 20000 in
theorem gX8_arrivedAt_X8_in : GoodIn wsX8_arrivedAt (va_wsS RX8 36 yX8_in wsX8_in) := goodIn_app (goodIn_r _ [2, 3, 4] rfl (by decide +kernel)) ggX8_arrivedAt_X8_in
set_option maxRecDepth 20000 in
theorem ggX8_arrivedAt_X8_refused : GoodIn wsX8_arrivedAt wsX8_refused := goodIn_r _ [9, 10, 11, 12, 13, 14, 15, 16, 17, 18, 19, 20, 21, 22, 23, 24, 25, 26, 27] rfl (by decide +kernel)
set_option maxRecDepth 20000 in
theorem gX8_arrivedAt_X8_refused : GoodIn wsX8_arrivedAt (wsV RX8 96 RX8 yX8_refused wsX8_refused) := goodIn_app (goodIn_r _ [6, 7, 8, 4] rfl (by decide +kernel)) ggX8_arrivedAt_X8_refused
set_option maxRecDepth 20000 in
theorem ggX8_timeOf_X8_isBird : GoodIn wsX8_timeOf wsX8_isBird := goodIn_r _ [5, 6, 7, 8, 4, 9, 23, 24, 25, 26, 27, 28, 29, 30, 31, 32, 33, 34, 35, 36, 37, 38, 39] rfl (by decide +kernel)
set_option maxRecDepth 20000 in
theorem gX8_timeOf_X8_isBird : GoodIn wsX8_timeOf (wsV RX8 102 RX8 yX8_isBird wsX8_isBird) := goodIn_app (goodIn_r _ [1, 2, 3, 4] rfl (by decide +kernel)) ggX8_timeOf_X8_isBird
set_option maxRecDepth 20000 in
theorem ggX8_timeOf_X8_isOver : GoodIn wsX8_timeOf wsX8_isOver := goodIn_r _ [13, 14, 15, 16, 4, 17, 6, 23, 24, 25, 26, 27, 28, 29, 30, 31, 32, 33, 34, 35, 36, 37, 38, 39] rfl (by decide +kernel)
set_option maxRecDepth 20000 in
theorem gX8_timeOf_X8_isOver : GoodIn wsX8_timeOf (wsV RX8 47 RX8 yX8_isOver wsX8_isOver) := goodIn_app (goodIn_r _ [10, 11, 12, 4] rfl (by decide +kernel)) ggX8_timeOf_X8_isOver
set_option maxRecDepth 20000 in
theorem ggX8_timeOf_X8_refused : GoodIn wsX8_timeOf wsX8_refused := goodIn_r _ [21, 22, 23, 24, 25, 26, 27, 28, 29, 30, 31, 32, 33, 34, 35, 36, 37, 38, 39] rfl (by decide +kernel)
set_option maxRecDepth 20000 in
theorem gX8_timeOf_X8_refused : GoodIn wsX8_timeOf (wsV RX8 96 RX8 yX8_refused wsX8_refused) := goodIn_app (goodIn_r _ [18, 19, 20, 4] rfl (by decide +kernel)) ggX8_timeOf_X8_refused
set_option maxRecDepth 20000 in
theorem ggX8_timeOf_X8_of : GoodIn wsX8_timeOf wsX8_of := goodIn_r _ [17, 6, 23, 24, 25, 26, 27, 28, 29, 30, 31, 32, 33, 34, 35, 36, 37, 38, 39] rfl (by decide +kernel)
set_option maxRecDepth 20000 in
theorem gX8_timeOf_X8_of : GoodIn wsX8_timeOf (wsV RX8 40 RX8 yX8_of wsX8_of) := goodIn_app (goodIn_r _ [14, 15, 16, 4] rfl (by decide +kernel)) ggX8_timeOf_X8_of
set_option maxRecDepth 20000 in
theorem ggX8_all_X8_of : GoodIn wsX8_all wsX8_of := goodIn_r _ [6, 1, 7, 8, 9, 10, 11, 12, 13, 14, 15, 16, 17, 18, 19, 20, 21, 22, 23] rfl (by decide +kernel)
set_option maxRecDepth 20000 in
theorem gX8_all_X8_of : GoodIn wsX8_all (wsV RX8 40 RX8 yX8_of wsX8_of) := goodIn_app (goodIn_r _ [2, 3, 4, 5] rfl (by decide +kernel)) ggX8_all_X8_of
set_option maxRecDepth 20000 in
theorem ggX8_flownByBirds_X8_all : GoodIn wsX8_flownByBirds wsX8_all := goodIn_r _ [5, 6, 7, 8, 9, 4, 10, 16, 17, 18, 19, 20, 21, 22, 23, 24, 25, 26, 27, 28, 29, 30, 31, 32] rfl (by decide +kernel)
set_option maxRecDepth 20000 in
theorem gX8_flownByBirds_X8_all : GoodIn wsX8_flownByBirds (wsV RX8 202 RX8 yX8_all wsX8_all) := goodIn_app (goodIn_r _ [1, 2, 3, 4] rfl (by decide +kernel)) ggX8_flownByBirds_X8_all
set_option maxRecDepth 20000 in
theorem ggX8_flownByBirds_X8_told : GoodIn wsX8_flownByBirds wsX8_told := goodIn_r _ [14, 15, 16, 17, 18, 19, 20, 21, 22, 23, 24, 25, 26, 27, 28, 29, 30, 31, 32] rfl (by decide +kernel)
set_option maxRecDepth 20000 in
theorem gX8_flownByBirds_X8_told : GoodIn wsX8_flownByBirds (wsV RX8 172 RX8 yX8_told wsX8_told) := goodIn_app (goodIn_r _ [11, 12, 13, 4] rfl (by decide +kernel)) ggX8_flownByBirds_X8_told
set_option maxRecDepth 20000 in
theorem ggX8_flownByAccount_X8_told : GoodIn wsX8_flownByAccount wsX8_told := goodIn_r _ [6, 7, 8, 9, 10, 11, 12, 13, 14, 15, 16, 17, 18, 19, 20, 21, 22, 23, 24] rfl (by decide +kernel)
set_option maxRecDepth 20000 in
theorem gX8_flownByAccount_X8_told : GoodIn wsX8_flownByAccount (wsV RX8 172 RX8 yX8_told wsX8_told) := goodIn_app (goodIn_r _ [2, 3, 4, 5] rfl (by decide +kernel)) ggX8_flownByAccount_X8_told
set_option maxRecDepth 20000 in
theorem ggX8_drafts_X8_told : GoodIn wsX8_drafts wsX8_told := goodIn_r _ [6, 7, 8, 9, 10, 11, 12, 13, 14, 15, 16, 17, 18, 19, 20, 21, 22, 23, 24] rfl (by decide +kernel)
set_option maxRecDepth 20000 in
theorem gX8_drafts_X8_told : GoodIn wsX8_drafts (wsV RX8 172 RX8 yX8_told wsX8_told) := goodIn_app (goodIn_r _ [2, 3, 4, 5] rfl (by decide +kernel)) ggX8_drafts_X8_told
set_option maxRecDepth 20000 in
theorem ggX8_changes_X8_told : GoodIn wsX8_changes wsX8_told := goodIn_r _ [6, 7, 8, 9, 10, 11, 12, 13, 14, 15, 16, 17, 18, 19, 20, 21, 22, 23, 24] rfl (by decide +kernel)
set_option maxRecDepth 20000 in
theorem gX8_changes_X8_told : GoodIn wsX8_changes (wsV RX8 172 RX8 yX8_told wsX8_told) := goodIn_app (goodIn_r _ [2, 3, 4, 5] rfl (by decide +kernel)) ggX8_changes_X8_told
set_option maxRecDepth 20000 in
theorem ggX8_rests_X8_told : GoodIn wsX8_rests wsX8_told := goodIn_r _ [6, 7, 8, 9, 10, 11, 12, 13, 14, 15, 16, 17, 18, 19, 20, 21, 22, 23, 24] rfl (by decide +kernel)
set_option maxRecDepth 20000 in
theorem gX8_rests_X8_told : GoodIn wsX8_rests (wsV RX8 172 RX8 yX8_told wsX8_told) := goodIn_app (goodIn_r _ [2, 3, 4, 5] rfl (by decide +kernel)) ggX8_rests_X8_told
set_option maxRecDepth 20000 in
theorem ggX8_races_X8_told : GoodIn wsX8_races wsX8_told := goodIn_r _ [6, 7, 8, 9, 10, 11, 12, 13, 14, 15, 16, 17, 18, 19, 20, 21, 22, 23, 24] rfl (by decide +kernel)
set_option maxRecDepth 20000 in
theorem gX8_races_X8_told : GoodIn wsX8_races (wsV RX8 172 RX8 yX8_told wsX8_told) := goodIn_app (goodIn_r _ [2, 3, 4, 5] rfl (by decide +kernel)) ggX8_races_X8_told
set_option maxRecDepth 20000 in
theorem ggX8_winsInPairs_X8_told : GoodIn wsX8_winsInPairs wsX8_told := goodIn_r _ [6, 7, 8, 9, 10, 11, 12, 13, 14, 15, 16, 17, 18, 19, 20, 21, 22, 23, 24] rfl (by decide +kernel)
set_option maxRecDepth 20000 in
theorem gX8_winsInPairs_X8_told : GoodIn wsX8_winsInPairs (wsV RX8 172 RX8 yX8_told wsX8_told) := goodIn_app (goodIn_r _ [2, 3, 4, 5] rfl (by decide +kernel)) ggX8_winsInPairs_X8_told
set_option maxRecDepth 20000 in
theorem ggX8_mean_X8_all : GoodIn wsX8_mean wsX8_all := goodIn_r _ [6, 1, 7, 8, 9, 5, 10, 11, 12, 13, 14, 15, 16, 17, 18, 19, 20, 21, 22, 23, 24, 25, 26, 27] rfl (by decide +kernel)
set_option maxRecDepth 20000 in
theorem gX8_mean_X8_all : GoodIn wsX8_mean (wsV RX8 202 RX8 yX8_all wsX8_all) := goodIn_app (goodIn_r _ [2, 3, 4, 5] rfl (by decide +kernel)) ggX8_mean_X8_all
set_option maxRecDepth 20000 in
theorem ggX8_meanFlown_X8_mean : GoodIn wsX8_meanFlown wsX8_mean := goodIn_r _ [6, 7, 8, 9, 10, 5, 11, 12, 13, 14, 15, 16, 17, 18, 19, 20, 21, 22, 23, 24, 25, 26, 27, 28, 29, 30, 31, 32] rfl (by decide +kernel)
set_option maxRecDepth 20000 in
theorem gX8_meanFlown_X8_mean : GoodIn wsX8_meanFlown (wsV RX8 205 RX8 yX8_mean wsX8_mean) := goodIn_app (goodIn_r _ [2, 3, 4, 5] rfl (by decide +kernel)) ggX8_meanFlown_X8_mean
set_option maxRecDepth 20000 in
theorem ggX8_mixBird_X8_of : GoodIn wsX8_mixBird wsX8_of := goodIn_r _ [6, 1, 94, 95, 96, 97, 98, 99, 100, 101, 102, 103, 104, 105, 106, 107, 108, 109, 110] rfl (by decide +kernel)
set_option maxRecDepth 20000 in
theorem gX8_mixBird_X8_of : GoodIn wsX8_mixBird (wsV RX8 40 RX8 yX8_of wsX8_of) := goodIn_app (goodIn_r _ [2, 3, 4, 5] rfl (by decide +kernel)) ggX8_mixBird_X8_of
set_option maxRecDepth 20000 in
theorem ggX8_mixBird_X8_mixes : GoodIn wsX8_mixBird wsX8_mixes := goodIn_r _ [10, 11, 12, 94, 95, 96, 97, 98, 99, 100, 101, 102, 103, 104, 105, 106, 107, 108, 109, 110] rfl (by decide +kernel)
set_option maxRecDepth 20000 in
theorem gX8_mixBird_X8_mixes : GoodIn wsX8_mixBird (wsV RX8 215 RX8 yX8_mixes wsX8_mixes) := goodIn_app (goodIn_r _ [7, 8, 9, 5] rfl (by decide +kernel)) ggX8_mixBird_X8_mixes
set_option maxRecDepth 20000 in
theorem ggX8_mixBird_X8_place : GoodIn wsX8_mixBird wsX8_place := goodIn_r _ [16, 1, 17, 18, 19, 5, 20, 21, 22, 23, 24, 2, 3, 4, 6, 25, 26, 27, 28, 94, 95, 96, 97, 98, 99, 100, 101, 102, 103, 104, 105, 106, 107, 108, 109, 110] rfl (by decide +kernel)
set_option maxRecDepth 20000 in
theorem gX8_mixBird_X8_place : GoodIn wsX8_mixBird (wsV RX8 59 RX8 yX8_place wsX8_place) := goodIn_app (goodIn_r _ [13, 14, 15, 5] rfl (by decide +kernel)) ggX8_mixBird_X8_place
set_option maxRecDepth 20000 in
theorem ggX8_mixBird_X8_gap : GoodIn wsX8_mixBird wsX8_gap := goodIn_r _ [32, 1, 33, 34, 35, 5, 36, 2, 3, 4, 6, 37, 38, 39, 40, 94, 95, 96, 97, 98, 99, 100, 101, 102, 103, 104, 105, 106, 107, 108, 109, 110] rfl (by decide +kernel)
set_option maxRecDepth 20000 in
theorem gX8_mixBird_X8_gap : GoodIn wsX8_mixBird (wsV RX8 68 RX8 yX8_gap wsX8_gap) := goodIn_app (goodIn_r _ [29, 30, 31, 5] rfl (by decide +kernel)) ggX8_mixBird_X8_gap
set_option maxRecDepth 20000 in
theorem ggX8_mixBird_X8_flies : GoodIn wsX8_mixBird wsX8_flies := goodIn_r _ [36, 2, 3, 4, 5, 6, 1, 94, 95, 96, 97, 98, 99, 100, 101, 102, 103, 104, 105, 106, 107, 108, 109, 110] rfl (by decide +kernel)
set_option maxRecDepth 20000 in
theorem gX8_mixBird_X8_flies : GoodIn wsX8_mixBird (wsV RX8 62 RX8 yX8_flies wsX8_flies) := goodIn_app (goodIn_r _ [33, 34, 35, 5] rfl (by decide +kernel)) ggX8_mixBird_X8_flies
set_option maxRecDepth 20000 in
theorem ggX8_mixBird_X8_isDrafted : GoodIn wsX8_mixBird wsX8_isDrafted := goodIn_r _ [44, 2, 3, 4, 5, 6, 1, 29, 30, 31, 32, 33, 34, 35, 36, 37, 38, 39, 40, 45, 46, 47, 94, 95, 96, 97, 98, 99, 100, 101, 102, 103, 104, 105, 106, 107, 108, 109, 110] rfl (by decide +kernel)
set_option maxRecDepth 20000 in
theorem gX8_mixBird_X8_isDrafted : GoodIn wsX8_mixBird (wsV RX8 74 RX8 yX8_isDrafted wsX8_isDrafted) := goodIn_app (goodIn_r _ [41, 42, 43, 5] rfl (by decide +kernel)) ggX8_mixBird_X8_isDrafted
set_option maxRecDepth 20000 in
theorem ggX8_mixBird_X8_where : GoodIn wsX8_mixBird wsX8_where := goodIn_r _ [51, 2, 3, 4, 5, 6, 1, 94, 95, 96, 97, 98, 99, 100, 101, 102, 103, 104, 105, 106, 107, 108, 109, 110] rfl (by decide +kernel)
set_option maxRecDepth 20000 in
theorem gX8_mixBird_X8_where : GoodIn wsX8_mixBird (wsV RX8 71 RX8 yX8_where wsX8_where) := goodIn_app (goodIn_r _ [48, 49, 50, 5] rfl (by decide +kernel)) ggX8_mixBird_X8_where
set_option maxRecDepth 20000 in
theorem ggX8_mixBird_X8_allowed : GoodIn wsX8_mixBird wsX8_allowed := goodIn_r _ [55, 1, 48, 49, 50, 5, 51, 2, 3, 4, 6, 94, 95, 96, 97, 98, 99, 100, 101, 102, 103, 104, 105, 106, 107, 108, 109, 110] rfl (by decide +kernel)
set_option maxRecDepth 20000 in
theorem gX8_mixBird_X8_allowed : GoodIn wsX8_mixBird (wsV RX8 77 RX8 yX8_allowed wsX8_allowed) := goodIn_app (goodIn_r _ [52, 53, 54, 5] rfl (by decide +kernel)) ggX8_mixBird_X8_allowed
set_option maxRecDepth 20000 in
theorem ggX8_mixBird_X8_isOver : GoodIn wsX8_mixBird wsX8_isOver := goodIn_r _ [24, 2, 3, 4, 5, 6, 1, 94, 95, 96, 97, 98, 99, 100, 101, 102, 103, 104, 105, 106, 107, 108, 109, 110] rfl (by decide +kernel)
set_option maxRecDepth 20000 in
theorem gX8_mixBird_X8_isOver : GoodIn wsX8_mixBird (wsV RX8 47 RX8 yX8_isOver wsX8_isOver) := goodIn_app (goodIn_r _ [21, 22, 23, 5] rfl (by decide +kernel)) ggX8_mixBird_X8_isOver
set_option maxRecDepth 20000 in
theorem ggX8_mixBird_X8_flownIn : GoodIn wsX8_mixBird wsX8_flownIn := goodIn_r _ [59, 60, 61, 62, 5, 63, 64, 1, 65, 66, 67, 68, 69, 70, 71, 72, 73, 13, 14, 15, 16, 17, 18, 19, 20, 21, 22, 23, 24, 2, 3, 4, 6, 25, 26, 27, 28, 33, 34, 35, 36, 74, 75, 76, 77, 29, 30, 31, 32, 37, 38, 39, 40, 41, 42, 43, 44, 45, 46, 47, 52, 53, 54, 55, 48, 49, 50, 51, 78, 79, 80, 81, 82, 83, 84, 85, 86, 87, 88, 89, 90, 91, 92, 93, 94, 95, 96, 97, 98, 99, 100, 101, 102, 103, 104, 105, 106, 107, 108, 109, 110] rfl (by decide +kernel)
set_option maxRecDepth 20000 in
theorem gX8_mixBird_X8_flownIn : GoodIn wsX8_mixBird (wsV RX8 184 RX8 yX8_flownIn wsX8_flownIn) := goodIn_app (goodIn_r _ [56, 57, 58, 5] rfl (by decide +kernel)) ggX8_mixBird_X8_flownIn
set_option maxRecDepth 20000 in
theorem ggX8_digest_X8_mixes : GoodIn wsX8_digest wsX8_mixes := goodIn_r _ [13, 14, 3, 145, 146, 147, 148, 149, 150, 151, 152, 153, 154, 155, 156, 157, 158, 159, 160, 161] rfl (by decide +kernel)
set_option maxRecDepth 20000 in
theorem gX8_digest_X8_mixes : GoodIn wsX8_digest (wsV RX8 215 RX8 yX8_mixes wsX8_mixes) := goodIn_app (goodIn_r _ [9, 10, 11, 12] rfl (by decide +kernel)) ggX8_digest_X8_mixes
set_option maxRecDepth 20000 in
theorem ggX8_digest_X8_mixBird : GoodIn wsX8_digest wsX8_mixBird := goodIn_r _ [18, 4, 19, 20, 21, 12, 22, 9, 10, 11, 13, 14, 3, 23, 24, 25, 26, 27, 28, 29, 30, 31, 32, 33, 34, 35, 36, 37, 38, 39, 40, 41, 42, 43, 44, 45, 46, 47, 48, 49, 50, 51, 52, 53, 54, 55, 56, 57, 58, 59, 60, 61, 62, 63, 64, 65, 66, 67, 68, 69, 70, 71, 72, 73, 74, 75, 76, 77, 78, 79, 80, 81, 82, 83, 84, 85, 86, 87, 88, 89, 90, 91, 92, 93, 94, 95, 96, 97, 98, 99, 100, 101, 102, 103, 145, 146, 147, 148, 149, 150, 151, 152, 153, 154, 155, 156, 157, 158, 159, 160, 161] rfl (by decide +kernel)
set_option maxRecDepth 20000 in
theorem gX8_digest_X8_mixBird : GoodIn wsX8_digest (wsV RX8 221 RX8 yX8_mixBird wsX8_mixBird) := goodIn_app (goodIn_r _ [15, 16, 17, 12] rfl (by decide +kernel)) ggX8_digest_X8_mixBird
set_option maxRecDepth 20000 in
theorem ggX8_digest_X8_birdAt : GoodIn wsX8_digest wsX8_birdAt := goodIn_r _ [107, 4, 23, 24, 25, 12, 26, 27, 28, 29, 30, 31, 32, 33, 34, 19, 20, 21, 22, 35, 36, 37, 38, 145, 146, 147, 148, 149, 150, 151, 152, 153, 154, 155, 156, 157, 158, 159, 160, 161] rfl (by decide +kernel)
set_option maxRecDepth 20000 in
theorem gX8_digest_X8_birdAt : GoodIn wsX8_digest (wsV RX8 178 RX8 yX8_birdAt wsX8_birdAt) := goodIn_app (goodIn_r _ [104, 105, 106, 12] rfl (by decide +kernel)) ggX8_digest_X8_birdAt
set_option maxRecDepth 20000 in
theorem ggX8_digest_X8_first : GoodIn wsX8_digest wsX8_first := goodIn_r _ [111, 4, 112, 113, 114, 115, 12, 116, 70, 71, 72, 73, 74, 79, 80, 81, 82, 83, 23, 24, 25, 26, 27, 28, 29, 30, 31, 32, 33, 34, 19, 20, 21, 22, 35, 36, 37, 38, 43, 44, 45, 46, 84, 85, 86, 87, 39, 40, 41, 42, 47, 48, 49, 50, 51, 52, 53, 54, 55, 56, 57, 62, 63, 64, 65, 58, 59, 60, 61, 88, 89, 90, 91, 92, 93, 94, 95, 96, 97, 98, 99, 100, 101, 102, 103, 145, 146, 147, 148, 149, 150, 151, 152, 153, 154, 155, 156, 157, 158, 159, 160, 161] rfl (by decide +kernel)
set_option maxRecDepth 20000 in
theorem gX8_digest_X8_first : GoodIn wsX8_digest (wsV RX8 193 RX8 yX8_first wsX8_first) := goodIn_app (goodIn_r _ [108, 109, 110, 12] rfl (by decide +kernel)) ggX8_digest_X8_first
set_option maxRecDepth 20000 in
theorem ggX8_digest_X8_nextIn : GoodIn wsX8_digest wsX8_nextIn := goodIn_r _ [116, 4, 112, 70, 71, 72, 12, 73, 74, 79, 80, 81, 82, 83, 23, 24, 25, 26, 27, 28, 29, 30, 31, 32, 33, 34, 19, 20, 21, 22, 35, 36, 37, 38, 43, 44, 45, 46, 84, 85, 86, 87, 39, 40, 41, 42, 47, 48, 49, 50, 51, 52, 53, 54, 55, 56, 57, 62, 63, 64, 65, 58, 59, 60, 61, 88, 89, 90, 91, 92, 93, 94, 95, 96, 97, 98, 99, 100, 101, 102, 103, 145, 146, 147, 148, 149, 150, 151, 152, 153, 154, 155, 156, 157, 158, 159, 160, 161] rfl (by decide +kernel)
set_option maxRecDepth 20000 in
theorem gX8_digest_X8_nextIn : GoodIn wsX8_digest (wsV RX8 190 RX8 yX8_nextIn wsX8_nextIn) := goodIn_app (goodIn_r _ [113, 114, 115, 12] rfl (by decide +kernel)) ggX8_digest_X8_nextIn
set_option maxRecDepth 20000 in
theorem ggX8_digest_X8_best : GoodIn wsX8_digest wsX8_best := goodIn_r _ [120, 121, 122, 123, 12, 124, 4, 19, 20, 21, 22, 66, 67, 68, 69, 70, 71, 72, 73, 74, 75, 76, 77, 78, 79, 80, 81, 82, 83, 23, 24, 25, 26, 27, 28, 29, 30, 31, 32, 33, 34, 35, 36, 37, 38, 43, 44, 45, 46, 84, 85, 86, 87, 39, 40, 41, 42, 47, 48, 49, 50, 51, 52, 53, 54, 55, 56, 57, 62, 63, 64, 65, 58, 59, 60, 61, 88, 89, 90, 91, 92, 93, 94, 95, 96, 97, 98, 99, 100, 101, 102, 103, 145, 146, 147, 148, 149, 150, 151, 152, 153, 154, 155, 156, 157, 158, 159, 160, 161] rfl (by decide +kernel)
set_option maxRecDepth 20000 in
theorem gX8_digest_X8_best : GoodIn wsX8_digest (wsV RX8 199 RX8 yX8_best wsX8_best) := goodIn_app (goodIn_r _ [117, 118, 119, 12] rfl (by decide +kernel)) ggX8_digest_X8_best
set_option maxRecDepth 20000 in
theorem ggX8_digest_X8_all : GoodIn wsX8_digest wsX8_all := goodIn_r _ [128, 4, 19, 20, 21, 12, 22, 145, 146, 147, 148, 149, 150, 151, 152, 153, 154, 155, 156, 157, 158, 159, 160, 161] rfl (by decide +kernel)
set_option maxRecDepth 20000 in
theorem gX8_digest_X8_all : GoodIn wsX8_digest (wsV RX8 202 RX8 yX8_all wsX8_all) := goodIn_app (goodIn_r _ [125, 126, 127, 12] rfl (by decide +kernel)) ggX8_digest_X8_all
set_option maxRecDepth 20000 in
theorem ggX8_digest_X8_mean : GoodIn wsX8_digest wsX8_mean := goodIn_r _ [132, 4, 125, 126, 127, 12, 128, 19, 20, 21, 22, 145, 146, 147, 148, 149, 150, 151, 152, 153, 154, 155, 156, 157, 158, 159, 160, 161] rfl (by decide +kernel)
set_option maxRecDepth 20000 in
theorem gX8_digest_X8_mean : GoodIn wsX8_digest (wsV RX8 205 RX8 yX8_mean wsX8_mean) := goodIn_app (goodIn_r _ [129, 130, 131, 12] rfl (by decide +kernel)) ggX8_digest_X8_mean
set_option maxRecDepth 20000 in
theorem ggX8_digest_Jxe99ae_doubleToLongBits_ccdee : GoodIn wsX8_digest wsJxe99ae_doubleToLongBits_ccdee := goodIn_r _ [136, 137, 138, 139, 140, 141, 142, 143, 135, 144] rfl (by decide +kernel)
set_option maxRecDepth 20000 in
theorem gX8_digest_Jxe99ae_doubleToLongBits_ccdee : GoodIn wsX8_digest (va_wsS RX8 224 yJxe99ae_doubleToLongBits_ccdee wsJxe99ae_doubleToLongBits_ccdee) := goodIn_app (goodIn_r _ [133, 134, 135] rfl (by decide +kernel)) ggX8_digest_Jxe99ae_doubleToLongBits_ccdee
set_option maxRecDepth 20000 in
theorem ggJxe99ae_doubleToLongBits_ccdee_Jxe99ae_isNaN_b9ae7 : GoodIn wsJxe99ae_doubleToLongBits_ccdee wsJxe99ae_isNaN_b9ae7 := goodIn_r _ [9] rfl (by decide +kernel)
set_option maxRecDepth 20000 in
theorem gJxe99ae_doubleToLongBits_ccdee_Jxe99ae_isNaN_b9ae7 : GoodIn wsJxe99ae_doubleToLongBits_ccdee (va_wsS RJxe99ae 122 yJxe99ae_isNaN_b9ae7 wsJxe99ae_isNaN_b9ae7) := goodIn_app (goodIn_r _ [6, 7, 8] rfl (by decide +kernel)) ggJxe99ae_doubleToLongBits_ccdee_Jxe99ae_isNaN_b9ae7
set_option maxRecDepth 20000 in
theorem ggL_enter_X7_enter : GoodIn wsL_enter wsX7_enter := goodIn_ca (goodIn_ca (goodIn_r _ [7, 8, 9, 10, 11, 12, 13, 14, 15, 16, 17, 6, 18, 19, 20, 21, 22, 23, 24, 25, 26, 27, 28, 29, 30, 31, 32, 33, 34, 35, 36, 37, 38, 39, 40, 41, 42, 43, 44, 45, 46, 47, 48, 49, 50, 51, 52, 53, 54, 55, 56, 57, 58, 59, 60, 61, 62, 63, 64, 65, 66, 67, 68, 69, 70, 71, 72, 73, 74, 75, 76, 77, 78, 79, 80, 81, 82, 83, 84, 85, 86, 87, 88, 89, 90, 91, 92, 93, 94, 95, 96, 97, 98, 99, 100, 101, 102, 103, 104, 105, 106, 107, 108, 109, 110, 111, 112, 113, 114, 115, 116, 117, 118, 119] rfl (by decide +kernel)) (goodIn_sub (fun _ h => List.mem_cons_of_mem _ (List.mem_append_left _ (List.mem_append_right _ h))) (by decide +kernel))) (goodIn_sub (fun _ h => List.mem_cons_of_mem _ (List.mem_append_right _ h)) (by decide +kernel))
set_option maxRecDepth 20000 in
theorem gL_enter_X7_enter : GoodIn wsL_enter (wsV RL 7 RX7 yX7_enter wsX7_enter) := goodIn_app (goodIn_r _ [3, 4, 5, 6] rfl (by decide +kernel)) ggL_enter_X7_enter
set_option maxRecDepth 20000 in
theorem ggL_setPace_X7_setPace : GoodIn wsL_setPace wsX7_setPace := goodIn_ca (goodIn_ca (goodIn_r _ [7, 8, 9, 10, 11, 12, 13, 6, 14, 15, 16, 17, 18, 19, 20, 21, 22, 23, 24, 25, 26, 27, 28, 29, 30, 31, 32, 33, 34, 35, 36, 37, 38, 39, 40, 41, 42, 43, 44, 45, 46, 47, 48, 49, 50, 51, 52, 53, 54, 55, 56, 57, 58, 59, 60, 61, 62, 63, 64, 65, 66, 67, 68, 69, 70, 71, 72, 73, 74, 75, 76, 77, 78, 79, 80, 81, 82, 83, 84, 85, 86, 87, 88, 89, 90, 91, 92, 93, 94, 95, 96, 97, 98, 99, 100, 101, 102, 103, 104, 105, 106, 107, 108, 109, 110, 111, 112, 113] rfl (by decide +kernel)) (goodIn_sub (fun _ h => List.mem_cons_of_mem _ (List.mem_append_left _ (List.mem_append_right _ h))) (by decide +kernel))) (goodIn_sub (fun _ h => List.mem_cons_of_mem _ (List.mem_append_right _ h)) (by decide +kernel))
set_option maxRecDepth 20000 in
theorem gL_setPace_X7_setPace : GoodIn wsL_setPace (wsV RL 17 RX7 yX7_setPace wsX7_setPace) := goodIn_app (goodIn_r _ [3, 4, 5, 6] rfl (by decide +kernel)) ggL_setPace_X7_setPace
set_option maxRecDepth 20000 in
theorem ggL_callIn_X7_callIn : GoodIn wsL_callIn wsX7_callIn := goodIn_ca (goodIn_ca (goodIn_r _ [7, 8, 9, 10, 11, 12, 13, 14, 15, 16, 6, 17, 18, 19, 20, 21, 22, 23, 24, 25, 26, 27, 28, 29, 30, 31, 32, 33, 34, 35, 36, 37, 38, 39, 40, 41, 42, 43, 44, 45, 46, 47, 48, 49, 50, 51, 52, 53, 54, 55, 56, 57, 58, 59, 60, 61, 62, 63, 64, 65, 66, 67, 68, 69, 70, 71, 72, 73, 74, 75, 76, 77, 78, 79, 80, 81, 82, 83, 84, 85, 86, 87, 88, 89, 90, 91, 92, 93, 94, 95, 96, 97, 98, 99, 100, 101, 102, 103, 104, 105, 106, 107, 108] rfl (by decide +kernel)) (goodIn_sub (fun _ h => List.mem_cons_of_mem _ (List.mem_append_left _ (List.mem_append_right _ h))) (by decide +kernel))) (goodIn_sub (fun _ h => List.mem_cons_of_mem _ (List.mem_append_right _ h)) (by decide +kernel))
set_option maxRecDepth 20000 in
theorem gL_callIn_X7_callIn : GoodIn wsL_callIn (wsV RL 23 RX7 yX7_callIn wsX7_callIn) := goodIn_app (goodIn_r _ [3, 4, 5, 6] rfl (by decide +kernel)) ggL_callIn_X7_callIn
set_option maxRecDepth 20000 in
theorem ggL_pair_X7_pair : GoodIn wsL_pair wsX7_pair := goodIn_ca (goodIn_ca (goodIn_r _ [7, 8, 9, 10, 11, 12, 13, 14, 6, 15, 16, 17, 18, 19, 20, 21, 22, 23, 24, 25, 26, 27, 28, 29, 30, 31, 32, 33, 34, 35, 36, 37, 38, 39, 40, 41, 42, 43, 44, 45, 46, 47, 48, 49, 50, 51, 52, 53, 54, 55, 56, 57, 58, 59, 60, 61, 62, 63, 64, 65, 66, 67, 68, 69, 70, 71, 72, 73, 74, 75, 76, 77, 78, 79, 80, 81, 82, 83, 84, 85, 86, 87, 88, 89, 90, 91, 92, 93, 94, 95, 96, 97, 98, 99, 100, 101, 102, 103, 104, 105, 106, 107, 108, 109, 110, 111, 112, 113, 114, 115, 116, 117, 118, 119, 120, 121, 122, 123, 124, 125] rfl (by decide +kernel)) (goodIn_sub (fun _ h => List.mem_cons_of_mem _ (List.mem_append_left _ (List.mem_append_right _ h))) (by decide +kernel))) (goodIn_sub (fun _ h => List.mem_cons_of_mem _ (List.mem_append_right _ h)) (by decide +kernel))
set_option maxRecDepth 20000 in
theorem gL_pair_X7_pair : GoodIn wsL_pair (wsV RL 27 RX7 yX7_pair wsX7_pair) := goodIn_app (goodIn_r _ [3, 4, 5, 6] rfl (by decide +kernel)) ggL_pair_X7_pair
set_option maxRecDepth 20000 in
theorem ggL_setLimit_X7_setLimit : GoodIn wsL_setLimit wsX7_setLimit := goodIn_ca (goodIn_ca (goodIn_r _ [7, 8, 9, 10, 11, 12, 13, 6, 14, 15, 16, 17, 18, 19, 20, 21, 22, 23, 24, 25, 26, 27, 28, 29, 30, 31, 32, 33, 34, 35, 36, 37, 38, 39, 40, 41, 42, 43, 44, 45, 46, 47, 48, 49, 50, 51, 52, 53, 54, 55, 56, 57, 58, 59, 60, 61, 62, 63, 64, 65, 66, 67, 68, 69, 70, 71, 72, 73, 74, 75, 76, 77, 78, 79, 80, 81, 82, 83, 84, 85, 86, 87, 88, 89, 90, 91, 92, 93, 94, 95, 96, 97, 98, 99, 100, 101, 102, 103, 104, 105, 106, 107, 108, 109] rfl (by decide +kernel)) (goodIn_sub (fun _ h => List.mem_cons_of_mem _ (List.mem_append_left _ (List.mem_append_right _ h))) (by decide +kernel))) (goodIn_sub (fun _ h => List.mem_cons_of_mem _ (List.mem_append_right _ h)) (by decide +kernel))
set_option maxRecDepth 20000 in
theorem gL_setLimit_X7_setLimit : GoodIn wsL_setLimit (wsV RL 30 RX7 yX7_setLimit wsX7_setLimit) := goodIn_app (goodIn_r _ [3, 4, 5, 6] rfl (by decide +kernel)) ggL_setLimit_X7_setLimit
set_option maxRecDepth 20000 in
theorem ggL_setLaps_X7_setLaps : GoodIn wsL_setLaps wsX7_setLaps := goodIn_ca (goodIn_ca (goodIn_r _ [7, 8, 9, 10, 11, 12, 13, 14, 15, 16, 17, 18, 19, 20, 21, 22, 23, 24, 25, 26, 27, 28, 29, 30, 31, 32, 33, 34, 35, 36, 37, 38, 39, 40, 41, 42, 43, 44, 45, 46, 47, 48, 49, 50, 51, 52, 53, 54, 55, 56, 57, 58, 59, 60, 61, 62, 63, 64, 65, 66, 67, 68, 69, 70, 71, 72, 73, 74, 75, 76, 77, 78, 79, 80, 81, 82, 83, 84, 85, 86, 87, 88, 89, 90, 91, 92, 93, 94, 95, 96, 97, 98, 99, 100] rfl (by decide +kernel)) (goodIn_sub (fun _ h => List.mem_cons_of_mem _ (List.mem_append_left _ (List.mem_append_right _ h))) (by decide +kernel))) (goodIn_sub (fun _ h => List.mem_cons_of_mem _ (List.mem_append_right _ h)) (by decide +kernel))
set_option maxRecDepth 20000 in
theorem gL_setLaps_X7_setLaps : GoodIn wsL_setLaps (wsV RL 33 RX7 yX7_setLaps wsX7_setLaps) := goodIn_app (goodIn_r _ [3, 4, 5, 6] rfl (by decide +kernel)) ggL_setLaps_X7_setLaps
set_option maxRecDepth 20000 in
theorem ggL_begin_X7_begin : GoodIn wsL_begin wsX7_begin := goodIn_ca (goodIn_r _ [6, 7, 8, 9, 10, 11, 12, 13, 14, 15, 16, 17, 18, 19, 20, 21, 22, 23, 24, 25, 26, 27, 28, 29, 30, 31, 32, 33, 34, 35, 36, 37, 38, 39, 40, 41, 42, 43, 44, 45, 46, 47, 48, 49, 50, 51, 52, 53, 54, 55, 56, 57, 58, 59, 60, 61, 62, 63, 64, 65, 66, 67, 68, 69, 70, 71, 72, 73, 74, 75, 76, 77, 78, 79, 80, 81, 82, 83, 84, 85, 86, 87, 88, 89, 90, 91, 92, 93, 94, 95, 96, 97, 98, 99, 100, 101, 102, 103, 104, 105, 106, 107, 108, 109] rfl (by decide +kernel)) (goodIn_sub (fun _ h => List.mem_cons_of_mem _ (List.mem_append_right _ h)) (by decide +kernel))
set_option maxRecDepth 20000 in
theorem gL_begin_X7_begin : GoodIn wsL_begin (wsV RL 37 RX7 yX7_begin wsX7_begin) := goodIn_app (goodIn_r _ [2, 3, 4, 5] rfl (by decide +kernel)) ggL_begin_X7_begin
set_option maxRecDepth 20000 in
theorem ggL_pass_X7_pass : GoodIn wsL_pass wsX7_pass := goodIn_ca (goodIn_ca (goodIn_r _ [7, 8, 9, 10, 11, 12, 6, 13, 14, 15, 16, 17, 18, 19, 20, 21, 22, 23, 24, 25, 26, 27, 28, 29, 30, 31, 32, 33, 34, 35, 36, 37, 38, 39, 40, 41, 42, 43, 44, 45, 46, 47, 48, 49, 50, 51, 52, 53, 54, 55, 56, 57, 58, 59, 60, 61, 62, 63, 64, 65, 66, 67, 68, 69, 70, 71, 72, 73, 74, 75, 76, 77, 78, 79, 80, 81, 82, 83, 84, 85, 86, 87, 88, 89, 90, 91, 92, 93, 94, 95, 96, 97, 98, 99, 100, 101, 102, 103, 104, 105, 106, 107, 108, 109, 110, 111, 112, 113, 114, 115, 116, 117, 118, 119, 120, 121, 122, 123, 124, 125, 126, 127, 128, 129, 130, 131, 132, 133, 134, 135, 136, 137, 138, 139, 140, 141, 142, 143, 144, 145, 146, 147, 148, 149, 150, 151, 152, 153, 154, 155, 156, 157, 158, 159, 160, 161, 162, 163, 164, 165, 166, 167, 168, 169, 170, 171, 172, 173, 174, 175, 176, 177, 178, 179, 180, 181, 182, 183, 184, 185, 186, 187, 188, 189, 190, 191, 192, 193, 194, 195, 196, 197, 198, 199, 200, 201, 202, 203, 204] rfl (by decide +kernel)) (goodIn_sub (fun _ h => List.mem_cons_of_mem _ (List.mem_append_left _ (List.mem_append_right _ h))) (by decide +kernel))) (goodIn_sub (fun _ h => List.mem_cons_of_mem _ (List.mem_append_right _ h)) (by decide +kernel))
set_option maxRecDepth 20000 in
theorem gL_pass_X7_pass : GoodIn wsL_pass (wsV RL 41 RX7 yX7_pass wsX7_pass) := goodIn_app (goodIn_r _ [3, 4, 5, 6] rfl (by decide +kernel)) ggL_pass_X7_pass
set_option maxRecDepth 20000 in
theorem ggL_append_X7_append : GoodIn wsL_append wsX7_append := goodIn_ca (goodIn_ca (goodIn_r _ [7, 8, 9, 10, 11, 12, 13, 14, 15, 16, 17, 18, 19, 20, 21, 22, 23, 24, 25, 26, 27, 28, 29, 30, 31, 32] rfl (by decide +kernel)) (goodIn_sub (fun _ h => List.mem_cons_of_mem _ (List.mem_append_left _ (List.mem_append_right _ h))) (by decide +kernel))) (goodIn_sub (fun _ h => List.mem_cons_of_mem _ (List.mem_append_right _ h)) (by decide +kernel))
set_option maxRecDepth 20000 in
theorem gL_append_X7_append : GoodIn wsL_append (wsV RL 44 RX7 yX7_append wsX7_append) := goodIn_app (goodIn_r _ [3, 4, 5, 6] rfl (by decide +kernel)) ggL_append_X7_append
set_option maxRecDepth 20000 in
theorem ggL_follow_X7_follow : GoodIn wsL_follow wsX7_follow := goodIn_ca (goodIn_ca (goodIn_r _ [7, 8, 9, 10, 11, 12, 13, 14, 15, 16, 17, 18, 19, 20, 6, 21, 22, 23, 24, 25, 26, 27, 28, 29, 30, 31, 32, 33, 34, 35, 36, 37, 38, 39, 40, 41, 42, 43, 44, 45, 46, 47, 48, 49, 50, 51, 52, 53, 54, 55, 56, 57, 58, 59, 60, 61, 62, 63, 64, 65, 66, 67, 68, 69, 70, 71, 72, 73, 74, 75, 76, 77, 78, 79, 80, 81, 82, 83, 84, 85, 86, 87, 88, 89, 90, 91, 92, 93, 94, 95, 96, 97, 98, 99, 100, 101, 102, 103, 104, 105, 106, 107, 108, 109, 110, 111, 112, 113, 114, 115, 116, 117, 118, 119, 120, 121, 122, 123, 124, 125, 126, 127, 128, 129, 130, 131, 132, 133, 134, 135, 136, 137, 138, 139, 140, 141, 142, 143, 144, 145, 146, 147, 148, 149, 150, 151, 152, 153, 154, 155, 156, 157, 158, 159, 160, 161, 162, 163, 164, 165, 166, 167, 168, 169, 170, 171, 172, 173, 174, 175, 176, 177, 178, 179, 180, 181, 182, 183, 184, 185, 186, 187, 188, 189, 190, 191, 192, 193, 194, 195, 196, 197, 198, 199, 200, 201, 202, 203, 204, 205, 206, 207, 208, 209, 210, 211, 212, 213, 214, 215, 216, 217, 218, 219, 220, 221, 222, 223, 224, 225, 226, 227, 228, 229, 230, 231, 232, 233, 234, 235, 236, 237, 238, 239, 240, 241, 242, 243, 244, 245, 246, 247, 248, 249, 250, 251, 252, 253, 254, 255, 256, 257, 258, 259, 260, 261, 262, 263, 264, 265, 266, 267, 268, 269, 270, 271, 272, 273, 274, 275, 276, 277, 278, 279, 280, 281, 282] rfl (by decide +kernel)) (goodIn_sub (fun _ h => List.mem_cons_of_mem _ (List.mem_append_left _ (List.mem_append_right _ h))) (by decide +kernel))) (goodIn_sub (fun _ h => List.mem_cons_of_mem _ (List.mem_append_right _ h)) (by decide +kernel))
set_option maxRecDepth 20000 in
theorem gL_follow_X7_follow : GoodIn wsL_follow (wsV RL 47 RX7 yX7_follow wsX7_follow) := goodIn_app (goodIn_r _ [3, 4, 5, 6] rfl (by decide +kernel)) ggL_follow_X7_follow
set_option maxRecDepth 20000 in
theorem ggL_keep_X7_keep : GoodIn wsL_keep wsX7_keep := goodIn_ca (goodIn_r _ [6, 7, 8, 9, 10, 5, 11, 12, 13, 14, 15, 16, 17, 18, 19, 20, 21, 22, 23, 24, 25, 26, 27, 28, 29, 30, 31, 32, 33, 34, 35, 36, 37, 38, 39, 40, 41, 42, 43, 44, 45, 46, 47, 48, 49, 50, 51, 52, 53, 54, 55, 56, 57, 58, 59, 60, 61, 62, 63, 64, 65, 66, 67, 68, 69, 70, 71, 72, 73, 74, 75, 76, 77, 78, 79, 80, 81, 82, 83, 84, 85, 86, 87, 88, 89, 90, 91, 92, 93, 94] rfl (by decide +kernel)) (goodIn_sub (fun _ h => List.mem_cons_of_mem _ (List.mem_append_right _ h)) (by decide +kernel))
set_option maxRecDepth 20000 in
theorem gL_keep_X7_keep : GoodIn wsL_keep (wsV RL 50 RX7 yX7_keep wsX7_keep) := goodIn_app (goodIn_r _ [2, 3, 4, 5] rfl (by decide +kernel)) ggL_keep_X7_keep
set_option maxRecDepth 20000 in
theorem ggL_goBack_X7_goBack : GoodIn wsL_goBack wsX7_goBack := goodIn_ca (goodIn_ca (goodIn_r _ [7, 8, 9, 10, 11, 12, 13, 14, 6, 15, 16, 17, 18, 19, 20, 21, 22, 23, 24, 25, 26, 27, 28, 29, 30, 31, 32, 33, 34, 35, 36, 37, 38, 39, 40, 41, 42, 43, 44, 45, 46, 47, 48, 49, 50, 51, 52, 53, 54, 55, 56, 57, 58, 59, 60, 61, 62, 63, 64, 65, 66, 67, 68, 69, 70, 71, 72, 73, 74, 75, 76, 77, 78, 79, 80, 81, 82, 83, 84, 85, 86, 87, 88, 89, 90, 91, 92, 93, 94, 95, 96, 97, 98, 99, 100, 101, 102, 103, 104, 105, 106, 107, 108, 109, 110, 111, 112] rfl (by decide +kernel)) (goodIn_sub (fun _ h => List.mem_cons_of_mem _ (List.mem_append_left _ (List.mem_append_right _ h))) (by decide +kernel))) (goodIn_sub (fun _ h => List.mem_cons_of_mem _ (List.mem_append_right _ h)) (by decide +kernel))
set_option maxRecDepth 20000 in
theorem gL_goBack_X7_goBack : GoodIn wsL_goBack (wsV RL 54 RX7 yX7_goBack wsX7_goBack) := goodIn_app (goodIn_r _ [3, 4, 5, 6] rfl (by decide +kernel)) ggL_goBack_X7_goBack
set_option maxRecDepth 20000 in
theorem ggL_undo_X7_undo : GoodIn wsL_undo wsX7_undo := goodIn_ca (goodIn_r _ [6, 7, 8, 9, 10, 11, 12, 13, 14, 15, 16, 17, 18, 19, 20, 21, 22, 23, 24, 25, 26, 27, 28, 29, 30, 31, 32, 33, 34, 35, 36, 37, 38, 39, 40, 41, 42, 43, 44, 45, 46, 47, 48, 49, 50, 51, 52, 53, 54, 55, 56, 57, 58, 59, 60, 61, 62, 63, 64, 65, 66, 67, 68, 69, 70, 71, 72, 73, 74, 75, 76, 77, 78, 79, 80, 81, 82, 83, 84, 85, 86, 87, 88, 89, 90, 91] rfl (by decide +kernel)) (goodIn_sub (fun _ h => List.mem_cons_of_mem _ (List.mem_append_right _ h)) (by decide +kernel))
set_option maxRecDepth 20000 in
theorem gL_undo_X7_undo : GoodIn wsL_undo (wsV RL 57 RX7 yX7_undo wsX7_undo) := goodIn_app (goodIn_r _ [2, 3, 4, 5] rfl (by decide +kernel)) ggL_undo_X7_undo
set_option maxRecDepth 20000 in
theorem ggL_flown_X7_flown : GoodIn wsL_flown wsX7_flown := goodIn_ca (goodIn_r _ [6, 7, 8, 9, 10, 5, 11, 12, 13, 14, 15, 16, 17, 18, 19, 20, 21, 22, 23, 24, 25, 26, 27, 28, 29, 30, 31, 32, 33, 34, 35, 36, 37, 38, 39, 40, 41, 42, 43, 44, 45, 46, 47, 48, 49, 50, 51, 52, 53, 54, 55, 56] rfl (by decide +kernel)) (goodIn_sub (fun _ h => List.mem_cons_of_mem _ (List.mem_append_right _ h)) (by decide +kernel))
set_option maxRecDepth 20000 in
theorem gL_flown_X7_flown : GoodIn wsL_flown (wsV RL 60 RX7 yX7_flown wsX7_flown) := goodIn_app (goodIn_r _ [2, 3, 4, 5] rfl (by decide +kernel)) ggL_flown_X7_flown
set_option maxRecDepth 20000 in
theorem ggL_lapsOf_X7_lapsOf : GoodIn wsL_lapsOf wsX7_lapsOf := goodIn_ca (goodIn_r _ [6, 7, 8, 9, 5, 10, 11, 12, 13, 14, 15, 16, 17, 18, 19, 20, 21, 22, 23, 24, 25, 26, 27, 28, 29, 30, 31, 32, 33, 34, 35, 36, 37, 38, 39, 40, 41, 42, 43, 44, 45, 46, 47, 48, 49, 50, 51, 52, 53, 54, 55, 56, 57, 58, 59, 60, 61] rfl (by decide +kernel)) (goodIn_sub (fun _ h => List.mem_cons_of_mem _ (List.mem_append_right _ h)) (by decide +kernel))
set_option maxRecDepth 20000 in
theorem gL_lapsOf_X7_lapsOf : GoodIn wsL_lapsOf (wsV RL 63 RX7 yX7_lapsOf wsX7_lapsOf) := goodIn_app (goodIn_r _ [2, 3, 4, 5] rfl (by decide +kernel)) ggL_lapsOf_X7_lapsOf
set_option maxRecDepth 20000 in
theorem ggL_speedOf_X7_speedOf : GoodIn wsL_speedOf wsX7_speedOf := goodIn_ca (goodIn_r _ [6, 7, 8, 9, 10, 5, 11, 12, 13, 14, 15, 16, 17, 18, 19, 20, 21, 22, 23, 24, 25, 26, 27, 28, 29, 30, 31, 32, 33, 34, 35, 36, 37, 38, 39, 40, 41, 42, 43, 44, 45, 46, 47, 48, 49, 50, 51, 52, 53, 54, 55, 56] rfl (by decide +kernel)) (goodIn_sub (fun _ h => List.mem_cons_of_mem _ (List.mem_append_right _ h)) (by decide +kernel))
set_option maxRecDepth 20000 in
theorem gL_speedOf_X7_speedOf : GoodIn wsL_speedOf (wsV RL 66 RX7 yX7_speedOf wsX7_speedOf) := goodIn_app (goodIn_r _ [2, 3, 4, 5] rfl (by decide +kernel)) ggL_speedOf_X7_speedOf
set_option maxRecDepth 20000 in
theorem ggL_strengthOf_X7_strengthOf : GoodIn wsL_strengthOf wsX7_strengthOf := goodIn_ca (goodIn_r _ [6, 7, 8, 9, 10, 5, 11, 12, 13, 14, 15, 16, 17, 18, 19, 20, 21, 22, 23, 24, 25, 26, 27, 28, 29, 30, 31, 32, 33, 34, 35, 36, 37, 38, 39, 40, 41, 42, 43, 44, 45, 46, 47, 48, 49, 50, 51, 52, 53, 54, 55, 56] rfl (by decide +kernel)) (goodIn_sub (fun _ h => List.mem_cons_of_mem _ (List.mem_append_right _ h)) (by decide +kernel))
set_option maxRecDepth 20000 in
theorem gL_strengthOf_X7_strengthOf : GoodIn wsL_strengthOf (wsV RL 69 RX7 yX7_strengthOf wsX7_strengthOf) := goodIn_app (goodIn_r _ [2, 3, 4, 5] rfl (by decide +kernel)) ggL_strengthOf_X7_strengthOf
set_option maxRecDepth 20000 in
theorem ggL_wearOf_X7_wearOf : GoodIn wsL_wearOf wsX7_wearOf := goodIn_ca (goodIn_r _ [6, 7, 8, 9, 10, 5, 11, 12, 13, 14, 15, 16, 17, 18, 19, 20, 21, 22, 23, 24, 25, 26, 27, 28, 29, 30, 31, 32, 33, 34, 35, 36, 37, 38, 39, 40, 41, 42, 43, 44, 45, 46, 47, 48, 49, 50, 51, 52, 53, 54, 55, 56] rfl (by decide +kernel)) (goodIn_sub (fun _ h => List.mem_cons_of_mem _ (List.mem_append_right _ h)) (by decide +kernel))
set_option maxRecDepth 20000 in
theorem gL_wearOf_X7_wearOf : GoodIn wsL_wearOf (wsV RL 72 RX7 yX7_wearOf wsX7_wearOf) := goodIn_app (goodIn_r _ [2, 3, 4, 5] rfl (by decide +kernel)) ggL_wearOf_X7_wearOf
set_option maxRecDepth 20000 in
theorem ggL_laneOf_X7_laneOf : GoodIn wsL_laneOf wsX7_laneOf := goodIn_ca (goodIn_r _ [6, 7, 8, 9, 10, 5, 11, 12, 13, 14, 15, 16, 17, 18, 19, 20, 21, 22, 23, 24, 25, 26, 27, 28, 29, 30, 31, 32, 33, 34, 35, 36, 37, 38, 39, 40, 41, 42, 43, 44, 45, 46, 47, 48, 49, 50, 51, 52, 53, 54, 55, 56] rfl (by decide +kernel)) (goodIn_sub (fun _ h => List.mem_cons_of_mem _ (List.mem_append_right _ h)) (by decide +kernel))
set_option maxRecDepth 20000 in
theorem gL_laneOf_X7_laneOf : GoodIn wsL_laneOf (wsV RL 75 RX7 yX7_laneOf wsX7_laneOf) := goodIn_app (goodIn_r _ [2, 3, 4, 5] rfl (by decide +kernel)) ggL_laneOf_X7_laneOf
set_option maxRecDepth 20000 in
theorem ggL_stateOf_X7_stateOf : GoodIn wsL_stateOf wsX7_stateOf := goodIn_ca (goodIn_r _ [6, 7, 8, 9, 10, 5, 11, 12, 13, 14, 15, 16, 17, 18, 19, 20, 21, 22, 23, 24, 25, 26, 27, 28, 29, 30, 31, 32, 33, 34, 35, 36, 37, 38, 39, 40, 41, 42, 43, 44, 45, 46, 47, 48, 49, 50, 51, 52, 53, 54, 55, 56] rfl (by decide +kernel)) (goodIn_sub (fun _ h => List.mem_cons_of_mem _ (List.mem_append_right _ h)) (by decide +kernel))
set_option maxRecDepth 20000 in
theorem gL_stateOf_X7_stateOf : GoodIn wsL_stateOf (wsV RL 78 RX7 yX7_stateOf wsX7_stateOf) := goodIn_app (goodIn_r _ [2, 3, 4, 5] rfl (by decide +kernel)) ggL_stateOf_X7_stateOf
set_option maxRecDepth 20000 in
theorem ggL_paceOf_X7_paceOf : GoodIn wsL_paceOf wsX7_paceOf := goodIn_ca (goodIn_r _ [6, 7, 8, 9, 10, 5, 11, 12, 13, 14, 15, 16, 17, 18, 19, 20, 21, 22, 23, 24, 25, 26, 27, 28, 29, 30, 31, 32, 33, 34, 35, 36, 37, 38, 39, 40, 41, 42, 43, 44, 45, 46, 47, 48, 49, 50, 51, 52, 53, 54, 55, 56] rfl (by decide +kernel)) (goodIn_sub (fun _ h => List.mem_cons_of_mem _ (List.mem_append_right _ h)) (by decide +kernel))
set_option maxRecDepth 20000 in
theorem gL_paceOf_X7_paceOf : GoodIn wsL_paceOf (wsV RL 81 RX7 yX7_paceOf wsX7_paceOf) := goodIn_app (goodIn_r _ [2, 3, 4, 5] rfl (by decide +kernel)) ggL_paceOf_X7_paceOf
set_option maxRecDepth 20000 in
theorem ggL_partnerOf_X7_partnerOf : GoodIn wsL_partnerOf wsX7_partnerOf := goodIn_ca (goodIn_ca (goodIn_r _ [7, 8, 9, 10, 11, 12, 13, 6, 14, 15, 16, 17, 18, 19, 20, 21, 22, 23, 24, 25, 26, 27, 28, 29, 30, 31, 32, 33, 34, 35, 36, 37, 38, 39, 40, 41, 42, 43, 44, 45, 46, 47, 48, 49, 50, 51, 52, 53, 54, 55, 56, 57, 58, 59] rfl (by decide +kernel)) (goodIn_sub (fun _ h => List.mem_cons_of_mem _ (List.mem_append_left _ (List.mem_append_right _ h))) (by decide +kernel))) (goodIn_sub (fun _ h => List.mem_cons_of_mem _ (List.mem_append_right _ h)) (by decide +kernel))
set_option maxRecDepth 20000 in
theorem gL_partnerOf_X7_partnerOf : GoodIn wsL_partnerOf (wsV RL 84 RX7 yX7_partnerOf wsX7_partnerOf) := goodIn_app (goodIn_r _ [3, 4, 5, 6] rfl (by decide +kernel)) ggL_partnerOf_X7_partnerOf
set_option maxRecDepth 20000 in
theorem ggL_isCalledIn_X7_isCalledIn : GoodIn wsL_isCalledIn wsX7_isCalledIn := goodIn_ca (goodIn_r _ [6, 7, 8, 9, 10, 5, 11, 12, 13, 14, 15, 16, 17, 18, 19, 20, 21, 22, 23, 24, 25, 26, 27, 28, 29, 30, 31, 32, 33, 34, 35, 36, 37, 38, 39, 40, 41, 42, 43, 44, 45, 46, 47, 48, 49, 50, 51, 52, 53, 54, 55, 56] rfl (by decide +kernel)) (goodIn_sub (fun _ h => List.mem_cons_of_mem _ (List.mem_append_right _ h)) (by decide +kernel))
set_option maxRecDepth 20000 in
theorem gL_isCalledIn_X7_isCalledIn : GoodIn wsL_isCalledIn (wsV RL 87 RX7 yX7_isCalledIn wsX7_isCalledIn) := goodIn_app (goodIn_r _ [2, 3, 4, 5] rfl (by decide +kernel)) ggL_isCalledIn_X7_isCalledIn
set_option maxRecDepth 20000 in
theorem ggL_limitOf_X7_limitOf : GoodIn wsL_limitOf wsX7_limitOf := goodIn_ca (goodIn_r _ [6, 7, 8, 9, 5, 10, 11, 12, 13, 14, 15, 16, 17, 18, 19, 20, 21, 22, 23, 24, 25, 26, 27, 28, 29, 30, 31, 32, 33, 34, 35, 36, 37, 38] rfl (by decide +kernel)) (goodIn_sub (fun _ h => List.mem_cons_of_mem _ (List.mem_append_right _ h)) (by decide +kernel))
set_option maxRecDepth 20000 in
theorem gL_limitOf_X7_limitOf : GoodIn wsL_limitOf (wsV RL 90 RX7 yX7_limitOf wsX7_limitOf) := goodIn_app (goodIn_r _ [2, 3, 4, 5] rfl (by decide +kernel)) ggL_limitOf_X7_limitOf
set_option maxRecDepth 20000 in
theorem ggL_placeByCounting_X7_placeByCounting : GoodIn wsL_placeByCounting wsX7_placeByCounting := goodIn_ca (goodIn_r _ [6, 7, 8, 9, 10, 5, 11, 12, 13, 14, 15, 16, 17, 18, 19, 20, 21, 22, 23, 24, 25, 26, 27, 28, 29, 30, 31, 32, 33, 34, 35, 36, 37, 38, 39, 40, 41, 42, 43, 44, 45, 46, 47, 48, 49, 50, 51, 52, 53, 54, 55, 56, 57, 58, 59, 60, 61, 62, 63, 64, 65, 66, 67, 68, 69, 70, 71, 72, 73] rfl (by decide +kernel)) (goodIn_sub (fun _ h => List.mem_cons_of_mem _ (List.mem_append_right _ h)) (by decide +kernel))
set_option maxRecDepth 20000 in
theorem gL_placeByCounting_X7_placeByCounting : GoodIn wsL_placeByCounting (wsV RL 93 RX7 yX7_placeByCounting wsX7_placeByCounting) := goodIn_app (goodIn_r _ [2, 3, 4, 5] rfl (by decide +kernel)) ggL_placeByCounting_X7_placeByCounting
set_option maxRecDepth 20000 in
theorem ggL_birdByOrder_X7_birdByOrder : GoodIn wsL_birdByOrder wsX7_birdByOrder := goodIn_ca (goodIn_r _ [6, 7, 8, 9, 10, 11, 12, 13, 14, 15, 16, 17, 18, 19, 20, 21, 22, 23, 24, 25, 26, 27, 28, 29, 30, 31, 32, 33, 34, 35, 36, 37, 38, 39, 40, 41, 42, 43, 44, 45, 46, 47, 48, 49, 50, 51, 52, 53, 54, 55, 56, 57, 58, 59, 60, 61, 62, 63, 64, 65, 66, 67, 68, 69, 70, 71, 72, 73, 74, 75] rfl (by decide +kernel)) (goodIn_sub (fun _ h => List.mem_cons_of_mem _ (List.mem_append_right _ h)) (by decide +kernel))
set_option maxRecDepth 20000 in
theorem gL_birdByOrder_X7_birdByOrder : GoodIn wsL_birdByOrder (wsV RL 96 RX7 yX7_birdByOrder wsX7_birdByOrder) := goodIn_app (goodIn_r _ [2, 3, 4, 5] rfl (by decide +kernel)) ggL_birdByOrder_X7_birdByOrder
set_option maxRecDepth 20000 in
theorem ggL_gapAhead_X7_gapAhead : GoodIn wsL_gapAhead wsX7_gapAhead := goodIn_ca (goodIn_r _ [6, 7, 8, 9, 10, 5, 11, 12, 13, 14, 15, 16, 17, 18, 19, 20, 21, 22, 23, 24, 25, 26, 27, 28, 29, 30, 31, 32, 33, 34, 35, 36, 37, 38, 39, 40, 41, 42, 43, 44, 45, 46, 47, 48, 49, 50, 51, 52, 53, 54, 55, 56, 57, 58, 59, 60, 61, 62, 63, 64, 65, 66, 67, 68, 69, 70, 71, 72, 73, 74, 75, 76] rfl (by decide +kernel)) (goodIn_sub (fun _ h => List.mem_cons_of_mem _ (List.mem_append_right _ h)) (by decide +kernel))
set_option maxRecDepth 20000 in
theorem gL_gapAhead_X7_gapAhead : GoodIn wsL_gapAhead (wsV RL 99 RX7 yX7_gapAhead wsX7_gapAhead) := goodIn_app (goodIn_r _ [2, 3, 4, 5] rfl (by decide +kernel)) ggL_gapAhead_X7_gapAhead
set_option maxRecDepth 20000 in
theorem ggL_isDrafting_X7_isDrafting : GoodIn wsL_isDrafting wsX7_isDrafting := goodIn_ca (goodIn_ca (goodIn_r _ [7, 8, 9, 10, 11, 6, 12, 13, 14, 15, 16, 17, 18, 19, 20, 21, 22, 23, 24, 25, 26, 27, 28, 29, 30, 31, 32, 33, 34, 35, 36, 37, 38, 39, 40, 41, 42, 43, 44, 45, 46, 47, 48, 49, 50, 51, 52, 53, 54, 55, 56, 57, 58, 59, 60, 61, 62, 63, 64, 65, 66, 67, 68, 69, 70, 71, 72, 73, 74, 75, 76, 77, 78, 79, 80, 81, 82, 83, 84, 85] rfl (by decide +kernel)) (goodIn_sub (fun _ h => List.mem_cons_of_mem _ (List.mem_append_left _ (List.mem_append_right _ h))) (by decide +kernel))) (goodIn_sub (fun _ h => List.mem_cons_of_mem _ (List.mem_append_right _ h)) (by decide +kernel))
set_option maxRecDepth 20000 in
theorem gL_isDrafting_X7_isDrafting : GoodIn wsL_isDrafting (wsV RL 102 RX7 yX7_isDrafting wsX7_isDrafting) := goodIn_app (goodIn_r _ [3, 4, 5, 6] rfl (by decide +kernel)) ggL_isDrafting_X7_isDrafting
set_option maxRecDepth 20000 in
theorem ggL_whereIs_X7_whereIs : GoodIn wsL_whereIs wsX7_whereIs := goodIn_ca (goodIn_r _ [6, 7, 8, 9, 5, 10, 11, 12, 13, 14, 15, 16, 17, 18, 19, 20, 21, 22, 23, 24, 25, 26, 27, 28, 29, 30, 31, 32, 33, 34, 35, 36, 37, 38, 39, 40, 41, 42, 43, 44, 45, 46, 47, 48, 49, 50, 51, 52, 53, 54, 55, 56, 57, 58, 59, 60, 61] rfl (by decide +kernel)) (goodIn_sub (fun _ h => List.mem_cons_of_mem _ (List.mem_append_right _ h)) (by decide +kernel))
set_option maxRecDepth 20000 in
theorem gL_whereIs_X7_whereIs : GoodIn wsL_whereIs (wsV RL 105 RX7 yX7_whereIs wsX7_whereIs) := goodIn_app (goodIn_r _ [2, 3, 4, 5] rfl (by decide +kernel)) ggL_whereIs_X7_whereIs
set_option maxRecDepth 20000 in
theorem ggL_allowance_X7_allowance : GoodIn wsL_allowance wsX7_allowance := goodIn_ca (goodIn_ca (goodIn_r _ [7, 8, 9, 10, 11, 6, 12, 13, 14, 15, 16, 17, 18, 19, 20, 21, 22, 23, 24, 25, 26, 27, 28, 29, 30, 31, 32, 33, 34, 35, 36, 37, 38, 39, 40, 41, 42, 43, 44, 45, 46, 47, 48, 49, 50, 51, 52, 53, 54, 55, 56, 57, 58, 59, 60, 61, 62, 63, 64, 65, 66, 67, 68, 69, 70, 71, 72, 73, 74, 75, 76, 77, 78, 79, 80, 81] rfl (by decide +kernel)) (goodIn_sub (fun _ h => List.mem_cons_of_mem _ (List.mem_append_left _ (List.mem_append_right _ h))) (by decide +kernel))) (goodIn_sub (fun _ h => List.mem_cons_of_mem _ (List.mem_append_right _ h)) (by decide +kernel))
set_option maxRecDepth 20000 in
theorem gL_allowance_X7_allowance : GoodIn wsL_allowance (wsV RL 108 RX7 yX7_allowance wsX7_allowance) := goodIn_app (goodIn_r _ [3, 4, 5, 6] rfl (by decide +kernel)) ggL_allowance_X7_allowance
set_option maxRecDepth 20000 in
theorem ggL_wouldFly_X7_wouldFly : GoodIn wsL_wouldFly wsX7_wouldFly := goodIn_ca (goodIn_ca (goodIn_ca (goodIn_r _ [8, 9, 10, 11, 12, 7, 13, 14, 15, 16, 17, 18, 19, 20, 21, 22, 23, 24, 25, 26, 27, 28, 29, 30, 31, 32, 33, 34, 35, 36, 37, 38, 39, 40, 41, 42, 43, 44, 45, 46, 47, 48, 49, 50, 51, 52, 53, 54, 55, 56, 57, 58, 59, 60, 61, 62, 63, 64, 65, 66, 67, 68, 69, 70, 71, 72, 73, 74, 75, 76, 77, 78, 79, 80, 81, 82, 83, 84, 85, 86, 87, 88, 89, 90, 91, 92, 93, 94, 95, 96, 97, 98, 99, 100, 101, 102, 103, 104, 105, 106, 107, 108, 109, 110, 111, 112, 113, 114, 115, 116, 117, 118, 119, 120, 121, 122, 123, 124, 125, 126, 127, 128, 129, 130, 131, 132, 133, 134, 135, 136, 137, 138, 139, 140, 141, 142, 143, 144, 145, 146, 147, 148, 149, 150, 151, 152, 153, 154, 155, 156, 157, 158, 159, 160, 161, 162, 163, 164, 165, 166, 167, 168, 169, 170, 171, 172, 173, 174, 175, 176, 177, 178, 179, 180, 181, 182, 183, 184, 185, 186, 187, 188, 189, 190, 191, 192, 193, 194, 195, 196, 197, 198, 199, 200, 201, 202, 203, 204, 205, 206, 207, 208] rfl (by decide +kernel)) (goodIn_sub (fun _ h => List.mem_cons_of_mem _ (List.mem_append_left _ (List.mem_append_left _ (List.mem_append_right _ h)))) (by decide +kernel))) (goodIn_sub (fun _ h => List.mem_cons_of_mem _ (List.mem_append_left _ (List.mem_append_right _ h))) (by decide +kernel))) (goodIn_sub (fun _ h => List.mem_cons_of_mem _ (List.mem_append_right _ h)) (by decide +kernel))
set_option maxRecDepth 20000 in
theorem gL_wouldFly_X7_wouldFly : GoodIn wsL_wouldFly (wsV RL 111 RX7 yX7_wouldFly wsX7_wouldFly) := goodIn_app (goodIn_r _ [4, 5, 6, 7] rfl (by decide +kernel)) ggL_wouldFly_X7_wouldFly
set_option maxRecDepth 20000 in
theorem ggL_wouldWin_X7_wouldWin : GoodIn wsL_wouldWin wsX7_wouldWin := goodIn_ca (goodIn_r _ [6, 7, 8, 9, 10, 11, 5, 12, 13, 14, 15, 16, 17, 18, 19, 20, 21, 22, 23, 24, 25, 26, 27, 28, 29, 30, 31, 32, 33, 34, 35, 36, 37, 38, 39, 40, 41, 42, 43, 44, 45, 46, 47, 48, 49, 50, 51, 52, 53, 54, 55, 56, 57, 58, 59, 60, 61, 62, 63, 64, 65, 66, 67, 68, 69, 70, 71, 72, 73, 74, 75, 76, 77, 78, 79, 80, 81, 82, 83, 84, 85, 86, 87, 88, 89, 90, 91, 92, 93, 94, 95, 96, 97, 98, 99, 100, 101, 102, 103, 104, 105, 106, 107, 108, 109, 110, 111, 112, 113, 114, 115, 116, 117, 118, 119, 120, 121, 122, 123, 124, 125, 126, 127, 128, 129, 130, 131, 132, 133, 134, 135, 136, 137, 138, 139, 140, 141, 142, 143, 144, 145, 146, 147, 148, 149, 150, 151, 152, 153, 154, 155, 156, 157, 158, 159, 160, 161, 162, 163, 164, 165, 166, 167, 168, 169, 170, 171, 172, 173, 174, 175, 176, 177, 178, 179, 180, 181, 182, 183, 184, 185, 186, 187, 188, 189, 190, 191, 192, 193, 194] rfl (by decide +kernel)) (goodIn_sub (fun _ h => List.mem_cons_of_mem _ (List.mem_append_right _ h)) (by decide +kernel))
set_option maxRecDepth 20000 in
theorem gL_wouldWin_X7_wouldWin : GoodIn wsL_wouldWin (wsV RL 114 RX7 yX7_wouldWin wsX7_wouldWin) := goodIn_app (goodIn_r _ [2, 3, 4, 5] rfl (by decide +kernel)) ggL_wouldWin_X7_wouldWin
set_option maxRecDepth 20000 in
theorem ggL_secondsToNext_X7_secondsToNext : GoodIn wsL_secondsToNext wsX7_secondsToNext := goodIn_ca (goodIn_r _ [6, 7, 8, 9, 10, 11, 5, 12, 13, 14, 15, 16, 17, 18, 19, 20, 21, 22, 23, 24, 25, 26, 27, 28, 29, 30, 31, 32, 33, 34, 35, 36, 37, 38, 39, 40, 41, 42, 43, 44, 45, 46, 47, 48, 49, 50, 51, 52, 53, 54, 55, 56, 57, 58, 59, 60, 61, 62, 63, 64, 65, 66, 67, 68, 69, 70, 71, 72, 73, 74, 75, 76, 77, 78, 79, 80, 81, 82, 83, 84, 85, 86, 87, 88, 89, 90, 91, 92, 93, 94, 95, 96, 97, 98, 99, 100, 101, 102, 103, 104, 105, 106, 107, 108, 109, 110, 111, 112, 113, 114, 115, 116, 117, 118, 119, 120, 121, 122, 123, 124, 125, 126, 127, 128, 129, 130, 131, 132, 133, 134, 135, 136, 137, 138, 139, 140, 141, 142, 143, 144, 145, 146, 147, 148, 149, 150, 151, 152, 153, 154, 155, 156, 157, 158, 159, 160, 161, 162, 163, 164, 165, 166, 167, 168, 169, 170, 171, 172, 173, 174, 175, 176, 177, 178, 179, 180, 181, 182, 183, 184, 185] rfl (by decide +kernel)) (goodIn_sub (fun _ h => List.mem_cons_of_mem _ (List.mem_append_right _ h)) (by decide +kernel))
set_option maxRecDepth 20000 in
theorem gL_secondsToNext_X7_secondsToNext : GoodIn wsL_secondsToNext (wsV RL 117 RX7 yX7_secondsToNext wsX7_secondsToNext) := goodIn_app (goodIn_r _ [2, 3, 4, 5] rfl (by decide +kernel)) ggL_secondsToNext_X7_secondsToNext
set_option maxRecDepth 20000 in
theorem ggL_flownWithPace_X7_flownWithPace : GoodIn wsL_flownWithPace wsX7_flownWithPace := goodIn_ca (goodIn_ca (goodIn_ca (goodIn_r _ [8, 9, 10, 11, 7, 12, 13, 14, 15, 16, 17, 18, 19, 20, 21, 22, 23, 24, 25, 26, 27, 28, 29, 30, 31, 32, 33, 34, 35, 36, 37, 38, 39, 40, 41, 42, 43, 44, 45, 46, 47, 48, 49, 50, 51, 52, 53, 54, 55, 56, 57, 58, 59, 60, 61, 62, 63, 64, 65, 66, 67, 68, 69, 70, 71, 72, 73, 74, 75, 76, 77, 78, 79, 80, 81, 82, 83, 84, 85, 86, 87, 88, 89, 90, 91, 92, 93, 94, 95, 96, 97, 98, 99, 100, 101, 102, 103, 104, 105, 106, 107, 108, 109, 110, 111, 112, 113, 114, 115, 116, 117, 118, 119, 120, 121, 122, 123, 124, 125, 126, 127, 128, 129, 130, 131, 132, 133, 134, 135, 136, 137, 138, 139, 140, 141, 142, 143, 144, 145, 146, 147, 148, 149, 150, 151, 152, 153, 154, 155, 156, 157, 158, 159, 160, 161, 162, 163, 164, 165, 166, 167, 168, 169, 170, 171, 172, 173, 174, 175, 176, 177, 178, 179, 180, 181, 182, 183, 184, 185, 186, 187, 188, 189, 190, 191, 192, 193, 194, 195, 196, 197, 198, 199, 200, 201, 202, 203, 204, 205, 206, 207, 208, 209, 210, 211] rfl (by decide +kernel)) (goodIn_sub (fun _ h => List.mem_cons_of_mem _ (List.mem_append_left _ (List.mem_append_left _ (List.mem_append_right _ h)))) (by decide +kernel))) (goodIn_sub (fun _ h => List.mem_cons_of_mem _ (List.mem_append_left _ (List.mem_append_right _ h))) (by decide +kernel))) (goodIn_sub (fun _ h => List.mem_cons_of_mem _ (List.mem_append_right _ h)) (by decide +kernel))
set_option maxRecDepth 20000 in
theorem gL_flownWithPace_X7_flownWithPace : GoodIn wsL_flownWithPace (wsV RL 120 RX7 yX7_flownWithPace wsX7_flownWithPace) := goodIn_app (goodIn_r _ [4, 5, 6, 7] rfl (by decide +kernel)) ggL_flownWithPace_X7_flownWithPace
set_option maxRecDepth 20000 in
theorem ggL_bestPace_X7_bestPace : GoodIn wsL_bestPace wsX7_bestPace := goodIn_ca (goodIn_ca (goodIn_r _ [7, 8, 9, 10, 6, 11, 12, 13, 14, 15, 16, 17, 18, 19, 20, 21, 22, 23, 24, 25, 26, 27, 28, 29, 30, 31, 32, 33, 34, 35, 36, 37, 38, 39, 40, 41, 42, 43, 44, 45, 46, 47, 48, 49, 50, 51, 52, 53, 54, 55, 56, 57, 58, 59, 60, 61, 62, 63, 64, 65, 66, 67, 68, 69, 70, 71, 72, 73, 74, 75, 76, 77, 78, 79, 80, 81, 82, 83, 84, 85, 86, 87, 88, 89, 90, 91, 92, 93, 94, 95, 96, 97, 98, 99, 100, 101, 102, 103, 104, 105, 106, 107, 108, 109, 110, 111, 112, 113, 114, 115, 116, 117, 118, 119, 120, 121, 122, 123, 124, 125, 126, 127, 128, 129, 130, 131, 132, 133, 134, 135, 136, 137, 138, 139, 140, 141, 142, 143, 144, 145, 146, 147, 148, 149, 150, 151, 152, 153, 154, 155, 156, 157, 158, 159, 160, 161, 162, 163, 164, 165, 166, 167, 168, 169, 170, 171, 172, 173, 174, 175, 176, 177, 178, 179, 180, 181, 182, 183, 184, 185, 186, 187, 188, 189, 190, 191, 192, 193, 194, 195, 196, 197, 198, 199, 200, 201, 202, 203, 204, 205, 206] rfl (by decide +kernel)) (goodIn_sub (fun _ h => List.mem_cons_of_mem _ (List.mem_append_left _ (List.mem_append_right _ h))) (by decide +kernel))) (goodIn_sub (fun _ h => List.mem_cons_of_mem _ (List.mem_append_right _ h)) (by decide +kernel))
set_option maxRecDepth 20000 in
theorem gL_bestPace_X7_bestPace : GoodIn wsL_bestPace (wsV RL 123 RX7 yX7_bestPace wsX7_bestPace) := goodIn_app (goodIn_r _ [3, 4, 5, 6] rfl (by decide +kernel)) ggL_bestPace_X7_bestPace
set_option maxRecDepth 20000 in
theorem ggL_arrivedAt_X7_arrivedAt : GoodIn wsL_arrivedAt wsX7_arrivedAt := goodIn_ca (goodIn_r _ [6, 7, 8, 9, 10, 11, 12, 13, 14, 15, 16, 17, 18, 19, 20, 21, 22, 23, 24, 25, 26, 27, 28, 29, 30, 31, 32, 33, 34, 35, 36, 37, 38, 39, 40, 41, 42, 43, 44, 45, 46, 47, 48, 49, 50, 51, 52, 53, 54, 55, 56, 57, 58, 59] rfl (by decide +kernel)) (goodIn_sub (fun _ h => List.mem_cons_of_mem _ (List.mem_append_right _ h)) (by decide +kernel))
set_option maxRecDepth 20000 in
theorem gL_arrivedAt_X7_arrivedAt : GoodIn wsL_arrivedAt (wsV RL 126 RX7 yX7_arrivedAt wsX7_arrivedAt) := goodIn_app (goodIn_r _ [2, 3, 4, 5] rfl (by decide +kernel)) ggL_arrivedAt_X7_arrivedAt
set_option maxRecDepth 20000 in
theorem ggL_timeOf_X7_timeOf : GoodIn wsL_timeOf wsX7_timeOf := goodIn_ca (goodIn_ca (goodIn_r _ [7, 8, 9, 10, 11, 12, 13, 14, 6, 15, 16, 17, 18, 19, 20, 21, 22, 23, 24, 25, 26, 27, 28, 29, 30, 31, 32, 33, 34, 35, 36, 37, 38, 39, 40, 41, 42, 43, 44, 45, 46, 47, 48, 49, 50, 51, 52, 53, 54, 55, 56, 57, 58, 59, 60] rfl (by decide +kernel)) (goodIn_sub (fun _ h => List.mem_cons_of_mem _ (List.mem_append_left _ (List.mem_append_right _ h))) (by decide +kernel))) (goodIn_sub (fun _ h => List.mem_cons_of_mem _ (List.mem_append_right _ h)) (by decide +kernel))
set_option maxRecDepth 20000 in
theorem gL_timeOf_X7_timeOf : GoodIn wsL_timeOf (wsV RL 129 RX7 yX7_timeOf wsX7_timeOf) := goodIn_app (goodIn_r _ [3, 4, 5, 6] rfl (by decide +kernel)) ggL_timeOf_X7_timeOf
