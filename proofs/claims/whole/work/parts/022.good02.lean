set_option maxRecDepth 20000 in
theorem gX8_isDrafted_X8_in : GoodIn wsX8_isDrafted (va_wsS RX8 36 yX8_in wsX8_in) := goodIn_app (goodIn_of _ (by decide +kernel)) ggX8_isDrafted_X8_in
set_option maxRecDepth 20000 in
theorem ggX8_isPartnerNext_X8_of : GoodIn wsX8_isPartnerNext wsX8_of := goodIn_r _ [6, 1, 19, 20, 21, 22, 23, 24, 25, 26, 27, 28, 29, 30, 31, 32, 33, 34, 35] (by decide +kernel) (by decide +kernel)
set_option maxRecDepth 20000 in
theorem gX8_isPartnerNext_X8_of : GoodIn wsX8_isPartnerNext (wsV RX8 40 RX8 yX8_of wsX8_of) := goodIn_app (goodIn_of _ (by decide +kernel)) ggX8_isPartnerNext_X8_of
set_option maxRecDepth 20000 in
theorem ggX8_isPartnerNext_X8_gap : GoodIn wsX8_isPartnerNext wsX8_gap := goodIn_r _ [10, 1, 11, 12, 13, 5, 14, 2, 3, 4, 6, 15, 16, 17, 18, 19, 20, 21, 22, 23, 24, 25, 26, 27, 28, 29, 30, 31, 32, 33, 34, 35] (by decide +kernel) (by decide +kernel)
set_option maxRecDepth 20000 in
theorem gX8_isPartnerNext_X8_gap : GoodIn wsX8_isPartnerNext (wsV RX8 68 RX8 yX8_gap wsX8_gap) := goodIn_app (goodIn_of _ (by decide +kernel)) ggX8_isPartnerNext_X8_gap
set_option maxRecDepth 20000 in
theorem ggX8_isPartnerNext_X8_flies : GoodIn wsX8_isPartnerNext wsX8_flies := goodIn_r _ [14, 2, 3, 4, 5, 6, 1, 19, 20, 21, 22, 23, 24, 25, 26, 27, 28, 29, 30, 31, 32, 33, 34, 35] (by decide +kernel) (by decide +kernel)
set_option maxRecDepth 20000 in
theorem gX8_isPartnerNext_X8_flies : GoodIn wsX8_isPartnerNext (wsV RX8 62 RX8 yX8_flies wsX8_flies) := goodIn_app (goodIn_of _ (by decide +kernel)) ggX8_isPartnerNext_X8_flies
set_option maxRecDepth 20000 in
theorem ggX8_isPartnerNext_X8_ahead : GoodIn wsX8_isPartnerNext wsX8_ahead := goodIn_r _ [18, 2, 3, 4, 5, 6, 1, 19, 20, 21, 22, 23, 24, 25, 26, 27, 28, 29, 30, 31, 32, 33, 34, 35] (by decide +kernel) (by decide +kernel)
set_option maxRecDepth 20000 in
theorem gX8_isPartnerNext_X8_ahead : GoodIn wsX8_isPartnerNext (wsV RX8 65 RX8 yX8_ahead wsX8_ahead) := goodIn_app (goodIn_of _ (by decide +kernel)) ggX8_isPartnerNext_X8_ahead
set_option maxRecDepth 20000 in
theorem ggX8_where_X8_of : GoodIn wsX8_where wsX8_of := goodIn_r _ [5, 6, 7, 8, 9, 10, 11, 12, 13, 14, 15, 16, 17, 18, 19, 20, 21, 22, 23] (by decide +kernel) (by decide +kernel)
set_option maxRecDepth 20000 in
theorem gX8_where_X8_of : GoodIn wsX8_where (wsV RX8 40 RX8 yX8_of wsX8_of) := goodIn_app (goodIn_of _ (by decide +kernel)) ggX8_where_X8_of
set_option maxRecDepth 20000 in
theorem ggX8_allowed_X8_where : GoodIn wsX8_allowed wsX8_where := goodIn_r _ [6, 7, 8, 9, 5, 10, 1, 11, 12, 13, 14, 15, 16, 17, 18, 19, 20, 21, 22, 23, 24, 25, 26, 27] (by decide +kernel) (by decide +kernel)
set_option maxRecDepth 20000 in
theorem gX8_allowed_X8_where : GoodIn wsX8_allowed (wsV RX8 71 RX8 yX8_where wsX8_where) := goodIn_app (goodIn_of _ (by decide +kernel)) ggX8_allowed_X8_where
set_option maxRecDepth 20000 in
theorem ggX8_allowed_X8_of : GoodIn wsX8_allowed wsX8_of := goodIn_r _ [10, 1, 11, 12, 13, 14, 15, 16, 17, 18, 19, 20, 21, 22, 23, 24, 25, 26, 27] (by decide +kernel) (by decide +kernel)
set_option maxRecDepth 20000 in
theorem gX8_allowed_X8_of : GoodIn wsX8_allowed (wsV RX8 40 RX8 yX8_of wsX8_of) := goodIn_app (goodIn_of _ (by decide +kernel)) ggX8_allowed_X8_of
set_option maxRecDepth 20000 in
theorem ggX8_isFree_X8_ahead : GoodIn wsX8_isFree wsX8_ahead := goodIn_r _ [6, 7, 8, 9, 5, 10, 1, 15, 16, 17, 18, 19, 20, 21, 22, 23, 24, 25, 26, 27, 28, 29, 30, 31] (by decide +kernel) (by decide +kernel)
set_option maxRecDepth 20000 in
theorem gX8_isFree_X8_ahead : GoodIn wsX8_isFree (wsV RX8 65 RX8 yX8_ahead wsX8_ahead) := goodIn_app (goodIn_of _ (by decide +kernel)) ggX8_isFree_X8_ahead
set_option maxRecDepth 20000 in
theorem ggX8_isFree_X8_flies : GoodIn wsX8_isFree wsX8_flies := goodIn_r _ [14, 7, 8, 9, 5, 10, 1, 15, 16, 17, 18, 19, 20, 21, 22, 23, 24, 25, 26, 27, 28, 29, 30, 31] (by decide +kernel) (by decide +kernel)
set_option maxRecDepth 20000 in
theorem gX8_isFree_X8_flies : GoodIn wsX8_isFree (wsV RX8 62 RX8 yX8_flies wsX8_flies) := goodIn_app (goodIn_of _ (by decide +kernel)) ggX8_isFree_X8_flies
set_option maxRecDepth 20000 in
theorem ggX8_isFree_X8_of : GoodIn wsX8_isFree wsX8_of := goodIn_r _ [10, 1, 15, 16, 17, 18, 19, 20, 21, 22, 23, 24, 25, 26, 27, 28, 29, 30, 31] (by decide +kernel) (by decide +kernel)
set_option maxRecDepth 20000 in
theorem gX8_isFree_X8_of : GoodIn wsX8_isFree (wsV RX8 40 RX8 yX8_of wsX8_of) := goodIn_app (goodIn_of _ (by decide +kernel)) ggX8_isFree_X8_of
set_option maxRecDepth 20000 in
theorem ggX8_fly_X8_gap : GoodIn wsX8_fly wsX8_gap := goodIn_r _ [6, 1, 7, 8, 9, 5, 10, 11, 12, 13, 14, 15, 16, 17, 18, 46, 47, 48, 49, 50, 51, 52, 53, 54, 55, 56, 57, 58, 59, 60, 61, 62] (by decide +kernel) (by decide +kernel)
set_option maxRecDepth 20000 in
theorem gX8_fly_X8_gap : GoodIn wsX8_fly (wsV RX8 68 RX8 yX8_gap wsX8_gap) := goodIn_app (goodIn_of _ (by decide +kernel)) ggX8_fly_X8_gap
set_option maxRecDepth 20000 in
theorem ggX8_fly_X8_isDrafted : GoodIn wsX8_fly wsX8_isDrafted := goodIn_r _ [22, 11, 12, 13, 5, 14, 1, 2, 3, 4, 6, 7, 8, 9, 10, 15, 16, 17, 18, 23, 24, 25, 46, 47, 48, 49, 50, 51, 52, 53, 54, 55, 56, 57, 58, 59, 60, 61, 62] (by decide +kernel) (by decide +kernel)
set_option maxRecDepth 20000 in
theorem gX8_fly_X8_isDrafted : GoodIn wsX8_fly (wsV RX8 74 RX8 yX8_isDrafted wsX8_isDrafted) := goodIn_app (goodIn_of _ (by decide +kernel)) ggX8_fly_X8_isDrafted
set_option maxRecDepth 20000 in
theorem ggX8_fly_X8_allowed : GoodIn wsX8_fly wsX8_allowed := goodIn_r _ [29, 1, 30, 31, 32, 5, 33, 11, 12, 13, 14, 46, 47, 48, 49, 50, 51, 52, 53, 54, 55, 56, 57, 58, 59, 60, 61, 62] (by decide +kernel) (by decide +kernel)
set_option maxRecDepth 20000 in
theorem gX8_fly_X8_allowed : GoodIn wsX8_fly (wsV RX8 77 RX8 yX8_allowed wsX8_allowed) := goodIn_app (goodIn_of _ (by decide +kernel)) ggX8_fly_X8_allowed
set_option maxRecDepth 20000 in
theorem ggX8_fly_X8_isPartnerNext : GoodIn wsX8_fly wsX8_isPartnerNext := goodIn_r _ [37, 1, 11, 12, 13, 5, 14, 2, 3, 4, 6, 7, 8, 9, 10, 15, 16, 17, 18, 46, 47, 48, 49, 50, 51, 52, 53, 54, 55, 56, 57, 58, 59, 60, 61, 62] (by decide +kernel) (by decide +kernel)
set_option maxRecDepth 20000 in
theorem gX8_fly_X8_isPartnerNext : GoodIn wsX8_fly (wsV RX8 80 RX8 yX8_isPartnerNext wsX8_isPartnerNext) := goodIn_app (goodIn_of _ (by decide +kernel)) ggX8_fly_X8_isPartnerNext
set_option maxRecDepth 20000 in
theorem ggX8_fly_X8_where : GoodIn wsX8_fly wsX8_where := goodIn_r _ [33, 11, 12, 13, 5, 14, 1, 46, 47, 48, 49, 50, 51, 52, 53, 54, 55, 56, 57, 58, 59, 60, 61, 62] (by decide +kernel) (by decide +kernel)
set_option maxRecDepth 20000 in
theorem gX8_fly_X8_where : GoodIn wsX8_fly (wsV RX8 71 RX8 yX8_where wsX8_where) := goodIn_app (goodIn_of _ (by decide +kernel)) ggX8_fly_X8_where
set_option maxRecDepth 20000 in
theorem ggX8_fly_X8_isFree : GoodIn wsX8_fly wsX8_isFree := goodIn_r _ [41, 1, 15, 16, 17, 5, 18, 11, 12, 13, 14, 7, 8, 9, 10, 46, 47, 48, 49, 50, 51, 52, 53, 54, 55, 56, 57, 58, 59, 60, 61, 62] (by decide +kernel) (by decide +kernel)
set_option maxRecDepth 20000 in
theorem gX8_fly_X8_isFree : GoodIn wsX8_fly (wsV RX8 83 RX8 yX8_isFree wsX8_isFree) := goodIn_app (goodIn_of _ (by decide +kernel)) ggX8_fly_X8_isFree
set_option maxRecDepth 20000 in
theorem ggX8_fly_X8_atMost : GoodIn wsX8_fly wsX8_atMost := goodIn_r _ [45] (by decide +kernel) (by decide +kernel)
set_option maxRecDepth 20000 in
theorem gX8_fly_X8_atMost : GoodIn wsX8_fly (wsV RX8 86 RX8 yX8_atMost wsX8_atMost) := goodIn_app (goodIn_of _ (by decide +kernel)) ggX8_fly_X8_atMost
set_option maxRecDepth 20000 in
theorem ggX8_second_X8_place : GoodIn wsX8_second wsX8_place := goodIn_r _ [7, 1, 8, 9, 10, 6, 11, 12, 13, 14, 15, 16, 17, 18, 19, 20, 21, 22, 23, 67, 68, 69, 70, 71, 72, 73, 74, 75, 76, 77, 78, 79, 80, 81, 82, 83] (by decide +kernel) (by decide +kernel)
set_option maxRecDepth 20000 in
theorem gX8_second_X8_place : GoodIn wsX8_second (wsV RX8 59 RX8 yX8_place wsX8_place) := goodIn_app (goodIn_of _ (by decide +kernel)) ggX8_second_X8_place
set_option maxRecDepth 20000 in
theorem ggX8_second_X8_of : GoodIn wsX8_second wsX8_of := goodIn_r _ [19, 1, 67, 68, 69, 70, 71, 72, 73, 74, 75, 76, 77, 78, 79, 80, 81, 82, 83] (by decide +kernel) (by decide +kernel)
set_option maxRecDepth 20000 in
theorem gX8_second_X8_of : GoodIn wsX8_second (wsV RX8 40 RX8 yX8_of wsX8_of) := goodIn_app (goodIn_of _ (by decide +kernel)) ggX8_second_X8_of
set_option maxRecDepth 20000 in
theorem ggX8_second_X8_flies : GoodIn wsX8_second wsX8_flies := goodIn_r _ [27, 16, 17, 18, 6, 19, 1, 67, 68, 69, 70, 71, 72, 73, 74, 75, 76, 77, 78, 79, 80, 81, 82, 83] (by decide +kernel) (by decide +kernel)
set_option maxRecDepth 20000 in
theorem gX8_second_X8_flies : GoodIn wsX8_second (wsV RX8 62 RX8 yX8_flies wsX8_flies) := goodIn_app (goodIn_of _ (by decide +kernel)) ggX8_second_X8_flies
set_option maxRecDepth 20000 in
theorem ggX8_second_X8_fly : GoodIn wsX8_second wsX8_fly := goodIn_r _ [31, 1, 32, 33, 34, 6, 35, 24, 25, 26, 27, 16, 17, 18, 19, 36, 37, 38, 39, 40, 41, 42, 43, 44, 45, 46, 47, 48, 49, 50, 51, 52, 53, 54, 55, 56, 57, 58, 59, 60, 61, 62, 63, 64, 65, 66, 67, 68, 69, 70, 71, 72, 73, 74, 75, 76, 77, 78, 79, 80, 81, 82, 83] (by decide +kernel) (by decide +kernel)
set_option maxRecDepth 20000 in
theorem gX8_second_X8_fly : GoodIn wsX8_second (wsV RX8 89 RX8 yX8_fly wsX8_fly) := goodIn_app (goodIn_of _ (by decide +kernel)) ggX8_second_X8_fly
set_option maxRecDepth 20000 in
theorem ggX8_passes_X8_second : GoodIn wsX8_passes wsX8_second := goodIn_r _ [6, 1, 7, 8, 9, 10, 5, 11, 12, 13, 14, 15, 16, 17, 18, 19, 20, 21, 22, 23, 24, 25, 26, 27, 28, 29, 30, 31, 32, 33, 34, 35, 36, 37, 38, 39, 40, 41, 42, 43, 44, 45, 46, 47, 48, 49, 50, 51, 52, 53, 54, 55, 56, 57, 58, 59, 60, 61, 62, 63, 64, 65, 66, 67, 68, 69, 70, 71, 72, 73, 74, 75, 76, 77, 78, 79, 80, 81, 82, 83, 84, 85, 86, 87] (by decide +kernel) (by decide +kernel)
set_option maxRecDepth 20000 in
theorem gX8_passes_X8_second : GoodIn wsX8_passes (wsV RX8 92 RX8 yX8_second wsX8_second) := goodIn_app (goodIn_of _ (by decide +kernel)) ggX8_passes_X8_second
set_option maxRecDepth 20000 in
theorem ggX8_enter_X8_in : GoodIn wsX8_enter wsX8_in := goodIn_r _ [5] (by decide +kernel) (by decide +kernel)
set_option maxRecDepth 20000 in
theorem gX8_enter_X8_in : GoodIn wsX8_enter (va_wsS RX8 36 yX8_in wsX8_in) := goodIn_app (goodIn_of _ (by decide +kernel)) ggX8_enter_X8_in
set_option maxRecDepth 20000 in
theorem ggX8_enter_X8_refused : GoodIn wsX8_enter wsX8_refused := goodIn_r _ [9, 10, 17, 18, 19, 20, 21, 22, 23, 24, 25, 26, 27, 28, 29, 30, 31, 32, 33] (by decide +kernel) (by decide +kernel)
set_option maxRecDepth 20000 in
theorem gX8_enter_X8_refused : GoodIn wsX8_enter (wsV RX8 96 RX8 yX8_refused wsX8_refused) := goodIn_app (goodIn_of _ (by decide +kernel)) ggX8_enter_X8_refused
set_option maxRecDepth 20000 in
theorem ggX8_enter_X8_records : GoodIn wsX8_enter wsX8_records := goodIn_r _ [14, 15, 16, 1, 17, 18, 19, 20, 21, 22, 23, 24, 25, 26, 27, 28, 29, 30, 31, 32, 33] (by decide +kernel) (by decide +kernel)
set_option maxRecDepth 20000 in
theorem gX8_enter_X8_records : GoodIn wsX8_enter (wsV RX8 99 RX8 yX8_records wsX8_records) := goodIn_app (goodIn_of _ (by decide +kernel)) ggX8_enter_X8_records
set_option maxRecDepth 20000 in
theorem ggX8_setsPace_X8_of : GoodIn wsX8_setsPace wsX8_of := goodIn_r _ [6, 1, 7, 8, 9, 10, 11, 12, 13, 14, 15, 16, 17, 18, 19, 20, 21, 22, 23] (by decide +kernel) (by decide +kernel)
set_option maxRecDepth 20000 in
theorem gX8_setsPace_X8_of : GoodIn wsX8_setsPace (wsV RX8 40 RX8 yX8_of wsX8_of) := goodIn_app (goodIn_of _ (by decide +kernel)) ggX8_setsPace_X8_of
set_option maxRecDepth 20000 in
theorem ggX8_setPace_X8_isBird : GoodIn wsX8_setPace wsX8_isBird := goodIn_r _ [5, 6, 7, 8, 4, 9, 29, 30, 31, 32, 33, 34, 35, 36, 37, 38, 39, 40, 41, 42, 43, 44, 45] (by decide +kernel) (by decide +kernel)
set_option maxRecDepth 20000 in
theorem gX8_setPace_X8_isBird : GoodIn wsX8_setPace (wsV RX8 102 RX8 yX8_isBird wsX8_isBird) := goodIn_app (goodIn_of _ (by decide +kernel)) ggX8_setPace_X8_isBird
set_option maxRecDepth 20000 in
theorem ggX8_setPace_X8_in : GoodIn wsX8_setPace wsX8_in := goodIn_r _ [9] (by decide +kernel) (by decide +kernel)
set_option maxRecDepth 20000 in
theorem gX8_setPace_X8_in : GoodIn wsX8_setPace (va_wsS RX8 36 yX8_in wsX8_in) := goodIn_app (goodIn_of _ (by decide +kernel)) ggX8_setPace_X8_in
set_option maxRecDepth 20000 in
theorem ggX8_setPace_X8_refused : GoodIn wsX8_setPace wsX8_refused := goodIn_r _ [13, 14, 29, 30, 31, 32, 33, 34, 35, 36, 37, 38, 39, 40, 41, 42, 43, 44, 45] (by decide +kernel) (by decide +kernel)
set_option maxRecDepth 20000 in
theorem gX8_setPace_X8_refused : GoodIn wsX8_setPace (wsV RX8 96 RX8 yX8_refused wsX8_refused) := goodIn_app (goodIn_of _ (by decide +kernel)) ggX8_setPace_X8_refused
set_option maxRecDepth 20000 in
theorem ggX8_setPace_X8_records : GoodIn wsX8_setPace wsX8_records := goodIn_r _ [18, 19, 20, 6, 29, 30, 31, 32, 33, 34, 35, 36, 37, 38, 39, 40, 41, 42, 43, 44, 45] (by decide +kernel) (by decide +kernel)
set_option maxRecDepth 20000 in
theorem gX8_setPace_X8_records : GoodIn wsX8_setPace (wsV RX8 99 RX8 yX8_records wsX8_records) := goodIn_app (goodIn_of _ (by decide +kernel)) ggX8_setPace_X8_records
set_option maxRecDepth 20000 in
theorem ggX8_setPace_X8_setsPace : GoodIn wsX8_setPace wsX8_setsPace := goodIn_r _ [24, 6, 25, 26, 27, 4, 28, 29, 30, 31, 32, 33, 34, 35, 36, 37, 38, 39, 40, 41, 42, 43, 44, 45] (by decide +kernel) (by decide +kernel)
set_option maxRecDepth 20000 in
theorem gX8_setPace_X8_setsPace : GoodIn wsX8_setPace (wsV RX8 105 RX8 yX8_setsPace wsX8_setsPace) := goodIn_app (goodIn_of _ (by decide +kernel)) ggX8_setPace_X8_setsPace
set_option maxRecDepth 20000 in
theorem ggX8_calls_X8_of : GoodIn wsX8_calls wsX8_of := goodIn_r _ [6, 1, 7, 8, 9, 10, 11, 12, 13, 14, 15, 16, 17, 18, 19, 20, 21, 22, 23] (by decide +kernel) (by decide +kernel)
set_option maxRecDepth 20000 in
theorem gX8_calls_X8_of : GoodIn wsX8_calls (wsV RX8 40 RX8 yX8_of wsX8_of) := goodIn_app (goodIn_of _ (by decide +kernel)) ggX8_calls_X8_of
set_option maxRecDepth 20000 in
theorem ggX8_callIn_X8_isBird : GoodIn wsX8_callIn wsX8_isBird := goodIn_r _ [5, 6, 7, 8, 4, 9, 33, 34, 35, 36, 37, 38, 39, 40, 41, 42, 43, 44, 45, 46, 47, 48, 49] (by decide +kernel) (by decide +kernel)
set_option maxRecDepth 20000 in
theorem gX8_callIn_X8_isBird : GoodIn wsX8_callIn (wsV RX8 102 RX8 yX8_isBird wsX8_isBird) := goodIn_app (goodIn_of _ (by decide +kernel)) ggX8_callIn_X8_isBird
set_option maxRecDepth 20000 in
theorem ggX8_callIn_X8_isOver : GoodIn wsX8_callIn wsX8_isOver := goodIn_r _ [13, 14, 15, 16, 4, 17, 6, 33, 34, 35, 36, 37, 38, 39, 40, 41, 42, 43, 44, 45, 46, 47, 48, 49] (by decide +kernel) (by decide +kernel)
set_option maxRecDepth 20000 in
theorem gX8_callIn_X8_isOver : GoodIn wsX8_callIn (wsV RX8 47 RX8 yX8_isOver wsX8_isOver) := goodIn_app (goodIn_of _ (by decide +kernel)) ggX8_callIn_X8_isOver
set_option maxRecDepth 20000 in
theorem ggX8_callIn_X8_refused : GoodIn wsX8_callIn wsX8_refused := goodIn_r _ [21, 22, 33, 34, 35, 36, 37, 38, 39, 40, 41, 42, 43, 44, 45, 46, 47, 48, 49] (by decide +kernel) (by decide +kernel)
set_option maxRecDepth 20000 in
theorem gX8_callIn_X8_refused : GoodIn wsX8_callIn (wsV RX8 96 RX8 yX8_refused wsX8_refused) := goodIn_app (goodIn_of _ (by decide +kernel)) ggX8_callIn_X8_refused
set_option maxRecDepth 20000 in
theorem ggX8_callIn_X8_records : GoodIn wsX8_callIn wsX8_records := goodIn_r _ [26, 27, 28, 6, 33, 34, 35, 36, 37, 38, 39, 40, 41, 42, 43, 44, 45, 46, 47, 48, 49] (by decide +kernel) (by decide +kernel)
set_option maxRecDepth 20000 in
theorem gX8_callIn_X8_records : GoodIn wsX8_callIn (wsV RX8 99 RX8 yX8_records wsX8_records) := goodIn_app (goodIn_of _ (by decide +kernel)) ggX8_callIn_X8_records
set_option maxRecDepth 20000 in
theorem ggX8_callIn_X8_calls : GoodIn wsX8_callIn wsX8_calls := goodIn_r _ [32, 6, 14, 15, 16, 4, 17, 33, 34, 35, 36, 37, 38, 39, 40, 41, 42, 43, 44, 45, 46, 47, 48, 49] (by decide +kernel) (by decide +kernel)
set_option maxRecDepth 20000 in
theorem gX8_callIn_X8_calls : GoodIn wsX8_callIn (wsV RX8 108 RX8 yX8_calls wsX8_calls) := goodIn_app (goodIn_of _ (by decide +kernel)) ggX8_callIn_X8_calls
set_option maxRecDepth 20000 in
theorem ggX8_leaves_X8_of : GoodIn wsX8_leaves wsX8_of := goodIn_r _ [6, 1, 7, 8, 9, 10, 11, 12, 13, 14, 15, 16, 17, 18, 19, 20, 21, 22, 23] (by decide +kernel) (by decide +kernel)
set_option maxRecDepth 20000 in
theorem gX8_leaves_X8_of : GoodIn wsX8_leaves (wsV RX8 40 RX8 yX8_of wsX8_of) := goodIn_app (goodIn_of _ (by decide +kernel)) ggX8_leaves_X8_of
set_option maxRecDepth 20000 in
theorem ggX8_pair_X8_isBird : GoodIn wsX8_pair wsX8_isBird := goodIn_r _ [6, 1, 7, 8, 5, 9, 29, 30, 31, 32, 33, 34, 35, 36, 37, 38, 39, 40, 41, 42, 43, 44, 45] (by decide +kernel) (by decide +kernel)
set_option maxRecDepth 20000 in
theorem gX8_pair_X8_isBird : GoodIn wsX8_pair (wsV RX8 102 RX8 yX8_isBird wsX8_isBird) := goodIn_app (goodIn_of _ (by decide +kernel)) ggX8_pair_X8_isBird
set_option maxRecDepth 20000 in
theorem ggX8_pair_X8_refused : GoodIn wsX8_pair wsX8_refused := goodIn_r _ [13, 14, 29, 30, 31, 32, 33, 34, 35, 36, 37, 38, 39, 40, 41, 42, 43, 44, 45] (by decide +kernel) (by decide +kernel)
set_option maxRecDepth 20000 in
theorem gX8_pair_X8_refused : GoodIn wsX8_pair (wsV RX8 96 RX8 yX8_refused wsX8_refused) := goodIn_app (goodIn_of _ (by decide +kernel)) ggX8_pair_X8_refused
set_option maxRecDepth 20000 in
theorem ggX8_pair_X8_records : GoodIn wsX8_pair wsX8_records := goodIn_r _ [18, 19, 20, 1, 29, 30, 31, 32, 33, 34, 35, 36, 37, 38, 39, 40, 41, 42, 43, 44, 45] (by decide +kernel) (by decide +kernel)
set_option maxRecDepth 20000 in
theorem gX8_pair_X8_records : GoodIn wsX8_pair (wsV RX8 99 RX8 yX8_records wsX8_records) := goodIn_app (goodIn_of _ (by decide +kernel)) ggX8_pair_X8_records
set_option maxRecDepth 20000 in
theorem ggX8_pair_X8_leaves : GoodIn wsX8_pair wsX8_leaves := goodIn_r _ [24, 1, 25, 26, 27, 5, 28, 29, 30, 31, 32, 33, 34, 35, 36, 37, 38, 39, 40, 41, 42, 43, 44, 45] (by decide +kernel) (by decide +kernel)
set_option maxRecDepth 20000 in
theorem gX8_pair_X8_leaves : GoodIn wsX8_pair (wsV RX8 111 RX8 yX8_leaves wsX8_leaves) := goodIn_app (goodIn_of _ (by decide +kernel)) ggX8_pair_X8_leaves
set_option maxRecDepth 20000 in
theorem ggX8_pair_X8_of : GoodIn wsX8_pair wsX8_of := goodIn_r _ [28, 1, 29, 30, 31, 32, 33, 34, 35, 36, 37, 38, 39, 40, 41, 42, 43, 44, 45] (by decide +kernel) (by decide +kernel)
set_option maxRecDepth 20000 in
theorem gX8_pair_X8_of : GoodIn wsX8_pair (wsV RX8 40 RX8 yX8_of wsX8_of) := goodIn_app (goodIn_of _ (by decide +kernel)) ggX8_pair_X8_of
set_option maxRecDepth 20000 in
theorem ggX8_setLimit_X8_in : GoodIn wsX8_setLimit wsX8_in := goodIn_r _ [4] (by decide +kernel) (by decide +kernel)
set_option maxRecDepth 20000 in
theorem gX8_setLimit_X8_in : GoodIn wsX8_setLimit (va_wsS RX8 36 yX8_in wsX8_in) := goodIn_app (goodIn_of _ (by decide +kernel)) ggX8_setLimit_X8_in
set_option maxRecDepth 20000 in
theorem ggX8_setLimit_X8_refused : GoodIn wsX8_setLimit wsX8_refused := goodIn_r _ [8, 9, 21, 22, 23, 24, 25, 26, 27, 28, 29, 30, 31, 32, 33, 34, 35, 36, 37] (by decide +kernel) (by decide +kernel)
set_option maxRecDepth 20000 in
theorem gX8_setLimit_X8_refused : GoodIn wsX8_setLimit (wsV RX8 96 RX8 yX8_refused wsX8_refused) := goodIn_app (goodIn_of _ (by decide +kernel)) ggX8_setLimit_X8_refused
set_option maxRecDepth 20000 in
theorem ggX8_setLimit_X8_records : GoodIn wsX8_setLimit wsX8_records := goodIn_r _ [13, 14, 15, 16, 21, 22, 23, 24, 25, 26, 27, 28, 29, 30, 31, 32, 33, 34, 35, 36, 37] (by decide +kernel) (by decide +kernel)
set_option maxRecDepth 20000 in
theorem gX8_setLimit_X8_records : GoodIn wsX8_setLimit (wsV RX8 99 RX8 yX8_records wsX8_records) := goodIn_app (goodIn_of _ (by decide +kernel)) ggX8_setLimit_X8_records
set_option maxRecDepth 20000 in
theorem ggX8_setLimit_X8_sets : GoodIn wsX8_setLimit wsX8_sets := goodIn_r _ [20, 16, 21, 22, 23, 24, 25, 26, 27, 28, 29, 30, 31, 32, 33, 34, 35, 36, 37] (by decide +kernel) (by decide +kernel)
set_option maxRecDepth 20000 in
theorem gX8_setLimit_X8_sets : GoodIn wsX8_setLimit (wsV RX8 115 RX8 yX8_sets wsX8_sets) := goodIn_app (goodIn_of _ (by decide +kernel)) ggX8_setLimit_X8_sets
set_option maxRecDepth 20000 in
theorem ggX8_setLaps_X8_in : GoodIn wsX8_setLaps wsX8_in := goodIn_r _ [5] (by decide +kernel) (by decide +kernel)
set_option maxRecDepth 20000 in
theorem gX8_setLaps_X8_in : GoodIn wsX8_setLaps (va_wsS RX8 36 yX8_in wsX8_in) := goodIn_app (goodIn_of _ (by decide +kernel)) ggX8_setLaps_X8_in
set_option maxRecDepth 20000 in
theorem ggX8_setLaps_X8_refused : GoodIn wsX8_setLaps wsX8_refused := goodIn_r _ [9, 10, 21, 22, 23, 24, 25, 26, 27, 28, 29, 30, 31, 32, 33, 34, 35, 36, 37] (by decide +kernel) (by decide +kernel)
set_option maxRecDepth 20000 in
theorem gX8_setLaps_X8_refused : GoodIn wsX8_setLaps (wsV RX8 96 RX8 yX8_refused wsX8_refused) := goodIn_app (goodIn_of _ (by decide +kernel)) ggX8_setLaps_X8_refused
set_option maxRecDepth 20000 in
theorem ggX8_setLaps_X8_records : GoodIn wsX8_setLaps wsX8_records := goodIn_r _ [14, 15, 16, 1, 21, 22, 23, 24, 25, 26, 27, 28, 29, 30, 31, 32, 33, 34, 35, 36, 37] (by decide +kernel) (by decide +kernel)
set_option maxRecDepth 20000 in
theorem gX8_setLaps_X8_records : GoodIn wsX8_setLaps (wsV RX8 99 RX8 yX8_records wsX8_records) := goodIn_app (goodIn_of _ (by decide +kernel)) ggX8_setLaps_X8_records
set_option maxRecDepth 20000 in
theorem ggX8_setLaps_X8_sets : GoodIn wsX8_setLaps wsX8_sets := goodIn_r _ [20, 1, 21, 22, 23, 24, 25, 26, 27, 28, 29, 30, 31, 32, 33, 34, 35, 36, 37] (by decide +kernel) (by decide +kernel)
set_option maxRecDepth 20000 in
theorem gX8_setLaps_X8_sets : GoodIn wsX8_setLaps (wsV RX8 115 RX8 yX8_sets wsX8_sets) := goodIn_app (goodIn_of _ (by decide +kernel)) ggX8_setLaps_X8_sets
set_option maxRecDepth 20000 in
theorem ggX8_begin_X8_refused : GoodIn wsX8_begin wsX8_refused := goodIn_r _ [6, 7, 14, 15, 16, 17, 18, 19, 20, 21, 22, 23, 24, 25, 26, 27, 28, 29, 30] (by decide +kernel) (by decide +kernel)
set_option maxRecDepth 20000 in
theorem gX8_begin_X8_refused : GoodIn wsX8_begin (wsV RX8 96 RX8 yX8_refused wsX8_refused) := goodIn_app (goodIn_of _ (by decide +kernel)) ggX8_begin_X8_refused
set_option maxRecDepth 20000 in
theorem ggX8_begin_X8_records : GoodIn wsX8_begin wsX8_records := goodIn_r _ [11, 12, 13, 1, 14, 15, 16, 17, 18, 19, 20, 21, 22, 23, 24, 25, 26, 27, 28, 29, 30] (by decide +kernel) (by decide +kernel)
set_option maxRecDepth 20000 in
theorem gX8_begin_X8_records : GoodIn wsX8_begin (wsV RX8 99 RX8 yX8_records wsX8_records) := goodIn_app (goodIn_of _ (by decide +kernel)) ggX8_begin_X8_records
set_option maxRecDepth 20000 in
theorem ggX8_pass_X8_in : GoodIn wsX8_pass wsX8_in := goodIn_r _ [5] (by decide +kernel) (by decide +kernel)
set_option maxRecDepth 20000 in
theorem gX8_pass_X8_in : GoodIn wsX8_pass (va_wsS RX8 36 yX8_in wsX8_in) := goodIn_app (goodIn_of _ (by decide +kernel)) ggX8_pass_X8_in
set_option maxRecDepth 20000 in
theorem ggX8_pass_X8_refused : GoodIn wsX8_pass wsX8_refused := goodIn_r _ [9, 10, 86, 87, 88, 89, 90, 91, 92, 93, 94, 95, 96, 97, 98, 99, 100, 101, 102] (by decide +kernel) (by decide +kernel)
set_option maxRecDepth 20000 in
theorem gX8_pass_X8_refused : GoodIn wsX8_pass (wsV RX8 96 RX8 yX8_refused wsX8_refused) := goodIn_app (goodIn_of _ (by decide +kernel)) ggX8_pass_X8_refused
set_option maxRecDepth 20000 in
theorem ggX8_pass_X8_records : GoodIn wsX8_pass wsX8_records := goodIn_r _ [14, 15, 16, 1, 86, 87, 88, 89, 90, 91, 92, 93, 94, 95, 96, 97, 98, 99, 100, 101, 102] (by decide +kernel) (by decide +kernel)
set_option maxRecDepth 20000 in
theorem gX8_pass_X8_records : GoodIn wsX8_pass (wsV RX8 99 RX8 yX8_records wsX8_records) := goodIn_app (goodIn_of _ (by decide +kernel)) ggX8_pass_X8_records
set_option maxRecDepth 20000 in
theorem ggX8_pass_X8_passes : GoodIn wsX8_pass wsX8_passes := goodIn_r _ [20, 1, 21, 22, 23, 4, 24, 25, 26, 27, 28, 29, 30, 31, 32, 33, 34, 35, 36, 37, 38, 39, 40, 41, 42, 43, 44, 45, 46, 47, 48, 49, 50, 51, 52, 53, 54, 55, 56, 57, 58, 59, 60, 61, 62, 63, 64, 65, 2, 3, 5, 66, 67, 68, 69, 70, 71, 72, 73, 74, 75, 76, 77, 78, 79, 80, 81, 82, 83, 84, 85, 86, 87, 88, 89, 90, 91, 92, 93, 94, 95, 96, 97, 98, 99, 100, 101, 102] (by decide +kernel) (by decide +kernel)
set_option maxRecDepth 20000 in
theorem gX8_pass_X8_passes : GoodIn wsX8_pass (wsV RX8 118 RX8 yX8_passes wsX8_passes) := goodIn_app (goodIn_of _ (by decide +kernel)) ggX8_pass_X8_passes
set_option maxRecDepth 20000 in
theorem ggX8_append_X8_in : GoodIn wsX8_append wsX8_in := goodIn_r _ [6] (by decide +kernel) (by decide +kernel)
set_option maxRecDepth 20000 in
theorem gX8_append_X8_in : GoodIn wsX8_append (va_wsS RX8 36 yX8_in wsX8_in) := goodIn_app (goodIn_of _ (by decide +kernel)) ggX8_append_X8_in
set_option maxRecDepth 20000 in
theorem ggX8_append_X8_refused : GoodIn wsX8_append wsX8_refused := goodIn_r _ [10, 11, 12, 13, 14, 15, 16, 17, 18, 19, 20, 21, 22, 23, 24, 25, 26, 27, 28] (by decide +kernel) (by decide +kernel)
set_option maxRecDepth 20000 in
theorem gX8_append_X8_refused : GoodIn wsX8_append (wsV RX8 96 RX8 yX8_refused wsX8_refused) := goodIn_app (goodIn_of _ (by decide +kernel)) ggX8_append_X8_refused
set_option maxRecDepth 20000 in
theorem ggX8_digit_X8_next : GoodIn wsX8_digit wsX8_next := goodIn_r _ [5, 6, 7, 8, 17, 18, 19, 20, 21, 22, 23, 24, 25, 26, 27, 28, 29, 30, 31, 32, 33] (by decide +kernel) (by decide +kernel)
set_option maxRecDepth 20000 in
theorem gX8_digit_X8_next : GoodIn wsX8_digit (wsV RX8 131 RX8 yX8_next wsX8_next) := goodIn_app (goodIn_of _ (by decide +kernel)) ggX8_digit_X8_next
set_option maxRecDepth 20000 in
theorem ggX8_digit_X8_in : GoodIn wsX8_digit wsX8_in := goodIn_r _ [11] (by decide +kernel) (by decide +kernel)
set_option maxRecDepth 20000 in
theorem gX8_digit_X8_in : GoodIn wsX8_digit (va_wsS RX8 36 yX8_in wsX8_in) := goodIn_app (goodIn_of _ (by decide +kernel)) ggX8_digit_X8_in
set_option maxRecDepth 20000 in
theorem ggX8_digit_X8_sign : GoodIn wsX8_digit wsX8_sign := goodIn_r _ [15, 16, 6, 17, 18, 19, 20, 21, 22, 23, 24, 25, 26, 27, 28, 29, 30, 31, 32, 33] (by decide +kernel) (by decide +kernel)
set_option maxRecDepth 20000 in
theorem gX8_digit_X8_sign : GoodIn wsX8_digit (wsV RX8 134 RX8 yX8_sign wsX8_sign) := goodIn_app (goodIn_of _ (by decide +kernel)) ggX8_digit_X8_sign
set_option maxRecDepth 20000 in
theorem ggX8_number_X8_digit : GoodIn wsX8_number wsX8_digit := goodIn_r _ [7, 8, 9, 10, 6, 11, 2, 12, 13, 14, 15, 16, 17, 18, 19, 20, 1, 21, 22, 23, 24, 25, 26, 27, 28, 29, 30, 31, 32, 33, 34, 35, 36, 37] (by decide +kernel) (by decide +kernel)
set_option maxRecDepth 20000 in
theorem gX8_number_X8_digit : GoodIn wsX8_number (wsV RX8 138 RX8 yX8_digit wsX8_digit) := goodIn_app (goodIn_of _ (by decide +kernel)) ggX8_number_X8_digit
set_option maxRecDepth 20000 in
theorem ggX8_number_X8_next : GoodIn wsX8_number wsX8_next := goodIn_r _ [11, 2, 12, 13, 21, 22, 23, 24, 25, 26, 27, 28, 29, 30, 31, 32, 33, 34, 35, 36, 37] (by decide +kernel) (by decide +kernel)
set_option maxRecDepth 20000 in
theorem gX8_number_X8_next : GoodIn wsX8_number (wsV RX8 131 RX8 yX8_next wsX8_next) := goodIn_app (goodIn_of _ (by decide +kernel)) ggX8_number_X8_next
set_option maxRecDepth 20000 in
theorem ggX8_number_X8_in : GoodIn wsX8_number wsX8_in := goodIn_r _ [16] (by decide +kernel) (by decide +kernel)
set_option maxRecDepth 20000 in
theorem gX8_number_X8_in : GoodIn wsX8_number (va_wsS RX8 36 yX8_in wsX8_in) := goodIn_app (goodIn_of _ (by decide +kernel)) ggX8_number_X8_in
set_option maxRecDepth 20000 in
theorem ggX8_part_X8_next : GoodIn wsX8_part wsX8_next := goodIn_r _ [9, 10, 11, 12, 28, 29, 30, 31, 32, 33, 34, 35, 36, 37, 38, 39, 40, 41, 42, 43, 44] (by decide +kernel) (by decide +kernel)
set_option maxRecDepth 20000 in
theorem gX8_part_X8_next : GoodIn wsX8_part (wsV RX8 131 RX8 yX8_next wsX8_next) := goodIn_app (goodIn_of _ (by decide +kernel)) ggX8_part_X8_next
set_option maxRecDepth 20000 in
theorem ggX8_part_X8_sign : GoodIn wsX8_part wsX8_sign := goodIn_r _ [16, 4, 10, 28, 29, 30, 31, 32, 33, 34, 35, 36, 37, 38, 39, 40, 41, 42, 43, 44] (by decide +kernel) (by decide +kernel)
set_option maxRecDepth 20000 in
theorem gX8_part_X8_sign : GoodIn wsX8_part (wsV RX8 134 RX8 yX8_sign wsX8_sign) := goodIn_app (goodIn_of _ (by decide +kernel)) ggX8_part_X8_sign
set_option maxRecDepth 20000 in
theorem ggX8_part_X8_number : GoodIn wsX8_part wsX8_number := goodIn_r _ [20, 4, 10, 21, 22, 23, 8, 24, 5, 6, 7, 9, 11, 12, 25, 26, 27, 13, 14, 15, 16, 28, 29, 30, 31, 32, 33, 34, 35, 36, 37, 38, 39, 40, 41, 42, 43, 44] (by decide +kernel) (by decide +kernel)
set_option maxRecDepth 20000 in
theorem gX8_part_X8_number : GoodIn wsX8_part (wsV RX8 144 RX8 yX8_number wsX8_number) := goodIn_app (goodIn_of _ (by decide +kernel)) ggX8_part_X8_number
set_option maxRecDepth 20000 in
theorem ggX8_part_X8_digit : GoodIn wsX8_part wsX8_digit := goodIn_r _ [24, 5, 6, 7, 8, 9, 10, 11, 12, 25, 26, 27, 13, 14, 15, 16, 4, 28, 29, 30, 31, 32, 33, 34, 35, 36, 37, 38, 39, 40, 41, 42, 43, 44] (by decide +kernel) (by decide +kernel)
set_option maxRecDepth 20000 in
theorem gX8_part_X8_digit : GoodIn wsX8_part (wsV RX8 138 RX8 yX8_digit wsX8_digit) := goodIn_app (goodIn_of _ (by decide +kernel)) ggX8_part_X8_digit
set_option maxRecDepth 20000 in
theorem ggX8_isText_X8_part : GoodIn wsX8_isText wsX8_part := goodIn_r _ [8, 9, 10, 11, 2, 12, 13, 14, 7, 15, 1, 3, 16, 17, 18, 19, 20, 21, 22, 23, 24, 25, 26, 27, 28, 29, 30, 31, 32, 33, 34, 35, 36, 37, 38, 39, 40, 41, 42, 43, 44, 45, 46, 47, 48] (by decide +kernel) (by decide +kernel)
set_option maxRecDepth 20000 in
theorem gX8_isText_X8_part : GoodIn wsX8_isText (wsV RX8 153 RX8 yX8_part wsX8_part) := goodIn_app (goodIn_of _ (by decide +kernel)) ggX8_isText_X8_part
set_option maxRecDepth 20000 in
theorem ggX8_isText_X8_next : GoodIn wsX8_isText wsX8_next := goodIn_r _ [15, 1, 3, 16, 32, 33, 34, 35, 36, 37, 38, 39, 40, 41, 42, 43, 44, 45, 46, 47, 48] (by decide +kernel) (by decide +kernel)
set_option maxRecDepth 20000 in
theorem gX8_isText_X8_next : GoodIn wsX8_isText (wsV RX8 131 RX8 yX8_next wsX8_next) := goodIn_app (goodIn_of _ (by decide +kernel)) ggX8_isText_X8_next
set_option maxRecDepth 20000 in
theorem ggX8_isText_X8_sign : GoodIn wsX8_isText wsX8_sign := goodIn_r _ [20, 2, 1, 32, 33, 34, 35, 36, 37, 38, 39, 40, 41, 42, 43, 44, 45, 46, 47, 48] (by decide +kernel) (by decide +kernel)
set_option maxRecDepth 20000 in
theorem gX8_isText_X8_sign : GoodIn wsX8_isText (wsV RX8 134 RX8 yX8_sign wsX8_sign) := goodIn_app (goodIn_of _ (by decide +kernel)) ggX8_isText_X8_sign
set_option maxRecDepth 20000 in
theorem ggX8_firstError_X8_isText : GoodIn wsX8_firstError wsX8_isText := goodIn_r _ [8, 3, 9, 2, 10, 11, 12, 7, 13, 14, 15, 16, 17, 18, 19, 20, 21, 22, 23, 24, 25, 26, 27, 28, 29, 30, 31, 32, 33, 34, 35, 36, 37, 38, 39, 40, 41, 42, 43, 44, 45, 46, 47, 48, 49, 50, 51, 52, 53] (by decide +kernel) (by decide +kernel)
set_option maxRecDepth 20000 in
theorem gX8_firstError_X8_isText : GoodIn wsX8_firstError (wsV RX8 156 RX8 yX8_isText wsX8_isText) := goodIn_app (goodIn_of _ (by decide +kernel)) ggX8_firstError_X8_isText
set_option maxRecDepth 20000 in
theorem ggX8_can_X8_isBird : GoodIn wsX8_can wsX8_isBird := goodIn_r _ [8, 2, 9, 10, 7, 11, 20, 21, 22, 23, 24, 25, 26, 27, 28, 29, 30, 31, 32, 33, 34, 35, 36] (by decide +kernel) (by decide +kernel)
set_option maxRecDepth 20000 in
theorem gX8_can_X8_isBird : GoodIn wsX8_can (wsV RX8 102 RX8 yX8_isBird wsX8_isBird) := goodIn_app (goodIn_of _ (by decide +kernel)) ggX8_can_X8_isBird
set_option maxRecDepth 20000 in
theorem ggX8_can_X8_isOver : GoodIn wsX8_can wsX8_isOver := goodIn_r _ [15, 16, 17, 18, 7, 19, 2, 20, 21, 22, 23, 24, 25, 26, 27, 28, 29, 30, 31, 32, 33, 34, 35, 36] (by decide +kernel) (by decide +kernel)
set_option maxRecDepth 20000 in
theorem gX8_can_X8_isOver : GoodIn wsX8_can (wsV RX8 47 RX8 yX8_isOver wsX8_isOver) := goodIn_app (goodIn_of _ (by decide +kernel)) ggX8_can_X8_isOver
set_option maxRecDepth 20000 in
theorem ggX8_followsAll_X8_part : GoodIn wsX8_followsAll wsX8_part := goodIn_r _ [11, 4, 6, 5, 2, 12, 13, 14, 10, 15, 1, 3, 16, 17, 18, 19, 20, 21, 22, 23, 24, 25, 26, 27, 28, 29, 30, 31, 122, 123, 124, 125, 126, 127, 128, 129, 130, 131, 132, 133, 134, 135, 136, 137, 138] (by decide +kernel) (by decide +kernel)
set_option maxRecDepth 20000 in
theorem gX8_followsAll_X8_part : GoodIn wsX8_followsAll (wsV RX8 153 RX8 yX8_part wsX8_part) := goodIn_app (goodIn_of _ (by decide +kernel)) ggX8_followsAll_X8_part
set_option maxRecDepth 20000 in
theorem ggX8_followsAll_X8_can : GoodIn wsX8_followsAll wsX8_can := goodIn_r _ [35, 4, 36, 5, 37, 38, 39, 10, 40, 29, 30, 31, 41, 42, 43, 44, 45, 46, 47, 48, 122, 123, 124, 125, 126, 127, 128, 129, 130, 131, 132, 133, 134, 135, 136, 137, 138] (by decide +kernel) (by decide +kernel)
set_option maxRecDepth 20000 in
theorem gX8_followsAll_X8_can : GoodIn wsX8_followsAll (wsV RX8 160 RX8 yX8_can wsX8_can) := goodIn_app (goodIn_of _ (by decide +kernel)) ggX8_followsAll_X8_can
set_option maxRecDepth 20000 in
theorem ggX8_followsAll_X8_setsPace : GoodIn wsX8_followsAll wsX8_setsPace := goodIn_r _ [52, 36, 45, 46, 47, 10, 48, 122, 123, 124, 125, 126, 127, 128, 129, 130, 131, 132, 133, 134, 135, 136, 137, 138] (by decide +kernel) (by decide +kernel)
set_option maxRecDepth 20000 in
theorem gX8_followsAll_X8_setsPace : GoodIn wsX8_followsAll (wsV RX8 105 RX8 yX8_setsPace wsX8_setsPace) := goodIn_app (goodIn_of _ (by decide +kernel)) ggX8_followsAll_X8_setsPace
set_option maxRecDepth 20000 in
theorem ggX8_followsAll_X8_calls : GoodIn wsX8_followsAll wsX8_calls := goodIn_r _ [56, 36, 45, 46, 47, 10, 48, 122, 123, 124, 125, 126, 127, 128, 129, 130, 131, 132, 133, 134, 135, 136, 137, 138] (by decide +kernel) (by decide +kernel)
set_option maxRecDepth 20000 in
theorem gX8_followsAll_X8_calls : GoodIn wsX8_followsAll (wsV RX8 108 RX8 yX8_calls wsX8_calls) := goodIn_app (goodIn_of _ (by decide +kernel)) ggX8_followsAll_X8_calls
set_option maxRecDepth 20000 in
theorem ggX8_followsAll_X8_sets : GoodIn wsX8_followsAll wsX8_sets := goodIn_r _ [60, 36, 122, 123, 124, 125, 126, 127, 128, 129, 130, 131, 132, 133, 134, 135, 136, 137, 138] (by decide +kernel) (by decide +kernel)
set_option maxRecDepth 20000 in
theorem gX8_followsAll_X8_sets : GoodIn wsX8_followsAll (wsV RX8 115 RX8 yX8_sets wsX8_sets) := goodIn_app (goodIn_of _ (by decide +kernel)) ggX8_followsAll_X8_sets
set_option maxRecDepth 20000 in
theorem ggX8_followsAll_X8_passes : GoodIn wsX8_followsAll wsX8_passes := goodIn_r _ [64, 36, 65, 66, 67, 10, 68, 69, 70, 71, 72, 73, 74, 75, 76, 77, 41, 42, 43, 44, 45, 46, 47, 48, 78, 79, 80, 81, 82, 83, 84, 85, 86, 87, 88, 89, 90, 91, 92, 93, 94, 95, 96, 97, 98, 99, 100, 101, 29, 30, 31, 102, 103, 104, 105, 106, 107, 108, 109, 110, 111, 112, 113, 114, 115, 116, 117, 118, 119, 120, 121, 122, 123, 124, 125, 126, 127, 128, 129, 130, 131, 132, 133, 134, 135, 136, 137, 138] (by decide +kernel) (by decide +kernel)
set_option maxRecDepth 20000 in
theorem gX8_followsAll_X8_passes : GoodIn wsX8_followsAll (wsV RX8 118 RX8 yX8_passes wsX8_passes) := goodIn_app (goodIn_of _ (by decide +kernel)) ggX8_followsAll_X8_passes
set_option maxRecDepth 20000 in
theorem ggX8_follow_X8_isText : GoodIn wsX8_follow wsX8_isText := goodIn_r _ [6, 7, 8, 1, 9, 10, 11, 5, 12, 13, 14, 15, 16, 17, 18, 19, 20, 21, 22, 23, 24, 25, 26, 27, 28, 29, 30, 31, 32, 33, 34, 35, 150, 151, 152, 153, 154, 155, 156, 157, 158, 159, 160, 161, 162, 163, 164, 165, 166] (by decide +kernel) (by decide +kernel)
set_option maxRecDepth 20000 in
theorem gX8_follow_X8_isText : GoodIn wsX8_follow (wsV RX8 156 RX8 yX8_isText wsX8_isText) := goodIn_app (goodIn_of _ (by decide +kernel)) ggX8_follow_X8_isText
set_option maxRecDepth 20000 in
theorem ggX8_follow_X8_refused : GoodIn wsX8_follow wsX8_refused := goodIn_r _ [39, 40, 150, 151, 152, 153, 154, 155, 156, 157, 158, 159, 160, 161, 162, 163, 164, 165, 166] (by decide +kernel) (by decide +kernel)
set_option maxRecDepth 20000 in
theorem gX8_follow_X8_refused : GoodIn wsX8_follow (wsV RX8 96 RX8 yX8_refused wsX8_refused) := goodIn_app (goodIn_of _ (by decide +kernel)) ggX8_follow_X8_refused
set_option maxRecDepth 20000 in
theorem ggX8_follow_X8_putAside : GoodIn wsX8_follow wsX8_putAside := goodIn_r _ [44, 45, 46, 150, 151, 152, 153, 154, 155, 156, 157, 158, 159, 160, 161, 162, 163, 164, 165, 166] (by decide +kernel) (by decide +kernel)
set_option maxRecDepth 20000 in
theorem gX8_follow_X8_putAside : GoodIn wsX8_follow (wsV RX8 163 RX8 yX8_putAside wsX8_putAside) := goodIn_app (goodIn_of _ (by decide +kernel)) ggX8_follow_X8_putAside
set_option maxRecDepth 20000 in
theorem ggX8_follow_X8_followsAll : GoodIn wsX8_follow wsX8_followsAll := goodIn_r _ [50, 7, 8, 1, 13, 15, 14, 9, 10, 11, 5, 12, 16, 17, 18, 19, 20, 21, 22, 23, 24, 25, 26, 27, 28, 29, 30, 31, 32, 33, 34, 35, 51, 52, 53, 54, 46, 55, 56, 57, 58, 59, 60, 61, 62, 63, 64, 65, 66, 67, 68, 69, 70, 71, 72, 73, 74, 75, 76, 77, 78, 79, 80, 81, 82, 83, 84, 85, 86, 87, 88, 89, 90, 91, 92, 93, 94, 95, 96, 97, 98, 99, 100, 101, 102, 103, 104, 105, 106, 107, 108, 109, 110, 111, 112, 113, 114, 115, 116, 117, 118, 119, 120, 121, 122, 123, 124, 125, 126, 127, 128, 129, 130, 131, 132, 133, 134, 135, 136, 137, 138, 139, 150, 151, 152, 153, 154, 155, 156, 157, 158, 159, 160, 161, 162, 163, 164, 165, 166] (by decide +kernel) (by decide +kernel)
set_option maxRecDepth 20000 in
theorem gX8_follow_X8_followsAll : GoodIn wsX8_follow (wsV RX8 166 RX8 yX8_followsAll wsX8_followsAll) := goodIn_app (goodIn_of _ (by decide +kernel)) ggX8_follow_X8_followsAll
set_option maxRecDepth 20000 in
theorem ggX8_follow_X8_putBack : GoodIn wsX8_follow wsX8_putBack := goodIn_r _ [143, 46, 45, 150, 151, 152, 153, 154, 155, 156, 157, 158, 159, 160, 161, 162, 163, 164, 165, 166] (by decide +kernel) (by decide +kernel)
set_option maxRecDepth 20000 in
theorem gX8_follow_X8_putBack : GoodIn wsX8_follow (wsV RX8 169 RX8 yX8_putBack wsX8_putBack) := goodIn_app (goodIn_of _ (by decide +kernel)) ggX8_follow_X8_putBack
set_option maxRecDepth 20000 in
theorem ggX8_follow_X8_records : GoodIn wsX8_follow wsX8_records := goodIn_r _ [147, 148, 149, 46, 150, 151, 152, 153, 154, 155, 156, 157, 158, 159, 160, 161, 162, 163, 164, 165, 166] (by decide +kernel) (by decide +kernel)
set_option maxRecDepth 20000 in
theorem gX8_follow_X8_records : GoodIn wsX8_follow (wsV RX8 99 RX8 yX8_records wsX8_records) := goodIn_app (goodIn_of _ (by decide +kernel)) ggX8_follow_X8_records
set_option maxRecDepth 20000 in
theorem ggX8_keep_X8_in : GoodIn wsX8_keep wsX8_in := goodIn_r _ [7] (by decide +kernel) (by decide +kernel)
set_option maxRecDepth 20000 in
theorem gX8_keep_X8_in : GoodIn wsX8_keep (va_wsS RX8 36 yX8_in wsX8_in) := goodIn_app (goodIn_of _ (by decide +kernel)) ggX8_keep_X8_in
set_option maxRecDepth 20000 in
theorem ggX8_keep_X8_refused : GoodIn wsX8_keep wsX8_refused := goodIn_r _ [11, 12, 13, 14, 15, 16, 17, 18, 19, 20, 21, 22, 23, 24, 25, 26, 27, 28, 29] (by decide +kernel) (by decide +kernel)
set_option maxRecDepth 20000 in
theorem gX8_keep_X8_refused : GoodIn wsX8_keep (wsV RX8 96 RX8 yX8_refused wsX8_refused) := goodIn_app (goodIn_of _ (by decide +kernel)) ggX8_keep_X8_refused
set_option maxRecDepth 20000 in
theorem ggX8_goBack_X8_in : GoodIn wsX8_goBack wsX8_in := goodIn_r _ [7] (by decide +kernel) (by decide +kernel)
set_option maxRecDepth 20000 in
theorem gX8_goBack_X8_in : GoodIn wsX8_goBack (va_wsS RX8 36 yX8_in wsX8_in) := goodIn_app (goodIn_of _ (by decide +kernel)) ggX8_goBack_X8_in
set_option maxRecDepth 20000 in
theorem ggX8_goBack_X8_refused : GoodIn wsX8_goBack wsX8_refused := goodIn_r _ [11, 12, 19, 20, 21, 22, 23, 24, 25, 26, 27, 28, 29, 30, 31, 32, 33, 34, 35] (by decide +kernel) (by decide +kernel)
set_option maxRecDepth 20000 in
theorem gX8_goBack_X8_refused : GoodIn wsX8_goBack (wsV RX8 96 RX8 yX8_refused wsX8_refused) := goodIn_app (goodIn_of _ (by decide +kernel)) ggX8_goBack_X8_refused
set_option maxRecDepth 20000 in
theorem ggX8_goBack_X8_records : GoodIn wsX8_goBack wsX8_records := goodIn_r _ [16, 17, 18, 2, 19, 20, 21, 22, 23, 24, 25, 26, 27, 28, 29, 30, 31, 32, 33, 34, 35] (by decide +kernel) (by decide +kernel)
set_option maxRecDepth 20000 in
theorem gX8_goBack_X8_records : GoodIn wsX8_goBack (wsV RX8 99 RX8 yX8_records wsX8_records) := goodIn_app (goodIn_of _ (by decide +kernel)) ggX8_goBack_X8_records
set_option maxRecDepth 20000 in
theorem ggX8_undo_X8_refused : GoodIn wsX8_undo wsX8_refused := goodIn_r _ [8, 9, 10, 11, 12, 13, 14, 15, 16, 17, 18, 19, 20, 21, 22, 23, 24, 25, 26] (by decide +kernel) (by decide +kernel)
set_option maxRecDepth 20000 in
theorem gX8_undo_X8_refused : GoodIn wsX8_undo (wsV RX8 96 RX8 yX8_refused wsX8_refused) := goodIn_app (goodIn_of _ (by decide +kernel)) ggX8_undo_X8_refused
set_option maxRecDepth 20000 in
theorem ggX8_savedStates_X8_told : GoodIn wsX8_savedStates wsX8_told := goodIn_r _ [6, 7, 8, 9, 10, 11, 12, 13, 14, 15, 16, 17, 18, 19, 20, 21, 22, 23, 24] (by decide +kernel) (by decide +kernel)
set_option maxRecDepth 20000 in
theorem gX8_savedStates_X8_told : GoodIn wsX8_savedStates (wsV RX8 172 RX8 yX8_told wsX8_told) := goodIn_app (goodIn_of _ (by decide +kernel)) ggX8_savedStates_X8_told
set_option maxRecDepth 20000 in
theorem ggX8_sparrows_X8_told : GoodIn wsX8_sparrows wsX8_told := goodIn_r _ [6, 7, 8, 9, 10, 11, 12, 13, 14, 15, 16, 17, 18, 19, 20, 21, 22, 23, 24] (by decide +kernel) (by decide +kernel)
set_option maxRecDepth 20000 in
theorem gX8_sparrows_X8_told : GoodIn wsX8_sparrows (wsV RX8 172 RX8 yX8_told wsX8_told) := goodIn_app (goodIn_of _ (by decide +kernel)) ggX8_sparrows_X8_told
set_option maxRecDepth 20000 in
theorem ggX8_ofBird_X8_isBird : GoodIn wsX8_ofBird wsX8_isBird := goodIn_r _ [5, 6, 7, 8, 4, 9, 19, 20, 21, 22, 23, 24, 25, 26, 27, 28, 29, 30, 31, 32, 33, 34, 35] (by decide +kernel) (by decide +kernel)
set_option maxRecDepth 20000 in
theorem gX8_ofBird_X8_isBird : GoodIn wsX8_ofBird (wsV RX8 102 RX8 yX8_isBird wsX8_isBird) := goodIn_app (goodIn_of _ (by decide +kernel)) ggX8_ofBird_X8_isBird
set_option maxRecDepth 20000 in
theorem ggX8_ofBird_X8_refused : GoodIn wsX8_ofBird wsX8_refused := goodIn_r _ [13, 14, 19, 20, 21, 22, 23, 24, 25, 26, 27, 28, 29, 30, 31, 32, 33, 34, 35] (by decide +kernel) (by decide +kernel)
set_option maxRecDepth 20000 in
theorem gX8_ofBird_X8_refused : GoodIn wsX8_ofBird (wsV RX8 96 RX8 yX8_refused wsX8_refused) := goodIn_app (goodIn_of _ (by decide +kernel)) ggX8_ofBird_X8_refused
set_option maxRecDepth 20000 in
theorem ggX8_ofBird_X8_of : GoodIn wsX8_ofBird wsX8_of := goodIn_r _ [18, 6, 19, 20, 21, 22, 23, 24, 25, 26, 27, 28, 29, 30, 31, 32, 33, 34, 35] (by decide +kernel) (by decide +kernel)
set_option maxRecDepth 20000 in
theorem gX8_ofBird_X8_of : GoodIn wsX8_ofBird (wsV RX8 40 RX8 yX8_of wsX8_of) := goodIn_app (goodIn_of _ (by decide +kernel)) ggX8_ofBird_X8_of
set_option maxRecDepth 20000 in
theorem ggX8_flown_X8_ofBird : GoodIn wsX8_flown wsX8_ofBird := goodIn_r _ [5, 6, 7, 8, 4, 9, 10, 11, 12, 13, 14, 15, 16, 17, 18, 19, 20, 21, 22, 23, 24, 25, 26, 27, 28, 29, 30, 31, 32, 33, 34, 35, 36, 37, 38, 39] (by decide +kernel) (by decide +kernel)
set_option maxRecDepth 20000 in
theorem gX8_flown_X8_ofBird : GoodIn wsX8_flown (wsV RX8 175 RX8 yX8_ofBird wsX8_ofBird) := goodIn_app (goodIn_of _ (by decide +kernel)) ggX8_flown_X8_ofBird
set_option maxRecDepth 20000 in
theorem ggX8_lapsOf_X8_ofBird : GoodIn wsX8_lapsOf wsX8_ofBird := goodIn_r _ [5, 6, 7, 8, 4, 9, 10, 11, 12, 13, 14, 15, 16, 17, 18, 19, 20, 21, 22, 23, 24, 25, 26, 27, 28, 29, 30, 31, 32, 33, 34, 35, 36, 37, 38, 39] (by decide +kernel) (by decide +kernel)
set_option maxRecDepth 20000 in
theorem gX8_lapsOf_X8_ofBird : GoodIn wsX8_lapsOf (wsV RX8 175 RX8 yX8_ofBird wsX8_ofBird) := goodIn_app (goodIn_of _ (by decide +kernel)) ggX8_lapsOf_X8_ofBird
set_option maxRecDepth 20000 in
theorem ggX8_speedOf_X8_ofBird : GoodIn wsX8_speedOf wsX8_ofBird := goodIn_r _ [5, 6, 7, 8, 4, 9, 10, 11, 12, 13, 14, 15, 16, 17, 18, 19, 20, 21, 22, 23, 24, 25, 26, 27, 28, 29, 30, 31, 32, 33, 34, 35, 36, 37, 38, 39] (by decide +kernel) (by decide +kernel)
set_option maxRecDepth 20000 in
theorem gX8_speedOf_X8_ofBird : GoodIn wsX8_speedOf (wsV RX8 175 RX8 yX8_ofBird wsX8_ofBird) := goodIn_app (goodIn_of _ (by decide +kernel)) ggX8_speedOf_X8_ofBird
set_option maxRecDepth 20000 in
theorem ggX8_strengthOf_X8_ofBird : GoodIn wsX8_strengthOf wsX8_ofBird := goodIn_r _ [5, 6, 7, 8, 4, 9, 10, 11, 12, 13, 14, 15, 16, 17, 18, 19, 20, 21, 22, 23, 24, 25, 26, 27, 28, 29, 30, 31, 32, 33, 34, 35, 36, 37, 38, 39] (by decide +kernel) (by decide +kernel)
set_option maxRecDepth 20000 in
theorem gX8_strengthOf_X8_ofBird : GoodIn wsX8_strengthOf (wsV RX8 175 RX8 yX8_ofBird wsX8_ofBird) := goodIn_app (goodIn_of _ (by decide +kernel)) ggX8_strengthOf_X8_ofBird
set_option maxRecDepth 20000 in
theorem ggX8_wearOf_X8_ofBird : GoodIn wsX8_wearOf wsX8_ofBird := goodIn_r _ [5, 6, 7, 8, 4, 9, 10, 11, 12, 13, 14, 15, 16, 17, 18, 19, 20, 21, 22, 23, 24, 25, 26, 27, 28, 29, 30, 31, 32, 33, 34, 35, 36, 37, 38, 39] (by decide +kernel) (by decide +kernel)
set_option maxRecDepth 20000 in
theorem gX8_wearOf_X8_ofBird : GoodIn wsX8_wearOf (wsV RX8 175 RX8 yX8_ofBird wsX8_ofBird) := goodIn_app (goodIn_of _ (by decide +kernel)) ggX8_wearOf_X8_ofBird
set_option maxRecDepth 20000 in
theorem ggX8_laneOf_X8_ofBird : GoodIn wsX8_laneOf wsX8_ofBird := goodIn_r _ [5, 6, 7, 8, 4, 9, 10, 11, 12, 13, 14, 15, 16, 17, 18, 19, 20, 21, 22, 23, 24, 25, 26, 27, 28, 29, 30, 31, 32, 33, 34, 35, 36, 37, 38, 39] (by decide +kernel) (by decide +kernel)
set_option maxRecDepth 20000 in
theorem gX8_laneOf_X8_ofBird : GoodIn wsX8_laneOf (wsV RX8 175 RX8 yX8_ofBird wsX8_ofBird) := goodIn_app (goodIn_of _ (by decide +kernel)) ggX8_laneOf_X8_ofBird
set_option maxRecDepth 20000 in
theorem ggX8_stateOf_X8_ofBird : GoodIn wsX8_stateOf wsX8_ofBird := goodIn_r _ [5, 6, 7, 8, 4, 9, 10, 11, 12, 13, 14, 15, 16, 17, 18, 19, 20, 21, 22, 23, 24, 25, 26, 27, 28, 29, 30, 31, 32, 33, 34, 35, 36, 37, 38, 39] (by decide +kernel) (by decide +kernel)
set_option maxRecDepth 20000 in
theorem gX8_stateOf_X8_ofBird : GoodIn wsX8_stateOf (wsV RX8 175 RX8 yX8_ofBird wsX8_ofBird) := goodIn_app (goodIn_of _ (by decide +kernel)) ggX8_stateOf_X8_ofBird
set_option maxRecDepth 20000 in
theorem ggX8_paceOf_X8_ofBird : GoodIn wsX8_paceOf wsX8_ofBird := goodIn_r _ [5, 6, 7, 8, 4, 9, 10, 11, 12, 13, 14, 15, 16, 17, 18, 19, 20, 21, 22, 23, 24, 25, 26, 27, 28, 29, 30, 31, 32, 33, 34, 35, 36, 37, 38, 39] (by decide +kernel) (by decide +kernel)
set_option maxRecDepth 20000 in
theorem gX8_paceOf_X8_ofBird : GoodIn wsX8_paceOf (wsV RX8 175 RX8 yX8_ofBird wsX8_ofBird) := goodIn_app (goodIn_of _ (by decide +kernel)) ggX8_paceOf_X8_ofBird
set_option maxRecDepth 20000 in
theorem ggX8_partnerOf_X8_isBird : GoodIn wsX8_partnerOf wsX8_isBird := goodIn_r _ [5, 6, 7, 8, 4, 9, 19, 20, 21, 22, 23, 24, 25, 26, 27, 28, 29, 30, 31, 32, 33, 34, 35] (by decide +kernel) (by decide +kernel)
set_option maxRecDepth 20000 in
theorem gX8_partnerOf_X8_isBird : GoodIn wsX8_partnerOf (wsV RX8 102 RX8 yX8_isBird wsX8_isBird) := goodIn_app (goodIn_of _ (by decide +kernel)) ggX8_partnerOf_X8_isBird
set_option maxRecDepth 20000 in
theorem ggX8_partnerOf_X8_of : GoodIn wsX8_partnerOf wsX8_of := goodIn_r _ [13, 6, 19, 20, 21, 22, 23, 24, 25, 26, 27, 28, 29, 30, 31, 32, 33, 34, 35] (by decide +kernel) (by decide +kernel)
set_option maxRecDepth 20000 in
theorem gX8_partnerOf_X8_of : GoodIn wsX8_partnerOf (wsV RX8 40 RX8 yX8_of wsX8_of) := goodIn_app (goodIn_of _ (by decide +kernel)) ggX8_partnerOf_X8_of
set_option maxRecDepth 20000 in
theorem ggX8_partnerOf_X8_refused : GoodIn wsX8_partnerOf wsX8_refused := goodIn_r _ [17, 18, 19, 20, 21, 22, 23, 24, 25, 26, 27, 28, 29, 30, 31, 32, 33, 34, 35] (by decide +kernel) (by decide +kernel)
set_option maxRecDepth 20000 in
theorem gX8_partnerOf_X8_refused : GoodIn wsX8_partnerOf (wsV RX8 96 RX8 yX8_refused wsX8_refused) := goodIn_app (goodIn_of _ (by decide +kernel)) ggX8_partnerOf_X8_refused
set_option maxRecDepth 20000 in
theorem ggX8_isCalledIn_X8_ofBird : GoodIn wsX8_isCalledIn wsX8_ofBird := goodIn_r _ [5, 6, 7, 8, 4, 9, 10, 11, 12, 13, 14, 15, 16, 17, 18, 19, 20, 21, 22, 23, 24, 25, 26, 27, 28, 29, 30, 31, 32, 33, 34, 35, 36, 37, 38, 39] (by decide +kernel) (by decide +kernel)
