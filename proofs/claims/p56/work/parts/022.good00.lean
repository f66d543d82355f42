theorem inJ0 : ∀ w ∈ wsJ00, w ∈ lw_tbl := by decide +kernel
set_option maxRecDepth 20000 in
theorem ggX1_accepts_X1_isWhole : GoodIn wsX1_accepts wsX1_isWhole := goodIn_r _ [6, 1, 7, 8, 9, 10, 5, 11, 12, 13, 14, 15, 16, 38, 39, 40, 41] rfl (by decide +kernel)
set_option maxRecDepth 20000 in
theorem gX1_accepts_X1_isWhole : GoodIn wsX1_accepts (wsV RX1 25 RX1 yX1_isWhole wsX1_isWhole) := goodIn_app (goodIn_r _ [2, 3, 4, 5] rfl (by decide +kernel)) ggX1_accepts_X1_isWhole
set_option maxRecDepth 20000 in
theorem ggX1_accepts_X1_start : GoodIn wsX1_accepts wsX1_start := goodIn_r _ [20, 1, 12, 21, 7, 38, 39, 40, 41] rfl (by decide +kernel)
set_option maxRecDepth 20000 in
theorem gX1_accepts_X1_start : GoodIn wsX1_accepts (wsV RX1 29 RX1 yX1_start wsX1_start) := goodIn_app (goodIn_r _ [17, 18, 19, 5] rfl (by decide +kernel)) ggX1_accepts_X1_start
set_option maxRecDepth 20000 in
theorem ggX1_accepts_X1_acceptsKind : GoodIn wsX1_accepts wsX1_acceptsKind := goodIn_r _ [25, 12, 1, 38, 39, 40, 41] rfl (by decide +kernel)
set_option maxRecDepth 20000 in
theorem gX1_accepts_X1_acceptsKind : GoodIn wsX1_accepts (wsV RX1 32 RX1 yX1_acceptsKind wsX1_acceptsKind) := goodIn_app (goodIn_r _ [22, 23, 24, 5] rfl (by decide +kernel)) ggX1_accepts_X1_acceptsKind
set_option maxRecDepth 20000 in
theorem ggX1_accepts_X1_acceptsTarget : GoodIn wsX1_accepts wsX1_acceptsTarget := goodIn_r _ [29, 21, 12, 1, 38, 39, 40, 41] rfl (by decide +kernel)
set_option maxRecDepth 20000 in
theorem gX1_accepts_X1_acceptsTarget : GoodIn wsX1_accepts (wsV RX1 36 RX1 yX1_acceptsTarget wsX1_acceptsTarget) := goodIn_app (goodIn_r _ [26, 27, 28, 5] rfl (by decide +kernel)) ggX1_accepts_X1_acceptsTarget
set_option maxRecDepth 20000 in
theorem ggX1_accepts_X1_acceptsDigit : GoodIn wsX1_accepts wsX1_acceptsDigit := goodIn_r _ [33, 7, 34, 35, 36, 5, 37, 13, 14, 15, 16, 12, 8, 9, 10, 11, 38, 39, 40, 41] rfl (by decide +kernel)
set_option maxRecDepth 20000 in
theorem gX1_accepts_X1_acceptsDigit : GoodIn wsX1_accepts (wsV RX1 39 RX1 yX1_acceptsDigit wsX1_acceptsDigit) := goodIn_app (goodIn_r _ [30, 31, 32, 5] rfl (by decide +kernel)) ggX1_accepts_X1_acceptsDigit
set_option maxRecDepth 20000 in
theorem ggX1_isWhole_X1_least : GoodIn wsX1_isWhole wsX1_least := goodIn_r _ [7, 8, 13, 14, 15, 16] rfl (by decide +kernel)
set_option maxRecDepth 20000 in
theorem gX1_isWhole_X1_least : GoodIn wsX1_isWhole (wsV RX1 42 RX1 yX1_least wsX1_least) := goodIn_app (goodIn_r _ [3, 4, 5, 6] rfl (by decide +kernel)) ggX1_isWhole_X1_least
set_option maxRecDepth 20000 in
theorem ggX1_isWhole_X1_most : GoodIn wsX1_isWhole wsX1_most := goodIn_r _ [12, 8, 13, 14, 15, 16] rfl (by decide +kernel)
set_option maxRecDepth 20000 in
theorem gX1_isWhole_X1_most : GoodIn wsX1_isWhole (wsV RX1 46 RX1 yX1_most wsX1_most) := goodIn_app (goodIn_r _ [9, 10, 11, 6] rfl (by decide +kernel)) ggX1_isWhole_X1_most
set_option maxRecDepth 20000 in
theorem ggX1_acceptsDigit_X1_canBecomeNumber : GoodIn wsX1_acceptsDigit wsX1_canBecomeNumber := goodIn_r _ [6, 1, 7, 8, 9, 5, 10, 11, 12, 13, 14, 15, 16, 17, 18, 19] rfl (by decide +kernel)
set_option maxRecDepth 20000 in
theorem gX1_acceptsDigit_X1_canBecomeNumber : GoodIn wsX1_acceptsDigit (wsV RX1 49 RX1 yX1_canBecomeNumber wsX1_canBecomeNumber) := goodIn_app (goodIn_r _ [2, 3, 4, 5] rfl (by decide +kernel)) ggX1_acceptsDigit_X1_canBecomeNumber
set_option maxRecDepth 20000 in
theorem ggX1_canBecomeNumber_X1_most : GoodIn wsX1_canBecomeNumber wsX1_most := goodIn_r _ [6, 7, 12, 13, 14, 15] rfl (by decide +kernel)
set_option maxRecDepth 20000 in
theorem gX1_canBecomeNumber_X1_most : GoodIn wsX1_canBecomeNumber (wsV RX1 46 RX1 yX1_most wsX1_most) := goodIn_app (goodIn_r _ [2, 3, 4, 5] rfl (by decide +kernel)) ggX1_canBecomeNumber_X1_most
set_option maxRecDepth 20000 in
theorem ggX1_canBecomeNumber_X1_least : GoodIn wsX1_canBecomeNumber wsX1_least := goodIn_r _ [11, 7, 12, 13, 14, 15] rfl (by decide +kernel)
set_option maxRecDepth 20000 in
theorem gX1_canBecomeNumber_X1_least : GoodIn wsX1_canBecomeNumber (wsV RX1 42 RX1 yX1_least wsX1_least) := goodIn_app (goodIn_r _ [8, 9, 10, 5] rfl (by decide +kernel)) ggX1_canBecomeNumber_X1_least
set_option maxRecDepth 20000 in
theorem ggX3_init_X6_init : GoodIn wsX3_init wsX6_init := goodIn_r _ [14, 15, 2, 3, 16, 17, 32, 33, 34, 35, 36, 37, 38, 39, 40, 41, 42, 43, 44, 45, 46] rfl (by decide +kernel)
set_option maxRecDepth 20000 in
theorem gX3_init_X6_init : GoodIn wsX3_init (wsX6_init) := ggX3_init_X6_init
set_option maxRecDepth 20000 in
theorem ggX3_takeFrom_X6_takeFrom : GoodIn wsX3_takeFrom wsX6_takeFrom := goodIn_r _ [18, 19, 20, 21, 22, 23, 24, 25, 26, 27, 28, 29, 30, 31, 32, 47, 48, 49, 50, 51, 52, 53, 54, 55, 56, 57, 58, 59, 60, 61] rfl (by decide +kernel)
set_option maxRecDepth 20000 in
theorem gX3_takeFrom_X6_takeFrom : GoodIn wsX3_takeFrom (wsV RX3 31 RX6 yX6_takeFrom wsX6_takeFrom) := goodIn_app (goodIn_r _ [14, 15, 16, 17] rfl (by decide +kernel)) ggX3_takeFrom_X6_takeFrom
set_option maxRecDepth 20000 in
theorem ggX3_addSparrow_X3_at : GoodIn wsX3_addSparrow wsX3_at := goodIn_r _ [10, 1, 11, 29, 30, 31, 32, 33, 34, 35, 36, 37, 38, 39, 40, 41, 42] rfl (by decide +kernel)
set_option maxRecDepth 20000 in
theorem gX3_addSparrow_X3_at : GoodIn wsX3_addSparrow (wsV RX3 66 RX3 yX3_at wsX3_at) := goodIn_app (goodIn_r _ [6, 7, 8, 9] rfl (by decide +kernel)) ggX3_addSparrow_X3_at
set_option maxRecDepth 20000 in
theorem ggX3_addSparrow_X6_goToStart : GoodIn wsX3_addSparrow wsX6_goToStart := goodIn_r _ [16, 17, 18, 19, 20, 21, 22, 23, 24, 25, 26, 27, 28, 43, 44, 45, 46, 47, 48, 49, 50, 51, 52, 53, 54, 55, 56, 57] rfl (by decide +kernel)
set_option maxRecDepth 20000 in
theorem gX3_addSparrow_X6_goToStart : GoodIn wsX3_addSparrow (wsV RX3 82 RX6 yX6_goToStart wsX6_goToStart) := goodIn_app (goodIn_r _ [12, 13, 14, 15] rfl (by decide +kernel)) ggX3_addSparrow_X6_goToStart
set_option maxRecDepth 20000 in
theorem ggX3_makePair_X3_partFromPartner : GoodIn wsX3_makePair wsX3_partFromPartner := goodIn_r _ [7, 2, 8, 9, 10, 6, 11, 12, 13, 14, 15, 16, 17, 18, 19, 20, 21, 22, 23, 24, 25, 26, 27, 28, 29, 30, 31, 32, 33, 34, 35, 36, 37, 38, 39, 40, 41, 42] rfl (by decide +kernel)
set_option maxRecDepth 20000 in
theorem gX3_makePair_X3_partFromPartner : GoodIn wsX3_makePair (wsV RX3 85 RX3 yX3_partFromPartner wsX3_partFromPartner) := goodIn_app (goodIn_r _ [3, 4, 5, 6] rfl (by decide +kernel)) ggX3_makePair_X3_partFromPartner
set_option maxRecDepth 20000 in
theorem ggX3_partFromPartner_X3_at : GoodIn wsX3_partFromPartner wsX3_at := goodIn_r _ [6, 7, 8, 24, 25, 26, 27, 28, 29, 30, 31, 32, 33, 34, 35, 36, 37] rfl (by decide +kernel)
set_option maxRecDepth 20000 in
theorem gX3_partFromPartner_X3_at : GoodIn wsX3_partFromPartner (wsV RX3 66 RX3 yX3_at wsX3_at) := goodIn_app (goodIn_r _ [2, 3, 4, 5] rfl (by decide +kernel)) ggX3_partFromPartner_X3_at
set_option maxRecDepth 20000 in
theorem ggX3_countPairs_X3_isThere : GoodIn wsX3_countPairs wsX3_isThere := goodIn_r _ [8, 3, 9, 24, 25, 26, 27, 28, 29, 30, 31, 32, 33, 34, 35, 36, 37, 38, 10, 11, 12, 13, 14, 15, 16, 17, 18, 19, 20, 21, 22, 23] rfl (by decide +kernel)
set_option maxRecDepth 20000 in
theorem gX3_countPairs_X3_isThere : GoodIn wsX3_countPairs (wsV RX3 91 RX3 yX3_isThere wsX3_isThere) := goodIn_app (goodIn_r _ [4, 5, 6, 7] rfl (by decide +kernel)) ggX3_countPairs_X3_isThere
set_option maxRecDepth 20000 in
theorem ggX3_startRace_X3_isThere : GoodIn wsX3_startRace wsX3_isThere := goodIn_r _ [14, 15, 16, 48, 49, 50, 51, 52, 53, 54, 55, 56, 57, 58, 59, 60, 61, 62, 34, 35, 36, 37, 38, 39, 40, 41, 42, 43, 44, 45, 46, 47] rfl (by decide +kernel)
set_option maxRecDepth 20000 in
theorem gX3_startRace_X3_isThere : GoodIn wsX3_startRace (wsV RX3 91 RX3 yX3_isThere wsX3_isThere) := goodIn_app (goodIn_r _ [10, 11, 12, 13] rfl (by decide +kernel)) ggX3_startRace_X3_isThere
set_option maxRecDepth 20000 in
theorem ggX3_startRace_X6_goToStart : GoodIn wsX3_startRace wsX6_goToStart := goodIn_r _ [21, 22, 23, 24, 25, 26, 27, 28, 29, 30, 31, 32, 33, 48, 49, 50, 51, 52, 53, 54, 55, 56, 57, 58, 59, 60, 61, 62] rfl (by decide +kernel)
set_option maxRecDepth 20000 in
theorem gX3_startRace_X6_goToStart : GoodIn wsX3_startRace (wsV RX3 82 RX6 yX6_goToStart wsX6_goToStart) := goodIn_app (goodIn_r _ [17, 18, 19, 20] rfl (by decide +kernel)) ggX3_startRace_X6_goToStart
set_option maxRecDepth 20000 in
theorem ggX3_countAheadOf_X3_isThere : GoodIn wsX3_countAheadOf wsX3_isThere := goodIn_r _ [6, 7, 8, 32, 33, 34, 35, 36, 37, 38, 39, 40, 41, 42, 43, 44, 45, 46, 18, 19, 20, 21, 22, 23, 24, 25, 26, 27, 28, 29, 30, 31] rfl (by decide +kernel)
set_option maxRecDepth 20000 in
theorem gX3_countAheadOf_X3_isThere : GoodIn wsX3_countAheadOf (wsV RX3 91 RX3 yX3_isThere wsX3_isThere) := goodIn_app (goodIn_r _ [2, 3, 4, 5] rfl (by decide +kernel)) ggX3_countAheadOf_X3_isThere
set_option maxRecDepth 20000 in
theorem ggX3_countAheadOf_X6_isAheadOf : GoodIn wsX3_countAheadOf wsX6_isAheadOf := goodIn_r _ [13, 14, 15, 16, 17, 32, 33, 34, 35, 36, 37, 38, 39, 40, 41, 42, 43, 44, 45, 46] rfl (by decide +kernel)
set_option maxRecDepth 20000 in
theorem gX3_countAheadOf_X6_isAheadOf : GoodIn wsX3_countAheadOf (wsV RX3 95 RX6 yX6_isAheadOf wsX6_isAheadOf) := goodIn_app (goodIn_r _ [9, 10, 11, 12] rfl (by decide +kernel)) ggX3_countAheadOf_X6_isAheadOf
set_option maxRecDepth 20000 in
theorem ggX3_putInOrder_X3_isThere : GoodIn wsX3_putInOrder wsX3_isThere := goodIn_r _ [6, 7, 8, 37, 38, 39, 40, 41, 42, 43, 44, 45, 46, 47, 48, 49, 50, 51, 23, 24, 25, 26, 27, 28, 29, 30, 31, 32, 33, 34, 35, 36] rfl (by decide +kernel)
set_option maxRecDepth 20000 in
theorem gX3_putInOrder_X3_isThere : GoodIn wsX3_putInOrder (wsV RX3 91 RX3 yX3_isThere wsX3_isThere) := goodIn_app (goodIn_r _ [2, 3, 4, 5] rfl (by decide +kernel)) ggX3_putInOrder_X3_isThere
set_option maxRecDepth 20000 in
theorem ggX3_putInOrder_X3_insertInOrder : GoodIn wsX3_putInOrder wsX3_insertInOrder := goodIn_r _ [12, 13, 14, 15, 16, 17, 18, 19, 20, 21, 22, 23, 24, 25, 26, 27, 28, 29, 30, 31, 32, 33, 34, 35, 36, 37, 38, 39, 40, 41, 42, 43, 44, 45, 46, 47, 48, 49, 50, 51] rfl (by decide +kernel)
set_option maxRecDepth 20000 in
theorem gX3_putInOrder_X3_insertInOrder : GoodIn wsX3_putInOrder (wsV RX3 98 RX3 yX3_insertInOrder wsX3_insertInOrder) := goodIn_app (goodIn_r _ [9, 10, 11, 5] rfl (by decide +kernel)) ggX3_putInOrder_X3_insertInOrder
set_option maxRecDepth 20000 in
theorem ggX3_insertInOrder_X6_isAheadOf : GoodIn wsX3_insertInOrder wsX6_isAheadOf := goodIn_r _ [6, 7, 8, 9, 10, 25, 26, 27, 28, 29, 30, 31, 32, 33, 34, 35, 36, 37, 38, 39] rfl (by decide +kernel)
set_option maxRecDepth 20000 in
theorem gX3_insertInOrder_X6_isAheadOf : GoodIn wsX3_insertInOrder (wsV RX3 95 RX6 yX6_isAheadOf wsX6_isAheadOf) := goodIn_app (goodIn_r _ [2, 3, 4, 5] rfl (by decide +kernel)) ggX3_insertInOrder_X6_isAheadOf
set_option maxRecDepth 20000 in
theorem ggX3_arrivedAs_X3_isThere : GoodIn wsX3_arrivedAs wsX3_isThere := goodIn_r _ [8, 9, 10, 25, 26, 27, 28, 29, 30, 31, 32, 33, 34, 35, 36, 37, 38, 39, 11, 12, 13, 14, 15, 16, 17, 18, 19, 20, 21, 22, 23, 24] rfl (by decide +kernel)
set_option maxRecDepth 20000 in
theorem gX3_arrivedAs_X3_isThere : GoodIn wsX3_arrivedAs (wsV RX3 91 RX3 yX3_isThere wsX3_isThere) := goodIn_app (goodIn_r _ [4, 5, 6, 7] rfl (by decide +kernel)) ggX3_arrivedAs_X3_isThere
set_option maxRecDepth 20000 in
theorem ggX3_sumFlown_X3_isThere : GoodIn wsX3_sumFlown wsX3_isThere := goodIn_r _ [7, 8, 9, 24, 25, 26, 27, 28, 29, 30, 31, 32, 33, 34, 35, 36, 37, 38, 10, 11, 12, 13, 14, 15, 16, 17, 18, 19, 20, 21, 22, 23] rfl (by decide +kernel)
set_option maxRecDepth 20000 in
theorem gX3_sumFlown_X3_isThere : GoodIn wsX3_sumFlown (wsV RX3 91 RX3 yX3_isThere wsX3_isThere) := goodIn_app (goodIn_r _ [3, 4, 5, 6] rfl (by decide +kernel)) ggX3_sumFlown_X3_isThere
set_option maxRecDepth 20000 in
theorem ggX3_nextAhead_X3_isInTheWay : GoodIn wsX3_nextAhead wsX3_isInTheWay := goodIn_r _ [7, 8, 9, 10, 2, 31, 32, 33, 34, 35, 36, 37, 38, 39, 40, 41, 42, 43, 44, 45, 17, 18, 19, 20, 21, 22, 23, 24, 25, 26, 27, 28, 29, 30] rfl (by decide +kernel)
set_option maxRecDepth 20000 in
theorem gX3_nextAhead_X3_isInTheWay : GoodIn wsX3_nextAhead (wsV RX3 114 RX3 yX3_isInTheWay wsX3_isInTheWay) := goodIn_app (goodIn_r _ [3, 4, 5, 6] rfl (by decide +kernel)) ggX3_nextAhead_X3_isInTheWay
set_option maxRecDepth 20000 in
theorem ggX3_nextAhead_X6_feetBehind : GoodIn wsX3_nextAhead wsX6_feetBehind := goodIn_r _ [15, 16, 31, 32, 33, 34, 35, 36, 37, 38, 39, 40, 41, 42, 43, 44, 45] rfl (by decide +kernel)
set_option maxRecDepth 20000 in
theorem gX3_nextAhead_X6_feetBehind : GoodIn wsX3_nextAhead (wsV RX3 118 RX6 yX6_feetBehind wsX6_feetBehind) := goodIn_app (goodIn_r _ [11, 12, 13, 14] rfl (by decide +kernel)) ggX3_nextAhead_X6_feetBehind
set_option maxRecDepth 20000 in
theorem ggX3_gapOf_X3_nextAhead : GoodIn wsX3_gapOf wsX3_nextAhead := goodIn_r _ [5, 6, 7, 8, 9, 10, 4, 11, 12, 13, 14, 15, 16, 17, 18, 19, 20, 21, 22, 23, 24, 25, 26, 27, 28, 29, 30, 31, 32, 33, 34, 35, 36, 37, 38, 39, 40, 41, 42, 43, 44, 45, 46, 47, 48, 49] rfl (by decide +kernel)
set_option maxRecDepth 20000 in
theorem gX3_gapOf_X3_nextAhead : GoodIn wsX3_gapOf (wsV RX3 122 RX3 yX3_nextAhead wsX3_nextAhead) := goodIn_app (goodIn_r _ [1, 2, 3, 4] rfl (by decide +kernel)) ggX3_gapOf_X3_nextAhead
set_option maxRecDepth 20000 in
theorem ggX3_gapOf_X6_feetBehind : GoodIn wsX3_gapOf wsX6_feetBehind := goodIn_r _ [19, 20, 35, 36, 37, 38, 39, 40, 41, 42, 43, 44, 45, 46, 47, 48, 49] rfl (by decide +kernel)
set_option maxRecDepth 20000 in
theorem gX3_gapOf_X6_feetBehind : GoodIn wsX3_gapOf (wsV RX3 118 RX6 yX6_feetBehind wsX6_feetBehind) := goodIn_app (goodIn_r _ [15, 16, 17, 18] rfl (by decide +kernel)) ggX3_gapOf_X6_feetBehind
set_option maxRecDepth 20000 in
theorem ggX3_allowedFeet_X6_partOfCourse : GoodIn wsX3_allowedFeet wsX6_partOfCourse := goodIn_r _ [8, 9, 16, 17, 18, 19, 20, 21, 22, 23, 24, 25, 26, 27, 28, 29, 30] rfl (by decide +kernel)
set_option maxRecDepth 20000 in
theorem gX3_allowedFeet_X6_partOfCourse : GoodIn wsX3_allowedFeet (wsV RX3 126 RX6 yX6_partOfCourse wsX6_partOfCourse) := goodIn_app (goodIn_r _ [4, 5, 6, 7] rfl (by decide +kernel)) ggX3_allowedFeet_X6_partOfCourse
set_option maxRecDepth 20000 in
theorem ggX3_allowedFeet_X3_limitAt : GoodIn wsX3_allowedFeet wsX3_limitAt := goodIn_r _ [14, 15, 31, 32, 33, 34, 35, 36, 37, 38, 39, 40, 41, 42, 43, 44] rfl (by decide +kernel)
set_option maxRecDepth 20000 in
theorem gX3_allowedFeet_X3_limitAt : GoodIn wsX3_allowedFeet (wsV RX3 130 RX3 yX3_limitAt wsX3_limitAt) := goodIn_app (goodIn_r _ [10, 11, 12, 13] rfl (by decide +kernel)) ggX3_allowedFeet_X3_limitAt
set_option maxRecDepth 20000 in
theorem ggX3_draftFeet_X6_feetBehind : GoodIn wsX3_draftFeet wsX6_feetBehind := goodIn_r _ [7, 8, 9, 10, 11, 12, 13, 14, 15, 16, 17, 18, 19, 20, 21, 22, 23] rfl (by decide +kernel)
set_option maxRecDepth 20000 in
theorem gX3_draftFeet_X6_feetBehind : GoodIn wsX3_draftFeet (wsV RX3 118 RX6 yX6_feetBehind wsX6_feetBehind) := goodIn_app (goodIn_r _ [3, 4, 5, 6] rfl (by decide +kernel)) ggX3_draftFeet_X6_feetBehind
set_option maxRecDepth 20000 in
theorem ggX3_mayChangeLane_X6_partOfCourse : GoodIn wsX3_mayChangeLane wsX6_partOfCourse := goodIn_r _ [7, 8, 35, 36, 37, 38, 39, 40, 41, 42, 43, 44, 45, 46, 47, 48, 49] rfl (by decide +kernel)
set_option maxRecDepth 20000 in
theorem gX3_mayChangeLane_X6_partOfCourse : GoodIn wsX3_mayChangeLane (wsV RX3 126 RX6 yX6_partOfCourse wsX6_partOfCourse) := goodIn_app (goodIn_r _ [3, 4, 5, 6] rfl (by decide +kernel)) ggX3_mayChangeLane_X6_partOfCourse
set_option maxRecDepth 20000 in
theorem ggX3_mayChangeLane_X3_isInTheWay : GoodIn wsX3_mayChangeLane wsX3_isInTheWay := goodIn_r _ [13, 14, 15, 16, 2, 35, 36, 37, 38, 39, 40, 41, 42, 43, 44, 45, 46, 47, 48, 49, 21, 22, 23, 24, 25, 26, 27, 28, 29, 30, 31, 32, 33, 34] rfl (by decide +kernel)
set_option maxRecDepth 20000 in
theorem gX3_mayChangeLane_X3_isInTheWay : GoodIn wsX3_mayChangeLane (wsV RX3 114 RX3 yX3_isInTheWay wsX3_isInTheWay) := goodIn_app (goodIn_r _ [9, 10, 11, 12] rfl (by decide +kernel)) ggX3_mayChangeLane_X3_isInTheWay
set_option maxRecDepth 20000 in
theorem ggX3_mayChangeLane_X6_feetBehind : GoodIn wsX3_mayChangeLane wsX6_feetBehind := goodIn_r _ [20, 8, 35, 36, 37, 38, 39, 40, 41, 42, 43, 44, 45, 46, 47, 48, 49] rfl (by decide +kernel)
set_option maxRecDepth 20000 in
theorem gX3_mayChangeLane_X6_feetBehind : GoodIn wsX3_mayChangeLane (wsV RX3 118 RX6 yX6_feetBehind wsX6_feetBehind) := goodIn_app (goodIn_r _ [17, 18, 19, 6] rfl (by decide +kernel)) ggX3_mayChangeLane_X6_feetBehind
set_option maxRecDepth 20000 in
theorem ggX3_letGoBy_X3_putInOrder : GoodIn wsX3_letGoBy wsX3_putInOrder := goodIn_r _ [9, 10, 11, 12, 13, 8, 14, 15, 3, 16, 17, 18, 19, 20, 21, 22, 23, 24, 25, 26, 27, 28, 29, 116, 117, 118, 119, 120, 121, 122, 123, 124, 125, 126, 127, 128, 129, 130, 131, 132, 133, 134, 135, 136, 137, 138, 139, 140, 141, 142, 143, 144] rfl (by decide +kernel)
set_option maxRecDepth 20000 in
theorem gX3_letGoBy_X3_putInOrder : GoodIn wsX3_letGoBy (wsV RX3 137 RX3 yX3_putInOrder wsX3_putInOrder) := goodIn_app (goodIn_r _ [5, 6, 7, 8] rfl (by decide +kernel)) ggX3_letGoBy_X3_putInOrder
set_option maxRecDepth 20000 in
theorem ggX3_letGoBy_X3_inOrder : GoodIn wsX3_letGoBy wsX3_inOrder := goodIn_r _ [33, 3, 20, 116, 117, 118, 119, 120, 121, 122, 123, 124, 125, 126, 127, 128, 129] rfl (by decide +kernel)
set_option maxRecDepth 20000 in
theorem gX3_letGoBy_X3_inOrder : GoodIn wsX3_letGoBy (wsV RX3 140 RX3 yX3_inOrder wsX3_inOrder) := goodIn_app (goodIn_r _ [30, 31, 32, 8] rfl (by decide +kernel)) ggX3_letGoBy_X3_inOrder
set_option maxRecDepth 20000 in
theorem ggX3_letGoBy_X6_startsTurnFlying : GoodIn wsX3_letGoBy wsX6_startsTurnFlying := goodIn_r _ [37, 38, 26, 39, 130, 131, 132, 133, 134, 135, 136, 137, 138, 139, 140, 141, 142, 143, 144] rfl (by decide +kernel)
set_option maxRecDepth 20000 in
theorem gX3_letGoBy_X6_startsTurnFlying : GoodIn wsX3_letGoBy (wsV RX3 143 RX6 yX6_startsTurnFlying wsX6_startsTurnFlying) := goodIn_app (goodIn_r _ [34, 35, 36, 24] rfl (by decide +kernel)) ggX3_letGoBy_X6_startsTurnFlying
set_option maxRecDepth 20000 in
theorem ggX3_letGoBy_X3_fly : GoodIn wsX3_letGoBy wsX3_fly := goodIn_r _ [43, 44, 45, 46, 47, 48, 49, 50, 8, 51, 10, 52, 53, 54, 55, 15, 3, 56, 57, 58, 59, 24, 60, 28, 61, 62, 63, 64, 65, 66, 67, 68, 69, 70, 71, 72, 73, 74, 75, 76, 77, 78, 79, 80, 81, 82, 83, 84, 85, 86, 87, 88, 89, 90, 91, 92, 93, 94, 95, 96, 97, 98, 99, 100, 101, 102, 103, 104, 105, 106, 4, 107, 2, 108, 109, 110, 111, 112, 113, 26, 39, 114, 115, 116, 117, 118, 119, 120, 121, 122, 123, 124, 125, 126, 127, 128, 129, 130, 131, 132, 133, 134, 135, 136, 137, 138, 139, 140, 141, 142, 143, 144] rfl (by decide +kernel)
set_option maxRecDepth 20000 in
theorem gX3_letGoBy_X3_fly : GoodIn wsX3_letGoBy (wsV RX3 147 RX3 yX3_fly wsX3_fly) := goodIn_app (goodIn_r _ [40, 41, 42, 8] rfl (by decide +kernel)) ggX3_letGoBy_X3_fly
set_option maxRecDepth 20000 in
theorem ggX3_fly_X3_nextAhead : GoodIn wsX3_fly wsX3_nextAhead := goodIn_r _ [9, 10, 2, 11, 12, 13, 8, 14, 15, 16, 17, 18, 19, 20, 21, 22, 23, 83, 84, 85, 86, 87, 88, 89, 90, 91, 92, 93, 94, 95, 96, 97, 98, 99, 100, 101, 102, 103, 104, 105, 106, 107, 108, 109, 110, 111] rfl (by decide +kernel)
set_option maxRecDepth 20000 in
theorem gX3_fly_X3_nextAhead : GoodIn wsX3_fly (wsV RX3 122 RX3 yX3_nextAhead wsX3_nextAhead) := goodIn_app (goodIn_r _ [5, 6, 7, 8] rfl (by decide +kernel)) ggX3_fly_X3_nextAhead
set_option maxRecDepth 20000 in
theorem ggX3_fly_X3_draftFeet : GoodIn wsX3_fly wsX3_draftFeet := goodIn_r _ [27, 15, 28, 18, 19, 20, 21, 22, 23, 97, 98, 99, 100, 101, 102, 103, 104, 105, 106, 107, 108, 109, 110, 111] rfl (by decide +kernel)
set_option maxRecDepth 20000 in
theorem gX3_fly_X3_draftFeet : GoodIn wsX3_fly (wsV RX3 150 RX3 yX3_draftFeet wsX3_draftFeet) := goodIn_app (goodIn_r _ [24, 25, 26, 8] rfl (by decide +kernel)) ggX3_fly_X3_draftFeet
set_option maxRecDepth 20000 in
theorem ggX3_fly_X3_allowedFeet : GoodIn wsX3_fly wsX3_allowedFeet := goodIn_r _ [32, 33, 2, 4, 34, 35, 36, 21, 37, 23, 38, 39, 40, 8, 41, 42, 97, 98, 99, 100, 101, 102, 103, 104, 105, 106, 107, 108, 109, 110, 111, 83, 84, 85, 86, 87, 88, 89, 90, 91, 92, 93, 94, 95, 96] rfl (by decide +kernel)
set_option maxRecDepth 20000 in
theorem gX3_fly_X3_allowedFeet : GoodIn wsX3_fly (wsV RX3 154 RX3 yX3_allowedFeet wsX3_allowedFeet) := goodIn_app (goodIn_r _ [29, 30, 31, 8] rfl (by decide +kernel)) ggX3_fly_X3_allowedFeet
set_option maxRecDepth 20000 in
theorem ggX3_fly_X6_feetBehind : GoodIn wsX3_fly wsX6_feetBehind := goodIn_r _ [22, 23, 97, 98, 99, 100, 101, 102, 103, 104, 105, 106, 107, 108, 109, 110, 111] rfl (by decide +kernel)
set_option maxRecDepth 20000 in
theorem gX3_fly_X6_feetBehind : GoodIn wsX3_fly (wsV RX3 118 RX6 yX6_feetBehind wsX6_feetBehind) := goodIn_app (goodIn_r _ [18, 19, 20, 21] rfl (by decide +kernel)) ggX3_fly_X6_feetBehind
set_option maxRecDepth 20000 in
theorem ggX3_fly_X3_mayChangeLane : GoodIn wsX3_fly wsX3_mayChangeLane := goodIn_r _ [46, 10, 2, 34, 35, 36, 21, 37, 23, 11, 12, 13, 8, 14, 15, 16, 17, 18, 19, 20, 22, 83, 84, 85, 86, 87, 88, 89, 90, 91, 92, 93, 94, 95, 96, 97, 98, 99, 100, 101, 102, 103, 104, 105, 106, 107, 108, 109, 110, 111] rfl (by decide +kernel)
set_option maxRecDepth 20000 in
theorem gX3_fly_X3_mayChangeLane : GoodIn wsX3_fly (wsV RX3 157 RX3 yX3_mayChangeLane wsX3_mayChangeLane) := goodIn_app (goodIn_r _ [43, 44, 45, 8] rfl (by decide +kernel)) ggX3_fly_X3_mayChangeLane
set_option maxRecDepth 20000 in
theorem ggX3_fly_X6_flyWithStrength : GoodIn wsX3_fly wsX6_flyWithStrength := goodIn_r _ [50, 51, 97, 98, 99, 100, 101, 102, 103, 104, 105, 106, 107, 108, 109, 110, 111] rfl (by decide +kernel)
set_option maxRecDepth 20000 in
theorem gX3_fly_X6_flyWithStrength : GoodIn wsX3_fly (wsV RX3 160 RX6 yX6_flyWithStrength wsX6_flyWithStrength) := goodIn_app (goodIn_r _ [47, 48, 49, 21] rfl (by decide +kernel)) ggX3_fly_X6_flyWithStrength
set_option maxRecDepth 20000 in
theorem ggX3_fly_X3_flyOn : GoodIn wsX3_fly wsX3_flyOn := goodIn_r _ [55, 56, 57, 58, 59, 60, 61, 62, 63, 64, 21, 65, 23, 66, 67, 68, 8, 69, 17, 70, 71, 72, 73, 28, 74, 75, 76, 77, 78, 79, 80, 81, 82, 51, 97, 98, 99, 100, 101, 102, 103, 104, 105, 106, 107, 108, 109, 110, 111, 83, 84, 85, 86, 87, 88, 89, 90, 91, 92, 93, 94, 95, 96] rfl (by decide +kernel)
set_option maxRecDepth 20000 in
theorem gX3_fly_X3_flyOn : GoodIn wsX3_fly (wsV RX3 164 RX3 yX3_flyOn wsX3_flyOn) := goodIn_app (goodIn_r _ [52, 53, 54, 8] rfl (by decide +kernel)) ggX3_fly_X3_flyOn
set_option maxRecDepth 20000 in
theorem ggX3_flyOn_X6_lapsOver : GoodIn wsX3_flyOn wsX6_lapsOver := goodIn_r _ [11, 12, 34, 35, 36, 37, 38, 39, 40, 41, 42, 43, 44, 45, 46, 47, 48] rfl (by decide +kernel)
set_option maxRecDepth 20000 in
theorem gX3_flyOn_X6_lapsOver : GoodIn wsX3_flyOn (wsV RX3 167 RX6 yX6_lapsOver wsX6_lapsOver) := goodIn_app (goodIn_r _ [7, 8, 9, 10] rfl (by decide +kernel)) ggX3_flyOn_X6_lapsOver
set_option maxRecDepth 20000 in
theorem ggX3_flyOn_X3_noteArrival : GoodIn wsX3_flyOn wsX3_noteArrival := goodIn_r _ [17, 18, 19, 20, 21, 22, 23, 24, 34, 35, 36, 37, 38, 39, 40, 41, 42, 43, 44, 45, 46, 47, 48, 49, 50, 51, 52, 53, 54, 55, 56, 57, 58, 59, 60, 61, 62] rfl (by decide +kernel)
set_option maxRecDepth 20000 in
theorem gX3_flyOn_X3_noteArrival : GoodIn wsX3_flyOn (wsV RX3 176 RX3 yX3_noteArrival wsX3_noteArrival) := goodIn_app (goodIn_r _ [13, 14, 15, 16] rfl (by decide +kernel)) ggX3_flyOn_X3_noteArrival
set_option maxRecDepth 20000 in
theorem ggX3_flyOn_X6_goToNest : GoodIn wsX3_flyOn wsX6_goToNest := goodIn_r _ [28, 29, 30, 31, 32, 33, 34, 35, 36, 37, 38, 39, 40, 41, 42, 43, 44, 45, 46, 47, 48] rfl (by decide +kernel)
set_option maxRecDepth 20000 in
theorem gX3_flyOn_X6_goToNest : GoodIn wsX3_flyOn (wsV RX3 179 RX6 yX6_goToNest wsX6_goToNest) := goodIn_app (goodIn_r _ [25, 26, 27, 10] rfl (by decide +kernel)) ggX3_flyOn_X6_goToNest
set_option maxRecDepth 20000 in
theorem ggX4_init_X3_init : GoodIn wsX4_init wsX3_init := goodIn_r _ [10, 11, 2, 3, 12, 13, 14, 15, 16, 17, 18, 19, 20, 21, 22, 23, 24, 25, 28, 29, 30, 31, 32, 33, 34, 35, 36, 37, 38, 39, 40, 41, 42, 43, 44, 45, 46, 47, 48, 49, 50, 51, 52, 53, 54, 55, 56] rfl (by decide +kernel)
set_option maxRecDepth 20000 in
theorem gX4_init_X3_init : GoodIn wsX4_init (wsX3_init) := ggX4_init_X3_init
set_option maxRecDepth 20000 in
theorem ggX4_save_X4_dropOldest : GoodIn wsX4_save wsX4_dropOldest := goodIn_r _ [7, 2, 1, 45, 46] rfl (by decide +kernel)
set_option maxRecDepth 20000 in
theorem gX4_save_X4_dropOldest : GoodIn wsX4_save (wsV RX4 22 RX4 yX4_dropOldest wsX4_dropOldest) := goodIn_app (goodIn_r _ [3, 4, 5, 6] rfl (by decide +kernel)) ggX4_save_X4_dropOldest
set_option maxRecDepth 20000 in
theorem ggX4_save_X3_takeFrom : GoodIn wsX4_save wsX3_takeFrom := goodIn_r _ [12, 13, 14, 15, 16, 17, 18, 19, 20, 21, 22, 23, 24, 25, 26, 27, 28, 29, 30, 31, 32, 33, 34, 35, 36, 37, 38, 39, 40, 41, 42, 43, 44, 47, 48, 49, 50, 51, 52, 53, 54, 55, 56, 57, 58, 59, 60, 61, 62, 63, 64, 65, 66, 67, 68, 69, 70, 71, 72, 73, 74, 75] rfl (by decide +kernel)
set_option maxRecDepth 20000 in
theorem gX4_save_X3_takeFrom : GoodIn wsX4_save (wsV RX4 25 RX3 yX3_takeFrom wsX3_takeFrom) := goodIn_app (goodIn_r _ [8, 9, 10, 11] rfl (by decide +kernel)) ggX4_save_X3_takeFrom
set_option maxRecDepth 20000 in
theorem ggX5_init_X3_init : GoodIn wsX5_init wsX3_init := goodIn_r _ [12, 13, 2, 3, 14, 15, 16, 17, 18, 19, 20, 21, 22, 23, 24, 25, 26, 27, 30, 31, 32, 33, 34, 35, 36, 37, 38, 39, 40, 41, 42, 43, 44, 45, 46, 47, 48, 49, 50, 51, 52, 53, 54, 55, 56, 57, 58] rfl (by decide +kernel)
set_option maxRecDepth 20000 in
theorem gX5_init_X3_init : GoodIn wsX5_init (wsX3_init) := ggX5_init_X3_init
set_option maxRecDepth 20000 in
theorem ggX5_put_X3_takeFrom : GoodIn wsX5_put wsX3_takeFrom := goodIn_r _ [7, 8, 9, 10, 11, 12, 13, 14, 15, 16, 17, 18, 19, 20, 21, 22, 23, 24, 25, 26, 27, 28, 29, 30, 31, 32, 33, 34, 35, 36, 37, 38, 39, 42, 43, 44, 45, 46, 47, 48, 49, 50, 51, 52, 53, 54, 55, 56, 57, 58, 59, 60, 61, 62, 63, 64, 65, 66, 67, 68, 69, 70] rfl (by decide +kernel)
set_option maxRecDepth 20000 in
theorem gX5_put_X3_takeFrom : GoodIn wsX5_put (wsV RX5 22 RX3 yX3_takeFrom wsX3_takeFrom) := goodIn_app (goodIn_r _ [3, 4, 5, 6] rfl (by decide +kernel)) ggX5_put_X3_takeFrom
set_option maxRecDepth 20000 in
theorem ggX7_init_X3_init : GoodIn wsX7_init wsX3_init := goodIn_r _ [27, 28, 2, 3, 29, 30, 31, 32, 33, 34, 35, 36, 37, 38, 39, 40, 41, 42, 67, 68, 69, 70, 71, 72, 73, 74, 75, 76, 77, 78, 79, 80, 97, 98, 99, 100, 101, 102, 103, 104, 105, 106, 107, 108, 109, 110, 111] rfl (by decide +kernel)
set_option maxRecDepth 20000 in
theorem gX7_init_X3_init : GoodIn wsX7_init (wsX3_init) := ggX7_init_X3_init
set_option maxRecDepth 20000 in
theorem ggX7_init_X4_init : GoodIn wsX7_init wsX4_init := goodIn_r _ [45, 46, 2, 3, 47, 48, 5, 6, 49, 26, 27, 28, 29, 30, 31, 32, 33, 34, 35, 36, 37, 38, 39, 40, 41, 42, 87, 88, 67, 68, 69, 70, 71, 72, 73, 74, 75, 76, 77, 78, 79, 80, 97, 98, 99, 100, 101, 102, 103, 104, 105, 106, 107, 108, 109, 110, 111] rfl (by decide +kernel)
set_option maxRecDepth 20000 in
theorem gX7_init_X4_init : GoodIn wsX7_init (wsX4_init) := ggX7_init_X4_init
set_option maxRecDepth 20000 in
theorem ggX7_init_X5_init : GoodIn wsX7_init wsX5_init := goodIn_r _ [52, 53, 2, 3, 54, 55, 56, 57, 5, 6, 58, 26, 27, 28, 29, 30, 31, 32, 33, 34, 35, 36, 37, 38, 39, 40, 41, 42, 89, 90, 67, 68, 69, 70, 71, 72, 73, 74, 75, 76, 77, 78, 79, 80, 97, 98, 99, 100, 101, 102, 103, 104, 105, 106, 107, 108, 109, 110, 111] rfl (by decide +kernel)
set_option maxRecDepth 20000 in
theorem gX7_init_X5_init : GoodIn wsX7_init (wsX5_init) := ggX7_init_X5_init
set_option maxRecDepth 20000 in
theorem ggX7_init_X2_init : GoodIn wsX7_init wsX2_init := goodIn_r _ [60, 61, 2, 3, 62, 63, 91, 92] rfl (by decide +kernel)
set_option maxRecDepth 20000 in
theorem gX7_init_X2_init_n35 : GoodIn wsX7_init (wsX2_init) := ggX7_init_X2_init
set_option maxRecDepth 20000 in
theorem ggX7_init_X1_init : GoodIn wsX7_init wsX1_init := goodIn_r _ [65, 66, 2, 3] rfl (by decide +kernel)
set_option maxRecDepth 20000 in
theorem gX7_init_X1_init_n42 : GoodIn wsX7_init (wsX1_init) := ggX7_init_X1_init
set_option maxRecDepth 20000 in
theorem ggX7_enter_X7_isPace : GoodIn wsX7_enter wsX7_isPace := goodIn_r _ [12] rfl (by decide +kernel)
set_option maxRecDepth 20000 in
theorem gX7_enter_X7_isPace : GoodIn wsX7_enter (va_wsS RX7 47 yX7_isPace wsX7_isPace) := goodIn_app (goodIn_r _ [9, 10, 11] rfl (by decide +kernel)) ggX7_enter_X7_isPace
set_option maxRecDepth 20000 in
theorem ggX7_enter_X4_save : GoodIn wsX7_enter wsX4_save := goodIn_r _ [17, 18, 19, 20, 21, 22, 16, 23, 24, 25, 26, 27, 28, 29, 30, 31, 32, 33, 34, 35, 36, 37, 38, 39, 40, 41, 42, 43, 44, 45, 46, 47, 48, 49, 50, 51, 52, 53, 54, 55, 56, 57, 58, 59, 60, 97, 98, 83, 84, 85, 86, 87, 88, 89, 90, 91, 92, 93, 94, 95, 96, 99, 100, 101, 102, 103, 104, 105, 106, 107, 108, 109, 110, 111, 112, 113] rfl (by decide +kernel)
set_option maxRecDepth 20000 in
theorem gX7_enter_X4_save : GoodIn wsX7_enter (wsV RX7 71 RX4 yX4_save wsX4_save) := goodIn_app (goodIn_r _ [13, 14, 15, 16] rfl (by decide +kernel)) ggX7_enter_X4_save
set_option maxRecDepth 20000 in
theorem ggX7_enter_X3_addSparrow : GoodIn wsX7_enter wsX3_addSparrow := goodIn_r _ [64, 31, 65, 66, 67, 68, 69, 70, 71, 27, 72, 29, 73, 74, 75, 45, 76, 50, 51, 48, 52, 53, 49, 54, 55, 56, 57, 59, 60, 83, 84, 85, 86, 87, 88, 89, 90, 91, 92, 93, 94, 95, 96, 99, 100, 101, 102, 103, 104, 105, 106, 107, 108, 109, 110, 111, 112, 113] rfl (by decide +kernel)
set_option maxRecDepth 20000 in
theorem gX7_enter_X3_addSparrow : GoodIn wsX7_enter (wsV RX7 75 RX3 yX3_addSparrow wsX3_addSparrow) := goodIn_app (goodIn_r _ [61, 62, 63, 27] rfl (by decide +kernel)) ggX7_enter_X3_addSparrow
set_option maxRecDepth 20000 in
theorem ggX7_setPace_X7_known : GoodIn wsX7_setPace wsX7_known := goodIn_ca (goodIn_r _ [8, 9, 10, 2, 11, 12, 13, 14, 15, 16, 17, 71, 72, 73, 74, 75, 76, 92, 93, 94, 95, 96, 97, 98, 99, 100, 101, 102, 103, 104, 105] rfl (by decide +kernel)) (goodIn_sub (fun _ h => List.mem_cons_of_mem _ (List.mem_append_left _ (List.mem_append_right _ h))) (by decide +kernel))
set_option maxRecDepth 20000 in
theorem gX7_setPace_X7_known : GoodIn wsX7_setPace (wsV RX7 79 RX7 yX7_known wsX7_known) := goodIn_app (goodIn_r _ [4, 5, 6, 7] rfl (by decide +kernel)) ggX7_setPace_X7_known
set_option maxRecDepth 20000 in
theorem ggX7_setPace_X7_checkPace : GoodIn wsX7_setPace wsX7_checkPace := goodIn_ca (goodIn_r _ [20, 21, 22, 23, 24, 7, 25] rfl (by decide +kernel)) (goodIn_sub (fun _ h => List.mem_cons_of_mem _ (List.mem_append_right _ h)) (by decide +kernel))
set_option maxRecDepth 20000 in
theorem gX7_setPace_X7_checkPace : GoodIn wsX7_setPace (va_wsS RX7 83 yX7_checkPace wsX7_checkPace) := goodIn_app (goodIn_r _ [18, 19, 7] rfl (by decide +kernel)) ggX7_setPace_X7_checkPace
set_option maxRecDepth 20000 in
theorem ggX7_setPace_X4_save : GoodIn wsX7_setPace wsX4_save := goodIn_r _ [30, 31, 32, 33, 34, 35, 29, 36, 37, 38, 39, 14, 40, 17, 41, 16, 42, 43, 44, 45, 46, 47, 48, 49, 50, 51, 52, 53, 54, 55, 56, 57, 58, 59, 60, 61, 62, 63, 64, 65, 66, 67, 68, 69, 70, 106, 107, 92, 93, 94, 95, 96, 97, 98, 99, 100, 101, 102, 103, 104, 105, 77, 78, 79, 80, 81, 82, 83, 84, 85, 86, 87, 88, 89, 90, 91] rfl (by decide +kernel)
set_option maxRecDepth 20000 in
theorem gX7_setPace_X4_save : GoodIn wsX7_setPace (wsV RX7 71 RX4 yX4_save wsX4_save) := goodIn_app (goodIn_r _ [26, 27, 28, 29] rfl (by decide +kernel)) ggX7_setPace_X4_save
set_option maxRecDepth 20000 in
theorem ggX7_callIn_X7_known : GoodIn wsX7_callIn wsX7_known := goodIn_ca (goodIn_r _ [11, 12, 13, 5, 14, 15, 16, 17, 18, 19, 20, 81, 82, 83, 84, 85, 86, 87, 88, 89, 90, 91, 92, 93, 94, 95, 96, 97, 98, 99, 100] rfl (by decide +kernel)) (goodIn_sub (fun _ h => List.mem_cons_of_mem _ (List.mem_append_right _ h)) (by decide +kernel))
set_option maxRecDepth 20000 in
theorem gX7_callIn_X7_known : GoodIn wsX7_callIn (wsV RX7 79 RX7 yX7_known wsX7_known) := goodIn_app (goodIn_r _ [7, 8, 9, 10] rfl (by decide +kernel)) ggX7_callIn_X7_known
set_option maxRecDepth 20000 in
theorem ggX7_callIn_X4_save : GoodIn wsX7_callIn wsX4_save := goodIn_r _ [25, 26, 27, 28, 29, 30, 24, 31, 32, 33, 34, 17, 35, 20, 36, 19, 37, 38, 39, 40, 41, 42, 43, 44, 45, 46, 47, 48, 49, 50, 51, 52, 53, 54, 55, 56, 57, 58, 59, 60, 61, 62, 63, 64, 65, 101, 102, 87, 88, 89, 90, 91, 92, 93, 94, 95, 96, 97, 98, 99, 100, 66, 67, 68, 69, 70, 71, 72, 73, 74, 75, 76, 77, 78, 79, 80] rfl (by decide +kernel)
set_option maxRecDepth 20000 in
theorem gX7_callIn_X4_save : GoodIn wsX7_callIn (wsV RX7 71 RX4 yX4_save wsX4_save) := goodIn_app (goodIn_r _ [21, 22, 23, 24] rfl (by decide +kernel)) ggX7_callIn_X4_save
set_option maxRecDepth 20000 in
theorem ggX7_pair_X7_known : GoodIn wsX7_pair wsX7_known := goodIn_ca (goodIn_r _ [9, 10, 11, 4, 12, 13, 14, 15, 16, 17, 18, 83, 84, 85, 86, 87, 88, 89, 90, 91, 92, 93, 94, 95, 96, 97, 98, 99, 100, 101, 102] rfl (by decide +kernel)) (goodIn_sub (fun _ h => List.mem_cons_of_mem _ (List.mem_append_right _ h)) (by decide +kernel))
set_option maxRecDepth 20000 in
theorem gX7_pair_X7_known : GoodIn wsX7_pair (wsV RX7 79 RX7 yX7_known wsX7_known) := goodIn_app (goodIn_r _ [5, 6, 7, 8] rfl (by decide +kernel)) ggX7_pair_X7_known
set_option maxRecDepth 20000 in
theorem ggX7_pair_X4_save : GoodIn wsX7_pair wsX4_save := goodIn_r _ [23, 24, 25, 26, 27, 28, 22, 29, 30, 31, 32, 15, 33, 18, 34, 17, 35, 36, 37, 38, 39, 40, 41, 42, 43, 44, 45, 46, 47, 48, 49, 50, 51, 52, 53, 54, 55, 56, 57, 58, 59, 60, 61, 62, 63, 103, 104, 89, 90, 91, 92, 93, 94, 95, 96, 97, 98, 99, 100, 101, 102, 105, 106, 107, 108, 109, 110, 111, 112, 113, 114, 115, 116, 117, 118, 119] rfl (by decide +kernel)
set_option maxRecDepth 20000 in
theorem gX7_pair_X4_save : GoodIn wsX7_pair (wsV RX7 71 RX4 yX4_save wsX4_save) := goodIn_app (goodIn_r _ [19, 20, 21, 22] rfl (by decide +kernel)) ggX7_pair_X4_save
set_option maxRecDepth 20000 in
theorem ggX7_pair_X3_makePair : GoodIn wsX7_pair wsX3_makePair := goodIn_r _ [67, 68, 69, 70, 71, 72, 15, 73, 74, 13, 14, 16, 17, 18, 105, 106, 107, 108, 109, 110, 111, 112, 113, 114, 115, 116, 117, 118, 119, 89, 90, 91, 92, 93, 94, 95, 96, 97, 98, 99, 100, 101, 102] rfl (by decide +kernel)
set_option maxRecDepth 20000 in
theorem gX7_pair_X3_makePair : GoodIn wsX7_pair (wsV RX7 102 RX3 yX3_makePair wsX3_makePair) := goodIn_app (goodIn_r _ [64, 65, 66, 15] rfl (by decide +kernel)) ggX7_pair_X3_makePair
set_option maxRecDepth 20000 in
theorem ggX7_pair_X3_countPairs : GoodIn wsX7_pair wsX3_countPairs := goodIn_r _ [78, 18, 69, 68, 79, 80, 81, 15, 82, 17, 89, 90, 91, 92, 93, 94, 95, 96, 97, 98, 99, 100, 101, 102, 105, 106, 107, 108, 109, 110, 111, 112, 113, 114, 115, 116, 117, 118, 119] rfl (by decide +kernel)
set_option maxRecDepth 20000 in
theorem gX7_pair_X3_countPairs : GoodIn wsX7_pair (wsV RX7 106 RX3 yX3_countPairs wsX3_countPairs) := goodIn_app (goodIn_r _ [75, 76, 77, 15] rfl (by decide +kernel)) ggX7_pair_X3_countPairs
set_option maxRecDepth 20000 in
theorem ggX7_setLimit_X7_checkCorner : GoodIn wsX7_setLimit wsX7_checkCorner := goodIn_ca (goodIn_r _ [8, 9, 10] rfl (by decide +kernel)) (goodIn_sub (fun _ h => List.mem_cons_of_mem _ (List.mem_append_right _ h)) (by decide +kernel))
set_option maxRecDepth 20000 in
theorem gX7_setLimit_X7_checkCorner : GoodIn wsX7_setLimit (va_wsS RX7 110 yX7_checkCorner wsX7_checkCorner) := goodIn_app (goodIn_r _ [5, 6, 7] rfl (by decide +kernel)) ggX7_setLimit_X7_checkCorner
set_option maxRecDepth 20000 in
theorem ggX7_setLimit_X4_save : GoodIn wsX7_setLimit wsX4_save := goodIn_r _ [15, 16, 17, 18, 19, 20, 14, 21, 22, 23, 24, 25, 26, 27, 28, 29, 30, 31, 32, 33, 34, 35, 36, 37, 38, 39, 40, 41, 42, 43, 44, 45, 46, 47, 48, 49, 50, 51, 52, 53, 54, 55, 56, 57, 58, 73, 74, 75, 76, 77, 78, 79, 80, 81, 82, 83, 84, 85, 86, 87, 88, 89, 90, 91, 92, 93, 94, 95, 96, 97, 98, 99, 100, 101, 102, 103] rfl (by decide +kernel)
set_option maxRecDepth 20000 in
theorem gX7_setLimit_X4_save : GoodIn wsX7_setLimit (wsV RX7 71 RX4 yX4_save wsX4_save) := goodIn_app (goodIn_r _ [11, 12, 13, 14] rfl (by decide +kernel)) ggX7_setLimit_X4_save
set_option maxRecDepth 20000 in
theorem ggX7_setLimit_X3_limitAt : GoodIn wsX7_setLimit wsX3_limitAt := goodIn_r _ [62, 28, 75, 76, 77, 78, 79, 80, 81, 82, 83, 84, 85, 86, 87, 88] rfl (by decide +kernel)
set_option maxRecDepth 20000 in
theorem gX7_setLimit_X3_limitAt : GoodIn wsX7_setLimit (wsV RX7 115 RX3 yX3_limitAt wsX3_limitAt) := goodIn_app (goodIn_r _ [59, 60, 61, 25] rfl (by decide +kernel)) ggX7_setLimit_X3_limitAt
set_option maxRecDepth 20000 in
theorem ggX7_setLimit_X3_changeLimit : GoodIn wsX7_setLimit wsX3_changeLimit := goodIn_r _ [66, 28, 75, 76, 77, 78, 79, 80, 81, 82, 83, 84, 85, 86, 87, 88] rfl (by decide +kernel)
set_option maxRecDepth 20000 in
theorem gX7_setLimit_X3_changeLimit : GoodIn wsX7_setLimit (wsV RX7 119 RX3 yX3_changeLimit wsX3_changeLimit) := goodIn_app (goodIn_r _ [63, 64, 65, 25] rfl (by decide +kernel)) ggX7_setLimit_X3_changeLimit
set_option maxRecDepth 20000 in
theorem ggX7_setLaps_X4_save : GoodIn wsX7_setLaps wsX4_save := goodIn_r _ [13, 14, 15, 16, 17, 18, 12, 19, 20, 21, 22, 23, 24, 25, 26, 27, 28, 29, 30, 31, 32, 33, 34, 35, 36, 37, 38, 39, 40, 41, 42, 43, 44, 45, 46, 47, 48, 49, 50, 51, 52, 53, 54, 55, 56, 77, 78, 63, 64, 65, 66, 67, 68, 69, 70, 71, 72, 73, 74, 75, 76, 79, 80, 81, 82, 83, 84, 85, 86, 87, 88, 89, 90, 91, 92, 93] rfl (by decide +kernel)
set_option maxRecDepth 20000 in
theorem gX7_setLaps_X4_save : GoodIn wsX7_setLaps (wsV RX7 71 RX4 yX4_save wsX4_save) := goodIn_app (goodIn_r _ [9, 10, 11, 12] rfl (by decide +kernel)) ggX7_setLaps_X4_save
set_option maxRecDepth 20000 in
theorem ggX7_begin_X4_save : GoodIn wsX7_begin wsX4_save := goodIn_r _ [10, 11, 12, 13, 14, 15, 9, 16, 17, 18, 19, 20, 21, 22, 23, 24, 25, 26, 27, 28, 29, 30, 31, 32, 33, 34, 35, 36, 37, 38, 39, 40, 41, 42, 43, 44, 45, 46, 47, 48, 49, 50, 51, 52, 53, 87, 88, 73, 74, 75, 76, 77, 78, 79, 80, 81, 82, 83, 84, 85, 86, 89, 90, 91, 92, 93, 94, 95, 96, 97, 98, 99, 100, 101, 102, 103] rfl (by decide +kernel)
set_option maxRecDepth 20000 in
theorem gX7_begin_X4_save : GoodIn wsX7_begin (wsV RX7 71 RX4 yX4_save wsX4_save) := goodIn_app (goodIn_r _ [6, 7, 8, 9] rfl (by decide +kernel)) ggX7_begin_X4_save
set_option maxRecDepth 20000 in
theorem ggX7_begin_X3_startRace : GoodIn wsX7_begin wsX3_startRace := goodIn_r _ [57, 22, 26, 27, 28, 29, 30, 31, 32, 33, 58, 59, 60, 20, 61, 62, 24, 63, 64, 65, 38, 66, 43, 44, 41, 45, 46, 42, 47, 48, 49, 50, 52, 53, 73, 74, 75, 76, 77, 78, 79, 80, 81, 82, 83, 84, 85, 86, 89, 90, 91, 92, 93, 94, 95, 96, 97, 98, 99, 100, 101, 102, 103] rfl (by decide +kernel)
set_option maxRecDepth 20000 in
theorem gX7_begin_X3_startRace : GoodIn wsX7_begin (wsV RX7 132 RX3 yX3_startRace wsX3_startRace) := goodIn_app (goodIn_r _ [54, 55, 56, 20] rfl (by decide +kernel)) ggX7_begin_X3_startRace
set_option maxRecDepth 20000 in
theorem ggX7_pass_X7_checkSeconds : GoodIn wsX7_pass wsX7_checkSeconds := goodIn_ca (goodIn_r _ [7, 8, 9] rfl (by decide +kernel)) (goodIn_sub (fun _ h => List.mem_cons_of_mem _ (List.mem_append_left _ (List.mem_append_right _ h))) (by decide +kernel))
set_option maxRecDepth 20000 in
theorem gX7_pass_X7_checkSeconds : GoodIn wsX7_pass (va_wsS RX7 135 yX7_checkSeconds wsX7_checkSeconds) := goodIn_app (goodIn_r _ [4, 5, 6] rfl (by decide +kernel)) ggX7_pass_X7_checkSeconds
set_option maxRecDepth 20000 in
theorem ggX7_pass_X7_checkRacing : GoodIn wsX7_pass wsX7_checkRacing := goodIn_ca (goodIn_r _ [13, 14, 15, 2, 16, 162, 163, 164, 165, 166, 167, 168, 169, 170, 171, 172, 173, 174, 175, 176, 177, 178, 179, 180, 181] rfl (by decide +kernel)) (goodIn_sub (fun _ h => List.mem_cons_of_mem _ (List.mem_append_right _ h)) (by decide +kernel))
set_option maxRecDepth 20000 in
theorem gX7_pass_X7_checkRacing : GoodIn wsX7_pass (wsV RX7 138 RX7 yX7_checkRacing wsX7_checkRacing) := goodIn_app (goodIn_r _ [10, 11, 12, 6] rfl (by decide +kernel)) ggX7_pass_X7_checkRacing
set_option maxRecDepth 20000 in
theorem ggX7_pass_X4_save : GoodIn wsX7_pass wsX4_save := goodIn_r _ [21, 22, 23, 24, 25, 26, 20, 27, 28, 29, 30, 31, 32, 33, 34, 35, 36, 37, 38, 39, 40, 41, 42, 43, 44, 45, 46, 47, 48, 49, 50, 51, 52, 53, 54, 55, 56, 57, 58, 59, 60, 61, 62, 63, 64, 182, 183, 168, 169, 170, 171, 172, 173, 174, 175, 176, 177, 178, 179, 180, 181, 184, 185, 186, 187, 188, 189, 190, 191, 192, 193, 194, 195, 196, 197, 198] rfl (by decide +kernel)
set_option maxRecDepth 20000 in
theorem gX7_pass_X4_save : GoodIn wsX7_pass (wsV RX7 71 RX4 yX4_save wsX4_save) := goodIn_app (goodIn_r _ [17, 18, 19, 20] rfl (by decide +kernel)) ggX7_pass_X4_save
set_option maxRecDepth 20000 in
theorem ggX7_pass_X3_letGoBy : GoodIn wsX7_pass wsX3_letGoBy := goodIn_r _ [68, 37, 38, 35, 39, 69, 70, 71, 31, 72, 33, 73, 74, 75, 76, 77, 78, 79, 80, 81, 82, 83, 84, 85, 49, 86, 59, 63, 54, 87, 88, 89, 90, 91, 92, 93, 94, 95, 55, 60, 96, 97, 98, 99, 41, 100, 42, 101, 102, 103, 104, 105, 106, 107, 108, 109, 110, 111, 112, 113, 114, 115, 116, 117, 118, 119, 120, 121, 122, 123, 124, 125, 126, 127, 128, 129, 130, 131, 132, 34, 133, 134, 135, 136, 137, 138, 139, 140, 56, 141, 142, 143, 144, 145, 36, 146, 147, 40, 43, 148, 149, 150, 151, 152, 153, 154, 155, 156, 157, 45, 158, 159, 160, 161, 61, 57, 168, 169, 170, 171, 172, 173, 174, 175, 176, 177, 178, 179, 180, 181, 184, 185, 186, 187, 188, 189, 190, 191, 192, 193, 194, 195, 196, 197, 198] rfl (by decide +kernel)
set_option maxRecDepth 20000 in
theorem gX7_pass_X3_letGoBy : GoodIn wsX7_pass (wsV RX7 144 RX3 yX3_letGoBy wsX3_letGoBy) := goodIn_app (goodIn_r _ [65, 66, 67, 31] rfl (by decide +kernel)) ggX7_pass_X3_letGoBy
set_option maxRecDepth 20000 in
theorem ggX7_append_X2_isFull : GoodIn wsX7_append wsX2_isFull := goodIn_r _ [11, 12, 13, 24, 25] rfl (by decide +kernel)
set_option maxRecDepth 20000 in
theorem gX7_append_X2_isFull : GoodIn wsX7_append (wsV RX7 149 RX2 yX2_isFull wsX2_isFull) := goodIn_app (goodIn_r _ [7, 8, 9, 10] rfl (by decide +kernel)) ggX7_append_X2_isFull
set_option maxRecDepth 20000 in
theorem ggX7_append_X2_add : GoodIn wsX7_append wsX2_add := goodIn_r _ [17, 12, 13, 24, 25] rfl (by decide +kernel)
set_option maxRecDepth 20000 in
theorem gX7_append_X2_add : GoodIn wsX7_append (wsV RX7 155 RX2 yX2_add wsX2_add) := goodIn_app (goodIn_r _ [14, 15, 16, 10] rfl (by decide +kernel)) ggX7_append_X2_add
set_option maxRecDepth 20000 in
theorem ggX7_firstError_X7_readText : GoodIn wsX7_firstError wsX7_readText := goodIn_r _ [5, 6, 7, 8, 9, 10, 11, 12, 13, 14, 15, 16, 17, 18, 19, 20, 21, 22, 23, 24, 25, 26, 27, 28, 29, 30, 31, 32, 33, 34, 35, 36, 37, 38, 39, 40, 41, 42, 43, 44, 45, 46, 47, 48, 49, 50, 51, 52, 53, 54, 55, 56, 57, 58, 59, 60, 61, 62, 63, 64, 65, 66, 67, 68] rfl (by decide +kernel)
set_option maxRecDepth 20000 in
theorem gX7_firstError_X7_readText : GoodIn wsX7_firstError (wsV RX7 162 RX7 yX7_readText wsX7_readText) := goodIn_app (goodIn_r _ [1, 2, 3, 4] rfl (by decide +kernel)) ggX7_firstError_X7_readText
set_option maxRecDepth 20000 in
theorem ggX7_follow_X7_readText : GoodIn wsX7_follow wsX7_readText := goodIn_r _ [15, 7, 5, 6, 16, 17, 18, 19, 20, 21, 22, 23, 24, 25, 26, 27, 28, 29, 30, 31, 32, 33, 34, 35, 36, 37, 38, 39, 40, 41, 42, 43, 44, 45, 46, 47, 48, 49, 50, 51, 52, 53, 54, 55, 56, 57, 58, 59, 60, 61, 62, 63, 234, 235, 236, 237, 238, 239, 240, 241, 242, 243, 244, 245] rfl (by decide +kernel)
set_option maxRecDepth 20000 in
theorem gX7_follow_X7_readText : GoodIn wsX7_follow (wsV RX7 162 RX7 yX7_readText wsX7_readText) := goodIn_app (goodIn_r _ [11, 12, 13, 14] rfl (by decide +kernel)) ggX7_follow_X7_readText
set_option maxRecDepth 20000 in
theorem ggX7_follow_X1_isWhole : GoodIn wsX7_follow wsX1_isWhole := goodIn_r _ [38, 21, 24, 39, 40, 41, 19, 42, 22, 43, 44, 45, 46, 242, 243, 244, 245] rfl (by decide +kernel)
set_option maxRecDepth 20000 in
theorem gX7_follow_X1_isWhole : GoodIn wsX7_follow (wsV RX7 165 RX1 yX1_isWhole wsX1_isWhole) := goodIn_app (goodIn_r _ [64, 36, 37, 19] rfl (by decide +kernel)) ggX7_follow_X1_isWhole
set_option maxRecDepth 20000 in
theorem ggX7_follow_X7_followOnTrial : GoodIn wsX7_follow wsX7_followOnTrial := goodIn_r _ [68, 10, 9, 7, 5, 6, 69, 70, 71, 72, 73, 74, 75, 76, 77, 78, 79, 80, 81, 82, 83, 84, 85, 86, 87, 88, 89, 90, 91, 92, 93, 94, 95, 96, 97, 98, 99, 100, 101, 102, 103, 104, 105, 16, 17, 18, 19, 20, 21, 22, 23, 24, 25, 26, 27, 28, 29, 30, 106, 107, 108, 14, 109, 110, 111, 112, 113, 114, 115, 116, 117, 118, 119, 120, 121, 122, 123, 124, 125, 126, 127, 128, 129, 130, 131, 132, 133, 134, 135, 136, 137, 138, 139, 140, 141, 142, 143, 144, 145, 146, 147, 148, 149, 150, 151, 152, 153, 154, 155, 156, 157, 158, 159, 160, 161, 162, 163, 164, 165, 166, 167, 168, 169, 170, 171, 172, 173, 174, 175, 176, 177, 178, 179, 180, 181, 182, 183, 184, 185, 186, 187, 188, 189, 190, 191, 192, 193, 194, 195, 196, 197, 198, 199, 200, 201, 202, 203, 204, 205, 206, 207, 208, 209, 210, 211, 212, 213, 214, 215, 216, 217, 218, 219, 220, 221, 31, 32, 33, 34, 35, 36, 37, 38, 39, 40, 41, 42, 43, 44, 45, 46, 47, 48, 49, 50, 51, 52, 53, 54, 55, 56, 57, 58, 59, 60, 61, 62, 63, 234, 235, 236, 237, 238, 239, 240, 241, 246, 247, 248, 249, 250, 251, 252, 253, 254, 255, 256, 257, 258, 259, 260, 261, 262, 263, 264, 265, 266, 267, 268, 269, 270, 271, 272, 273, 274, 242, 243, 244, 245] rfl (by decide +kernel)
set_option maxRecDepth 20000 in
theorem gX7_follow_X7_followOnTrial : GoodIn wsX7_follow (wsV RX7 170 RX7 yX7_followOnTrial wsX7_followOnTrial) := goodIn_app (goodIn_r _ [65, 66, 67, 14] rfl (by decide +kernel)) ggX7_follow_X7_followOnTrial
set_option maxRecDepth 20000 in
theorem ggX7_follow_X4_save : GoodIn wsX7_follow wsX4_save := goodIn_r _ [226, 227, 228, 229, 230, 231, 225, 232, 233, 70, 71, 72, 73, 74, 75, 76, 77, 78, 79, 80, 81, 82, 83, 84, 85, 86, 87, 88, 89, 90, 91, 92, 93, 94, 95, 96, 97, 98, 99, 100, 101, 102, 103, 104, 105, 275, 276, 246, 247, 248, 249, 250, 251, 252, 253, 254, 255, 256, 257, 258, 259, 260, 261, 262, 263, 264, 265, 266, 267, 268, 269, 270, 271, 272, 273, 274] rfl (by decide +kernel)
set_option maxRecDepth 20000 in
theorem gX7_follow_X4_save : GoodIn wsX7_follow (wsV RX7 71 RX4 yX4_save wsX4_save) := goodIn_app (goodIn_r _ [222, 223, 224, 225] rfl (by decide +kernel)) ggX7_follow_X4_save
set_option maxRecDepth 20000 in
theorem ggX7_follow_X3_takeFrom : GoodIn wsX7_follow wsX3_takeFrom := goodIn_r _ [73, 74, 75, 76, 77, 78, 79, 80, 81, 82, 83, 84, 85, 86, 87, 88, 89, 90, 91, 92, 93, 94, 95, 96, 97, 98, 99, 100, 101, 102, 103, 104, 105, 246, 247, 248, 249, 250, 251, 252, 253, 254, 255, 256, 257, 258, 259, 260, 261, 262, 263, 264, 265, 266, 267, 268, 269, 270, 271, 272, 273, 274] rfl (by decide +kernel)
set_option maxRecDepth 20000 in
theorem gX7_follow_X3_takeFrom : GoodIn wsX7_follow (wsV RX7 175 RX3 yX3_takeFrom wsX3_takeFrom) := goodIn_app (goodIn_r _ [69, 70, 71, 72] rfl (by decide +kernel)) ggX7_follow_X3_takeFrom
set_option maxRecDepth 20000 in
theorem ggX7_keep_X7_checkSlot : GoodIn wsX7_keep wsX7_checkSlot := goodIn_ca (goodIn_r _ [6, 7, 8] rfl (by decide +kernel)) (goodIn_sub (fun _ h => List.mem_cons_of_mem _ (List.mem_append_right _ h)) (by decide +kernel))
set_option maxRecDepth 20000 in
theorem gX7_keep_X7_checkSlot : GoodIn wsX7_keep (va_wsS RX7 178 yX7_checkSlot wsX7_checkSlot) := goodIn_app (goodIn_r _ [3, 4, 5] rfl (by decide +kernel)) ggX7_keep_X7_checkSlot
set_option maxRecDepth 20000 in
theorem ggX7_keep_X5_put : GoodIn wsX7_keep wsX5_put := goodIn_r _ [13, 14, 15, 16, 17, 18, 19, 20, 21, 22, 23, 24, 25, 26, 27, 28, 29, 30, 31, 32, 33, 34, 35, 36, 37, 38, 39, 40, 41, 42, 43, 44, 45, 46, 47, 48, 49, 50, 51, 52, 59, 60, 61, 62, 63, 64, 65, 66, 67, 68, 69, 70, 71, 72, 73, 74, 75, 76, 77, 78, 79, 80, 81, 82, 83, 84, 85, 86, 87, 88, 89] rfl (by decide +kernel)
set_option maxRecDepth 20000 in
theorem gX7_keep_X5_put : GoodIn wsX7_keep (wsV RX7 181 RX5 yX5_put wsX5_put) := goodIn_app (goodIn_r _ [9, 10, 11, 12] rfl (by decide +kernel)) ggX7_keep_X5_put
set_option maxRecDepth 20000 in
theorem ggX7_goBack_X7_checkSlot : GoodIn wsX7_goBack wsX7_checkSlot := goodIn_ca (goodIn_r _ [9, 10, 11] rfl (by decide +kernel)) (goodIn_sub (fun _ h => List.mem_cons_of_mem _ (List.mem_append_right _ h)) (by decide +kernel))
set_option maxRecDepth 20000 in
theorem gX7_goBack_X7_checkSlot : GoodIn wsX7_goBack (va_wsS RX7 178 yX7_checkSlot wsX7_checkSlot) := goodIn_app (goodIn_r _ [6, 7, 8] rfl (by decide +kernel)) ggX7_goBack_X7_checkSlot
set_option maxRecDepth 20000 in
theorem ggX7_goBack_X5_kept : GoodIn wsX7_goBack wsX5_kept := goodIn_r _ [16, 17, 18, 74, 75] rfl (by decide +kernel)
set_option maxRecDepth 20000 in
theorem gX7_goBack_X5_kept : GoodIn wsX7_goBack (wsV RX7 185 RX5 yX5_kept wsX5_kept) := goodIn_app (goodIn_r _ [12, 13, 14, 15] rfl (by decide +kernel)) ggX7_goBack_X5_kept
set_option maxRecDepth 20000 in
theorem ggX7_goBack_X4_save : GoodIn wsX7_goBack wsX4_save := goodIn_r _ [23, 24, 25, 26, 27, 28, 22, 29, 30, 31, 32, 33, 34, 35, 36, 37, 38, 39, 40, 41, 42, 43, 44, 45, 46, 47, 48, 49, 50, 51, 52, 53, 54, 55, 56, 57, 58, 59, 60, 61, 62, 63, 64, 65, 66, 76, 77, 78, 79, 80, 81, 82, 83, 84, 85, 86, 87, 88, 89, 90, 91, 92, 93, 94, 95, 96, 97, 98, 99, 100, 101, 102, 103, 104, 105, 106] rfl (by decide +kernel)
set_option maxRecDepth 20000 in
theorem gX7_goBack_X4_save : GoodIn wsX7_goBack (wsV RX7 71 RX4 yX4_save wsX4_save) := goodIn_app (goodIn_r _ [19, 20, 21, 22] rfl (by decide +kernel)) ggX7_goBack_X4_save
set_option maxRecDepth 20000 in
theorem ggX7_goBack_X3_takeFrom : GoodIn wsX7_goBack wsX3_takeFrom := goodIn_r _ [34, 35, 36, 37, 38, 39, 40, 41, 42, 43, 44, 45, 46, 47, 48, 49, 50, 51, 52, 53, 54, 55, 56, 57, 58, 59, 60, 61, 62, 63, 64, 65, 66, 78, 79, 80, 81, 82, 83, 84, 85, 86, 87, 88, 89, 90, 91, 92, 93, 94, 95, 96, 97, 98, 99, 100, 101, 102, 103, 104, 105, 106] rfl (by decide +kernel)
set_option maxRecDepth 20000 in
theorem gX7_goBack_X3_takeFrom : GoodIn wsX7_goBack (wsV RX7 175 RX3 yX3_takeFrom wsX3_takeFrom) := goodIn_app (goodIn_r _ [67, 31, 32, 33] rfl (by decide +kernel)) ggX7_goBack_X3_takeFrom
set_option maxRecDepth 20000 in
theorem ggX7_undo_X4_dropLatest : GoodIn wsX7_undo wsX4_dropLatest := goodIn_r _ [9, 10, 11, 55, 56] rfl (by decide +kernel)
set_option maxRecDepth 20000 in
theorem gX7_undo_X4_dropLatest : GoodIn wsX7_undo (wsV RX7 191 RX4 yX4_dropLatest wsX4_dropLatest) := goodIn_app (goodIn_r _ [5, 6, 7, 8] rfl (by decide +kernel)) ggX7_undo_X4_dropLatest
set_option maxRecDepth 20000 in
theorem ggX7_undo_X3_takeFrom : GoodIn wsX7_undo wsX3_takeFrom := goodIn_r _ [16, 17, 18, 19, 20, 21, 22, 23, 24, 25, 26, 27, 28, 29, 30, 31, 32, 33, 34, 35, 36, 37, 38, 39, 40, 41, 42, 43, 44, 45, 46, 47, 48, 57, 58, 59, 60, 61, 62, 63, 64, 65, 66, 67, 68, 69, 70, 71, 72, 73, 74, 75, 76, 77, 78, 79, 80, 81, 82, 83, 84, 85] rfl (by decide +kernel)
set_option maxRecDepth 20000 in
theorem gX7_undo_X3_takeFrom : GoodIn wsX7_undo (wsV RX7 175 RX3 yX3_takeFrom wsX3_takeFrom) := goodIn_app (goodIn_r _ [12, 13, 14, 15] rfl (by decide +kernel)) ggX7_undo_X3_takeFrom
set_option maxRecDepth 20000 in
theorem ggX7_flown_X7_known : GoodIn wsX7_flown wsX7_known := goodIn_ca (goodIn_r _ [6, 7, 8, 9, 10, 11, 12, 13, 14, 15, 16, 32, 33, 34, 35, 36, 37, 38, 39, 40, 41, 42, 43, 44, 45, 46, 47, 48, 49, 50, 51] rfl (by decide +kernel)) (goodIn_sub (fun _ h => List.mem_cons_of_mem _ (List.mem_append_right _ h)) (by decide +kernel))
set_option maxRecDepth 20000 in
theorem gX7_flown_X7_known : GoodIn wsX7_flown (wsV RX7 79 RX7 yX7_known wsX7_known) := goodIn_app (goodIn_r _ [2, 3, 4, 5] rfl (by decide +kernel)) ggX7_flown_X7_known
set_option maxRecDepth 20000 in
theorem ggX7_lapsOf_X7_known : GoodIn wsX7_lapsOf wsX7_known := goodIn_ca (goodIn_r _ [5, 6, 7, 8, 9, 10, 11, 12, 13, 14, 15, 22, 23, 24, 25, 26, 27, 28, 29, 30, 31, 32, 33, 34, 35, 36, 37, 38, 39, 40, 41] rfl (by decide +kernel)) (goodIn_sub (fun _ h => List.mem_cons_of_mem _ (List.mem_append_right _ h)) (by decide +kernel))
set_option maxRecDepth 20000 in
theorem gX7_lapsOf_X7_known : GoodIn wsX7_lapsOf (wsV RX7 79 RX7 yX7_known wsX7_known) := goodIn_app (goodIn_r _ [1, 2, 3, 4] rfl (by decide +kernel)) ggX7_lapsOf_X7_known
set_option maxRecDepth 20000 in
theorem ggX7_lapsOf_X6_lapsOver : GoodIn wsX7_lapsOf wsX6_lapsOver := goodIn_r _ [20, 21, 42, 43, 44, 45, 46, 47, 48, 49, 50, 51, 52, 53, 54, 55, 56] rfl (by decide +kernel)
set_option maxRecDepth 20000 in
theorem gX7_lapsOf_X6_lapsOver : GoodIn wsX7_lapsOf (wsV RX7 201 RX6 yX6_lapsOver wsX6_lapsOver) := goodIn_app (goodIn_r _ [16, 17, 18, 19] rfl (by decide +kernel)) ggX7_lapsOf_X6_lapsOver
set_option maxRecDepth 20000 in
theorem ggX7_speedOf_X7_known : GoodIn wsX7_speedOf wsX7_known := goodIn_ca (goodIn_r _ [6, 7, 8, 9, 10, 11, 12, 13, 14, 15, 16, 32, 33, 34, 35, 36, 37, 38, 39, 40, 41, 42, 43, 44, 45, 46, 47, 48, 49, 50, 51] rfl (by decide +kernel)) (goodIn_sub (fun _ h => List.mem_cons_of_mem _ (List.mem_append_right _ h)) (by decide +kernel))
set_option maxRecDepth 20000 in
theorem gX7_speedOf_X7_known : GoodIn wsX7_speedOf (wsV RX7 79 RX7 yX7_known wsX7_known) := goodIn_app (goodIn_r _ [2, 3, 4, 5] rfl (by decide +kernel)) ggX7_speedOf_X7_known
set_option maxRecDepth 20000 in
theorem ggX7_strengthOf_X7_known : GoodIn wsX7_strengthOf wsX7_known := goodIn_ca (goodIn_r _ [6, 7, 8, 9, 10, 11, 12, 13, 14, 15, 16, 32, 33, 34, 35, 36, 37, 38, 39, 40, 41, 42, 43, 44, 45, 46, 47, 48, 49, 50, 51] rfl (by decide +kernel)) (goodIn_sub (fun _ h => List.mem_cons_of_mem _ (List.mem_append_right _ h)) (by decide +kernel))
set_option maxRecDepth 20000 in
theorem gX7_strengthOf_X7_known : GoodIn wsX7_strengthOf (wsV RX7 79 RX7 yX7_known wsX7_known) := goodIn_app (goodIn_r _ [2, 3, 4, 5] rfl (by decide +kernel)) ggX7_strengthOf_X7_known
set_option maxRecDepth 20000 in
theorem ggX7_wearOf_X7_known : GoodIn wsX7_wearOf wsX7_known := goodIn_ca (goodIn_r _ [6, 7, 8, 9, 10, 11, 12, 13, 14, 15, 16, 32, 33, 34, 35, 36, 37, 38, 39, 40, 41, 42, 43, 44, 45, 46, 47, 48, 49, 50, 51] rfl (by decide +kernel)) (goodIn_sub (fun _ h => List.mem_cons_of_mem _ (List.mem_append_right _ h)) (by decide +kernel))
set_option maxRecDepth 20000 in
theorem gX7_wearOf_X7_known : GoodIn wsX7_wearOf (wsV RX7 79 RX7 yX7_known wsX7_known) := goodIn_app (goodIn_r _ [2, 3, 4, 5] rfl (by decide +kernel)) ggX7_wearOf_X7_known
set_option maxRecDepth 20000 in
theorem ggX7_laneOf_X7_known : GoodIn wsX7_laneOf wsX7_known := goodIn_ca (goodIn_r _ [6, 7, 8, 9, 10, 11, 12, 13, 14, 15, 16, 32, 33, 34, 35, 36, 37, 38, 39, 40, 41, 42, 43, 44, 45, 46, 47, 48, 49, 50, 51] rfl (by decide +kernel)) (goodIn_sub (fun _ h => List.mem_cons_of_mem _ (List.mem_append_right _ h)) (by decide +kernel))
set_option maxRecDepth 20000 in
theorem gX7_laneOf_X7_known : GoodIn wsX7_laneOf (wsV RX7 79 RX7 yX7_known wsX7_known) := goodIn_app (goodIn_r _ [2, 3, 4, 5] rfl (by decide +kernel)) ggX7_laneOf_X7_known
set_option maxRecDepth 20000 in
theorem ggX7_stateOf_X7_known : GoodIn wsX7_stateOf wsX7_known := goodIn_ca (goodIn_r _ [6, 7, 8, 9, 10, 11, 12, 13, 14, 15, 16, 32, 33, 34, 35, 36, 37, 38, 39, 40, 41, 42, 43, 44, 45, 46, 47, 48, 49, 50, 51] rfl (by decide +kernel)) (goodIn_sub (fun _ h => List.mem_cons_of_mem _ (List.mem_append_right _ h)) (by decide +kernel))
set_option maxRecDepth 20000 in
theorem gX7_stateOf_X7_known : GoodIn wsX7_stateOf (wsV RX7 79 RX7 yX7_known wsX7_known) := goodIn_app (goodIn_r _ [2, 3, 4, 5] rfl (by decide +kernel)) ggX7_stateOf_X7_known
set_option maxRecDepth 20000 in
theorem ggX7_paceOf_X7_known : GoodIn wsX7_paceOf wsX7_known := goodIn_ca (goodIn_r _ [6, 7, 8, 9, 10, 11, 12, 13, 14, 15, 16, 32, 33, 34, 35, 36, 37, 38, 39, 40, 41, 42, 43, 44, 45, 46, 47, 48, 49, 50, 51] rfl (by decide +kernel)) (goodIn_sub (fun _ h => List.mem_cons_of_mem _ (List.mem_append_right _ h)) (by decide +kernel))
set_option maxRecDepth 20000 in
theorem gX7_paceOf_X7_known : GoodIn wsX7_paceOf (wsV RX7 79 RX7 yX7_known wsX7_known) := goodIn_app (goodIn_r _ [2, 3, 4, 5] rfl (by decide +kernel)) ggX7_paceOf_X7_known
set_option maxRecDepth 20000 in
theorem ggX7_partnerOf_X7_known : GoodIn wsX7_partnerOf wsX7_known := goodIn_ca (goodIn_r _ [8, 9, 10, 11, 12, 13, 14, 15, 16, 17, 18, 34, 35, 36, 37, 38, 39, 40, 41, 42, 43, 44, 45, 46, 47, 48, 49, 50, 51, 52, 53] rfl (by decide +kernel)) (goodIn_sub (fun _ h => List.mem_cons_of_mem _ (List.mem_append_right _ h)) (by decide +kernel))
set_option maxRecDepth 20000 in
theorem gX7_partnerOf_X7_known : GoodIn wsX7_partnerOf (wsV RX7 79 RX7 yX7_known wsX7_known) := goodIn_app (goodIn_r _ [4, 5, 6, 7] rfl (by decide +kernel)) ggX7_partnerOf_X7_known
set_option maxRecDepth 20000 in
theorem ggX7_isCalledIn_X7_known : GoodIn wsX7_isCalledIn wsX7_known := goodIn_ca (goodIn_r _ [6, 7, 8, 9, 10, 11, 12, 13, 14, 15, 16, 32, 33, 34, 35, 36, 37, 38, 39, 40, 41, 42, 43, 44, 45, 46, 47, 48, 49, 50, 51] rfl (by decide +kernel)) (goodIn_sub (fun _ h => List.mem_cons_of_mem _ (List.mem_append_right _ h)) (by decide +kernel))
set_option maxRecDepth 20000 in
theorem gX7_isCalledIn_X7_known : GoodIn wsX7_isCalledIn (wsV RX7 79 RX7 yX7_known wsX7_known) := goodIn_app (goodIn_r _ [2, 3, 4, 5] rfl (by decide +kernel)) ggX7_isCalledIn_X7_known
set_option maxRecDepth 20000 in
theorem ggX7_limitOf_X7_checkCorner : GoodIn wsX7_limitOf wsX7_checkCorner := goodIn_ca (goodIn_r _ [5, 6, 7] rfl (by decide +kernel)) (goodIn_sub (fun _ h => List.mem_cons_of_mem _ (List.mem_append_right _ h)) (by decide +kernel))
set_option maxRecDepth 20000 in
theorem gX7_limitOf_X7_checkCorner : GoodIn wsX7_limitOf (va_wsS RX7 110 yX7_checkCorner wsX7_checkCorner) := goodIn_app (goodIn_r _ [2, 3, 4] rfl (by decide +kernel)) ggX7_limitOf_X7_checkCorner
set_option maxRecDepth 20000 in
theorem ggX7_limitOf_X3_limitAt : GoodIn wsX7_limitOf wsX3_limitAt := goodIn_r _ [12, 13, 20, 21, 22, 23, 24, 25, 26, 27, 28, 29, 30, 31, 32, 33] rfl (by decide +kernel)
set_option maxRecDepth 20000 in
theorem gX7_limitOf_X3_limitAt : GoodIn wsX7_limitOf (wsV RX7 115 RX3 yX3_limitAt wsX3_limitAt) := goodIn_app (goodIn_r _ [8, 9, 10, 11] rfl (by decide +kernel)) ggX7_limitOf_X3_limitAt
set_option maxRecDepth 20000 in
theorem ggX7_placeByCounting_X7_known : GoodIn wsX7_placeByCounting wsX7_known := goodIn_ca (goodIn_r _ [6, 7, 8, 1, 9, 10, 11, 12, 13, 14, 15, 34, 35, 36, 37, 38, 39, 40, 41, 42, 43, 44, 45, 46, 47, 48, 49, 50, 51, 52, 53] rfl (by decide +kernel)) (goodIn_sub (fun _ h => List.mem_cons_of_mem _ (List.mem_append_right _ h)) (by decide +kernel))
set_option maxRecDepth 20000 in
theorem gX7_placeByCounting_X7_known : GoodIn wsX7_placeByCounting (wsV RX7 79 RX7 yX7_known wsX7_known) := goodIn_app (goodIn_r _ [2, 3, 4, 5] rfl (by decide +kernel)) ggX7_placeByCounting_X7_known
set_option maxRecDepth 20000 in
theorem ggX7_placeByCounting_X3_countAheadOf : GoodIn wsX7_placeByCounting wsX3_countAheadOf := goodIn_r _ [19, 15, 20, 21, 22, 12, 23, 24, 14, 25, 26, 27, 28, 29, 30, 31, 32, 33, 40, 41, 42, 43, 44, 45, 46, 47, 48, 49, 50, 51, 52, 53, 54, 55, 56, 57, 58, 59, 60, 61, 62, 63, 64, 65, 66, 67, 68] rfl (by decide +kernel)
set_option maxRecDepth 20000 in
theorem gX7_placeByCounting_X3_countAheadOf : GoodIn wsX7_placeByCounting (wsV RX7 221 RX3 yX3_countAheadOf wsX3_countAheadOf) := goodIn_app (goodIn_r _ [16, 17, 18, 12] rfl (by decide +kernel)) ggX7_placeByCounting_X3_countAheadOf
set_option maxRecDepth 20000 in
theorem ggX7_birdByOrder_X3_putInOrder : GoodIn wsX7_birdByOrder wsX3_putInOrder := goodIn_r _ [9, 10, 11, 12, 13, 8, 14, 15, 16, 17, 18, 19, 20, 21, 22, 23, 24, 25, 26, 27, 28, 29, 30, 56, 57, 58, 59, 60, 61, 62, 63, 64, 65, 66, 67, 68, 69, 41, 42, 43, 44, 45, 46, 47, 48, 49, 50, 51, 52, 53, 54, 55] rfl (by decide +kernel)
set_option maxRecDepth 20000 in
theorem gX7_birdByOrder_X3_putInOrder : GoodIn wsX7_birdByOrder (wsV RX7 225 RX3 yX3_putInOrder wsX3_putInOrder) := goodIn_app (goodIn_r _ [5, 6, 7, 8] rfl (by decide +kernel)) ggX7_birdByOrder_X3_putInOrder
set_option maxRecDepth 20000 in
theorem ggX7_birdByOrder_X3_inOrder : GoodIn wsX7_birdByOrder wsX3_inOrder := goodIn_r _ [34, 16, 21, 56, 57, 58, 59, 60, 61, 62, 63, 64, 65, 66, 67, 68, 69] rfl (by decide +kernel)
set_option maxRecDepth 20000 in
theorem gX7_birdByOrder_X3_inOrder : GoodIn wsX7_birdByOrder (wsV RX7 228 RX3 yX3_inOrder wsX3_inOrder) := goodIn_app (goodIn_r _ [31, 32, 33, 8] rfl (by decide +kernel)) ggX7_birdByOrder_X3_inOrder
set_option maxRecDepth 20000 in
theorem ggX7_gapAhead_X7_known : GoodIn wsX7_gapAhead wsX7_known := goodIn_ca (goodIn_r _ [6, 7, 8, 1, 9, 10, 11, 12, 13, 14, 15, 37, 38, 39, 40, 41, 42, 43, 44, 45, 46, 47, 48, 49, 50, 51, 52, 53, 54, 55, 56] rfl (by decide +kernel)) (goodIn_sub (fun _ h => List.mem_cons_of_mem _ (List.mem_append_right _ h)) (by decide +kernel))
set_option maxRecDepth 20000 in
theorem gX7_gapAhead_X7_known : GoodIn wsX7_gapAhead (wsV RX7 79 RX7 yX7_known wsX7_known) := goodIn_app (goodIn_r _ [2, 3, 4, 5] rfl (by decide +kernel)) ggX7_gapAhead_X7_known
set_option maxRecDepth 20000 in
theorem ggX7_gapAhead_X3_gapOf : GoodIn wsX7_gapAhead wsX3_gapOf := goodIn_r _ [19, 20, 21, 22, 12, 23, 15, 24, 25, 26, 27, 28, 29, 14, 30, 31, 32, 33, 34, 35, 36, 43, 44, 45, 46, 47, 48, 49, 50, 51, 52, 53, 54, 55, 56, 57, 58, 59, 60, 61, 62, 63, 64, 65, 66, 67, 68, 69, 70, 71] rfl (by decide +kernel)
set_option maxRecDepth 20000 in
theorem gX7_gapAhead_X3_gapOf : GoodIn wsX7_gapAhead (wsV RX7 239 RX3 yX3_gapOf wsX3_gapOf) := goodIn_app (goodIn_r _ [16, 17, 18, 12] rfl (by decide +kernel)) ggX7_gapAhead_X3_gapOf
set_option maxRecDepth 20000 in
theorem ggX7_isDrafting_X7_knownToFly : GoodIn wsX7_isDrafting wsX7_knownToFly := goodIn_ca (goodIn_ca (goodIn_r _ [6, 7, 8, 9, 10, 11, 12, 5, 13, 14, 15, 1, 16, 17, 18, 19, 20, 21, 22, 51, 52, 53, 54, 55, 56, 57, 58, 59, 60, 61, 62, 63, 64, 65, 45, 46, 47, 48, 49, 50, 66, 67, 68, 69, 70, 71, 72, 73, 74, 75, 76, 77, 78, 79] rfl (by decide +kernel)) (goodIn_sub (fun _ h => List.mem_cons_of_mem _ (List.mem_append_left _ (List.mem_append_right _ h))) (by decide +kernel))) (goodIn_sub (fun _ h => List.mem_cons_of_mem _ (List.mem_append_right _ h)) (by decide +kernel))
set_option maxRecDepth 20000 in
theorem gX7_isDrafting_X7_knownToFly : GoodIn wsX7_isDrafting (wsV RX7 242 RX7 yX7_knownToFly wsX7_knownToFly) := goodIn_app (goodIn_r _ [2, 3, 4, 5] rfl (by decide +kernel)) ggX7_isDrafting_X7_knownToFly
set_option maxRecDepth 20000 in
theorem ggX7_isDrafting_X3_nextAhead : GoodIn wsX7_isDrafting wsX3_nextAhead := goodIn_r _ [26, 22, 27, 28, 29, 30, 19, 31, 32, 21, 33, 34, 35, 36, 37, 38, 39, 66, 67, 68, 69, 70, 71, 72, 73, 74, 75, 76, 77, 78, 79, 51, 52, 53, 54, 55, 56, 57, 58, 59, 60, 61, 62, 63, 64, 65] rfl (by decide +kernel)
set_option maxRecDepth 20000 in
theorem gX7_isDrafting_X3_nextAhead : GoodIn wsX7_isDrafting (wsV RX7 245 RX3 yX3_nextAhead wsX3_nextAhead) := goodIn_app (goodIn_r _ [23, 24, 25, 19] rfl (by decide +kernel)) ggX7_isDrafting_X3_nextAhead
set_option maxRecDepth 20000 in
theorem ggX7_isDrafting_X3_draftFeet : GoodIn wsX7_isDrafting wsX3_draftFeet := goodIn_r _ [43, 32, 44, 34, 35, 36, 37, 38, 39, 51, 52, 53, 54, 55, 56, 57, 58, 59, 60, 61, 62, 63, 64, 65] rfl (by decide +kernel)
set_option maxRecDepth 20000 in
theorem gX7_isDrafting_X3_draftFeet : GoodIn wsX7_isDrafting (wsV RX7 249 RX3 yX3_draftFeet wsX3_draftFeet) := goodIn_app (goodIn_r _ [40, 41, 42, 19] rfl (by decide +kernel)) ggX7_isDrafting_X3_draftFeet
set_option maxRecDepth 20000 in
theorem ggX7_whereIs_X7_known : GoodIn wsX7_whereIs wsX7_known := goodIn_ca (goodIn_r _ [5, 6, 7, 8, 9, 10, 11, 12, 13, 14, 15, 22, 23, 24, 25, 26, 27, 28, 29, 30, 31, 32, 33, 34, 35, 36, 37, 38, 39, 40, 41] rfl (by decide +kernel)) (goodIn_sub (fun _ h => List.mem_cons_of_mem _ (List.mem_append_right _ h)) (by decide +kernel))
set_option maxRecDepth 20000 in
theorem gX7_whereIs_X7_known : GoodIn wsX7_whereIs (wsV RX7 79 RX7 yX7_known wsX7_known) := goodIn_app (goodIn_r _ [1, 2, 3, 4] rfl (by decide +kernel)) ggX7_whereIs_X7_known
set_option maxRecDepth 20000 in
theorem ggX7_whereIs_X6_partOfCourse : GoodIn wsX7_whereIs wsX6_partOfCourse := goodIn_r _ [20, 21, 42, 43, 44, 45, 46, 47, 48, 49, 50, 51, 52, 53, 54, 55, 56] rfl (by decide +kernel)
set_option maxRecDepth 20000 in
theorem gX7_whereIs_X6_partOfCourse : GoodIn wsX7_whereIs (wsV RX7 253 RX6 yX6_partOfCourse wsX6_partOfCourse) := goodIn_app (goodIn_r _ [16, 17, 18, 19] rfl (by decide +kernel)) ggX7_whereIs_X6_partOfCourse
set_option maxRecDepth 20000 in
theorem ggX7_allowance_X7_knownToFly : GoodIn wsX7_allowance wsX7_knownToFly := goodIn_ca (goodIn_ca (goodIn_r _ [6, 7, 8, 9, 10, 11, 12, 5, 13, 14, 15, 1, 16, 17, 18, 19, 20, 21, 22, 47, 48, 49, 50, 51, 52, 53, 54, 55, 56, 57, 58, 59, 60, 61, 41, 42, 43, 44, 45, 46, 62, 63, 64, 65, 66, 67, 68, 69, 70, 71, 72, 73, 74, 75] rfl (by decide +kernel)) (goodIn_sub (fun _ h => List.mem_cons_of_mem _ (List.mem_append_left _ (List.mem_append_right _ h))) (by decide +kernel))) (goodIn_sub (fun _ h => List.mem_cons_of_mem _ (List.mem_append_right _ h)) (by decide +kernel))
set_option maxRecDepth 20000 in
theorem gX7_allowance_X7_knownToFly : GoodIn wsX7_allowance (wsV RX7 242 RX7 yX7_knownToFly wsX7_knownToFly) := goodIn_app (goodIn_r _ [2, 3, 4, 5] rfl (by decide +kernel)) ggX7_allowance_X7_knownToFly
set_option maxRecDepth 20000 in
theorem ggX7_allowance_X3_allowedFeet : GoodIn wsX7_allowance wsX3_allowedFeet := goodIn_r _ [26, 27, 28, 29, 30, 31, 32, 33, 34, 35, 36, 37, 38, 19, 39, 40, 47, 48, 49, 50, 51, 52, 53, 54, 55, 56, 57, 58, 59, 60, 61, 62, 63, 64, 65, 66, 67, 68, 69, 70, 71, 72, 73, 74, 75] rfl (by decide +kernel)
set_option maxRecDepth 20000 in
theorem gX7_allowance_X3_allowedFeet : GoodIn wsX7_allowance (wsV RX7 256 RX3 yX3_allowedFeet wsX3_allowedFeet) := goodIn_app (goodIn_r _ [23, 24, 25, 19] rfl (by decide +kernel)) ggX7_allowance_X3_allowedFeet
set_option maxRecDepth 20000 in
theorem ggX7_wouldFly_X7_known : GoodIn wsX7_wouldFly wsX7_known := goodIn_ca (goodIn_r _ [6, 7, 8, 9, 10, 11, 12, 13, 14, 15, 16, 182, 183, 184, 185, 186, 187, 188, 189, 190, 191, 192, 193, 194, 195, 196, 197, 198, 199, 200, 201] rfl (by decide +kernel)) (goodIn_sub (fun _ h => List.mem_cons_of_mem _ (List.mem_append_left _ (List.mem_append_left _ (List.mem_append_right _ h)))) (by decide +kernel))
set_option maxRecDepth 20000 in
theorem gX7_wouldFly_X7_known : GoodIn wsX7_wouldFly (wsV RX7 79 RX7 yX7_known wsX7_known) := goodIn_app (goodIn_r _ [2, 3, 4, 5] rfl (by decide +kernel)) ggX7_wouldFly_X7_known
set_option maxRecDepth 20000 in
theorem ggX7_wouldFly_X7_checkSeconds : GoodIn wsX7_wouldFly wsX7_checkSeconds := goodIn_ca (goodIn_r _ [19, 20, 21] rfl (by decide +kernel)) (goodIn_sub (fun _ h => List.mem_cons_of_mem _ (List.mem_append_left _ (List.mem_append_right _ h))) (by decide +kernel))
set_option maxRecDepth 20000 in
theorem gX7_wouldFly_X7_checkSeconds : GoodIn wsX7_wouldFly (va_wsS RX7 135 yX7_checkSeconds wsX7_checkSeconds) := goodIn_app (goodIn_r _ [17, 18, 5] rfl (by decide +kernel)) ggX7_wouldFly_X7_checkSeconds
set_option maxRecDepth 20000 in
theorem ggX7_wouldFly_X7_checkRacing : GoodIn wsX7_wouldFly wsX7_checkRacing := goodIn_ca (goodIn_r _ [25, 26, 27, 9, 28, 182, 183, 184, 185, 186, 187, 188, 189, 190, 191, 192, 193, 194, 195, 196, 197, 198, 199, 200, 201] rfl (by decide +kernel)) (goodIn_sub (fun _ h => List.mem_cons_of_mem _ (List.mem_append_right _ h)) (by decide +kernel))
set_option maxRecDepth 20000 in
theorem gX7_wouldFly_X7_checkRacing : GoodIn wsX7_wouldFly (wsV RX7 138 RX7 yX7_checkRacing wsX7_checkRacing) := goodIn_app (goodIn_r _ [22, 23, 24, 5] rfl (by decide +kernel)) ggX7_wouldFly_X7_checkRacing
set_option maxRecDepth 20000 in
theorem ggX7_wouldFly_X7_foretell : GoodIn wsX7_wouldFly wsX7_foretell := goodIn_r _ [32, 33, 9, 34, 1, 35, 36, 37, 38, 13, 39, 16, 40, 15, 41, 42, 43, 44, 45, 46, 47, 48, 49, 50, 51, 52, 53, 54, 55, 56, 57, 58, 59, 60, 61, 62, 63, 64, 65, 66, 67, 68, 69, 10, 11, 12, 14, 70, 71, 72, 73, 74, 75, 76, 77, 78, 79, 80, 81, 82, 83, 84, 85, 86, 87, 88, 89, 90, 91, 92, 93, 94, 95, 96, 97, 98, 99, 100, 101, 102, 103, 104, 105, 106, 107, 108, 109, 110, 111, 112, 113, 114, 115, 116, 117, 118, 119, 120, 121, 122, 123, 124, 125, 126, 127, 128, 129, 130, 131, 132, 133, 134, 135, 136, 137, 138, 139, 140, 141, 142, 143, 144, 145, 146, 147, 148, 149, 150, 151, 152, 153, 154, 155, 156, 157, 158, 159, 160, 161, 162, 163, 164, 165, 166, 182, 183, 184, 185, 186, 187, 167, 168, 169, 170, 171, 172, 173, 174, 175, 176, 177, 178, 179, 180, 181, 188, 189, 190, 191, 192, 193, 194, 195, 196, 197, 198, 199, 200, 201] rfl (by decide +kernel)
set_option maxRecDepth 20000 in
theorem gX7_wouldFly_X7_foretell : GoodIn wsX7_wouldFly (wsV RX7 259 RX7 yX7_foretell wsX7_foretell) := goodIn_app (goodIn_r _ [29, 30, 31, 5] rfl (by decide +kernel)) ggX7_wouldFly_X7_foretell
set_option maxRecDepth 20000 in
theorem ggX7_wouldWin_X7_foretellWinner : GoodIn wsX7_wouldWin wsX7_foretellWinner := goodIn_r _ [7, 8, 9, 10, 11, 12, 13, 14, 6, 15, 16, 17, 18, 19, 20, 21, 22, 23, 24, 25, 26, 27, 28, 29, 30, 31, 32, 33, 34, 35, 36, 37, 38, 39, 40, 41, 42, 43, 44, 45, 46, 47, 48, 49, 50, 51, 52, 53, 54, 55, 56, 57, 58, 59, 60, 61, 62, 63, 64, 65, 66, 67, 68, 69, 70, 71, 72, 73, 74, 75, 76, 77, 78, 79, 80, 81, 82, 83, 84, 85, 86, 87, 88, 89, 90, 91, 92, 93, 94, 95, 96, 97, 98, 99, 100, 101, 102, 103, 104, 105, 106, 107, 108, 109, 110, 111, 112, 113, 114, 115, 116, 117, 118, 119, 120, 121, 122, 123, 124, 125, 126, 127, 128, 129, 130, 131, 132, 133, 134, 135, 136, 137, 138, 139, 140, 141, 142, 143, 144, 145, 146, 147, 148, 149, 150, 151, 152, 153, 154, 155, 156, 157, 158, 159, 160, 161, 162, 163, 164, 165, 166, 167, 168, 169, 170, 171, 172, 173, 174, 175, 176, 177, 178, 179, 180, 181, 182, 183, 184, 185, 186, 187, 188, 189] rfl (by decide +kernel)
set_option maxRecDepth 20000 in
theorem gX7_wouldWin_X7_foretellWinner : GoodIn wsX7_wouldWin (wsV RX7 263 RX7 yX7_foretellWinner wsX7_foretellWinner) := goodIn_app (goodIn_r _ [3, 4, 5, 6] rfl (by decide +kernel)) ggX7_wouldWin_X7_foretellWinner
set_option maxRecDepth 20000 in
theorem ggX7_secondsToNext_X7_foretellSeconds : GoodIn wsX7_secondsToNext wsX7_foretellSeconds := goodIn_r _ [7, 8, 9, 10, 11, 12, 13, 14, 15, 16, 17, 18, 19, 20, 21, 22, 23, 24, 25, 26, 27, 28, 29, 30, 31, 32, 33, 34, 35, 36, 37, 38, 39, 40, 41, 42, 43, 44, 45, 46, 47, 48, 49, 50, 51, 52, 53, 54, 55, 56, 57, 58, 59, 60, 61, 62, 63, 64, 65, 66, 67, 68, 69, 70, 71, 72, 73, 74, 75, 76, 77, 78, 79, 80, 81, 82, 83, 84, 85, 86, 87, 88, 89, 90, 91, 92, 93, 94, 95, 96, 97, 98, 99, 100, 101, 102, 103, 104, 105, 106, 107, 108, 109, 110, 111, 112, 113, 114, 115, 116, 117, 118, 119, 120, 121, 122, 123, 124, 125, 126, 127, 128, 129, 130, 131, 132, 133, 134, 135, 136, 137, 138, 139, 140, 141, 142, 143, 144, 145, 146, 147, 148, 149, 150, 151, 152, 153, 154, 155, 156, 157, 158, 159, 160, 161, 162, 163, 164, 165, 166, 167, 168, 169, 170, 171, 172, 173, 174, 175, 176, 177, 178, 179, 180] rfl (by decide +kernel)
set_option maxRecDepth 20000 in
theorem gX7_secondsToNext_X7_foretellSeconds : GoodIn wsX7_secondsToNext (wsV RX7 268 RX7 yX7_foretellSeconds wsX7_foretellSeconds) := goodIn_app (goodIn_r _ [3, 4, 5, 6] rfl (by decide +kernel)) ggX7_secondsToNext_X7_foretellSeconds
set_option maxRecDepth 20000 in
theorem ggX7_flownWithPace_X7_known : GoodIn wsX7_flownWithPace wsX7_known := goodIn_ca (goodIn_r _ [5, 6, 7, 8, 9, 10, 11, 12, 13, 14, 15, 170, 171, 172, 173, 174, 175, 176, 177, 178, 179, 180, 181, 182, 183, 184, 185, 186, 187, 188, 189] rfl (by decide +kernel)) (goodIn_sub (fun _ h => List.mem_cons_of_mem _ (List.mem_append_left _ (List.mem_append_left _ (List.mem_append_right _ h)))) (by decide +kernel))
set_option maxRecDepth 20000 in
theorem gX7_flownWithPace_X7_known : GoodIn wsX7_flownWithPace (wsV RX7 79 RX7 yX7_known wsX7_known) := goodIn_app (goodIn_r _ [1, 2, 3, 4] rfl (by decide +kernel)) ggX7_flownWithPace_X7_known
set_option maxRecDepth 20000 in
theorem ggX7_flownWithPace_X7_checkPace : GoodIn wsX7_flownWithPace wsX7_checkPace := goodIn_ca (goodIn_r _ [18, 19, 20, 21, 22, 4, 23] rfl (by decide +kernel)) (goodIn_sub (fun _ h => List.mem_cons_of_mem _ (List.mem_append_left _ (List.mem_append_right _ h))) (by decide +kernel))
set_option maxRecDepth 20000 in
theorem gX7_flownWithPace_X7_checkPace : GoodIn wsX7_flownWithPace (va_wsS RX7 83 yX7_checkPace wsX7_checkPace) := goodIn_app (goodIn_r _ [16, 17, 4] rfl (by decide +kernel)) ggX7_flownWithPace_X7_checkPace
set_option maxRecDepth 20000 in
theorem ggX7_flownWithPace_X7_checkRacing : GoodIn wsX7_flownWithPace wsX7_checkRacing := goodIn_ca (goodIn_r _ [27, 28, 29, 8, 30, 170, 171, 172, 173, 174, 175, 176, 177, 178, 179, 180, 181, 182, 183, 184, 185, 186, 187, 188, 189] rfl (by decide +kernel)) (goodIn_sub (fun _ h => List.mem_cons_of_mem _ (List.mem_append_right _ h)) (by decide +kernel))
set_option maxRecDepth 20000 in
theorem gX7_flownWithPace_X7_checkRacing : GoodIn wsX7_flownWithPace (wsV RX7 138 RX7 yX7_checkRacing wsX7_checkRacing) := goodIn_app (goodIn_r _ [24, 25, 26, 4] rfl (by decide +kernel)) ggX7_flownWithPace_X7_checkRacing
set_option maxRecDepth 20000 in
theorem ggX7_flownWithPace_X7_foretell : GoodIn wsX7_flownWithPace wsX7_foretell := goodIn_r _ [34, 35, 8, 36, 37, 38, 39, 40, 41, 12, 42, 15, 43, 14, 44, 45, 46, 47, 48, 49, 50, 51, 52, 53, 54, 55, 56, 57, 58, 59, 60, 61, 62, 63, 64, 65, 66, 67, 68, 69, 70, 71, 72, 9, 10, 11, 13, 73, 74, 75, 76, 77, 78, 79, 80, 81, 82, 83, 84, 85, 86, 87, 88, 89, 90, 91, 92, 93, 94, 95, 96, 97, 98, 99, 100, 101, 102, 103, 104, 105, 106, 107, 108, 109, 110, 111, 112, 113, 114, 115, 116, 117, 118, 119, 120, 121, 122, 123, 124, 125, 126, 127, 128, 129, 130, 131, 132, 133, 134, 135, 136, 137, 138, 139, 140, 141, 142, 143, 144, 145, 146, 147, 148, 149, 150, 151, 152, 153, 154, 155, 156, 157, 158, 159, 160, 161, 162, 163, 164, 165, 166, 167, 168, 169, 170, 171, 172, 173, 174, 175, 190, 191, 192, 193, 194, 195, 196, 197, 198, 199, 200, 201, 202, 203, 204, 176, 177, 178, 179, 180, 181, 182, 183, 184, 185, 186, 187, 188, 189] rfl (by decide +kernel)
set_option maxRecDepth 20000 in
theorem gX7_flownWithPace_X7_foretell : GoodIn wsX7_flownWithPace (wsV RX7 259 RX7 yX7_foretell wsX7_foretell) := goodIn_app (goodIn_r _ [31, 32, 33, 4] rfl (by decide +kernel)) ggX7_flownWithPace_X7_foretell
set_option maxRecDepth 20000 in
theorem ggX7_bestPace_X7_known : GoodIn wsX7_bestPace wsX7_known := goodIn_ca (goodIn_r _ [5, 6, 7, 8, 9, 10, 11, 12, 13, 14, 15, 166, 167, 168, 169, 170, 171, 172, 173, 174, 175, 176, 177, 178, 179, 180, 181, 182, 183, 184, 185] rfl (by decide +kernel)) (goodIn_sub (fun _ h => List.mem_cons_of_mem _ (List.mem_append_left _ (List.mem_append_right _ h))) (by decide +kernel))
set_option maxRecDepth 20000 in
theorem gX7_bestPace_X7_known : GoodIn wsX7_bestPace (wsV RX7 79 RX7 yX7_known wsX7_known) := goodIn_app (goodIn_r _ [1, 2, 3, 4] rfl (by decide +kernel)) ggX7_bestPace_X7_known
set_option maxRecDepth 20000 in
theorem ggX7_bestPace_X7_checkRacing : GoodIn wsX7_bestPace wsX7_checkRacing := goodIn_ca (goodIn_r _ [19, 20, 21, 8, 22, 166, 167, 168, 169, 170, 171, 172, 173, 174, 175, 176, 177, 178, 179, 180, 181, 182, 183, 184, 185] rfl (by decide +kernel)) (goodIn_sub (fun _ h => List.mem_cons_of_mem _ (List.mem_append_right _ h)) (by decide +kernel))
set_option maxRecDepth 20000 in
theorem gX7_bestPace_X7_checkRacing : GoodIn wsX7_bestPace (wsV RX7 138 RX7 yX7_checkRacing wsX7_checkRacing) := goodIn_app (goodIn_r _ [16, 17, 18, 4] rfl (by decide +kernel)) ggX7_bestPace_X7_checkRacing
set_option maxRecDepth 20000 in
theorem ggX7_bestPace_X7_foretellBestPace : GoodIn wsX7_bestPace wsX7_foretellBestPace := goodIn_r _ [26, 27, 28, 29, 4, 30, 31, 8, 32, 33, 34, 35, 36, 37, 12, 38, 15, 39, 14, 40, 41, 42, 43, 44, 45, 46, 47, 48, 49, 50, 51, 52, 53, 54, 55, 56, 57, 58, 59, 60, 61, 62, 63, 64, 65, 66, 67, 68, 9, 10, 11, 13, 69, 70, 71, 72, 73, 74, 75, 76, 77, 78, 79, 80, 81, 82, 83, 84, 85, 86, 87, 88, 89, 90, 91, 92, 93, 94, 95, 96, 97, 98, 99, 100, 101, 102, 103, 104, 105, 106, 107, 108, 109, 110, 111, 112, 113, 114, 115, 116, 117, 118, 119, 120, 121, 122, 123, 124, 125, 126, 127, 128, 129, 130, 131, 132, 133, 134, 135, 136, 137, 138, 139, 140, 141, 142, 143, 144, 145, 146, 147, 148, 149, 150, 151, 152, 153, 154, 155, 156, 157, 158, 159, 160, 161, 162, 163, 164, 165, 166, 167, 168, 169, 170, 171, 186, 187, 188, 189, 190, 191, 192, 193, 194, 195, 196, 197, 198, 199, 200, 172, 173, 174, 175, 176, 177, 178, 179, 180, 181, 182, 183, 184, 185] rfl (by decide +kernel)
set_option maxRecDepth 20000 in
theorem gX7_bestPace_X7_foretellBestPace : GoodIn wsX7_bestPace (wsV RX7 273 RX7 yX7_foretellBestPace wsX7_foretellBestPace) := goodIn_app (goodIn_r _ [23, 24, 25, 4] rfl (by decide +kernel)) ggX7_bestPace_X7_foretellBestPace
set_option maxRecDepth 20000 in
theorem ggX7_arrivedAt_X3_arrivedAs : GoodIn wsX7_arrivedAt wsX3_arrivedAs := goodIn_r _ [9, 10, 11, 12, 13, 14, 15, 8, 16, 17, 18, 40, 41, 42, 43, 44, 45, 46, 47, 48, 49, 50, 51, 52, 53, 25, 26, 27, 28, 29, 30, 31, 32, 33, 34, 35, 36, 37, 38, 39] rfl (by decide +kernel)
set_option maxRecDepth 20000 in
theorem gX7_arrivedAt_X3_arrivedAs : GoodIn wsX7_arrivedAt (wsV RX7 279 RX3 yX3_arrivedAs wsX3_arrivedAs) := goodIn_app (goodIn_r _ [5, 6, 7, 8] rfl (by decide +kernel)) ggX7_arrivedAt_X3_arrivedAs
set_option maxRecDepth 20000 in
theorem ggX7_timeOf_X7_known : GoodIn wsX7_timeOf wsX7_known := goodIn_ca (goodIn_r _ [9, 10, 11, 12, 13, 14, 15, 16, 17, 18, 19, 35, 36, 37, 38, 39, 40, 41, 42, 43, 44, 45, 46, 47, 48, 49, 50, 51, 52, 53, 54] rfl (by decide +kernel)) (goodIn_sub (fun _ h => List.mem_cons_of_mem _ (List.mem_append_right _ h)) (by decide +kernel))
set_option maxRecDepth 20000 in
theorem gX7_timeOf_X7_known : GoodIn wsX7_timeOf (wsV RX7 79 RX7 yX7_known wsX7_known) := goodIn_app (goodIn_r _ [5, 6, 7, 8] rfl (by decide +kernel)) ggX7_timeOf_X7_known
set_option maxRecDepth 20000 in
theorem ggX7_flownByBirds_X3_sumFlown : GoodIn wsX7_flownByBirds wsX3_sumFlown := goodIn_r _ [6, 7, 8, 9, 10, 11, 5, 12, 13, 14, 21, 22, 23, 24, 25, 26, 27, 28, 29, 30, 31, 32, 33, 34, 35, 36, 37, 38, 39, 40, 41, 42, 43, 44, 45, 46, 47, 48, 49] rfl (by decide +kernel)
set_option maxRecDepth 20000 in
theorem gX7_flownByBirds_X3_sumFlown : GoodIn wsX7_flownByBirds (wsV RX7 289 RX3 yX3_sumFlown wsX3_sumFlown) := goodIn_app (goodIn_r _ [2, 3, 4, 5] rfl (by decide +kernel)) ggX7_flownByBirds_X3_sumFlown
set_option maxRecDepth 20000 in
theorem ggX7_meanFlown_X3_sumFlown : GoodIn wsX7_meanFlown wsX3_sumFlown := goodIn_r _ [7, 8, 9, 10, 11, 12, 6, 13, 14, 15, 22, 23, 24, 25, 26, 27, 28, 29, 30, 31, 32, 33, 34, 35, 36, 37, 38, 39, 40, 41, 42, 43, 44, 45, 46, 47, 48, 49, 50] rfl (by decide +kernel)
set_option maxRecDepth 20000 in
theorem gX7_meanFlown_X3_sumFlown : GoodIn wsX7_meanFlown (wsV RX7 289 RX3 yX3_sumFlown wsX3_sumFlown) := goodIn_app (goodIn_r _ [3, 4, 5, 6] rfl (by decide +kernel)) ggX7_meanFlown_X3_sumFlown
set_option maxRecDepth 20000 in
theorem ggX7_digest_X0_init : GoodIn wsX7_digest wsX0_init := goodIn_r _ [13, 14, 15, 16, 17, 18, 259] rfl (by decide +kernel)
set_option maxRecDepth 20000 in
theorem gX7_digest_X0_init_n312 : GoodIn wsX7_digest (wsX0_init) := ggX7_digest_X0_init
set_option maxRecDepth 20000 in
theorem ggX7_digest_X0_add : GoodIn wsX7_digest wsX0_add := goodIn_r _ [22, 23, 18, 259] rfl (by decide +kernel)
set_option maxRecDepth 20000 in
theorem gX7_digest_X0_add : GoodIn wsX7_digest (wsV RX7 313 RX0 yX0_add wsX0_add) := goodIn_app (goodIn_r _ [19, 20, 21, 3] rfl (by decide +kernel)) ggX7_digest_X0_add
set_option maxRecDepth 20000 in
theorem ggX7_digest_X3_at : GoodIn wsX7_digest wsX3_at := goodIn_r _ [28, 29, 30, 266, 267, 268, 269, 270, 271, 272, 273, 274, 275, 276, 277, 278, 279] rfl (by decide +kernel)
set_option maxRecDepth 20000 in
theorem gX7_digest_X3_at : GoodIn wsX7_digest (wsV RX7 316 RX3 yX3_at wsX3_at) := goodIn_app (goodIn_r _ [24, 25, 26, 27] rfl (by decide +kernel)) ggX7_digest_X3_at
set_option maxRecDepth 20000 in
theorem ggX7_digest_X7_hashSparrow : GoodIn wsX7_digest wsX7_hashSparrow := goodIn_r _ [35, 36, 37, 38, 39, 40, 41, 7, 42, 43, 4, 44, 19, 20, 21, 3, 22, 23, 18, 45, 46, 47, 48, 49, 50, 51, 52, 53, 27, 54, 30, 55, 56, 57, 58, 59, 29, 60, 61, 62, 63, 64, 65, 66, 67, 68, 69, 70, 71, 72, 73, 74, 75, 76, 77, 78, 79, 80, 81, 82, 83, 84, 85, 86, 87, 88, 89, 90, 91, 92, 93, 94, 95, 96, 97, 98, 99, 100, 101, 102, 103, 104, 105, 106, 280, 281, 282, 283, 284, 285, 286, 287, 288, 289, 290, 291, 292, 293, 294, 260, 261, 262, 263, 264, 265, 259, 266, 267, 268, 269, 270, 271, 272, 273, 274, 275, 276, 277, 278, 279] rfl (by decide +kernel)
set_option maxRecDepth 20000 in
theorem gX7_digest_X7_hashSparrow : GoodIn wsX7_digest (wsV RX7 319 RX7 yX7_hashSparrow wsX7_hashSparrow) := goodIn_app (goodIn_r _ [31, 32, 33, 34] rfl (by decide +kernel)) ggX7_digest_X7_hashSparrow
set_option maxRecDepth 20000 in
theorem ggX7_digest_X7_foretell : GoodIn wsX7_digest wsX7_foretell := goodIn_r _ [110, 111, 4, 112, 7, 37, 113, 114, 115, 27, 116, 30, 106, 29, 117, 118, 119, 120, 121, 122, 123, 124, 125, 126, 127, 128, 129, 48, 130, 131, 132, 133, 50, 134, 135, 136, 137, 64, 138, 139, 140, 65, 141, 24, 25, 26, 28, 142, 143, 144, 145, 146, 147, 148, 149, 55, 56, 57, 58, 59, 150, 151, 152, 153, 154, 60, 61, 62, 63, 66, 155, 156, 157, 158, 159, 160, 161, 162, 163, 164, 165, 166, 75, 100, 71, 72, 73, 74, 76, 77, 78, 79, 80, 81, 82, 83, 84, 167, 87, 88, 89, 90, 168, 96, 97, 98, 99, 101, 92, 93, 94, 102, 103, 104, 105, 169, 170, 171, 172, 173, 174, 175, 176, 177, 178, 179, 180, 181, 182, 183, 184, 46, 47, 49, 185, 186, 187, 188, 189, 190, 191, 192, 193, 194, 260, 261, 262, 263, 264, 265, 280, 281, 282, 283, 284, 285, 286, 287, 288, 289, 290, 291, 292, 293, 294, 266, 267, 268, 269, 270, 271, 272, 273, 274, 275, 276, 277, 278, 279] rfl (by decide +kernel)
set_option maxRecDepth 20000 in
theorem gX7_digest_X7_foretell : GoodIn wsX7_digest (wsV RX7 259 RX7 yX7_foretell wsX7_foretell) := goodIn_app (goodIn_r _ [107, 108, 109, 34] rfl (by decide +kernel)) ggX7_digest_X7_foretell
set_option maxRecDepth 20000 in
theorem ggX7_digest_X7_hashOrder : GoodIn wsX7_digest wsX7_hashOrder := goodIn_r _ [198, 4, 5, 112, 199, 147, 148, 27, 149, 30, 55, 56, 57, 58, 59, 29, 150, 151, 152, 153, 154, 60, 61, 62, 48, 63, 64, 65, 50, 66, 200, 156, 157, 158, 19, 20, 21, 3, 22, 23, 18, 260, 261, 262, 263, 264, 265, 266, 267, 268, 269, 270, 271, 272, 273, 274, 275, 276, 277, 278, 279, 280, 281, 282, 283, 284, 285, 286, 287, 288, 289, 290, 291, 292, 293, 294, 259] rfl (by decide +kernel)
set_option maxRecDepth 20000 in
theorem gX7_digest_X7_hashOrder : GoodIn wsX7_digest (wsV RX7 323 RX7 yX7_hashOrder wsX7_hashOrder) := goodIn_app (goodIn_r _ [195, 196, 197, 34] rfl (by decide +kernel)) ggX7_digest_X7_hashOrder
set_option maxRecDepth 20000 in
theorem ggX7_digest_X3_limitAt : GoodIn wsX7_digest wsX3_limitAt := goodIn_r _ [105, 106, 266, 267, 268, 269, 270, 271, 272, 273, 274, 275, 276, 277, 278, 279] rfl (by decide +kernel)
set_option maxRecDepth 20000 in
theorem gX7_digest_X3_limitAt : GoodIn wsX7_digest (wsV RX7 115 RX3 yX3_limitAt wsX3_limitAt) := goodIn_app (goodIn_r _ [201, 103, 104, 27] rfl (by decide +kernel)) ggX7_digest_X3_limitAt
set_option maxRecDepth 20000 in
theorem ggX7_digest_X7_foretellSeconds : GoodIn wsX7_digest wsX7_foretellSeconds := goodIn_r _ [205, 111, 4, 6, 206, 113, 114, 115, 27, 116, 30, 106, 29, 117, 118, 119, 120, 121, 122, 123, 124, 125, 126, 127, 128, 129, 48, 130, 131, 132, 133, 50, 134, 135, 136, 137, 64, 138, 139, 140, 65, 141, 142, 143, 144, 145, 146, 147, 148, 149, 55, 56, 57, 58, 59, 150, 151, 152, 153, 154, 60, 61, 62, 63, 66, 155, 156, 157, 158, 159, 160, 161, 162, 163, 164, 165, 166, 75, 100, 71, 72, 73, 74, 76, 77, 78, 79, 80, 81, 82, 83, 84, 167, 87, 88, 89, 90, 168, 96, 97, 98, 99, 101, 92, 93, 94, 102, 103, 104, 105, 169, 170, 171, 172, 173, 174, 175, 176, 177, 178, 179, 180, 181, 182, 183, 184, 46, 47, 49, 185, 186, 187, 188, 189, 190, 191, 192, 193, 194, 260, 261, 262, 263, 264, 265, 266, 267, 268, 269, 270, 271, 272, 273, 274, 275, 276, 277, 278, 279, 280, 281, 282, 283, 284, 285, 286, 287, 288, 289, 290, 291, 292, 293, 294] rfl (by decide +kernel)
set_option maxRecDepth 20000 in
theorem gX7_digest_X7_foretellSeconds : GoodIn wsX7_digest (wsV RX7 268 RX7 yX7_foretellSeconds wsX7_foretellSeconds) := goodIn_app (goodIn_r _ [202, 203, 204, 34] rfl (by decide +kernel)) ggX7_digest_X7_foretellSeconds
set_option maxRecDepth 20000 in
theorem ggX7_digest_X7_foretellWinner : GoodIn wsX7_digest wsX7_foretellWinner := goodIn_r _ [210, 4, 206, 111, 112, 202, 203, 204, 34, 205, 6, 113, 114, 115, 27, 116, 30, 106, 29, 117, 118, 119, 120, 121, 122, 123, 124, 125, 126, 127, 128, 129, 48, 130, 131, 132, 133, 50, 134, 135, 136, 137, 64, 138, 139, 140, 65, 141, 142, 143, 144, 145, 146, 147, 148, 149, 55, 56, 57, 58, 59, 150, 151, 152, 153, 154, 60, 61, 62, 63, 66, 155, 156, 157, 158, 159, 160, 161, 162, 163, 164, 165, 166, 75, 100, 71, 72, 73, 74, 76, 77, 78, 79, 80, 81, 82, 83, 84, 167, 87, 88, 89, 90, 168, 96, 97, 98, 99, 101, 92, 93, 94, 102, 103, 104, 105, 169, 170, 171, 172, 173, 174, 175, 176, 177, 178, 179, 180, 181, 182, 183, 184, 46, 47, 49, 185, 186, 187, 188, 189, 190, 191, 192, 193, 194, 211, 212, 213, 214, 260, 261, 262, 263, 264, 265, 266, 267, 268, 269, 270, 271, 272, 273, 274, 275, 276, 277, 278, 279, 280, 281, 282, 283, 284, 285, 286, 287, 288, 289, 290, 291, 292, 293, 294] rfl (by decide +kernel)
set_option maxRecDepth 20000 in
theorem gX7_digest_X7_foretellWinner : GoodIn wsX7_digest (wsV RX7 263 RX7 yX7_foretellWinner wsX7_foretellWinner) := goodIn_app (goodIn_r _ [207, 208, 209, 34] rfl (by decide +kernel)) ggX7_digest_X7_foretellWinner
set_option maxRecDepth 20000 in
theorem ggX7_digest_X7_foretellBestPace : GoodIn wsX7_digest wsX7_foretellBestPace := goodIn_r _ [218, 107, 108, 109, 34, 110, 111, 4, 112, 7, 37, 113, 114, 115, 27, 116, 30, 106, 29, 117, 118, 119, 120, 121, 122, 123, 124, 125, 126, 127, 128, 129, 48, 130, 131, 132, 133, 50, 134, 135, 136, 137, 64, 138, 139, 140, 65, 141, 24, 25, 26, 28, 142, 143, 144, 145, 146, 147, 148, 149, 55, 56, 57, 58, 59, 150, 151, 152, 153, 154, 60, 61, 62, 63, 66, 155, 156, 157, 158, 159, 160, 161, 162, 163, 164, 165, 166, 75, 100, 71, 72, 73, 74, 76, 77, 78, 79, 80, 81, 82, 83, 84, 167, 87, 88, 89, 90, 168, 96, 97, 98, 99, 101, 92, 93, 94, 102, 103, 104, 105, 169, 170, 171, 172, 173, 174, 175, 176, 177, 178, 179, 180, 181, 182, 183, 184, 46, 47, 49, 185, 186, 187, 188, 189, 190, 191, 192, 193, 194, 260, 261, 262, 263, 264, 265, 280, 281, 282, 283, 284, 285, 286, 287, 288, 289, 290, 291, 292, 293, 294, 266, 267, 268, 269, 270, 271, 272, 273, 274, 275, 276, 277, 278, 279] rfl (by decide +kernel)
set_option maxRecDepth 20000 in
theorem gX7_digest_X7_foretellBestPace : GoodIn wsX7_digest (wsV RX7 273 RX7 yX7_foretellBestPace wsX7_foretellBestPace) := goodIn_app (goodIn_r _ [215, 216, 217, 34] rfl (by decide +kernel)) ggX7_digest_X7_foretellBestPace
set_option maxRecDepth 20000 in
theorem ggX7_digest_X7_hashAccounts : GoodIn wsX7_digest wsX7_hashAccounts := goodIn_r _ [222, 4, 6, 223, 206, 112, 224, 225, 226, 227, 228, 229, 230, 231, 19, 20, 21, 3, 22, 23, 18, 211, 212, 213, 27, 214, 30, 80, 189, 55, 56, 57, 58, 59, 29, 232, 233, 234, 235, 181, 236, 237, 238, 34, 239, 5, 240, 241, 242, 243, 244, 245, 260, 261, 262, 263, 264, 265, 266, 267, 268, 269, 270, 271, 272, 273, 274, 275, 276, 277, 278, 279, 280, 281, 282, 283, 284, 285, 286, 287, 288, 289, 290, 291, 292, 293, 294, 297, 298, 259] rfl (by decide +kernel)
set_option maxRecDepth 20000 in
theorem gX7_digest_X7_hashAccounts : GoodIn wsX7_digest (wsV RX7 327 RX7 yX7_hashAccounts wsX7_hashAccounts) := goodIn_app (goodIn_r _ [219, 220, 221, 34] rfl (by decide +kernel)) ggX7_digest_X7_hashAccounts
set_option maxRecDepth 20000 in
theorem ggX7_digest_X5_kept : GoodIn wsX7_digest wsX5_kept := goodIn_r _ [250, 251, 252, 299, 300] rfl (by decide +kernel)
set_option maxRecDepth 20000 in
theorem gX7_digest_X5_kept : GoodIn wsX7_digest (wsV RX7 185 RX5 yX5_kept wsX5_kept) := goodIn_app (goodIn_r _ [246, 247, 248, 249] rfl (by decide +kernel)) ggX7_digest_X5_kept
set_option maxRecDepth 20000 in
theorem ggX7_digest_X2_at : GoodIn wsX7_digest wsX2_at := goodIn_r _ [257, 258, 295, 296] rfl (by decide +kernel)
set_option maxRecDepth 20000 in
theorem gX7_digest_X2_at : GoodIn wsX7_digest (wsV RX7 330 RX2 yX2_at wsX2_at) := goodIn_app (goodIn_r _ [253, 254, 255, 256] rfl (by decide +kernel)) ggX7_digest_X2_at
set_option maxRecDepth 20000 in
theorem ggX7_hashSparrow_X0_add : GoodIn wsX7_hashSparrow wsX0_add := goodIn_r _ [16, 17, 18, 105] rfl (by decide +kernel)
set_option maxRecDepth 20000 in
theorem gX7_hashSparrow_X0_add : GoodIn wsX7_hashSparrow (wsV RX7 313 RX0 yX0_add wsX0_add) := goodIn_app (goodIn_r _ [12, 13, 14, 15] rfl (by decide +kernel)) ggX7_hashSparrow_X0_add
set_option maxRecDepth 20000 in
theorem ggX7_hashSparrow_X6_lapsOver : GoodIn wsX7_hashSparrow wsX6_lapsOver := goodIn_r _ [23, 24, 84, 85, 86, 87, 88, 89, 90, 91, 92, 93, 94, 95, 96, 97, 98] rfl (by decide +kernel)
set_option maxRecDepth 20000 in
theorem gX7_hashSparrow_X6_lapsOver : GoodIn wsX7_hashSparrow (wsV RX7 201 RX6 yX6_lapsOver wsX6_lapsOver) := goodIn_app (goodIn_r _ [19, 20, 21, 22] rfl (by decide +kernel)) ggX7_hashSparrow_X6_lapsOver
set_option maxRecDepth 20000 in
theorem ggX7_hashSparrow_X3_countAheadOf : GoodIn wsX7_hashSparrow wsX3_countAheadOf := goodIn_r _ [29, 30, 31, 32, 33, 28, 34, 35, 36, 37, 38, 39, 22, 40, 41, 42, 24, 43, 106, 107, 108, 109, 110, 111, 112, 113, 114, 115, 116, 117, 118, 119, 84, 85, 86, 87, 88, 89, 90, 91, 92, 93, 94, 95, 96, 97, 98] rfl (by decide +kernel)
set_option maxRecDepth 20000 in
theorem gX7_hashSparrow_X3_countAheadOf : GoodIn wsX7_hashSparrow (wsV RX7 221 RX3 yX3_countAheadOf wsX3_countAheadOf) := goodIn_app (goodIn_r _ [25, 26, 27, 28] rfl (by decide +kernel)) ggX7_hashSparrow_X3_countAheadOf
set_option maxRecDepth 20000 in
theorem ggX7_hashSparrow_X3_gapOf : GoodIn wsX7_hashSparrow wsX3_gapOf := goodIn_r _ [47, 48, 49, 50, 28, 51, 30, 52, 53, 54, 55, 56, 35, 36, 57, 58, 59, 60, 22, 61, 24, 106, 107, 108, 109, 110, 111, 112, 113, 114, 115, 116, 117, 118, 119, 84, 85, 86, 87, 88, 89, 90, 91, 92, 93, 94, 95, 96, 97, 98] rfl (by decide +kernel)
set_option maxRecDepth 20000 in
theorem gX7_hashSparrow_X3_gapOf : GoodIn wsX7_hashSparrow (wsV RX7 239 RX3 yX3_gapOf wsX3_gapOf) := goodIn_app (goodIn_r _ [44, 45, 46, 28] rfl (by decide +kernel)) ggX7_hashSparrow_X3_gapOf
set_option maxRecDepth 20000 in
theorem ggX7_hashSparrow_X3_nextAhead : GoodIn wsX7_hashSparrow wsX3_nextAhead := goodIn_r _ [51, 30, 52, 53, 54, 55, 28, 56, 35, 36, 57, 58, 59, 60, 22, 61, 24, 106, 107, 108, 109, 110, 111, 112, 113, 114, 115, 116, 117, 118, 119, 84, 85, 86, 87, 88, 89, 90, 91, 92, 93, 94, 95, 96, 97, 98] rfl (by decide +kernel)
