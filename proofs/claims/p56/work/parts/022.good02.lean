set_option maxRecDepth 20000 in
theorem gL_refuses_L_timeOf : GoodIn wsL_refuses (va_wsS RL 232 yL_timeOf wsL_timeOf) := goodIn_app (goodIn_r _ [512, 513, 10] rfl (by decide +kernel)) ggL_refuses_L_timeOf
set_option maxRecDepth 20000 in
theorem ggL_refuses_X7_isRacing : GoodIn wsL_refuses wsX7_isRacing := goodIn_r _ [523, 6, 22, 535, 536, 537, 538, 539, 540, 541, 542, 543, 544, 545, 546, 547, 548, 549, 550, 551, 552, 553, 554] rfl (by decide +kernel)
set_option maxRecDepth 20000 in
theorem gL_refuses_X7_isRacing : GoodIn wsL_refuses (wsV RL 160 RX7 yX7_isRacing wsX7_isRacing) := goodIn_app (goodIn_r _ [520, 521, 522, 4] rfl (by decide +kernel)) ggL_refuses_X7_isRacing
set_option maxRecDepth 20000 in
theorem ggL_refuses_L_begin : GoodIn wsL_refuses wsL_begin := goodIn_ca (goodIn_r _ [526, 13, 527, 528, 529, 4, 530, 20, 21, 6, 7, 23, 27, 28, 29, 30, 31, 32, 33, 34, 35, 36, 37, 38, 39, 40, 41, 42, 43, 44, 45, 46, 47, 48, 49, 50, 51, 52, 53, 54, 55, 56, 57, 58, 59, 60, 61, 62, 63, 64, 65, 66, 67, 68, 69, 70, 71, 72, 73, 74, 531, 532, 533, 534, 139, 140, 141, 142, 130, 87, 88, 89, 90, 535, 536, 537, 538, 539, 540, 541, 542, 543, 544, 545, 546, 547, 548, 549, 550, 551, 552, 553, 554, 555, 556, 557, 558, 559, 560, 561, 562, 563, 564, 565, 566, 567, 568, 569, 570, 571] rfl (by decide +kernel)) (goodIn_sub (fun _ h => List.mem_cons_of_mem _ (List.mem_append_left _ (List.mem_append_right _ h))) (by decide +kernel))
set_option maxRecDepth 20000 in
theorem gL_refuses_L_begin : GoodIn wsL_refuses (va_wsS RL 166 yL_begin wsL_begin) := goodIn_app (goodIn_r _ [524, 525, 10] rfl (by decide +kernel)) ggL_refuses_L_begin
