set_option maxRecDepth 20000 in
theorem gL_law_X8_digest : GoodIn wsL_law (wsV RL 324 RX8 yX8_digest wsX8_digest) := goodIn_app (goodIn_r _ [1202, 1203, 1204, 5] rfl (by decide +kernel)) ggL_law_X8_digest
