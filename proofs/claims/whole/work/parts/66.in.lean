theorem wsL_in_8 : ∀ w ∈ wsL_law_r8, w ∈ lw_tbl := fun w h => (goodIn_p wsL_law_r8 [206, 210, 214, 218, 221, 224] (by decide +kernel) (by decide +kernel) w h).1
theorem wsL_in_9 : ∀ w ∈ wsL_law_r9, w ∈ lw_tbl := fun w h => (goodIn_p wsL_law_r9 [228, 232, 572, 576, 580] (by decide +kernel) (by decide +kernel) w h).1
theorem wsL_in_10 : ∀ w ∈ wsL_law_r10, w ∈ lw_tbl := fun w h => (goodIn_p wsL_law_r10 [584, 240, 244, 248, 253] (by decide +kernel) (by decide +kernel) w h).1
theorem wsL_in_11 : ∀ w ∈ wsL_law_r11, w ∈ lw_tbl := fun w h => (goodIn_p wsL_law_r11 [257, 588, 592, 596, 261, 600] (by decide +kernel) (by decide +kernel) w h).1
theorem wsL_in_12 : ∀ w ∈ wsL_law_r12, w ∈ lw_tbl := fun w h => (goodIn_p wsL_law_r12 [266, 605, 271, 610, 276] (by decide +kernel) (by decide +kernel) w h).1
theorem wsL_in_13 : ∀ w ∈ wsL_law_r13, w ∈ lw_tbl := fun w h => (goodIn_p wsL_law_r13 [280, 284, 288, 615, 619, 292] (by decide +kernel) (by decide +kernel) w h).1
theorem wsL_in_14 : ∀ w ∈ wsL_law_r14, w ∈ lw_tbl := fun w h => (goodIn_p wsL_law_r14 [296, 300, 623, 304, 308, 628] (by decide +kernel) (by decide +kernel) w h).1
