theorem wsL_in_1 : ∀ w ∈ wsL_law_r1, w ∈ lw_tbl := fun w h => (goodIn_p wsL_law_r1 [404, 47, 50] (by decide +kernel) (by decide +kernel) w h).1
theorem wsL_in_2 : ∀ w ∈ wsL_law_r2, w ∈ lw_tbl := fun w h => (goodIn_p wsL_law_r2 [55] (by decide +kernel) (by decide +kernel) w h).1
theorem wsL_in_3 : ∀ w ∈ wsL_law_r3, w ∈ lw_tbl := fun w h => (goodIn_p wsL_law_r3 [59, 78, 105] (by decide +kernel) (by decide +kernel) w h).1
theorem wsL_in_4 : ∀ w ∈ wsL_law_r4, w ∈ lw_tbl := fun w h => (goodIn_p wsL_law_r4 [489] (by decide +kernel) (by decide +kernel) w h).1
theorem wsL_in_5 : ∀ w ∈ wsL_law_r5, w ∈ lw_tbl := fun w h => (goodIn_p wsL_law_r5 [412, 171, 174, 198, 550, 553] (by decide +kernel) (by decide +kernel) w h).1
theorem wsL_in_6 : ∀ w ∈ wsL_law_r6, w ∈ lw_tbl := fun w h => (goodIn_p wsL_law_r6 [556, 546, 168, 178, 560, 182] (by decide +kernel) (by decide +kernel) w h).1
theorem wsL_in_7 : ∀ w ∈ wsL_law_r7, w ∈ lw_tbl := fun w h => (goodIn_p wsL_law_r7 [186, 564, 190, 194, 568, 202] (by decide +kernel) (by decide +kernel) w h).1
