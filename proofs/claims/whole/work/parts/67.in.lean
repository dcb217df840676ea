theorem wsL_in_15 : ∀ w ∈ wsL_law_r15, w ∈ lw_tbl := fun w h => (goodIn_p wsL_law_r15 [312, 316, 319, 323, 327, 331] (by decide +kernel) (by decide +kernel) w h).1
theorem wsL_in_16 : ∀ w ∈ wsL_law_r16, w ∈ lw_tbl := fun w h => (goodIn_p wsL_law_r16 [335, 632, 635, 339, 343, 639] (by decide +kernel) (by decide +kernel) w h).1
theorem wsL_in_17 : ∀ w ∈ wsL_law_r17, w ∈ lw_tbl := fun w h => (goodIn_p wsL_law_r17 [643, 647, 651, 655, 659, 347] (by decide +kernel) (by decide +kernel) w h).1
theorem wsL_in_18 : ∀ w ∈ wsL_law_r18, w ∈ lw_tbl := fun w h => (goodIn_p wsL_law_r18 [351, 355, 663, 667, 359, 363] (by decide +kernel) (by decide +kernel) w h).1
theorem wsL_in_19 : ∀ w ∈ wsL_law_r19, w ∈ lw_tbl := fun w h => (goodIn_p wsL_law_r19 [367, 671, 675, 372, 376, 380] (by decide +kernel) (by decide +kernel) w h).1
theorem wsL_in_20 : ∀ w ∈ wsL_law_r20, w ∈ lw_tbl := fun w h => (goodIn_p wsL_law_r20 [384, 679, 683, 388, 687] (by decide +kernel) (by decide +kernel) w h).1
theorem wsL_in_21 : ∀ w ∈ wsL_law_r21, w ∈ lw_tbl := fun w h => (goodIn_p wsL_law_r21 [392, 396, 400, 691] (by decide +kernel) (by decide +kernel) w h).1
theorem wsL_in_X3 : ∀ w ∈ wsX30, w ∈ lw_tbl := by decide +kernel
theorem wsL_in_X4 : ∀ w ∈ wsX40, w ∈ lw_tbl := by decide +kernel
theorem wsL_in_X1 : ∀ w ∈ wsX10, w ∈ lw_tbl := by decide +kernel
theorem wsL_in_X2 : ∀ w ∈ wsX20, w ∈ lw_tbl := by decide +kernel
theorem wsL_in_X0 : ∀ w ∈ wsX00, w ∈ lw_tbl := by decide +kernel
theorem wsL_in_Jx : ∀ w ∈ wsJx000600, w ∈ lw_tbl := by decide +kernel
theorem mem_ap {a b c : List Cond} (h1 : ∀ w ∈ a, w ∈ c) (h2 : ∀ w ∈ b, w ∈ c) : ∀ w ∈ a ++ b, w ∈ c := fun w h => (List.mem_append.mp h).elim (h1 w) (h2 w)
theorem wsL_law_in : ∀ w ∈ wsL_law, w ∈ lw_tbl := mem_ap (mem_ap (mem_ap (mem_ap (mem_ap (mem_ap (mem_ap (mem_ap wsL_in_1 (mem_ap wsL_in_2 (mem_ap wsL_in_3 (mem_ap wsL_in_4 (mem_ap wsL_in_5 (mem_ap wsL_in_6 (mem_ap wsL_in_7 (mem_ap wsL_in_8 (mem_ap wsL_in_9 (mem_ap wsL_in_10 (mem_ap wsL_in_11 (mem_ap wsL_in_12 (mem_ap wsL_in_13 (mem_ap wsL_in_14 (mem_ap wsL_in_15 (mem_ap wsL_in_16 (mem_ap wsL_in_17 (mem_ap wsL_in_18 (mem_ap wsL_in_19 (mem_ap wsL_in_20 wsL_in_21)))))))))))))))))))) wsL_in_X3) wsL_in_X4) wsL_in_X1) wsL_in_X2) wsL_in_X0) wsL_in_Jx) (fun _ h => by cases h)
