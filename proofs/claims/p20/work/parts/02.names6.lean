set_option maxRecDepth 20000 in
theorem wsL_law_pc22 : ∀ w ∈ wsL_law_p22, w ∈ lw_tbl := fun w h => (goodIn_r wsL_law_p22 [359, 360, 361, 368, 373, 358, 340, 413, 414, 415, 416, 417, 420, 397, 466, 467, 468, 469, 503, 504, 505] (by decide +kernel) (by decide +kernel) w h).1
set_option maxRecDepth 20000 in
theorem wsL_law_sc22 : ∀ w ∈ wsL_law_s22, w ∈ lw_tbl := fun w h => (goodIn_r wsL_law_s22 [527, 507] (by decide +kernel) (by decide +kernel) w h).1
theorem wsL_law_c22 : ∀ w ∈ wsL_law0_r22, w ∈ lw_tbl := fun w h => (List.mem_append.mp (show w ∈ wsL_law_p22 ++ (Cond.code yX5_isSame cX5_isSame 11 (some .boolean) :: wsL_law_s22) from h)).elim (fun h => wsL_law_pc22 w h) (fun h => (List.mem_cons.mp h).elim (fun e => by rw [e]; exact wsL_law_b22) (fun h => wsL_law_sc22 w h))
set_option maxRecDepth 20000 in
theorem wsL_law_c23 : ∀ w ∈ wsL_law0_r23, w ∈ lw_tbl := fun w h => (goodIn_r wsL_law0_r23 [519, 520, 521, 522, 523, 524, 525, 526, 528, 529, 530, 531, 532, 533, 534, 535, 536, 537, 538, 539, 540, 541, 542, 543] (by decide +kernel) (by decide +kernel) w h).1
set_option maxRecDepth 20000 in
theorem wsL_law_c24 : ∀ w ∈ wsL_law0_r24, w ∈ lw_tbl := fun w h => (goodIn_r wsL_law0_r24 [544, 545] (by decide +kernel) (by decide +kernel) w h).1
