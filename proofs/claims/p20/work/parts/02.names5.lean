set_option maxRecDepth 20000 in
theorem wsL_law_c18 : ∀ w ∈ wsL_law0_r18, w ∈ lw_tbl := fun w h => (goodIn_r wsL_law0_r18 [345, 346, 425, 426, 427, 428, 437, 438, 439, 440, 354, 355, 356, 357, 441, 443, 9, 444, 445, 447, 10, 448, 449, 450] (by decide +kernel) (by decide +kernel) w h).1
set_option maxRecDepth 20000 in
theorem wsL_law_c19 : ∀ w ∈ wsL_law0_r19, w ∈ lw_tbl := fun w h => (goodIn_r wsL_law0_r19 [451, 452, 453, 455, 11, 456, 457, 459, 12, 460, 461, 462, 464, 13, 465, 367, 470, 471, 472, 473, 474, 475, 476, 477] (by decide +kernel) (by decide +kernel) w h).1
set_option maxRecDepth 20000 in
theorem wsL_law_c20 : ∀ w ∈ wsL_law0_r20, w ∈ lw_tbl := fun w h => (goodIn_r wsL_law0_r20 [341, 342, 343, 612, 615, 350, 351, 352, 353, 478, 398, 399, 400, 401, 403, 7, 404, 409, 411, 8, 412, 742, 479, 481] (by decide +kernel) (by decide +kernel) w h).1
set_option maxRecDepth 20000 in
theorem wsL_law_c21 : ∀ w ∈ wsL_law0_r21, w ∈ lw_tbl := fun w h => (goodIn_r wsL_law0_r21 [14, 482, 483, 374, 375, 376, 378, 379, 380, 381, 382, 383, 384, 385, 386, 387, 388, 389, 390, 393, 394, 395, 396, 484] (by decide +kernel) (by decide +kernel) w h).1
set_option maxRecDepth 20000 in
theorem wsL_law_b22 : Cond.code yX5_isSame cX5_isSame 11 (some .boolean) ∈ lw_tbl := List.mem_of_getElem? (i := 506) rfl
def wsL_law_p22 : List Cond := [Cond.instanceMethod yX4_cell, Cond.selects RX4 yX4_cell yX4_cell, Cond.code yX4_cell cX4_cell 4 (some .int), Cond.methodLink RX4 174 yX1_highestBelow, Cond.methodLink RL 84 yX4_cord, Cond.methodLink RL 87 yX4_cell, Cond.methodLink RL 89 yX4_about, Cond.methodLink RL 97 yX4_share, Cond.instanceMethod yX4_share, Cond.selects RX4 yX4_share yX4_share, Cond.code yX4_share cX4_share 7 (some .int), Cond.methodLink RX4 205 Lib.Math.min.name, Cond.methodLink RX4 210 Lib.Math.max.name, Cond.methodLink RL 100 yX4_told, Cond.methodLink RL 103 yX4_advise, Cond.instanceMethod yX4_advise, Cond.selects RX4 yX4_advise yX4_advise, Cond.code yX4_advise cX4_advise 6 (some .int), Cond.methodLink RL 106 yX5_isSame, Cond.instanceMethod yX5_isSame, Cond.selects RX5 yX5_isSame yX5_isSame]
def wsL_law_s22 : List Cond := [Cond.methodLink RX5 49 Lib.Math.max.name, Cond.methodLink RX5 54 yX5_covered]
