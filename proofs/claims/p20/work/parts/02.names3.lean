set_option maxRecDepth 20000 in
theorem wsL_law_c8 : ∀ w ∈ wsL_law0_r8, w ∈ lw_tbl := fun w h => (goodIn_r wsL_law0_r8 [665, 666, 667, 668, 37, 669, 670, 793, 671, 683, 684, 685, 686, 687, 689, 690, 418, 419, 691, 693, 692, 38, 696, 243] (by decide +kernel) (by decide +kernel) w h).1
set_option maxRecDepth 20000 in
theorem wsL_law_c9 : ∀ w ∈ wsL_law0_r9, w ∈ lw_tbl := fun w h => (goodIn_r wsL_law0_r9 [244, 245, 241, 618, 246, 247, 248, 227, 228, 229, 230, 231, 232, 39, 233, 234, 235, 40, 236, 237, 238, 239, 240, 249] (by decide +kernel) (by decide +kernel) w h).1
set_option maxRecDepth 20000 in
theorem wsL_law_c10 : ∀ w ∈ wsL_law0_r10, w ∈ lw_tbl := fun w h => (goodIn_r wsL_law0_r10 [251, 1, 252, 603, 609, 600, 606, 254, 255, 147, 148, 149, 150, 617, 151, 152, 153, 154, 159, 242, 697, 698, 699, 700] (by decide +kernel) (by decide +kernel) w h).1
set_option maxRecDepth 20000 in
theorem wsL_law_c11 : ∀ w ∈ wsL_law0_r11, w ∈ lw_tbl := fun w h => (goodIn_r wsL_law0_r11 [605, 608, 599, 602, 429, 430, 431, 432, 433, 434, 435, 436, 701, 508, 509, 510, 511, 512, 513, 514, 515, 516, 517, 518] (by decide +kernel) (by decide +kernel) w h).1
set_option maxRecDepth 20000 in
theorem wsL_law_c12 : ∀ w ∈ wsL_law0_r12, w ∈ lw_tbl := fun w h => (goodIn_r wsL_law0_r12 [499, 500, 501, 502, 702, 703, 704, 705, 706, 707, 708, 709, 710, 711, 712, 713, 714, 715, 716, 717, 719, 18, 720, 721] (by decide +kernel) (by decide +kernel) w h).1
