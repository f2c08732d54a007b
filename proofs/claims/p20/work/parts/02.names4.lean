set_option maxRecDepth 20000 in
theorem wsL_law_c13 : ∀ w ∈ wsL_law0_r13, w ∈ lw_tbl := fun w h => (goodIn_r wsL_law0_r13 [722, 723, 724, 725, 408, 732, 41, 362, 363, 364, 365, 405, 727, 729, 19, 730, 408, 738, 740, 407, 369, 371, 6, 372] (by decide +kernel) (by decide +kernel) w h).1
set_option maxRecDepth 20000 in
theorem wsL_law_c14 : ∀ w ∈ wsL_law0_r14, w ∈ lw_tbl := fun w h => (goodIn_r wsL_law0_r14 [733, 734, 735, 736, 737, 739, 741, 750, 256, 257, 258, 259, 621, 109, 111, 260, 261, 262, 279, 280, 281, 282, 283, 285] (by decide +kernel) (by decide +kernel) w h).1
set_option maxRecDepth 20000 in
theorem wsL_law_c15 : ∀ w ∈ wsL_law0_r15, w ∈ lw_tbl := fun w h => (goodIn_r wsL_law0_r15 [2, 286, 287, 288, 290, 3, 291, 293, 294, 295, 296, 613, 297, 298, 299, 300, 301, 303, 4, 304, 619, 611, 305, 309] (by decide +kernel) (by decide +kernel) w h).1
set_option maxRecDepth 20000 in
theorem wsL_law_c16 : ∀ w ∈ wsL_law0_r16, w ∈ lw_tbl := fun w h => (goodIn_r wsL_law0_r16 [310, 311, 312, 313, 314, 316, 5, 317, 318, 319, 320, 321, 322, 323, 324, 325, 326, 327, 328, 329, 330, 331, 332, 333] (by decide +kernel) (by decide +kernel) w h).1
set_option maxRecDepth 20000 in
theorem wsL_law_c17 : ∀ w ∈ wsL_law0_r17, w ∈ lw_tbl := fun w h => (goodIn_r wsL_law0_r17 [334, 335, 336, 337, 339, 485, 486, 487, 488, 766, 765, 489, 490, 491, 492, 495, 496, 497, 498, 421, 422, 423, 424, 344] (by decide +kernel) (by decide +kernel) w h).1
