set_option maxRecDepth 20000 in
theorem wsL_law_pc4 : ∀ w ∈ wsL_law_p4, w ∈ lw_tbl := fun w h => (goodIn_r wsL_law_p4 [757, 758, 759, 561, 760, 762, 493, 764, 550, 551, 552, 553, 554, 555] (by decide +kernel) (by decide +kernel) w h).1
set_option maxRecDepth 20000 in
theorem wsL_law_sc4 : ∀ w ∈ wsL_law_s4, w ∈ lw_tbl := fun w h => (goodIn_r wsL_law_s4 [557, 761, 763, 546, 547, 548, 549, 558, 559] (by decide +kernel) (by decide +kernel) w h).1
theorem wsL_law_c4 : ∀ w ∈ wsL_law0_r4, w ∈ lw_tbl := fun w h => (List.mem_append.mp (show w ∈ wsL_law_p4 ++ (Cond.codeWith yL_act cL_act 12 (some .boolean) [(608, 636, 637, 57)] :: wsL_law_s4) from h)).elim (fun h => wsL_law_pc4 w h) (fun h => (List.mem_cons.mp h).elim (fun e => by rw [e]; exact wsL_law_b4) (fun h => wsL_law_sc4 w h))
set_option maxRecDepth 20000 in
theorem wsL_law_c5 : ∀ w ∈ wsL_law0_r5, w ∈ lw_tbl := fun w h => (goodIn_r wsL_law0_r5 [560, 562, 563, 564, 565, 263, 31, 576, 33, 592, 593, 34, 566, 567, 568, 572, 573, 574, 347, 32, 338, 306, 307, 308] (by decide +kernel) (by decide +kernel) w h).1
set_option maxRecDepth 20000 in
theorem wsL_law_c6 : ∀ w ∈ wsL_law0_r6, w ∈ lw_tbl := fun w h => (goodIn_r wsL_law0_r6 [155, 156, 157, 158, 71, 594, 595, 596, 597, 598, 601, 604, 607, 610, 614, 616, 620, 639, 640, 641, 642, 643, 644, 645] (by decide +kernel) (by decide +kernel) w h).1
set_option maxRecDepth 20000 in
theorem wsL_law_c7 : ∀ w ∈ wsL_law0_r7, w ∈ lw_tbl := fun w h => (goodIn_r wsL_law0_r7 [646, 73, 74, 647, 649, 15, 650, 651, 653, 16, 654, 655, 657, 17, 658, 694, 695, 659, 660, 35, 661, 662, 663, 664] (by decide +kernel) (by decide +kernel) w h).1
