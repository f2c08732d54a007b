set_option maxRecDepth 20000 in
theorem wsL_law_c1 : ∀ w ∈ wsL_law0_r1, w ∈ lw_tbl := fun w h => (goodIn_r wsL_law0_r1 [42, 43, 21, 778, 391, 36, 392, 44, 45, 46, 47, 48, 49, 50, 51, 22, 125, 99, 100, 26, 126, 123, 57, 25] (by decide +kernel) (by decide +kernel) w h).1
set_option maxRecDepth 20000 in
theorem wsL_law_c2 : ∀ w ∈ wsL_law0_r2, w ∈ lw_tbl := fun w h => (goodIn_r wsL_law0_r2 [127, 98, 128, 129, 130, 131, 52, 53, 54, 55, 56, 82, 83, 84, 85, 86, 58, 59, 60, 68, 70, 61, 62, 24] (by decide +kernel) (by decide +kernel) w h).1
set_option maxRecDepth 20000 in
theorem wsL_law_c3 : ∀ w ∈ wsL_law0_r3, w ∈ lw_tbl := fun w h => (goodIn_r wsL_law0_r3 [63, 72, 64, 65, 23, 66, 67, 101, 102, 103, 104, 105, 106, 107, 108, 110, 124, 751, 752, 20, 753, 754, 755, 27] (by decide +kernel) (by decide +kernel) w h).1
set_option maxRecDepth 20000 in
theorem wsL_law_b4 : Cond.codeWith yL_act cL_act 12 (some .boolean) [(608, 636, 637, 57)] ∈ lw_tbl := List.mem_of_getElem? (i := 556) rfl
def wsL_law_p4 : List Cond := [Cond.instanceMethod yX5_init, Cond.code yX5_init cX5_init 1 none, Cond.methodLink RX5 1 objectInit, Cond.classLink RX5 7 "[I", Cond.fieldLink RX5 9 "MarketAwningsLaw$Sim" "awnings" "[[I", Cond.fieldLink RX5 15 "MarketAwningsLaw$Sim" "stalls" "[[I", Cond.classLink RX5 18 "[[I", Cond.fieldLink RX5 19 "MarketAwningsLaw$Sim" "ground" "[[I", Cond.methodLink RL 64 yL_cell, Cond.static yL_cell, Cond.code yL_cell cL_cell 2 (some .int), Cond.constant RL 8 (790386105), Cond.methodLink RL 68 yL_act, Cond.static yL_act]
def wsL_law_s4 : List Cond := [Cond.classLink RL 57 "java/lang/IllegalStateException", Cond.fieldLink RL 9 "MarketAwningsLaw$Sim" "awnings" "[[I", Cond.fieldLink RL 51 "MarketAwningsLaw$Sim" "stalls" "[[I", Cond.methodLink RL 15 yL_below, Cond.static yL_below, Cond.code yL_below cL_below 2 (some .int), Cond.constant RL 7 (2147483647), Cond.methodLink RL 21 yX5_with, Cond.static yX5_with]
