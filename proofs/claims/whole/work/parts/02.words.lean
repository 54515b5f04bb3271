/-- the words: those of the tables that a call can hand on -/
def wsG : List Cond := lw_tbl.filter goodWord
theorem wsG_in {w : Cond} (h : w ∈ lw_tbl) (hg : goodWord w = true) : w ∈ wsG := List.mem_filter.mpr ⟨h, hg⟩
theorem wsL_law_in : ∀ w ∈ wsG, w ∈ lw_tbl := fun w h => (List.mem_filter.mp h).1
theorem wsG_word {w : Cond} (h : w ∈ wsG) : (w.onTables && w.keeps) = true ∨ ∃ ty, w = .arrayClass ty := good_of_word (List.mem_filter.mp h).2
theorem tin_1 : ∀ w ∈ tables_1_1, w ∈ lw_tbl := fun _ h => List.mem_append_right _ (List.mem_append_left _ h)
theorem tin_2 : ∀ w ∈ tables_1_2, w ∈ lw_tbl := fun _ h => List.mem_append_right _ (List.mem_append_right _ (List.mem_append_left _ h))
theorem tin_3 : ∀ w ∈ tables_1_3, w ∈ lw_tbl := fun _ h => List.mem_append_right _ (List.mem_append_right _ (List.mem_append_right _ (List.mem_append_left _ h)))
theorem tin_4 : ∀ w ∈ tables_1_4, w ∈ lw_tbl := fun _ h => List.mem_append_right _ (List.mem_append_right _ (List.mem_append_right _ (List.mem_append_right _ (List.mem_append_left _ h))))
theorem tin_5 : ∀ w ∈ tables_1_5, w ∈ lw_tbl := fun _ h => List.mem_append_right _ (List.mem_append_right _ (List.mem_append_right _ (List.mem_append_right _ (List.mem_append_right _ (h)))))
theorem kl_L_7 : Cond.classLink RL 7 RX10 ∈ wsG := wsG_in (tin_1 _ (List.mem_of_getElem? (l := tables_1_1) (i := 15) rfl)) rfl
theorem ia_X10 : Cond.instantiable RX10 12 ∈ wsG := wsG_in (tin_1 _ (List.mem_of_getElem? (l := tables_1_1) (i := 16) rfl)) rfl
theorem in_X10 : Cond.initialized RX10 ∈ wsG := wsG_in (tin_1 _ (List.mem_of_getElem? (l := tables_1_1) (i := 1) rfl)) rfl
theorem kl_L_10 : Cond.classLink RL 10 RX11 ∈ wsG := wsG_in (tin_3 _ (List.mem_of_getElem? (l := tables_1_3) (i := 192) rfl)) rfl
theorem ia_X11 : Cond.instantiable RX11 42 ∈ wsG := wsG_in (tin_3 _ (List.mem_of_getElem? (l := tables_1_3) (i := 193) rfl)) rfl
theorem in_X11 : Cond.initialized RX11 ∈ wsG := wsG_in (tin_1 _ (List.mem_of_getElem? (l := tables_1_1) (i := 12) rfl)) rfl
theorem ml_L_9 : Cond.methodLink RL 9 yX10_init ∈ wsG := wsG_in (tin_1 _ (List.mem_of_getElem? (l := tables_1_1) (i := 17) rfl)) rfl
theorem im_X10_init : Cond.instanceMethod yX10_init ∈ wsG := wsG_in (tin_1 _ (List.mem_of_getElem? (l := tables_1_1) (i := 18) rfl)) rfl
theorem cd_X10_init : Cond.code yX10_init cX10_init 2 none ∈ wsG := wsG_in (tin_1 _ (List.mem_of_getElem? (l := tables_1_1) (i := 19) rfl)) rfl
theorem ml_X10_1 : Cond.methodLink RX10 1 objectInit ∈ wsG := wsG_in (tin_1 _ (List.mem_of_getElem? (l := tables_1_1) (i := 20) rfl)) rfl
theorem im_objectInit : Cond.instanceMethod objectInit ∈ wsG := wsG_in (tin_1 _ (List.mem_of_getElem? (l := tables_1_1) (i := 21) rfl)) rfl
theorem cd_objectInit : Cond.code objectInit ⟨#[0xb1]⟩ 1 none ∈ wsG := wsG_in (tin_1 _ (List.mem_of_getElem? (l := tables_1_1) (i := 22) rfl)) rfl
theorem kl_X10_7 : Cond.classLink RX10 7 RX9 ∈ wsG := wsG_in (tin_1 _ (List.mem_of_getElem? (l := tables_1_1) (i := 23) rfl)) rfl
theorem ia_X9 : Cond.instantiable RX9 6 ∈ wsG := wsG_in (tin_1 _ (List.mem_of_getElem? (l := tables_1_1) (i := 24) rfl)) rfl
theorem in_X9 : Cond.initialized RX9 ∈ wsG := wsG_in (tin_1 _ (List.mem_of_getElem? (l := tables_1_1) (i := 2) rfl)) rfl
theorem fl_X10_10 : Cond.fieldLink RX10 10 "StarTrade" "world" "LStarTrade$World;" ∈ wsG := wsG_in (tin_2 _ (List.mem_of_getElem? (l := tables_1_2) (i := 122) rfl)) rfl
theorem kl_X10_16 : Cond.classLink RX10 16 RX7 ∈ wsG := wsG_in (tin_1 _ (List.mem_of_getElem? (l := tables_1_1) (i := 154) rfl)) rfl
theorem fl_X10_18 : Cond.fieldLink RX10 18 "StarTrade" "ships" "[LStarTrade$Ship;" ∈ wsG := wsG_in (tin_2 _ (List.mem_of_getElem? (l := tables_1_2) (i := 123) rfl)) rfl
theorem ia_X7 : Cond.instantiable RX7 4 ∈ wsG := wsG_in (tin_1 _ (List.mem_of_getElem? (l := tables_1_1) (i := 156) rfl)) rfl
theorem in_X7 : Cond.initialized RX7 ∈ wsG := wsG_in (tin_1 _ (List.mem_of_getElem? (l := tables_1_1) (i := 6) rfl)) rfl
theorem kl_X10_23 : Cond.classLink RX10 23 RX2 ∈ wsG := wsG_in (tin_1 _ (List.mem_of_getElem? (l := tables_1_1) (i := 175) rfl)) rfl
theorem ia_X2 : Cond.instantiable RX2 6 ∈ wsG := wsG_in (tin_1 _ (List.mem_of_getElem? (l := tables_1_1) (i := 176) rfl)) rfl
theorem in_X2 : Cond.initialized RX2 ∈ wsG := wsG_in (tin_1 _ (List.mem_of_getElem? (l := tables_1_1) (i := 7) rfl)) rfl
theorem fl_X10_26 : Cond.fieldLink RX10 26 "StarTrade" "flow" "LStarTrade$Flow;" ∈ wsG := wsG_in (tin_2 _ (List.mem_of_getElem? (l := tables_1_2) (i := 130) rfl)) rfl
theorem kl_X10_30 : Cond.classLink RX10 30 RX1 ∈ wsG := wsG_in (tin_1 _ (List.mem_of_getElem? (l := tables_1_1) (i := 207) rfl)) rfl
theorem ia_X1 : Cond.instantiable RX1 5 ∈ wsG := wsG_in (tin_1 _ (List.mem_of_getElem? (l := tables_1_1) (i := 208) rfl)) rfl
theorem in_X1 : Cond.initialized RX1 ∈ wsG := wsG_in (tin_1 _ (List.mem_of_getElem? (l := tables_1_1) (i := 8) rfl)) rfl
theorem fl_X10_33 : Cond.fieldLink RX10 33 "StarTrade" "deal" "LStarTrade$Deal;" ∈ wsG := wsG_in (tin_2 _ (List.mem_of_getElem? (l := tables_1_2) (i := 131) rfl)) rfl
theorem kl_X10_37 : Cond.classLink RX10 37 RX5 ∈ wsG := wsG_in (tin_1 _ (List.mem_of_getElem? (l := tables_1_1) (i := 237) rfl)) rfl
theorem ia_X5 : Cond.instantiable RX5 7 ∈ wsG := wsG_in (tin_1 _ (List.mem_of_getElem? (l := tables_1_1) (i := 238) rfl)) rfl
theorem in_X5 : Cond.initialized RX5 ∈ wsG := wsG_in (tin_1 _ (List.mem_of_getElem? (l := tables_1_1) (i := 9) rfl)) rfl
theorem fl_X10_42 : Cond.fieldLink RX10 42 "StarTrade" "rings" "LStarTrade$RingSearch;" ∈ wsG := wsG_in (tin_2 _ (List.mem_of_getElem? (l := tables_1_2) (i := 132) rfl)) rfl
theorem kl_X10_46 : Cond.classLink RX10 46 RX3 ∈ wsG := wsG_in (tin_2 _ (List.mem_of_getElem? (l := tables_1_2) (i := 30) rfl)) rfl
theorem ia_X3 : Cond.instantiable RX3 15 ∈ wsG := wsG_in (tin_2 _ (List.mem_of_getElem? (l := tables_1_2) (i := 31) rfl)) rfl
theorem in_X3 : Cond.initialized RX3 ∈ wsG := wsG_in (tin_1 _ (List.mem_of_getElem? (l := tables_1_1) (i := 10) rfl)) rfl
theorem fl_X10_49 : Cond.fieldLink RX10 49 "StarTrade" "plans" "LStarTrade$PlanSearch;" ∈ wsG := wsG_in (tin_2 _ (List.mem_of_getElem? (l := tables_1_2) (i := 133) rfl)) rfl
theorem ml_X10_9 : Cond.methodLink RX10 9 yX9_init ∈ wsG := wsG_in (tin_1 _ (List.mem_of_getElem? (l := tables_1_1) (i := 25) rfl)) rfl
theorem im_X9_init : Cond.instanceMethod yX9_init ∈ wsG := wsG_in (tin_1 _ (List.mem_of_getElem? (l := tables_1_1) (i := 26) rfl)) rfl
theorem cd_X9_init : Cond.code yX9_init cX9_init 2 none ∈ wsG := wsG_in (tin_1 _ (List.mem_of_getElem? (l := tables_1_1) (i := 27) rfl)) rfl
theorem ml_X9_3 : Cond.methodLink RX9 3 objectInit ∈ wsG := wsG_in (tin_1 _ (List.mem_of_getElem? (l := tables_1_1) (i := 28) rfl)) rfl
theorem kl_X9_9 : Cond.classLink RX9 9 RX4 ∈ wsG := wsG_in (tin_1 _ (List.mem_of_getElem? (l := tables_1_1) (i := 29) rfl)) rfl
theorem fl_X9_11 : Cond.fieldLink RX9 11 "StarTrade$World" "ports" "[LStarTrade$Port;" ∈ wsG := wsG_in (tin_1 _ (List.mem_of_getElem? (l := tables_1_1) (i := 122) rfl)) rfl
theorem ia_X4 : Cond.instantiable RX4 5 ∈ wsG := wsG_in (tin_1 _ (List.mem_of_getElem? (l := tables_1_1) (i := 31) rfl)) rfl
theorem in_X4 : Cond.initialized RX4 ∈ wsG := wsG_in (tin_1 _ (List.mem_of_getElem? (l := tables_1_1) (i := 3) rfl)) rfl
theorem kl_X9_20 : Cond.classLink RX9 20 "[[I" ∈ wsG := wsG_in (tin_1 _ (List.mem_of_getElem? (l := tables_1_1) (i := 95) rfl)) rfl
theorem ac_int : Cond.arrayClass .int ∈ wsG := wsG_in (tin_1 _ (List.mem_of_getElem? (l := tables_1_1) (i := 121) rfl)) rfl
theorem fl_X9_22 : Cond.fieldLink RX9 22 "StarTrade$World" "ways" "[[I" ∈ wsG := wsG_in (tin_1 _ (List.mem_of_getElem? (l := tables_1_1) (i := 126) rfl)) rfl
theorem kl_X9_25 : Cond.classLink RX9 25 RX0 ∈ wsG := wsG_in (tin_1 _ (List.mem_of_getElem? (l := tables_1_1) (i := 97) rfl)) rfl
theorem ia_X0 : Cond.instantiable RX0 4 ∈ wsG := wsG_in (tin_1 _ (List.mem_of_getElem? (l := tables_1_1) (i := 98) rfl)) rfl
theorem in_X0 : Cond.initialized RX0 ∈ wsG := wsG_in (tin_1 _ (List.mem_of_getElem? (l := tables_1_1) (i := 5) rfl)) rfl
theorem fl_X9_28 : Cond.fieldLink RX9 28 "StarTrade$World" "calendar" "LStarTrade$Calendar;" ∈ wsG := wsG_in (tin_1 _ (List.mem_of_getElem? (l := tables_1_1) (i := 129) rfl)) rfl
theorem fl_X9_32 : Cond.fieldLink RX9 32 "StarTrade$World" "fuel" "I" ∈ wsG := wsG_in (tin_1 _ (List.mem_of_getElem? (l := tables_1_1) (i := 137) rfl)) rfl
theorem ml_X9_17 : Cond.methodLink RX9 17 yX4_init ∈ wsG := wsG_in (tin_1 _ (List.mem_of_getElem? (l := tables_1_1) (i := 32) rfl)) rfl
theorem im_X4_init : Cond.instanceMethod yX4_init ∈ wsG := wsG_in (tin_1 _ (List.mem_of_getElem? (l := tables_1_1) (i := 33) rfl)) rfl
theorem cd_X4_init : Cond.code yX4_init cX4_init 3 none ∈ wsG := wsG_in (tin_1 _ (List.mem_of_getElem? (l := tables_1_1) (i := 34) rfl)) rfl
theorem ml_X4_3 : Cond.methodLink RX4 3 objectInit ∈ wsG := wsG_in (tin_1 _ (List.mem_of_getElem? (l := tables_1_1) (i := 35) rfl)) rfl
theorem kl_X4_9 : Cond.classLink RX4 9 RX6 ∈ wsG := wsG_in (tin_1 _ (List.mem_of_getElem? (l := tables_1_1) (i := 36) rfl)) rfl
theorem fl_X4_11 : Cond.fieldLink RX4 11 "StarTrade$Port" "shelves" "[LStarTrade$Shelf;" ∈ wsG := wsG_in (tin_1 _ (List.mem_of_getElem? (l := tables_1_1) (i := 74) rfl)) rfl
theorem ia_X6 : Cond.instantiable RX6 7 ∈ wsG := wsG_in (tin_1 _ (List.mem_of_getElem? (l := tables_1_1) (i := 38) rfl)) rfl
theorem in_X6 : Cond.initialized RX6 ∈ wsG := wsG_in (tin_1 _ (List.mem_of_getElem? (l := tables_1_1) (i := 4) rfl)) rfl
theorem ml_X4_17 : Cond.methodLink RX4 17 yX6_init ∈ wsG := wsG_in (tin_1 _ (List.mem_of_getElem? (l := tables_1_1) (i := 39) rfl)) rfl
theorem im_X6_init : Cond.instanceMethod yX6_init ∈ wsG := wsG_in (tin_1 _ (List.mem_of_getElem? (l := tables_1_1) (i := 40) rfl)) rfl
theorem cd_X6_init : Cond.code yX6_init cX6_init 2 none ∈ wsG := wsG_in (tin_1 _ (List.mem_of_getElem? (l := tables_1_1) (i := 41) rfl)) rfl
theorem ml_X6_3 : Cond.methodLink RX6 3 objectInit ∈ wsG := wsG_in (tin_1 _ (List.mem_of_getElem? (l := tables_1_1) (i := 42) rfl)) rfl
theorem fl_X6_9 : Cond.fieldLink RX6 9 "StarTrade$Shelf" "place" "I" ∈ wsG := wsG_in (tin_1 _ (List.mem_of_getElem? (l := tables_1_1) (i := 43) rfl)) rfl
theorem fl_X6_15 : Cond.fieldLink RX6 15 "StarTrade$Shelf" "base" "I" ∈ wsG := wsG_in (tin_1 _ (List.mem_of_getElem? (l := tables_1_1) (i := 54) rfl)) rfl
theorem fl_X6_18 : Cond.fieldLink RX6 18 "StarTrade$Shelf" "ideal" "I" ∈ wsG := wsG_in (tin_1 _ (List.mem_of_getElem? (l := tables_1_1) (i := 55) rfl)) rfl
theorem im_X0_init : Cond.instanceMethod yX0_init ∈ wsG := wsG_in (tin_1 _ (List.mem_of_getElem? (l := tables_1_1) (i := 100) rfl)) rfl
theorem cd_X0_init : Cond.code yX0_init cX0_init 1 none ∈ wsG := wsG_in (tin_1 _ (List.mem_of_getElem? (l := tables_1_1) (i := 101) rfl)) rfl
theorem ml_X0_3 : Cond.methodLink RX0 3 objectInit ∈ wsG := wsG_in (tin_1 _ (List.mem_of_getElem? (l := tables_1_1) (i := 102) rfl)) rfl
theorem fl_X0_9 : Cond.fieldLink RX0 9 "StarTrade$Calendar" "ticks" "[I" ∈ wsG := wsG_in (tin_1 _ (List.mem_of_getElem? (l := tables_1_1) (i := 103) rfl)) rfl
theorem fl_X0_15 : Cond.fieldLink RX0 15 "StarTrade$Calendar" "places" "[I" ∈ wsG := wsG_in (tin_1 _ (List.mem_of_getElem? (l := tables_1_1) (i := 105) rfl)) rfl
theorem fl_X0_18 : Cond.fieldLink RX0 18 "StarTrade$Calendar" "changes" "[I" ∈ wsG := wsG_in (tin_1 _ (List.mem_of_getElem? (l := tables_1_1) (i := 107) rfl)) rfl
theorem im_X7_init : Cond.instanceMethod yX7_init ∈ wsG := wsG_in (tin_1 _ (List.mem_of_getElem? (l := tables_1_1) (i := 158) rfl)) rfl
theorem cd_X7_init : Cond.code yX7_init cX7_init 1 none ∈ wsG := wsG_in (tin_1 _ (List.mem_of_getElem? (l := tables_1_1) (i := 159) rfl)) rfl
theorem ml_X7_3 : Cond.methodLink RX7 3 objectInit ∈ wsG := wsG_in (tin_1 _ (List.mem_of_getElem? (l := tables_1_1) (i := 160) rfl)) rfl
theorem fl_X7_9 : Cond.fieldLink RX7 9 "StarTrade$Ship" "cargo" "[I" ∈ wsG := wsG_in (tin_1 _ (List.mem_of_getElem? (l := tables_1_1) (i := 164) rfl)) rfl
theorem im_X2_init : Cond.instanceMethod yX2_init ∈ wsG := wsG_in (tin_1 _ (List.mem_of_getElem? (l := tables_1_1) (i := 178) rfl)) rfl
theorem cd_X2_init : Cond.code yX2_init cX2_init 1 none ∈ wsG := wsG_in (tin_1 _ (List.mem_of_getElem? (l := tables_1_1) (i := 179) rfl)) rfl
theorem ml_X2_3 : Cond.methodLink RX2 3 objectInit ∈ wsG := wsG_in (tin_1 _ (List.mem_of_getElem? (l := tables_1_1) (i := 180) rfl)) rfl
theorem im_X1_init : Cond.instanceMethod yX1_init ∈ wsG := wsG_in (tin_1 _ (List.mem_of_getElem? (l := tables_1_1) (i := 210) rfl)) rfl
theorem cd_X1_init : Cond.code yX1_init cX1_init 1 none ∈ wsG := wsG_in (tin_1 _ (List.mem_of_getElem? (l := tables_1_1) (i := 211) rfl)) rfl
theorem ml_X1_3 : Cond.methodLink RX1 3 objectInit ∈ wsG := wsG_in (tin_1 _ (List.mem_of_getElem? (l := tables_1_1) (i := 212) rfl)) rfl
theorem ml_X10_39 : Cond.methodLink RX10 39 yX5_init ∈ wsG := wsG_in (tin_1 _ (List.mem_of_getElem? (l := tables_1_1) (i := 239) rfl)) rfl
theorem im_X5_init : Cond.instanceMethod yX5_init ∈ wsG := wsG_in (tin_2 _ (List.mem_of_getElem? (l := tables_1_2) (i := 0) rfl)) rfl
theorem cd_X5_init : Cond.code yX5_init cX5_init 2 none ∈ wsG := wsG_in (tin_2 _ (List.mem_of_getElem? (l := tables_1_2) (i := 1) rfl)) rfl
theorem ml_X5_3 : Cond.methodLink RX5 3 objectInit ∈ wsG := wsG_in (tin_2 _ (List.mem_of_getElem? (l := tables_1_2) (i := 2) rfl)) rfl
theorem kl_X5_9 : Cond.classLink RX5 9 "[[I" ∈ wsG := wsG_in (tin_2 _ (List.mem_of_getElem? (l := tables_1_2) (i := 3) rfl)) rfl
theorem fl_X5_11 : Cond.fieldLink RX5 11 "StarTrade$RingSearch" "legGains" "[[I" ∈ wsG := wsG_in (tin_2 _ (List.mem_of_getElem? (l := tables_1_2) (i := 5) rfl)) rfl
theorem fl_X5_16 : Cond.fieldLink RX5 16 "StarTrade$RingSearch" "path" "[I" ∈ wsG := wsG_in (tin_2 _ (List.mem_of_getElem? (l := tables_1_2) (i := 6) rfl)) rfl
theorem fl_X5_20 : Cond.fieldLink RX5 20 "StarTrade$RingSearch" "best" "[I" ∈ wsG := wsG_in (tin_2 _ (List.mem_of_getElem? (l := tables_1_2) (i := 7) rfl)) rfl
theorem fl_X5_23 : Cond.fieldLink RX5 23 "StarTrade$RingSearch" "world" "LStarTrade$World;" ∈ wsG := wsG_in (tin_2 _ (List.mem_of_getElem? (l := tables_1_2) (i := 4) rfl)) rfl
theorem ml_X10_48 : Cond.methodLink RX10 48 yX3_init ∈ wsG := wsG_in (tin_2 _ (List.mem_of_getElem? (l := tables_1_2) (i := 32) rfl)) rfl
theorem im_X3_init : Cond.instanceMethod yX3_init ∈ wsG := wsG_in (tin_2 _ (List.mem_of_getElem? (l := tables_1_2) (i := 33) rfl)) rfl
theorem cd_X3_init : Cond.code yX3_init cX3_init 3 none ∈ wsG := wsG_in (tin_2 _ (List.mem_of_getElem? (l := tables_1_2) (i := 34) rfl)) rfl
theorem ml_X3_3 : Cond.methodLink RX3 3 objectInit ∈ wsG := wsG_in (tin_2 _ (List.mem_of_getElem? (l := tables_1_2) (i := 35) rfl)) rfl
theorem kl_X3_9 : Cond.classLink RX3 9 RX2 ∈ wsG := wsG_in (tin_2 _ (List.mem_of_getElem? (l := tables_1_2) (i := 36) rfl)) rfl
theorem fl_X3_12 : Cond.fieldLink RX3 12 "StarTrade$PlanSearch" "flow" "LStarTrade$Flow;" ∈ wsG := wsG_in (tin_2 _ (List.mem_of_getElem? (l := tables_1_2) (i := 73) rfl)) rfl
theorem kl_X3_18 : Cond.classLink RX3 18 RX1 ∈ wsG := wsG_in (tin_2 _ (List.mem_of_getElem? (l := tables_1_2) (i := 38) rfl)) rfl
theorem fl_X3_21 : Cond.fieldLink RX3 21 "StarTrade$PlanSearch" "deal" "LStarTrade$Deal;" ∈ wsG := wsG_in (tin_2 _ (List.mem_of_getElem? (l := tables_1_2) (i := 74) rfl)) rfl
theorem fl_X3_25 : Cond.fieldLink RX3 25 "StarTrade$PlanSearch" "stocks" "[I" ∈ wsG := wsG_in (tin_2 _ (List.mem_of_getElem? (l := tables_1_2) (i := 76) rfl)) rfl
theorem fl_X3_29 : Cond.fieldLink RX3 29 "StarTrade$PlanSearch" "times" "[I" ∈ wsG := wsG_in (tin_2 _ (List.mem_of_getElem? (l := tables_1_2) (i := 77) rfl)) rfl
theorem fl_X3_32 : Cond.fieldLink RX3 32 "StarTrade$PlanSearch" "pathPorts" "[I" ∈ wsG := wsG_in (tin_2 _ (List.mem_of_getElem? (l := tables_1_2) (i := 78) rfl)) rfl
theorem fl_X3_35 : Cond.fieldLink RX3 35 "StarTrade$PlanSearch" "pathGoods" "[I" ∈ wsG := wsG_in (tin_2 _ (List.mem_of_getElem? (l := tables_1_2) (i := 79) rfl)) rfl
theorem fl_X3_38 : Cond.fieldLink RX3 38 "StarTrade$PlanSearch" "bestPorts" "[I" ∈ wsG := wsG_in (tin_2 _ (List.mem_of_getElem? (l := tables_1_2) (i := 83) rfl)) rfl
theorem fl_X3_41 : Cond.fieldLink RX3 41 "StarTrade$PlanSearch" "bestGoods" "[I" ∈ wsG := wsG_in (tin_2 _ (List.mem_of_getElem? (l := tables_1_2) (i := 85) rfl)) rfl
theorem fl_X3_44 : Cond.fieldLink RX3 44 "StarTrade$PlanSearch" "world" "LStarTrade$World;" ∈ wsG := wsG_in (tin_2 _ (List.mem_of_getElem? (l := tables_1_2) (i := 72) rfl)) rfl
theorem kl_X3_48 : Cond.classLink RX3 48 RX8 ∈ wsG := wsG_in (tin_2 _ (List.mem_of_getElem? (l := tables_1_2) (i := 40) rfl)) rfl
theorem fl_X3_50 : Cond.fieldLink RX3 50 "StarTrade$PlanSearch" "stops" "[LStarTrade$Stop;" ∈ wsG := wsG_in (tin_2 _ (List.mem_of_getElem? (l := tables_1_2) (i := 75) rfl)) rfl
theorem ia_X8 : Cond.instantiable RX8 7 ∈ wsG := wsG_in (tin_2 _ (List.mem_of_getElem? (l := tables_1_2) (i := 42) rfl)) rfl
theorem in_X8 : Cond.initialized RX8 ∈ wsG := wsG_in (tin_1 _ (List.mem_of_getElem? (l := tables_1_1) (i := 11) rfl)) rfl
theorem im_X8_init : Cond.instanceMethod yX8_init ∈ wsG := wsG_in (tin_2 _ (List.mem_of_getElem? (l := tables_1_2) (i := 44) rfl)) rfl
theorem cd_X8_init : Cond.code yX8_init cX8_init 1 none ∈ wsG := wsG_in (tin_2 _ (List.mem_of_getElem? (l := tables_1_2) (i := 45) rfl)) rfl
theorem ml_X8_3 : Cond.methodLink RX8 3 objectInit ∈ wsG := wsG_in (tin_2 _ (List.mem_of_getElem? (l := tables_1_2) (i := 46) rfl)) rfl
theorem fl_X8_9 : Cond.fieldLink RX8 9 "StarTrade$Stop" "units" "[I" ∈ wsG := wsG_in (tin_2 _ (List.mem_of_getElem? (l := tables_1_2) (i := 51) rfl)) rfl
theorem fl_X8_15 : Cond.fieldLink RX8 15 "StarTrade$Stop" "coinsLeft" "[I" ∈ wsG := wsG_in (tin_2 _ (List.mem_of_getElem? (l := tables_1_2) (i := 53) rfl)) rfl
theorem fl_X8_18 : Cond.fieldLink RX8 18 "StarTrade$Stop" "stockLeft" "[I" ∈ wsG := wsG_in (tin_2 _ (List.mem_of_getElem? (l := tables_1_2) (i := 55) rfl)) rfl
theorem ml_L_12 : Cond.methodLink RL 12 yX11_init ∈ wsG := wsG_in (tin_3 _ (List.mem_of_getElem? (l := tables_1_3) (i := 194) rfl)) rfl
theorem im_X11_init : Cond.instanceMethod yX11_init ∈ wsG := wsG_in (tin_3 _ (List.mem_of_getElem? (l := tables_1_3) (i := 195) rfl)) rfl
theorem cd_X11_init : Cond.code yX11_init cX11_init 1 none ∈ wsG := wsG_in (tin_3 _ (List.mem_of_getElem? (l := tables_1_3) (i := 196) rfl)) rfl
theorem ml_X11_1 : Cond.methodLink RX11 1 objectInit ∈ wsG := wsG_in (tin_3 _ (List.mem_of_getElem? (l := tables_1_3) (i := 197) rfl)) rfl
theorem fl_X11_7 : Cond.fieldLink RX11 7 "StarTradeModel" "fuel" "I" ∈ wsG := wsG_in (tin_3 _ (List.mem_of_getElem? (l := tables_1_3) (i := 200) rfl)) rfl
theorem fl_X11_13 : Cond.fieldLink RX11 13 "StarTradeModel" "stock" "[I" ∈ wsG := wsG_in (tin_3 _ (List.mem_of_getElem? (l := tables_1_3) (i := 201) rfl)) rfl
theorem fl_X11_17 : Cond.fieldLink RX11 17 "StarTradeModel" "make" "[I" ∈ wsG := wsG_in (tin_3 _ (List.mem_of_getElem? (l := tables_1_3) (i := 202) rfl)) rfl
theorem fl_X11_20 : Cond.fieldLink RX11 20 "StarTradeModel" "use" "[I" ∈ wsG := wsG_in (tin_3 _ (List.mem_of_getElem? (l := tables_1_3) (i := 203) rfl)) rfl
theorem fl_X11_23 : Cond.fieldLink RX11 23 "StarTradeModel" "base" "[I" ∈ wsG := wsG_in (tin_3 _ (List.mem_of_getElem? (l := tables_1_3) (i := 204) rfl)) rfl
theorem fl_X11_26 : Cond.fieldLink RX11 26 "StarTradeModel" "ideal" "[I" ∈ wsG := wsG_in (tin_3 _ (List.mem_of_getElem? (l := tables_1_3) (i := 205) rfl)) rfl
theorem fl_X11_29 : Cond.fieldLink RX11 29 "StarTradeModel" "hunger" "[I" ∈ wsG := wsG_in (tin_3 _ (List.mem_of_getElem? (l := tables_1_3) (i := 206) rfl)) rfl
theorem fl_X11_32 : Cond.fieldLink RX11 32 "StarTradeModel" "tax" "[I" ∈ wsG := wsG_in (tin_3 _ (List.mem_of_getElem? (l := tables_1_3) (i := 207) rfl)) rfl
theorem fl_X11_35 : Cond.fieldLink RX11 35 "StarTradeModel" "chest" "[I" ∈ wsG := wsG_in (tin_3 _ (List.mem_of_getElem? (l := tables_1_3) (i := 208) rfl)) rfl
theorem fl_X11_38 : Cond.fieldLink RX11 38 "StarTradeModel" "trade" "[I" ∈ wsG := wsG_in (tin_3 _ (List.mem_of_getElem? (l := tables_1_3) (i := 209) rfl)) rfl
theorem ac_boolean : Cond.arrayClass .boolean ∈ wsG := wsG_in (tin_4 _ (List.mem_of_getElem? (l := tables_1_4) (i := 85) rfl)) rfl
theorem fl_X11_41 : Cond.fieldLink RX11 41 "StarTradeModel" "isShut" "[Z" ∈ wsG := wsG_in (tin_3 _ (List.mem_of_getElem? (l := tables_1_3) (i := 210) rfl)) rfl
theorem fl_X11_45 : Cond.fieldLink RX11 45 "StarTradeModel" "ways" "[I" ∈ wsG := wsG_in (tin_3 _ (List.mem_of_getElem? (l := tables_1_3) (i := 211) rfl)) rfl
theorem fl_X11_48 : Cond.fieldLink RX11 48 "StarTradeModel" "eventTick" "[I" ∈ wsG := wsG_in (tin_3 _ (List.mem_of_getElem? (l := tables_1_3) (i := 217) rfl)) rfl
theorem fl_X11_51 : Cond.fieldLink RX11 51 "StarTradeModel" "eventPlace" "[I" ∈ wsG := wsG_in (tin_3 _ (List.mem_of_getElem? (l := tables_1_3) (i := 218) rfl)) rfl
theorem fl_X11_54 : Cond.fieldLink RX11 54 "StarTradeModel" "eventBy" "[I" ∈ wsG := wsG_in (tin_3 _ (List.mem_of_getElem? (l := tables_1_3) (i := 219) rfl)) rfl
theorem fl_X11_57 : Cond.fieldLink RX11 57 "StarTradeModel" "at" "[I" ∈ wsG := wsG_in (tin_3 _ (List.mem_of_getElem? (l := tables_1_3) (i := 221) rfl)) rfl
theorem fl_X11_60 : Cond.fieldLink RX11 60 "StarTradeModel" "hold" "[I" ∈ wsG := wsG_in (tin_3 _ (List.mem_of_getElem? (l := tables_1_3) (i := 222) rfl)) rfl
theorem fl_X11_63 : Cond.fieldLink RX11 63 "StarTradeModel" "coins" "[I" ∈ wsG := wsG_in (tin_3 _ (List.mem_of_getElem? (l := tables_1_3) (i := 223) rfl)) rfl
theorem fl_X11_66 : Cond.fieldLink RX11 66 "StarTradeModel" "cargo" "[I" ∈ wsG := wsG_in (tin_3 _ (List.mem_of_getElem? (l := tables_1_3) (i := 224) rfl)) rfl
theorem fl_X11_69 : Cond.fieldLink RX11 69 "StarTradeModel" "row" "[I" ∈ wsG := wsG_in (tin_3 _ (List.mem_of_getElem? (l := tables_1_3) (i := 226) rfl)) rfl
theorem fl_X11_72 : Cond.fieldLink RX11 72 "StarTradeModel" "best" "[I" ∈ wsG := wsG_in (tin_3 _ (List.mem_of_getElem? (l := tables_1_3) (i := 227) rfl)) rfl
theorem fl_X11_75 : Cond.fieldLink RX11 75 "StarTradeModel" "then" "[I" ∈ wsG := wsG_in (tin_3 _ (List.mem_of_getElem? (l := tables_1_3) (i := 231) rfl)) rfl
theorem fl_X11_78 : Cond.fieldLink RX11 78 "StarTradeModel" "toPort" "[I" ∈ wsG := wsG_in (tin_3 _ (List.mem_of_getElem? (l := tables_1_3) (i := 235) rfl)) rfl
theorem fl_X11_81 : Cond.fieldLink RX11 81 "StarTradeModel" "withGood" "[I" ∈ wsG := wsG_in (tin_3 _ (List.mem_of_getElem? (l := tables_1_3) (i := 236) rfl)) rfl
theorem fl_X11_84 : Cond.fieldLink RX11 84 "StarTradeModel" "planPort" "[I" ∈ wsG := wsG_in (tin_3 _ (List.mem_of_getElem? (l := tables_1_3) (i := 237) rfl)) rfl
theorem fl_X11_87 : Cond.fieldLink RX11 87 "StarTradeModel" "planGood" "[I" ∈ wsG := wsG_in (tin_3 _ (List.mem_of_getElem? (l := tables_1_3) (i := 238) rfl)) rfl
theorem ml_L_13 : Cond.methodLink RL 13 yX10_port ∈ wsG := wsG_in (tin_2 _ (List.mem_of_getElem? (l := tables_1_2) (i := 159) rfl)) rfl
theorem im_X10_port : Cond.instanceMethod yX10_port ∈ wsG := wsG_in (tin_2 _ (List.mem_of_getElem? (l := tables_1_2) (i := 160) rfl)) rfl
theorem se_X10_port : Cond.selects RX10 yX10_port yX10_port ∈ wsG := wsG_in (tin_2 _ (List.mem_of_getElem? (l := tables_1_2) (i := 161) rfl)) rfl
theorem cd_X10_port : Cond.code yX10_port cX10_port 1 (some .int) ∈ wsG := wsG_in (tin_2 _ (List.mem_of_getElem? (l := tables_1_2) (i := 162) rfl)) rfl
theorem fl_X10_53 : Cond.fieldLink RX10 53 "StarTrade$World" "portCount" "I" ∈ wsG := wsG_in (tin_1 _ (List.mem_of_getElem? (l := tables_1_1) (i := 132) rfl)) rfl
theorem ml_L_17 : Cond.methodLink RL 17 yX11_port ∈ wsG := wsG_in (tin_4 _ (List.mem_of_getElem? (l := tables_1_4) (i := 86) rfl)) rfl
theorem im_X11_port : Cond.instanceMethod yX11_port ∈ wsG := wsG_in (tin_4 _ (List.mem_of_getElem? (l := tables_1_4) (i := 87) rfl)) rfl
theorem se_X11_port : Cond.selects RX11 yX11_port yX11_port ∈ wsG := wsG_in (tin_4 _ (List.mem_of_getElem? (l := tables_1_4) (i := 88) rfl)) rfl
theorem cd_X11_port : Cond.code yX11_port cX11_port 2 (some .int) ∈ wsG := wsG_in (tin_4 _ (List.mem_of_getElem? (l := tables_1_4) (i := 89) rfl)) rfl
theorem fl_X11_90 : Cond.fieldLink RX11 90 "StarTradeModel" "ports" "I" ∈ wsG := wsG_in (tin_3 _ (List.mem_of_getElem? (l := tables_1_3) (i := 198) rfl)) rfl
theorem ml_L_18 : Cond.methodLink RL 18 yX10_set ∈ wsG := wsG_in (tin_2 _ (List.mem_of_getElem? (l := tables_1_2) (i := 163) rfl)) rfl
theorem im_X10_set : Cond.instanceMethod yX10_set ∈ wsG := wsG_in (tin_2 _ (List.mem_of_getElem? (l := tables_1_2) (i := 164) rfl)) rfl
theorem se_X10_set : Cond.selects RX10 yX10_set yX10_set ∈ wsG := wsG_in (tin_2 _ (List.mem_of_getElem? (l := tables_1_2) (i := 165) rfl)) rfl
theorem cd_X10_set : Cond.code yX10_set cX10_set 7 (some .int) ∈ wsG := wsG_in (tin_2 _ (List.mem_of_getElem? (l := tables_1_2) (i := 166) rfl)) rfl
theorem fl_X10_68 : Cond.fieldLink RX10 68 "StarTrade" "LEAST" "[I" ∈ wsG := wsG_in (tin_2 _ (List.mem_of_getElem? (l := tables_1_2) (i := 177) rfl)) rfl
theorem fl_X10_72 : Cond.fieldLink RX10 72 "StarTrade" "MOST" "[I" ∈ wsG := wsG_in (tin_2 _ (List.mem_of_getElem? (l := tables_1_2) (i := 179) rfl)) rfl
theorem fl_X10_89 : Cond.fieldLink RX10 89 "StarTrade" "stocked" "I" ∈ wsG := wsG_in (tin_2 _ (List.mem_of_getElem? (l := tables_1_2) (i := 128) rfl)) rfl
theorem ml_X10_57 : Cond.methodLink RX10 57 yX10_isPort ∈ wsG := wsG_in (tin_2 _ (List.mem_of_getElem? (l := tables_1_2) (i := 167) rfl)) rfl
theorem im_X10_isPort : Cond.instanceMethod yX10_isPort ∈ wsG := wsG_in (tin_2 _ (List.mem_of_getElem? (l := tables_1_2) (i := 169) rfl)) rfl
theorem se_X10_isPort : Cond.selects RX10 yX10_isPort yX10_isPort ∈ wsG := wsG_in (List.mem_append_left _ (List.mem_of_getElem? (l := k2_sels lw_privs) (i := 0) rfl)) rfl
theorem cd_X10_isPort : Cond.code yX10_isPort cX10_isPort 2 (some .boolean) ∈ wsG := wsG_in (tin_2 _ (List.mem_of_getElem? (l := tables_1_2) (i := 170) rfl)) rfl
theorem ml_X10_64 : Cond.methodLink RX10 64 yX10_within ∈ wsG := wsG_in (tin_2 _ (List.mem_of_getElem? (l := tables_1_2) (i := 171) rfl)) rfl
theorem st_X10_within : Cond.static yX10_within ∈ wsG := wsG_in (tin_2 _ (List.mem_of_getElem? (l := tables_1_2) (i := 172) rfl)) rfl
theorem cd_X10_within : Cond.code yX10_within cX10_within 3 (some .boolean) ∈ wsG := wsG_in (tin_2 _ (List.mem_of_getElem? (l := tables_1_2) (i := 173) rfl)) rfl
theorem ml_X10_61 : Cond.methodLink RX10 61 yX10_isGood ∈ wsG := wsG_in (tin_2 _ (List.mem_of_getElem? (l := tables_1_2) (i := 174) rfl)) rfl
theorem st_X10_isGood : Cond.static yX10_isGood ∈ wsG := wsG_in (tin_2 _ (List.mem_of_getElem? (l := tables_1_2) (i := 175) rfl)) rfl
theorem cd_X10_isGood : Cond.code yX10_isGood cX10_isGood 1 (some .boolean) ∈ wsG := wsG_in (tin_2 _ (List.mem_of_getElem? (l := tables_1_2) (i := 176) rfl)) rfl
theorem ml_X10_75 : Cond.methodLink RX10 75 yX9_shelf ∈ wsG := wsG_in (tin_2 _ (List.mem_of_getElem? (l := tables_1_2) (i := 181) rfl)) rfl
theorem im_X9_shelf : Cond.instanceMethod yX9_shelf ∈ wsG := wsG_in (tin_2 _ (List.mem_of_getElem? (l := tables_1_2) (i := 182) rfl)) rfl
theorem se_X9_shelf : Cond.selects RX9 yX9_shelf yX9_shelf ∈ wsG := wsG_in (tin_2 _ (List.mem_of_getElem? (l := tables_1_2) (i := 183) rfl)) rfl
theorem cd_X9_shelf : Cond.code yX9_shelf cX9_shelf 3 (some (.object "StarTrade$Shelf")) ∈ wsG := wsG_in (tin_2 _ (List.mem_of_getElem? (l := tables_1_2) (i := 184) rfl)) rfl
theorem fl_X9_36 : Cond.fieldLink RX9 36 "StarTrade$Port" "shelves" "[LStarTrade$Shelf;" ∈ wsG := wsG_in (tin_1 _ (List.mem_of_getElem? (l := tables_1_1) (i := 75) rfl)) rfl
theorem ml_X10_79 : Cond.methodLink RX10 79 yX6_number ∈ wsG := wsG_in (tin_2 _ (List.mem_of_getElem? (l := tables_1_2) (i := 185) rfl)) rfl
theorem im_X6_number : Cond.instanceMethod yX6_number ∈ wsG := wsG_in (tin_2 _ (List.mem_of_getElem? (l := tables_1_2) (i := 186) rfl)) rfl
theorem se_X6_number : Cond.selects RX6 yX6_number yX6_number ∈ wsG := wsG_in (tin_2 _ (List.mem_of_getElem? (l := tables_1_2) (i := 187) rfl)) rfl
theorem cd_X6_number : Cond.code yX6_number cX6_number 2 (some .int) ∈ wsG := wsG_in (tin_2 _ (List.mem_of_getElem? (l := tables_1_2) (i := 188) rfl)) rfl
theorem fl_X6_27 : Cond.fieldLink RX6 27 "StarTrade$Shelf" "stock" "I" ∈ wsG := wsG_in (tin_1 _ (List.mem_of_getElem? (l := tables_1_1) (i := 48) rfl)) rfl
theorem fl_X6_30 : Cond.fieldLink RX6 30 "StarTrade$Shelf" "make" "I" ∈ wsG := wsG_in (tin_1 _ (List.mem_of_getElem? (l := tables_1_1) (i := 50) rfl)) rfl
theorem fl_X6_33 : Cond.fieldLink RX6 33 "StarTrade$Shelf" "use" "I" ∈ wsG := wsG_in (tin_1 _ (List.mem_of_getElem? (l := tables_1_1) (i := 52) rfl)) rfl
theorem fl_X6_40 : Cond.fieldLink RX6 40 "StarTrade$Shelf" "hunger" "I" ∈ wsG := wsG_in (tin_1 _ (List.mem_of_getElem? (l := tables_1_1) (i := 57) rfl)) rfl
theorem ml_X6_36 : Cond.methodLink RX6 36 yX6_priceAt ∈ wsG := wsG_in (tin_2 _ (List.mem_of_getElem? (l := tables_1_2) (i := 189) rfl)) rfl
theorem im_X6_priceAt : Cond.instanceMethod yX6_priceAt ∈ wsG := wsG_in (tin_2 _ (List.mem_of_getElem? (l := tables_1_2) (i := 190) rfl)) rfl
theorem se_X6_priceAt : Cond.selects RX6 yX6_priceAt yX6_priceAt ∈ wsG := wsG_in (tin_2 _ (List.mem_of_getElem? (l := tables_1_2) (i := 191) rfl)) rfl
theorem cd_X6_priceAt : Cond.code yX6_priceAt cX6_priceAt 3 (some .int) ∈ wsG := wsG_in (tin_2 _ (List.mem_of_getElem? (l := tables_1_2) (i := 192) rfl)) rfl
theorem ml_X6_21 : Cond.methodLink RX6 21 Lib.Math.max.name ∈ wsG := wsG_in (tin_2 _ (List.mem_of_getElem? (l := tables_1_2) (i := 193) rfl)) rfl
theorem st_Lib_Math_max_name : Cond.static Lib.Math.max.name ∈ wsG := wsG_in (tin_2 _ (List.mem_of_getElem? (l := tables_1_2) (i := 194) rfl)) rfl
theorem in_java_lang_Math : Cond.initialized "java/lang/Math" ∈ wsG := wsG_in (tin_1 _ (List.mem_of_getElem? (l := tables_1_1) (i := 13) rfl)) rfl
theorem cd_Lib_Math_max_name : Cond.code Lib.Math.max.name Lib.Math.max.code 2 (some .int) ∈ wsG := wsG_in (tin_2 _ (List.mem_of_getElem? (l := tables_1_2) (i := 195) rfl)) rfl
theorem ml_X10_85 : Cond.methodLink RX10 85 yX6_change ∈ wsG := wsG_in (tin_2 _ (List.mem_of_getElem? (l := tables_1_2) (i := 196) rfl)) rfl
theorem im_X6_change : Cond.instanceMethod yX6_change ∈ wsG := wsG_in (tin_2 _ (List.mem_of_getElem? (l := tables_1_2) (i := 197) rfl)) rfl
theorem se_X6_change : Cond.selects RX6 yX6_change yX6_change ∈ wsG := wsG_in (tin_2 _ (List.mem_of_getElem? (l := tables_1_2) (i := 198) rfl)) rfl
theorem cd_X6_change : Cond.code yX6_change cX6_change 3 none ∈ wsG := wsG_in (tin_2 _ (List.mem_of_getElem? (l := tables_1_2) (i := 199) rfl)) rfl
theorem ml_L_22 : Cond.methodLink RL 22 yX11_set ∈ wsG := wsG_in (tin_4 _ (List.mem_of_getElem? (l := tables_1_4) (i := 90) rfl)) rfl
theorem im_X11_set : Cond.instanceMethod yX11_set ∈ wsG := wsG_in (tin_4 _ (List.mem_of_getElem? (l := tables_1_4) (i := 91) rfl)) rfl
theorem se_X11_set : Cond.selects RX11 yX11_set yX11_set ∈ wsG := wsG_in (tin_4 _ (List.mem_of_getElem? (l := tables_1_4) (i := 92) rfl)) rfl
theorem cd_X11_set : Cond.code yX11_set cX11_set 7 (some .int) ∈ wsG := wsG_in (tin_4 _ (List.mem_of_getElem? (l := tables_1_4) (i := 93) rfl)) rfl
theorem cl_X11_106 : Cond.constantLong RX11 106 (4) ∈ wsG := wsG_in (tin_4 _ (List.mem_of_getElem? (l := tables_1_4) (i := 105) rfl)) rfl
theorem cl_X11_108 : Cond.constantLong RX11 108 (1000) ∈ wsG := wsG_in (tin_4 _ (List.mem_of_getElem? (l := tables_1_4) (i := 106) rfl)) rfl
theorem cl_X11_110 : Cond.constantLong RX11 110 (50) ∈ wsG := wsG_in (tin_4 _ (List.mem_of_getElem? (l := tables_1_4) (i := 107) rfl)) rfl
theorem cl_X11_112 : Cond.constantLong RX11 112 (100) ∈ wsG := wsG_in (tin_4 _ (List.mem_of_getElem? (l := tables_1_4) (i := 108) rfl)) rfl
theorem fl_X11_118 : Cond.fieldLink RX11 118 "StarTradeModel" "toldStock" "I" ∈ wsG := wsG_in (tin_3 _ (List.mem_of_getElem? (l := tables_1_3) (i := 215) rfl)) rfl
theorem ml_X11_99 : Cond.methodLink RX11 99 yX11_isPort ∈ wsG := wsG_in (tin_4 _ (List.mem_of_getElem? (l := tables_1_4) (i := 94) rfl)) rfl
theorem im_X11_isPort : Cond.instanceMethod yX11_isPort ∈ wsG := wsG_in (tin_4 _ (List.mem_of_getElem? (l := tables_1_4) (i := 96) rfl)) rfl
theorem se_X11_isPort : Cond.selects RX11 yX11_isPort yX11_isPort ∈ wsG := wsG_in (List.mem_append_left _ (List.mem_of_getElem? (l := k2_sels lw_privs) (i := 24) rfl)) rfl
theorem cd_X11_isPort : Cond.code yX11_isPort cX11_isPort 2 (some .boolean) ∈ wsG := wsG_in (tin_4 _ (List.mem_of_getElem? (l := tables_1_4) (i := 97) rfl)) rfl
theorem ml_X11_93 : Cond.methodLink RX11 93 yX11_in ∈ wsG := wsG_in (tin_4 _ (List.mem_of_getElem? (l := tables_1_4) (i := 98) rfl)) rfl
theorem st_X11_in : Cond.static yX11_in ∈ wsG := wsG_in (tin_4 _ (List.mem_of_getElem? (l := tables_1_4) (i := 99) rfl)) rfl
theorem cd_X11_in : Cond.code yX11_in cX11_in 6 (some .boolean) ∈ wsG := wsG_in (tin_4 _ (List.mem_of_getElem? (l := tables_1_4) (i := 100) rfl)) rfl
theorem ml_X11_103 : Cond.methodLink RX11 103 yX11_isGood ∈ wsG := wsG_in (tin_4 _ (List.mem_of_getElem? (l := tables_1_4) (i := 101) rfl)) rfl
theorem st_X11_isGood : Cond.static yX11_isGood ∈ wsG := wsG_in (tin_4 _ (List.mem_of_getElem? (l := tables_1_4) (i := 102) rfl)) rfl
theorem cd_X11_isGood : Cond.code yX11_isGood cX11_isGood 1 (some .boolean) ∈ wsG := wsG_in (tin_4 _ (List.mem_of_getElem? (l := tables_1_4) (i := 103) rfl)) rfl
theorem cl_X11_97 : Cond.constantLong RX11 97 (2) ∈ wsG := wsG_in (tin_4 _ (List.mem_of_getElem? (l := tables_1_4) (i := 104) rfl)) rfl
theorem ml_X11_114 : Cond.methodLink RX11 114 yX11_of ∈ wsG := wsG_in (tin_4 _ (List.mem_of_getElem? (l := tables_1_4) (i := 109) rfl)) rfl
theorem im_X11_of : Cond.instanceMethod yX11_of ∈ wsG := wsG_in (tin_4 _ (List.mem_of_getElem? (l := tables_1_4) (i := 111) rfl)) rfl
theorem se_X11_of : Cond.selects RX11 yX11_of yX11_of ∈ wsG := wsG_in (List.mem_append_left _ (List.mem_of_getElem? (l := k2_sels lw_privs) (i := 25) rfl)) rfl
theorem cd_X11_of : Cond.code yX11_of cX11_of 3 (some .int) ∈ wsG := wsG_in (tin_4 _ (List.mem_of_getElem? (l := tables_1_4) (i := 112) rfl)) rfl
theorem ml_L_23 : Cond.methodLink RL 23 yX10_about ∈ wsG := wsG_in (tin_2 _ (List.mem_of_getElem? (l := tables_1_2) (i := 200) rfl)) rfl
theorem im_X10_about : Cond.instanceMethod yX10_about ∈ wsG := wsG_in (tin_2 _ (List.mem_of_getElem? (l := tables_1_2) (i := 201) rfl)) rfl
theorem se_X10_about : Cond.selects RX10 yX10_about yX10_about ∈ wsG := wsG_in (tin_2 _ (List.mem_of_getElem? (l := tables_1_2) (i := 202) rfl)) rfl
theorem cd_X10_about : Cond.code yX10_about cX10_about 4 (some .int) ∈ wsG := wsG_in (tin_2 _ (List.mem_of_getElem? (l := tables_1_2) (i := 203) rfl)) rfl
theorem ml_L_27 : Cond.methodLink RL 27 yX11_about ∈ wsG := wsG_in (tin_4 _ (List.mem_of_getElem? (l := tables_1_4) (i := 113) rfl)) rfl
theorem im_X11_about : Cond.instanceMethod yX11_about ∈ wsG := wsG_in (tin_4 _ (List.mem_of_getElem? (l := tables_1_4) (i := 114) rfl)) rfl
theorem se_X11_about : Cond.selects RX11 yX11_about yX11_about ∈ wsG := wsG_in (tin_4 _ (List.mem_of_getElem? (l := tables_1_4) (i := 115) rfl)) rfl
theorem cd_X11_about : Cond.code yX11_about cX11_about 5 (some .int) ∈ wsG := wsG_in (tin_4 _ (List.mem_of_getElem? (l := tables_1_4) (i := 116) rfl)) rfl
theorem ml_X11_121 : Cond.methodLink RX11 121 yX11_priceWith ∈ wsG := wsG_in (tin_4 _ (List.mem_of_getElem? (l := tables_1_4) (i := 117) rfl)) rfl
theorem im_X11_priceWith : Cond.instanceMethod yX11_priceWith ∈ wsG := wsG_in (tin_4 _ (List.mem_of_getElem? (l := tables_1_4) (i := 119) rfl)) rfl
theorem se_X11_priceWith : Cond.selects RX11 yX11_priceWith yX11_priceWith ∈ wsG := wsG_in (List.mem_append_left _ (List.mem_of_getElem? (l := k2_sels lw_privs) (i := 26) rfl)) rfl
theorem cd_X11_priceWith : Cond.code yX11_priceWith cX11_priceWith 5 (some .int) ∈ wsG := wsG_in (tin_4 _ (List.mem_of_getElem? (l := tables_1_4) (i := 120) rfl)) rfl
theorem ml_L_28 : Cond.methodLink RL 28 yX10_tax ∈ wsG := wsG_in (tin_2 _ (List.mem_of_getElem? (l := tables_1_2) (i := 204) rfl)) rfl
theorem im_X10_tax : Cond.instanceMethod yX10_tax ∈ wsG := wsG_in (tin_2 _ (List.mem_of_getElem? (l := tables_1_2) (i := 205) rfl)) rfl
theorem se_X10_tax : Cond.selects RX10 yX10_tax yX10_tax ∈ wsG := wsG_in (tin_2 _ (List.mem_of_getElem? (l := tables_1_2) (i := 206) rfl)) rfl
theorem cd_X10_tax : Cond.code yX10_tax cX10_tax 4 (some .int) ∈ wsG := wsG_in (tin_2 _ (List.mem_of_getElem? (l := tables_1_2) (i := 207) rfl)) rfl
theorem fl_X10_92 : Cond.fieldLink RX10 92 "StarTrade$World" "ports" "[LStarTrade$Port;" ∈ wsG := wsG_in (tin_1 _ (List.mem_of_getElem? (l := tables_1_1) (i := 124) rfl)) rfl
theorem fl_X10_96 : Cond.fieldLink RX10 96 "StarTrade$Port" "tax" "I" ∈ wsG := wsG_in (tin_1 _ (List.mem_of_getElem? (l := tables_1_1) (i := 78) rfl)) rfl
theorem ml_L_32 : Cond.methodLink RL 32 yX11_tax ∈ wsG := wsG_in (tin_4 _ (List.mem_of_getElem? (l := tables_1_4) (i := 121) rfl)) rfl
theorem im_X11_tax : Cond.instanceMethod yX11_tax ∈ wsG := wsG_in (tin_4 _ (List.mem_of_getElem? (l := tables_1_4) (i := 122) rfl)) rfl
theorem se_X11_tax : Cond.selects RX11 yX11_tax yX11_tax ∈ wsG := wsG_in (tin_4 _ (List.mem_of_getElem? (l := tables_1_4) (i := 123) rfl)) rfl
theorem cd_X11_tax : Cond.code yX11_tax cX11_tax 4 (some .int) ∈ wsG := wsG_in (tin_4 _ (List.mem_of_getElem? (l := tables_1_4) (i := 124) rfl)) rfl
theorem cl_X11_124 : Cond.constantLong RX11 124 (20) ∈ wsG := wsG_in (tin_4 _ (List.mem_of_getElem? (l := tables_1_4) (i := 125) rfl)) rfl
theorem ml_L_33 : Cond.methodLink RL 33 yX10_shut ∈ wsG := wsG_in (tin_2 _ (List.mem_of_getElem? (l := tables_1_2) (i := 208) rfl)) rfl
theorem im_X10_shut : Cond.instanceMethod yX10_shut ∈ wsG := wsG_in (tin_2 _ (List.mem_of_getElem? (l := tables_1_2) (i := 209) rfl)) rfl
theorem se_X10_shut : Cond.selects RX10 yX10_shut yX10_shut ∈ wsG := wsG_in (tin_2 _ (List.mem_of_getElem? (l := tables_1_2) (i := 210) rfl)) rfl
theorem cd_X10_shut : Cond.code yX10_shut cX10_shut 4 (some .int) ∈ wsG := wsG_in (tin_2 _ (List.mem_of_getElem? (l := tables_1_2) (i := 211) rfl)) rfl
theorem fl_X10_101 : Cond.fieldLink RX10 101 "StarTrade$Port" "shut" "Z" ∈ wsG := wsG_in (tin_1 _ (List.mem_of_getElem? (l := tables_1_1) (i := 83) rfl)) rfl
theorem ml_X10_105 : Cond.methodLink RX10 105 yX10_oneIf ∈ wsG := wsG_in (tin_2 _ (List.mem_of_getElem? (l := tables_1_2) (i := 212) rfl)) rfl
theorem st_X10_oneIf : Cond.static yX10_oneIf ∈ wsG := wsG_in (tin_2 _ (List.mem_of_getElem? (l := tables_1_2) (i := 213) rfl)) rfl
theorem cd_X10_oneIf : Cond.code yX10_oneIf cX10_oneIf 1 (some .int) ∈ wsG := wsG_in (tin_2 _ (List.mem_of_getElem? (l := tables_1_2) (i := 214) rfl)) rfl
theorem ml_L_37 : Cond.methodLink RL 37 yX11_shut ∈ wsG := wsG_in (tin_4 _ (List.mem_of_getElem? (l := tables_1_4) (i := 126) rfl)) rfl
theorem im_X11_shut : Cond.instanceMethod yX11_shut ∈ wsG := wsG_in (tin_4 _ (List.mem_of_getElem? (l := tables_1_4) (i := 127) rfl)) rfl
theorem se_X11_shut : Cond.selects RX11 yX11_shut yX11_shut ∈ wsG := wsG_in (tin_4 _ (List.mem_of_getElem? (l := tables_1_4) (i := 128) rfl)) rfl
theorem cd_X11_shut : Cond.code yX11_shut cX11_shut 4 (some .int) ∈ wsG := wsG_in (tin_4 _ (List.mem_of_getElem? (l := tables_1_4) (i := 129) rfl)) rfl
theorem ml_L_38 : Cond.methodLink RL 38 yX10_way ∈ wsG := wsG_in (tin_2 _ (List.mem_of_getElem? (l := tables_1_2) (i := 215) rfl)) rfl
theorem im_X10_way : Cond.instanceMethod yX10_way ∈ wsG := wsG_in (tin_2 _ (List.mem_of_getElem? (l := tables_1_2) (i := 216) rfl)) rfl
theorem se_X10_way : Cond.selects RX10 yX10_way yX10_way ∈ wsG := wsG_in (tin_2 _ (List.mem_of_getElem? (l := tables_1_2) (i := 217) rfl)) rfl
theorem cd_X10_way : Cond.code yX10_way cX10_way 5 (some .int) ∈ wsG := wsG_in (tin_2 _ (List.mem_of_getElem? (l := tables_1_2) (i := 218) rfl)) rfl
theorem fl_X10_109 : Cond.fieldLink RX10 109 "StarTrade$World" "ways" "[[I" ∈ wsG := wsG_in (tin_1 _ (List.mem_of_getElem? (l := tables_1_1) (i := 128) rfl)) rfl
theorem ml_L_41 : Cond.methodLink RL 41 yX11_way ∈ wsG := wsG_in (tin_4 _ (List.mem_of_getElem? (l := tables_1_4) (i := 130) rfl)) rfl
theorem im_X11_way : Cond.instanceMethod yX11_way ∈ wsG := wsG_in (tin_4 _ (List.mem_of_getElem? (l := tables_1_4) (i := 131) rfl)) rfl
theorem se_X11_way : Cond.selects RX11 yX11_way yX11_way ∈ wsG := wsG_in (tin_4 _ (List.mem_of_getElem? (l := tables_1_4) (i := 132) rfl)) rfl
theorem cd_X11_way : Cond.code yX11_way cX11_way 5 (some .int) ∈ wsG := wsG_in (tin_4 _ (List.mem_of_getElem? (l := tables_1_4) (i := 133) rfl)) rfl
theorem cl_X11_126 : Cond.constantLong RX11 126 (9) ∈ wsG := wsG_in (tin_4 _ (List.mem_of_getElem? (l := tables_1_4) (i := 134) rfl)) rfl
theorem ml_L_42 : Cond.methodLink RL 42 yX10_ofPort ∈ wsG := wsG_in (tin_2 _ (List.mem_of_getElem? (l := tables_1_2) (i := 219) rfl)) rfl
theorem im_X10_ofPort : Cond.instanceMethod yX10_ofPort ∈ wsG := wsG_in (tin_2 _ (List.mem_of_getElem? (l := tables_1_2) (i := 220) rfl)) rfl
theorem se_X10_ofPort : Cond.selects RX10 yX10_ofPort yX10_ofPort ∈ wsG := wsG_in (tin_2 _ (List.mem_of_getElem? (l := tables_1_2) (i := 221) rfl)) rfl
theorem cd_X10_ofPort : Cond.code yX10_ofPort cX10_ofPort 4 (some .int) ∈ wsG := wsG_in (tin_2 _ (List.mem_of_getElem? (l := tables_1_2) (i := 222) rfl)) rfl
theorem ct_X10_113 : Cond.constant RX10 113 (-10000001) ∈ wsG := wsG_in (tin_2 _ (List.mem_of_getElem? (l := tables_1_2) (i := 223) rfl)) rfl
theorem fl_X10_114 : Cond.fieldLink RX10 114 "StarTrade$Port" "chest" "I" ∈ wsG := wsG_in (tin_1 _ (List.mem_of_getElem? (l := tables_1_1) (i := 80) rfl)) rfl
theorem fl_X10_117 : Cond.fieldLink RX10 117 "StarTrade$Port" "trade" "I" ∈ wsG := wsG_in (tin_1 _ (List.mem_of_getElem? (l := tables_1_1) (i := 81) rfl)) rfl
theorem ct_X10_124 : Cond.constant RX10 124 (-10000002) ∈ wsG := wsG_in (tin_2 _ (List.mem_of_getElem? (l := tables_1_2) (i := 228) rfl)) rfl
theorem ml_X10_120 : Cond.methodLink RX10 120 yX4_hungerOfAll ∈ wsG := wsG_in (tin_2 _ (List.mem_of_getElem? (l := tables_1_2) (i := 224) rfl)) rfl
theorem im_X4_hungerOfAll : Cond.instanceMethod yX4_hungerOfAll ∈ wsG := wsG_in (tin_2 _ (List.mem_of_getElem? (l := tables_1_2) (i := 225) rfl)) rfl
theorem se_X4_hungerOfAll : Cond.selects RX4 yX4_hungerOfAll yX4_hungerOfAll ∈ wsG := wsG_in (tin_2 _ (List.mem_of_getElem? (l := tables_1_2) (i := 226) rfl)) rfl
theorem cd_X4_hungerOfAll : Cond.code yX4_hungerOfAll cX4_hungerOfAll 3 (some .int) ∈ wsG := wsG_in (tin_2 _ (List.mem_of_getElem? (l := tables_1_2) (i := 227) rfl)) rfl
theorem fl_X4_20 : Cond.fieldLink RX4 20 "StarTrade$Shelf" "hunger" "I" ∈ wsG := wsG_in (tin_1 _ (List.mem_of_getElem? (l := tables_1_1) (i := 56) rfl)) rfl
theorem ml_L_45 : Cond.methodLink RL 45 yX11_ofPort ∈ wsG := wsG_in (tin_4 _ (List.mem_of_getElem? (l := tables_1_4) (i := 135) rfl)) rfl
theorem im_X11_ofPort : Cond.instanceMethod yX11_ofPort ∈ wsG := wsG_in (tin_4 _ (List.mem_of_getElem? (l := tables_1_4) (i := 136) rfl)) rfl
theorem se_X11_ofPort : Cond.selects RX11 yX11_ofPort yX11_ofPort ∈ wsG := wsG_in (tin_4 _ (List.mem_of_getElem? (l := tables_1_4) (i := 137) rfl)) rfl
theorem cd_X11_ofPort : Cond.code yX11_ofPort cX11_ofPort 5 (some .int) ∈ wsG := wsG_in (tin_4 _ (List.mem_of_getElem? (l := tables_1_4) (i := 138) rfl)) rfl
theorem ct_X11_128 : Cond.constant RX11 128 (-10000001) ∈ wsG := wsG_in (tin_4 _ (List.mem_of_getElem? (l := tables_1_4) (i := 139) rfl)) rfl
theorem ct_X11_129 : Cond.constant RX11 129 (-10000002) ∈ wsG := wsG_in (tin_4 _ (List.mem_of_getElem? (l := tables_1_4) (i := 140) rfl)) rfl
theorem ml_L_46 : Cond.methodLink RL 46 yX10_tick ∈ wsG := wsG_in (tin_2 _ (List.mem_of_getElem? (l := tables_1_2) (i := 229) rfl)) rfl
theorem im_X10_tick : Cond.instanceMethod yX10_tick ∈ wsG := wsG_in (tin_2 _ (List.mem_of_getElem? (l := tables_1_2) (i := 230) rfl)) rfl
theorem se_X10_tick : Cond.selects RX10 yX10_tick yX10_tick ∈ wsG := wsG_in (tin_2 _ (List.mem_of_getElem? (l := tables_1_2) (i := 231) rfl)) rfl
theorem cd_X10_tick : Cond.code yX10_tick cX10_tick 2 (some .int) ∈ wsG := wsG_in (tin_2 _ (List.mem_of_getElem? (l := tables_1_2) (i := 232) rfl)) rfl
theorem fl_X10_125 : Cond.fieldLink RX10 125 "StarTrade$World" "now" "I" ∈ wsG := wsG_in (tin_1 _ (List.mem_of_getElem? (l := tables_1_1) (i := 136) rfl)) rfl
theorem ml_X10_128 : Cond.methodLink RX10 128 yX10_passTicks ∈ wsG := wsG_in (tin_2 _ (List.mem_of_getElem? (l := tables_1_2) (i := 233) rfl)) rfl
theorem im_X10_passTicks : Cond.instanceMethod yX10_passTicks ∈ wsG := wsG_in (tin_2 _ (List.mem_of_getElem? (l := tables_1_2) (i := 235) rfl)) rfl
theorem se_X10_passTicks : Cond.selects RX10 yX10_passTicks yX10_passTicks ∈ wsG := wsG_in (List.mem_append_left _ (List.mem_of_getElem? (l := k2_sels lw_privs) (i := 1) rfl)) rfl
theorem cd_X10_passTicks : Cond.code yX10_passTicks cX10_passTicks 4 none ∈ wsG := wsG_in (tin_2 _ (List.mem_of_getElem? (l := tables_1_2) (i := 236) rfl)) rfl
theorem fl_X10_132 : Cond.fieldLink RX10 132 "StarTrade$World" "calendar" "LStarTrade$Calendar;" ∈ wsG := wsG_in (tin_1 _ (List.mem_of_getElem? (l := tables_1_1) (i := 131) rfl)) rfl
theorem ml_X10_267 : Cond.methodLink RX10 267 yX10_passTicksOf ∈ wsG := wsG_in (tin_2 _ (List.mem_of_getElem? (l := tables_1_2) (i := 237) rfl)) rfl
theorem im_X10_passTicksOf : Cond.instanceMethod yX10_passTicksOf ∈ wsG := wsG_in (tin_2 _ (List.mem_of_getElem? (l := tables_1_2) (i := 239) rfl)) rfl
theorem se_X10_passTicksOf : Cond.selects RX10 yX10_passTicksOf yX10_passTicksOf ∈ wsG := wsG_in (List.mem_append_left _ (List.mem_of_getElem? (l := k2_sels lw_privs) (i := 2) rfl)) rfl
theorem cd_X10_passTicksOf : Cond.code yX10_passTicksOf cX10_passTicksOf 3 none ∈ wsG := wsG_in (tin_3 _ (List.mem_of_getElem? (l := tables_1_3) (i := 0) rfl)) rfl
theorem fl_X10_169 : Cond.fieldLink RX10 169 "StarTrade$Shelf" "stock" "I" ∈ wsG := wsG_in (tin_1 _ (List.mem_of_getElem? (l := tables_1_1) (i := 49) rfl)) rfl
theorem fl_X10_274 : Cond.fieldLink RX10 274 "StarTrade$Flow" "stock" "I" ∈ wsG := wsG_in (tin_1 _ (List.mem_of_getElem? (l := tables_1_1) (i := 183) rfl)) rfl
theorem fl_X10_275 : Cond.fieldLink RX10 275 "StarTrade$Shelf" "hunger" "I" ∈ wsG := wsG_in (tin_1 _ (List.mem_of_getElem? (l := tables_1_1) (i := 58) rfl)) rfl
theorem fl_X10_278 : Cond.fieldLink RX10 278 "StarTrade$Flow" "lack" "I" ∈ wsG := wsG_in (tin_1 _ (List.mem_of_getElem? (l := tables_1_1) (i := 191) rfl)) rfl
theorem fl_X10_217 : Cond.fieldLink RX10 217 "StarTrade" "made" "I" ∈ wsG := wsG_in (tin_2 _ (List.mem_of_getElem? (l := tables_1_2) (i := 125) rfl)) rfl
theorem fl_X10_281 : Cond.fieldLink RX10 281 "StarTrade$Flow" "made" "I" ∈ wsG := wsG_in (tin_1 _ (List.mem_of_getElem? (l := tables_1_1) (i := 185) rfl)) rfl
theorem fl_X10_220 : Cond.fieldLink RX10 220 "StarTrade" "used" "I" ∈ wsG := wsG_in (tin_2 _ (List.mem_of_getElem? (l := tables_1_2) (i := 126) rfl)) rfl
theorem fl_X10_282 : Cond.fieldLink RX10 282 "StarTrade$Flow" "used" "I" ∈ wsG := wsG_in (tin_1 _ (List.mem_of_getElem? (l := tables_1_1) (i := 187) rfl)) rfl
theorem fl_X10_223 : Cond.fieldLink RX10 223 "StarTrade" "brought" "I" ∈ wsG := wsG_in (tin_2 _ (List.mem_of_getElem? (l := tables_1_2) (i := 127) rfl)) rfl
theorem fl_X10_283 : Cond.fieldLink RX10 283 "StarTrade$Flow" "brought" "I" ∈ wsG := wsG_in (tin_1 _ (List.mem_of_getElem? (l := tables_1_1) (i := 189) rfl)) rfl
theorem ml_X10_260 : Cond.methodLink RX10 260 yX2_follow ∈ wsG := wsG_in (tin_3 _ (List.mem_of_getElem? (l := tables_1_3) (i := 1) rfl)) rfl
theorem im_X2_follow : Cond.instanceMethod yX2_follow ∈ wsG := wsG_in (tin_3 _ (List.mem_of_getElem? (l := tables_1_3) (i := 2) rfl)) rfl
theorem se_X2_follow : Cond.selects RX2 yX2_follow yX2_follow ∈ wsG := wsG_in (tin_3 _ (List.mem_of_getElem? (l := tables_1_3) (i := 3) rfl)) rfl
theorem cd_X2_follow : Cond.code yX2_follow cX2_follow 8 none ∈ wsG := wsG_in (tin_3 _ (List.mem_of_getElem? (l := tables_1_3) (i := 4) rfl)) rfl
theorem fl_X2_9 : Cond.fieldLink RX2 9 "StarTrade$Flow" "stock" "I" ∈ wsG := wsG_in (tin_1 _ (List.mem_of_getElem? (l := tables_1_1) (i := 181) rfl)) rfl
theorem fl_X2_15 : Cond.fieldLink RX2 15 "StarTrade$Flow" "made" "I" ∈ wsG := wsG_in (tin_1 _ (List.mem_of_getElem? (l := tables_1_1) (i := 184) rfl)) rfl
theorem fl_X2_18 : Cond.fieldLink RX2 18 "StarTrade$Flow" "used" "I" ∈ wsG := wsG_in (tin_1 _ (List.mem_of_getElem? (l := tables_1_1) (i := 186) rfl)) rfl
theorem fl_X2_21 : Cond.fieldLink RX2 21 "StarTrade$Flow" "brought" "I" ∈ wsG := wsG_in (tin_1 _ (List.mem_of_getElem? (l := tables_1_1) (i := 188) rfl)) rfl
theorem fl_X2_24 : Cond.fieldLink RX2 24 "StarTrade$Flow" "lack" "I" ∈ wsG := wsG_in (tin_1 _ (List.mem_of_getElem? (l := tables_1_1) (i := 190) rfl)) rfl
theorem fl_X2_27 : Cond.fieldLink RX2 27 "StarTrade$Flow" "firstLack" "I" ∈ wsG := wsG_in (tin_1 _ (List.mem_of_getElem? (l := tables_1_1) (i := 192) rfl)) rfl
theorem fl_X2_30 : Cond.fieldLink RX2 30 "StarTrade$Calendar" "count" "I" ∈ wsG := wsG_in (tin_1 _ (List.mem_of_getElem? (l := tables_1_1) (i := 110) rfl)) rfl
theorem fl_X2_35 : Cond.fieldLink RX2 35 "StarTrade$Calendar" "ticks" "[I" ∈ wsG := wsG_in (tin_1 _ (List.mem_of_getElem? (l := tables_1_1) (i := 104) rfl)) rfl
theorem fl_X2_39 : Cond.fieldLink RX2 39 "StarTrade$Calendar" "places" "[I" ∈ wsG := wsG_in (tin_1 _ (List.mem_of_getElem? (l := tables_1_1) (i := 106) rfl)) rfl
theorem fl_X2_42 : Cond.fieldLink RX2 42 "StarTrade$Shelf" "place" "I" ∈ wsG := wsG_in (tin_1 _ (List.mem_of_getElem? (l := tables_1_1) (i := 45) rfl)) rfl
theorem fl_X2_47 : Cond.fieldLink RX2 47 "StarTrade$Calendar" "changes" "[I" ∈ wsG := wsG_in (tin_1 _ (List.mem_of_getElem? (l := tables_1_1) (i := 108) rfl)) rfl
theorem ml_X2_50 : Cond.methodLink RX2 50 yX2_bring ∈ wsG := wsG_in (tin_3 _ (List.mem_of_getElem? (l := tables_1_3) (i := 5) rfl)) rfl
theorem im_X2_bring : Cond.instanceMethod yX2_bring ∈ wsG := wsG_in (tin_3 _ (List.mem_of_getElem? (l := tables_1_3) (i := 7) rfl)) rfl
theorem se_X2_bring : Cond.selects RX2 yX2_bring yX2_bring ∈ wsG := wsG_in (List.mem_append_left _ (List.mem_of_getElem? (l := k2_sels lw_privs) (i := 3) rfl)) rfl
theorem cd_X2_bring : Cond.code yX2_bring cX2_bring 3 none ∈ wsG := wsG_in (tin_3 _ (List.mem_of_getElem? (l := tables_1_3) (i := 8) rfl)) rfl
theorem ml_X2_58 : Cond.methodLink RX2 58 Lib.Math.min.name ∈ wsG := wsG_in (tin_3 _ (List.mem_of_getElem? (l := tables_1_3) (i := 9) rfl)) rfl
theorem st_Lib_Math_min_name : Cond.static Lib.Math.min.name ∈ wsG := wsG_in (tin_3 _ (List.mem_of_getElem? (l := tables_1_3) (i := 10) rfl)) rfl
theorem cd_Lib_Math_min_name : Cond.code Lib.Math.min.name Lib.Math.min.code 2 (some .int) ∈ wsG := wsG_in (tin_3 _ (List.mem_of_getElem? (l := tables_1_3) (i := 11) rfl)) rfl
theorem ml_X2_64 : Cond.methodLink RX2 64 Lib.Math.max.name ∈ wsG := wsG_in (tin_3 _ (List.mem_of_getElem? (l := tables_1_3) (i := 12) rfl)) rfl
theorem ml_X2_54 : Cond.methodLink RX2 54 yX2_makeAndUse ∈ wsG := wsG_in (tin_3 _ (List.mem_of_getElem? (l := tables_1_3) (i := 13) rfl)) rfl
theorem im_X2_makeAndUse : Cond.instanceMethod yX2_makeAndUse ∈ wsG := wsG_in (tin_3 _ (List.mem_of_getElem? (l := tables_1_3) (i := 15) rfl)) rfl
theorem se_X2_makeAndUse : Cond.selects RX2 yX2_makeAndUse yX2_makeAndUse ∈ wsG := wsG_in (List.mem_append_left _ (List.mem_of_getElem? (l := k2_sels lw_privs) (i := 4) rfl)) rfl
theorem cd_X2_makeAndUse : Cond.code yX2_makeAndUse cX2_makeAndUse 5 none ∈ wsG := wsG_in (tin_3 _ (List.mem_of_getElem? (l := tables_1_3) (i := 16) rfl)) rfl
theorem fl_X2_67 : Cond.fieldLink RX2 67 "StarTrade$Shelf" "make" "I" ∈ wsG := wsG_in (tin_1 _ (List.mem_of_getElem? (l := tables_1_1) (i := 51) rfl)) rfl
theorem fl_X2_70 : Cond.fieldLink RX2 70 "StarTrade$Shelf" "use" "I" ∈ wsG := wsG_in (tin_1 _ (List.mem_of_getElem? (l := tables_1_1) (i := 53) rfl)) rfl
theorem ml_X10_271 : Cond.methodLink RX10 271 yX0_dropBefore ∈ wsG := wsG_in (tin_3 _ (List.mem_of_getElem? (l := tables_1_3) (i := 17) rfl)) rfl
theorem im_X0_dropBefore : Cond.instanceMethod yX0_dropBefore ∈ wsG := wsG_in (tin_3 _ (List.mem_of_getElem? (l := tables_1_3) (i := 18) rfl)) rfl
theorem se_X0_dropBefore : Cond.selects RX0 yX0_dropBefore yX0_dropBefore ∈ wsG := wsG_in (tin_3 _ (List.mem_of_getElem? (l := tables_1_3) (i := 19) rfl)) rfl
theorem cd_X0_dropBefore : Cond.code yX0_dropBefore cX0_dropBefore 4 none ∈ wsG := wsG_in (tin_3 _ (List.mem_of_getElem? (l := tables_1_3) (i := 20) rfl)) rfl
theorem fl_X0_21 : Cond.fieldLink RX0 21 "StarTrade$Calendar" "count" "I" ∈ wsG := wsG_in (tin_1 _ (List.mem_of_getElem? (l := tables_1_1) (i := 109) rfl)) rfl
theorem ml_X0_25 : Cond.methodLink RX0 25 yX0_move ∈ wsG := wsG_in (tin_3 _ (List.mem_of_getElem? (l := tables_1_3) (i := 21) rfl)) rfl
theorem im_X0_move : Cond.instanceMethod yX0_move ∈ wsG := wsG_in (tin_3 _ (List.mem_of_getElem? (l := tables_1_3) (i := 23) rfl)) rfl
theorem se_X0_move : Cond.selects RX0 yX0_move yX0_move ∈ wsG := wsG_in (List.mem_append_left _ (List.mem_of_getElem? (l := k2_sels lw_privs) (i := 5) rfl)) rfl
theorem cd_X0_move : Cond.code yX0_move cX0_move 3 none ∈ wsG := wsG_in (tin_3 _ (List.mem_of_getElem? (l := tables_1_3) (i := 24) rfl)) rfl
theorem ml_L_50 : Cond.methodLink RL 50 yX11_tick ∈ wsG := wsG_in (tin_4 _ (List.mem_of_getElem? (l := tables_1_4) (i := 141) rfl)) rfl
theorem im_X11_tick : Cond.instanceMethod yX11_tick ∈ wsG := wsG_in (tin_4 _ (List.mem_of_getElem? (l := tables_1_4) (i := 142) rfl)) rfl
theorem se_X11_tick : Cond.selects RX11 yX11_tick yX11_tick ∈ wsG := wsG_in (tin_4 _ (List.mem_of_getElem? (l := tables_1_4) (i := 143) rfl)) rfl
theorem cd_X11_tick : Cond.code yX11_tick cX11_tick 3 (some .int) ∈ wsG := wsG_in (tin_4 _ (List.mem_of_getElem? (l := tables_1_4) (i := 144) rfl)) rfl
theorem cl_X11_149 : Cond.constantLong RX11 149 (200) ∈ wsG := wsG_in (tin_4 _ (List.mem_of_getElem? (l := tables_1_4) (i := 145) rfl)) rfl
theorem fl_X11_133 : Cond.fieldLink RX11 133 "StarTradeModel" "now" "I" ∈ wsG := wsG_in (tin_3 _ (List.mem_of_getElem? (l := tables_1_3) (i := 199) rfl)) rfl
theorem ml_X11_151 : Cond.methodLink RX11 151 yX11_tickOnce ∈ wsG := wsG_in (tin_4 _ (List.mem_of_getElem? (l := tables_1_4) (i := 146) rfl)) rfl
theorem im_X11_tickOnce : Cond.instanceMethod yX11_tickOnce ∈ wsG := wsG_in (tin_4 _ (List.mem_of_getElem? (l := tables_1_4) (i := 148) rfl)) rfl
theorem se_X11_tickOnce : Cond.selects RX11 yX11_tickOnce yX11_tickOnce ∈ wsG := wsG_in (List.mem_append_left _ (List.mem_of_getElem? (l := k2_sels lw_privs) (i := 27) rfl)) rfl
theorem cd_X11_tickOnce : Cond.code yX11_tickOnce cX11_tickOnce 5 none ∈ wsG := wsG_in (tin_4 _ (List.mem_of_getElem? (l := tables_1_4) (i := 149) rfl)) rfl
theorem fl_X11_130 : Cond.fieldLink RX11 130 "StarTradeModel" "events" "I" ∈ wsG := wsG_in (tin_3 _ (List.mem_of_getElem? (l := tables_1_3) (i := 220) rfl)) rfl
theorem fl_X11_140 : Cond.fieldLink RX11 140 "StarTradeModel" "brought" "I" ∈ wsG := wsG_in (tin_3 _ (List.mem_of_getElem? (l := tables_1_3) (i := 214) rfl)) rfl
theorem fl_X11_143 : Cond.fieldLink RX11 143 "StarTradeModel" "made" "I" ∈ wsG := wsG_in (tin_3 _ (List.mem_of_getElem? (l := tables_1_3) (i := 212) rfl)) rfl
theorem fl_X11_146 : Cond.fieldLink RX11 146 "StarTradeModel" "used" "I" ∈ wsG := wsG_in (tin_3 _ (List.mem_of_getElem? (l := tables_1_3) (i := 213) rfl)) rfl
theorem ml_X11_136 : Cond.methodLink RX11 136 yX11_held ∈ wsG := wsG_in (tin_4 _ (List.mem_of_getElem? (l := tables_1_4) (i := 150) rfl)) rfl
theorem st_X11_held : Cond.static yX11_held ∈ wsG := wsG_in (tin_4 _ (List.mem_of_getElem? (l := tables_1_4) (i := 151) rfl)) rfl
theorem cd_X11_held : Cond.code yX11_held cX11_held 1 (some .int) ∈ wsG := wsG_in (tin_4 _ (List.mem_of_getElem? (l := tables_1_4) (i := 152) rfl)) rfl
theorem ml_L_51 : Cond.methodLink RL 51 yX10_event ∈ wsG := wsG_in (tin_3 _ (List.mem_of_getElem? (l := tables_1_3) (i := 25) rfl)) rfl
theorem im_X10_event : Cond.instanceMethod yX10_event ∈ wsG := wsG_in (tin_3 _ (List.mem_of_getElem? (l := tables_1_3) (i := 26) rfl)) rfl
theorem se_X10_event : Cond.selects RX10 yX10_event yX10_event ∈ wsG := wsG_in (tin_3 _ (List.mem_of_getElem? (l := tables_1_3) (i := 27) rfl)) rfl
theorem cd_X10_event : Cond.code yX10_event cX10_event 5 (some .int) ∈ wsG := wsG_in (tin_3 _ (List.mem_of_getElem? (l := tables_1_3) (i := 28) rfl)) rfl
theorem fl_X10_136 : Cond.fieldLink RX10 136 "StarTrade$Calendar" "count" "I" ∈ wsG := wsG_in (tin_1 _ (List.mem_of_getElem? (l := tables_1_1) (i := 111) rfl)) rfl
theorem fl_X10_141 : Cond.fieldLink RX10 141 "StarTrade$Shelf" "place" "I" ∈ wsG := wsG_in (tin_1 _ (List.mem_of_getElem? (l := tables_1_1) (i := 46) rfl)) rfl
theorem ml_X10_144 : Cond.methodLink RX10 144 yX0_add ∈ wsG := wsG_in (tin_3 _ (List.mem_of_getElem? (l := tables_1_3) (i := 29) rfl)) rfl
theorem im_X0_add : Cond.instanceMethod yX0_add ∈ wsG := wsG_in (tin_3 _ (List.mem_of_getElem? (l := tables_1_3) (i := 30) rfl)) rfl
theorem se_X0_add : Cond.selects RX0 yX0_add yX0_add ∈ wsG := wsG_in (tin_3 _ (List.mem_of_getElem? (l := tables_1_3) (i := 31) rfl)) rfl
theorem cd_X0_add : Cond.code yX0_add cX0_add 5 none ∈ wsG := wsG_in (tin_3 _ (List.mem_of_getElem? (l := tables_1_3) (i := 32) rfl)) rfl
theorem ml_L_54 : Cond.methodLink RL 54 yX11_event ∈ wsG := wsG_in (tin_4 _ (List.mem_of_getElem? (l := tables_1_4) (i := 153) rfl)) rfl
theorem im_X11_event : Cond.instanceMethod yX11_event ∈ wsG := wsG_in (tin_4 _ (List.mem_of_getElem? (l := tables_1_4) (i := 154) rfl)) rfl
theorem se_X11_event : Cond.selects RX11 yX11_event yX11_event ∈ wsG := wsG_in (tin_4 _ (List.mem_of_getElem? (l := tables_1_4) (i := 155) rfl)) rfl
theorem cd_X11_event : Cond.code yX11_event cX11_event 5 (some .int) ∈ wsG := wsG_in (tin_4 _ (List.mem_of_getElem? (l := tables_1_4) (i := 156) rfl)) rfl
theorem cl_X11_154 : Cond.constantLong RX11 154 (998) ∈ wsG := wsG_in (tin_4 _ (List.mem_of_getElem? (l := tables_1_4) (i := 157) rfl)) rfl
theorem cl_X11_156 : Cond.constantLong RX11 156 (-1000) ∈ wsG := wsG_in (tin_4 _ (List.mem_of_getElem? (l := tables_1_4) (i := 158) rfl)) rfl
theorem ml_L_55 : Cond.methodLink RL 55 yX10_ship ∈ wsG := wsG_in (tin_3 _ (List.mem_of_getElem? (l := tables_1_3) (i := 33) rfl)) rfl
theorem im_X10_ship : Cond.instanceMethod yX10_ship ∈ wsG := wsG_in (tin_3 _ (List.mem_of_getElem? (l := tables_1_3) (i := 34) rfl)) rfl
theorem se_X10_ship : Cond.selects RX10 yX10_ship yX10_ship ∈ wsG := wsG_in (tin_3 _ (List.mem_of_getElem? (l := tables_1_3) (i := 35) rfl)) rfl
theorem cd_X10_ship : Cond.code yX10_ship cX10_ship 5 (some .int) ∈ wsG := wsG_in (tin_3 _ (List.mem_of_getElem? (l := tables_1_3) (i := 36) rfl)) rfl
theorem ct_X10_148 : Cond.constant RX10 148 (1000000) ∈ wsG := wsG_in (tin_3 _ (List.mem_of_getElem? (l := tables_1_3) (i := 37) rfl)) rfl
theorem fl_X10_149 : Cond.fieldLink RX10 149 "StarTrade" "shipCount" "I" ∈ wsG := wsG_in (tin_2 _ (List.mem_of_getElem? (l := tables_1_2) (i := 124) rfl)) rfl
theorem fl_X10_152 : Cond.fieldLink RX10 152 "StarTrade$Ship" "port" "I" ∈ wsG := wsG_in (tin_1 _ (List.mem_of_getElem? (l := tables_1_1) (i := 161) rfl)) rfl
theorem fl_X10_155 : Cond.fieldLink RX10 155 "StarTrade$Ship" "hold" "I" ∈ wsG := wsG_in (tin_1 _ (List.mem_of_getElem? (l := tables_1_1) (i := 162) rfl)) rfl
theorem fl_X10_158 : Cond.fieldLink RX10 158 "StarTrade$Ship" "coins" "I" ∈ wsG := wsG_in (tin_1 _ (List.mem_of_getElem? (l := tables_1_1) (i := 163) rfl)) rfl
theorem ml_L_58 : Cond.methodLink RL 58 yX11_ship ∈ wsG := wsG_in (tin_4 _ (List.mem_of_getElem? (l := tables_1_4) (i := 159) rfl)) rfl
theorem im_X11_ship : Cond.instanceMethod yX11_ship ∈ wsG := wsG_in (tin_4 _ (List.mem_of_getElem? (l := tables_1_4) (i := 160) rfl)) rfl
theorem se_X11_ship : Cond.selects RX11 yX11_ship yX11_ship ∈ wsG := wsG_in (tin_4 _ (List.mem_of_getElem? (l := tables_1_4) (i := 161) rfl)) rfl
theorem cd_X11_ship : Cond.code yX11_ship cX11_ship 4 (some .int) ∈ wsG := wsG_in (tin_4 _ (List.mem_of_getElem? (l := tables_1_4) (i := 162) rfl)) rfl
theorem cl_X11_161 : Cond.constantLong RX11 161 (1000000) ∈ wsG := wsG_in (tin_4 _ (List.mem_of_getElem? (l := tables_1_4) (i := 163) rfl)) rfl
theorem fl_X11_158 : Cond.fieldLink RX11 158 "StarTradeModel" "ships" "I" ∈ wsG := wsG_in (tin_3 _ (List.mem_of_getElem? (l := tables_1_3) (i := 225) rfl)) rfl
theorem ml_L_59 : Cond.methodLink RL 59 yX10_buy ∈ wsG := wsG_in (tin_3 _ (List.mem_of_getElem? (l := tables_1_3) (i := 38) rfl)) rfl
theorem im_X10_buy : Cond.instanceMethod yX10_buy ∈ wsG := wsG_in (tin_3 _ (List.mem_of_getElem? (l := tables_1_3) (i := 39) rfl)) rfl
theorem se_X10_buy : Cond.selects RX10 yX10_buy yX10_buy ∈ wsG := wsG_in (tin_3 _ (List.mem_of_getElem? (l := tables_1_3) (i := 40) rfl)) rfl
theorem cd_X10_buy : Cond.code yX10_buy cX10_buy 8 (some .int) ∈ wsG := wsG_in (tin_3 _ (List.mem_of_getElem? (l := tables_1_3) (i := 41) rfl)) rfl
theorem fl_X10_165 : Cond.fieldLink RX10 165 "StarTrade$Port" "shelves" "[LStarTrade$Shelf;" ∈ wsG := wsG_in (tin_1 _ (List.mem_of_getElem? (l := tables_1_1) (i := 76) rfl)) rfl
theorem ml_X10_175 : Cond.methodLink RX10 175 Lib.Math.min.name ∈ wsG := wsG_in (tin_3 _ (List.mem_of_getElem? (l := tables_1_3) (i := 54) rfl)) rfl
theorem fl_X10_185 : Cond.fieldLink RX10 185 "StarTrade$Deal" "stock" "I" ∈ wsG := wsG_in (tin_1 _ (List.mem_of_getElem? (l := tables_1_1) (i := 218) rfl)) rfl
theorem fl_X10_186 : Cond.fieldLink RX10 186 "StarTrade$Deal" "coins" "I" ∈ wsG := wsG_in (tin_1 _ (List.mem_of_getElem? (l := tables_1_1) (i := 221) rfl)) rfl
theorem fl_X10_187 : Cond.fieldLink RX10 187 "StarTrade$Ship" "cargo" "[I" ∈ wsG := wsG_in (tin_1 _ (List.mem_of_getElem? (l := tables_1_1) (i := 165) rfl)) rfl
theorem fl_X10_190 : Cond.fieldLink RX10 190 "StarTrade$Deal" "units" "I" ∈ wsG := wsG_in (tin_1 _ (List.mem_of_getElem? (l := tables_1_1) (i := 215) rfl)) rfl
theorem fl_X10_193 : Cond.fieldLink RX10 193 "StarTrade$Deal" "worth" "I" ∈ wsG := wsG_in (tin_1 _ (List.mem_of_getElem? (l := tables_1_1) (i := 223) rfl)) rfl
theorem fl_X10_196 : Cond.fieldLink RX10 196 "StarTrade$Deal" "taxes" "I" ∈ wsG := wsG_in (tin_1 _ (List.mem_of_getElem? (l := tables_1_1) (i := 225) rfl)) rfl
theorem ml_X10_161 : Cond.methodLink RX10 161 yX10_refusalOfDeal ∈ wsG := wsG_in (tin_3 _ (List.mem_of_getElem? (l := tables_1_3) (i := 42) rfl)) rfl
theorem im_X10_refusalOfDeal : Cond.instanceMethod yX10_refusalOfDeal ∈ wsG := wsG_in (tin_3 _ (List.mem_of_getElem? (l := tables_1_3) (i := 44) rfl)) rfl
theorem se_X10_refusalOfDeal : Cond.selects RX10 yX10_refusalOfDeal yX10_refusalOfDeal ∈ wsG := wsG_in (List.mem_append_left _ (List.mem_of_getElem? (l := k2_sels lw_privs) (i := 6) rfl)) rfl
theorem cd_X10_refusalOfDeal : Cond.code yX10_refusalOfDeal cX10_refusalOfDeal 4 (some .int) ∈ wsG := wsG_in (tin_3 _ (List.mem_of_getElem? (l := tables_1_3) (i := 45) rfl)) rfl
theorem ml_X10_202 : Cond.methodLink RX10 202 yX10_isShip ∈ wsG := wsG_in (tin_3 _ (List.mem_of_getElem? (l := tables_1_3) (i := 46) rfl)) rfl
theorem im_X10_isShip : Cond.instanceMethod yX10_isShip ∈ wsG := wsG_in (tin_3 _ (List.mem_of_getElem? (l := tables_1_3) (i := 48) rfl)) rfl
theorem se_X10_isShip : Cond.selects RX10 yX10_isShip yX10_isShip ∈ wsG := wsG_in (List.mem_append_left _ (List.mem_of_getElem? (l := k2_sels lw_privs) (i := 7) rfl)) rfl
theorem cd_X10_isShip : Cond.code yX10_isShip cX10_isShip 2 (some .boolean) ∈ wsG := wsG_in (tin_3 _ (List.mem_of_getElem? (l := tables_1_3) (i := 49) rfl)) rfl
theorem ml_X10_172 : Cond.methodLink RX10 172 yX7_load ∈ wsG := wsG_in (tin_3 _ (List.mem_of_getElem? (l := tables_1_3) (i := 50) rfl)) rfl
theorem im_X7_load : Cond.instanceMethod yX7_load ∈ wsG := wsG_in (tin_3 _ (List.mem_of_getElem? (l := tables_1_3) (i := 51) rfl)) rfl
theorem se_X7_load : Cond.selects RX7 yX7_load yX7_load ∈ wsG := wsG_in (tin_3 _ (List.mem_of_getElem? (l := tables_1_3) (i := 52) rfl)) rfl
theorem cd_X7_load : Cond.code yX7_load cX7_load 3 (some .int) ∈ wsG := wsG_in (tin_3 _ (List.mem_of_getElem? (l := tables_1_3) (i := 53) rfl)) rfl
theorem ml_X10_181 : Cond.methodLink RX10 181 yX1_purchase ∈ wsG := wsG_in (tin_3 _ (List.mem_of_getElem? (l := tables_1_3) (i := 55) rfl)) rfl
theorem im_X1_purchase : Cond.instanceMethod yX1_purchase ∈ wsG := wsG_in (tin_3 _ (List.mem_of_getElem? (l := tables_1_3) (i := 56) rfl)) rfl
theorem se_X1_purchase : Cond.selects RX1 yX1_purchase yX1_purchase ∈ wsG := wsG_in (tin_3 _ (List.mem_of_getElem? (l := tables_1_3) (i := 57) rfl)) rfl
theorem cd_X1_purchase : Cond.code yX1_purchase cX1_purchase 8 none ∈ wsG := wsG_in (tin_3 _ (List.mem_of_getElem? (l := tables_1_3) (i := 58) rfl)) rfl
theorem fl_X1_15 : Cond.fieldLink RX1 15 "StarTrade$Deal" "stock" "I" ∈ wsG := wsG_in (tin_1 _ (List.mem_of_getElem? (l := tables_1_1) (i := 216) rfl)) rfl
theorem fl_X1_25 : Cond.fieldLink RX1 25 "StarTrade$Deal" "coins" "I" ∈ wsG := wsG_in (tin_1 _ (List.mem_of_getElem? (l := tables_1_1) (i := 219) rfl)) rfl
theorem ml_X1_9 : Cond.methodLink RX1 9 yX1_begin ∈ wsG := wsG_in (tin_3 _ (List.mem_of_getElem? (l := tables_1_3) (i := 59) rfl)) rfl
theorem im_X1_begin : Cond.instanceMethod yX1_begin ∈ wsG := wsG_in (tin_3 _ (List.mem_of_getElem? (l := tables_1_3) (i := 61) rfl)) rfl
theorem se_X1_begin : Cond.selects RX1 yX1_begin yX1_begin ∈ wsG := wsG_in (List.mem_append_left _ (List.mem_of_getElem? (l := k2_sels lw_privs) (i := 8) rfl)) rfl
theorem cd_X1_begin : Cond.code yX1_begin cX1_begin 3 none ∈ wsG := wsG_in (tin_3 _ (List.mem_of_getElem? (l := tables_1_3) (i := 62) rfl)) rfl
theorem fl_X1_38 : Cond.fieldLink RX1 38 "StarTrade$Deal" "units" "I" ∈ wsG := wsG_in (tin_1 _ (List.mem_of_getElem? (l := tables_1_1) (i := 213) rfl)) rfl
theorem fl_X1_41 : Cond.fieldLink RX1 41 "StarTrade$Deal" "worth" "I" ∈ wsG := wsG_in (tin_1 _ (List.mem_of_getElem? (l := tables_1_1) (i := 222) rfl)) rfl
theorem fl_X1_44 : Cond.fieldLink RX1 44 "StarTrade$Deal" "taxes" "I" ∈ wsG := wsG_in (tin_1 _ (List.mem_of_getElem? (l := tables_1_1) (i := 224) rfl)) rfl
theorem ml_X1_19 : Cond.methodLink RX1 19 yX6_priceAt ∈ wsG := wsG_in (tin_3 _ (List.mem_of_getElem? (l := tables_1_3) (i := 63) rfl)) rfl
theorem ml_X1_28 : Cond.methodLink RX1 28 yX1_count ∈ wsG := wsG_in (tin_3 _ (List.mem_of_getElem? (l := tables_1_3) (i := 64) rfl)) rfl
theorem im_X1_count : Cond.instanceMethod yX1_count ∈ wsG := wsG_in (tin_3 _ (List.mem_of_getElem? (l := tables_1_3) (i := 66) rfl)) rfl
theorem se_X1_count : Cond.selects RX1 yX1_count yX1_count ∈ wsG := wsG_in (List.mem_append_left _ (List.mem_of_getElem? (l := k2_sels lw_privs) (i := 9) rfl)) rfl
theorem cd_X1_count : Cond.code yX1_count cX1_count 3 none ∈ wsG := wsG_in (tin_3 _ (List.mem_of_getElem? (l := tables_1_3) (i := 67) rfl)) rfl
theorem ml_L_62 : Cond.methodLink RL 62 yX11_buy ∈ wsG := wsG_in (tin_4 _ (List.mem_of_getElem? (l := tables_1_4) (i := 164) rfl)) rfl
theorem im_X11_buy : Cond.instanceMethod yX11_buy ∈ wsG := wsG_in (tin_4 _ (List.mem_of_getElem? (l := tables_1_4) (i := 165) rfl)) rfl
theorem se_X11_buy : Cond.selects RX11 yX11_buy yX11_buy ∈ wsG := wsG_in (tin_4 _ (List.mem_of_getElem? (l := tables_1_4) (i := 166) rfl)) rfl
theorem cd_X11_buy : Cond.code yX11_buy cX11_buy 9 (some .int) ∈ wsG := wsG_in (tin_4 _ (List.mem_of_getElem? (l := tables_1_4) (i := 167) rfl)) rfl
theorem ml_X11_166 : Cond.methodLink RX11 166 yX11_whyNot ∈ wsG := wsG_in (tin_4 _ (List.mem_of_getElem? (l := tables_1_4) (i := 168) rfl)) rfl
theorem im_X11_whyNot : Cond.instanceMethod yX11_whyNot ∈ wsG := wsG_in (tin_4 _ (List.mem_of_getElem? (l := tables_1_4) (i := 170) rfl)) rfl
theorem se_X11_whyNot : Cond.selects RX11 yX11_whyNot yX11_whyNot ∈ wsG := wsG_in (List.mem_append_left _ (List.mem_of_getElem? (l := k2_sels lw_privs) (i := 28) rfl)) rfl
theorem cd_X11_whyNot : Cond.code yX11_whyNot cX11_whyNot 4 (some .int) ∈ wsG := wsG_in (tin_4 _ (List.mem_of_getElem? (l := tables_1_4) (i := 171) rfl)) rfl
theorem ml_X11_163 : Cond.methodLink RX11 163 yX11_isShip ∈ wsG := wsG_in (tin_4 _ (List.mem_of_getElem? (l := tables_1_4) (i := 172) rfl)) rfl
theorem im_X11_isShip : Cond.instanceMethod yX11_isShip ∈ wsG := wsG_in (tin_4 _ (List.mem_of_getElem? (l := tables_1_4) (i := 174) rfl)) rfl
theorem se_X11_isShip : Cond.selects RX11 yX11_isShip yX11_isShip ∈ wsG := wsG_in (List.mem_append_left _ (List.mem_of_getElem? (l := k2_sels lw_privs) (i := 29) rfl)) rfl
theorem cd_X11_isShip : Cond.code yX11_isShip cX11_isShip 2 (some .boolean) ∈ wsG := wsG_in (tin_4 _ (List.mem_of_getElem? (l := tables_1_4) (i := 175) rfl)) rfl
theorem ml_X11_170 : Cond.methodLink RX11 170 yX11_load ∈ wsG := wsG_in (tin_4 _ (List.mem_of_getElem? (l := tables_1_4) (i := 176) rfl)) rfl
theorem im_X11_load : Cond.instanceMethod yX11_load ∈ wsG := wsG_in (tin_4 _ (List.mem_of_getElem? (l := tables_1_4) (i := 178) rfl)) rfl
theorem se_X11_load : Cond.selects RX11 yX11_load yX11_load ∈ wsG := wsG_in (List.mem_append_left _ (List.mem_of_getElem? (l := k2_sels lw_privs) (i := 30) rfl)) rfl
theorem cd_X11_load : Cond.code yX11_load cX11_load 2 (some .int) ∈ wsG := wsG_in (tin_4 _ (List.mem_of_getElem? (l := tables_1_4) (i := 179) rfl)) rfl
theorem ml_L_63 : Cond.methodLink RL 63 yX10_sell ∈ wsG := wsG_in (tin_3 _ (List.mem_of_getElem? (l := tables_1_3) (i := 68) rfl)) rfl
theorem im_X10_sell : Cond.instanceMethod yX10_sell ∈ wsG := wsG_in (tin_3 _ (List.mem_of_getElem? (l := tables_1_3) (i := 69) rfl)) rfl
theorem se_X10_sell : Cond.selects RX10 yX10_sell yX10_sell ∈ wsG := wsG_in (tin_3 _ (List.mem_of_getElem? (l := tables_1_3) (i := 70) rfl)) rfl
theorem cd_X10_sell : Cond.code yX10_sell cX10_sell 8 (some .int) ∈ wsG := wsG_in (tin_3 _ (List.mem_of_getElem? (l := tables_1_3) (i := 71) rfl)) rfl
theorem ml_X10_199 : Cond.methodLink RX10 199 yX1_sale ∈ wsG := wsG_in (tin_3 _ (List.mem_of_getElem? (l := tables_1_3) (i := 72) rfl)) rfl
theorem im_X1_sale : Cond.instanceMethod yX1_sale ∈ wsG := wsG_in (tin_3 _ (List.mem_of_getElem? (l := tables_1_3) (i := 73) rfl)) rfl
theorem se_X1_sale : Cond.selects RX1 yX1_sale yX1_sale ∈ wsG := wsG_in (tin_3 _ (List.mem_of_getElem? (l := tables_1_3) (i := 74) rfl)) rfl
theorem cd_X1_sale : Cond.code yX1_sale cX1_sale 9 none ∈ wsG := wsG_in (tin_3 _ (List.mem_of_getElem? (l := tables_1_3) (i := 75) rfl)) rfl
theorem ml_X1_31 : Cond.methodLink RX1 31 Lib.Math.min.name ∈ wsG := wsG_in (tin_3 _ (List.mem_of_getElem? (l := tables_1_3) (i := 76) rfl)) rfl
theorem ct_X1_37 : Cond.constant RX1 37 (1000000) ∈ wsG := wsG_in (tin_3 _ (List.mem_of_getElem? (l := tables_1_3) (i := 77) rfl)) rfl
theorem ml_L_66 : Cond.methodLink RL 66 yX11_sell ∈ wsG := wsG_in (tin_4 _ (List.mem_of_getElem? (l := tables_1_4) (i := 180) rfl)) rfl
theorem im_X11_sell : Cond.instanceMethod yX11_sell ∈ wsG := wsG_in (tin_4 _ (List.mem_of_getElem? (l := tables_1_4) (i := 181) rfl)) rfl
theorem se_X11_sell : Cond.selects RX11 yX11_sell yX11_sell ∈ wsG := wsG_in (tin_4 _ (List.mem_of_getElem? (l := tables_1_4) (i := 182) rfl)) rfl
theorem cd_X11_sell : Cond.code yX11_sell cX11_sell 10 (some .int) ∈ wsG := wsG_in (tin_4 _ (List.mem_of_getElem? (l := tables_1_4) (i := 183) rfl)) rfl
theorem ct_X11_176 : Cond.constant RX11 176 (1000000) ∈ wsG := wsG_in (tin_4 _ (List.mem_of_getElem? (l := tables_1_4) (i := 188) rfl)) rfl
theorem ml_X11_173 : Cond.methodLink RX11 173 yX11_gainWith ∈ wsG := wsG_in (tin_4 _ (List.mem_of_getElem? (l := tables_1_4) (i := 184) rfl)) rfl
theorem im_X11_gainWith : Cond.instanceMethod yX11_gainWith ∈ wsG := wsG_in (tin_4 _ (List.mem_of_getElem? (l := tables_1_4) (i := 186) rfl)) rfl
theorem se_X11_gainWith : Cond.selects RX11 yX11_gainWith yX11_gainWith ∈ wsG := wsG_in (List.mem_append_left _ (List.mem_of_getElem? (l := k2_sels lw_privs) (i := 31) rfl)) rfl
theorem cd_X11_gainWith : Cond.code yX11_gainWith cX11_gainWith 5 (some .int) ∈ wsG := wsG_in (tin_4 _ (List.mem_of_getElem? (l := tables_1_4) (i := 187) rfl)) rfl
theorem ml_L_67 : Cond.methodLink RL 67 yX10_go ∈ wsG := wsG_in (tin_3 _ (List.mem_of_getElem? (l := tables_1_3) (i := 78) rfl)) rfl
theorem im_X10_go : Cond.instanceMethod yX10_go ∈ wsG := wsG_in (tin_3 _ (List.mem_of_getElem? (l := tables_1_3) (i := 79) rfl)) rfl
theorem se_X10_go : Cond.selects RX10 yX10_go yX10_go ∈ wsG := wsG_in (tin_3 _ (List.mem_of_getElem? (l := tables_1_3) (i := 80) rfl)) rfl
theorem cd_X10_go : Cond.code yX10_go cX10_go 6 (some .int) ∈ wsG := wsG_in (tin_3 _ (List.mem_of_getElem? (l := tables_1_3) (i := 81) rfl)) rfl
theorem fl_X10_205 : Cond.fieldLink RX10 205 "StarTrade$World" "fuel" "I" ∈ wsG := wsG_in (tin_1 _ (List.mem_of_getElem? (l := tables_1_1) (i := 140) rfl)) rfl
theorem fl_X10_211 : Cond.fieldLink RX10 211 "StarTrade" "fuelPaid" "I" ∈ wsG := wsG_in (tin_2 _ (List.mem_of_getElem? (l := tables_1_2) (i := 129) rfl)) rfl
theorem ml_X10_208 : Cond.methodLink RX10 208 yX9_openLength ∈ wsG := wsG_in (tin_3 _ (List.mem_of_getElem? (l := tables_1_3) (i := 82) rfl)) rfl
theorem im_X9_openLength : Cond.instanceMethod yX9_openLength ∈ wsG := wsG_in (tin_3 _ (List.mem_of_getElem? (l := tables_1_3) (i := 83) rfl)) rfl
theorem se_X9_openLength : Cond.selects RX9 yX9_openLength yX9_openLength ∈ wsG := wsG_in (tin_3 _ (List.mem_of_getElem? (l := tables_1_3) (i := 84) rfl)) rfl
theorem cd_X9_openLength : Cond.code yX9_openLength cX9_openLength 3 (some .int) ∈ wsG := wsG_in (tin_3 _ (List.mem_of_getElem? (l := tables_1_3) (i := 85) rfl)) rfl
theorem fl_X9_40 : Cond.fieldLink RX9 40 "StarTrade$Port" "shut" "Z" ∈ wsG := wsG_in (tin_1 _ (List.mem_of_getElem? (l := tables_1_1) (i := 82) rfl)) rfl
theorem ml_L_70 : Cond.methodLink RL 70 yX11_go ∈ wsG := wsG_in (tin_4 _ (List.mem_of_getElem? (l := tables_1_4) (i := 189) rfl)) rfl
theorem im_X11_go : Cond.instanceMethod yX11_go ∈ wsG := wsG_in (tin_4 _ (List.mem_of_getElem? (l := tables_1_4) (i := 190) rfl)) rfl
theorem se_X11_go : Cond.selects RX11 yX11_go yX11_go ∈ wsG := wsG_in (tin_4 _ (List.mem_of_getElem? (l := tables_1_4) (i := 191) rfl)) rfl
theorem cd_X11_go : Cond.code yX11_go cX11_go 5 (some .int) ∈ wsG := wsG_in (tin_4 _ (List.mem_of_getElem? (l := tables_1_4) (i := 192) rfl)) rfl
theorem fl_X11_177 : Cond.fieldLink RX11 177 "StarTradeModel" "fuelPaid" "I" ∈ wsG := wsG_in (tin_3 _ (List.mem_of_getElem? (l := tables_1_3) (i := 216) rfl)) rfl
theorem ml_L_71 : Cond.methodLink RL 71 yX10_ofShip ∈ wsG := wsG_in (tin_3 _ (List.mem_of_getElem? (l := tables_1_3) (i := 86) rfl)) rfl
theorem im_X10_ofShip : Cond.instanceMethod yX10_ofShip ∈ wsG := wsG_in (tin_3 _ (List.mem_of_getElem? (l := tables_1_3) (i := 87) rfl)) rfl
theorem se_X10_ofShip : Cond.selects RX10 yX10_ofShip yX10_ofShip ∈ wsG := wsG_in (tin_3 _ (List.mem_of_getElem? (l := tables_1_3) (i := 88) rfl)) rfl
theorem cd_X10_ofShip : Cond.code yX10_ofShip cX10_ofShip 4 (some .int) ∈ wsG := wsG_in (tin_3 _ (List.mem_of_getElem? (l := tables_1_3) (i := 89) rfl)) rfl
theorem ml_L_74 : Cond.methodLink RL 74 yX11_ofShip ∈ wsG := wsG_in (tin_4 _ (List.mem_of_getElem? (l := tables_1_4) (i := 193) rfl)) rfl
theorem im_X11_ofShip : Cond.instanceMethod yX11_ofShip ∈ wsG := wsG_in (tin_4 _ (List.mem_of_getElem? (l := tables_1_4) (i := 194) rfl)) rfl
theorem se_X11_ofShip : Cond.selects RX11 yX11_ofShip yX11_ofShip ∈ wsG := wsG_in (tin_4 _ (List.mem_of_getElem? (l := tables_1_4) (i := 195) rfl)) rfl
theorem cd_X11_ofShip : Cond.code yX11_ofShip cX11_ofShip 3 (some .int) ∈ wsG := wsG_in (tin_4 _ (List.mem_of_getElem? (l := tables_1_4) (i := 196) rfl)) rfl
theorem cl_X11_180 : Cond.constantLong RX11 180 (10) ∈ wsG := wsG_in (tin_4 _ (List.mem_of_getElem? (l := tables_1_4) (i := 197) rfl)) rfl
theorem cl_X11_182 : Cond.constantLong RX11 182 (12) ∈ wsG := wsG_in (tin_4 _ (List.mem_of_getElem? (l := tables_1_4) (i := 198) rfl)) rfl
theorem ml_L_75 : Cond.methodLink RL 75 yX10_fuel ∈ wsG := wsG_in (tin_3 _ (List.mem_of_getElem? (l := tables_1_3) (i := 90) rfl)) rfl
theorem im_X10_fuel : Cond.instanceMethod yX10_fuel ∈ wsG := wsG_in (tin_3 _ (List.mem_of_getElem? (l := tables_1_3) (i := 91) rfl)) rfl
theorem se_X10_fuel : Cond.selects RX10 yX10_fuel yX10_fuel ∈ wsG := wsG_in (tin_3 _ (List.mem_of_getElem? (l := tables_1_3) (i := 92) rfl)) rfl
theorem cd_X10_fuel : Cond.code yX10_fuel cX10_fuel 3 (some .int) ∈ wsG := wsG_in (tin_3 _ (List.mem_of_getElem? (l := tables_1_3) (i := 93) rfl)) rfl
theorem ml_L_78 : Cond.methodLink RL 78 yX11_fuel ∈ wsG := wsG_in (tin_4 _ (List.mem_of_getElem? (l := tables_1_4) (i := 199) rfl)) rfl
theorem im_X11_fuel : Cond.instanceMethod yX11_fuel ∈ wsG := wsG_in (tin_4 _ (List.mem_of_getElem? (l := tables_1_4) (i := 200) rfl)) rfl
theorem se_X11_fuel : Cond.selects RX11 yX11_fuel yX11_fuel ∈ wsG := wsG_in (tin_4 _ (List.mem_of_getElem? (l := tables_1_4) (i := 201) rfl)) rfl
theorem cd_X11_fuel : Cond.code yX11_fuel cX11_fuel 3 (some .int) ∈ wsG := wsG_in (tin_4 _ (List.mem_of_getElem? (l := tables_1_4) (i := 202) rfl)) rfl
theorem ml_L_79 : Cond.methodLink RL 79 yX10_told ∈ wsG := wsG_in (tin_3 _ (List.mem_of_getElem? (l := tables_1_3) (i := 94) rfl)) rfl
theorem im_X10_told : Cond.instanceMethod yX10_told ∈ wsG := wsG_in (tin_3 _ (List.mem_of_getElem? (l := tables_1_3) (i := 95) rfl)) rfl
theorem se_X10_told : Cond.selects RX10 yX10_told yX10_told ∈ wsG := wsG_in (tin_3 _ (List.mem_of_getElem? (l := tables_1_3) (i := 96) rfl)) rfl
theorem cd_X10_told : Cond.code yX10_told cX10_told 2 (some .int) ∈ wsG := wsG_in (tin_3 _ (List.mem_of_getElem? (l := tables_1_3) (i := 97) rfl)) rfl
theorem ml_X10_214 : Cond.methodLink RX10 214 yX10_unitsInAll ∈ wsG := wsG_in (tin_3 _ (List.mem_of_getElem? (l := tables_1_3) (i := 98) rfl)) rfl
theorem im_X10_unitsInAll : Cond.instanceMethod yX10_unitsInAll ∈ wsG := wsG_in (tin_3 _ (List.mem_of_getElem? (l := tables_1_3) (i := 100) rfl)) rfl
theorem se_X10_unitsInAll : Cond.selects RX10 yX10_unitsInAll yX10_unitsInAll ∈ wsG := wsG_in (List.mem_append_left _ (List.mem_of_getElem? (l := k2_sels lw_privs) (i := 10) rfl)) rfl
theorem cd_X10_unitsInAll : Cond.code yX10_unitsInAll cX10_unitsInAll 4 (some .int) ∈ wsG := wsG_in (tin_3 _ (List.mem_of_getElem? (l := tables_1_3) (i := 101) rfl)) rfl
theorem ml_X10_226 : Cond.methodLink RX10 226 yX10_coinsOfShips ∈ wsG := wsG_in (tin_3 _ (List.mem_of_getElem? (l := tables_1_3) (i := 102) rfl)) rfl
theorem im_X10_coinsOfShips : Cond.instanceMethod yX10_coinsOfShips ∈ wsG := wsG_in (tin_3 _ (List.mem_of_getElem? (l := tables_1_3) (i := 104) rfl)) rfl
theorem se_X10_coinsOfShips : Cond.selects RX10 yX10_coinsOfShips yX10_coinsOfShips ∈ wsG := wsG_in (List.mem_append_left _ (List.mem_of_getElem? (l := k2_sels lw_privs) (i := 11) rfl)) rfl
theorem cd_X10_coinsOfShips : Cond.code yX10_coinsOfShips cX10_coinsOfShips 3 (some .int) ∈ wsG := wsG_in (tin_3 _ (List.mem_of_getElem? (l := tables_1_3) (i := 105) rfl)) rfl
theorem ml_L_82 : Cond.methodLink RL 82 yX11_told ∈ wsG := wsG_in (tin_4 _ (List.mem_of_getElem? (l := tables_1_4) (i := 203) rfl)) rfl
theorem im_X11_told : Cond.instanceMethod yX11_told ∈ wsG := wsG_in (tin_4 _ (List.mem_of_getElem? (l := tables_1_4) (i := 204) rfl)) rfl
theorem se_X11_told : Cond.selects RX11 yX11_told yX11_told ∈ wsG := wsG_in (tin_4 _ (List.mem_of_getElem? (l := tables_1_4) (i := 205) rfl)) rfl
theorem cd_X11_told : Cond.code yX11_told cX11_told 4 (some .int) ∈ wsG := wsG_in (tin_4 _ (List.mem_of_getElem? (l := tables_1_4) (i := 206) rfl)) rfl
theorem ml_L_83 : Cond.methodLink RL 83 yX10_ring ∈ wsG := wsG_in (tin_3 _ (List.mem_of_getElem? (l := tables_1_3) (i := 106) rfl)) rfl
theorem im_X10_ring : Cond.instanceMethod yX10_ring ∈ wsG := wsG_in (tin_3 _ (List.mem_of_getElem? (l := tables_1_3) (i := 107) rfl)) rfl
theorem se_X10_ring : Cond.selects RX10 yX10_ring yX10_ring ∈ wsG := wsG_in (tin_3 _ (List.mem_of_getElem? (l := tables_1_3) (i := 108) rfl)) rfl
theorem cd_X10_ring : Cond.code yX10_ring cX10_ring 4 (some .int) ∈ wsG := wsG_in (tin_3 _ (List.mem_of_getElem? (l := tables_1_3) (i := 109) rfl)) rfl
theorem fl_X10_232 : Cond.fieldLink RX10 232 "StarTrade$RingSearch" "bestCount" "I" ∈ wsG := wsG_in (tin_2 _ (List.mem_of_getElem? (l := tables_1_2) (i := 10) rfl)) rfl
theorem ct_X10_235 : Cond.constant RX10 235 (-10000005) ∈ wsG := wsG_in (tin_3 _ (List.mem_of_getElem? (l := tables_1_3) (i := 141) rfl)) rfl
theorem fl_X10_236 : Cond.fieldLink RX10 236 "StarTrade$RingSearch" "bestGains" "I" ∈ wsG := wsG_in (tin_2 _ (List.mem_of_getElem? (l := tables_1_2) (i := 12) rfl)) rfl
theorem fl_X10_239 : Cond.fieldLink RX10 239 "StarTrade$RingSearch" "bestLengths" "I" ∈ wsG := wsG_in (tin_2 _ (List.mem_of_getElem? (l := tables_1_2) (i := 14) rfl)) rfl
theorem fl_X10_242 : Cond.fieldLink RX10 242 "StarTrade$RingSearch" "best" "[I" ∈ wsG := wsG_in (tin_2 _ (List.mem_of_getElem? (l := tables_1_2) (i := 8) rfl)) rfl
theorem ml_X10_229 : Cond.methodLink RX10 229 yX5_seek ∈ wsG := wsG_in (tin_3 _ (List.mem_of_getElem? (l := tables_1_3) (i := 110) rfl)) rfl
theorem im_X5_seek : Cond.instanceMethod yX5_seek ∈ wsG := wsG_in (tin_3 _ (List.mem_of_getElem? (l := tables_1_3) (i := 111) rfl)) rfl
theorem se_X5_seek : Cond.selects RX5 yX5_seek yX5_seek ∈ wsG := wsG_in (tin_3 _ (List.mem_of_getElem? (l := tables_1_3) (i := 112) rfl)) rfl
theorem cd_X5_seek : Cond.code yX5_seek cX5_seek 3 none ∈ wsG := wsG_in (tin_3 _ (List.mem_of_getElem? (l := tables_1_3) (i := 113) rfl)) rfl
theorem fl_X5_27 : Cond.fieldLink RX5 27 "StarTrade$RingSearch" "bestCount" "I" ∈ wsG := wsG_in (tin_2 _ (List.mem_of_getElem? (l := tables_1_2) (i := 9) rfl)) rfl
theorem fl_X5_35 : Cond.fieldLink RX5 35 "StarTrade$World" "portCount" "I" ∈ wsG := wsG_in (tin_1 _ (List.mem_of_getElem? (l := tables_1_1) (i := 133) rfl)) rfl
theorem ml_X5_31 : Cond.methodLink RX5 31 yX5_fillLegGains ∈ wsG := wsG_in (tin_3 _ (List.mem_of_getElem? (l := tables_1_3) (i := 114) rfl)) rfl
theorem im_X5_fillLegGains : Cond.instanceMethod yX5_fillLegGains ∈ wsG := wsG_in (tin_3 _ (List.mem_of_getElem? (l := tables_1_3) (i := 116) rfl)) rfl
theorem se_X5_fillLegGains : Cond.selects RX5 yX5_fillLegGains yX5_fillLegGains ∈ wsG := wsG_in (List.mem_append_left _ (List.mem_of_getElem? (l := k2_sels lw_privs) (i := 12) rfl)) rfl
theorem cd_X5_fillLegGains : Cond.code yX5_fillLegGains cX5_fillLegGains 4 none ∈ wsG := wsG_in (tin_3 _ (List.mem_of_getElem? (l := tables_1_3) (i := 117) rfl)) rfl
theorem fl_X5_48 : Cond.fieldLink RX5 48 "StarTrade$World" "fuel" "I" ∈ wsG := wsG_in (tin_1 _ (List.mem_of_getElem? (l := tables_1_1) (i := 138) rfl)) rfl
theorem fl_X5_51 : Cond.fieldLink RX5 51 "StarTrade$World" "ways" "[[I" ∈ wsG := wsG_in (tin_1 _ (List.mem_of_getElem? (l := tables_1_1) (i := 127) rfl)) rfl
theorem ml_X5_44 : Cond.methodLink RX5 44 yX5_gainOfUnit ∈ wsG := wsG_in (tin_3 _ (List.mem_of_getElem? (l := tables_1_3) (i := 118) rfl)) rfl
theorem im_X5_gainOfUnit : Cond.instanceMethod yX5_gainOfUnit ∈ wsG := wsG_in (tin_3 _ (List.mem_of_getElem? (l := tables_1_3) (i := 120) rfl)) rfl
theorem se_X5_gainOfUnit : Cond.selects RX5 yX5_gainOfUnit yX5_gainOfUnit ∈ wsG := wsG_in (List.mem_append_left _ (List.mem_of_getElem? (l := k2_sels lw_privs) (i := 13) rfl)) rfl
theorem cd_X5_gainOfUnit : Cond.code yX5_gainOfUnit cX5_gainOfUnit 8 (some .int) ∈ wsG := wsG_in (tin_3 _ (List.mem_of_getElem? (l := tables_1_3) (i := 121) rfl)) rfl
theorem fl_X5_54 : Cond.fieldLink RX5 54 "StarTrade$World" "ports" "[LStarTrade$Port;" ∈ wsG := wsG_in (tin_1 _ (List.mem_of_getElem? (l := tables_1_1) (i := 123) rfl)) rfl
theorem fl_X5_58 : Cond.fieldLink RX5 58 "StarTrade$Port" "tax" "I" ∈ wsG := wsG_in (tin_1 _ (List.mem_of_getElem? (l := tables_1_1) (i := 77) rfl)) rfl
theorem ml_X5_73 : Cond.methodLink RX5 73 Lib.Math.max.name ∈ wsG := wsG_in (tin_3 _ (List.mem_of_getElem? (l := tables_1_3) (i := 124) rfl)) rfl
theorem ml_X5_63 : Cond.methodLink RX5 63 yX9_shelf ∈ wsG := wsG_in (tin_3 _ (List.mem_of_getElem? (l := tables_1_3) (i := 122) rfl)) rfl
theorem ml_X5_67 : Cond.methodLink RX5 67 yX6_number ∈ wsG := wsG_in (tin_3 _ (List.mem_of_getElem? (l := tables_1_3) (i := 123) rfl)) rfl
theorem ml_X5_40 : Cond.methodLink RX5 40 yX5_extend ∈ wsG := wsG_in (tin_3 _ (List.mem_of_getElem? (l := tables_1_3) (i := 125) rfl)) rfl
theorem im_X5_extend : Cond.instanceMethod yX5_extend ∈ wsG := wsG_in (tin_3 _ (List.mem_of_getElem? (l := tables_1_3) (i := 127) rfl)) rfl
theorem se_X5_extend : Cond.selects RX5 yX5_extend yX5_extend ∈ wsG := wsG_in (List.mem_append_left _ (List.mem_of_getElem? (l := k2_sels lw_privs) (i := 14) rfl)) rfl
theorem cd_X5_extend : Cond.code yX5_extend cX5_extend 8 none ∈ wsG := wsG_in (tin_3 _ (List.mem_of_getElem? (l := tables_1_3) (i := 128) rfl)) rfl
theorem ml_X5_78 : Cond.methodLink RX5 78 yX9_openLength ∈ wsG := wsG_in (tin_3 _ (List.mem_of_getElem? (l := tables_1_3) (i := 129) rfl)) rfl
theorem ml_X5_81 : Cond.methodLink RX5 81 yX5_compare ∈ wsG := wsG_in (tin_3 _ (List.mem_of_getElem? (l := tables_1_3) (i := 130) rfl)) rfl
theorem im_X5_compare : Cond.instanceMethod yX5_compare ∈ wsG := wsG_in (tin_3 _ (List.mem_of_getElem? (l := tables_1_3) (i := 132) rfl)) rfl
theorem se_X5_compare : Cond.selects RX5 yX5_compare yX5_compare ∈ wsG := wsG_in (List.mem_append_left _ (List.mem_of_getElem? (l := k2_sels lw_privs) (i := 15) rfl)) rfl
theorem cd_X5_compare : Cond.code yX5_compare cX5_compare 5 none ∈ wsG := wsG_in (tin_3 _ (List.mem_of_getElem? (l := tables_1_3) (i := 133) rfl)) rfl
theorem fl_X5_88 : Cond.fieldLink RX5 88 "StarTrade$RingSearch" "bestLengths" "I" ∈ wsG := wsG_in (tin_2 _ (List.mem_of_getElem? (l := tables_1_2) (i := 13) rfl)) rfl
theorem fl_X5_91 : Cond.fieldLink RX5 91 "StarTrade$RingSearch" "bestGains" "I" ∈ wsG := wsG_in (tin_2 _ (List.mem_of_getElem? (l := tables_1_2) (i := 11) rfl)) rfl
theorem ml_X5_94 : Cond.methodLink RX5 94 arraycopyName ∈ wsG := wsG_in (tin_3 _ (List.mem_of_getElem? (l := tables_1_3) (i := 134) rfl)) rfl
theorem na_arraycopy : Cond.native arraycopyName ∈ wsG := wsG_in (tin_3 _ (List.mem_of_getElem? (l := tables_1_3) (i := 136) rfl)) rfl
theorem st_arraycopyName : Cond.static arraycopyName ∈ wsG := wsG_in (tin_3 _ (List.mem_of_getElem? (l := tables_1_3) (i := 135) rfl)) rfl
theorem in_java_lang_System : Cond.initialized "java/lang/System" ∈ wsG := wsG_in (tin_1 _ (List.mem_of_getElem? (l := tables_1_1) (i := 14) rfl)) rfl
theorem ml_X5_84 : Cond.methodLink RX5 84 yX5_isOnPath ∈ wsG := wsG_in (tin_3 _ (List.mem_of_getElem? (l := tables_1_3) (i := 137) rfl)) rfl
theorem im_X5_isOnPath : Cond.instanceMethod yX5_isOnPath ∈ wsG := wsG_in (tin_3 _ (List.mem_of_getElem? (l := tables_1_3) (i := 139) rfl)) rfl
theorem se_X5_isOnPath : Cond.selects RX5 yX5_isOnPath yX5_isOnPath ∈ wsG := wsG_in (List.mem_append_left _ (List.mem_of_getElem? (l := k2_sels lw_privs) (i := 16) rfl)) rfl
theorem cd_X5_isOnPath : Cond.code yX5_isOnPath cX5_isOnPath 4 (some .boolean) ∈ wsG := wsG_in (tin_3 _ (List.mem_of_getElem? (l := tables_1_3) (i := 140) rfl)) rfl
theorem ml_L_86 : Cond.methodLink RL 86 yX11_ring ∈ wsG := wsG_in (tin_4 _ (List.mem_of_getElem? (l := tables_1_4) (i := 207) rfl)) rfl
theorem im_X11_ring : Cond.instanceMethod yX11_ring ∈ wsG := wsG_in (tin_4 _ (List.mem_of_getElem? (l := tables_1_4) (i := 208) rfl)) rfl
theorem se_X11_ring : Cond.selects RX11 yX11_ring yX11_ring ∈ wsG := wsG_in (tin_4 _ (List.mem_of_getElem? (l := tables_1_4) (i := 209) rfl)) rfl
theorem cd_X11_ring : Cond.code yX11_ring cX11_ring 4 (some .int) ∈ wsG := wsG_in (tin_4 _ (List.mem_of_getElem? (l := tables_1_4) (i := 210) rfl)) rfl
theorem cl_X11_203 : Cond.constantLong RX11 203 (3) ∈ wsG := wsG_in (tin_4 _ (List.mem_of_getElem? (l := tables_1_4) (i := 211) rfl)) rfl
theorem fl_X11_193 : Cond.fieldLink RX11 193 "StarTradeModel" "bestMany" "I" ∈ wsG := wsG_in (tin_3 _ (List.mem_of_getElem? (l := tables_1_3) (i := 228) rfl)) rfl
theorem fl_X11_190 : Cond.fieldLink RX11 190 "StarTradeModel" "bestGain" "I" ∈ wsG := wsG_in (tin_3 _ (List.mem_of_getElem? (l := tables_1_3) (i := 229) rfl)) rfl
theorem fl_X11_187 : Cond.fieldLink RX11 187 "StarTradeModel" "bestLength" "I" ∈ wsG := wsG_in (tin_3 _ (List.mem_of_getElem? (l := tables_1_3) (i := 230) rfl)) rfl
theorem ct_X11_208 : Cond.constant RX11 208 (-10000005) ∈ wsG := wsG_in (tin_4 _ (List.mem_of_getElem? (l := tables_1_4) (i := 228) rfl)) rfl
theorem ml_X11_205 : Cond.methodLink RX11 205 yX11_lookAll ∈ wsG := wsG_in (tin_4 _ (List.mem_of_getElem? (l := tables_1_4) (i := 212) rfl)) rfl
theorem im_X11_lookAll : Cond.instanceMethod yX11_lookAll ∈ wsG := wsG_in (tin_4 _ (List.mem_of_getElem? (l := tables_1_4) (i := 214) rfl)) rfl
theorem se_X11_lookAll : Cond.selects RX11 yX11_lookAll yX11_lookAll ∈ wsG := wsG_in (List.mem_append_left _ (List.mem_of_getElem? (l := k2_sels lw_privs) (i := 32) rfl)) rfl
theorem cd_X11_lookAll : Cond.code yX11_lookAll cX11_lookAll 9 none ∈ wsG := wsG_in (tin_4 _ (List.mem_of_getElem? (l := tables_1_4) (i := 215) rfl)) rfl
theorem ml_X11_199 : Cond.methodLink RX11 199 yX11_look ∈ wsG := wsG_in (tin_4 _ (List.mem_of_getElem? (l := tables_1_4) (i := 216) rfl)) rfl
theorem im_X11_look : Cond.instanceMethod yX11_look ∈ wsG := wsG_in (tin_4 _ (List.mem_of_getElem? (l := tables_1_4) (i := 218) rfl)) rfl
theorem se_X11_look : Cond.selects RX11 yX11_look yX11_look ∈ wsG := wsG_in (List.mem_append_left _ (List.mem_of_getElem? (l := k2_sels lw_privs) (i := 33) rfl)) rfl
theorem cd_X11_look : Cond.code yX11_look cX11_look 11 none ∈ wsG := wsG_in (tin_4 _ (List.mem_of_getElem? (l := tables_1_4) (i := 219) rfl)) rfl
theorem ml_X11_184 : Cond.methodLink RX11 184 yX11_legGain ∈ wsG := wsG_in (tin_4 _ (List.mem_of_getElem? (l := tables_1_4) (i := 220) rfl)) rfl
theorem im_X11_legGain : Cond.instanceMethod yX11_legGain ∈ wsG := wsG_in (tin_4 _ (List.mem_of_getElem? (l := tables_1_4) (i := 222) rfl)) rfl
theorem se_X11_legGain : Cond.selects RX11 yX11_legGain yX11_legGain ∈ wsG := wsG_in (List.mem_append_left _ (List.mem_of_getElem? (l := k2_sels lw_privs) (i := 34) rfl)) rfl
theorem cd_X11_legGain : Cond.code yX11_legGain cX11_legGain 9 (some .int) ∈ wsG := wsG_in (tin_4 _ (List.mem_of_getElem? (l := tables_1_4) (i := 223) rfl)) rfl
theorem ml_X11_196 : Cond.methodLink RX11 196 yX11_isLess ∈ wsG := wsG_in (tin_4 _ (List.mem_of_getElem? (l := tables_1_4) (i := 224) rfl)) rfl
theorem im_X11_isLess : Cond.instanceMethod yX11_isLess ∈ wsG := wsG_in (tin_4 _ (List.mem_of_getElem? (l := tables_1_4) (i := 226) rfl)) rfl
theorem se_X11_isLess : Cond.selects RX11 yX11_isLess yX11_isLess ∈ wsG := wsG_in (List.mem_append_left _ (List.mem_of_getElem? (l := k2_sels lw_privs) (i := 35) rfl)) rfl
theorem cd_X11_isLess : Cond.code yX11_isLess cX11_isLess 3 (some .boolean) ∈ wsG := wsG_in (tin_4 _ (List.mem_of_getElem? (l := tables_1_4) (i := 227) rfl)) rfl
theorem ml_L_87 : Cond.methodLink RL 87 yX10_plan ∈ wsG := wsG_in (tin_3 _ (List.mem_of_getElem? (l := tables_1_3) (i := 142) rfl)) rfl
theorem im_X10_plan : Cond.instanceMethod yX10_plan ∈ wsG := wsG_in (tin_3 _ (List.mem_of_getElem? (l := tables_1_3) (i := 143) rfl)) rfl
theorem se_X10_plan : Cond.selects RX10 yX10_plan yX10_plan ∈ wsG := wsG_in (tin_3 _ (List.mem_of_getElem? (l := tables_1_3) (i := 144) rfl)) rfl
theorem cd_X10_plan : Cond.code yX10_plan cX10_plan 4 (some .int) ∈ wsG := wsG_in (tin_3 _ (List.mem_of_getElem? (l := tables_1_3) (i := 145) rfl)) rfl
theorem fl_X10_248 : Cond.fieldLink RX10 248 "StarTrade$PlanSearch" "bestCoins" "I" ∈ wsG := wsG_in (tin_2 _ (List.mem_of_getElem? (l := tables_1_2) (i := 88) rfl)) rfl
theorem ml_X10_245 : Cond.methodLink RX10 245 yX3_seek ∈ wsG := wsG_in (tin_3 _ (List.mem_of_getElem? (l := tables_1_3) (i := 146) rfl)) rfl
theorem im_X3_seek : Cond.instanceMethod yX3_seek ∈ wsG := wsG_in (tin_3 _ (List.mem_of_getElem? (l := tables_1_3) (i := 147) rfl)) rfl
theorem se_X3_seek : Cond.selects RX3 yX3_seek yX3_seek ∈ wsG := wsG_in (tin_3 _ (List.mem_of_getElem? (l := tables_1_3) (i := 148) rfl)) rfl
theorem cd_X3_seek : Cond.code yX3_seek cX3_seek 7 (some .boolean) ∈ wsG := wsG_in (tin_3 _ (List.mem_of_getElem? (l := tables_1_3) (i := 149) rfl)) rfl
theorem fl_X3_55 : Cond.fieldLink RX3 55 "StarTrade$PlanSearch" "trips" "I" ∈ wsG := wsG_in (tin_2 _ (List.mem_of_getElem? (l := tables_1_2) (i := 80) rfl)) rfl
theorem fl_X3_59 : Cond.fieldLink RX3 59 "StarTrade$PlanSearch" "hold" "I" ∈ wsG := wsG_in (tin_2 _ (List.mem_of_getElem? (l := tables_1_2) (i := 81) rfl)) rfl
theorem fl_X3_62 : Cond.fieldLink RX3 62 "StarTrade$PlanSearch" "found" "Z" ∈ wsG := wsG_in (tin_2 _ (List.mem_of_getElem? (l := tables_1_2) (i := 82) rfl)) rfl
theorem fl_X3_66 : Cond.fieldLink RX3 66 "StarTrade$World" "portCount" "I" ∈ wsG := wsG_in (tin_1 _ (List.mem_of_getElem? (l := tables_1_1) (i := 134) rfl)) rfl
theorem fl_X3_75 : Cond.fieldLink RX3 75 "StarTrade$Shelf" "place" "I" ∈ wsG := wsG_in (tin_1 _ (List.mem_of_getElem? (l := tables_1_1) (i := 44) rfl)) rfl
theorem fl_X3_80 : Cond.fieldLink RX3 80 "StarTrade$Shelf" "stock" "I" ∈ wsG := wsG_in (tin_1 _ (List.mem_of_getElem? (l := tables_1_1) (i := 47) rfl)) rfl
theorem fl_X3_83 : Cond.fieldLink RX3 83 "StarTrade$World" "now" "I" ∈ wsG := wsG_in (tin_1 _ (List.mem_of_getElem? (l := tables_1_1) (i := 135) rfl)) rfl
theorem ml_X3_71 : Cond.methodLink RX3 71 yX9_shelf ∈ wsG := wsG_in (tin_3 _ (List.mem_of_getElem? (l := tables_1_3) (i := 150) rfl)) rfl
theorem ml_X3_86 : Cond.methodLink RX3 86 yX3_arrive ∈ wsG := wsG_in (tin_3 _ (List.mem_of_getElem? (l := tables_1_3) (i := 151) rfl)) rfl
theorem im_X3_arrive : Cond.instanceMethod yX3_arrive ∈ wsG := wsG_in (tin_3 _ (List.mem_of_getElem? (l := tables_1_3) (i := 153) rfl)) rfl
theorem se_X3_arrive : Cond.selects RX3 yX3_arrive yX3_arrive ∈ wsG := wsG_in (List.mem_append_left _ (List.mem_of_getElem? (l := k2_sels lw_privs) (i := 17) rfl)) rfl
theorem cd_X3_arrive : Cond.code yX3_arrive cX3_arrive 5 none ∈ wsG := wsG_in (tin_3 _ (List.mem_of_getElem? (l := tables_1_3) (i := 154) rfl)) rfl
theorem fl_X3_94 : Cond.fieldLink RX3 94 "StarTrade$Stop" "port" "I" ∈ wsG := wsG_in (tin_2 _ (List.mem_of_getElem? (l := tables_1_2) (i := 47) rfl)) rfl
theorem fl_X3_97 : Cond.fieldLink RX3 97 "StarTrade$Stop" "tick" "I" ∈ wsG := wsG_in (tin_2 _ (List.mem_of_getElem? (l := tables_1_2) (i := 48) rfl)) rfl
theorem fl_X3_100 : Cond.fieldLink RX3 100 "StarTrade$Stop" "coins" "I" ∈ wsG := wsG_in (tin_2 _ (List.mem_of_getElem? (l := tables_1_2) (i := 49) rfl)) rfl
theorem ml_X3_90 : Cond.methodLink RX3 90 yX3_extend ∈ wsG := wsG_in (tin_3 _ (List.mem_of_getElem? (l := tables_1_3) (i := 155) rfl)) rfl
theorem im_X3_extend : Cond.instanceMethod yX3_extend ∈ wsG := wsG_in (tin_3 _ (List.mem_of_getElem? (l := tables_1_3) (i := 157) rfl)) rfl
theorem se_X3_extend : Cond.selects RX3 yX3_extend yX3_extend ∈ wsG := wsG_in (List.mem_append_left _ (List.mem_of_getElem? (l := k2_sels lw_privs) (i := 18) rfl)) rfl
theorem cd_X3_extend : Cond.code yX3_extend cX3_extend 6 none ∈ wsG := wsG_in (tin_3 _ (List.mem_of_getElem? (l := tables_1_3) (i := 158) rfl)) rfl
theorem fl_X3_114 : Cond.fieldLink RX3 114 "StarTrade$Stop" "units" "[I" ∈ wsG := wsG_in (tin_2 _ (List.mem_of_getElem? (l := tables_1_2) (i := 52) rfl)) rfl
theorem fl_X3_117 : Cond.fieldLink RX3 117 "StarTrade$Stop" "firstEmpty" "I" ∈ wsG := wsG_in (tin_2 _ (List.mem_of_getElem? (l := tables_1_2) (i := 50) rfl)) rfl
theorem ml_X3_103 : Cond.methodLink RX3 103 yX3_compare ∈ wsG := wsG_in (tin_3 _ (List.mem_of_getElem? (l := tables_1_3) (i := 159) rfl)) rfl
theorem im_X3_compare : Cond.instanceMethod yX3_compare ∈ wsG := wsG_in (tin_3 _ (List.mem_of_getElem? (l := tables_1_3) (i := 161) rfl)) rfl
theorem se_X3_compare : Cond.selects RX3 yX3_compare yX3_compare ∈ wsG := wsG_in (List.mem_append_left _ (List.mem_of_getElem? (l := k2_sels lw_privs) (i := 19) rfl)) rfl
theorem cd_X3_compare : Cond.code yX3_compare cX3_compare 2 none ∈ wsG := wsG_in (tin_3 _ (List.mem_of_getElem? (l := tables_1_3) (i := 162) rfl)) rfl
theorem fl_X3_124 : Cond.fieldLink RX3 124 "StarTrade$PlanSearch" "bestCoins" "I" ∈ wsG := wsG_in (tin_2 _ (List.mem_of_getElem? (l := tables_1_2) (i := 87) rfl)) rfl
theorem fl_X3_127 : Cond.fieldLink RX3 127 "StarTrade$PlanSearch" "foundTrips" "I" ∈ wsG := wsG_in (tin_2 _ (List.mem_of_getElem? (l := tables_1_2) (i := 89) rfl)) rfl
theorem ml_X3_130 : Cond.methodLink RX3 130 arraycopyName ∈ wsG := wsG_in (tin_3 _ (List.mem_of_getElem? (l := tables_1_3) (i := 163) rfl)) rfl
theorem ml_X3_106 : Cond.methodLink RX3 106 yX3_buyEach ∈ wsG := wsG_in (tin_3 _ (List.mem_of_getElem? (l := tables_1_3) (i := 164) rfl)) rfl
theorem im_X3_buyEach : Cond.instanceMethod yX3_buyEach ∈ wsG := wsG_in (tin_3 _ (List.mem_of_getElem? (l := tables_1_3) (i := 166) rfl)) rfl
theorem se_X3_buyEach : Cond.selects RX3 yX3_buyEach yX3_buyEach ∈ wsG := wsG_in (List.mem_append_left _ (List.mem_of_getElem? (l := k2_sels lw_privs) (i := 20) rfl)) rfl
theorem cd_X3_buyEach : Cond.code yX3_buyEach cX3_buyEach 4 none ∈ wsG := wsG_in (tin_3 _ (List.mem_of_getElem? (l := tables_1_3) (i := 167) rfl)) rfl
theorem fl_X3_136 : Cond.fieldLink RX3 136 "StarTrade$Stop" "coinsLeft" "[I" ∈ wsG := wsG_in (tin_2 _ (List.mem_of_getElem? (l := tables_1_2) (i := 54) rfl)) rfl
theorem fl_X3_143 : Cond.fieldLink RX3 143 "StarTrade$World" "ports" "[LStarTrade$Port;" ∈ wsG := wsG_in (tin_1 _ (List.mem_of_getElem? (l := tables_1_1) (i := 125) rfl)) rfl
theorem fl_X3_147 : Cond.fieldLink RX3 147 "StarTrade$Port" "tax" "I" ∈ wsG := wsG_in (tin_1 _ (List.mem_of_getElem? (l := tables_1_1) (i := 79) rfl)) rfl
theorem fl_X3_156 : Cond.fieldLink RX3 156 "StarTrade$Deal" "units" "I" ∈ wsG := wsG_in (tin_1 _ (List.mem_of_getElem? (l := tables_1_1) (i := 214) rfl)) rfl
theorem fl_X3_158 : Cond.fieldLink RX3 158 "StarTrade$Deal" "coins" "I" ∈ wsG := wsG_in (tin_1 _ (List.mem_of_getElem? (l := tables_1_1) (i := 220) rfl)) rfl
theorem fl_X3_159 : Cond.fieldLink RX3 159 "StarTrade$Stop" "stockLeft" "[I" ∈ wsG := wsG_in (tin_2 _ (List.mem_of_getElem? (l := tables_1_2) (i := 56) rfl)) rfl
theorem fl_X3_162 : Cond.fieldLink RX3 162 "StarTrade$Deal" "stock" "I" ∈ wsG := wsG_in (tin_1 _ (List.mem_of_getElem? (l := tables_1_1) (i := 217) rfl)) rfl
theorem ml_X3_139 : Cond.methodLink RX3 139 yX3_stockOf ∈ wsG := wsG_in (tin_3 _ (List.mem_of_getElem? (l := tables_1_3) (i := 168) rfl)) rfl
theorem im_X3_stockOf : Cond.instanceMethod yX3_stockOf ∈ wsG := wsG_in (tin_3 _ (List.mem_of_getElem? (l := tables_1_3) (i := 170) rfl)) rfl
theorem se_X3_stockOf : Cond.selects RX3 yX3_stockOf yX3_stockOf ∈ wsG := wsG_in (List.mem_append_left _ (List.mem_of_getElem? (l := k2_sels lw_privs) (i := 21) rfl)) rfl
theorem cd_X3_stockOf : Cond.code yX3_stockOf cX3_stockOf 3 (some .int) ∈ wsG := wsG_in (tin_3 _ (List.mem_of_getElem? (l := tables_1_3) (i := 171) rfl)) rfl
theorem fl_X3_163 : Cond.fieldLink RX3 163 "StarTrade$World" "calendar" "LStarTrade$Calendar;" ∈ wsG := wsG_in (tin_1 _ (List.mem_of_getElem? (l := tables_1_1) (i := 130) rfl)) rfl
theorem fl_X3_171 : Cond.fieldLink RX3 171 "StarTrade$Flow" "stock" "I" ∈ wsG := wsG_in (tin_1 _ (List.mem_of_getElem? (l := tables_1_1) (i := 182) rfl)) rfl
theorem ml_X3_167 : Cond.methodLink RX3 167 yX2_follow ∈ wsG := wsG_in (tin_3 _ (List.mem_of_getElem? (l := tables_1_3) (i := 172) rfl)) rfl
theorem ml_X3_152 : Cond.methodLink RX3 152 yX1_purchase ∈ wsG := wsG_in (tin_3 _ (List.mem_of_getElem? (l := tables_1_3) (i := 173) rfl)) rfl
theorem ml_X3_110 : Cond.methodLink RX3 110 yX9_openLength ∈ wsG := wsG_in (tin_3 _ (List.mem_of_getElem? (l := tables_1_3) (i := 174) rfl)) rfl
theorem ml_X3_120 : Cond.methodLink RX3 120 yX3_travel ∈ wsG := wsG_in (tin_3 _ (List.mem_of_getElem? (l := tables_1_3) (i := 175) rfl)) rfl
theorem im_X3_travel : Cond.instanceMethod yX3_travel ∈ wsG := wsG_in (tin_3 _ (List.mem_of_getElem? (l := tables_1_3) (i := 177) rfl)) rfl
theorem se_X3_travel : Cond.selects RX3 yX3_travel yX3_travel ∈ wsG := wsG_in (List.mem_append_left _ (List.mem_of_getElem? (l := k2_sels lw_privs) (i := 22) rfl)) rfl
theorem cd_X3_travel : Cond.code yX3_travel cX3_travel 14 none ∈ wsG := wsG_in (tin_3 _ (List.mem_of_getElem? (l := tables_1_3) (i := 178) rfl)) rfl
theorem fl_X3_172 : Cond.fieldLink RX3 172 "StarTrade$World" "fuel" "I" ∈ wsG := wsG_in (tin_1 _ (List.mem_of_getElem? (l := tables_1_1) (i := 139) rfl)) rfl
theorem ml_X3_175 : Cond.methodLink RX3 175 yX3_leave ∈ wsG := wsG_in (tin_3 _ (List.mem_of_getElem? (l := tables_1_3) (i := 179) rfl)) rfl
theorem im_X3_leave : Cond.instanceMethod yX3_leave ∈ wsG := wsG_in (tin_3 _ (List.mem_of_getElem? (l := tables_1_3) (i := 181) rfl)) rfl
theorem se_X3_leave : Cond.selects RX3 yX3_leave yX3_leave ∈ wsG := wsG_in (List.mem_append_left _ (List.mem_of_getElem? (l := k2_sels lw_privs) (i := 23) rfl)) rfl
theorem cd_X3_leave : Cond.code yX3_leave cX3_leave 4 none ∈ wsG := wsG_in (tin_3 _ (List.mem_of_getElem? (l := tables_1_3) (i := 182) rfl)) rfl
theorem ml_X3_179 : Cond.methodLink RX3 179 yX1_sale ∈ wsG := wsG_in (tin_3 _ (List.mem_of_getElem? (l := tables_1_3) (i := 183) rfl)) rfl
theorem ml_L_90 : Cond.methodLink RL 90 yX11_plan ∈ wsG := wsG_in (tin_4 _ (List.mem_of_getElem? (l := tables_1_4) (i := 229) rfl)) rfl
theorem im_X11_plan : Cond.instanceMethod yX11_plan ∈ wsG := wsG_in (tin_4 _ (List.mem_of_getElem? (l := tables_1_4) (i := 230) rfl)) rfl
theorem se_X11_plan : Cond.selects RX11 yX11_plan yX11_plan ∈ wsG := wsG_in (tin_4 _ (List.mem_of_getElem? (l := tables_1_4) (i := 231) rfl)) rfl
theorem cd_X11_plan : Cond.code yX11_plan cX11_plan 10 (some .int) ∈ wsG := wsG_in (tin_4 _ (List.mem_of_getElem? (l := tables_1_4) (i := 232) rfl)) rfl
theorem fl_X11_209 : Cond.fieldLink RX11 209 "StarTradeModel" "thenNow" "I" ∈ wsG := wsG_in (tin_3 _ (List.mem_of_getElem? (l := tables_1_3) (i := 232) rfl)) rfl
theorem fl_X11_215 : Cond.fieldLink RX11 215 "StarTradeModel" "thenCoins" "I" ∈ wsG := wsG_in (tin_3 _ (List.mem_of_getElem? (l := tables_1_3) (i := 233) rfl)) rfl
theorem fl_X11_212 : Cond.fieldLink RX11 212 "StarTradeModel" "thenAt" "I" ∈ wsG := wsG_in (tin_3 _ (List.mem_of_getElem? (l := tables_1_3) (i := 234) rfl)) rfl
theorem fl_X11_225 : Cond.fieldLink RX11 225 "StarTradeModel" "planMany" "I" ∈ wsG := wsG_in (tin_3 _ (List.mem_of_getElem? (l := tables_1_3) (i := 239) rfl)) rfl
theorem ml_X11_221 : Cond.methodLink RX11 221 yX11_trip ∈ wsG := wsG_in (tin_4 _ (List.mem_of_getElem? (l := tables_1_4) (i := 233) rfl)) rfl
theorem im_X11_trip : Cond.instanceMethod yX11_trip ∈ wsG := wsG_in (tin_4 _ (List.mem_of_getElem? (l := tables_1_4) (i := 235) rfl)) rfl
theorem se_X11_trip : Cond.selects RX11 yX11_trip yX11_trip ∈ wsG := wsG_in (List.mem_append_left _ (List.mem_of_getElem? (l := k2_sels lw_privs) (i := 36) rfl)) rfl
theorem cd_X11_trip : Cond.code yX11_trip cX11_trip 8 (some .boolean) ∈ wsG := wsG_in (tin_4 _ (List.mem_of_getElem? (l := tables_1_4) (i := 236) rfl)) rfl
theorem ml_X11_218 : Cond.methodLink RX11 218 yX11_tickThen ∈ wsG := wsG_in (tin_4 _ (List.mem_of_getElem? (l := tables_1_4) (i := 237) rfl)) rfl
theorem im_X11_tickThen : Cond.instanceMethod yX11_tickThen ∈ wsG := wsG_in (tin_4 _ (List.mem_of_getElem? (l := tables_1_4) (i := 239) rfl)) rfl
theorem se_X11_tickThen : Cond.selects RX11 yX11_tickThen yX11_tickThen ∈ wsG := wsG_in (List.mem_append_left _ (List.mem_of_getElem? (l := k2_sels lw_privs) (i := 37) rfl)) rfl
theorem cd_X11_tickThen : Cond.code yX11_tickThen cX11_tickThen 3 none ∈ wsG := wsG_in (tin_5 _ (List.mem_of_getElem? (l := tables_1_5) (i := 0) rfl)) rfl
theorem ml_L_91 : Cond.methodLink RL 91 yX10_planned ∈ wsG := wsG_in (tin_3 _ (List.mem_of_getElem? (l := tables_1_3) (i := 184) rfl)) rfl
theorem im_X10_planned : Cond.instanceMethod yX10_planned ∈ wsG := wsG_in (tin_3 _ (List.mem_of_getElem? (l := tables_1_3) (i := 185) rfl)) rfl
theorem se_X10_planned : Cond.selects RX10 yX10_planned yX10_planned ∈ wsG := wsG_in (tin_3 _ (List.mem_of_getElem? (l := tables_1_3) (i := 186) rfl)) rfl
theorem cd_X10_planned : Cond.code yX10_planned cX10_planned 3 (some .int) ∈ wsG := wsG_in (tin_3 _ (List.mem_of_getElem? (l := tables_1_3) (i := 187) rfl)) rfl
theorem fl_X10_251 : Cond.fieldLink RX10 251 "StarTrade$PlanSearch" "foundTrips" "I" ∈ wsG := wsG_in (tin_2 _ (List.mem_of_getElem? (l := tables_1_2) (i := 90) rfl)) rfl
theorem fl_X10_254 : Cond.fieldLink RX10 254 "StarTrade$PlanSearch" "bestPorts" "[I" ∈ wsG := wsG_in (tin_2 _ (List.mem_of_getElem? (l := tables_1_2) (i := 84) rfl)) rfl
theorem fl_X10_257 : Cond.fieldLink RX10 257 "StarTrade$PlanSearch" "bestGoods" "[I" ∈ wsG := wsG_in (tin_2 _ (List.mem_of_getElem? (l := tables_1_2) (i := 86) rfl)) rfl
theorem ml_L_94 : Cond.methodLink RL 94 yX11_planned ∈ wsG := wsG_in (tin_5 _ (List.mem_of_getElem? (l := tables_1_5) (i := 1) rfl)) rfl
theorem im_X11_planned : Cond.instanceMethod yX11_planned ∈ wsG := wsG_in (tin_5 _ (List.mem_of_getElem? (l := tables_1_5) (i := 2) rfl)) rfl
theorem se_X11_planned : Cond.selects RX11 yX11_planned yX11_planned ∈ wsG := wsG_in (tin_5 _ (List.mem_of_getElem? (l := tables_1_5) (i := 3) rfl)) rfl
theorem cd_X11_planned : Cond.code yX11_planned cX11_planned 3 (some .int) ∈ wsG := wsG_in (tin_5 _ (List.mem_of_getElem? (l := tables_1_5) (i := 4) rfl)) rfl
theorem ml_L_95 : Cond.methodLink RL 95 yX10_starves ∈ wsG := wsG_in (tin_3 _ (List.mem_of_getElem? (l := tables_1_3) (i := 188) rfl)) rfl
theorem im_X10_starves : Cond.instanceMethod yX10_starves ∈ wsG := wsG_in (tin_3 _ (List.mem_of_getElem? (l := tables_1_3) (i := 189) rfl)) rfl
theorem se_X10_starves : Cond.selects RX10 yX10_starves yX10_starves ∈ wsG := wsG_in (tin_3 _ (List.mem_of_getElem? (l := tables_1_3) (i := 190) rfl)) rfl
theorem cd_X10_starves : Cond.code yX10_starves cX10_starves 5 (some .int) ∈ wsG := wsG_in (tin_3 _ (List.mem_of_getElem? (l := tables_1_3) (i := 191) rfl)) rfl
theorem fl_X10_264 : Cond.fieldLink RX10 264 "StarTrade$Flow" "firstLack" "I" ∈ wsG := wsG_in (tin_1 _ (List.mem_of_getElem? (l := tables_1_1) (i := 193) rfl)) rfl
theorem ml_L_98 : Cond.methodLink RL 98 yX11_starves ∈ wsG := wsG_in (tin_5 _ (List.mem_of_getElem? (l := tables_1_5) (i := 5) rfl)) rfl
theorem im_X11_starves : Cond.instanceMethod yX11_starves ∈ wsG := wsG_in (tin_5 _ (List.mem_of_getElem? (l := tables_1_5) (i := 6) rfl)) rfl
theorem se_X11_starves : Cond.selects RX11 yX11_starves yX11_starves ∈ wsG := wsG_in (tin_5 _ (List.mem_of_getElem? (l := tables_1_5) (i := 7) rfl)) rfl
theorem cd_X11_starves : Cond.code yX11_starves cX11_starves 8 (some .int) ∈ wsG := wsG_in (tin_5 _ (List.mem_of_getElem? (l := tables_1_5) (i := 8) rfl)) rfl
theorem lay_X0 : ∀ k, k < 4 → u_lay RX0 TX0 k ∈ wsG
  | 0, _ => wsG_in (tin_1 _ (List.mem_of_getElem? (l := tables_1_1) (i := 112) rfl)) rfl
  | 1, _ => wsG_in (tin_1 _ (List.mem_of_getElem? (l := tables_1_1) (i := 114) rfl)) rfl
  | 2, _ => wsG_in (tin_1 _ (List.mem_of_getElem? (l := tables_1_1) (i := 116) rfl)) rfl
  | 3, _ => wsG_in (tin_1 _ (List.mem_of_getElem? (l := tables_1_1) (i := 118) rfl)) rfl
  | k + 4, h => absurd h (by omega)
theorem inlX0 : ∀ w ∈ wsX00, w ∈ wsG := fun w hw => by
  obtain ⟨k, hk, rfl⟩ := List.mem_map.mp hw
  exact lay_X0 k (List.mem_range.mp hk)
theorem lay_X1 : ∀ k, k < 5 → u_lay RX1 TX1 k ∈ wsG
  | 0, _ => wsG_in (tin_1 _ (List.mem_of_getElem? (l := tables_1_1) (i := 226) rfl)) rfl
  | 1, _ => wsG_in (tin_1 _ (List.mem_of_getElem? (l := tables_1_1) (i := 228) rfl)) rfl
  | 2, _ => wsG_in (tin_1 _ (List.mem_of_getElem? (l := tables_1_1) (i := 230) rfl)) rfl
  | 3, _ => wsG_in (tin_1 _ (List.mem_of_getElem? (l := tables_1_1) (i := 232) rfl)) rfl
  | 4, _ => wsG_in (tin_1 _ (List.mem_of_getElem? (l := tables_1_1) (i := 234) rfl)) rfl
  | k + 5, h => absurd h (by omega)
theorem inlX1 : ∀ w ∈ wsX10, w ∈ wsG := fun w hw => by
  obtain ⟨k, hk, rfl⟩ := List.mem_map.mp hw
  exact lay_X1 k (List.mem_range.mp hk)
theorem lay_X2 : ∀ k, k < 6 → u_lay RX2 TX2 k ∈ wsG
  | 0, _ => wsG_in (tin_1 _ (List.mem_of_getElem? (l := tables_1_1) (i := 194) rfl)) rfl
  | 1, _ => wsG_in (tin_1 _ (List.mem_of_getElem? (l := tables_1_1) (i := 196) rfl)) rfl
  | 2, _ => wsG_in (tin_1 _ (List.mem_of_getElem? (l := tables_1_1) (i := 198) rfl)) rfl
  | 3, _ => wsG_in (tin_1 _ (List.mem_of_getElem? (l := tables_1_1) (i := 200) rfl)) rfl
  | 4, _ => wsG_in (tin_1 _ (List.mem_of_getElem? (l := tables_1_1) (i := 202) rfl)) rfl
  | 5, _ => wsG_in (tin_1 _ (List.mem_of_getElem? (l := tables_1_1) (i := 204) rfl)) rfl
  | k + 6, h => absurd h (by omega)
theorem inlX2 : ∀ w ∈ wsX20, w ∈ wsG := fun w hw => by
  obtain ⟨k, hk, rfl⟩ := List.mem_map.mp hw
  exact lay_X2 k (List.mem_range.mp hk)
theorem lay_X3 : ∀ k, k < 15 → u_lay RX3 TX3 k ∈ wsG
  | 0, _ => wsG_in (tin_2 _ (List.mem_of_getElem? (l := tables_1_2) (i := 91) rfl)) rfl
  | 1, _ => wsG_in (tin_2 _ (List.mem_of_getElem? (l := tables_1_2) (i := 93) rfl)) rfl
  | 2, _ => wsG_in (tin_2 _ (List.mem_of_getElem? (l := tables_1_2) (i := 95) rfl)) rfl
  | 3, _ => wsG_in (tin_2 _ (List.mem_of_getElem? (l := tables_1_2) (i := 97) rfl)) rfl
  | 4, _ => wsG_in (tin_2 _ (List.mem_of_getElem? (l := tables_1_2) (i := 99) rfl)) rfl
  | 5, _ => wsG_in (tin_2 _ (List.mem_of_getElem? (l := tables_1_2) (i := 101) rfl)) rfl
  | 6, _ => wsG_in (tin_2 _ (List.mem_of_getElem? (l := tables_1_2) (i := 103) rfl)) rfl
  | 7, _ => wsG_in (tin_2 _ (List.mem_of_getElem? (l := tables_1_2) (i := 105) rfl)) rfl
  | 8, _ => wsG_in (tin_2 _ (List.mem_of_getElem? (l := tables_1_2) (i := 107) rfl)) rfl
  | 9, _ => wsG_in (tin_2 _ (List.mem_of_getElem? (l := tables_1_2) (i := 109) rfl)) rfl
  | 10, _ => wsG_in (tin_2 _ (List.mem_of_getElem? (l := tables_1_2) (i := 111) rfl)) rfl
  | 11, _ => wsG_in (tin_2 _ (List.mem_of_getElem? (l := tables_1_2) (i := 113) rfl)) rfl
  | 12, _ => wsG_in (tin_2 _ (List.mem_of_getElem? (l := tables_1_2) (i := 115) rfl)) rfl
  | 13, _ => wsG_in (tin_2 _ (List.mem_of_getElem? (l := tables_1_2) (i := 117) rfl)) rfl
  | 14, _ => wsG_in (tin_2 _ (List.mem_of_getElem? (l := tables_1_2) (i := 119) rfl)) rfl
  | k + 15, h => absurd h (by omega)
theorem inlX3 : ∀ w ∈ wsX30, w ∈ wsG := fun w hw => by
  obtain ⟨k, hk, rfl⟩ := List.mem_map.mp hw
  exact lay_X3 k (List.mem_range.mp hk)
theorem lay_X4 : ∀ k, k < 5 → u_lay RX4 TX4 k ∈ wsG
  | 0, _ => wsG_in (tin_1 _ (List.mem_of_getElem? (l := tables_1_1) (i := 84) rfl)) rfl
  | 1, _ => wsG_in (tin_1 _ (List.mem_of_getElem? (l := tables_1_1) (i := 86) rfl)) rfl
  | 2, _ => wsG_in (tin_1 _ (List.mem_of_getElem? (l := tables_1_1) (i := 88) rfl)) rfl
  | 3, _ => wsG_in (tin_1 _ (List.mem_of_getElem? (l := tables_1_1) (i := 90) rfl)) rfl
  | 4, _ => wsG_in (tin_1 _ (List.mem_of_getElem? (l := tables_1_1) (i := 92) rfl)) rfl
  | k + 5, h => absurd h (by omega)
theorem inlX4 : ∀ w ∈ wsX40, w ∈ wsG := fun w hw => by
  obtain ⟨k, hk, rfl⟩ := List.mem_map.mp hw
  exact lay_X4 k (List.mem_range.mp hk)
theorem lay_X5 : ∀ k, k < 7 → u_lay RX5 TX5 k ∈ wsG
  | 0, _ => wsG_in (tin_2 _ (List.mem_of_getElem? (l := tables_1_2) (i := 15) rfl)) rfl
  | 1, _ => wsG_in (tin_2 _ (List.mem_of_getElem? (l := tables_1_2) (i := 17) rfl)) rfl
  | 2, _ => wsG_in (tin_2 _ (List.mem_of_getElem? (l := tables_1_2) (i := 19) rfl)) rfl
  | 3, _ => wsG_in (tin_2 _ (List.mem_of_getElem? (l := tables_1_2) (i := 21) rfl)) rfl
  | 4, _ => wsG_in (tin_2 _ (List.mem_of_getElem? (l := tables_1_2) (i := 23) rfl)) rfl
  | 5, _ => wsG_in (tin_2 _ (List.mem_of_getElem? (l := tables_1_2) (i := 25) rfl)) rfl
  | 6, _ => wsG_in (tin_2 _ (List.mem_of_getElem? (l := tables_1_2) (i := 27) rfl)) rfl
  | k + 7, h => absurd h (by omega)
theorem inlX5 : ∀ w ∈ wsX50, w ∈ wsG := fun w hw => by
  obtain ⟨k, hk, rfl⟩ := List.mem_map.mp hw
  exact lay_X5 k (List.mem_range.mp hk)
theorem lay_X6 : ∀ k, k < 7 → u_lay RX6 TX6 k ∈ wsG
  | 0, _ => wsG_in (tin_1 _ (List.mem_of_getElem? (l := tables_1_1) (i := 59) rfl)) rfl
  | 1, _ => wsG_in (tin_1 _ (List.mem_of_getElem? (l := tables_1_1) (i := 61) rfl)) rfl
  | 2, _ => wsG_in (tin_1 _ (List.mem_of_getElem? (l := tables_1_1) (i := 63) rfl)) rfl
  | 3, _ => wsG_in (tin_1 _ (List.mem_of_getElem? (l := tables_1_1) (i := 65) rfl)) rfl
  | 4, _ => wsG_in (tin_1 _ (List.mem_of_getElem? (l := tables_1_1) (i := 67) rfl)) rfl
  | 5, _ => wsG_in (tin_1 _ (List.mem_of_getElem? (l := tables_1_1) (i := 69) rfl)) rfl
  | 6, _ => wsG_in (tin_1 _ (List.mem_of_getElem? (l := tables_1_1) (i := 71) rfl)) rfl
  | k + 7, h => absurd h (by omega)
theorem inlX6 : ∀ w ∈ wsX60, w ∈ wsG := fun w hw => by
  obtain ⟨k, hk, rfl⟩ := List.mem_map.mp hw
  exact lay_X6 k (List.mem_range.mp hk)
theorem lay_X7 : ∀ k, k < 4 → u_lay RX7 TX7 k ∈ wsG
  | 0, _ => wsG_in (tin_1 _ (List.mem_of_getElem? (l := tables_1_1) (i := 166) rfl)) rfl
  | 1, _ => wsG_in (tin_1 _ (List.mem_of_getElem? (l := tables_1_1) (i := 168) rfl)) rfl
  | 2, _ => wsG_in (tin_1 _ (List.mem_of_getElem? (l := tables_1_1) (i := 170) rfl)) rfl
  | 3, _ => wsG_in (tin_1 _ (List.mem_of_getElem? (l := tables_1_1) (i := 172) rfl)) rfl
  | k + 4, h => absurd h (by omega)
theorem inlX7 : ∀ w ∈ wsX70, w ∈ wsG := fun w hw => by
  obtain ⟨k, hk, rfl⟩ := List.mem_map.mp hw
  exact lay_X7 k (List.mem_range.mp hk)
theorem lay_X8 : ∀ k, k < 7 → u_lay RX8 TX8 k ∈ wsG
  | 0, _ => wsG_in (tin_2 _ (List.mem_of_getElem? (l := tables_1_2) (i := 57) rfl)) rfl
  | 1, _ => wsG_in (tin_2 _ (List.mem_of_getElem? (l := tables_1_2) (i := 59) rfl)) rfl
  | 2, _ => wsG_in (tin_2 _ (List.mem_of_getElem? (l := tables_1_2) (i := 61) rfl)) rfl
  | 3, _ => wsG_in (tin_2 _ (List.mem_of_getElem? (l := tables_1_2) (i := 63) rfl)) rfl
  | 4, _ => wsG_in (tin_2 _ (List.mem_of_getElem? (l := tables_1_2) (i := 65) rfl)) rfl
  | 5, _ => wsG_in (tin_2 _ (List.mem_of_getElem? (l := tables_1_2) (i := 67) rfl)) rfl
  | 6, _ => wsG_in (tin_2 _ (List.mem_of_getElem? (l := tables_1_2) (i := 69) rfl)) rfl
  | k + 7, h => absurd h (by omega)
theorem inlX8 : ∀ w ∈ wsX80, w ∈ wsG := fun w hw => by
  obtain ⟨k, hk, rfl⟩ := List.mem_map.mp hw
  exact lay_X8 k (List.mem_range.mp hk)
theorem lay_X9 : ∀ k, k < 6 → u_lay RX9 TX9 k ∈ wsG
  | 0, _ => wsG_in (tin_1 _ (List.mem_of_getElem? (l := tables_1_1) (i := 141) rfl)) rfl
  | 1, _ => wsG_in (tin_1 _ (List.mem_of_getElem? (l := tables_1_1) (i := 143) rfl)) rfl
  | 2, _ => wsG_in (tin_1 _ (List.mem_of_getElem? (l := tables_1_1) (i := 145) rfl)) rfl
  | 3, _ => wsG_in (tin_1 _ (List.mem_of_getElem? (l := tables_1_1) (i := 147) rfl)) rfl
  | 4, _ => wsG_in (tin_1 _ (List.mem_of_getElem? (l := tables_1_1) (i := 149) rfl)) rfl
  | 5, _ => wsG_in (tin_1 _ (List.mem_of_getElem? (l := tables_1_1) (i := 151) rfl)) rfl
  | k + 6, h => absurd h (by omega)
theorem inlX9 : ∀ w ∈ wsX90, w ∈ wsG := fun w hw => by
  obtain ⟨k, hk, rfl⟩ := List.mem_map.mp hw
  exact lay_X9 k (List.mem_range.mp hk)
theorem lay_X10 : ∀ k, k < 12 → u_lay RX10 TX10 k ∈ wsG
  | 0, _ => wsG_in (tin_2 _ (List.mem_of_getElem? (l := tables_1_2) (i := 134) rfl)) rfl
  | 1, _ => wsG_in (tin_2 _ (List.mem_of_getElem? (l := tables_1_2) (i := 136) rfl)) rfl
  | 2, _ => wsG_in (tin_2 _ (List.mem_of_getElem? (l := tables_1_2) (i := 138) rfl)) rfl
  | 3, _ => wsG_in (tin_2 _ (List.mem_of_getElem? (l := tables_1_2) (i := 140) rfl)) rfl
  | 4, _ => wsG_in (tin_2 _ (List.mem_of_getElem? (l := tables_1_2) (i := 142) rfl)) rfl
  | 5, _ => wsG_in (tin_2 _ (List.mem_of_getElem? (l := tables_1_2) (i := 144) rfl)) rfl
  | 6, _ => wsG_in (tin_2 _ (List.mem_of_getElem? (l := tables_1_2) (i := 146) rfl)) rfl
  | 7, _ => wsG_in (tin_2 _ (List.mem_of_getElem? (l := tables_1_2) (i := 148) rfl)) rfl
  | 8, _ => wsG_in (tin_2 _ (List.mem_of_getElem? (l := tables_1_2) (i := 150) rfl)) rfl
  | 9, _ => wsG_in (tin_2 _ (List.mem_of_getElem? (l := tables_1_2) (i := 152) rfl)) rfl
  | 10, _ => wsG_in (tin_2 _ (List.mem_of_getElem? (l := tables_1_2) (i := 154) rfl)) rfl
  | 11, _ => wsG_in (tin_2 _ (List.mem_of_getElem? (l := tables_1_2) (i := 156) rfl)) rfl
  | k + 12, h => absurd h (by omega)
theorem inlX10 : ∀ w ∈ wsX100, w ∈ wsG := fun w hw => by
  obtain ⟨k, hk, rfl⟩ := List.mem_map.mp hw
  exact lay_X10 k (List.mem_range.mp hk)
theorem lay_X11 : ∀ k, k < 42 → u_lay RX11 TX11 k ∈ wsG
  | 0, _ => wsG_in (tin_4 _ (List.mem_of_getElem? (l := tables_1_4) (i := 0) rfl)) rfl
  | 1, _ => wsG_in (tin_4 _ (List.mem_of_getElem? (l := tables_1_4) (i := 2) rfl)) rfl
  | 2, _ => wsG_in (tin_4 _ (List.mem_of_getElem? (l := tables_1_4) (i := 4) rfl)) rfl
  | 3, _ => wsG_in (tin_4 _ (List.mem_of_getElem? (l := tables_1_4) (i := 6) rfl)) rfl
  | 4, _ => wsG_in (tin_4 _ (List.mem_of_getElem? (l := tables_1_4) (i := 8) rfl)) rfl
  | 5, _ => wsG_in (tin_4 _ (List.mem_of_getElem? (l := tables_1_4) (i := 10) rfl)) rfl
  | 6, _ => wsG_in (tin_4 _ (List.mem_of_getElem? (l := tables_1_4) (i := 12) rfl)) rfl
  | 7, _ => wsG_in (tin_4 _ (List.mem_of_getElem? (l := tables_1_4) (i := 14) rfl)) rfl
  | 8, _ => wsG_in (tin_4 _ (List.mem_of_getElem? (l := tables_1_4) (i := 16) rfl)) rfl
  | 9, _ => wsG_in (tin_4 _ (List.mem_of_getElem? (l := tables_1_4) (i := 18) rfl)) rfl
  | 10, _ => wsG_in (tin_4 _ (List.mem_of_getElem? (l := tables_1_4) (i := 20) rfl)) rfl
  | 11, _ => wsG_in (tin_4 _ (List.mem_of_getElem? (l := tables_1_4) (i := 22) rfl)) rfl
  | 12, _ => wsG_in (tin_4 _ (List.mem_of_getElem? (l := tables_1_4) (i := 24) rfl)) rfl
  | 13, _ => wsG_in (tin_4 _ (List.mem_of_getElem? (l := tables_1_4) (i := 26) rfl)) rfl
  | 14, _ => wsG_in (tin_4 _ (List.mem_of_getElem? (l := tables_1_4) (i := 28) rfl)) rfl
  | 15, _ => wsG_in (tin_4 _ (List.mem_of_getElem? (l := tables_1_4) (i := 30) rfl)) rfl
  | 16, _ => wsG_in (tin_4 _ (List.mem_of_getElem? (l := tables_1_4) (i := 32) rfl)) rfl
  | 17, _ => wsG_in (tin_4 _ (List.mem_of_getElem? (l := tables_1_4) (i := 34) rfl)) rfl
  | 18, _ => wsG_in (tin_4 _ (List.mem_of_getElem? (l := tables_1_4) (i := 36) rfl)) rfl
  | 19, _ => wsG_in (tin_4 _ (List.mem_of_getElem? (l := tables_1_4) (i := 38) rfl)) rfl
  | 20, _ => wsG_in (tin_4 _ (List.mem_of_getElem? (l := tables_1_4) (i := 40) rfl)) rfl
  | 21, _ => wsG_in (tin_4 _ (List.mem_of_getElem? (l := tables_1_4) (i := 42) rfl)) rfl
  | 22, _ => wsG_in (tin_4 _ (List.mem_of_getElem? (l := tables_1_4) (i := 44) rfl)) rfl
  | 23, _ => wsG_in (tin_4 _ (List.mem_of_getElem? (l := tables_1_4) (i := 46) rfl)) rfl
  | 24, _ => wsG_in (tin_4 _ (List.mem_of_getElem? (l := tables_1_4) (i := 48) rfl)) rfl
  | 25, _ => wsG_in (tin_4 _ (List.mem_of_getElem? (l := tables_1_4) (i := 50) rfl)) rfl
  | 26, _ => wsG_in (tin_4 _ (List.mem_of_getElem? (l := tables_1_4) (i := 52) rfl)) rfl
  | 27, _ => wsG_in (tin_4 _ (List.mem_of_getElem? (l := tables_1_4) (i := 54) rfl)) rfl
  | 28, _ => wsG_in (tin_4 _ (List.mem_of_getElem? (l := tables_1_4) (i := 56) rfl)) rfl
  | 29, _ => wsG_in (tin_4 _ (List.mem_of_getElem? (l := tables_1_4) (i := 58) rfl)) rfl
  | 30, _ => wsG_in (tin_4 _ (List.mem_of_getElem? (l := tables_1_4) (i := 60) rfl)) rfl
  | 31, _ => wsG_in (tin_4 _ (List.mem_of_getElem? (l := tables_1_4) (i := 62) rfl)) rfl
  | 32, _ => wsG_in (tin_4 _ (List.mem_of_getElem? (l := tables_1_4) (i := 64) rfl)) rfl
  | 33, _ => wsG_in (tin_4 _ (List.mem_of_getElem? (l := tables_1_4) (i := 66) rfl)) rfl
  | 34, _ => wsG_in (tin_4 _ (List.mem_of_getElem? (l := tables_1_4) (i := 68) rfl)) rfl
  | 35, _ => wsG_in (tin_4 _ (List.mem_of_getElem? (l := tables_1_4) (i := 70) rfl)) rfl
  | 36, _ => wsG_in (tin_4 _ (List.mem_of_getElem? (l := tables_1_4) (i := 72) rfl)) rfl
  | 37, _ => wsG_in (tin_4 _ (List.mem_of_getElem? (l := tables_1_4) (i := 74) rfl)) rfl
  | 38, _ => wsG_in (tin_4 _ (List.mem_of_getElem? (l := tables_1_4) (i := 76) rfl)) rfl
  | 39, _ => wsG_in (tin_4 _ (List.mem_of_getElem? (l := tables_1_4) (i := 78) rfl)) rfl
  | 40, _ => wsG_in (tin_4 _ (List.mem_of_getElem? (l := tables_1_4) (i := 80) rfl)) rfl
  | 41, _ => wsG_in (tin_4 _ (List.mem_of_getElem? (l := tables_1_4) (i := 82) rfl)) rfl
  | k + 42, h => absurd h (by omega)
theorem inlX11 : ∀ w ∈ wsX110, w ∈ wsG := fun w hw => by
  obtain ⟨k, hk, rfl⟩ := List.mem_map.mp hw
  exact lay_X11 k (List.mem_range.mp hk)
