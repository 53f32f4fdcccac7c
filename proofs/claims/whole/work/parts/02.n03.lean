def wsL_law_r34 : List Cond := [Cond.fieldLink RX10 308 "WitnessWallModel" "keptSeen" "I", Cond.methodLink RL 107 yX9_restore, Cond.instanceMethod yX9_restore, Cond.selects RX9 yX9_restore yX9_restore, Cond.code yX9_restore cX9_restore 1 (some .int), Cond.methodLink RL 110 yX10_restore, Cond.instanceMethod yX10_restore, Cond.selects RX10 yX10_restore yX10_restore, Cond.code yX10_restore cX10_restore 2 (some .int), Cond.methodLink RL 111 yX9_count, Cond.instanceMethod yX9_count, Cond.selects RX9 yX9_count yX9_count, Cond.code yX9_count cX9_count 2 (some .int), Cond.methodLink RX9 217 yX1_unlikeSights, Cond.instanceMethod yX1_unlikeSights, Cond.selects RX1 yX1_unlikeSights yX1_unlikeSights, Cond.code yX1_unlikeSights cX1_unlikeSights 3 (some .int), Cond.methodLink RX1 38 yX1_havingSight, Cond.methodLink RL 114 yX10_count, Cond.instanceMethod yX10_count, Cond.selects RX10 yX10_count yX10_count, Cond.code yX10_count cX10_count 2 (some .int), Cond.methodLink RX10 314 yX10_howMany, Cond.instanceMethod yX10_howMany]
def wsL_law_r35 : List Cond := [Cond.selects RX10 yX10_howMany yX10_howMany, Cond.code yX10_howMany cX10_howMany 2 (some .int), Cond.methodLink RX10 311 yX10_sightsOfAll, Cond.instanceMethod yX10_sightsOfAll, Cond.selects RX10 yX10_sightsOfAll yX10_sightsOfAll, Cond.code yX10_sightsOfAll cX10_sightsOfAll 4 (some .int), Cond.methodLink RL 115 yX9_digest, Cond.instanceMethod yX9_digest, Cond.selects RX9 yX9_digest yX9_digest, Cond.code yX9_digest cX9_digest 5 (some .long), Cond.constantLong RX9 220 (1361), Cond.constantLong RX9 222 (31), Cond.methodLink RX9 224 yX9_witness, Cond.methodLink RX9 227 yX9_said, Cond.methodLink RX9 230 yX9_term, Cond.methodLink RX9 233 yX9_keep, Cond.methodLink RX9 236 yX9_peace, Cond.methodLink RX9 239 yX9_worlds, Cond.methodLink RX9 246 yX9_count, Cond.methodLink RL 119 yX10_digest, Cond.instanceMethod yX10_digest, Cond.selects RX10 yX10_digest yX10_digest, Cond.code yX10_digest cX10_digest 3 (some .long), Cond.constantLong RX10 326 (1361)]
def wsL_law_r36 : List Cond := [Cond.fieldLink RX10 319 "WitnessWallModel" "h" "J", Cond.methodLink RX10 322 yX10_mix, Cond.instanceMethod yX10_mix, Cond.selects RX10 yX10_mix yX10_mix, Cond.code yX10_mix cX10_mix 3 none, Cond.constantLong RX10 317 (31), Cond.methodLink RX10 328 yX10_mixWall, Cond.instanceMethod yX10_mixWall, Cond.selects RX10 yX10_mixWall yX10_mixWall, Cond.code yX10_mixWall cX10_mixWall 2 none]
def wsL_law : List Cond := (wsL_law_r1 ++ (wsL_law_r2 ++ (wsL_law_r3 ++ (wsL_law_r4 ++ (wsL_law_r5 ++ (wsL_law_r6 ++ (wsL_law_r7 ++ (wsL_law_r8 ++ (wsL_law_r9 ++ (wsL_law_r10 ++ (wsL_law_r11 ++ (wsL_law_r12 ++ (wsL_law_r13 ++ (wsL_law_r14 ++ (wsL_law_r15 ++ (wsL_law_r16 ++ (wsL_law_r17 ++ (wsL_law_r18 ++ (wsL_law_r19 ++ (wsL_law_r20 ++ (wsL_law_r21 ++ (wsL_law_r22 ++ (wsL_law_r23 ++ (wsL_law_r24 ++ (wsL_law_r25 ++ (wsL_law_r26 ++ (wsL_law_r27 ++ (wsL_law_r28 ++ (wsL_law_r29 ++ (wsL_law_r30 ++ (wsL_law_r31 ++ (wsL_law_r32 ++ (wsL_law_r33 ++ (wsL_law_r34 ++ (wsL_law_r35 ++ wsL_law_r36))))))))))))))))))))))))))))))))))) ++ wsX90 ++ wsX100 ++ wsX20 ++ wsX00 ++ wsX30 ++ wsX10 ++ wsX60 ++ wsX80 ++ wsX70 ++ wsX50 ++ wsX40 ++ ([] : List Cond)
set_option maxRecDepth 20000 in
theorem wsL_law_in : ∀ w ∈ wsL_law, w ∈ lw_tbl := fun w h => (goodIn_p wsL_law [61, 64, 69, 75, 82, 118, 164, 172, 193, 230, 243, 677, 283, 286, 290, 828, 831, 294, 835, 298, 302, 306, 310, 316, 320, 324, 328, 331, 335, 338, 342, 345, 349, 353, 357, 361, 366, 370, 839, 843, 847, 851, 854, 858, 862, 866, 870, 874, 878, 374, 378, 382, 386, 390, 394, 882, 398, 402, 406, 410, 414, 420, 428, 432, 436, 886, 890, 894, 898, 901, 905, 909, 912, 916, 920, 924, 928, 440, 444, 932, 448, 936, 454, 458, 462, 466, 470, 940, 944, 948, 474, 479, 952, 955, 959, 484, 488, 963, 967, 970, 973, 494, 977, 498, 502, 981, 506, 985, 510, 515, 519, 525, 531, 535, 540, 544, 548, 989, 993, 997, 1001, 1005, 1009, 1013, 552, 556, 562, 1017, 1021, 1025, 568, 572, 576, 1029, 1033, 1037, 580, 584, 588, 592, 596, 1041, 1045, 1049, 1053, 601, 604, 1057, 1061, 1064, 608, 612, 1068, 616, 1072, 620, 623, 628, 1076, 1080, 1084, 634, 638, 642, 646, 1092, 650, 1096, 654, 658, 1100, 1104, 1108, 663, 1112, 1117, 1122] (by decide +kernel) (by decide +kernel) w h).1
theorem inlX0 : ∀ w ∈ wsX00, w ∈ wsL_law := fun _ h => List.mem_append_left _ (List.mem_append_left _ (List.mem_append_left _ (List.mem_append_left _ (List.mem_append_left _ (List.mem_append_left _ (List.mem_append_left _ (List.mem_append_left _ (List.mem_append_right _ h))))))))
theorem inX0 : ∀ w ∈ wsX00, w ∈ lw_tbl := fun w h => wsL_law_in w (inlX0 w h)
theorem inlX1 : ∀ w ∈ wsX10, w ∈ wsL_law := fun _ h => List.mem_append_left _ (List.mem_append_left _ (List.mem_append_left _ (List.mem_append_left _ (List.mem_append_left _ (List.mem_append_left _ (List.mem_append_right _ h))))))
theorem inX1 : ∀ w ∈ wsX10, w ∈ lw_tbl := fun w h => wsL_law_in w (inlX1 w h)
theorem inlX2 : ∀ w ∈ wsX20, w ∈ wsL_law := fun _ h => List.mem_append_left _ (List.mem_append_left _ (List.mem_append_left _ (List.mem_append_left _ (List.mem_append_left _ (List.mem_append_left _ (List.mem_append_left _ (List.mem_append_left _ (List.mem_append_left _ (List.mem_append_right _ h)))))))))
theorem inX2 : ∀ w ∈ wsX20, w ∈ lw_tbl := fun w h => wsL_law_in w (inlX2 w h)
theorem inlX3 : ∀ w ∈ wsX30, w ∈ wsL_law := fun _ h => List.mem_append_left _ (List.mem_append_left _ (List.mem_append_left _ (List.mem_append_left _ (List.mem_append_left _ (List.mem_append_left _ (List.mem_append_left _ (List.mem_append_right _ h)))))))
theorem inX3 : ∀ w ∈ wsX30, w ∈ lw_tbl := fun w h => wsL_law_in w (inlX3 w h)
theorem inlX4 : ∀ w ∈ wsX40, w ∈ wsL_law := fun _ h => List.mem_append_left _ (List.mem_append_right _ h)
theorem inX4 : ∀ w ∈ wsX40, w ∈ lw_tbl := fun w h => wsL_law_in w (inlX4 w h)
theorem inlX5 : ∀ w ∈ wsX50, w ∈ wsL_law := fun _ h => List.mem_append_left _ (List.mem_append_left _ (List.mem_append_right _ h))
theorem inX5 : ∀ w ∈ wsX50, w ∈ lw_tbl := fun w h => wsL_law_in w (inlX5 w h)
theorem inlX6 : ∀ w ∈ wsX60, w ∈ wsL_law := fun _ h => List.mem_append_left _ (List.mem_append_left _ (List.mem_append_left _ (List.mem_append_left _ (List.mem_append_left _ (List.mem_append_right _ h)))))
theorem inX6 : ∀ w ∈ wsX60, w ∈ lw_tbl := fun w h => wsL_law_in w (inlX6 w h)
theorem inlX7 : ∀ w ∈ wsX70, w ∈ wsL_law := fun _ h => List.mem_append_left _ (List.mem_append_left _ (List.mem_append_left _ (List.mem_append_right _ h)))
theorem inX7 : ∀ w ∈ wsX70, w ∈ lw_tbl := fun w h => wsL_law_in w (inlX7 w h)
theorem inlX8 : ∀ w ∈ wsX80, w ∈ wsL_law := fun _ h => List.mem_append_left _ (List.mem_append_left _ (List.mem_append_left _ (List.mem_append_left _ (List.mem_append_right _ h))))
theorem inX8 : ∀ w ∈ wsX80, w ∈ lw_tbl := fun w h => wsL_law_in w (inlX8 w h)
theorem inlX9 : ∀ w ∈ wsX90, w ∈ wsL_law := fun _ h => List.mem_append_left _ (List.mem_append_left _ (List.mem_append_left _ (List.mem_append_left _ (List.mem_append_left _ (List.mem_append_left _ (List.mem_append_left _ (List.mem_append_left _ (List.mem_append_left _ (List.mem_append_left _ (List.mem_append_left _ (List.mem_append_right _ h)))))))))))
theorem inX9 : ∀ w ∈ wsX90, w ∈ lw_tbl := fun w h => wsL_law_in w (inlX9 w h)
theorem inlX10 : ∀ w ∈ wsX100, w ∈ wsL_law := fun _ h => List.mem_append_left _ (List.mem_append_left _ (List.mem_append_left _ (List.mem_append_left _ (List.mem_append_left _ (List.mem_append_left _ (List.mem_append_left _ (List.mem_append_left _ (List.mem_append_left _ (List.mem_append_left _ (List.mem_append_right _ h))))))))))
theorem inX10 : ∀ w ∈ wsX100, w ∈ lw_tbl := fun w h => wsL_law_in w (inlX10 w h)
theorem inJ6 : ∀ w ∈ wsJ60, w ∈ lw_tbl := by decide +kernel
theorem inJ9 : ∀ w ∈ wsJ90, w ∈ lw_tbl := by decide +kernel
set_option maxRecDepth 20000 in
theorem ggX1_init_X7_init : GoodIn wsX1_init wsX7_init := goodIn_r _ [12, 13, 2, 3, 6, 14, 18, 19, 20] (by decide +kernel) (by decide +kernel)
set_option maxRecDepth 20000 in
theorem gX1_init_X7_init_n21 : GoodIn wsX1_init (wsX7_init) := ggX1_init_X7_init
set_option maxRecDepth 20000 in
theorem ggX1_copyFrom_X7_copyFrom : GoodIn wsX1_copyFrom wsX7_copyFrom := goodIn_r _ [7, 8, 9, 10, 14, 15, 16] (by decide +kernel) (by decide +kernel)
set_option maxRecDepth 20000 in
theorem gX1_copyFrom_X7_copyFrom : GoodIn wsX1_copyFrom (wsV RX1 26 RX7 yX7_copyFrom wsX7_copyFrom) := goodIn_app (goodIn_of _ (by decide +kernel)) ggX1_copyFrom_X7_copyFrom
set_option maxRecDepth 20000 in
theorem ggX1_add_X7_beginAs : GoodIn wsX1_add wsX7_beginAs := goodIn_r _ [7, 8, 9, 13, 14, 15] (by decide +kernel) (by decide +kernel)
set_option maxRecDepth 20000 in
theorem gX1_add_X7_beginAs : GoodIn wsX1_add (wsV RX1 30 RX7 yX7_beginAs wsX7_beginAs) := goodIn_app (goodIn_of _ (by decide +kernel)) ggX1_add_X7_beginAs
set_option maxRecDepth 20000 in
theorem ggX1_havingSight_X7_hasSight : GoodIn wsX1_havingSight wsX7_hasSight := goodIn_r _ [7, 8, 9, 13, 14, 15] (by decide +kernel) (by decide +kernel)
set_option maxRecDepth 20000 in
theorem gX1_havingSight_X7_hasSight : GoodIn wsX1_havingSight (wsV RX1 34 RX7 yX7_hasSight wsX7_hasSight) := goodIn_app (goodIn_of _ (by decide +kernel)) ggX1_havingSight_X7_hasSight
set_option maxRecDepth 20000 in
theorem ggX1_unlikeSights_X1_havingSight : GoodIn wsX1_unlikeSights wsX1_havingSight := goodIn_r _ [5, 6, 7, 8, 9, 10, 11, 12, 13, 14, 15, 16, 17, 18, 19, 20] (by decide +kernel) (by decide +kernel)
set_option maxRecDepth 20000 in
theorem gX1_unlikeSights_X1_havingSight : GoodIn wsX1_unlikeSights (wsV RX1 38 RX1 yX1_havingSight wsX1_havingSight) := goodIn_app (goodIn_of _ (by decide +kernel)) ggX1_unlikeSights_X1_havingSight
set_option maxRecDepth 20000 in
theorem ggX1_saidAmong_X1_countTellers : GoodIn wsX1_saidAmong wsX1_countTellers := goodIn_r _ [6, 1, 7, 8, 9, 10, 11, 12, 13, 14, 15, 16, 17, 18, 19, 20, 21] (by decide +kernel) (by decide +kernel)
set_option maxRecDepth 20000 in
theorem gX1_saidAmong_X1_countTellers : GoodIn wsX1_saidAmong (wsV RX1 42 RX1 yX1_countTellers wsX1_countTellers) := goodIn_app (goodIn_of _ (by decide +kernel)) ggX1_saidAmong_X1_countTellers
set_option maxRecDepth 20000 in
theorem ggX1_countTellers_X7_colourOf : GoodIn wsX1_countTellers wsX7_colourOf := goodIn_r _ [8, 9, 10, 14, 15, 16] (by decide +kernel) (by decide +kernel)
set_option maxRecDepth 20000 in
theorem gX1_countTellers_X7_colourOf : GoodIn wsX1_countTellers (wsV RX1 46 RX7 yX7_colourOf wsX7_colourOf) := goodIn_app (goodIn_of _ (by decide +kernel)) ggX1_countTellers_X7_colourOf
set_option maxRecDepth 20000 in
theorem ggX1_clashesBetween_X7_colourOf : GoodIn wsX1_clashesBetween wsX7_colourOf := goodIn_r _ [6, 7, 8, 12, 13, 14] (by decide +kernel) (by decide +kernel)
set_option maxRecDepth 20000 in
theorem gX1_clashesBetween_X7_colourOf : GoodIn wsX1_clashesBetween (wsV RX1 46 RX7 yX7_colourOf wsX7_colourOf) := goodIn_app (goodIn_of _ (by decide +kernel)) ggX1_clashesBetween_X7_colourOf
set_option maxRecDepth 20000 in
theorem ggX1_clashesOf_X1_clashesBetween : GoodIn wsX1_clashesOf wsX1_clashesBetween := goodIn_r _ [6, 7, 8, 9, 10, 11, 12, 13, 14, 15, 16, 17, 18, 19, 20] (by decide +kernel) (by decide +kernel)
set_option maxRecDepth 20000 in
theorem gX1_clashesOf_X1_clashesBetween : GoodIn wsX1_clashesOf (wsV RX1 49 RX1 yX1_clashesBetween wsX1_clashesBetween) := goodIn_app (goodIn_of _ (by decide +kernel)) ggX1_clashesOf_X1_clashesBetween
set_option maxRecDepth 20000 in
theorem ggX1_clashesAmong_X1_clashesBetween : GoodIn wsX1_clashesAmong wsX1_clashesBetween := goodIn_r _ [6, 7, 8, 9, 10, 11, 12, 13, 14, 15, 16, 17, 18, 19, 20] (by decide +kernel) (by decide +kernel)
set_option maxRecDepth 20000 in
theorem gX1_clashesAmong_X1_clashesBetween : GoodIn wsX1_clashesAmong (wsV RX1 49 RX1 yX1_clashesBetween wsX1_clashesBetween) := goodIn_app (goodIn_of _ (by decide +kernel)) ggX1_clashesAmong_X1_clashesBetween
set_option maxRecDepth 20000 in
theorem ggX1_fewestToKeep_X1_everyone : GoodIn wsX1_fewestToKeep wsX1_everyone := goodIn_r _ [6, 1, 35, 36, 37] (by decide +kernel) (by decide +kernel)
set_option maxRecDepth 20000 in
theorem gX1_fewestToKeep_X1_everyone : GoodIn wsX1_fewestToKeep (wsV RX1 53 RX1 yX1_everyone wsX1_everyone) := goodIn_app (goodIn_of _ (by decide +kernel)) ggX1_fewestToKeep_X1_everyone
set_option maxRecDepth 20000 in
theorem ggX1_fewestToKeep_J6_bitCount_0f7a4 : GoodIn wsX1_fewestToKeep wsJ6_bitCount_0f7a4 := goodIn_r _ [10, 11, 12, 13] (by decide +kernel) (by decide +kernel)
set_option maxRecDepth 20000 in
theorem gX1_fewestToKeep_J6_bitCount_0f7a4 : GoodIn wsX1_fewestToKeep (va_wsS RX1 57 yJ6_bitCount_0f7a4 wsJ6_bitCount_0f7a4) := goodIn_app (goodIn_of _ (by decide +kernel)) ggX1_fewestToKeep_J6_bitCount_0f7a4
set_option maxRecDepth 20000 in
theorem ggX1_fewestToKeep_X1_saysTheSame : GoodIn wsX1_fewestToKeep wsX1_saysTheSame := goodIn_r _ [17, 18, 19, 20, 5, 21, 22, 23, 24, 25, 26, 1, 27, 28, 29, 30, 31, 32, 33, 34, 2, 3, 4, 6, 35, 36, 37, 38, 39, 40] (by decide +kernel) (by decide +kernel)
set_option maxRecDepth 20000 in
theorem gX1_fewestToKeep_X1_saysTheSame : GoodIn wsX1_fewestToKeep (wsV RX1 62 RX1 yX1_saysTheSame wsX1_saysTheSame) := goodIn_app (goodIn_of _ (by decide +kernel)) ggX1_fewestToKeep_X1_saysTheSame
set_option maxRecDepth 20000 in
theorem ggX1_saysTheSame_X1_saidAmong : GoodIn wsX1_saysTheSame wsX1_saidAmong := goodIn_r _ [5, 6, 7, 8, 9, 4, 10, 11, 12, 13, 14, 15, 16, 17, 18, 19, 24, 25, 26, 27, 28, 29] (by decide +kernel) (by decide +kernel)
set_option maxRecDepth 20000 in
theorem gX1_saysTheSame_X1_saidAmong : GoodIn wsX1_saysTheSame (wsV RX1 65 RX1 yX1_saidAmong wsX1_saidAmong) := goodIn_app (goodIn_of _ (by decide +kernel)) ggX1_saysTheSame_X1_saidAmong
set_option maxRecDepth 20000 in
theorem ggX1_saysTheSame_X1_everyone : GoodIn wsX1_saysTheSame wsX1_everyone := goodIn_r _ [23, 11, 24, 25, 26] (by decide +kernel) (by decide +kernel)
set_option maxRecDepth 20000 in
theorem gX1_saysTheSame_X1_everyone : GoodIn wsX1_saysTheSame (wsV RX1 53 RX1 yX1_everyone wsX1_everyone) := goodIn_app (goodIn_of _ (by decide +kernel)) ggX1_saysTheSame_X1_everyone
set_option maxRecDepth 20000 in
theorem ggX1_fewestToSendAway_X1_everyone : GoodIn wsX1_fewestToSendAway wsX1_everyone := goodIn_r _ [6, 1, 30, 31, 32] (by decide +kernel) (by decide +kernel)
set_option maxRecDepth 20000 in
theorem gX1_fewestToSendAway_X1_everyone : GoodIn wsX1_fewestToSendAway (wsV RX1 53 RX1 yX1_everyone wsX1_everyone) := goodIn_app (goodIn_of _ (by decide +kernel)) ggX1_fewestToSendAway_X1_everyone
set_option maxRecDepth 20000 in
theorem ggX1_fewestToSendAway_J6_bitCount_0f7a4 : GoodIn wsX1_fewestToSendAway wsJ6_bitCount_0f7a4 := goodIn_r _ [10, 11, 12, 13] (by decide +kernel) (by decide +kernel)
set_option maxRecDepth 20000 in
theorem gX1_fewestToSendAway_J6_bitCount_0f7a4 : GoodIn wsX1_fewestToSendAway (va_wsS RX1 57 yJ6_bitCount_0f7a4 wsJ6_bitCount_0f7a4) := goodIn_app (goodIn_of _ (by decide +kernel)) ggX1_fewestToSendAway_J6_bitCount_0f7a4
set_option maxRecDepth 20000 in
theorem ggX1_fewestToSendAway_X1_clashesAmong : GoodIn wsX1_fewestToSendAway wsX1_clashesAmong := goodIn_r _ [17, 1, 18, 19, 20, 5, 21, 22, 23, 24, 25, 26, 27, 28, 29, 30, 31, 32, 33, 34, 35] (by decide +kernel) (by decide +kernel)
set_option maxRecDepth 20000 in
theorem gX1_fewestToSendAway_X1_clashesAmong : GoodIn wsX1_fewestToSendAway (wsV RX1 68 RX1 yX1_clashesAmong wsX1_clashesAmong) := goodIn_app (goodIn_of _ (by decide +kernel)) ggX1_fewestToSendAway_X1_clashesAmong
set_option maxRecDepth 20000 in
theorem ggX1_wrongBy_X7_hasOtherColour : GoodIn wsX1_wrongBy wsX7_hasOtherColour := goodIn_r _ [7, 8, 9, 13, 14, 15] (by decide +kernel) (by decide +kernel)
set_option maxRecDepth 20000 in
theorem gX1_wrongBy_X7_hasOtherColour : GoodIn wsX1_wrongBy (wsV RX1 71 RX7 yX7_hasOtherColour wsX7_hasOtherColour) := goodIn_app (goodIn_of _ (by decide +kernel)) ggX1_wrongBy_X7_hasOtherColour
set_option maxRecDepth 20000 in
theorem ggX2_init_X1_init : GoodIn wsX2_init wsX1_init := goodIn_r _ [16, 17, 2, 3, 18, 19, 4, 20, 21, 22, 23, 24, 25, 26, 27, 39, 40, 41, 45, 46, 47] (by decide +kernel) (by decide +kernel)
set_option maxRecDepth 20000 in
theorem gX2_init_X1_init : GoodIn wsX2_init (wsX1_init) := ggX2_init_X1_init
set_option maxRecDepth 20000 in
theorem ggX2_init_X0_init : GoodIn wsX2_init wsX0_init := goodIn_r _ [29, 30, 2, 3, 4, 31, 32, 42, 43, 44] (by decide +kernel) (by decide +kernel)
set_option maxRecDepth 20000 in
theorem gX2_init_X0_init_n24 : GoodIn wsX2_init (wsX0_init) := ggX2_init_X0_init
set_option maxRecDepth 20000 in
theorem ggX2_read_X2_accepts : GoodIn wsX2_read wsX2_accepts := goodIn_r _ [10, 3, 11, 12, 13, 9, 14, 1, 15, 16, 17, 18, 19, 20, 21, 22, 23, 24, 25, 26, 27, 28, 29, 30, 31, 32, 33, 34, 35, 36, 37, 38, 39, 40, 41, 42, 43, 44, 45, 46, 47, 48, 49, 50, 51, 52, 53, 54, 55, 56, 57, 58, 59, 60, 61, 62, 63, 64, 65, 66, 67, 68, 69, 70, 71, 72, 73, 74, 2, 75, 76, 77, 78, 79, 80, 81, 82, 83, 84, 85, 86, 87, 88, 89, 90, 91, 92, 93, 94, 95, 99, 100, 101, 96, 97, 98] (by decide +kernel) (by decide +kernel)
set_option maxRecDepth 20000 in
theorem gX2_read_X2_accepts : GoodIn wsX2_read (wsV RX2 38 RX2 yX2_accepts wsX2_accepts) := goodIn_app (goodIn_of _ (by decide +kernel)) ggX2_read_X2_accepts
set_option maxRecDepth 20000 in
theorem ggX2_accepts_X2_acceptsKind : GoodIn wsX2_accepts wsX2_acceptsKind := goodIn_r _ [6, 7, 1, 8, 9, 10, 11, 12, 13, 14, 15, 16, 17, 18, 19, 20, 21, 81, 82, 83, 84, 85, 86, 87, 88, 89, 90, 91, 92] (by decide +kernel) (by decide +kernel)
set_option maxRecDepth 20000 in
theorem gX2_accepts_X2_acceptsKind : GoodIn wsX2_accepts (wsV RX2 42 RX2 yX2_acceptsKind wsX2_acceptsKind) := goodIn_app (goodIn_of _ (by decide +kernel)) ggX2_accepts_X2_acceptsKind
set_option maxRecDepth 20000 in
theorem ggX2_accepts_X2_acceptsInWitness : GoodIn wsX2_accepts wsX2_acceptsInWitness := goodIn_r _ [25, 1, 7, 26, 27, 28, 5, 29, 30, 31, 32, 33, 34, 35, 36, 37, 38, 39, 40, 41, 42, 43, 44, 81, 82, 83, 84, 85, 86, 87, 88, 89, 90, 91, 92] (by decide +kernel) (by decide +kernel)
set_option maxRecDepth 20000 in
theorem gX2_accepts_X2_acceptsInWitness : GoodIn wsX2_accepts (wsV RX2 45 RX2 yX2_acceptsInWitness wsX2_acceptsInWitness) := goodIn_app (goodIn_of _ (by decide +kernel)) ggX2_accepts_X2_acceptsInWitness
set_option maxRecDepth 20000 in
theorem ggX2_accepts_X2_acceptsColour : GoodIn wsX2_accepts wsX2_acceptsColour := goodIn_r _ [48, 38, 1, 49, 40, 50, 42, 43, 44, 26, 27, 28, 5, 29, 7, 30, 31, 32, 33, 51, 52, 53, 18, 54, 21, 55, 56, 57, 58, 59, 60, 61, 62, 63, 81, 82, 83, 84, 85, 86, 87, 88, 89, 90, 91, 92] (by decide +kernel) (by decide +kernel)
set_option maxRecDepth 20000 in
theorem gX2_accepts_X2_acceptsColour : GoodIn wsX2_accepts (wsV RX2 48 RX2 yX2_acceptsColour wsX2_acceptsColour) := goodIn_app (goodIn_of _ (by decide +kernel)) ggX2_accepts_X2_acceptsColour
set_option maxRecDepth 20000 in
theorem ggX2_accepts_X2_acceptsThing : GoodIn wsX2_accepts wsX2_acceptsThing := goodIn_r _ [37, 38, 1, 39, 40, 41, 42, 43, 44, 81, 82, 83, 84, 85, 86] (by decide +kernel) (by decide +kernel)
set_option maxRecDepth 20000 in
theorem gX2_accepts_X2_acceptsThing : GoodIn wsX2_accepts (wsV RX2 51 RX2 yX2_acceptsThing wsX2_acceptsThing) := goodIn_app (goodIn_of _ (by decide +kernel)) ggX2_accepts_X2_acceptsThing
set_option maxRecDepth 20000 in
theorem ggX2_accepts_X2_acceptsDue : GoodIn wsX2_accepts wsX2_acceptsDue := goodIn_r _ [67, 68, 38, 1, 43, 40, 44, 69, 70, 71, 72, 73, 74, 75, 76, 81, 82, 83, 84, 85, 86, 93, 94, 95] (by decide +kernel) (by decide +kernel)
set_option maxRecDepth 20000 in
theorem gX2_accepts_X2_acceptsDue : GoodIn wsX2_accepts (wsV RX2 55 RX2 yX2_acceptsDue wsX2_acceptsDue) := goodIn_app (goodIn_of _ (by decide +kernel)) ggX2_accepts_X2_acceptsDue
set_option maxRecDepth 20000 in
theorem ggX2_accepts_X2_acceptsBehindCase : GoodIn wsX2_accepts wsX2_acceptsBehindCase := goodIn_r _ [80, 68, 1, 81, 82, 83, 84, 85, 86, 93, 94, 95] (by decide +kernel) (by decide +kernel)
set_option maxRecDepth 20000 in
theorem gX2_accepts_X2_acceptsBehindCase : GoodIn wsX2_accepts (wsV RX2 58 RX2 yX2_acceptsBehindCase wsX2_acceptsBehindCase) := goodIn_app (goodIn_of _ (by decide +kernel)) ggX2_accepts_X2_acceptsBehindCase
set_option maxRecDepth 20000 in
theorem ggX2_acceptsKind_X1_add : GoodIn wsX2_acceptsKind wsX1_add := goodIn_r _ [7, 8, 9, 10, 11, 12, 13, 14, 15, 16, 23, 24, 25, 26, 27, 28] (by decide +kernel) (by decide +kernel)
set_option maxRecDepth 20000 in
theorem gX2_acceptsKind_X1_add : GoodIn wsX2_acceptsKind (wsV RX2 65 RX1 yX1_add wsX1_add) := goodIn_app (goodIn_of _ (by decide +kernel)) ggX2_acceptsKind_X1_add
set_option maxRecDepth 20000 in
theorem ggX2_acceptsInWitness_X2_latest : GoodIn wsX2_acceptsInWitness wsX2_latest := goodIn_r _ [7, 2, 8, 9, 10, 11, 23, 24, 25, 26, 27, 28, 29, 30, 31] (by decide +kernel) (by decide +kernel)
set_option maxRecDepth 20000 in
theorem gX2_acceptsInWitness_X2_latest : GoodIn wsX2_acceptsInWitness (wsV RX2 69 RX2 yX2_latest wsX2_latest) := goodIn_app (goodIn_of _ (by decide +kernel)) ggX2_acceptsInWitness_X2_latest
set_option maxRecDepth 20000 in
theorem ggX2_acceptsInWitness_X2_acceptsThing : GoodIn wsX2_acceptsInWitness wsX2_acceptsThing := goodIn_r _ [15, 16, 1, 17, 18, 19, 20, 21, 22, 23, 24, 25, 26, 27, 28] (by decide +kernel) (by decide +kernel)
set_option maxRecDepth 20000 in
theorem gX2_acceptsInWitness_X2_acceptsThing : GoodIn wsX2_acceptsInWitness (wsV RX2 51 RX2 yX2_acceptsThing wsX2_acceptsThing) := goodIn_app (goodIn_of _ (by decide +kernel)) ggX2_acceptsInWitness_X2_acceptsThing
set_option maxRecDepth 20000 in
theorem ggX2_acceptsThing_X9_isThing : GoodIn wsX2_acceptsThing wsX9_isThing := goodIn_r _ [5, 6, 7, 4, 8] (by decide +kernel) (by decide +kernel)
set_option maxRecDepth 20000 in
theorem gX2_acceptsThing_X9_isThing_n76 : GoodIn wsX2_acceptsThing (wsX9_isThing) := ggX2_acceptsThing_X9_isThing
set_option maxRecDepth 20000 in
theorem ggX2_acceptsColour_X9_isColour : GoodIn wsX2_acceptsColour wsX9_isColour := goodIn_r _ [5, 6, 7, 4, 8] (by decide +kernel) (by decide +kernel)
set_option maxRecDepth 20000 in
theorem gX2_acceptsColour_X9_isColour_n82 : GoodIn wsX2_acceptsColour (wsX9_isColour) := ggX2_acceptsColour_X9_isColour
set_option maxRecDepth 20000 in
theorem ggX2_acceptsColour_X2_latest : GoodIn wsX2_acceptsColour wsX2_latest := goodIn_r _ [13, 14, 15, 16, 17, 18, 34, 35, 36, 37, 38, 39, 40, 41, 42] (by decide +kernel) (by decide +kernel)
set_option maxRecDepth 20000 in
theorem gX2_acceptsColour_X2_latest : GoodIn wsX2_acceptsColour (wsV RX2 69 RX2 yX2_latest wsX2_latest) := goodIn_app (goodIn_of _ (by decide +kernel)) ggX2_acceptsColour_X2_latest
set_option maxRecDepth 20000 in
theorem ggX2_acceptsColour_X7_hasSight : GoodIn wsX2_acceptsColour wsX7_hasSight := goodIn_r _ [23, 24, 25, 43, 44, 45] (by decide +kernel) (by decide +kernel)
set_option maxRecDepth 20000 in
theorem gX2_acceptsColour_X7_hasSight : GoodIn wsX2_acceptsColour (wsV RX2 85 RX7 yX7_hasSight wsX7_hasSight) := goodIn_app (goodIn_of _ (by decide +kernel)) ggX2_acceptsColour_X7_hasSight
set_option maxRecDepth 20000 in
theorem ggX2_acceptsColour_X7_add : GoodIn wsX2_acceptsColour wsX7_add := goodIn_r _ [29, 24, 25, 30, 31, 32, 22, 33, 43, 44, 45] (by decide +kernel) (by decide +kernel)
set_option maxRecDepth 20000 in
theorem gX2_acceptsColour_X7_add : GoodIn wsX2_acceptsColour (wsV RX2 88 RX7 yX7_add wsX7_add) := goodIn_app (goodIn_of _ (by decide +kernel)) ggX2_acceptsColour_X7_add
set_option maxRecDepth 20000 in
theorem ggX2_acceptsDue_X9_isWithin : GoodIn wsX2_acceptsDue wsX9_isWithin := goodIn_r _ [6] (by decide +kernel) (by decide +kernel)
set_option maxRecDepth 20000 in
theorem gX2_acceptsDue_X9_isWithin_n89 : GoodIn wsX2_acceptsDue (wsX9_isWithin) := ggX2_acceptsDue_X9_isWithin
set_option maxRecDepth 20000 in
theorem ggX2_acceptsDue_X0_add : GoodIn wsX2_acceptsDue wsX0_add := goodIn_r _ [11, 12, 13, 14, 21, 22, 23] (by decide +kernel) (by decide +kernel)
set_option maxRecDepth 20000 in
theorem gX2_acceptsDue_X0_add : GoodIn wsX2_acceptsDue (wsV RX2 93 RX0 yX0_add wsX0_add) := goodIn_app (goodIn_of _ (by decide +kernel)) ggX2_acceptsDue_X0_add
set_option maxRecDepth 20000 in
theorem ggX3_init_X1_init : GoodIn wsX3_init wsX1_init := goodIn_r _ [18, 19, 2, 3, 20, 21, 22, 23, 24, 25, 26, 27, 28, 29, 30, 42, 43, 44, 56, 57, 58] (by decide +kernel) (by decide +kernel)
set_option maxRecDepth 20000 in
theorem gX3_init_X1_init : GoodIn wsX3_init (wsX1_init) := ggX3_init_X1_init
set_option maxRecDepth 20000 in
theorem ggX3_init_X5_init : GoodIn wsX3_init wsX5_init := goodIn_r _ [32, 33, 2, 3, 22, 34, 35, 36, 49, 50, 51, 52] (by decide +kernel) (by decide +kernel)
set_option maxRecDepth 20000 in
theorem gX3_init_X5_init_n18 : GoodIn wsX3_init (wsX5_init) := ggX3_init_X5_init
set_option maxRecDepth 20000 in
theorem ggX3_init_X4_init : GoodIn wsX3_init wsX4_init := goodIn_r _ [38, 39, 2, 3, 22, 40, 41, 53, 54, 55] (by decide +kernel) (by decide +kernel)
set_option maxRecDepth 20000 in
theorem gX3_init_X4_init_n25 : GoodIn wsX3_init (wsX4_init) := ggX3_init_X4_init
set_option maxRecDepth 20000 in
theorem ggX3_beginWith_X1_copyFrom : GoodIn wsX3_beginWith wsX1_copyFrom := goodIn_r _ [9, 10, 11, 12, 13, 14, 15, 16, 17, 18, 19, 31, 32, 33, 34, 35, 36] (by decide +kernel) (by decide +kernel)
set_option maxRecDepth 20000 in
theorem gX3_beginWith_X1_copyFrom : GoodIn wsX3_beginWith (wsV RX3 30 RX1 yX1_copyFrom wsX1_copyFrom) := goodIn_app (goodIn_of _ (by decide +kernel)) ggX3_beginWith_X1_copyFrom
set_option maxRecDepth 20000 in
theorem ggX3_copyFrom_X1_copyFrom : GoodIn wsX3_copyFrom wsX1_copyFrom := goodIn_r _ [9, 10, 11, 12, 13, 14, 15, 16, 17, 18, 19, 41, 42, 43, 44, 45, 46] (by decide +kernel) (by decide +kernel)
set_option maxRecDepth 20000 in
theorem gX3_copyFrom_X1_copyFrom : GoodIn wsX3_copyFrom (wsV RX3 30 RX1 yX1_copyFrom wsX1_copyFrom) := goodIn_app (goodIn_of _ (by decide +kernel)) ggX3_copyFrom_X1_copyFrom
set_option maxRecDepth 20000 in
theorem ggX3_copyFrom_X5_copyFrom : GoodIn wsX3_copyFrom wsX5_copyFrom := goodIn_r _ [24, 25, 26, 27, 28, 47, 48, 49, 50] (by decide +kernel) (by decide +kernel)
set_option maxRecDepth 20000 in
theorem gX3_copyFrom_X5_copyFrom : GoodIn wsX3_copyFrom (wsV RX3 42 RX5 yX5_copyFrom wsX5_copyFrom) := goodIn_app (goodIn_of _ (by decide +kernel)) ggX3_copyFrom_X5_copyFrom
set_option maxRecDepth 20000 in
theorem ggX3_copyFrom_X4_copyFrom : GoodIn wsX3_copyFrom wsX4_copyFrom := goodIn_r _ [33, 34, 35, 36, 51, 52, 53] (by decide +kernel) (by decide +kernel)
set_option maxRecDepth 20000 in
theorem gX3_copyFrom_X4_copyFrom : GoodIn wsX3_copyFrom (wsV RX3 45 RX4 yX4_copyFrom wsX4_copyFrom) := goodIn_app (goodIn_of _ (by decide +kernel)) ggX3_copyFrom_X4_copyFrom
set_option maxRecDepth 20000 in
theorem ggX4_askFor_X4_sortsOf : GoodIn wsX4_askFor wsX4_sortsOf := goodIn_r _ [9, 10, 11, 12, 20, 21, 22] (by decide +kernel) (by decide +kernel)
set_option maxRecDepth 20000 in
theorem gX4_askFor_X4_sortsOf : GoodIn wsX4_askFor (wsV RX4 25 RX4 yX4_sortsOf wsX4_sortsOf) := goodIn_app (goodIn_of _ (by decide +kernel)) ggX4_askFor_X4_sortsOf
set_option maxRecDepth 20000 in
theorem ggX4_askFor_J6_bitCount_0f7a4 : GoodIn wsX4_askFor wsJ6_bitCount_0f7a4 := goodIn_r _ [16, 17, 18, 19] (by decide +kernel) (by decide +kernel)
set_option maxRecDepth 20000 in
theorem gX4_askFor_J6_bitCount_0f7a4 : GoodIn wsX4_askFor (va_wsS RX4 29 yJ6_bitCount_0f7a4 wsJ6_bitCount_0f7a4) := goodIn_app (goodIn_of _ (by decide +kernel)) ggX4_askFor_J6_bitCount_0f7a4
set_option maxRecDepth 20000 in
theorem ggX5_comeIn_X9_isWithin : GoodIn wsX5_comeIn wsX9_isWithin := goodIn_r _ [7] (by decide +kernel) (by decide +kernel)
set_option maxRecDepth 20000 in
theorem gX5_comeIn_X9_isWithin_n28 : GoodIn wsX5_comeIn (wsX9_isWithin) := ggX5_comeIn_X9_isWithin
set_option maxRecDepth 20000 in
theorem ggX5_comeIn_X7_meets : GoodIn wsX5_comeIn wsX7_meets := goodIn_r _ [12, 13, 14, 15, 16, 17, 11, 18, 19, 20, 21, 22, 23, 24, 25, 26, 27, 35, 36, 37] (by decide +kernel) (by decide +kernel)
set_option maxRecDepth 20000 in
theorem gX5_comeIn_X7_meets : GoodIn wsX5_comeIn (wsV RX5 35 RX7 yX7_meets wsX7_meets) := goodIn_app (goodIn_of _ (by decide +kernel)) ggX5_comeIn_X7_meets
set_option maxRecDepth 20000 in
theorem ggX6_goBy_X6_winnableOn : GoodIn wsX6_goBy wsX6_winnableOn := goodIn_r _ [7, 8, 9, 10, 11, 12, 13, 14, 15, 16, 17, 18, 19, 20, 21, 22, 23, 24, 25, 26, 27, 28, 29, 30, 71, 72, 73, 74, 75, 76, 77, 78, 79] (by decide +kernel) (by decide +kernel)
set_option maxRecDepth 20000 in
theorem gX6_goBy_X6_winnableOn : GoodIn wsX6_goBy (wsV RX6 18 RX6 yX6_winnableOn wsX6_winnableOn) := goodIn_app (goodIn_of _ (by decide +kernel)) ggX6_goBy_X6_winnableOn
set_option maxRecDepth 20000 in
theorem ggX6_goBy_X5_comeIn : GoodIn wsX6_goBy wsX5_comeIn := goodIn_r _ [35, 36, 37, 38, 39, 40, 41, 42, 43, 44, 45, 27, 46, 47, 29, 48, 49, 50, 51, 30, 52, 25, 26, 28, 53, 54, 55, 56, 80, 81, 82, 83, 74, 75, 76, 77, 78, 79] (by decide +kernel) (by decide +kernel)
set_option maxRecDepth 20000 in
theorem gX6_goBy_X5_comeIn : GoodIn wsX6_goBy (wsV RX6 22 RX5 yX5_comeIn wsX5_comeIn) := goodIn_app (goodIn_of _ (by decide +kernel)) ggX6_goBy_X5_comeIn
set_option maxRecDepth 20000 in
theorem ggX6_goBy_X6_mostFrom : GoodIn wsX6_goBy wsX6_mostFrom := goodIn_r _ [60, 61, 62, 63, 64, 65, 66, 67, 6, 68, 2, 1, 69, 70] (by decide +kernel) (by decide +kernel)
set_option maxRecDepth 20000 in
theorem gX6_goBy_X6_mostFrom : GoodIn wsX6_goBy (wsV RX6 28 RX6 yX6_mostFrom wsX6_mostFrom) := goodIn_app (goodIn_of _ (by decide +kernel)) ggX6_goBy_X6_mostFrom
set_option maxRecDepth 20000 in
theorem ggX6_winnableOn_X1_everyone : GoodIn wsX6_winnableOn wsX1_everyone := goodIn_r _ [5, 6, 27, 28, 29] (by decide +kernel) (by decide +kernel)
set_option maxRecDepth 20000 in
theorem gX6_winnableOn_X1_everyone : GoodIn wsX6_winnableOn (wsV RX6 41 RX1 yX1_everyone wsX1_everyone) := goodIn_app (goodIn_of _ (by decide +kernel)) ggX6_winnableOn_X1_everyone
set_option maxRecDepth 20000 in
theorem ggX6_winnableOn_X1_saidAmong : GoodIn wsX6_winnableOn wsX1_saidAmong := goodIn_r _ [10, 11, 12, 13, 14, 4, 15, 6, 16, 17, 18, 19, 20, 21, 22, 23, 27, 28, 29, 30, 31, 32] (by decide +kernel) (by decide +kernel)
set_option maxRecDepth 20000 in
theorem gX6_winnableOn_X1_saidAmong : GoodIn wsX6_winnableOn (wsV RX6 50 RX1 yX1_saidAmong wsX1_saidAmong) := goodIn_app (goodIn_of _ (by decide +kernel)) ggX6_winnableOn_X1_saidAmong
set_option maxRecDepth 20000 in
theorem ggX6_mostFrom_X6_wonBy : GoodIn wsX6_mostFrom wsX6_wonBy := goodIn_r _ [9, 10, 11, 12, 13] (by decide +kernel) (by decide +kernel)
set_option maxRecDepth 20000 in
theorem gX6_mostFrom_X6_wonBy : GoodIn wsX6_mostFrom (wsV RX6 53 RX6 yX6_wonBy wsX6_wonBy) := goodIn_app (goodIn_of _ (by decide +kernel)) ggX6_mostFrom_X6_wonBy
set_option maxRecDepth 20000 in
theorem ggX6_leastOrder_X6_leastChoice : GoodIn wsX6_leastOrder wsX6_leastChoice := goodIn_r _ [5, 6, 7, 8, 9, 4, 10, 11, 12, 13] (by decide +kernel) (by decide +kernel)
set_option maxRecDepth 20000 in
theorem gX6_leastOrder_X6_leastChoice : GoodIn wsX6_leastOrder (wsV RX6 62 RX6 yX6_leastChoice wsX6_leastChoice) := goodIn_app (goodIn_of _ (by decide +kernel)) ggX6_leastOrder_X6_leastChoice
set_option maxRecDepth 20000 in
theorem ggX6_leastChoice_X6_wonBy : GoodIn wsX6_leastChoice wsX6_wonBy := goodIn_r _ [6, 1, 7, 8, 9] (by decide +kernel) (by decide +kernel)
set_option maxRecDepth 20000 in
theorem gX6_leastChoice_X6_wonBy : GoodIn wsX6_leastChoice (wsV RX6 53 RX6 yX6_wonBy wsX6_wonBy) := goodIn_app (goodIn_of _ (by decide +kernel)) ggX6_leastChoice_X6_wonBy
set_option maxRecDepth 20000 in
theorem ggX7_meets_X7_dropBetween : GoodIn wsX7_meets wsX7_dropBetween := goodIn_r _ [7, 2, 8, 17, 18, 19] (by decide +kernel) (by decide +kernel)
set_option maxRecDepth 20000 in
theorem gX7_meets_X7_dropBetween : GoodIn wsX7_meets (wsV RX7 22 RX7 yX7_dropBetween wsX7_dropBetween) := goodIn_app (goodIn_of _ (by decide +kernel)) ggX7_meets_X7_dropBetween
set_option maxRecDepth 20000 in
theorem ggX7_meets_X7_colourOf : GoodIn wsX7_meets wsX7_colourOf := goodIn_r _ [12, 2, 8, 17, 18, 19] (by decide +kernel) (by decide +kernel)
set_option maxRecDepth 20000 in
theorem gX7_meets_X7_colourOf : GoodIn wsX7_meets (wsV RX7 26 RX7 yX7_colourOf wsX7_colourOf) := goodIn_app (goodIn_of _ (by decide +kernel)) ggX7_meets_X7_colourOf
set_option maxRecDepth 20000 in
theorem ggX7_meets_X7_add : GoodIn wsX7_meets wsX7_add := goodIn_r _ [16, 2, 8, 3, 4, 5, 6, 7, 17, 18, 19] (by decide +kernel) (by decide +kernel)
set_option maxRecDepth 20000 in
theorem gX7_meets_X7_add : GoodIn wsX7_meets (wsV RX7 30 RX7 yX7_add wsX7_add) := goodIn_app (goodIn_of _ (by decide +kernel)) ggX7_meets_X7_add
set_option maxRecDepth 20000 in
theorem ggX7_add_X7_dropBetween : GoodIn wsX7_add wsX7_dropBetween := goodIn_r _ [7, 1, 2, 8, 9, 10] (by decide +kernel) (by decide +kernel)
set_option maxRecDepth 20000 in
theorem gX7_add_X7_dropBetween : GoodIn wsX7_add (wsV RX7 22 RX7 yX7_dropBetween wsX7_dropBetween) := goodIn_app (goodIn_of _ (by decide +kernel)) ggX7_add_X7_dropBetween
set_option maxRecDepth 20000 in
theorem ggX8_howMany_X8_tellOf : GoodIn wsX8_howMany wsX8_tellOf := goodIn_r _ [6, 7, 1, 8, 9, 10, 11, 12, 13, 14, 15, 16, 17, 18, 19, 20, 21, 29, 30, 31, 32, 33, 34, 35, 36] (by decide +kernel) (by decide +kernel)
set_option maxRecDepth 20000 in
theorem gX8_howMany_X8_tellOf : GoodIn wsX8_howMany (wsV RX8 18 RX8 yX8_tellOf wsX8_tellOf) := goodIn_app (goodIn_of _ (by decide +kernel)) ggX8_howMany_X8_tellOf
set_option maxRecDepth 20000 in
theorem ggX8_howMany_J6_bitCount_0f7a4 : GoodIn wsX8_howMany wsJ6_bitCount_0f7a4 := goodIn_r _ [25, 26, 27, 28] (by decide +kernel) (by decide +kernel)
set_option maxRecDepth 20000 in
theorem gX8_howMany_J6_bitCount_0f7a4 : GoodIn wsX8_howMany (va_wsS RX8 22 yJ6_bitCount_0f7a4 wsJ6_bitCount_0f7a4) := goodIn_app (goodIn_of _ (by decide +kernel)) ggX8_howMany_J6_bitCount_0f7a4
set_option maxRecDepth 20000 in
theorem ggX8_tellOf_X1_wrongBy : GoodIn wsX8_tellOf wsX1_wrongBy := goodIn_r _ [7, 8, 9, 10, 11, 12, 13, 14, 15, 16, 19, 20, 21, 22, 23, 24] (by decide +kernel) (by decide +kernel)
set_option maxRecDepth 20000 in
theorem gX8_tellOf_X1_wrongBy : GoodIn wsX8_tellOf (wsV RX8 28 RX1 yX1_wrongBy wsX1_wrongBy) := goodIn_app (goodIn_of _ (by decide +kernel)) ggX8_tellOf_X1_wrongBy
set_option maxRecDepth 20000 in
theorem ggX9_init_X2_init : GoodIn wsX9_init wsX2_init := goodIn_r _ [32, 33, 2, 3, 34, 35, 36, 18, 19, 37, 38, 9, 10, 39, 40, 41, 42, 43, 44, 45, 46, 47, 48, 49, 50, 51, 52, 53, 54, 55, 56, 57, 58, 95, 96, 97, 98, 99, 100, 117, 118, 119, 110, 111, 112, 124, 125, 126] (by decide +kernel) (by decide +kernel)
set_option maxRecDepth 20000 in
theorem gX9_init_X2_init_n11 : GoodIn wsX9_init (wsX2_init) := ggX9_init_X2_init
set_option maxRecDepth 20000 in
theorem ggX9_init_X0_init : GoodIn wsX9_init wsX0_init := goodIn_r _ [55, 56, 2, 3, 34, 57, 58, 110, 111, 112] (by decide +kernel) (by decide +kernel)
set_option maxRecDepth 20000 in
theorem gX9_init_X0_init_n18 : GoodIn wsX9_init (wsX0_init) := ggX9_init_X0_init
set_option maxRecDepth 20000 in
theorem ggX9_init_X3_init : GoodIn wsX9_init wsX3_init := goodIn_r _ [60, 61, 2, 3, 62, 18, 19, 63, 64, 65, 66, 67, 68, 69, 70, 71, 72, 41, 42, 43, 44, 45, 34, 46, 47, 48, 49, 50, 51, 52, 53, 73, 74, 75, 76, 77, 78, 79, 80, 81, 82, 83, 117, 118, 119, 113, 114, 115, 116, 127, 128, 129, 130, 131, 132, 133, 124, 125, 126] (by decide +kernel) (by decide +kernel)
set_option maxRecDepth 20000 in
theorem gX9_init_X3_init_n25 : GoodIn wsX9_init (wsX3_init) := ggX9_init_X3_init
set_option maxRecDepth 20000 in
theorem ggX9_init_X1_init : GoodIn wsX9_init wsX1_init := goodIn_r _ [42, 43, 2, 3, 44, 45, 34, 46, 47, 48, 49, 50, 51, 52, 53, 117, 118, 119, 124, 125, 126] (by decide +kernel) (by decide +kernel)
set_option maxRecDepth 20000 in
theorem gX9_init_X1_init : GoodIn wsX9_init (wsX1_init) := ggX9_init_X1_init
set_option maxRecDepth 20000 in
theorem ggX9_init_X6_init : GoodIn wsX9_init wsX6_init := goodIn_r _ [86, 87, 2, 3, 34, 88, 89, 120, 121] (by decide +kernel) (by decide +kernel)
set_option maxRecDepth 20000 in
theorem gX9_init_X6_init_n42 : GoodIn wsX9_init (wsX6_init) := ggX9_init_X6_init
set_option maxRecDepth 20000 in
theorem ggX9_init_X8_init : GoodIn wsX9_init wsX8_init := goodIn_r _ [91, 92, 2, 3, 34, 93, 94, 122, 123] (by decide +kernel) (by decide +kernel)
set_option maxRecDepth 20000 in
theorem gX9_init_X8_init_n49 : GoodIn wsX9_init (wsX8_init) := ggX9_init_X8_init
set_option maxRecDepth 20000 in
theorem ggX9_letter_X9_isWithin : GoodIn wsX9_letter wsX9_isWithin := goodIn_r _ [5] (by decide +kernel) (by decide +kernel)
set_option maxRecDepth 20000 in
theorem gX9_letter_X9_isWithin : GoodIn wsX9_letter (va_wsS RX9 62 yX9_isWithin wsX9_isWithin) := goodIn_app (goodIn_of _ (by decide +kernel)) ggX9_letter_X9_isWithin
set_option maxRecDepth 20000 in
theorem ggX9_letter_X2_write : GoodIn wsX9_letter wsX2_write := goodIn_r _ [10, 11, 12, 22, 23, 24, 25, 26, 27] (by decide +kernel) (by decide +kernel)
set_option maxRecDepth 20000 in
theorem gX9_letter_X2_write : GoodIn wsX9_letter (wsV RX9 69 RX2 yX2_write wsX2_write) := goodIn_app (goodIn_of _ (by decide +kernel)) ggX9_letter_X2_write
set_option maxRecDepth 20000 in
theorem ggX9_fault_X2_read : GoodIn wsX9_fault wsX2_read := goodIn_r _ [6, 7, 8, 9, 10, 11, 12, 13, 14, 5, 15, 16, 17, 18, 19, 20, 21, 22, 23, 24, 25, 26, 27, 28, 29, 30, 31, 32, 33, 34, 35, 36, 37, 38, 39, 40, 41, 42, 43, 44, 45, 46, 47, 48, 49, 50, 51, 52, 53, 54, 55, 56, 57, 58, 59, 60, 61, 62, 63, 64, 65, 66, 67, 68, 69, 70, 71, 72, 73, 74, 75, 76, 77, 78, 79, 80, 81, 82, 83, 84, 85, 86, 87, 88, 89, 90, 91, 101, 102, 103, 104, 105, 106, 107, 108, 109, 110, 111, 112, 113, 114, 115] (by decide +kernel) (by decide +kernel)
set_option maxRecDepth 20000 in
theorem gX9_fault_X2_read : GoodIn wsX9_fault (wsV RX9 73 RX2 yX2_read wsX2_read) := goodIn_app (goodIn_of _ (by decide +kernel)) ggX9_fault_X2_read
set_option maxRecDepth 20000 in
theorem ggX9_wall_X2_read : GoodIn wsX9_wall wsX2_read := goodIn_r _ [10, 11, 12, 13, 14, 15, 16, 17, 18, 9, 19, 20, 21, 22, 23, 24, 25, 26, 27, 28, 29, 30, 31, 32, 33, 34, 35, 36, 37, 38, 39, 40, 41, 42, 43, 44, 45, 46, 47, 48, 49, 50, 51, 52, 53, 54, 55, 56, 57, 58, 59, 60, 61, 62, 63, 64, 65, 66, 67, 68, 69, 70, 71, 72, 73, 74, 75, 76, 77, 78, 79, 80, 81, 82, 83, 84, 85, 86, 87, 88, 89, 90, 91, 92, 93, 94, 95, 130, 131, 132, 133, 134, 135, 140, 141, 142, 143, 144, 145, 146, 147, 148] (by decide +kernel) (by decide +kernel)
set_option maxRecDepth 20000 in
theorem gX9_wall_X2_read : GoodIn wsX9_wall (wsV RX9 73 RX2 yX2_read wsX2_read) := goodIn_app (goodIn_of _ (by decide +kernel)) ggX9_wall_X2_read
set_option maxRecDepth 20000 in
theorem ggX9_wall_X2_isWhole : GoodIn wsX9_wall wsX2_isWhole := goodIn_r _ [99, 13, 130, 131, 132, 133, 134, 135] (by decide +kernel) (by decide +kernel)
set_option maxRecDepth 20000 in
theorem gX9_wall_X2_isWhole : GoodIn wsX9_wall (wsV RX9 77 RX2 yX2_isWhole wsX2_isWhole) := goodIn_app (goodIn_of _ (by decide +kernel)) ggX9_wall_X2_isWhole
set_option maxRecDepth 20000 in
theorem ggX9_wall_X3_beginWith : GoodIn wsX9_wall wsX3_beginWith := goodIn_r _ [104, 105, 106, 107, 108, 109, 110, 111, 27, 112, 29, 30, 113, 114, 115, 34, 116, 36, 37, 71, 136, 137, 138, 139, 149, 150, 151, 152, 153, 154, 155, 140, 141, 142, 146, 147, 148] (by decide +kernel) (by decide +kernel)
set_option maxRecDepth 20000 in
theorem gX9_wall_X3_beginWith : GoodIn wsX9_wall (wsV RX9 84 RX3 yX3_beginWith wsX3_beginWith) := goodIn_app (goodIn_of _ (by decide +kernel)) ggX9_wall_X3_beginWith
set_option maxRecDepth 20000 in
theorem ggX9_wall_X0_copyFrom : GoodIn wsX9_wall wsX0_copyFrom := goodIn_r _ [120, 89, 90, 91, 143, 144, 145] (by decide +kernel) (by decide +kernel)
set_option maxRecDepth 20000 in
theorem gX9_wall_X0_copyFrom : GoodIn wsX9_wall (wsV RX9 89 RX0 yX0_copyFrom wsX0_copyFrom) := goodIn_app (goodIn_of _ (by decide +kernel)) ggX9_wall_X0_copyFrom
set_option maxRecDepth 20000 in
theorem ggX9_witness_X9_isWitness : GoodIn wsX9_witness wsX9_isWitness := goodIn_r _ [6, 1, 7, 8, 5, 9, 56, 57, 58, 59, 60, 61, 62, 63, 64, 65, 66, 67, 68, 69, 70, 71] (by decide +kernel) (by decide +kernel)
set_option maxRecDepth 20000 in
theorem gX9_witness_X9_isWitness : GoodIn wsX9_witness (wsV RX9 95 RX9 yX9_isWitness wsX9_isWitness) := goodIn_app (goodIn_of _ (by decide +kernel)) ggX9_witness_X9_isWitness
set_option maxRecDepth 20000 in
theorem ggX9_witness_X7_sightAt : GoodIn wsX9_witness wsX7_sightAt := goodIn_r _ [14, 15, 16, 72, 73, 74] (by decide +kernel) (by decide +kernel)
set_option maxRecDepth 20000 in
theorem gX9_witness_X7_sightAt : GoodIn wsX9_witness (wsV RX9 109 RX7 yX7_sightAt wsX7_sightAt) := goodIn_app (goodIn_of _ (by decide +kernel)) ggX9_witness_X7_sightAt
set_option maxRecDepth 20000 in
theorem ggX9_witness_X4_sortsOf : GoodIn wsX9_witness wsX4_sortsOf := goodIn_r _ [21, 22, 23, 24, 75, 76, 77] (by decide +kernel) (by decide +kernel)
set_option maxRecDepth 20000 in
theorem gX9_witness_X4_sortsOf : GoodIn wsX9_witness (wsV RX9 117 RX4 yX4_sortsOf wsX4_sortsOf) := goodIn_app (goodIn_of _ (by decide +kernel)) ggX9_witness_X4_sortsOf
set_option maxRecDepth 20000 in
theorem ggX9_witness_X4_askFor : GoodIn wsX9_witness wsX4_askFor := goodIn_r _ [28, 29, 30, 31, 32, 33, 18, 19, 20, 21, 22, 23, 24, 34, 35, 36, 37, 38, 39, 40, 75, 76, 77] (by decide +kernel) (by decide +kernel)
set_option maxRecDepth 20000 in
theorem gX9_witness_X4_askFor : GoodIn wsX9_witness (wsV RX9 122 RX4 yX4_askFor wsX4_askFor) := goodIn_app (goodIn_of _ (by decide +kernel)) ggX9_witness_X4_askFor
set_option maxRecDepth 20000 in
theorem ggX9_witness_X1_clashesOf : GoodIn wsX9_witness wsX1_clashesOf := goodIn_r _ [45, 46, 47, 48, 49, 44, 50, 51, 52, 53, 54, 13, 55, 15, 16, 69, 70, 71, 72, 73, 74] (by decide +kernel) (by decide +kernel)
set_option maxRecDepth 20000 in
theorem gX9_witness_X1_clashesOf : GoodIn wsX9_witness (wsV RX9 125 RX1 yX1_clashesOf wsX1_clashesOf) := goodIn_app (goodIn_of _ (by decide +kernel)) ggX9_witness_X1_clashesOf
set_option maxRecDepth 20000 in
theorem ggX9_as_X9_isWitness : GoodIn wsX9_as wsX9_isWitness := goodIn_r _ [6, 1, 7, 8, 5, 9, 16, 17, 18, 19, 20, 21, 22, 23, 24, 25, 26, 27, 28, 29, 30, 31] (by decide +kernel) (by decide +kernel)
set_option maxRecDepth 20000 in
theorem gX9_as_X9_isWitness : GoodIn wsX9_as (wsV RX9 95 RX9 yX9_isWitness wsX9_isWitness) := goodIn_app (goodIn_of _ (by decide +kernel)) ggX9_as_X9_isWitness
set_option maxRecDepth 20000 in
theorem ggX9_as_X9_isWithin : GoodIn wsX9_as wsX9_isWithin := goodIn_r _ [9] (by decide +kernel) (by decide +kernel)
set_option maxRecDepth 20000 in
theorem gX9_as_X9_isWithin : GoodIn wsX9_as (va_wsS RX9 62 yX9_isWithin wsX9_isWithin) := goodIn_app (goodIn_of _ (by decide +kernel)) ggX9_as_X9_isWithin
set_option maxRecDepth 20000 in
theorem ggX9_as_X7_isSuch : GoodIn wsX9_as wsX7_isSuch := goodIn_r _ [14, 15, 32, 33, 34] (by decide +kernel) (by decide +kernel)
set_option maxRecDepth 20000 in
theorem gX9_as_X7_isSuch : GoodIn wsX9_as (wsV RX9 128 RX7 yX7_isSuch wsX7_isSuch) := goodIn_app (goodIn_of _ (by decide +kernel)) ggX9_as_X7_isSuch
set_option maxRecDepth 20000 in
theorem ggX9_tells_X9_isWitness : GoodIn wsX9_tells wsX9_isWitness := goodIn_r _ [6, 1, 7, 8, 5, 9, 20, 21, 22, 23, 24, 25, 26, 27, 28, 29, 30, 31, 32, 33, 34, 35] (by decide +kernel) (by decide +kernel)
set_option maxRecDepth 20000 in
theorem gX9_tells_X9_isWitness : GoodIn wsX9_tells (wsV RX9 95 RX9 yX9_isWitness wsX9_isWitness) := goodIn_app (goodIn_of _ (by decide +kernel)) ggX9_tells_X9_isWitness
set_option maxRecDepth 20000 in
theorem ggX9_tells_X9_isThing : GoodIn wsX9_tells wsX9_isThing := goodIn_r _ [12, 7, 8, 5, 9] (by decide +kernel) (by decide +kernel)
set_option maxRecDepth 20000 in
theorem gX9_tells_X9_isThing : GoodIn wsX9_tells (va_wsS RX9 131 yX9_isThing wsX9_isThing) := goodIn_app (goodIn_of _ (by decide +kernel)) ggX9_tells_X9_isThing
set_option maxRecDepth 20000 in
theorem ggX9_tells_X7_colourOf : GoodIn wsX9_tells wsX7_colourOf := goodIn_r _ [17, 18, 19, 36, 37, 38] (by decide +kernel) (by decide +kernel)
set_option maxRecDepth 20000 in
theorem gX9_tells_X7_colourOf : GoodIn wsX9_tells (wsV RX9 134 RX7 yX7_colourOf wsX7_colourOf) := goodIn_app (goodIn_of _ (by decide +kernel)) ggX9_tells_X7_colourOf
set_option maxRecDepth 20000 in
theorem ggX9_said_X9_isThing : GoodIn wsX9_said wsX9_isThing := goodIn_r _ [5, 6, 7, 4, 8] (by decide +kernel) (by decide +kernel)
set_option maxRecDepth 20000 in
theorem gX9_said_X9_isThing : GoodIn wsX9_said (va_wsS RX9 131 yX9_isThing wsX9_isThing) := goodIn_app (goodIn_of _ (by decide +kernel)) ggX9_said_X9_isThing
set_option maxRecDepth 20000 in
theorem ggX9_said_X9_hasWall : GoodIn wsX9_said wsX9_hasWall := goodIn_r _ [12, 1, 36, 37, 38, 39, 40, 41, 42, 43, 44, 45, 46, 47, 48, 49, 50, 51] (by decide +kernel) (by decide +kernel)
set_option maxRecDepth 20000 in
theorem gX9_said_X9_hasWall : GoodIn wsX9_said (wsV RX9 137 RX9 yX9_hasWall wsX9_hasWall) := goodIn_app (goodIn_of _ (by decide +kernel)) ggX9_said_X9_hasWall
set_option maxRecDepth 20000 in
theorem ggX9_said_X1_everyone : GoodIn wsX9_said wsX1_everyone := goodIn_r _ [17, 18, 49, 50, 51] (by decide +kernel) (by decide +kernel)
set_option maxRecDepth 20000 in
theorem gX9_said_X1_everyone : GoodIn wsX9_said (wsV RX9 140 RX1 yX1_everyone wsX1_everyone) := goodIn_app (goodIn_of _ (by decide +kernel)) ggX9_said_X1_everyone
set_option maxRecDepth 20000 in
theorem ggX9_said_X1_saidAmong : GoodIn wsX9_said wsX1_saidAmong := goodIn_r _ [22, 23, 24, 25, 26, 16, 27, 18, 28, 29, 30, 31, 32, 33, 34, 35, 49, 50, 51, 52, 53, 54] (by decide +kernel) (by decide +kernel)
set_option maxRecDepth 20000 in
theorem gX9_said_X1_saidAmong : GoodIn wsX9_said (wsV RX9 143 RX1 yX1_saidAmong wsX1_saidAmong) := goodIn_app (goodIn_of _ (by decide +kernel)) ggX9_said_X1_saidAmong
set_option maxRecDepth 20000 in
theorem ggX9_having_X9_isThing : GoodIn wsX9_having wsX9_isThing := goodIn_r _ [5, 6, 7, 4, 8] (by decide +kernel) (by decide +kernel)
set_option maxRecDepth 20000 in
theorem gX9_having_X9_isThing : GoodIn wsX9_having (va_wsS RX9 131 yX9_isThing wsX9_isThing) := goodIn_app (goodIn_of _ (by decide +kernel)) ggX9_having_X9_isThing
set_option maxRecDepth 20000 in
theorem ggX9_having_X9_isColour : GoodIn wsX9_having wsX9_isColour := goodIn_r _ [11, 6, 7, 4, 8] (by decide +kernel) (by decide +kernel)
set_option maxRecDepth 20000 in
theorem gX9_having_X9_isColour : GoodIn wsX9_having (va_wsS RX9 147 yX9_isColour wsX9_isColour) := goodIn_app (goodIn_of _ (by decide +kernel)) ggX9_having_X9_isColour
set_option maxRecDepth 20000 in
theorem ggX9_having_X9_hasWall : GoodIn wsX9_having wsX9_hasWall := goodIn_r _ [15, 1, 30, 31, 32, 33, 34, 35, 36, 37, 38, 39, 40, 41, 42, 43, 44, 45] (by decide +kernel) (by decide +kernel)
set_option maxRecDepth 20000 in
theorem gX9_having_X9_hasWall : GoodIn wsX9_having (wsV RX9 137 RX9 yX9_hasWall wsX9_hasWall) := goodIn_app (goodIn_of _ (by decide +kernel)) ggX9_having_X9_hasWall
set_option maxRecDepth 20000 in
theorem ggX9_having_X1_havingSight : GoodIn wsX9_having wsX1_havingSight := goodIn_r _ [20, 21, 22, 23, 24, 25, 26, 27, 28, 29, 43, 44, 45, 46, 47, 48] (by decide +kernel) (by decide +kernel)
set_option maxRecDepth 20000 in
theorem gX9_having_X1_havingSight : GoodIn wsX9_having (wsV RX9 150 RX1 yX1_havingSight wsX1_havingSight) := goodIn_app (goodIn_of _ (by decide +kernel)) ggX9_having_X1_havingSight
set_option maxRecDepth 20000 in
theorem ggX9_show_X9_isWitness : GoodIn wsX9_show wsX9_isWitness := goodIn_r _ [6, 1, 7, 8, 5, 9, 36, 37, 38, 39, 40, 41, 42, 43, 44, 45, 46, 47, 48, 49, 50, 51] (by decide +kernel) (by decide +kernel)
set_option maxRecDepth 20000 in
theorem gX9_show_X9_isWitness : GoodIn wsX9_show (wsV RX9 95 RX9 yX9_isWitness wsX9_isWitness) := goodIn_app (goodIn_of _ (by decide +kernel)) ggX9_show_X9_isWitness
set_option maxRecDepth 20000 in
theorem ggX9_show_X9_isThing : GoodIn wsX9_show wsX9_isThing := goodIn_r _ [12, 7, 8, 5, 9] (by decide +kernel) (by decide +kernel)
set_option maxRecDepth 20000 in
theorem gX9_show_X9_isThing : GoodIn wsX9_show (va_wsS RX9 131 yX9_isThing wsX9_isThing) := goodIn_app (goodIn_of _ (by decide +kernel)) ggX9_show_X9_isThing
set_option maxRecDepth 20000 in
theorem ggX9_show_X9_isColour : GoodIn wsX9_show wsX9_isColour := goodIn_r _ [15, 7, 8, 5, 9] (by decide +kernel) (by decide +kernel)
set_option maxRecDepth 20000 in
theorem gX9_show_X9_isColour : GoodIn wsX9_show (va_wsS RX9 147 yX9_isColour wsX9_isColour) := goodIn_app (goodIn_of _ (by decide +kernel)) ggX9_show_X9_isColour
set_option maxRecDepth 20000 in
theorem ggX9_show_X7_meets : GoodIn wsX9_show wsX7_meets := goodIn_r _ [20, 21, 22, 23, 24, 25, 19, 26, 27, 28, 29, 30, 31, 32, 33, 34, 35, 52, 53, 54] (by decide +kernel) (by decide +kernel)
set_option maxRecDepth 20000 in
theorem gX9_show_X7_meets : GoodIn wsX9_show (wsV RX9 156 RX7 yX7_meets wsX7_meets) := goodIn_app (goodIn_of _ (by decide +kernel)) ggX9_show_X7_meets
set_option maxRecDepth 20000 in
theorem ggX9_be_X9_isWitness : GoodIn wsX9_be wsX9_isWitness := goodIn_r _ [6, 1, 7, 8, 5, 9, 10, 11, 12, 13, 14, 15, 16, 17, 18, 19, 20, 21, 22, 23, 24, 25] (by decide +kernel) (by decide +kernel)
set_option maxRecDepth 20000 in
theorem gX9_be_X9_isWitness : GoodIn wsX9_be (wsV RX9 95 RX9 yX9_isWitness wsX9_isWitness) := goodIn_app (goodIn_of _ (by decide +kernel)) ggX9_be_X9_isWitness
set_option maxRecDepth 20000 in
theorem ggX9_be_X9_isWithin : GoodIn wsX9_be wsX9_isWithin := goodIn_r _ [9] (by decide +kernel) (by decide +kernel)
set_option maxRecDepth 20000 in
theorem gX9_be_X9_isWithin : GoodIn wsX9_be (va_wsS RX9 62 yX9_isWithin wsX9_isWithin) := goodIn_app (goodIn_of _ (by decide +kernel)) ggX9_be_X9_isWithin
set_option maxRecDepth 20000 in
theorem ggX9_slip_X9_isWithin : GoodIn wsX9_slip wsX9_isWithin := goodIn_r _ [5] (by decide +kernel) (by decide +kernel)
set_option maxRecDepth 20000 in
theorem gX9_slip_X9_isWithin : GoodIn wsX9_slip (va_wsS RX9 62 yX9_isWithin wsX9_isWithin) := goodIn_app (goodIn_of _ (by decide +kernel)) ggX9_slip_X9_isWithin
set_option maxRecDepth 20000 in
theorem ggX9_slip_X9_isWitness : GoodIn wsX9_slip wsX9_isWitness := goodIn_r _ [9, 1, 2, 3, 4, 5, 25, 26, 27, 28, 29, 30, 31, 32, 33, 34, 35, 36, 37, 42, 43, 44] (by decide +kernel) (by decide +kernel)
set_option maxRecDepth 20000 in
theorem gX9_slip_X9_isWitness : GoodIn wsX9_slip (wsV RX9 95 RX9 yX9_isWitness wsX9_isWitness) := goodIn_app (goodIn_of _ (by decide +kernel)) ggX9_slip_X9_isWitness
set_option maxRecDepth 20000 in
theorem ggX9_slip_X9_isThing : GoodIn wsX9_slip wsX9_isThing := goodIn_r _ [12, 2, 3, 4, 5] (by decide +kernel) (by decide +kernel)
set_option maxRecDepth 20000 in
theorem gX9_slip_X9_isThing : GoodIn wsX9_slip (va_wsS RX9 131 yX9_isThing wsX9_isThing) := goodIn_app (goodIn_of _ (by decide +kernel)) ggX9_slip_X9_isThing
set_option maxRecDepth 20000 in
theorem ggX9_slip_X9_isColour : GoodIn wsX9_slip wsX9_isColour := goodIn_r _ [15, 2, 3, 4, 5] (by decide +kernel) (by decide +kernel)
set_option maxRecDepth 20000 in
theorem gX9_slip_X9_isColour : GoodIn wsX9_slip (va_wsS RX9 147 yX9_isColour wsX9_isColour) := goodIn_app (goodIn_of _ (by decide +kernel)) ggX9_slip_X9_isColour
set_option maxRecDepth 20000 in
theorem ggX9_slip_X5_add : GoodIn wsX9_slip wsX5_add := goodIn_r _ [20, 21, 22, 23, 24, 38, 39, 40, 41] (by decide +kernel) (by decide +kernel)
set_option maxRecDepth 20000 in
theorem gX9_slip_X5_add : GoodIn wsX9_slip (wsV RX9 166 RX5 yX5_add wsX5_add) := goodIn_app (goodIn_of _ (by decide +kernel)) ggX9_slip_X5_add
set_option maxRecDepth 20000 in
theorem ggX9_term_X9_isWithin : GoodIn wsX9_term wsX9_isWithin := goodIn_r _ [8] (by decide +kernel) (by decide +kernel)
set_option maxRecDepth 20000 in
theorem gX9_term_X9_isWithin : GoodIn wsX9_term (va_wsS RX9 62 yX9_isWithin wsX9_isWithin) := goodIn_app (goodIn_of _ (by decide +kernel)) ggX9_term_X9_isWithin
set_option maxRecDepth 20000 in
theorem ggX9_term_X9_hasWall : GoodIn wsX9_term wsX9_hasWall := goodIn_r _ [12, 2, 102, 103, 104, 105, 106, 107, 108, 109, 110, 111, 112, 113, 114, 115, 116, 117] (by decide +kernel) (by decide +kernel)
set_option maxRecDepth 20000 in
theorem gX9_term_X9_hasWall : GoodIn wsX9_term (wsV RX9 137 RX9 yX9_hasWall wsX9_hasWall) := goodIn_app (goodIn_of _ (by decide +kernel)) ggX9_term_X9_hasWall
set_option maxRecDepth 20000 in
theorem ggX9_term_X1_copyFrom : GoodIn wsX9_term wsX1_copyFrom := goodIn_r _ [17, 18, 19, 20, 21, 22, 23, 24, 25, 26, 27, 115, 116, 117, 118, 119, 120] (by decide +kernel) (by decide +kernel)
set_option maxRecDepth 20000 in
theorem gX9_term_X1_copyFrom : GoodIn wsX9_term (wsV RX9 170 RX1 yX1_copyFrom wsX1_copyFrom) := goodIn_app (goodIn_of _ (by decide +kernel)) ggX9_term_X1_copyFrom
set_option maxRecDepth 20000 in
theorem ggX9_term_X6_goBy : GoodIn wsX9_term wsX6_goBy := goodIn_r _ [32, 33, 34, 35, 36, 37, 31, 38, 39, 40, 41, 16, 42, 18, 43, 44, 45, 46, 47, 48, 49, 50, 51, 19, 52, 53, 54, 23, 55, 26, 27, 56, 57, 58, 59, 60, 61, 62, 63, 64, 6, 7, 8, 65, 66, 67, 68, 25, 69, 70, 71, 72, 73, 74, 75, 76, 77, 78, 79, 80, 81, 82, 83, 84, 85, 86, 87, 88, 89, 121, 122, 123, 124, 125, 115, 116, 117, 118, 119, 120, 126, 127, 128, 129] (by decide +kernel) (by decide +kernel)
set_option maxRecDepth 20000 in
theorem gX9_term_X6_goBy : GoodIn wsX9_term (wsV RX9 172 RX6 yX6_goBy wsX6_goBy) := goodIn_app (goodIn_of _ (by decide +kernel)) ggX9_term_X6_goBy
set_option maxRecDepth 20000 in
theorem ggX9_term_X6_mostWon : GoodIn wsX9_term wsX6_mostWon := goodIn_r _ [93, 34, 121, 122] (by decide +kernel) (by decide +kernel)
set_option maxRecDepth 20000 in
theorem gX9_term_X6_mostWon : GoodIn wsX9_term (wsV RX9 176 RX6 yX6_mostWon wsX6_mostWon) := goodIn_app (goodIn_of _ (by decide +kernel)) ggX9_term_X6_mostWon
set_option maxRecDepth 20000 in
theorem ggX9_term_X6_leastOrder : GoodIn wsX9_term wsX6_leastOrder := goodIn_r _ [97, 98, 99, 100, 31, 101, 34, 86, 87, 88, 89, 33, 121, 122] (by decide +kernel) (by decide +kernel)
set_option maxRecDepth 20000 in
theorem gX9_term_X6_leastOrder : GoodIn wsX9_term (wsV RX9 179 RX6 yX6_leastOrder wsX6_leastOrder) := goodIn_app (goodIn_of _ (by decide +kernel)) ggX9_term_X6_leastOrder
set_option maxRecDepth 20000 in
theorem ggX9_keep_X9_isWithin : GoodIn wsX9_keep wsX9_isWithin := goodIn_r _ [5] (by decide +kernel) (by decide +kernel)
set_option maxRecDepth 20000 in
theorem gX9_keep_X9_isWithin : GoodIn wsX9_keep (va_wsS RX9 62 yX9_isWithin wsX9_isWithin) := goodIn_app (goodIn_of _ (by decide +kernel)) ggX9_keep_X9_isWithin
set_option maxRecDepth 20000 in
theorem ggX9_keep_X9_hasWall : GoodIn wsX9_keep wsX9_hasWall := goodIn_r _ [9, 1, 49, 50, 51, 52, 53, 54, 55, 56, 57, 58, 59, 60, 61, 62, 63, 64] (by decide +kernel) (by decide +kernel)
set_option maxRecDepth 20000 in
theorem gX9_keep_X9_hasWall : GoodIn wsX9_keep (wsV RX9 137 RX9 yX9_hasWall wsX9_hasWall) := goodIn_app (goodIn_of _ (by decide +kernel)) ggX9_keep_X9_hasWall
set_option maxRecDepth 20000 in
theorem ggX9_keep_X1_fewestToKeep : GoodIn wsX9_keep wsX1_fewestToKeep := goodIn_r _ [14, 15, 16, 17, 18, 13, 19, 20, 21, 22, 23, 24, 25, 26, 27, 28, 29, 30, 31, 32, 33, 34, 35, 36, 37, 38, 39, 40, 41, 42, 43, 44, 45, 46, 47, 62, 63, 64, 65, 66, 67] (by decide +kernel) (by decide +kernel)
set_option maxRecDepth 20000 in
theorem gX9_keep_X1_fewestToKeep : GoodIn wsX9_keep (wsV RX9 182 RX1 yX1_fewestToKeep wsX1_fewestToKeep) := goodIn_app (goodIn_of _ (by decide +kernel)) ggX9_keep_X1_fewestToKeep
set_option maxRecDepth 20000 in
theorem ggX9_keep_J6_bitCount_0f7a4 : GoodIn wsX9_keep wsJ6_bitCount_0f7a4 := goodIn_r _ [23, 24, 25, 26] (by decide +kernel) (by decide +kernel)
set_option maxRecDepth 20000 in
theorem gX9_keep_J6_bitCount_0f7a4 : GoodIn wsX9_keep (va_wsS RX9 185 yJ6_bitCount_0f7a4 wsJ6_bitCount_0f7a4) := goodIn_app (goodIn_of _ (by decide +kernel)) ggX9_keep_J6_bitCount_0f7a4
set_option maxRecDepth 20000 in
theorem ggX9_peace_X9_isWithin : GoodIn wsX9_peace wsX9_isWithin := goodIn_r _ [5] (by decide +kernel) (by decide +kernel)
set_option maxRecDepth 20000 in
theorem gX9_peace_X9_isWithin : GoodIn wsX9_peace (va_wsS RX9 62 yX9_isWithin wsX9_isWithin) := goodIn_app (goodIn_of _ (by decide +kernel)) ggX9_peace_X9_isWithin
set_option maxRecDepth 20000 in
theorem ggX9_peace_X9_hasWall : GoodIn wsX9_peace wsX9_hasWall := goodIn_r _ [9, 1, 44, 45, 46, 47, 48, 49, 50, 51, 52, 53, 54, 55, 56, 57, 58, 59] (by decide +kernel) (by decide +kernel)
set_option maxRecDepth 20000 in
theorem gX9_peace_X9_hasWall : GoodIn wsX9_peace (wsV RX9 137 RX9 yX9_hasWall wsX9_hasWall) := goodIn_app (goodIn_of _ (by decide +kernel)) ggX9_peace_X9_hasWall
set_option maxRecDepth 20000 in
theorem ggX9_peace_X1_fewestToSendAway : GoodIn wsX9_peace wsX1_fewestToSendAway := goodIn_r _ [14, 15, 16, 17, 18, 13, 19, 20, 21, 22, 23, 24, 25, 26, 27, 28, 29, 30, 31, 32, 33, 34, 35, 36, 37, 38, 39, 40, 41, 42, 57, 58, 59, 60, 61, 62] (by decide +kernel) (by decide +kernel)
set_option maxRecDepth 20000 in
theorem gX9_peace_X1_fewestToSendAway : GoodIn wsX9_peace (wsV RX9 190 RX1 yX1_fewestToSendAway wsX1_fewestToSendAway) := goodIn_app (goodIn_of _ (by decide +kernel)) ggX9_peace_X1_fewestToSendAway
set_option maxRecDepth 20000 in
theorem ggX9_peace_J6_bitCount_0f7a4 : GoodIn wsX9_peace wsJ6_bitCount_0f7a4 := goodIn_r _ [23, 24, 25, 26] (by decide +kernel) (by decide +kernel)
set_option maxRecDepth 20000 in
theorem gX9_peace_J6_bitCount_0f7a4 : GoodIn wsX9_peace (va_wsS RX9 185 yJ6_bitCount_0f7a4 wsJ6_bitCount_0f7a4) := goodIn_app (goodIn_of _ (by decide +kernel)) ggX9_peace_J6_bitCount_0f7a4
set_option maxRecDepth 20000 in
theorem ggX9_worlds_X9_isWithin : GoodIn wsX9_worlds wsX9_isWithin := goodIn_r _ [6] (by decide +kernel) (by decide +kernel)
set_option maxRecDepth 20000 in
theorem gX9_worlds_X9_isWithin : GoodIn wsX9_worlds (va_wsS RX9 62 yX9_isWithin wsX9_isWithin) := goodIn_app (goodIn_of _ (by decide +kernel)) ggX9_worlds_X9_isWithin
set_option maxRecDepth 20000 in
theorem ggX9_worlds_X9_hasWall : GoodIn wsX9_worlds wsX9_hasWall := goodIn_r _ [10, 2, 43, 44, 45, 46, 47, 48, 49, 50, 51, 52, 53, 54, 55, 56, 57, 58] (by decide +kernel) (by decide +kernel)
set_option maxRecDepth 20000 in
theorem gX9_worlds_X9_hasWall : GoodIn wsX9_worlds (wsV RX9 137 RX9 yX9_hasWall wsX9_hasWall) := goodIn_app (goodIn_of _ (by decide +kernel)) ggX9_worlds_X9_hasWall
set_option maxRecDepth 20000 in
theorem ggX9_worlds_X8_howMany : GoodIn wsX9_worlds wsX8_howMany := goodIn_r _ [15, 16, 17, 18, 19, 14, 20, 21, 22, 23, 24, 25, 26, 27, 28, 29, 30, 31, 32, 33, 34, 35, 36, 37, 38, 39, 40, 41, 42, 59, 60, 56, 57, 58, 61, 62, 63] (by decide +kernel) (by decide +kernel)
set_option maxRecDepth 20000 in
theorem gX9_worlds_X8_howMany : GoodIn wsX9_worlds (wsV RX9 193 RX8 yX8_howMany wsX8_howMany) := goodIn_app (goodIn_of _ (by decide +kernel)) ggX9_worlds_X8_howMany
set_option maxRecDepth 20000 in
theorem ggX9_odds_X9_isThing : GoodIn wsX9_odds wsX9_isThing := goodIn_r _ [6, 7, 8, 5, 9] (by decide +kernel) (by decide +kernel)
set_option maxRecDepth 20000 in
theorem gX9_odds_X9_isThing : GoodIn wsX9_odds (va_wsS RX9 131 yX9_isThing wsX9_isThing) := goodIn_app (goodIn_of _ (by decide +kernel)) ggX9_odds_X9_isThing
set_option maxRecDepth 20000 in
theorem ggX9_odds_X9_isColour : GoodIn wsX9_odds wsX9_isColour := goodIn_r _ [12, 7, 8, 5, 9] (by decide +kernel) (by decide +kernel)
set_option maxRecDepth 20000 in
theorem gX9_odds_X9_isColour : GoodIn wsX9_odds (va_wsS RX9 147 yX9_isColour wsX9_isColour) := goodIn_app (goodIn_of _ (by decide +kernel)) ggX9_odds_X9_isColour
set_option maxRecDepth 20000 in
theorem ggX9_odds_X9_isWithin : GoodIn wsX9_odds wsX9_isWithin := goodIn_r _ [9] (by decide +kernel) (by decide +kernel)
set_option maxRecDepth 20000 in
theorem gX9_odds_X9_isWithin : GoodIn wsX9_odds (va_wsS RX9 62 yX9_isWithin wsX9_isWithin) := goodIn_app (goodIn_of _ (by decide +kernel)) ggX9_odds_X9_isWithin
set_option maxRecDepth 20000 in
theorem ggX9_odds_X9_hasWall : GoodIn wsX9_odds wsX9_hasWall := goodIn_r _ [16, 2, 52, 53, 54, 55, 56, 57, 58, 59, 60, 61, 62, 63, 64, 65, 66, 67] (by decide +kernel) (by decide +kernel)
set_option maxRecDepth 20000 in
theorem gX9_odds_X9_hasWall : GoodIn wsX9_odds (wsV RX9 137 RX9 yX9_hasWall wsX9_hasWall) := goodIn_app (goodIn_of _ (by decide +kernel)) ggX9_odds_X9_hasWall
set_option maxRecDepth 20000 in
theorem ggX9_odds_X8_howMany : GoodIn wsX9_odds wsX8_howMany := goodIn_r _ [21, 22, 23, 24, 25, 20, 26, 27, 28, 29, 30, 31, 32, 33, 34, 35, 36, 37, 38, 39, 40, 41, 42, 43, 44, 45, 46, 47, 48, 68, 69, 65, 66, 67, 70, 71, 72] (by decide +kernel) (by decide +kernel)
set_option maxRecDepth 20000 in
theorem gX9_odds_X8_howMany : GoodIn wsX9_odds (wsV RX9 193 RX8 yX8_howMany wsX8_howMany) := goodIn_app (goodIn_of _ (by decide +kernel)) ggX9_odds_X8_howMany
set_option maxRecDepth 20000 in
theorem ggX9_odds_X9_commonMeasure : GoodIn wsX9_odds wsX9_commonMeasure := goodIn_r _ [51] (by decide +kernel) (by decide +kernel)
set_option maxRecDepth 20000 in
theorem gX9_odds_X9_commonMeasure : GoodIn wsX9_odds (va_wsS RX9 197 yX9_commonMeasure wsX9_commonMeasure) := goodIn_app (goodIn_of _ (by decide +kernel)) ggX9_odds_X9_commonMeasure
set_option maxRecDepth 20000 in
theorem ggX9_see_X9_isWitness : GoodIn wsX9_see wsX9_isWitness := goodIn_r _ [6, 1, 7, 8, 5, 9, 18, 19, 20, 21, 22, 23, 24, 25, 26, 27, 28, 29, 30, 34, 35, 36] (by decide +kernel) (by decide +kernel)
set_option maxRecDepth 20000 in
theorem gX9_see_X9_isWitness : GoodIn wsX9_see (wsV RX9 95 RX9 yX9_isWitness wsX9_isWitness) := goodIn_app (goodIn_of _ (by decide +kernel)) ggX9_see_X9_isWitness
set_option maxRecDepth 20000 in
theorem ggX9_see_X9_isWithin : GoodIn wsX9_see wsX9_isWithin := goodIn_r _ [9] (by decide +kernel) (by decide +kernel)
set_option maxRecDepth 20000 in
theorem gX9_see_X9_isWithin : GoodIn wsX9_see (va_wsS RX9 62 yX9_isWithin wsX9_isWithin) := goodIn_app (goodIn_of _ (by decide +kernel)) ggX9_see_X9_isWithin
set_option maxRecDepth 20000 in
theorem ggX9_see_X4_add : GoodIn wsX9_see wsX4_add := goodIn_r _ [14, 15, 16, 17, 31, 32, 33] (by decide +kernel) (by decide +kernel)
set_option maxRecDepth 20000 in
theorem gX9_see_X4_add : GoodIn wsX9_see (wsV RX9 201 RX4 yX4_add wsX4_add) := goodIn_app (goodIn_of _ (by decide +kernel)) ggX9_see_X4_add
set_option maxRecDepth 20000 in
theorem ggX9_drawn_X9_isWithin : GoodIn wsX9_drawn wsX9_isWithin := goodIn_r _ [6] (by decide +kernel) (by decide +kernel)
set_option maxRecDepth 20000 in
theorem gX9_drawn_X9_isWithin : GoodIn wsX9_drawn (va_wsS RX9 62 yX9_isWithin wsX9_isWithin) := goodIn_app (goodIn_of _ (by decide +kernel)) ggX9_drawn_X9_isWithin
set_option maxRecDepth 20000 in
theorem ggX9_drawn_X9_hasWall : GoodIn wsX9_drawn wsX9_hasWall := goodIn_r _ [10, 2, 64, 65, 66, 67, 68, 69, 70, 71, 72, 73, 74, 75, 76, 77, 78, 79] (by decide +kernel) (by decide +kernel)
set_option maxRecDepth 20000 in
theorem gX9_drawn_X9_hasWall : GoodIn wsX9_drawn (wsV RX9 137 RX9 yX9_hasWall wsX9_hasWall) := goodIn_app (goodIn_of _ (by decide +kernel)) ggX9_drawn_X9_hasWall
set_option maxRecDepth 20000 in
theorem ggX9_drawn_X1_copyFrom : GoodIn wsX9_drawn wsX1_copyFrom := goodIn_r _ [15, 16, 17, 18, 19, 20, 21, 22, 23, 24, 25, 77, 78, 79, 80, 81, 82] (by decide +kernel) (by decide +kernel)
set_option maxRecDepth 20000 in
theorem gX9_drawn_X1_copyFrom : GoodIn wsX9_drawn (wsV RX9 170 RX1 yX1_copyFrom wsX1_copyFrom) := goodIn_app (goodIn_of _ (by decide +kernel)) ggX9_drawn_X1_copyFrom
set_option maxRecDepth 20000 in
theorem ggX9_drawn_X9_seedAfter : GoodIn wsX9_drawn wsX9_seedAfter := goodIn_r _ [28, 29, 30] (by decide +kernel) (by decide +kernel)
set_option maxRecDepth 20000 in
theorem gX9_drawn_X9_seedAfter : GoodIn wsX9_drawn (va_wsS RX9 204 yX9_seedAfter wsX9_seedAfter) := goodIn_app (goodIn_of _ (by decide +kernel)) ggX9_drawn_X9_seedAfter
set_option maxRecDepth 20000 in
theorem ggX9_drawn_X9_drawOf : GoodIn wsX9_drawn wsX9_drawOf := goodIn_r _ [33, 34] (by decide +kernel) (by decide +kernel)
set_option maxRecDepth 20000 in
theorem gX9_drawn_X9_drawOf : GoodIn wsX9_drawn (va_wsS RX9 207 yX9_drawOf wsX9_drawOf) := goodIn_app (goodIn_of _ (by decide +kernel)) ggX9_drawn_X9_drawOf
set_option maxRecDepth 20000 in
theorem ggX9_drawn_X7_meets : GoodIn wsX9_drawn wsX7_meets := goodIn_r _ [38, 23, 24, 39, 40, 41, 21, 42, 25, 43, 44, 45, 46, 47, 48, 49, 50, 80, 81, 82] (by decide +kernel) (by decide +kernel)
set_option maxRecDepth 20000 in
theorem gX9_drawn_X7_meets : GoodIn wsX9_drawn (wsV RX9 156 RX7 yX7_meets wsX7_meets) := goodIn_app (goodIn_of _ (by decide +kernel)) ggX9_drawn_X7_meets
set_option maxRecDepth 20000 in
theorem ggX9_drawn_X1_everyone : GoodIn wsX9_drawn wsX1_everyone := goodIn_r _ [54, 16, 77, 78, 79] (by decide +kernel) (by decide +kernel)
set_option maxRecDepth 20000 in
theorem gX9_drawn_X1_everyone : GoodIn wsX9_drawn (wsV RX9 140 RX1 yX1_everyone wsX1_everyone) := goodIn_app (goodIn_of _ (by decide +kernel)) ggX9_drawn_X1_everyone
set_option maxRecDepth 20000 in
theorem ggX9_drawn_X1_clashesAmong : GoodIn wsX9_drawn wsX1_clashesAmong := goodIn_r _ [58, 16, 59, 60, 61, 14, 62, 17, 63, 44, 45, 21, 46, 24, 25, 77, 78, 79, 80, 81, 82] (by decide +kernel) (by decide +kernel)
set_option maxRecDepth 20000 in
theorem gX9_drawn_X1_clashesAmong : GoodIn wsX9_drawn (wsV RX9 210 RX1 yX1_clashesAmong wsX1_clashesAmong) := goodIn_app (goodIn_of _ (by decide +kernel)) ggX9_drawn_X1_clashesAmong
set_option maxRecDepth 20000 in
theorem ggX9_image_X9_hasWall : GoodIn wsX9_image wsX9_hasWall := goodIn_r _ [8, 2, 50, 51, 52, 53, 54, 55, 56, 57, 58, 59, 60, 61, 62, 63, 64, 65] (by decide +kernel) (by decide +kernel)
set_option maxRecDepth 20000 in
theorem gX9_image_X9_hasWall : GoodIn wsX9_image (wsV RX9 137 RX9 yX9_hasWall wsX9_hasWall) := goodIn_app (goodIn_of _ (by decide +kernel)) ggX9_image_X9_hasWall
set_option maxRecDepth 20000 in
theorem ggX9_image_X3_copyFrom : GoodIn wsX9_image wsX3_copyFrom := goodIn_r _ [13, 14, 15, 16, 17, 18, 19, 20, 21, 22, 23, 24, 25, 26, 27, 28, 29, 30, 31, 32, 33, 34, 35, 36, 37, 38, 39, 40, 41, 42, 43, 44, 45, 46, 47, 48, 49, 59, 60, 61, 62, 63, 64, 65, 66, 67, 68, 69, 70, 71, 72, 73, 74, 75] (by decide +kernel) (by decide +kernel)
set_option maxRecDepth 20000 in
theorem gX9_image_X3_copyFrom : GoodIn wsX9_image (wsV RX9 213 RX3 yX3_copyFrom wsX3_copyFrom) := goodIn_app (goodIn_of _ (by decide +kernel)) ggX9_image_X3_copyFrom
set_option maxRecDepth 20000 in
theorem ggX9_restore_X3_copyFrom : GoodIn wsX9_restore wsX3_copyFrom := goodIn_r _ [8, 9, 10, 11, 12, 13, 14, 15, 16, 17, 18, 19, 20, 21, 22, 23, 24, 25, 26, 27, 28, 29, 30, 31, 32, 33, 34, 35, 36, 37, 38, 39, 40, 41, 42, 43, 44, 54, 55, 56, 57, 58, 59, 60, 61, 62, 63, 64, 65, 66, 67, 68, 69, 70] (by decide +kernel) (by decide +kernel)
set_option maxRecDepth 20000 in
theorem gX9_restore_X3_copyFrom : GoodIn wsX9_restore (wsV RX9 213 RX3 yX3_copyFrom wsX3_copyFrom) := goodIn_app (goodIn_of _ (by decide +kernel)) ggX9_restore_X3_copyFrom
set_option maxRecDepth 20000 in
theorem ggX9_count_X1_unlikeSights : GoodIn wsX9_count wsX1_unlikeSights := goodIn_r _ [9, 10, 11, 12, 8, 13, 14, 15, 16, 17, 18, 19, 20, 21, 22, 52, 53, 54, 71, 72, 73] (by decide +kernel) (by decide +kernel)
set_option maxRecDepth 20000 in
theorem gX9_count_X1_unlikeSights : GoodIn wsX9_count (wsV RX9 217 RX1 yX1_unlikeSights wsX1_unlikeSights) := goodIn_app (goodIn_of _ (by decide +kernel)) ggX9_count_X1_unlikeSights
set_option maxRecDepth 20000 in
theorem ggX9_count_X1_everyone : GoodIn wsX9_count wsX1_everyone := goodIn_r _ [26, 14, 52, 53, 54] (by decide +kernel) (by decide +kernel)
set_option maxRecDepth 20000 in
theorem gX9_count_X1_everyone : GoodIn wsX9_count (wsV RX9 140 RX1 yX1_everyone wsX1_everyone) := goodIn_app (goodIn_of _ (by decide +kernel)) ggX9_count_X1_everyone
set_option maxRecDepth 20000 in
theorem ggX9_count_X1_clashesAmong : GoodIn wsX9_count wsX1_clashesAmong := goodIn_r _ [30, 14, 31, 32, 33, 8, 34, 15, 35, 36, 37, 19, 38, 21, 22, 52, 53, 54, 71, 72, 73] (by decide +kernel) (by decide +kernel)
set_option maxRecDepth 20000 in
theorem gX9_count_X1_clashesAmong : GoodIn wsX9_count (wsV RX9 210 RX1 yX1_clashesAmong wsX1_clashesAmong) := goodIn_app (goodIn_of _ (by decide +kernel)) ggX9_count_X1_clashesAmong
set_option maxRecDepth 20000 in
theorem ggX9_digest_X9_witness : GoodIn wsX9_digest wsX9_witness := goodIn_r _ [9, 2, 10, 11, 12, 8, 13, 14, 15, 16, 17, 18, 19, 20, 21, 22, 23, 24, 25, 26, 27, 28, 29, 30, 31, 32, 33, 34, 35, 36, 37, 38, 39, 40, 41, 42, 43, 44, 45, 46, 47, 48, 49, 50, 51, 52, 53, 54, 55, 56, 57, 58, 59, 60, 61, 62, 230, 231, 232, 233, 234, 235, 236, 237, 238, 239, 240, 241, 242, 243, 244, 245, 252, 253, 254, 255, 256, 257] (by decide +kernel) (by decide +kernel)
set_option maxRecDepth 20000 in
theorem gX9_digest_X9_witness : GoodIn wsX9_digest (wsV RX9 224 RX9 yX9_witness wsX9_witness) := goodIn_app (goodIn_of _ (by decide +kernel)) ggX9_digest_X9_witness
set_option maxRecDepth 20000 in
theorem ggX9_digest_X9_hasWall : GoodIn wsX9_digest wsX9_hasWall := goodIn_r _ [66, 2, 230, 231, 232, 233, 234, 235, 236, 237, 238, 239, 240, 241, 242, 243, 244, 245] (by decide +kernel) (by decide +kernel)
set_option maxRecDepth 20000 in
theorem gX9_digest_X9_hasWall : GoodIn wsX9_digest (wsV RX9 137 RX9 yX9_hasWall wsX9_hasWall) := goodIn_app (goodIn_of _ (by decide +kernel)) ggX9_digest_X9_hasWall
set_option maxRecDepth 20000 in
theorem ggX9_digest_X9_said : GoodIn wsX9_digest wsX9_said := goodIn_r _ [70, 2, 71, 72, 8, 73, 14, 15, 16, 63, 64, 65, 66, 74, 75, 76, 51, 77, 53, 78, 79, 80, 81, 82, 83, 84, 85, 86, 58, 59, 60, 61, 20, 62, 22, 23, 230, 231, 232, 233, 234, 235, 236, 237, 238, 239, 240, 241, 242, 243, 244, 245, 252, 253, 254] (by decide +kernel) (by decide +kernel)
set_option maxRecDepth 20000 in
theorem gX9_digest_X9_said : GoodIn wsX9_digest (wsV RX9 227 RX9 yX9_said wsX9_said) := goodIn_app (goodIn_of _ (by decide +kernel)) ggX9_digest_X9_said
set_option maxRecDepth 20000 in
theorem ggX9_digest_X9_term : GoodIn wsX9_digest wsX9_term := goodIn_r _ [90, 91, 2, 92, 93, 14, 15, 8, 16, 63, 64, 65, 66, 94, 95, 96, 51, 97, 53, 58, 98, 99, 100, 20, 101, 102, 22, 23, 103, 104, 105, 106, 107, 108, 109, 110, 111, 112, 113, 114, 75, 76, 77, 115, 79, 80, 81, 82, 83, 84, 85, 86, 59, 60, 61, 62, 116, 117, 118, 119, 120, 121, 122, 123, 124, 125, 126, 127, 128, 129, 130, 131, 132, 133, 134, 135, 136, 137, 138, 139, 140, 141, 142, 37, 38, 39, 143, 144, 145, 146, 147, 148, 149, 150, 151, 152, 153, 154, 155, 156, 157, 158, 230, 231, 232, 233, 234, 235, 236, 237, 238, 239, 240, 241, 242, 243, 244, 245, 252, 253, 254, 258, 259, 260, 261, 262, 263, 264, 265, 266] (by decide +kernel) (by decide +kernel)
set_option maxRecDepth 20000 in
theorem gX9_digest_X9_term : GoodIn wsX9_digest (wsV RX9 230 RX9 yX9_term wsX9_term) := goodIn_app (goodIn_of _ (by decide +kernel)) ggX9_digest_X9_term
set_option maxRecDepth 20000 in
theorem ggX9_digest_X9_keep : GoodIn wsX9_digest wsX9_keep := goodIn_r _ [162, 2, 14, 15, 8, 16, 63, 64, 65, 66, 163, 164, 165, 51, 166, 53, 167, 75, 76, 77, 168, 42, 43, 44, 45, 46, 47, 169, 170, 171, 172, 173, 79, 80, 81, 82, 83, 84, 85, 86, 58, 59, 60, 61, 20, 62, 22, 23, 174, 230, 231, 232, 233, 234, 235, 236, 237, 238, 239, 240, 241, 242, 243, 244, 245, 252, 253, 254] (by decide +kernel) (by decide +kernel)
set_option maxRecDepth 20000 in
theorem gX9_digest_X9_keep : GoodIn wsX9_digest (wsV RX9 233 RX9 yX9_keep wsX9_keep) := goodIn_app (goodIn_of _ (by decide +kernel)) ggX9_digest_X9_keep
set_option maxRecDepth 20000 in
theorem ggX9_digest_X9_peace : GoodIn wsX9_digest wsX9_peace := goodIn_r _ [178, 2, 14, 15, 8, 16, 63, 64, 65, 66, 179, 180, 181, 51, 182, 53, 167, 75, 76, 77, 168, 42, 43, 44, 45, 46, 47, 183, 184, 185, 186, 54, 55, 56, 57, 58, 59, 60, 61, 20, 62, 22, 23, 174, 230, 231, 232, 233, 234, 235, 236, 237, 238, 239, 240, 241, 242, 243, 244, 245, 252, 253, 254] (by decide +kernel) (by decide +kernel)
set_option maxRecDepth 20000 in
theorem gX9_digest_X9_peace : GoodIn wsX9_digest (wsV RX9 236 RX9 yX9_peace wsX9_peace) := goodIn_app (goodIn_of _ (by decide +kernel)) ggX9_digest_X9_peace
set_option maxRecDepth 20000 in
theorem ggX9_digest_X9_worlds : GoodIn wsX9_digest wsX9_worlds := goodIn_r _ [190, 191, 2, 14, 15, 8, 16, 63, 64, 65, 66, 192, 193, 194, 195, 196, 197, 198, 199, 200, 201, 202, 203, 204, 205, 51, 206, 53, 58, 207, 208, 209, 20, 210, 22, 23, 211, 42, 43, 44, 45, 46, 47, 230, 231, 232, 233, 234, 235, 236, 237, 238, 239, 240, 241, 242, 243, 244, 245, 267, 268, 252, 253, 254] (by decide +kernel) (by decide +kernel)
set_option maxRecDepth 20000 in
theorem gX9_digest_X9_worlds : GoodIn wsX9_digest (wsV RX9 239 RX9 yX9_worlds wsX9_worlds) := goodIn_app (goodIn_of _ (by decide +kernel)) ggX9_digest_X9_worlds
set_option maxRecDepth 20000 in
theorem ggX9_digest_X9_count : GoodIn wsX9_digest wsX9_count := goodIn_r _ [215, 2, 93, 4, 216, 217, 218, 219, 51, 220, 221, 222, 223, 224, 53, 58, 225, 226, 227, 20, 228, 22, 23, 74, 75, 76, 77, 229, 184, 185, 186, 54, 55, 56, 57, 59, 60, 61, 62, 230, 231, 232, 233, 234, 235, 236, 237, 238, 239, 240, 241, 242, 243, 244, 245, 260, 261, 262, 263, 264, 265, 266, 255, 256, 257, 246, 247, 248, 249, 250, 251, 252, 253, 254] (by decide +kernel) (by decide +kernel)
set_option maxRecDepth 20000 in
theorem gX9_digest_X9_count : GoodIn wsX9_digest (wsV RX9 246 RX9 yX9_count wsX9_count) := goodIn_app (goodIn_of _ (by decide +kernel)) ggX9_digest_X9_count
set_option maxRecDepth 20000 in
theorem ggX9_isWitness_X9_isWithin : GoodIn wsX9_isWitness wsX9_isWithin := goodIn_r _ [5] (by decide +kernel) (by decide +kernel)
set_option maxRecDepth 20000 in
theorem gX9_isWitness_X9_isWithin : GoodIn wsX9_isWitness (va_wsS RX9 62 yX9_isWithin wsX9_isWithin) := goodIn_app (goodIn_of _ (by decide +kernel)) ggX9_isWitness_X9_isWithin
set_option maxRecDepth 20000 in
theorem ggX9_isThing_X9_isWithin : GoodIn wsX9_isThing wsX9_isWithin := goodIn_r _ [4] (by decide +kernel) (by decide +kernel)
set_option maxRecDepth 20000 in
theorem gX9_isThing_X9_isWithin : GoodIn wsX9_isThing (va_wsS RX9 62 yX9_isWithin wsX9_isWithin) := goodIn_app (goodIn_of _ (by decide +kernel)) ggX9_isThing_X9_isWithin
set_option maxRecDepth 20000 in
theorem ggX9_isColour_X9_isWithin : GoodIn wsX9_isColour wsX9_isWithin := goodIn_r _ [4] (by decide +kernel) (by decide +kernel)
set_option maxRecDepth 20000 in
theorem gX9_isColour_X9_isWithin : GoodIn wsX9_isColour (va_wsS RX9 62 yX9_isWithin wsX9_isWithin) := goodIn_app (goodIn_of _ (by decide +kernel)) ggX9_isColour_X9_isWithin
set_option maxRecDepth 20000 in
theorem ggX10_letter_X10_within : GoodIn wsX10_letter wsX10_within := goodIn_r _ [6] (by decide +kernel) (by decide +kernel)
set_option maxRecDepth 20000 in
theorem gX10_letter_X10_within : GoodIn wsX10_letter (va_wsS RX10 101 yX10_within wsX10_within) := goodIn_app (goodIn_of _ (by decide +kernel)) ggX10_letter_X10_within
set_option maxRecDepth 20000 in
theorem ggX10_isThing_X10_at : GoodIn wsX10_isThing wsX10_at := goodIn_r _ [5, 6, 7, 11, 12, 13, 14, 15, 16, 17, 18, 19, 20, 21, 22, 23, 24, 25, 26, 27, 28, 29, 30, 31, 32, 33, 34, 35, 36, 37, 38, 39, 40, 41, 42, 43, 44, 45, 46, 47, 48, 49, 50, 51, 52, 53, 54, 55, 56, 57, 58] (by decide +kernel) (by decide +kernel)
set_option maxRecDepth 20000 in
theorem gX10_isThing_X10_at : GoodIn wsX10_isThing (wsV RX10 109 RX10 yX10_at wsX10_at) := goodIn_app (goodIn_of _ (by decide +kernel)) ggX10_isThing_X10_at
set_option maxRecDepth 20000 in
theorem ggX10_isThing_X10_within : GoodIn wsX10_isThing wsX10_within := goodIn_r _ [10] (by decide +kernel) (by decide +kernel)
set_option maxRecDepth 20000 in
theorem gX10_isThing_X10_within : GoodIn wsX10_isThing (va_wsS RX10 101 yX10_within wsX10_within) := goodIn_app (goodIn_of _ (by decide +kernel)) ggX10_isThing_X10_within
set_option maxRecDepth 20000 in
theorem ggX10_isDigit_X10_at : GoodIn wsX10_isDigit wsX10_at := goodIn_r _ [5, 6, 7, 11, 12, 13, 14, 15, 16, 17, 18, 19, 20, 21, 22, 23, 24, 25, 26, 27, 28, 29, 30, 31, 32, 33, 34, 35, 36, 37, 38, 39, 40, 41, 42, 43, 44, 45, 46, 47, 48, 49, 50, 51, 52, 53, 54, 55, 56, 57, 58] (by decide +kernel) (by decide +kernel)
set_option maxRecDepth 20000 in
theorem gX10_isDigit_X10_at : GoodIn wsX10_isDigit (wsV RX10 109 RX10 yX10_at wsX10_at) := goodIn_app (goodIn_of _ (by decide +kernel)) ggX10_isDigit_X10_at
set_option maxRecDepth 20000 in
theorem ggX10_isDigit_X10_within : GoodIn wsX10_isDigit wsX10_within := goodIn_r _ [10] (by decide +kernel) (by decide +kernel)
set_option maxRecDepth 20000 in
theorem gX10_isDigit_X10_within : GoodIn wsX10_isDigit (va_wsS RX10 101 yX10_within wsX10_within) := goodIn_app (goodIn_of _ (by decide +kernel)) ggX10_isDigit_X10_within
set_option maxRecDepth 20000 in
theorem ggX10_sightAt_X10_at : GoodIn wsX10_sightAt wsX10_at := goodIn_r _ [5, 6, 7, 8, 9, 10, 11, 12, 13, 14, 15, 16, 17, 18, 19, 20, 21, 22, 23, 24, 25, 26, 27, 28, 29, 30, 31, 32, 33, 34, 35, 36, 37, 38, 39, 40, 41, 42, 43, 44, 45, 46, 47, 48, 49, 50, 51, 52, 53, 54, 55] (by decide +kernel) (by decide +kernel)
set_option maxRecDepth 20000 in
theorem gX10_sightAt_X10_at : GoodIn wsX10_sightAt (wsV RX10 109 RX10 yX10_at wsX10_at) := goodIn_app (goodIn_of _ (by decide +kernel)) ggX10_sightAt_X10_at
set_option maxRecDepth 20000 in
theorem ggX10_readSights_X10_isThing : GoodIn wsX10_readSights wsX10_isThing := goodIn_r _ [8, 9, 10, 11, 7, 12, 13, 14, 15, 16, 17, 30, 31, 32, 33, 34, 35, 36, 37, 38, 39, 40, 41, 42, 43, 44, 45, 46, 47, 48, 49, 50, 51, 52, 53, 54, 55, 56, 57, 58, 59, 60, 61, 62, 63, 64, 65, 66, 67, 68, 69, 70, 71, 72, 73, 74, 75, 76, 77] (by decide +kernel) (by decide +kernel)
set_option maxRecDepth 20000 in
theorem gX10_readSights_X10_isThing : GoodIn wsX10_readSights (wsV RX10 113 RX10 yX10_isThing wsX10_isThing) := goodIn_app (goodIn_of _ (by decide +kernel)) ggX10_readSights_X10_isThing
set_option maxRecDepth 20000 in
theorem ggX10_readSights_X10_isDigit : GoodIn wsX10_readSights wsX10_isDigit := goodIn_r _ [21, 9, 10, 11, 7, 12, 13, 14, 15, 16, 17, 30, 31, 32, 33, 34, 35, 36, 37, 38, 39, 40, 41, 42, 43, 44, 45, 46, 47, 48, 49, 50, 51, 52, 53, 54, 55, 56, 57, 58, 59, 60, 61, 62, 63, 64, 65, 66, 67, 68, 69, 70, 71, 72, 73, 74, 75, 76, 77] (by decide +kernel) (by decide +kernel)
set_option maxRecDepth 20000 in
theorem gX10_readSights_X10_isDigit : GoodIn wsX10_readSights (wsV RX10 117 RX10 yX10_isDigit wsX10_isDigit) := goodIn_app (goodIn_of _ (by decide +kernel)) ggX10_readSights_X10_isDigit
set_option maxRecDepth 20000 in
theorem ggX10_readSights_X10_sightAt : GoodIn wsX10_readSights wsX10_sightAt := goodIn_r _ [25, 9, 10, 11, 7, 12, 13, 14, 30, 31, 32, 33, 34, 35, 36, 37, 38, 39, 40, 41, 42, 43, 44, 45, 46, 47, 48, 49, 50, 51, 52, 53, 54, 55, 56, 57, 58, 59, 60, 61, 62, 63, 64, 65, 66, 67, 68, 69, 70, 71, 72, 73, 74, 75, 76, 77] (by decide +kernel) (by decide +kernel)
set_option maxRecDepth 20000 in
theorem gX10_readSights_X10_sightAt : GoodIn wsX10_readSights (wsV RX10 120 RX10 yX10_sightAt wsX10_sightAt) := goodIn_app (goodIn_of _ (by decide +kernel)) ggX10_readSights_X10_sightAt
set_option maxRecDepth 20000 in
theorem ggX10_readSights_X10_isTold : GoodIn wsX10_readSights wsX10_isTold := goodIn_r _ [29, 1, 3, 30, 31, 32, 33, 34, 35, 36, 37, 38, 39, 40, 41, 42, 43, 44, 45, 46, 47, 48, 49, 50, 51, 52, 53, 54, 55, 56, 57, 58, 59, 60, 61, 62, 63, 64, 65, 66, 67, 68, 69, 70, 71, 72, 73, 74, 75, 76, 77] (by decide +kernel) (by decide +kernel)
set_option maxRecDepth 20000 in
theorem gX10_readSights_X10_isTold : GoodIn wsX10_readSights (wsV RX10 123 RX10 yX10_isTold wsX10_isTold) := goodIn_app (goodIn_of _ (by decide +kernel)) ggX10_readSights_X10_isTold
set_option maxRecDepth 20000 in
theorem ggX10_readWitnesses_X10_at : GoodIn wsX10_readWitnesses wsX10_at := goodIn_r _ [8, 9, 10, 39, 40, 41, 42, 43, 44, 45, 46, 47, 48, 49, 50, 51, 52, 53, 54, 55, 56, 57, 58, 59, 60, 61, 62, 63, 64, 65, 66, 67, 68, 69, 70, 71, 72, 73, 74, 75, 76, 77, 78, 79, 80, 81, 82, 83, 84, 85, 86] (by decide +kernel) (by decide +kernel)
set_option maxRecDepth 20000 in
theorem gX10_readWitnesses_X10_at : GoodIn wsX10_readWitnesses (wsV RX10 109 RX10 yX10_at wsX10_at) := goodIn_app (goodIn_of _ (by decide +kernel)) ggX10_readWitnesses_X10_at
set_option maxRecDepth 20000 in
theorem ggX10_readWitnesses_X10_kindBy : GoodIn wsX10_readWitnesses wsX10_kindBy := goodIn_r _ [13] (by decide +kernel) (by decide +kernel)
set_option maxRecDepth 20000 in
theorem gX10_readWitnesses_X10_kindBy : GoodIn wsX10_readWitnesses (va_wsS RX10 134 yX10_kindBy wsX10_kindBy) := goodIn_app (goodIn_of _ (by decide +kernel)) ggX10_readWitnesses_X10_kindBy
set_option maxRecDepth 20000 in
theorem ggX10_readWitnesses_X10_readSights : GoodIn wsX10_readWitnesses wsX10_readSights := goodIn_r _ [17, 18, 3, 19, 20, 21, 22, 7, 23, 4, 5, 6, 8, 9, 10, 24, 25, 26, 27, 28, 29, 30, 31, 32, 33, 34, 35, 36, 37, 38, 39, 40, 41, 42, 43, 44, 45, 46, 47, 48, 49, 50, 51, 52, 53, 54, 55, 56, 57, 58, 59, 60, 61, 62, 63, 64, 65, 66, 67, 68, 69, 70, 71, 72, 73, 74, 75, 76, 77, 78, 79, 80, 81, 82, 83, 84, 85, 86] (by decide +kernel) (by decide +kernel)
set_option maxRecDepth 20000 in
theorem gX10_readWitnesses_X10_readSights : GoodIn wsX10_readWitnesses (wsV RX10 137 RX10 yX10_readSights wsX10_readSights) := goodIn_app (goodIn_of _ (by decide +kernel)) ggX10_readWitnesses_X10_readSights
set_option maxRecDepth 20000 in
theorem ggX10_readCases_X10_isThing : GoodIn wsX10_readCases wsX10_isThing := goodIn_r _ [10, 11, 12, 13, 9, 14, 1, 15, 16, 17, 18, 23, 24, 25, 26, 27, 28, 29, 30, 31, 32, 33, 34, 35, 36, 37, 38, 39, 40, 41, 42, 43, 44, 45, 46, 47, 48, 49, 50, 51, 52, 53, 54, 55, 56, 57, 58, 59, 60, 61, 62, 63, 64, 65, 66, 67, 68, 69, 70] (by decide +kernel) (by decide +kernel)
set_option maxRecDepth 20000 in
theorem gX10_readCases_X10_isThing : GoodIn wsX10_readCases (wsV RX10 113 RX10 yX10_isThing wsX10_isThing) := goodIn_app (goodIn_of _ (by decide +kernel)) ggX10_readCases_X10_isThing
set_option maxRecDepth 20000 in
theorem ggX10_readCases_X10_isDigit : GoodIn wsX10_readCases wsX10_isDigit := goodIn_r _ [22, 11, 12, 13, 9, 14, 1, 15, 16, 17, 18, 23, 24, 25, 26, 27, 28, 29, 30, 31, 32, 33, 34, 35, 36, 37, 38, 39, 40, 41, 42, 43, 44, 45, 46, 47, 48, 49, 50, 51, 52, 53, 54, 55, 56, 57, 58, 59, 60, 61, 62, 63, 64, 65, 66, 67, 68, 69, 70] (by decide +kernel) (by decide +kernel)
set_option maxRecDepth 20000 in
theorem gX10_readCases_X10_isDigit : GoodIn wsX10_readCases (wsV RX10 117 RX10 yX10_isDigit wsX10_isDigit) := goodIn_app (goodIn_of _ (by decide +kernel)) ggX10_readCases_X10_isDigit
set_option maxRecDepth 20000 in
theorem ggX10_readCases_X10_at : GoodIn wsX10_readCases wsX10_at := goodIn_r _ [14, 1, 15, 23, 24, 25, 26, 27, 28, 29, 30, 31, 32, 33, 34, 35, 36, 37, 38, 39, 40, 41, 42, 43, 44, 45, 46, 47, 48, 49, 50, 51, 52, 53, 54, 55, 56, 57, 58, 59, 60, 61, 62, 63, 64, 65, 66, 67, 68, 69, 70] (by decide +kernel) (by decide +kernel)
set_option maxRecDepth 20000 in
theorem gX10_readCases_X10_at : GoodIn wsX10_readCases (wsV RX10 109 RX10 yX10_at wsX10_at) := goodIn_app (goodIn_of _ (by decide +kernel)) ggX10_readCases_X10_at
set_option maxRecDepth 20000 in
theorem ggX10_read_X10_readWitnesses : GoodIn wsX10_read wsX10_readWitnesses := goodIn_r _ [9, 10, 3, 2, 11, 12, 13, 8, 14, 15, 16, 17, 18, 19, 20, 21, 22, 23, 24, 25, 26, 27, 28, 29, 30, 31, 32, 33, 34, 35, 36, 37, 38, 39, 40, 41, 42, 43, 44, 51, 52, 53, 54, 55, 56, 57, 58, 59, 60, 61, 62, 63, 64, 65, 66, 67, 68, 69, 70, 71, 72, 73, 74, 75, 76, 77, 78, 79, 80, 81, 82, 83, 84, 85, 86, 87, 88, 89, 90, 91, 92, 93, 94, 95, 96, 97, 98] (by decide +kernel) (by decide +kernel)
set_option maxRecDepth 20000 in
theorem gX10_read_X10_readWitnesses : GoodIn wsX10_read (wsV RX10 147 RX10 yX10_readWitnesses wsX10_readWitnesses) := goodIn_app (goodIn_of _ (by decide +kernel)) ggX10_read_X10_readWitnesses
set_option maxRecDepth 20000 in
theorem ggX10_read_X10_at : GoodIn wsX10_read wsX10_at := goodIn_r _ [14, 15, 16, 51, 52, 53, 54, 55, 56, 57, 58, 59, 60, 61, 62, 63, 64, 65, 66, 67, 68, 69, 70, 71, 72, 73, 74, 75, 76, 77, 78, 79, 80, 81, 82, 83, 84, 85, 86, 87, 88, 89, 90, 91, 92, 93, 94, 95, 96, 97, 98] (by decide +kernel) (by decide +kernel)
set_option maxRecDepth 20000 in
theorem gX10_read_X10_at : GoodIn wsX10_read (wsV RX10 109 RX10 yX10_at wsX10_at) := goodIn_app (goodIn_of _ (by decide +kernel)) ggX10_read_X10_at
set_option maxRecDepth 20000 in
theorem ggX10_read_X10_readCases : GoodIn wsX10_read wsX10_readCases := goodIn_r _ [48, 15, 1, 4, 49, 50, 26, 27, 28, 8, 29, 11, 12, 13, 14, 16, 30, 31, 32, 33, 34, 35, 36, 51, 52, 53, 54, 55, 56, 57, 58, 59, 60, 61, 62, 63, 64, 65, 66, 67, 68, 69, 70, 71, 72, 73, 74, 75, 76, 77, 78, 79, 80, 81, 82, 83, 84, 85, 86, 87, 88, 89, 90, 91, 92, 93, 94, 95, 96, 97, 98] (by decide +kernel) (by decide +kernel)
set_option maxRecDepth 20000 in
theorem gX10_read_X10_readCases : GoodIn wsX10_read (wsV RX10 151 RX10 yX10_readCases wsX10_readCases) := goodIn_app (goodIn_of _ (by decide +kernel)) ggX10_read_X10_readCases
set_option maxRecDepth 20000 in
theorem ggX10_fault_X10_read : GoodIn wsX10_fault wsX10_read := goodIn_r _ [5, 6, 7, 8, 9, 10, 11, 12, 4, 13, 14, 15, 16, 17, 18, 19, 20, 21, 22, 23, 24, 25, 26, 27, 28, 29, 30, 31, 32, 33, 34, 35, 36, 37, 38, 39, 40, 41, 42, 43, 44, 45, 46, 47, 48, 49, 50, 51, 52, 53, 54, 55, 56, 57, 58, 59, 60, 61, 62, 63, 64, 65, 66, 67, 68, 69, 70, 71, 72, 73, 74, 75, 76, 77, 78, 79, 80, 81, 82, 83, 84, 85, 86, 87, 88, 89, 90, 91, 92, 93, 94, 95, 96, 97, 98, 99, 100, 101, 102] (by decide +kernel) (by decide +kernel)
set_option maxRecDepth 20000 in
theorem gX10_fault_X10_read : GoodIn wsX10_fault (wsV RX10 154 RX10 yX10_read wsX10_read) := goodIn_app (goodIn_of _ (by decide +kernel)) ggX10_fault_X10_read
set_option maxRecDepth 20000 in
theorem ggX10_wall_X10_read : GoodIn wsX10_wall wsX10_read := goodIn_r _ [25, 1, 26, 2, 10, 27, 28, 29, 24, 30, 5, 31, 32, 33, 34, 20, 35, 36, 37, 38, 39, 40, 41, 42, 7, 9, 43, 44, 45, 46, 47, 48, 49, 50, 51, 52, 53, 54, 55, 56, 57, 58, 59, 60, 61, 62, 63, 64, 65, 13, 15, 66, 67, 68, 69, 70, 71, 72, 73, 74, 75, 76, 77, 78, 79, 80, 81, 82, 83, 84, 85, 86, 87, 88, 89, 90, 91, 92, 93, 94, 95, 96, 97, 98, 99, 100, 101, 102, 103, 104, 105, 106, 107, 108, 109, 110, 111, 112, 113] (by decide +kernel) (by decide +kernel)
set_option maxRecDepth 20000 in
theorem gX10_wall_X10_read : GoodIn wsX10_wall (wsV RX10 154 RX10 yX10_read wsX10_read) := goodIn_app (goodIn_of _ (by decide +kernel)) ggX10_wall_X10_read
set_option maxRecDepth 20000 in
theorem ggX10_isWitness_X10_within : GoodIn wsX10_isWitness wsX10_within := goodIn_r _ [5] (by decide +kernel) (by decide +kernel)
set_option maxRecDepth 20000 in
theorem gX10_isWitness_X10_within : GoodIn wsX10_isWitness (va_wsS RX10 101 yX10_within wsX10_within) := goodIn_app (goodIn_of _ (by decide +kernel)) ggX10_isWitness_X10_within
set_option maxRecDepth 20000 in
theorem ggX10_isSight_X10_within : GoodIn wsX10_isSight wsX10_within := goodIn_r _ [4] (by decide +kernel) (by decide +kernel)
set_option maxRecDepth 20000 in
theorem gX10_isSight_X10_within : GoodIn wsX10_isSight (va_wsS RX10 101 yX10_within wsX10_within) := goodIn_app (goodIn_of _ (by decide +kernel)) ggX10_isSight_X10_within
set_option maxRecDepth 20000 in
theorem ggX10_hasThing_X10_tellsNow : GoodIn wsX10_hasThing wsX10_tellsNow := goodIn_r _ [5, 6, 7, 8, 9, 10, 11, 12, 13, 14, 15, 16, 17, 18, 19, 20, 21, 22, 23, 24, 25, 26, 27, 28, 29, 30, 31, 32, 33, 34, 35, 36, 37, 38, 39, 40, 41, 42, 43, 44, 45, 46, 47, 48, 49, 50, 51, 52, 53, 54, 55] (by decide +kernel) (by decide +kernel)
set_option maxRecDepth 20000 in
theorem gX10_hasThing_X10_tellsNow : GoodIn wsX10_hasThing (wsV RX10 175 RX10 yX10_tellsNow wsX10_tellsNow) := goodIn_app (goodIn_of _ (by decide +kernel)) ggX10_hasThing_X10_tellsNow
set_option maxRecDepth 20000 in
theorem ggX10_clashesOfTwo_X10_hasThing : GoodIn wsX10_clashesOfTwo wsX10_hasThing := goodIn_r _ [5, 6, 7, 8, 4, 9, 10, 11, 12, 13, 14, 15, 16, 17, 18, 19, 20, 21, 22, 23, 24, 25, 26, 27, 28, 29, 30, 31, 32, 33, 34, 35, 36, 37, 38, 39, 40, 41, 42, 43, 44, 45, 46, 47, 48, 49, 50, 51, 52, 53, 54, 55, 56, 57, 58, 59] (by decide +kernel) (by decide +kernel)
set_option maxRecDepth 20000 in
theorem gX10_clashesOfTwo_X10_hasThing : GoodIn wsX10_clashesOfTwo (wsV RX10 178 RX10 yX10_hasThing wsX10_hasThing) := goodIn_app (goodIn_of _ (by decide +kernel)) ggX10_clashesOfTwo_X10_hasThing
set_option maxRecDepth 20000 in
theorem ggX10_clashesOfTwo_X10_tellsNow : GoodIn wsX10_clashesOfTwo wsX10_tellsNow := goodIn_r _ [9, 10, 11, 12, 13, 14, 15, 16, 17, 18, 19, 20, 21, 22, 23, 24, 25, 26, 27, 28, 29, 30, 31, 32, 33, 34, 35, 36, 37, 38, 39, 40, 41, 42, 43, 44, 45, 46, 47, 48, 49, 50, 51, 52, 53, 54, 55, 56, 57, 58, 59] (by decide +kernel) (by decide +kernel)
set_option maxRecDepth 20000 in
theorem gX10_clashesOfTwo_X10_tellsNow : GoodIn wsX10_clashesOfTwo (wsV RX10 175 RX10 yX10_tellsNow wsX10_tellsNow) := goodIn_app (goodIn_of _ (by decide +kernel)) ggX10_clashesOfTwo_X10_tellsNow
set_option maxRecDepth 20000 in
theorem ggX10_clashesOf_X10_clashesOfTwo : GoodIn wsX10_clashesOf wsX10_clashesOfTwo := goodIn_r _ [6, 7, 8, 9, 5, 10, 11, 12, 13, 14, 15, 16, 17, 18, 19, 20, 21, 22, 23, 24, 25, 26, 27, 28, 29, 30, 31, 32, 33, 34, 35, 36, 37, 38, 39, 40, 41, 42, 43, 44, 45, 46, 47, 48, 49, 50, 51, 52, 53, 54, 55, 56, 57, 58, 59, 60, 61, 62, 63, 64] (by decide +kernel) (by decide +kernel)
set_option maxRecDepth 20000 in
theorem gX10_clashesOf_X10_clashesOfTwo : GoodIn wsX10_clashesOf (wsV RX10 181 RX10 yX10_clashesOfTwo wsX10_clashesOfTwo) := goodIn_app (goodIn_of _ (by decide +kernel)) ggX10_clashesOf_X10_clashesOfTwo
set_option maxRecDepth 20000 in
theorem ggX10_clashesAmong_X10_isIn : GoodIn wsX10_clashesAmong wsX10_isIn := goodIn_r _ [5] (by decide +kernel) (by decide +kernel)
