theorem qf_Input_29 : Cond.fieldLink RX1 29 "ConstrainedDelaunay$Input" "length" "I" ∈ wT := wT_t 157 (by decide +kernel) rfl
theorem qf_Input_33 : Cond.fieldLink RX1 33 "ConstrainedDelaunay$Input" "entries" "I" ∈ wT := wT_t 158 (by decide +kernel) rfl
theorem qf_Row_13 : Cond.fieldLink RX4 13 "ConstrainedDelaunay$Row" "cells" "[I" ∈ wT := wT_t 44 (by decide +kernel) rfl
theorem qf_Input_20 : Cond.fieldLink RX1 20 "ConstrainedDelaunay$Input" "firsts" "LConstrainedDelaunay$Row;" ∈ wT := wT_t 154 (by decide +kernel) rfl
theorem qm_Input_50 : Cond.methodLink RX1 50 yX4_get ∈ wT := wT_t 1055 (by decide +kernel) rfl
theorem qi_Row_get : Cond.instanceMethod yX4_get ∈ wT := wT_t 251 (by decide +kernel) rfl
theorem qs_Row_get : Cond.selects RX4 yX4_get yX4_get ∈ wT := wT_t 252 (by decide +kernel) rfl
theorem qn_Row : Cond.initialized RX4 ∈ wT := wT_t 3 (by decide +kernel) rfl
theorem qc_Row_get : Cond.code yX4_get cX4_get 2 (some .int) ∈ wT := wT_t 253 (by decide +kernel) rfl
theorem qf_Input_23 : Cond.fieldLink RX1 23 "ConstrainedDelaunay$Input" "seconds" "LConstrainedDelaunay$Row;" ∈ wT := wT_t 155 (by decide +kernel) rfl
theorem qf_Input_26 : Cond.fieldLink RX1 26 "ConstrainedDelaunay$Input" "segments" "LConstrainedDelaunay$Row;" ∈ wT := wT_t 156 (by decide +kernel) rfl
theorem qf_Input_40 : Cond.fieldLink RX1 40 "ConstrainedDelaunay$Input" "digits" "I" ∈ wT := wT_t 160 (by decide +kernel) rfl
theorem qf_Input_43 : Cond.fieldLink RX1 43 "ConstrainedDelaunay$Input" "value" "I" ∈ wT := wT_t 161 (by decide +kernel) rfl
theorem qm_Input_46 : Cond.methodLink RX1 46 yX4_set ∈ wT := wT_t 1072 (by decide +kernel) rfl
theorem qi_Row_set : Cond.instanceMethod yX4_set ∈ wT := wT_t 468 (by decide +kernel) rfl
theorem qs_Row_set : Cond.selects RX4 yX4_set yX4_set ∈ wT := wT_t 469 (by decide +kernel) rfl
theorem qc_Row_set : Cond.code yX4_set cX4_set 3 none ∈ wT := wT_t 470 (by decide +kernel) rfl
theorem qf_Input_36 : Cond.fieldLink RX1 36 "ConstrainedDelaunay$Input" "inSecond" "Z" ∈ wT := wT_t 159 (by decide +kernel) rfl
theorem qm_Input_54 : Cond.methodLink RX1 54 yX1_startNumber ∈ wT := wT_t 1051 (by decide +kernel) rfl
theorem qi_Input_startNumber : Cond.instanceMethod yX1_startNumber ∈ wT := wT_t 1053 (by decide +kernel) rfl
theorem qs_Input_startNumber : Cond.selects RX1 yX1_startNumber yX1_startNumber ∈ wT := wT_s 35 (by decide +kernel) rfl
theorem qn_Input : Cond.initialized RX1 ∈ wT := wT_t 8 (by decide +kernel) rfl
theorem qc_Input_startNumber : Cond.code yX1_startNumber cX1_startNumber 1 none ∈ wT := wT_t 1054 (by decide +kernel) rfl
theorem qm_Input_61 : Cond.methodLink RX1 61 yX1_endEntry ∈ wT := wT_t 1068 (by decide +kernel) rfl
theorem qi_Input_endEntry : Cond.instanceMethod yX1_endEntry ∈ wT := wT_t 1070 (by decide +kernel) rfl
theorem qs_Input_endEntry : Cond.selects RX1 yX1_endEntry yX1_endEntry ∈ wT := wT_s 39 (by decide +kernel) rfl
theorem qc_Input_endEntry : Cond.code yX1_endEntry cX1_endEntry 1 none ∈ wT := wT_t 1071 (by decide +kernel) rfl
theorem qm_Input_70 : Cond.methodLink RX1 70 yX1_takesMiddle ∈ wT := wT_t 1073 (by decide +kernel) rfl
theorem qi_Input_takesMiddle : Cond.instanceMethod yX1_takesMiddle ∈ wT := wT_t 1075 (by decide +kernel) rfl
theorem qs_Input_takesMiddle : Cond.selects RX1 yX1_takesMiddle yX1_takesMiddle ∈ wT := wT_s 40 (by decide +kernel) rfl
theorem qc_Input_takesMiddle : Cond.code yX1_takesMiddle cX1_takesMiddle 2 (some .boolean) ∈ wT := wT_t 1076 (by decide +kernel) rfl
theorem qm_Input_67 : Cond.methodLink RX1 67 yX1_takesEnd ∈ wT := wT_t 1064 (by decide +kernel) rfl
theorem qi_Input_takesEnd : Cond.instanceMethod yX1_takesEnd ∈ wT := wT_t 1066 (by decide +kernel) rfl
theorem qs_Input_takesEnd : Cond.selects RX1 yX1_takesEnd yX1_takesEnd ∈ wT := wT_s 38 (by decide +kernel) rfl
theorem qc_Input_takesEnd : Cond.code yX1_takesEnd cX1_takesEnd 2 (some .boolean) ∈ wT := wT_t 1067 (by decide +kernel) rfl
theorem qm_Input_64 : Cond.methodLink RX1 64 yX1_takesDigit ∈ wT := wT_t 1060 (by decide +kernel) rfl
theorem qi_Input_takesDigit : Cond.instanceMethod yX1_takesDigit ∈ wT := wT_t 1062 (by decide +kernel) rfl
theorem qs_Input_takesDigit : Cond.selects RX1 yX1_takesDigit yX1_takesDigit ∈ wT := wT_s 37 (by decide +kernel) rfl
theorem qc_Input_takesDigit : Cond.code yX1_takesDigit cX1_takesDigit 2 (some .boolean) ∈ wT := wT_t 1063 (by decide +kernel) rfl
theorem qf_Input_14 : Cond.fieldLink RX1 14 "ConstrainedDelaunay$Input" "characters" "LConstrainedDelaunay$Row;" ∈ wT := wT_t 153 (by decide +kernel) rfl
theorem qm_Input_57 : Cond.methodLink RX1 57 yX1_takes ∈ wT := wT_t 1056 (by decide +kernel) rfl
theorem qi_Input_takes : Cond.instanceMethod yX1_takes ∈ wT := wT_t 1058 (by decide +kernel) rfl
theorem qs_Input_takes : Cond.selects RX1 yX1_takes yX1_takes ∈ wT := wT_s 36 (by decide +kernel) rfl
theorem qc_Input_takes : Cond.code yX1_takes cX1_takes 2 (some .boolean) ∈ wT := wT_t 1059 (by decide +kernel) rfl
theorem qf_Tab_9 : Cond.fieldLink RX5 9 "ConstrainedDelaunay$Table" "cells" "[I" ∈ wT := wT_t 80 (by decide +kernel) rfl
theorem qf_Tab_15 : Cond.fieldLink RX5 15 "ConstrainedDelaunay$Table" "blank" "I" ∈ wT := wT_t 81 (by decide +kernel) rfl
theorem qf_Plan_29 : Cond.fieldLink RX3 29 "ConstrainedDelaunay$Plan" "points" "I" ∈ wT := wT_t 53 (by decide +kernel) rfl
theorem qf_Plan_14 : Cond.fieldLink RX3 14 "ConstrainedDelaunay$Plan" "xs" "LConstrainedDelaunay$Row;" ∈ wT := wT_t 49 (by decide +kernel) rfl
theorem qm_Plan_40 : Cond.methodLink RX3 40 yX4_get ∈ wT := wT_t 250 (by decide +kernel) rfl
theorem qf_Plan_20 : Cond.fieldLink RX3 20 "ConstrainedDelaunay$Plan" "ys" "LConstrainedDelaunay$Row;" ∈ wT := wT_t 50 (by decide +kernel) rfl
theorem qm_Plan_87 : Cond.methodLink RX3 87 yX3_twiceSignedArea ∈ wT := wT_t 289 (by decide +kernel) rfl
theorem qi_Plan_twiceSignedArea : Cond.instanceMethod yX3_twiceSignedArea ∈ wT := wT_t 290 (by decide +kernel) rfl
theorem qs_Plan_twiceSignedArea : Cond.selects RX3 yX3_twiceSignedArea yX3_twiceSignedArea ∈ wT := wT_t 291 (by decide +kernel) rfl
theorem qn_Plan : Cond.initialized RX3 ∈ wT := wT_t 2 (by decide +kernel) rfl
theorem qc_Plan_twiceSignedArea : Cond.code yX3_twiceSignedArea cX3_twiceSignedArea 7 (some .int) ∈ wT := wT_t 292 (by decide +kernel) rfl
theorem qc_Top_signOf : Cond.code yX6_signOf cX6_signOf 2 (some .int) ∈ wT := wT_t 284 (by decide +kernel) rfl
theorem qn_Top : Cond.initialized RX6 ∈ wT := wT_t 1 (by decide +kernel) rfl
theorem qt_Top_signOf : Cond.static yX6_signOf ∈ wT := wT_t 283 (by decide +kernel) rfl
theorem qf_Mesh_9 : Cond.fieldLink RX2 9 "ConstrainedDelaunay$Mesh" "plan" "LConstrainedDelaunay$Plan;" ∈ wT := wT_t 89 (by decide +kernel) rfl
theorem qm_Mesh_84 : Cond.methodLink RX2 84 yX3_points ∈ wT := wT_t 483 (by decide +kernel) rfl
theorem qi_Plan_points : Cond.instanceMethod yX3_points ∈ wT := wT_t 211 (by decide +kernel) rfl
theorem qs_Plan_points : Cond.selects RX3 yX3_points yX3_points ∈ wT := wT_t 212 (by decide +kernel) rfl
theorem qc_Plan_points : Cond.code yX3_points cX3_points 1 (some .int) ∈ wT := wT_t 213 (by decide +kernel) rfl
theorem qm_Mesh_94 : Cond.methodLink RX2 94 yX3_side ∈ wT := wT_t 488 (by decide +kernel) rfl
theorem qi_Plan_side : Cond.instanceMethod yX3_side ∈ wT := wT_t 286 (by decide +kernel) rfl
theorem qs_Plan_side : Cond.selects RX3 yX3_side yX3_side ∈ wT := wT_t 287 (by decide +kernel) rfl
theorem qc_Plan_side : Cond.code yX3_side cX3_side 4 (some .int) ∈ wT := wT_t 288 (by decide +kernel) rfl
theorem qf_Mesh_20 : Cond.fieldLink RX2 20 "ConstrainedDelaunay$Mesh" "lefts" "LConstrainedDelaunay$Table;" ∈ wT := wT_t 90 (by decide +kernel) rfl
theorem qm_Mesh_98 : Cond.methodLink RX2 98 yX5_set ∈ wT := wT_t 489 (by decide +kernel) rfl
theorem qi_Tab_set : Cond.instanceMethod yX5_set ∈ wT := wT_t 490 (by decide +kernel) rfl
theorem qs_Tab_set : Cond.selects RX5 yX5_set yX5_set ∈ wT := wT_t 491 (by decide +kernel) rfl
theorem qn_Tab : Cond.initialized RX5 ∈ wT := wT_t 6 (by decide +kernel) rfl
theorem qc_Tab_set : Cond.code yX5_set cX5_set 5 none ∈ wT := wT_t 492 (by decide +kernel) rfl
theorem qm_Mesh_81 : Cond.methodLink RX2 81 yX5_clear ∈ wT := wT_t 479 (by decide +kernel) rfl
theorem qi_Tab_clear : Cond.instanceMethod yX5_clear ∈ wT := wT_t 480 (by decide +kernel) rfl
theorem qs_Tab_clear : Cond.selects RX5 yX5_clear yX5_clear ∈ wT := wT_t 481 (by decide +kernel) rfl
theorem qc_Tab_clear : Cond.code yX5_clear cX5_clear 2 none ∈ wT := wT_t 482 (by decide +kernel) rfl
theorem qm_Mesh_90 : Cond.methodLink RX2 90 yX2_findSidesOf ∈ wT := wT_t 484 (by decide +kernel) rfl
theorem qi_Mesh_findSidesOf : Cond.instanceMethod yX2_findSidesOf ∈ wT := wT_t 486 (by decide +kernel) rfl
theorem qs_Mesh_findSidesOf : Cond.selects RX2 yX2_findSidesOf yX2_findSidesOf ∈ wT := wT_s 5 (by decide +kernel) rfl
theorem qn_Mesh : Cond.initialized RX2 ∈ wT := wT_t 5 (by decide +kernel) rfl
theorem qc_Mesh_findSidesOf : Cond.code yX2_findSidesOf cX2_findSidesOf 7 none ∈ wT := wT_t 487 (by decide +kernel) rfl
theorem qf_Plan_33 : Cond.fieldLink RX3 33 "ConstrainedDelaunay$Plan" "constraints" "I" ∈ wT := wT_t 54 (by decide +kernel) rfl
theorem qf_Plan_23 : Cond.fieldLink RX3 23 "ConstrainedDelaunay$Plan" "lows" "LConstrainedDelaunay$Row;" ∈ wT := wT_t 51 (by decide +kernel) rfl
theorem qf_Plan_26 : Cond.fieldLink RX3 26 "ConstrainedDelaunay$Plan" "highs" "LConstrainedDelaunay$Row;" ∈ wT := wT_t 52 (by decide +kernel) rfl
theorem qf_Mesh_33 : Cond.fieldLink RX2 33 "ConstrainedDelaunay$Mesh" "links" "LConstrainedDelaunay$Row;" ∈ wT := wT_t 93 (by decide +kernel) rfl
theorem qm_Mesh_127 : Cond.methodLink RX2 127 yX4_get ∈ wT := wT_t 509 (by decide +kernel) rfl
theorem qm_Mesh_102 : Cond.methodLink RX2 102 yX4_set ∈ wT := wT_t 497 (by decide +kernel) rfl
theorem qf_Mesh_37 : Cond.fieldLink RX2 37 "ConstrainedDelaunay$Mesh" "edgeLows" "LConstrainedDelaunay$Row;" ∈ wT := wT_t 94 (by decide +kernel) rfl
theorem qf_Mesh_49 : Cond.fieldLink RX2 49 "ConstrainedDelaunay$Mesh" "edges" "I" ∈ wT := wT_t 98 (by decide +kernel) rfl
theorem qf_Mesh_40 : Cond.fieldLink RX2 40 "ConstrainedDelaunay$Mesh" "edgeHighs" "LConstrainedDelaunay$Row;" ∈ wT := wT_t 95 (by decide +kernel) rfl
theorem qm_Mesh_134 : Cond.methodLink RX2 134 yX2_link ∈ wT := wT_t 505 (by decide +kernel) rfl
theorem qi_Mesh_link : Cond.instanceMethod yX2_link ∈ wT := wT_t 507 (by decide +kernel) rfl
theorem qs_Mesh_link : Cond.selects RX2 yX2_link yX2_link ∈ wT := wT_s 8 (by decide +kernel) rfl
theorem qc_Mesh_link : Cond.code yX2_link cX2_link 3 none ∈ wT := wT_t 508 (by decide +kernel) rfl
theorem qm_Plan_53 : Cond.methodLink RX3 53 yX3_covers ∈ wT := wT_t 431 (by decide +kernel) rfl
theorem qi_Plan_covers : Cond.instanceMethod yX3_covers ∈ wT := wT_t 432 (by decide +kernel) rfl
theorem qs_Plan_covers : Cond.selects RX3 yX3_covers yX3_covers ∈ wT := wT_t 433 (by decide +kernel) rfl
theorem qc_Plan_covers : Cond.code yX3_covers cX3_covers 5 (some .boolean) ∈ wT := wT_t 434 (by decide +kernel) rfl
theorem qm_Mesh_140 : Cond.methodLink RX2 140 yX5_get ∈ wT := wT_t 262 (by decide +kernel) rfl
theorem qi_Tab_get : Cond.instanceMethod yX5_get ∈ wT := wT_t 263 (by decide +kernel) rfl
theorem qs_Tab_get : Cond.selects RX5 yX5_get yX5_get ∈ wT := wT_t 264 (by decide +kernel) rfl
theorem qc_Tab_get : Cond.code yX5_get cX5_get 4 (some .int) ∈ wT := wT_t 265 (by decide +kernel) rfl
theorem qm_Mesh_137 : Cond.methodLink RX2 137 yX2_parts ∈ wT := wT_t 526 (by decide +kernel) rfl
theorem qi_Mesh_parts : Cond.instanceMethod yX2_parts ∈ wT := wT_t 528 (by decide +kernel) rfl
theorem qs_Mesh_parts : Cond.selects RX2 yX2_parts yX2_parts ∈ wT := wT_s 12 (by decide +kernel) rfl
theorem qc_Mesh_parts : Cond.code yX2_parts cX2_parts 7 (some .boolean) ∈ wT := wT_t 529 (by decide +kernel) rfl
theorem qm_Mesh_130 : Cond.methodLink RX2 130 yX2_splits ∈ wT := wT_t 522 (by decide +kernel) rfl
theorem qi_Mesh_splits : Cond.instanceMethod yX2_splits ∈ wT := wT_t 524 (by decide +kernel) rfl
theorem qs_Mesh_splits : Cond.selects RX2 yX2_splits yX2_splits ∈ wT := wT_s 11 (by decide +kernel) rfl
theorem qc_Mesh_splits : Cond.code yX2_splits cX2_splits 5 (some .boolean) ∈ wT := wT_t 525 (by decide +kernel) rfl
theorem qm_Mesh_104 : Cond.methodLink RX2 104 yX3_constraints ∈ wT := wT_t 498 (by decide +kernel) rfl
theorem qi_Plan_constraints : Cond.instanceMethod yX3_constraints ∈ wT := wT_t 243 (by decide +kernel) rfl
theorem qs_Plan_constraints : Cond.selects RX3 yX3_constraints yX3_constraints ∈ wT := wT_t 244 (by decide +kernel) rfl
theorem qc_Plan_constraints : Cond.code yX3_constraints cX3_constraints 1 (some .int) ∈ wT := wT_t 245 (by decide +kernel) rfl
theorem qm_Mesh_107 : Cond.methodLink RX2 107 yX3_lowEnd ∈ wT := wT_t 499 (by decide +kernel) rfl
theorem qi_Plan_lowEnd : Cond.instanceMethod yX3_lowEnd ∈ wT := wT_t 247 (by decide +kernel) rfl
theorem qs_Plan_lowEnd : Cond.selects RX3 yX3_lowEnd yX3_lowEnd ∈ wT := wT_t 248 (by decide +kernel) rfl
theorem qc_Plan_lowEnd : Cond.code yX3_lowEnd cX3_lowEnd 2 (some .int) ∈ wT := wT_t 249 (by decide +kernel) rfl
theorem qm_Mesh_111 : Cond.methodLink RX2 111 yX3_highEnd ∈ wT := wT_t 500 (by decide +kernel) rfl
theorem qi_Plan_highEnd : Cond.instanceMethod yX3_highEnd ∈ wT := wT_t 255 (by decide +kernel) rfl
theorem qs_Plan_highEnd : Cond.selects RX3 yX3_highEnd yX3_highEnd ∈ wT := wT_t 256 (by decide +kernel) rfl
theorem qc_Plan_highEnd : Cond.code yX3_highEnd cX3_highEnd 2 (some .int) ∈ wT := wT_t 257 (by decide +kernel) rfl
theorem qm_Mesh_114 : Cond.methodLink RX2 114 yX2_drawEdge ∈ wT := wT_t 501 (by decide +kernel) rfl
theorem qi_Mesh_drawEdge : Cond.instanceMethod yX2_drawEdge ∈ wT := wT_t 503 (by decide +kernel) rfl
theorem qs_Mesh_drawEdge : Cond.selects RX2 yX2_drawEdge yX2_drawEdge ∈ wT := wT_s 7 (by decide +kernel) rfl
theorem qc_Mesh_drawEdge : Cond.code yX2_drawEdge cX2_drawEdge 3 none ∈ wT := wT_t 504 (by decide +kernel) rfl
theorem qm_Mesh_117 : Cond.methodLink RX2 117 yX2_isLinked ∈ wT := wT_t 510 (by decide +kernel) rfl
theorem qi_Mesh_isLinked : Cond.instanceMethod yX2_isLinked ∈ wT := wT_t 512 (by decide +kernel) rfl
theorem qs_Mesh_isLinked : Cond.selects RX2 yX2_isLinked yX2_isLinked ∈ wT := wT_s 9 (by decide +kernel) rfl
theorem qc_Mesh_isLinked : Cond.code yX2_isLinked cX2_isLinked 3 (some .boolean) ∈ wT := wT_t 513 (by decide +kernel) rfl
theorem qm_Mesh_121 : Cond.methodLink RX2 121 yX3_coversPoint ∈ wT := wT_t 514 (by decide +kernel) rfl
theorem qi_Plan_coversPoint : Cond.instanceMethod yX3_coversPoint ∈ wT := wT_t 515 (by decide +kernel) rfl
theorem qs_Plan_coversPoint : Cond.selects RX3 yX3_coversPoint yX3_coversPoint ∈ wT := wT_t 516 (by decide +kernel) rfl
theorem qc_Plan_coversPoint : Cond.code yX3_coversPoint cX3_coversPoint 4 (some .boolean) ∈ wT := wT_t 517 (by decide +kernel) rfl
theorem qm_Mesh_124 : Cond.methodLink RX2 124 yX2_crossesEdge ∈ wT := wT_t 518 (by decide +kernel) rfl
theorem qi_Mesh_crossesEdge : Cond.instanceMethod yX2_crossesEdge ∈ wT := wT_t 520 (by decide +kernel) rfl
theorem qs_Mesh_crossesEdge : Cond.selects RX2 yX2_crossesEdge yX2_crossesEdge ∈ wT := wT_s 10 (by decide +kernel) rfl
theorem qc_Mesh_crossesEdge : Cond.code yX2_crossesEdge cX2_crossesEdge 4 (some .boolean) ∈ wT := wT_t 521 (by decide +kernel) rfl
theorem qf_Mesh_24 : Cond.fieldLink RX2 24 "ConstrainedDelaunay$Mesh" "thirds" "LConstrainedDelaunay$Table;" ∈ wT := wT_t 91 (by decide +kernel) rfl
theorem qm_Mesh_143 : Cond.methodLink RX2 143 yX2_emptyCorner ∈ wT := wT_t 534 (by decide +kernel) rfl
theorem qi_Mesh_emptyCorner : Cond.instanceMethod yX2_emptyCorner ∈ wT := wT_t 536 (by decide +kernel) rfl
theorem qs_Mesh_emptyCorner : Cond.selects RX2 yX2_emptyCorner yX2_emptyCorner ∈ wT := wT_s 14 (by decide +kernel) rfl
theorem qc_Mesh_emptyCorner : Cond.code yX2_emptyCorner cX2_emptyCorner 6 (some .int) ∈ wT := wT_t 537 (by decide +kernel) rfl
theorem qm_Plan_99 : Cond.methodLink RX3 99 yX3_squaredDistance ∈ wT := wT_t 274 (by decide +kernel) rfl
theorem qi_Plan_squaredDistance : Cond.instanceMethod yX3_squaredDistance ∈ wT := wT_t 275 (by decide +kernel) rfl
theorem qs_Plan_squaredDistance : Cond.selects RX3 yX3_squaredDistance yX3_squaredDistance ∈ wT := wT_t 276 (by decide +kernel) rfl
theorem qc_Plan_squaredDistance : Cond.code yX3_squaredDistance cX3_squaredDistance 5 (some .int) ∈ wT := wT_t 277 (by decide +kernel) rfl
theorem qm_Plan_102 : Cond.methodLink RX3 102 yX3_twiceAreaFrom ∈ wT := wT_t 278 (by decide +kernel) rfl
theorem qi_Plan_twiceAreaFrom : Cond.instanceMethod yX3_twiceAreaFrom ∈ wT := wT_t 280 (by decide +kernel) rfl
theorem qs_Plan_twiceAreaFrom : Cond.selects RX3 yX3_twiceAreaFrom yX3_twiceAreaFrom ∈ wT := wT_s 0 (by decide +kernel) rfl
theorem qc_Plan_twiceAreaFrom : Cond.code yX3_twiceAreaFrom cX3_twiceAreaFrom 5 (some .int) ∈ wT := wT_t 281 (by decide +kernel) rfl
theorem qm_Plan_95 : Cond.methodLink RX3 95 yX3_side ∈ wT := wT_t 285 (by decide +kernel) rfl
theorem qm_Mesh_164 : Cond.methodLink RX2 164 yX3_circleSide ∈ wT := wT_t 270 (by decide +kernel) rfl
theorem qi_Plan_circleSide : Cond.instanceMethod yX3_circleSide ∈ wT := wT_t 271 (by decide +kernel) rfl
theorem qs_Plan_circleSide : Cond.selects RX3 yX3_circleSide yX3_circleSide ∈ wT := wT_t 272 (by decide +kernel) rfl
theorem qc_Plan_circleSide : Cond.code yX3_circleSide cX3_circleSide 9 (some .int) ∈ wT := wT_t 273 (by decide +kernel) rfl
theorem qm_Mesh_168 : Cond.methodLink RX2 168 Lib.Math.max.name ∈ wT := wT_t 293 (by decide +kernel) rfl
theorem qm_Plan_44 : Cond.methodLink RX3 44 Lib.Math.min.name ∈ wT := wT_t 548 (by decide +kernel) rfl
theorem qm_Plan_50 : Cond.methodLink RX3 50 Lib.Math.max.name ∈ wT := wT_t 549 (by decide +kernel) rfl
theorem qm_Tab_19 : Cond.methodLink RX5 19 yX5_set ∈ wT := wT_t 562 (by decide +kernel) rfl
theorem qm_Mesh_158 : Cond.methodLink RX2 158 yX2_unlink ∈ wT := wT_t 554 (by decide +kernel) rfl
theorem qi_Mesh_unlink : Cond.instanceMethod yX2_unlink ∈ wT := wT_t 556 (by decide +kernel) rfl
theorem qs_Mesh_unlink : Cond.selects RX2 yX2_unlink yX2_unlink ∈ wT := wT_s 17 (by decide +kernel) rfl
theorem qc_Mesh_unlink : Cond.code yX2_unlink cX2_unlink 3 none ∈ wT := wT_t 557 (by decide +kernel) rfl
theorem qm_Mesh_161 : Cond.methodLink RX2 161 yX5_turnRound ∈ wT := wT_t 558 (by decide +kernel) rfl
theorem qi_Tab_turnRound : Cond.instanceMethod yX5_turnRound ∈ wT := wT_t 559 (by decide +kernel) rfl
theorem qs_Tab_turnRound : Cond.selects RX5 yX5_turnRound yX5_turnRound ∈ wT := wT_t 560 (by decide +kernel) rfl
theorem qc_Tab_turnRound : Cond.code yX5_turnRound cX5_turnRound 4 none ∈ wT := wT_t 561 (by decide +kernel) rfl
theorem qm_Mesh_146 : Cond.methodLink RX2 146 yX2_isInner ∈ wT := wT_t 542 (by decide +kernel) rfl
theorem qi_Mesh_isInner : Cond.instanceMethod yX2_isInner ∈ wT := wT_t 259 (by decide +kernel) rfl
theorem qs_Mesh_isInner : Cond.selects RX2 yX2_isInner yX2_isInner ∈ wT := wT_t 260 (by decide +kernel) rfl
theorem qc_Mesh_isInner : Cond.code yX2_isInner cX2_isInner 3 (some .boolean) ∈ wT := wT_t 261 (by decide +kernel) rfl
theorem qm_Mesh_149 : Cond.methodLink RX2 149 yX2_passesCircle ∈ wT := wT_t 543 (by decide +kernel) rfl
theorem qi_Mesh_passesCircle : Cond.instanceMethod yX2_passesCircle ∈ wT := wT_t 267 (by decide +kernel) rfl
theorem qs_Mesh_passesCircle : Cond.selects RX2 yX2_passesCircle yX2_passesCircle ∈ wT := wT_t 268 (by decide +kernel) rfl
theorem qc_Mesh_passesCircle : Cond.code yX2_passesCircle cX2_passesCircle 6 (some .boolean) ∈ wT := wT_t 269 (by decide +kernel) rfl
theorem qm_Mesh_152 : Cond.methodLink RX2 152 yX3_isConstraint ∈ wT := wT_t 544 (by decide +kernel) rfl
theorem qi_Plan_isConstraint : Cond.instanceMethod yX3_isConstraint ∈ wT := wT_t 545 (by decide +kernel) rfl
theorem qs_Plan_isConstraint : Cond.selects RX3 yX3_isConstraint yX3_isConstraint ∈ wT := wT_t 546 (by decide +kernel) rfl
theorem qc_Plan_isConstraint : Cond.code yX3_isConstraint cX3_isConstraint 4 (some .boolean) ∈ wT := wT_t 547 (by decide +kernel) rfl
theorem qm_Mesh_155 : Cond.methodLink RX2 155 yX2_flip ∈ wT := wT_t 550 (by decide +kernel) rfl
theorem qi_Mesh_flip : Cond.instanceMethod yX2_flip ∈ wT := wT_t 552 (by decide +kernel) rfl
theorem qs_Mesh_flip : Cond.selects RX2 yX2_flip yX2_flip ∈ wT := wT_s 16 (by decide +kernel) rfl
theorem qc_Mesh_flip : Cond.code yX2_flip cX2_flip 5 none ∈ wT := wT_t 553 (by decide +kernel) rfl
theorem qf_Mesh_43 : Cond.fieldLink RX2 43 "ConstrainedDelaunay$Mesh" "corners" "LConstrainedDelaunay$Row;" ∈ wT := wT_t 96 (by decide +kernel) rfl
theorem qf_Mesh_53 : Cond.fieldLink RX2 53 "ConstrainedDelaunay$Mesh" "triangles" "I" ∈ wT := wT_t 99 (by decide +kernel) rfl
theorem qf_Mesh_27 : Cond.fieldLink RX2 27 "ConstrainedDelaunay$Mesh" "owners" "LConstrainedDelaunay$Table;" ∈ wT := wT_t 92 (by decide +kernel) rfl
theorem qm_Mesh_173 : Cond.methodLink RX2 173 yX2_addTriangle ∈ wT := wT_t 571 (by decide +kernel) rfl
theorem qi_Mesh_addTriangle : Cond.instanceMethod yX2_addTriangle ∈ wT := wT_t 573 (by decide +kernel) rfl
theorem qs_Mesh_addTriangle : Cond.selects RX2 yX2_addTriangle yX2_addTriangle ∈ wT := wT_s 20 (by decide +kernel) rfl
theorem qc_Mesh_addTriangle : Cond.code yX2_addTriangle cX2_addTriangle 4 none ∈ wT := wT_t 574 (by decide +kernel) rfl
theorem qm_Mesh_179 : Cond.methodLink RX2 179 yX2_nextOnHull ∈ wT := wT_t 583 (by decide +kernel) rfl
theorem qi_Mesh_nextOnHull : Cond.instanceMethod yX2_nextOnHull ∈ wT := wT_t 585 (by decide +kernel) rfl
theorem qs_Mesh_nextOnHull : Cond.selects RX2 yX2_nextOnHull yX2_nextOnHull ∈ wT := wT_s 23 (by decide +kernel) rfl
theorem qc_Mesh_nextOnHull : Cond.code yX2_nextOnHull cX2_nextOnHull 3 (some .int) ∈ wT := wT_t 586 (by decide +kernel) rfl
theorem qf_Mesh_56 : Cond.fieldLink RX2 56 "ConstrainedDelaunay$Mesh" "hullPoints" "I" ∈ wT := wT_t 100 (by decide +kernel) rfl
theorem qm_Mesh_176 : Cond.methodLink RX2 176 yX2_firstOnHull ∈ wT := wT_t 579 (by decide +kernel) rfl
theorem qi_Mesh_firstOnHull : Cond.instanceMethod yX2_firstOnHull ∈ wT := wT_t 581 (by decide +kernel) rfl
theorem qs_Mesh_firstOnHull : Cond.selects RX2 yX2_firstOnHull yX2_firstOnHull ∈ wT := wT_s 22 (by decide +kernel) rfl
theorem qc_Mesh_firstOnHull : Cond.code yX2_firstOnHull cX2_firstOnHull 2 (some .int) ∈ wT := wT_t 582 (by decide +kernel) rfl
theorem qf_Mesh_46 : Cond.fieldLink RX2 46 "ConstrainedDelaunay$Mesh" "hull" "LConstrainedDelaunay$Row;" ∈ wT := wT_t 97 (by decide +kernel) rfl
theorem qm_Mesh_59 : Cond.methodLink RX2 59 yX2_findSides ∈ wT := wT_t 475 (by decide +kernel) rfl
theorem qi_Mesh_findSides : Cond.instanceMethod yX2_findSides ∈ wT := wT_t 477 (by decide +kernel) rfl
theorem qs_Mesh_findSides : Cond.selects RX2 yX2_findSides yX2_findSides ∈ wT := wT_s 4 (by decide +kernel) rfl
theorem qc_Mesh_findSides : Cond.code yX2_findSides cX2_findSides 3 none ∈ wT := wT_t 478 (by decide +kernel) rfl
theorem qm_Mesh_62 : Cond.methodLink RX2 62 yX2_drawSomeEdges ∈ wT := wT_t 493 (by decide +kernel) rfl
theorem qi_Mesh_drawSomeEdges : Cond.instanceMethod yX2_drawSomeEdges ∈ wT := wT_t 495 (by decide +kernel) rfl
theorem qs_Mesh_drawSomeEdges : Cond.selects RX2 yX2_drawSomeEdges yX2_drawSomeEdges ∈ wT := wT_s 6 (by decide +kernel) rfl
theorem qc_Mesh_drawSomeEdges : Cond.code yX2_drawSomeEdges cX2_drawSomeEdges 3 none ∈ wT := wT_t 496 (by decide +kernel) rfl
theorem qm_Mesh_65 : Cond.methodLink RX2 65 yX2_findThirds ∈ wT := wT_t 530 (by decide +kernel) rfl
theorem qi_Mesh_findThirds : Cond.instanceMethod yX2_findThirds ∈ wT := wT_t 532 (by decide +kernel) rfl
theorem qs_Mesh_findThirds : Cond.selects RX2 yX2_findThirds yX2_findThirds ∈ wT := wT_s 13 (by decide +kernel) rfl
theorem qc_Mesh_findThirds : Cond.code yX2_findThirds cX2_findThirds 3 none ∈ wT := wT_t 533 (by decide +kernel) rfl
theorem qm_Mesh_68 : Cond.methodLink RX2 68 yX2_flipBadEdges ∈ wT := wT_t 538 (by decide +kernel) rfl
theorem qi_Mesh_flipBadEdges : Cond.instanceMethod yX2_flipBadEdges ∈ wT := wT_t 540 (by decide +kernel) rfl
theorem qs_Mesh_flipBadEdges : Cond.selects RX2 yX2_flipBadEdges yX2_flipBadEdges ∈ wT := wT_s 15 (by decide +kernel) rfl
theorem qc_Mesh_flipBadEdges : Cond.code yX2_flipBadEdges cX2_flipBadEdges 4 (some .boolean) ∈ wT := wT_t 541 (by decide +kernel) rfl
theorem qm_Mesh_72 : Cond.methodLink RX2 72 yX2_numberEdges ∈ wT := wT_t 563 (by decide +kernel) rfl
theorem qi_Mesh_numberEdges : Cond.instanceMethod yX2_numberEdges ∈ wT := wT_t 565 (by decide +kernel) rfl
theorem qs_Mesh_numberEdges : Cond.selects RX2 yX2_numberEdges yX2_numberEdges ∈ wT := wT_s 18 (by decide +kernel) rfl
theorem qc_Mesh_numberEdges : Cond.code yX2_numberEdges cX2_numberEdges 3 none ∈ wT := wT_t 566 (by decide +kernel) rfl
theorem qm_Mesh_75 : Cond.methodLink RX2 75 yX2_numberTriangles ∈ wT := wT_t 567 (by decide +kernel) rfl
theorem qi_Mesh_numberTriangles : Cond.instanceMethod yX2_numberTriangles ∈ wT := wT_t 569 (by decide +kernel) rfl
theorem qs_Mesh_numberTriangles : Cond.selects RX2 yX2_numberTriangles yX2_numberTriangles ∈ wT := wT_s 19 (by decide +kernel) rfl
theorem qc_Mesh_numberTriangles : Cond.code yX2_numberTriangles cX2_numberTriangles 4 none ∈ wT := wT_t 570 (by decide +kernel) rfl
theorem qm_Mesh_78 : Cond.methodLink RX2 78 yX2_numberHull ∈ wT := wT_t 575 (by decide +kernel) rfl
theorem qi_Mesh_numberHull : Cond.instanceMethod yX2_numberHull ∈ wT := wT_t 577 (by decide +kernel) rfl
theorem qs_Mesh_numberHull : Cond.selects RX2 yX2_numberHull yX2_numberHull ∈ wT := wT_s 21 (by decide +kernel) rfl
theorem qc_Mesh_numberHull : Cond.code yX2_numberHull cX2_numberHull 2 none ∈ wT := wT_t 578 (by decide +kernel) rfl
theorem qm_Mesh_182 : Cond.methodLink RX2 182 yX2_cornerOf ∈ wT := wT_t 773 (by decide +kernel) rfl
theorem qi_Mesh_cornerOf : Cond.instanceMethod yX2_cornerOf ∈ wT := wT_t 774 (by decide +kernel) rfl
theorem qs_Mesh_cornerOf : Cond.selects RX2 yX2_cornerOf yX2_cornerOf ∈ wT := wT_t 775 (by decide +kernel) rfl
theorem qc_Mesh_cornerOf : Cond.code yX2_cornerOf cX2_cornerOf 3 (some .int) ∈ wT := wT_t 776 (by decide +kernel) rfl
theorem qm_Mesh_185 : Cond.methodLink RX2 185 yX2_cornerAfter ∈ wT := wT_t 777 (by decide +kernel) rfl
theorem qi_Mesh_cornerAfter : Cond.instanceMethod yX2_cornerAfter ∈ wT := wT_t 778 (by decide +kernel) rfl
theorem qs_Mesh_cornerAfter : Cond.selects RX2 yX2_cornerAfter yX2_cornerAfter ∈ wT := wT_t 779 (by decide +kernel) rfl
theorem qc_Mesh_cornerAfter : Cond.code yX2_cornerAfter cX2_cornerAfter 3 (some .int) ∈ wT := wT_t 780 (by decide +kernel) rfl
theorem qm_Mesh_188 : Cond.methodLink RX2 188 Lib.Math.min.name ∈ wT := wT_t 692 (by decide +kernel) rfl
theorem qk_J6_265 : Cond.constant RJ6 265 (1431655765) ∈ wT := wT_t 1000 (by decide +kernel) rfl
theorem qk_J6_266 : Cond.constant RJ6 266 (858993459) ∈ wT := wT_t 1001 (by decide +kernel) rfl
theorem qk_J6_267 : Cond.constant RJ6 267 (252645135) ∈ wT := wT_t 1002 (by decide +kernel) rfl
theorem qm_Mesh_191 : Cond.methodLink RX2 191 yJ6_bitCount_0f7a4 ∈ wT := wT_t 997 (by decide +kernel) rfl
theorem qt_J6_bitCount_0f7a4 : Cond.static yJ6_bitCount_0f7a4 ∈ wT := wT_t 998 (by decide +kernel) rfl
theorem qn_J6 : Cond.initialized RJ6 ∈ wT := wT_t 19 (by decide +kernel) rfl
theorem qc_J6_bitCount_0f7a4 : Cond.code yJ6_bitCount_0f7a4 cJ6_bitCount_0f7a4 1 (some .int) ∈ wT := wT_t 999 (by decide +kernel) rfl
theorem qm_Mesh_196 : Cond.methodLink RX2 196 yX3_xOf ∈ wT := wT_t 843 (by decide +kernel) rfl
theorem qi_Plan_xOf : Cond.instanceMethod yX3_xOf ∈ wT := wT_t 844 (by decide +kernel) rfl
theorem qs_Plan_xOf : Cond.selects RX3 yX3_xOf yX3_xOf ∈ wT := wT_t 845 (by decide +kernel) rfl
theorem qc_Plan_xOf : Cond.code yX3_xOf cX3_xOf 2 (some .int) ∈ wT := wT_t 846 (by decide +kernel) rfl
theorem qm_Mesh_199 : Cond.methodLink RX2 199 yX3_yOf ∈ wT := wT_t 847 (by decide +kernel) rfl
theorem qi_Plan_yOf : Cond.instanceMethod yX3_yOf ∈ wT := wT_t 848 (by decide +kernel) rfl
theorem qs_Plan_yOf : Cond.selects RX3 yX3_yOf yX3_yOf ∈ wT := wT_t 849 (by decide +kernel) rfl
theorem qc_Plan_yOf : Cond.code yX3_yOf cX3_yOf 2 (some .int) ∈ wT := wT_t 850 (by decide +kernel) rfl
theorem qm_Mesh_202 : Cond.methodLink RX2 202 yX3_twiceSignedArea ∈ wT := wT_t 781 (by decide +kernel) rfl
theorem qm_Mesh_205 : Cond.methodLink RX2 205 yX2_areaOf ∈ wT := wT_t 1123 (by decide +kernel) rfl
theorem qi_Mesh_areaOf : Cond.instanceMethod yX2_areaOf ∈ wT := wT_t 940 (by decide +kernel) rfl
theorem qs_Mesh_areaOf : Cond.selects RX2 yX2_areaOf yX2_areaOf ∈ wT := wT_t 941 (by decide +kernel) rfl
theorem qc_Mesh_areaOf : Cond.code yX2_areaOf cX2_areaOf 3 (some .int) ∈ wT := wT_t 942 (by decide +kernel) rfl
theorem qm_Mesh_208 : Cond.methodLink RX2 208 yX3_squaredDistance ∈ wT := wT_t 735 (by decide +kernel) rfl
theorem qm_Mesh_211 : Cond.methodLink RX2 211 yX2_lengthOf ∈ wT := wT_t 731 (by decide +kernel) rfl
theorem qi_Mesh_lengthOf : Cond.instanceMethod yX2_lengthOf ∈ wT := wT_t 732 (by decide +kernel) rfl
theorem qs_Mesh_lengthOf : Cond.selects RX2 yX2_lengthOf yX2_lengthOf ∈ wT := wT_t 733 (by decide +kernel) rfl
theorem qc_Mesh_lengthOf : Cond.code yX2_lengthOf cX2_lengthOf 2 (some .int) ∈ wT := wT_t 734 (by decide +kernel) rfl
theorem qm_Mesh_214 : Cond.methodLink RX2 214 yX2_shortestLeaving ∈ wT := wT_t 744 (by decide +kernel) rfl
theorem qi_Mesh_shortestLeaving : Cond.instanceMethod yX2_shortestLeaving ∈ wT := wT_t 746 (by decide +kernel) rfl
theorem qs_Mesh_shortestLeaving : Cond.selects RX2 yX2_shortestLeaving yX2_shortestLeaving ∈ wT := wT_s 27 (by decide +kernel) rfl
theorem qc_Mesh_shortestLeaving : Cond.code yX2_shortestLeaving cX2_shortestLeaving 5 (some .int) ∈ wT := wT_t 747 (by decide +kernel) rfl
theorem qm_Mesh_217 : Cond.methodLink RX2 217 yX3_covers ∈ wT := wT_t 764 (by decide +kernel) rfl
theorem qm_Mesh_220 : Cond.methodLink RX2 220 yX2_exitTowards ∈ wT := wT_t 769 (by decide +kernel) rfl
theorem qi_Mesh_exitTowards : Cond.instanceMethod yX2_exitTowards ∈ wT := wT_t 770 (by decide +kernel) rfl
theorem qs_Mesh_exitTowards : Cond.selects RX2 yX2_exitTowards yX2_exitTowards ∈ wT := wT_t 771 (by decide +kernel) rfl
theorem qc_Mesh_exitTowards : Cond.code yX2_exitTowards cX2_exitTowards 6 (some .int) ∈ wT := wT_t 772 (by decide +kernel) rfl
theorem qm_Mesh_223 : Cond.methodLink RX2 223 yX2_reaches ∈ wT := wT_t 839 (by decide +kernel) rfl
theorem qi_Mesh_reaches : Cond.instanceMethod yX2_reaches ∈ wT := wT_t 841 (by decide +kernel) rfl
theorem qs_Mesh_reaches : Cond.selects RX2 yX2_reaches yX2_reaches ∈ wT := wT_s 30 (by decide +kernel) rfl
theorem qc_Mesh_reaches : Cond.code yX2_reaches cX2_reaches 4 (some .boolean) ∈ wT := wT_t 842 (by decide +kernel) rfl
theorem qm_Row_19 : Cond.methodLink RX4 19 yX4_get ∈ wT := wT_t 306 (by decide +kernel) rfl
theorem qm_Plan_36 : Cond.methodLink RX3 36 yX4_copyFrom ∈ wT := wT_t 302 (by decide +kernel) rfl
theorem qi_Row_copyFrom : Cond.instanceMethod yX4_copyFrom ∈ wT := wT_t 303 (by decide +kernel) rfl
theorem qs_Row_copyFrom : Cond.selects RX4 yX4_copyFrom yX4_copyFrom ∈ wT := wT_t 304 (by decide +kernel) rfl
theorem qc_Row_copyFrom : Cond.code yX4_copyFrom cX4_copyFrom 3 none ∈ wT := wT_t 305 (by decide +kernel) rfl
theorem qm_Plan_57 : Cond.methodLink RX3 57 yX3_pointAt ∈ wT := wT_t 423 (by decide +kernel) rfl
theorem qi_Plan_pointAt : Cond.instanceMethod yX3_pointAt ∈ wT := wT_t 424 (by decide +kernel) rfl
theorem qs_Plan_pointAt : Cond.selects RX3 yX3_pointAt yX3_pointAt ∈ wT := wT_t 425 (by decide +kernel) rfl
theorem qc_Plan_pointAt : Cond.code yX3_pointAt cX3_pointAt 4 (some .int) ∈ wT := wT_t 426 (by decide +kernel) rfl
theorem qm_Plan_60 : Cond.methodLink RX3 60 yX3_constraintCovers ∈ wT := wT_t 427 (by decide +kernel) rfl
theorem qi_Plan_constraintCovers : Cond.instanceMethod yX3_constraintCovers ∈ wT := wT_t 428 (by decide +kernel) rfl
theorem qs_Plan_constraintCovers : Cond.selects RX3 yX3_constraintCovers yX3_constraintCovers ∈ wT := wT_t 429 (by decide +kernel) rfl
theorem qc_Plan_constraintCovers : Cond.code yX3_constraintCovers cX3_constraintCovers 4 (some .boolean) ∈ wT := wT_t 430 (by decide +kernel) rfl
theorem qm_Plan_64 : Cond.methodLink RX3 64 yX3_isConstraint ∈ wT := wT_t 649 (by decide +kernel) rfl
theorem qm_Plan_67 : Cond.methodLink RX3 67 yX3_coversPoint ∈ wT := wT_t 650 (by decide +kernel) rfl
theorem qm_Plan_70 : Cond.methodLink RX3 70 yX3_crosses ∈ wT := wT_t 651 (by decide +kernel) rfl
theorem qi_Plan_crosses : Cond.instanceMethod yX3_crosses ∈ wT := wT_t 652 (by decide +kernel) rfl
theorem qs_Plan_crosses : Cond.selects RX3 yX3_crosses yX3_crosses ∈ wT := wT_t 653 (by decide +kernel) rfl
theorem qc_Plan_crosses : Cond.code yX3_crosses cX3_crosses 5 (some .boolean) ∈ wT := wT_t 654 (by decide +kernel) rfl
theorem qm_Plan_77 : Cond.methodLink RX3 77 yX4_set ∈ wT := wT_t 467 (by decide +kernel) rfl
theorem qm_Plan_73 : Cond.methodLink RX3 73 yX3_placePoint ∈ wT := wT_t 463 (by decide +kernel) rfl
theorem qi_Plan_placePoint : Cond.instanceMethod yX3_placePoint ∈ wT := wT_t 464 (by decide +kernel) rfl
theorem qs_Plan_placePoint : Cond.selects RX3 yX3_placePoint yX3_placePoint ∈ wT := wT_t 465 (by decide +kernel) rfl
theorem qc_Plan_placePoint : Cond.code yX3_placePoint cX3_placePoint 4 none ∈ wT := wT_t 466 (by decide +kernel) rfl
theorem qm_Row_7 : Cond.methodLink RX4 7 Lib.Math.max.name ∈ wT := wT_t 41 (by decide +kernel) rfl
theorem qm_Plan_81 : Cond.methodLink RX3 81 yX4_closeGap ∈ wT := wT_t 676 (by decide +kernel) rfl
theorem qi_Row_closeGap : Cond.instanceMethod yX4_closeGap ∈ wT := wT_t 677 (by decide +kernel) rfl
theorem qs_Row_closeGap : Cond.selects RX4 yX4_closeGap yX4_closeGap ∈ wT := wT_t 678 (by decide +kernel) rfl
theorem qc_Row_closeGap : Cond.code yX4_closeGap cX4_closeGap 3 none ∈ wT := wT_t 679 (by decide +kernel) rfl
theorem qm_Plan_84 : Cond.methodLink RX3 84 yX3_numberAfter ∈ wT := wT_t 822 (by decide +kernel) rfl
theorem qt_Plan_numberAfter : Cond.static yX3_numberAfter ∈ wT := wT_t 823 (by decide +kernel) rfl
theorem qc_Plan_numberAfter : Cond.code yX3_numberAfter cX3_numberAfter 2 (some .int) ∈ wT := wT_t 824 (by decide +kernel) rfl
theorem hd_Row_get : yX4_get.cls = RX4 ∧ yX4_get.cls ≠ "java/lang/invoke/MethodHandle" ∧ yX4_get.cls ≠ "java/lang/invoke/VarHandle" ∧ (parseMethodDescriptor yX4_get.desc).map (fun d => d.parameters.length) = some 1 := by decide +kernel
theorem hd_Row_set : yX4_set.cls = RX4 ∧ yX4_set.cls ≠ "java/lang/invoke/MethodHandle" ∧ yX4_set.cls ≠ "java/lang/invoke/VarHandle" ∧ (parseMethodDescriptor yX4_set.desc).map (fun d => d.parameters.length) = some 2 := by decide +kernel
theorem hd_Input_startNumber : yX1_startNumber.cls = RX1 ∧ yX1_startNumber.cls ≠ "java/lang/invoke/MethodHandle" ∧ yX1_startNumber.cls ≠ "java/lang/invoke/VarHandle" ∧ (parseMethodDescriptor yX1_startNumber.desc).map (fun d => d.parameters.length) = some 0 := by decide +kernel
theorem hd_Input_endEntry : yX1_endEntry.cls = RX1 ∧ yX1_endEntry.cls ≠ "java/lang/invoke/MethodHandle" ∧ yX1_endEntry.cls ≠ "java/lang/invoke/VarHandle" ∧ (parseMethodDescriptor yX1_endEntry.desc).map (fun d => d.parameters.length) = some 0 := by decide +kernel
theorem hd_Input_takesMiddle : yX1_takesMiddle.cls = RX1 ∧ yX1_takesMiddle.cls ≠ "java/lang/invoke/MethodHandle" ∧ yX1_takesMiddle.cls ≠ "java/lang/invoke/VarHandle" ∧ (parseMethodDescriptor yX1_takesMiddle.desc).map (fun d => d.parameters.length) = some 1 := by decide +kernel
theorem hd_Input_takesEnd : yX1_takesEnd.cls = RX1 ∧ yX1_takesEnd.cls ≠ "java/lang/invoke/MethodHandle" ∧ yX1_takesEnd.cls ≠ "java/lang/invoke/VarHandle" ∧ (parseMethodDescriptor yX1_takesEnd.desc).map (fun d => d.parameters.length) = some 1 := by decide +kernel
theorem hd_Input_takesDigit : yX1_takesDigit.cls = RX1 ∧ yX1_takesDigit.cls ≠ "java/lang/invoke/MethodHandle" ∧ yX1_takesDigit.cls ≠ "java/lang/invoke/VarHandle" ∧ (parseMethodDescriptor yX1_takesDigit.desc).map (fun d => d.parameters.length) = some 1 := by decide +kernel
theorem hd_Input_takes : yX1_takes.cls = RX1 ∧ yX1_takes.cls ≠ "java/lang/invoke/MethodHandle" ∧ yX1_takes.cls ≠ "java/lang/invoke/VarHandle" ∧ (parseMethodDescriptor yX1_takes.desc).map (fun d => d.parameters.length) = some 1 := by decide +kernel
theorem hd_Plan_twiceSignedArea : yX3_twiceSignedArea.cls = RX3 ∧ yX3_twiceSignedArea.cls ≠ "java/lang/invoke/MethodHandle" ∧ yX3_twiceSignedArea.cls ≠ "java/lang/invoke/VarHandle" ∧ (parseMethodDescriptor yX3_twiceSignedArea.desc).map (fun d => d.parameters.length) = some 4 := by decide +kernel
theorem hd_Top_signOf : yX6_signOf.cls = RX6 ∧ yX6_signOf.cls ≠ "java/lang/invoke/MethodHandle" ∧ yX6_signOf.cls ≠ "java/lang/invoke/VarHandle" ∧ (parseMethodDescriptor yX6_signOf.desc).map (fun d => d.parameters.length) = some 1 := by decide +kernel
theorem hd_Plan_points : yX3_points.cls = RX3 ∧ yX3_points.cls ≠ "java/lang/invoke/MethodHandle" ∧ yX3_points.cls ≠ "java/lang/invoke/VarHandle" ∧ (parseMethodDescriptor yX3_points.desc).map (fun d => d.parameters.length) = some 0 := by decide +kernel
theorem hd_Plan_side : yX3_side.cls = RX3 ∧ yX3_side.cls ≠ "java/lang/invoke/MethodHandle" ∧ yX3_side.cls ≠ "java/lang/invoke/VarHandle" ∧ (parseMethodDescriptor yX3_side.desc).map (fun d => d.parameters.length) = some 3 := by decide +kernel
theorem hd_Tab_set : yX5_set.cls = RX5 ∧ yX5_set.cls ≠ "java/lang/invoke/MethodHandle" ∧ yX5_set.cls ≠ "java/lang/invoke/VarHandle" ∧ (parseMethodDescriptor yX5_set.desc).map (fun d => d.parameters.length) = some 3 := by decide +kernel
theorem hd_Tab_clear : yX5_clear.cls = RX5 ∧ yX5_clear.cls ≠ "java/lang/invoke/MethodHandle" ∧ yX5_clear.cls ≠ "java/lang/invoke/VarHandle" ∧ (parseMethodDescriptor yX5_clear.desc).map (fun d => d.parameters.length) = some 0 := by decide +kernel
theorem hd_Mesh_findSidesOf : yX2_findSidesOf.cls = RX2 ∧ yX2_findSidesOf.cls ≠ "java/lang/invoke/MethodHandle" ∧ yX2_findSidesOf.cls ≠ "java/lang/invoke/VarHandle" ∧ (parseMethodDescriptor yX2_findSidesOf.desc).map (fun d => d.parameters.length) = some 2 := by decide +kernel
theorem hd_Mesh_link : yX2_link.cls = RX2 ∧ yX2_link.cls ≠ "java/lang/invoke/MethodHandle" ∧ yX2_link.cls ≠ "java/lang/invoke/VarHandle" ∧ (parseMethodDescriptor yX2_link.desc).map (fun d => d.parameters.length) = some 2 := by decide +kernel
theorem hd_Plan_covers : yX3_covers.cls = RX3 ∧ yX3_covers.cls ≠ "java/lang/invoke/MethodHandle" ∧ yX3_covers.cls ≠ "java/lang/invoke/VarHandle" ∧ (parseMethodDescriptor yX3_covers.desc).map (fun d => d.parameters.length) = some 4 := by decide +kernel
theorem hd_Tab_get : yX5_get.cls = RX5 ∧ yX5_get.cls ≠ "java/lang/invoke/MethodHandle" ∧ yX5_get.cls ≠ "java/lang/invoke/VarHandle" ∧ (parseMethodDescriptor yX5_get.desc).map (fun d => d.parameters.length) = some 2 := by decide +kernel
theorem hd_Mesh_parts : yX2_parts.cls = RX2 ∧ yX2_parts.cls ≠ "java/lang/invoke/MethodHandle" ∧ yX2_parts.cls ≠ "java/lang/invoke/VarHandle" ∧ (parseMethodDescriptor yX2_parts.desc).map (fun d => d.parameters.length) = some 4 := by decide +kernel
theorem hd_Mesh_splits : yX2_splits.cls = RX2 ∧ yX2_splits.cls ≠ "java/lang/invoke/MethodHandle" ∧ yX2_splits.cls ≠ "java/lang/invoke/VarHandle" ∧ (parseMethodDescriptor yX2_splits.desc).map (fun d => d.parameters.length) = some 4 := by decide +kernel
theorem hd_Plan_constraints : yX3_constraints.cls = RX3 ∧ yX3_constraints.cls ≠ "java/lang/invoke/MethodHandle" ∧ yX3_constraints.cls ≠ "java/lang/invoke/VarHandle" ∧ (parseMethodDescriptor yX3_constraints.desc).map (fun d => d.parameters.length) = some 0 := by decide +kernel
theorem hd_Plan_lowEnd : yX3_lowEnd.cls = RX3 ∧ yX3_lowEnd.cls ≠ "java/lang/invoke/MethodHandle" ∧ yX3_lowEnd.cls ≠ "java/lang/invoke/VarHandle" ∧ (parseMethodDescriptor yX3_lowEnd.desc).map (fun d => d.parameters.length) = some 1 := by decide +kernel
theorem hd_Plan_highEnd : yX3_highEnd.cls = RX3 ∧ yX3_highEnd.cls ≠ "java/lang/invoke/MethodHandle" ∧ yX3_highEnd.cls ≠ "java/lang/invoke/VarHandle" ∧ (parseMethodDescriptor yX3_highEnd.desc).map (fun d => d.parameters.length) = some 1 := by decide +kernel
theorem hd_Mesh_drawEdge : yX2_drawEdge.cls = RX2 ∧ yX2_drawEdge.cls ≠ "java/lang/invoke/MethodHandle" ∧ yX2_drawEdge.cls ≠ "java/lang/invoke/VarHandle" ∧ (parseMethodDescriptor yX2_drawEdge.desc).map (fun d => d.parameters.length) = some 2 := by decide +kernel
theorem hd_Mesh_isLinked : yX2_isLinked.cls = RX2 ∧ yX2_isLinked.cls ≠ "java/lang/invoke/MethodHandle" ∧ yX2_isLinked.cls ≠ "java/lang/invoke/VarHandle" ∧ (parseMethodDescriptor yX2_isLinked.desc).map (fun d => d.parameters.length) = some 2 := by decide +kernel
theorem hd_Plan_coversPoint : yX3_coversPoint.cls = RX3 ∧ yX3_coversPoint.cls ≠ "java/lang/invoke/MethodHandle" ∧ yX3_coversPoint.cls ≠ "java/lang/invoke/VarHandle" ∧ (parseMethodDescriptor yX3_coversPoint.desc).map (fun d => d.parameters.length) = some 2 := by decide +kernel
theorem hd_Mesh_crossesEdge : yX2_crossesEdge.cls = RX2 ∧ yX2_crossesEdge.cls ≠ "java/lang/invoke/MethodHandle" ∧ yX2_crossesEdge.cls ≠ "java/lang/invoke/VarHandle" ∧ (parseMethodDescriptor yX2_crossesEdge.desc).map (fun d => d.parameters.length) = some 2 := by decide +kernel
theorem hd_Mesh_emptyCorner : yX2_emptyCorner.cls = RX2 ∧ yX2_emptyCorner.cls ≠ "java/lang/invoke/MethodHandle" ∧ yX2_emptyCorner.cls ≠ "java/lang/invoke/VarHandle" ∧ (parseMethodDescriptor yX2_emptyCorner.desc).map (fun d => d.parameters.length) = some 2 := by decide +kernel
theorem hd_Plan_squaredDistance : yX3_squaredDistance.cls = RX3 ∧ yX3_squaredDistance.cls ≠ "java/lang/invoke/MethodHandle" ∧ yX3_squaredDistance.cls ≠ "java/lang/invoke/VarHandle" ∧ (parseMethodDescriptor yX3_squaredDistance.desc).map (fun d => d.parameters.length) = some 2 := by decide +kernel
theorem hd_Plan_twiceAreaFrom : yX3_twiceAreaFrom.cls = RX3 ∧ yX3_twiceAreaFrom.cls ≠ "java/lang/invoke/MethodHandle" ∧ yX3_twiceAreaFrom.cls ≠ "java/lang/invoke/VarHandle" ∧ (parseMethodDescriptor yX3_twiceAreaFrom.desc).map (fun d => d.parameters.length) = some 4 := by decide +kernel
theorem hd_Plan_circleSide : yX3_circleSide.cls = RX3 ∧ yX3_circleSide.cls ≠ "java/lang/invoke/MethodHandle" ∧ yX3_circleSide.cls ≠ "java/lang/invoke/VarHandle" ∧ (parseMethodDescriptor yX3_circleSide.desc).map (fun d => d.parameters.length) = some 4 := by decide +kernel
theorem hd_Mesh_unlink : yX2_unlink.cls = RX2 ∧ yX2_unlink.cls ≠ "java/lang/invoke/MethodHandle" ∧ yX2_unlink.cls ≠ "java/lang/invoke/VarHandle" ∧ (parseMethodDescriptor yX2_unlink.desc).map (fun d => d.parameters.length) = some 2 := by decide +kernel
theorem hd_Tab_turnRound : yX5_turnRound.cls = RX5 ∧ yX5_turnRound.cls ≠ "java/lang/invoke/MethodHandle" ∧ yX5_turnRound.cls ≠ "java/lang/invoke/VarHandle" ∧ (parseMethodDescriptor yX5_turnRound.desc).map (fun d => d.parameters.length) = some 3 := by decide +kernel
theorem hd_Mesh_isInner : yX2_isInner.cls = RX2 ∧ yX2_isInner.cls ≠ "java/lang/invoke/MethodHandle" ∧ yX2_isInner.cls ≠ "java/lang/invoke/VarHandle" ∧ (parseMethodDescriptor yX2_isInner.desc).map (fun d => d.parameters.length) = some 2 := by decide +kernel
theorem hd_Mesh_passesCircle : yX2_passesCircle.cls = RX2 ∧ yX2_passesCircle.cls ≠ "java/lang/invoke/MethodHandle" ∧ yX2_passesCircle.cls ≠ "java/lang/invoke/VarHandle" ∧ (parseMethodDescriptor yX2_passesCircle.desc).map (fun d => d.parameters.length) = some 2 := by decide +kernel
theorem hd_Plan_isConstraint : yX3_isConstraint.cls = RX3 ∧ yX3_isConstraint.cls ≠ "java/lang/invoke/MethodHandle" ∧ yX3_isConstraint.cls ≠ "java/lang/invoke/VarHandle" ∧ (parseMethodDescriptor yX3_isConstraint.desc).map (fun d => d.parameters.length) = some 2 := by decide +kernel
theorem hd_Mesh_flip : yX2_flip.cls = RX2 ∧ yX2_flip.cls ≠ "java/lang/invoke/MethodHandle" ∧ yX2_flip.cls ≠ "java/lang/invoke/VarHandle" ∧ (parseMethodDescriptor yX2_flip.desc).map (fun d => d.parameters.length) = some 2 := by decide +kernel
theorem hd_Mesh_addTriangle : yX2_addTriangle.cls = RX2 ∧ yX2_addTriangle.cls ≠ "java/lang/invoke/MethodHandle" ∧ yX2_addTriangle.cls ≠ "java/lang/invoke/VarHandle" ∧ (parseMethodDescriptor yX2_addTriangle.desc).map (fun d => d.parameters.length) = some 3 := by decide +kernel
theorem hd_Mesh_nextOnHull : yX2_nextOnHull.cls = RX2 ∧ yX2_nextOnHull.cls ≠ "java/lang/invoke/MethodHandle" ∧ yX2_nextOnHull.cls ≠ "java/lang/invoke/VarHandle" ∧ (parseMethodDescriptor yX2_nextOnHull.desc).map (fun d => d.parameters.length) = some 1 := by decide +kernel
theorem hd_Mesh_firstOnHull : yX2_firstOnHull.cls = RX2 ∧ yX2_firstOnHull.cls ≠ "java/lang/invoke/MethodHandle" ∧ yX2_firstOnHull.cls ≠ "java/lang/invoke/VarHandle" ∧ (parseMethodDescriptor yX2_firstOnHull.desc).map (fun d => d.parameters.length) = some 0 := by decide +kernel
theorem hd_Mesh_findSides : yX2_findSides.cls = RX2 ∧ yX2_findSides.cls ≠ "java/lang/invoke/MethodHandle" ∧ yX2_findSides.cls ≠ "java/lang/invoke/VarHandle" ∧ (parseMethodDescriptor yX2_findSides.desc).map (fun d => d.parameters.length) = some 0 := by decide +kernel
theorem hd_Mesh_drawSomeEdges : yX2_drawSomeEdges.cls = RX2 ∧ yX2_drawSomeEdges.cls ≠ "java/lang/invoke/MethodHandle" ∧ yX2_drawSomeEdges.cls ≠ "java/lang/invoke/VarHandle" ∧ (parseMethodDescriptor yX2_drawSomeEdges.desc).map (fun d => d.parameters.length) = some 0 := by decide +kernel
theorem hd_Mesh_findThirds : yX2_findThirds.cls = RX2 ∧ yX2_findThirds.cls ≠ "java/lang/invoke/MethodHandle" ∧ yX2_findThirds.cls ≠ "java/lang/invoke/VarHandle" ∧ (parseMethodDescriptor yX2_findThirds.desc).map (fun d => d.parameters.length) = some 0 := by decide +kernel
theorem hd_Mesh_flipBadEdges : yX2_flipBadEdges.cls = RX2 ∧ yX2_flipBadEdges.cls ≠ "java/lang/invoke/MethodHandle" ∧ yX2_flipBadEdges.cls ≠ "java/lang/invoke/VarHandle" ∧ (parseMethodDescriptor yX2_flipBadEdges.desc).map (fun d => d.parameters.length) = some 0 := by decide +kernel
theorem hd_Mesh_numberEdges : yX2_numberEdges.cls = RX2 ∧ yX2_numberEdges.cls ≠ "java/lang/invoke/MethodHandle" ∧ yX2_numberEdges.cls ≠ "java/lang/invoke/VarHandle" ∧ (parseMethodDescriptor yX2_numberEdges.desc).map (fun d => d.parameters.length) = some 0 := by decide +kernel
theorem hd_Mesh_numberTriangles : yX2_numberTriangles.cls = RX2 ∧ yX2_numberTriangles.cls ≠ "java/lang/invoke/MethodHandle" ∧ yX2_numberTriangles.cls ≠ "java/lang/invoke/VarHandle" ∧ (parseMethodDescriptor yX2_numberTriangles.desc).map (fun d => d.parameters.length) = some 0 := by decide +kernel
theorem hd_Mesh_numberHull : yX2_numberHull.cls = RX2 ∧ yX2_numberHull.cls ≠ "java/lang/invoke/MethodHandle" ∧ yX2_numberHull.cls ≠ "java/lang/invoke/VarHandle" ∧ (parseMethodDescriptor yX2_numberHull.desc).map (fun d => d.parameters.length) = some 0 := by decide +kernel
theorem hd_Mesh_cornerOf : yX2_cornerOf.cls = RX2 ∧ yX2_cornerOf.cls ≠ "java/lang/invoke/MethodHandle" ∧ yX2_cornerOf.cls ≠ "java/lang/invoke/VarHandle" ∧ (parseMethodDescriptor yX2_cornerOf.desc).map (fun d => d.parameters.length) = some 2 := by decide +kernel
theorem hd_Mesh_cornerAfter : yX2_cornerAfter.cls = RX2 ∧ yX2_cornerAfter.cls ≠ "java/lang/invoke/MethodHandle" ∧ yX2_cornerAfter.cls ≠ "java/lang/invoke/VarHandle" ∧ (parseMethodDescriptor yX2_cornerAfter.desc).map (fun d => d.parameters.length) = some 2 := by decide +kernel
theorem hd_J6_bitCount_0f7a4 : yJ6_bitCount_0f7a4.cls = RJ6 ∧ yJ6_bitCount_0f7a4.cls ≠ "java/lang/invoke/MethodHandle" ∧ yJ6_bitCount_0f7a4.cls ≠ "java/lang/invoke/VarHandle" ∧ (parseMethodDescriptor yJ6_bitCount_0f7a4.desc).map (fun d => d.parameters.length) = some 1 := by decide +kernel
theorem hd_Plan_xOf : yX3_xOf.cls = RX3 ∧ yX3_xOf.cls ≠ "java/lang/invoke/MethodHandle" ∧ yX3_xOf.cls ≠ "java/lang/invoke/VarHandle" ∧ (parseMethodDescriptor yX3_xOf.desc).map (fun d => d.parameters.length) = some 1 := by decide +kernel
theorem hd_Plan_yOf : yX3_yOf.cls = RX3 ∧ yX3_yOf.cls ≠ "java/lang/invoke/MethodHandle" ∧ yX3_yOf.cls ≠ "java/lang/invoke/VarHandle" ∧ (parseMethodDescriptor yX3_yOf.desc).map (fun d => d.parameters.length) = some 1 := by decide +kernel
theorem hd_Mesh_areaOf : yX2_areaOf.cls = RX2 ∧ yX2_areaOf.cls ≠ "java/lang/invoke/MethodHandle" ∧ yX2_areaOf.cls ≠ "java/lang/invoke/VarHandle" ∧ (parseMethodDescriptor yX2_areaOf.desc).map (fun d => d.parameters.length) = some 1 := by decide +kernel
theorem hd_Mesh_lengthOf : yX2_lengthOf.cls = RX2 ∧ yX2_lengthOf.cls ≠ "java/lang/invoke/MethodHandle" ∧ yX2_lengthOf.cls ≠ "java/lang/invoke/VarHandle" ∧ (parseMethodDescriptor yX2_lengthOf.desc).map (fun d => d.parameters.length) = some 1 := by decide +kernel
theorem hd_Mesh_shortestLeaving : yX2_shortestLeaving.cls = RX2 ∧ yX2_shortestLeaving.cls ≠ "java/lang/invoke/MethodHandle" ∧ yX2_shortestLeaving.cls ≠ "java/lang/invoke/VarHandle" ∧ (parseMethodDescriptor yX2_shortestLeaving.desc).map (fun d => d.parameters.length) = some 1 := by decide +kernel
theorem hd_Mesh_exitTowards : yX2_exitTowards.cls = RX2 ∧ yX2_exitTowards.cls ≠ "java/lang/invoke/MethodHandle" ∧ yX2_exitTowards.cls ≠ "java/lang/invoke/VarHandle" ∧ (parseMethodDescriptor yX2_exitTowards.desc).map (fun d => d.parameters.length) = some 3 := by decide +kernel
theorem hd_Mesh_reaches : yX2_reaches.cls = RX2 ∧ yX2_reaches.cls ≠ "java/lang/invoke/MethodHandle" ∧ yX2_reaches.cls ≠ "java/lang/invoke/VarHandle" ∧ (parseMethodDescriptor yX2_reaches.desc).map (fun d => d.parameters.length) = some 3 := by decide +kernel
theorem hd_Row_copyFrom : yX4_copyFrom.cls = RX4 ∧ yX4_copyFrom.cls ≠ "java/lang/invoke/MethodHandle" ∧ yX4_copyFrom.cls ≠ "java/lang/invoke/VarHandle" ∧ (parseMethodDescriptor yX4_copyFrom.desc).map (fun d => d.parameters.length) = some 1 := by decide +kernel
theorem hd_Plan_pointAt : yX3_pointAt.cls = RX3 ∧ yX3_pointAt.cls ≠ "java/lang/invoke/MethodHandle" ∧ yX3_pointAt.cls ≠ "java/lang/invoke/VarHandle" ∧ (parseMethodDescriptor yX3_pointAt.desc).map (fun d => d.parameters.length) = some 2 := by decide +kernel
theorem hd_Plan_constraintCovers : yX3_constraintCovers.cls = RX3 ∧ yX3_constraintCovers.cls ≠ "java/lang/invoke/MethodHandle" ∧ yX3_constraintCovers.cls ≠ "java/lang/invoke/VarHandle" ∧ (parseMethodDescriptor yX3_constraintCovers.desc).map (fun d => d.parameters.length) = some 2 := by decide +kernel
theorem hd_Plan_crosses : yX3_crosses.cls = RX3 ∧ yX3_crosses.cls ≠ "java/lang/invoke/MethodHandle" ∧ yX3_crosses.cls ≠ "java/lang/invoke/VarHandle" ∧ (parseMethodDescriptor yX3_crosses.desc).map (fun d => d.parameters.length) = some 4 := by decide +kernel
theorem hd_Plan_placePoint : yX3_placePoint.cls = RX3 ∧ yX3_placePoint.cls ≠ "java/lang/invoke/MethodHandle" ∧ yX3_placePoint.cls ≠ "java/lang/invoke/VarHandle" ∧ (parseMethodDescriptor yX3_placePoint.desc).map (fun d => d.parameters.length) = some 3 := by decide +kernel
theorem hd_Row_closeGap : yX4_closeGap.cls = RX4 ∧ yX4_closeGap.cls ≠ "java/lang/invoke/MethodHandle" ∧ yX4_closeGap.cls ≠ "java/lang/invoke/VarHandle" ∧ (parseMethodDescriptor yX4_closeGap.desc).map (fun d => d.parameters.length) = some 1 := by decide +kernel
theorem hd_Plan_numberAfter : yX3_numberAfter.cls = RX3 ∧ yX3_numberAfter.cls ≠ "java/lang/invoke/MethodHandle" ∧ yX3_numberAfter.cls ≠ "java/lang/invoke/VarHandle" ∧ (parseMethodDescriptor yX3_numberAfter.desc).map (fun d => d.parameters.length) = some 2 := by decide +kernel
theorem g_Input_50 : GoodIn wT (wsV RX1 50 RX4 yX4_get (wsM yX4_get cX4_get 2 (some .int))) := gV qm_Input_50 qi_Row_get qs_Row_get qn_Row qc_Row_get
theorem g_Input_46 : GoodIn wT (wsV RX1 46 RX4 yX4_set (wsM yX4_set cX4_set 3 none)) := gV qm_Input_46 qi_Row_set qs_Row_set qn_Row qc_Row_set
theorem g_Input_54 : GoodIn wT (wsV RX1 54 RX1 yX1_startNumber (wsM yX1_startNumber cX1_startNumber 1 none)) := gV qm_Input_54 qi_Input_startNumber qs_Input_startNumber qn_Input qc_Input_startNumber
theorem g_Input_61 : GoodIn wT (wsV RX1 61 RX1 yX1_endEntry (wsM yX1_endEntry cX1_endEntry 1 none)) := gV qm_Input_61 qi_Input_endEntry qs_Input_endEntry qn_Input qc_Input_endEntry
theorem g_Input_70 : GoodIn wT (wsV RX1 70 RX1 yX1_takesMiddle (wsM yX1_takesMiddle cX1_takesMiddle 2 (some .boolean))) := gV qm_Input_70 qi_Input_takesMiddle qs_Input_takesMiddle qn_Input qc_Input_takesMiddle
theorem g_Input_67 : GoodIn wT (wsV RX1 67 RX1 yX1_takesEnd (wsM yX1_takesEnd cX1_takesEnd 2 (some .boolean))) := gV qm_Input_67 qi_Input_takesEnd qs_Input_takesEnd qn_Input qc_Input_takesEnd
theorem g_Input_64 : GoodIn wT (wsV RX1 64 RX1 yX1_takesDigit (wsM yX1_takesDigit cX1_takesDigit 2 (some .boolean))) := gV qm_Input_64 qi_Input_takesDigit qs_Input_takesDigit qn_Input qc_Input_takesDigit
theorem g_Input_57 : GoodIn wT (wsV RX1 57 RX1 yX1_takes (wsM yX1_takes cX1_takes 2 (some .boolean))) := gV qm_Input_57 qi_Input_takes qs_Input_takes qn_Input qc_Input_takes
theorem g_Plan_40 : GoodIn wT (wsV RX3 40 RX4 yX4_get (wsM yX4_get cX4_get 2 (some .int))) := gV qm_Plan_40 qi_Row_get qs_Row_get qn_Row qc_Row_get
theorem g_Plan_87 : GoodIn wT (wsV RX3 87 RX3 yX3_twiceSignedArea (wsM yX3_twiceSignedArea cX3_twiceSignedArea 7 (some .int))) := gV qm_Plan_87 qi_Plan_twiceSignedArea qs_Plan_twiceSignedArea qn_Plan qc_Plan_twiceSignedArea
theorem g_Mesh_84 : GoodIn wT (wsV RX2 84 RX3 yX3_points (wsM yX3_points cX3_points 1 (some .int))) := gV qm_Mesh_84 qi_Plan_points qs_Plan_points qn_Plan qc_Plan_points
theorem g_Mesh_94 : GoodIn wT (wsV RX2 94 RX3 yX3_side (wsM yX3_side cX3_side 4 (some .int))) := gV qm_Mesh_94 qi_Plan_side qs_Plan_side qn_Plan qc_Plan_side
theorem g_Mesh_98 : GoodIn wT (wsV RX2 98 RX5 yX5_set (wsM yX5_set cX5_set 5 none)) := gV qm_Mesh_98 qi_Tab_set qs_Tab_set qn_Tab qc_Tab_set
theorem g_Mesh_81 : GoodIn wT (wsV RX2 81 RX5 yX5_clear (wsM yX5_clear cX5_clear 2 none)) := gV qm_Mesh_81 qi_Tab_clear qs_Tab_clear qn_Tab qc_Tab_clear
theorem g_Mesh_90 : GoodIn wT (wsV RX2 90 RX2 yX2_findSidesOf (wsM yX2_findSidesOf cX2_findSidesOf 7 none)) := gV qm_Mesh_90 qi_Mesh_findSidesOf qs_Mesh_findSidesOf qn_Mesh qc_Mesh_findSidesOf
theorem g_Mesh_127 : GoodIn wT (wsV RX2 127 RX4 yX4_get (wsM yX4_get cX4_get 2 (some .int))) := gV qm_Mesh_127 qi_Row_get qs_Row_get qn_Row qc_Row_get
theorem g_Mesh_102 : GoodIn wT (wsV RX2 102 RX4 yX4_set (wsM yX4_set cX4_set 3 none)) := gV qm_Mesh_102 qi_Row_set qs_Row_set qn_Row qc_Row_set
theorem g_Mesh_134 : GoodIn wT (wsV RX2 134 RX2 yX2_link (wsM yX2_link cX2_link 3 none)) := gV qm_Mesh_134 qi_Mesh_link qs_Mesh_link qn_Mesh qc_Mesh_link
theorem g_Plan_53 : GoodIn wT (wsV RX3 53 RX3 yX3_covers (wsM yX3_covers cX3_covers 5 (some .boolean))) := gV qm_Plan_53 qi_Plan_covers qs_Plan_covers qn_Plan qc_Plan_covers
theorem g_Mesh_140 : GoodIn wT (wsV RX2 140 RX5 yX5_get (wsM yX5_get cX5_get 4 (some .int))) := gV qm_Mesh_140 qi_Tab_get qs_Tab_get qn_Tab qc_Tab_get
theorem g_Mesh_137 : GoodIn wT (wsV RX2 137 RX2 yX2_parts (wsM yX2_parts cX2_parts 7 (some .boolean))) := gV qm_Mesh_137 qi_Mesh_parts qs_Mesh_parts qn_Mesh qc_Mesh_parts
theorem g_Mesh_130 : GoodIn wT (wsV RX2 130 RX2 yX2_splits (wsM yX2_splits cX2_splits 5 (some .boolean))) := gV qm_Mesh_130 qi_Mesh_splits qs_Mesh_splits qn_Mesh qc_Mesh_splits
theorem g_Mesh_104 : GoodIn wT (wsV RX2 104 RX3 yX3_constraints (wsM yX3_constraints cX3_constraints 1 (some .int))) := gV qm_Mesh_104 qi_Plan_constraints qs_Plan_constraints qn_Plan qc_Plan_constraints
theorem g_Mesh_107 : GoodIn wT (wsV RX2 107 RX3 yX3_lowEnd (wsM yX3_lowEnd cX3_lowEnd 2 (some .int))) := gV qm_Mesh_107 qi_Plan_lowEnd qs_Plan_lowEnd qn_Plan qc_Plan_lowEnd
theorem g_Mesh_111 : GoodIn wT (wsV RX2 111 RX3 yX3_highEnd (wsM yX3_highEnd cX3_highEnd 2 (some .int))) := gV qm_Mesh_111 qi_Plan_highEnd qs_Plan_highEnd qn_Plan qc_Plan_highEnd
theorem g_Mesh_114 : GoodIn wT (wsV RX2 114 RX2 yX2_drawEdge (wsM yX2_drawEdge cX2_drawEdge 3 none)) := gV qm_Mesh_114 qi_Mesh_drawEdge qs_Mesh_drawEdge qn_Mesh qc_Mesh_drawEdge
theorem g_Mesh_117 : GoodIn wT (wsV RX2 117 RX2 yX2_isLinked (wsM yX2_isLinked cX2_isLinked 3 (some .boolean))) := gV qm_Mesh_117 qi_Mesh_isLinked qs_Mesh_isLinked qn_Mesh qc_Mesh_isLinked
theorem g_Mesh_121 : GoodIn wT (wsV RX2 121 RX3 yX3_coversPoint (wsM yX3_coversPoint cX3_coversPoint 4 (some .boolean))) := gV qm_Mesh_121 qi_Plan_coversPoint qs_Plan_coversPoint qn_Plan qc_Plan_coversPoint
theorem g_Mesh_124 : GoodIn wT (wsV RX2 124 RX2 yX2_crossesEdge (wsM yX2_crossesEdge cX2_crossesEdge 4 (some .boolean))) := gV qm_Mesh_124 qi_Mesh_crossesEdge qs_Mesh_crossesEdge qn_Mesh qc_Mesh_crossesEdge
theorem g_Mesh_143 : GoodIn wT (wsV RX2 143 RX2 yX2_emptyCorner (wsM yX2_emptyCorner cX2_emptyCorner 6 (some .int))) := gV qm_Mesh_143 qi_Mesh_emptyCorner qs_Mesh_emptyCorner qn_Mesh qc_Mesh_emptyCorner
theorem g_Plan_99 : GoodIn wT (wsV RX3 99 RX3 yX3_squaredDistance (wsM yX3_squaredDistance cX3_squaredDistance 5 (some .int))) := gV qm_Plan_99 qi_Plan_squaredDistance qs_Plan_squaredDistance qn_Plan qc_Plan_squaredDistance
theorem g_Plan_102 : GoodIn wT (wsV RX3 102 RX3 yX3_twiceAreaFrom (wsM yX3_twiceAreaFrom cX3_twiceAreaFrom 5 (some .int))) := gV qm_Plan_102 qi_Plan_twiceAreaFrom qs_Plan_twiceAreaFrom qn_Plan qc_Plan_twiceAreaFrom
theorem g_Plan_95 : GoodIn wT (wsV RX3 95 RX3 yX3_side (wsM yX3_side cX3_side 4 (some .int))) := gV qm_Plan_95 qi_Plan_side qs_Plan_side qn_Plan qc_Plan_side
theorem g_Mesh_164 : GoodIn wT (wsV RX2 164 RX3 yX3_circleSide (wsM yX3_circleSide cX3_circleSide 9 (some .int))) := gV qm_Mesh_164 qi_Plan_circleSide qs_Plan_circleSide qn_Plan qc_Plan_circleSide
theorem g_Tab_19 : GoodIn wT (wsV RX5 19 RX5 yX5_set (wsM yX5_set cX5_set 5 none)) := gV qm_Tab_19 qi_Tab_set qs_Tab_set qn_Tab qc_Tab_set
theorem g_Mesh_158 : GoodIn wT (wsV RX2 158 RX2 yX2_unlink (wsM yX2_unlink cX2_unlink 3 none)) := gV qm_Mesh_158 qi_Mesh_unlink qs_Mesh_unlink qn_Mesh qc_Mesh_unlink
theorem g_Mesh_161 : GoodIn wT (wsV RX2 161 RX5 yX5_turnRound (wsM yX5_turnRound cX5_turnRound 4 none)) := gV qm_Mesh_161 qi_Tab_turnRound qs_Tab_turnRound qn_Tab qc_Tab_turnRound
theorem g_Mesh_146 : GoodIn wT (wsV RX2 146 RX2 yX2_isInner (wsM yX2_isInner cX2_isInner 3 (some .boolean))) := gV qm_Mesh_146 qi_Mesh_isInner qs_Mesh_isInner qn_Mesh qc_Mesh_isInner
theorem g_Mesh_149 : GoodIn wT (wsV RX2 149 RX2 yX2_passesCircle (wsM yX2_passesCircle cX2_passesCircle 6 (some .boolean))) := gV qm_Mesh_149 qi_Mesh_passesCircle qs_Mesh_passesCircle qn_Mesh qc_Mesh_passesCircle
theorem g_Mesh_152 : GoodIn wT (wsV RX2 152 RX3 yX3_isConstraint (wsM yX3_isConstraint cX3_isConstraint 4 (some .boolean))) := gV qm_Mesh_152 qi_Plan_isConstraint qs_Plan_isConstraint qn_Plan qc_Plan_isConstraint
theorem g_Mesh_155 : GoodIn wT (wsV RX2 155 RX2 yX2_flip (wsM yX2_flip cX2_flip 5 none)) := gV qm_Mesh_155 qi_Mesh_flip qs_Mesh_flip qn_Mesh qc_Mesh_flip
theorem g_Mesh_173 : GoodIn wT (wsV RX2 173 RX2 yX2_addTriangle (wsM yX2_addTriangle cX2_addTriangle 4 none)) := gV qm_Mesh_173 qi_Mesh_addTriangle qs_Mesh_addTriangle qn_Mesh qc_Mesh_addTriangle
theorem g_Mesh_179 : GoodIn wT (wsV RX2 179 RX2 yX2_nextOnHull (wsM yX2_nextOnHull cX2_nextOnHull 3 (some .int))) := gV qm_Mesh_179 qi_Mesh_nextOnHull qs_Mesh_nextOnHull qn_Mesh qc_Mesh_nextOnHull
theorem g_Mesh_176 : GoodIn wT (wsV RX2 176 RX2 yX2_firstOnHull (wsM yX2_firstOnHull cX2_firstOnHull 2 (some .int))) := gV qm_Mesh_176 qi_Mesh_firstOnHull qs_Mesh_firstOnHull qn_Mesh qc_Mesh_firstOnHull
theorem g_Mesh_59 : GoodIn wT (wsV RX2 59 RX2 yX2_findSides (wsM yX2_findSides cX2_findSides 3 none)) := gV qm_Mesh_59 qi_Mesh_findSides qs_Mesh_findSides qn_Mesh qc_Mesh_findSides
theorem g_Mesh_62 : GoodIn wT (wsV RX2 62 RX2 yX2_drawSomeEdges (wsM yX2_drawSomeEdges cX2_drawSomeEdges 3 none)) := gV qm_Mesh_62 qi_Mesh_drawSomeEdges qs_Mesh_drawSomeEdges qn_Mesh qc_Mesh_drawSomeEdges
theorem g_Mesh_65 : GoodIn wT (wsV RX2 65 RX2 yX2_findThirds (wsM yX2_findThirds cX2_findThirds 3 none)) := gV qm_Mesh_65 qi_Mesh_findThirds qs_Mesh_findThirds qn_Mesh qc_Mesh_findThirds
theorem g_Mesh_68 : GoodIn wT (wsV RX2 68 RX2 yX2_flipBadEdges (wsM yX2_flipBadEdges cX2_flipBadEdges 4 (some .boolean))) := gV qm_Mesh_68 qi_Mesh_flipBadEdges qs_Mesh_flipBadEdges qn_Mesh qc_Mesh_flipBadEdges
theorem g_Mesh_72 : GoodIn wT (wsV RX2 72 RX2 yX2_numberEdges (wsM yX2_numberEdges cX2_numberEdges 3 none)) := gV qm_Mesh_72 qi_Mesh_numberEdges qs_Mesh_numberEdges qn_Mesh qc_Mesh_numberEdges
theorem g_Mesh_75 : GoodIn wT (wsV RX2 75 RX2 yX2_numberTriangles (wsM yX2_numberTriangles cX2_numberTriangles 4 none)) := gV qm_Mesh_75 qi_Mesh_numberTriangles qs_Mesh_numberTriangles qn_Mesh qc_Mesh_numberTriangles
theorem g_Mesh_78 : GoodIn wT (wsV RX2 78 RX2 yX2_numberHull (wsM yX2_numberHull cX2_numberHull 2 none)) := gV qm_Mesh_78 qi_Mesh_numberHull qs_Mesh_numberHull qn_Mesh qc_Mesh_numberHull
theorem g_Mesh_182 : GoodIn wT (wsV RX2 182 RX2 yX2_cornerOf (wsM yX2_cornerOf cX2_cornerOf 3 (some .int))) := gV qm_Mesh_182 qi_Mesh_cornerOf qs_Mesh_cornerOf qn_Mesh qc_Mesh_cornerOf
theorem g_Mesh_185 : GoodIn wT (wsV RX2 185 RX2 yX2_cornerAfter (wsM yX2_cornerAfter cX2_cornerAfter 3 (some .int))) := gV qm_Mesh_185 qi_Mesh_cornerAfter qs_Mesh_cornerAfter qn_Mesh qc_Mesh_cornerAfter
theorem g_Mesh_196 : GoodIn wT (wsV RX2 196 RX3 yX3_xOf (wsM yX3_xOf cX3_xOf 2 (some .int))) := gV qm_Mesh_196 qi_Plan_xOf qs_Plan_xOf qn_Plan qc_Plan_xOf
theorem g_Mesh_199 : GoodIn wT (wsV RX2 199 RX3 yX3_yOf (wsM yX3_yOf cX3_yOf 2 (some .int))) := gV qm_Mesh_199 qi_Plan_yOf qs_Plan_yOf qn_Plan qc_Plan_yOf
theorem g_Mesh_202 : GoodIn wT (wsV RX2 202 RX3 yX3_twiceSignedArea (wsM yX3_twiceSignedArea cX3_twiceSignedArea 7 (some .int))) := gV qm_Mesh_202 qi_Plan_twiceSignedArea qs_Plan_twiceSignedArea qn_Plan qc_Plan_twiceSignedArea
theorem g_Mesh_205 : GoodIn wT (wsV RX2 205 RX2 yX2_areaOf (wsM yX2_areaOf cX2_areaOf 3 (some .int))) := gV qm_Mesh_205 qi_Mesh_areaOf qs_Mesh_areaOf qn_Mesh qc_Mesh_areaOf
theorem g_Mesh_208 : GoodIn wT (wsV RX2 208 RX3 yX3_squaredDistance (wsM yX3_squaredDistance cX3_squaredDistance 5 (some .int))) := gV qm_Mesh_208 qi_Plan_squaredDistance qs_Plan_squaredDistance qn_Plan qc_Plan_squaredDistance
theorem g_Mesh_211 : GoodIn wT (wsV RX2 211 RX2 yX2_lengthOf (wsM yX2_lengthOf cX2_lengthOf 2 (some .int))) := gV qm_Mesh_211 qi_Mesh_lengthOf qs_Mesh_lengthOf qn_Mesh qc_Mesh_lengthOf
theorem g_Mesh_214 : GoodIn wT (wsV RX2 214 RX2 yX2_shortestLeaving (wsM yX2_shortestLeaving cX2_shortestLeaving 5 (some .int))) := gV qm_Mesh_214 qi_Mesh_shortestLeaving qs_Mesh_shortestLeaving qn_Mesh qc_Mesh_shortestLeaving
theorem g_Mesh_217 : GoodIn wT (wsV RX2 217 RX3 yX3_covers (wsM yX3_covers cX3_covers 5 (some .boolean))) := gV qm_Mesh_217 qi_Plan_covers qs_Plan_covers qn_Plan qc_Plan_covers
theorem g_Mesh_220 : GoodIn wT (wsV RX2 220 RX2 yX2_exitTowards (wsM yX2_exitTowards cX2_exitTowards 6 (some .int))) := gV qm_Mesh_220 qi_Mesh_exitTowards qs_Mesh_exitTowards qn_Mesh qc_Mesh_exitTowards
theorem g_Mesh_223 : GoodIn wT (wsV RX2 223 RX2 yX2_reaches (wsM yX2_reaches cX2_reaches 4 (some .boolean))) := gV qm_Mesh_223 qi_Mesh_reaches qs_Mesh_reaches qn_Mesh qc_Mesh_reaches
theorem g_Row_19 : GoodIn wT (wsV RX4 19 RX4 yX4_get (wsM yX4_get cX4_get 2 (some .int))) := gV qm_Row_19 qi_Row_get qs_Row_get qn_Row qc_Row_get
theorem g_Plan_36 : GoodIn wT (wsV RX3 36 RX4 yX4_copyFrom (wsM yX4_copyFrom cX4_copyFrom 3 none)) := gV qm_Plan_36 qi_Row_copyFrom qs_Row_copyFrom qn_Row qc_Row_copyFrom
theorem g_Plan_57 : GoodIn wT (wsV RX3 57 RX3 yX3_pointAt (wsM yX3_pointAt cX3_pointAt 4 (some .int))) := gV qm_Plan_57 qi_Plan_pointAt qs_Plan_pointAt qn_Plan qc_Plan_pointAt
theorem g_Plan_60 : GoodIn wT (wsV RX3 60 RX3 yX3_constraintCovers (wsM yX3_constraintCovers cX3_constraintCovers 4 (some .boolean))) := gV qm_Plan_60 qi_Plan_constraintCovers qs_Plan_constraintCovers qn_Plan qc_Plan_constraintCovers
theorem g_Plan_64 : GoodIn wT (wsV RX3 64 RX3 yX3_isConstraint (wsM yX3_isConstraint cX3_isConstraint 4 (some .boolean))) := gV qm_Plan_64 qi_Plan_isConstraint qs_Plan_isConstraint qn_Plan qc_Plan_isConstraint
theorem g_Plan_67 : GoodIn wT (wsV RX3 67 RX3 yX3_coversPoint (wsM yX3_coversPoint cX3_coversPoint 4 (some .boolean))) := gV qm_Plan_67 qi_Plan_coversPoint qs_Plan_coversPoint qn_Plan qc_Plan_coversPoint
theorem g_Plan_70 : GoodIn wT (wsV RX3 70 RX3 yX3_crosses (wsM yX3_crosses cX3_crosses 5 (some .boolean))) := gV qm_Plan_70 qi_Plan_crosses qs_Plan_crosses qn_Plan qc_Plan_crosses
theorem g_Plan_77 : GoodIn wT (wsV RX3 77 RX4 yX4_set (wsM yX4_set cX4_set 3 none)) := gV qm_Plan_77 qi_Row_set qs_Row_set qn_Row qc_Row_set
theorem g_Plan_73 : GoodIn wT (wsV RX3 73 RX3 yX3_placePoint (wsM yX3_placePoint cX3_placePoint 4 none)) := gV qm_Plan_73 qi_Plan_placePoint qs_Plan_placePoint qn_Plan qc_Plan_placePoint
theorem g_Plan_81 : GoodIn wT (wsV RX3 81 RX4 yX4_closeGap (wsM yX4_closeGap cX4_closeGap 3 none)) := gV qm_Plan_81 qi_Row_closeGap qs_Row_closeGap qn_Row qc_Row_closeGap
theorem g_Plan_84 : GoodIn wT (wsS RX3 84 yX3_numberAfter (wsM yX3_numberAfter cX3_numberAfter 2 (some .int))) := gS qm_Plan_84 qt_Plan_numberAfter qn_Plan qc_Plan_numberAfter
