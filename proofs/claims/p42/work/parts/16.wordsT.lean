theorem qm_Hist_25 : Cond.methodLink RX0 25 yX3_copyFrom ∈ wT := wT_t 455 (by decide +kernel) rfl
theorem qi_Plan_copyFrom : Cond.instanceMethod yX3_copyFrom ∈ wT := wT_t 299 (by decide +kernel) rfl
theorem qs_Plan_copyFrom : Cond.selects RX3 yX3_copyFrom yX3_copyFrom ∈ wT := wT_t 300 (by decide +kernel) rfl
theorem qc_Plan_copyFrom : Cond.code yX3_copyFrom cX3_copyFrom 2 none ∈ wT := wT_t 301 (by decide +kernel) rfl
theorem qf_Hist_18 : Cond.fieldLink RX0 18 "ConstrainedDelaunay$History" "next" "I" ∈ wT := wT_t 136 (by decide +kernel) rfl
theorem qf_Hist_22 : Cond.fieldLink RX0 22 "ConstrainedDelaunay$History" "kept" "I" ∈ wT := wT_t 137 (by decide +kernel) rfl
theorem qm_Hist_29 : Cond.methodLink RX0 29 Lib.Math.min.name ∈ wT := wT_t 456 (by decide +kernel) rfl
theorem qf_Hist_11 : Cond.fieldLink RX0 11 "ConstrainedDelaunay$History" "plans" "[LConstrainedDelaunay$Plan;" ∈ wT := wT_t 135 (by decide +kernel) rfl
theorem qm_Hist_35 : Cond.methodLink RX0 35 Lib.Math.max.name ∈ wT := wT_t 882 (by decide +kernel) rfl
theorem qm_Top_306 : Cond.methodLink RX6 306 yX6_isCoordinate ∈ wT := wT_t 324 (by decide +kernel) rfl
theorem qt_Top_isCoordinate : Cond.static yX6_isCoordinate ∈ wT := wT_t 325 (by decide +kernel) rfl
theorem qc_Top_isCoordinate : Cond.code yX6_isCoordinate cX6_isCoordinate 1 (some .boolean) ∈ wT := wT_t 326 (by decide +kernel) rfl
theorem qn_IAE : Cond.initialized "java/lang/IllegalArgumentException" ∈ wT := wT_t 13 (by decide +kernel) rfl
theorem ql_Top_220 : Cond.classLink RX6 220 "java/lang/IllegalArgumentException" ∈ wT := wT_t 327 (by decide +kernel) rfl
theorem qf_Top_10 : Cond.fieldLink RX6 10 "ConstrainedDelaunay" "plan" "LConstrainedDelaunay$Plan;" ∈ wT := wT_t 181 (by decide +kernel) rfl
theorem qm_Top_68 : Cond.methodLink RX6 68 yX3_points ∈ wT := wT_t 210 (by decide +kernel) rfl
theorem qm_Top_313 : Cond.methodLink RX6 313 yX3_admitsPoint ∈ wT := wT_t 419 (by decide +kernel) rfl
theorem qi_Plan_admitsPoint : Cond.instanceMethod yX3_admitsPoint ∈ wT := wT_t 420 (by decide +kernel) rfl
theorem qs_Plan_admitsPoint : Cond.selects RX3 yX3_admitsPoint yX3_admitsPoint ∈ wT := wT_t 421 (by decide +kernel) rfl
theorem qc_Plan_admitsPoint : Cond.code yX3_admitsPoint cX3_admitsPoint 3 (some .boolean) ∈ wT := wT_t 422 (by decide +kernel) rfl
theorem qn_UOE : Cond.initialized "java/lang/UnsupportedOperationException" ∈ wT := wT_t 15 (by decide +kernel) rfl
theorem ql_Top_90 : Cond.classLink RX6 90 "java/lang/UnsupportedOperationException" ∈ wT := wT_t 435 (by decide +kernel) rfl
theorem qn_ISE : Cond.initialized "java/lang/IllegalStateException" ∈ wT := wT_t 14 (by decide +kernel) rfl
theorem ql_Top_117 : Cond.classLink RX6 117 "java/lang/IllegalStateException" ∈ wT := wT_t 403 (by decide +kernel) rfl
theorem qm_Top_52 : Cond.methodLink RX6 52 yX6_requirePosition ∈ wT := wT_t 320 (by decide +kernel) rfl
theorem qi_Top_requirePosition : Cond.instanceMethod yX6_requirePosition ∈ wT := wT_t 322 (by decide +kernel) rfl
theorem qs_Top_requirePosition : Cond.selects RX6 yX6_requirePosition yX6_requirePosition ∈ wT := wT_s 1 (by decide +kernel) rfl
theorem qc_Top_requirePosition : Cond.code yX6_requirePosition cX6_requirePosition 3 none ∈ wT := wT_t 323 (by decide +kernel) rfl
theorem qm_Top_56 : Cond.methodLink RX6 56 yX6_requireNewPoint ∈ wT := wT_t 399 (by decide +kernel) rfl
theorem qi_Top_requireNewPoint : Cond.instanceMethod yX6_requireNewPoint ∈ wT := wT_t 401 (by decide +kernel) rfl
theorem qs_Top_requireNewPoint : Cond.selects RX6 yX6_requireNewPoint yX6_requireNewPoint ∈ wT := wT_s 3 (by decide +kernel) rfl
theorem qc_Top_requireNewPoint : Cond.code yX6_requireNewPoint cX6_requireNewPoint 3 none ∈ wT := wT_t 402 (by decide +kernel) rfl
theorem qf_Top_37 : Cond.fieldLink RX6 37 "ConstrainedDelaunay" "history" "LConstrainedDelaunay$History;" ∈ wT := wT_t 186 (by decide +kernel) rfl
theorem qm_Top_59 : Cond.methodLink RX6 59 yX0_remember ∈ wT := wT_t 451 (by decide +kernel) rfl
theorem qi_Hist_remember : Cond.instanceMethod yX0_remember ∈ wT := wT_t 452 (by decide +kernel) rfl
theorem qs_Hist_remember : Cond.selects RX0 yX0_remember yX0_remember ∈ wT := wT_t 453 (by decide +kernel) rfl
theorem qn_Hist : Cond.initialized RX0 ∈ wT := wT_t 7 (by decide +kernel) rfl
theorem qc_Hist_remember : Cond.code yX0_remember cX0_remember 2 none ∈ wT := wT_t 454 (by decide +kernel) rfl
theorem qm_Top_62 : Cond.methodLink RX6 62 yX3_appendPoint ∈ wT := wT_t 459 (by decide +kernel) rfl
theorem qi_Plan_appendPoint : Cond.instanceMethod yX3_appendPoint ∈ wT := wT_t 460 (by decide +kernel) rfl
theorem qs_Plan_appendPoint : Cond.selects RX3 yX3_appendPoint yX3_appendPoint ∈ wT := wT_t 461 (by decide +kernel) rfl
theorem qc_Plan_appendPoint : Cond.code yX3_appendPoint cX3_appendPoint 3 none ∈ wT := wT_t 462 (by decide +kernel) rfl
theorem qf_Top_21 : Cond.fieldLink RX6 21 "ConstrainedDelaunay" "mesh" "LConstrainedDelaunay$Mesh;" ∈ wT := wT_t 182 (by decide +kernel) rfl
theorem qm_Top_65 : Cond.methodLink RX6 65 yX2_draw ∈ wT := wT_t 471 (by decide +kernel) rfl
theorem qi_Mesh_draw : Cond.instanceMethod yX2_draw ∈ wT := wT_t 472 (by decide +kernel) rfl
theorem qs_Mesh_draw : Cond.selects RX2 yX2_draw yX2_draw ∈ wT := wT_t 473 (by decide +kernel) rfl
theorem qc_Mesh_draw : Cond.code yX2_draw cX2_draw 3 none ∈ wT := wT_t 474 (by decide +kernel) rfl
theorem qm_Top_295 : Cond.methodLink RX6 295 yX3_hasPoint ∈ wT := wT_t 622 (by decide +kernel) rfl
theorem qi_Plan_hasPoint : Cond.instanceMethod yX3_hasPoint ∈ wT := wT_t 623 (by decide +kernel) rfl
theorem qs_Plan_hasPoint : Cond.selects RX3 yX3_hasPoint yX3_hasPoint ∈ wT := wT_t 624 (by decide +kernel) rfl
theorem qc_Plan_hasPoint : Cond.code yX3_hasPoint cX3_hasPoint 2 (some .boolean) ∈ wT := wT_t 625 (by decide +kernel) rfl
theorem qn_IOB : Cond.initialized "java/lang/IndexOutOfBoundsException" ∈ wT := wT_t 16 (by decide +kernel) rfl
theorem ql_Top_206 : Cond.classLink RX6 206 "java/lang/IndexOutOfBoundsException" ∈ wT := wT_t 626 (by decide +kernel) rfl
theorem qm_Top_316 : Cond.methodLink RX6 316 yX3_endsConstraint ∈ wT := wT_t 813 (by decide +kernel) rfl
theorem qi_Plan_endsConstraint : Cond.instanceMethod yX3_endsConstraint ∈ wT := wT_t 814 (by decide +kernel) rfl
theorem qs_Plan_endsConstraint : Cond.selects RX3 yX3_endsConstraint yX3_endsConstraint ∈ wT := wT_t 815 (by decide +kernel) rfl
theorem qc_Plan_endsConstraint : Cond.code yX3_endsConstraint cX3_endsConstraint 3 (some .boolean) ∈ wT := wT_t 816 (by decide +kernel) rfl
theorem qm_Top_72 : Cond.methodLink RX6 72 yX6_requirePoint ∈ wT := wT_t 618 (by decide +kernel) rfl
theorem qi_Top_requirePoint : Cond.instanceMethod yX6_requirePoint ∈ wT := wT_t 620 (by decide +kernel) rfl
theorem qs_Top_requirePoint : Cond.selects RX6 yX6_requirePoint yX6_requirePoint ∈ wT := wT_s 24 (by decide +kernel) rfl
theorem qc_Top_requirePoint : Cond.code yX6_requirePoint cX6_requirePoint 2 none ∈ wT := wT_t 621 (by decide +kernel) rfl
theorem qm_Top_76 : Cond.methodLink RX6 76 yX6_requireLoosePoint ∈ wT := wT_t 809 (by decide +kernel) rfl
theorem qi_Top_requireLoosePoint : Cond.instanceMethod yX6_requireLoosePoint ∈ wT := wT_t 811 (by decide +kernel) rfl
theorem qs_Top_requireLoosePoint : Cond.selects RX6 yX6_requireLoosePoint yX6_requireLoosePoint ∈ wT := wT_s 29 (by decide +kernel) rfl
theorem qc_Top_requireLoosePoint : Cond.code yX6_requireLoosePoint cX6_requireLoosePoint 2 none ∈ wT := wT_t 812 (by decide +kernel) rfl
theorem qm_Top_79 : Cond.methodLink RX6 79 yX3_dropPoint ∈ wT := wT_t 818 (by decide +kernel) rfl
theorem qi_Plan_dropPoint : Cond.instanceMethod yX3_dropPoint ∈ wT := wT_t 819 (by decide +kernel) rfl
theorem qs_Plan_dropPoint : Cond.selects RX3 yX3_dropPoint yX3_dropPoint ∈ wT := wT_t 820 (by decide +kernel) rfl
theorem qc_Plan_dropPoint : Cond.code yX3_dropPoint cX3_dropPoint 3 none ∈ wT := wT_t 821 (by decide +kernel) rfl
theorem qm_Top_82 : Cond.methodLink RX6 82 yX3_pointAt ∈ wT := wT_t 759 (by decide +kernel) rfl
theorem qm_Top_86 : Cond.methodLink RX6 86 yX3_constraintCovers ∈ wT := wT_t 1036 (by decide +kernel) rfl
theorem qm_Top_97 : Cond.methodLink RX6 97 yX3_placePoint ∈ wT := wT_t 1037 (by decide +kernel) rfl
theorem qm_Top_101 : Cond.methodLink RX6 101 yX6_requireBit ∈ wT := wT_t 910 (by decide +kernel) rfl
theorem qi_Top_requireBit : Cond.instanceMethod yX6_requireBit ∈ wT := wT_t 912 (by decide +kernel) rfl
theorem qs_Top_requireBit : Cond.selects RX6 yX6_requireBit yX6_requireBit ∈ wT := wT_s 31 (by decide +kernel) rfl
theorem qc_Top_requireBit : Cond.code yX6_requireBit cX6_requireBit 2 none ∈ wT := wT_t 913 (by decide +kernel) rfl
theorem qm_Top_108 : Cond.methodLink RX6 108 yX3_yOf ∈ wT := wT_t 916 (by decide +kernel) rfl
theorem qm_Top_104 : Cond.methodLink RX6 104 yX3_xOf ∈ wT := wT_t 915 (by decide +kernel) rfl
theorem qm_Top_111 : Cond.methodLink RX6 111 yX6_requireDifferent ∈ wT := wT_t 639 (by decide +kernel) rfl
theorem qi_Top_requireDifferent : Cond.instanceMethod yX6_requireDifferent ∈ wT := wT_t 641 (by decide +kernel) rfl
theorem qs_Top_requireDifferent : Cond.selects RX6 yX6_requireDifferent yX6_requireDifferent ∈ wT := wT_s 25 (by decide +kernel) rfl
theorem qc_Top_requireDifferent : Cond.code yX6_requireDifferent cX6_requireDifferent 3 none ∈ wT := wT_t 642 (by decide +kernel) rfl
theorem qm_Top_114 : Cond.methodLink RX6 114 yX3_constraints ∈ wT := wT_t 242 (by decide +kernel) rfl
theorem qm_Top_122 : Cond.methodLink RX6 122 yX3_admitsSegment ∈ wT := wT_t 645 (by decide +kernel) rfl
theorem qi_Plan_admitsSegment : Cond.instanceMethod yX3_admitsSegment ∈ wT := wT_t 646 (by decide +kernel) rfl
theorem qs_Plan_admitsSegment : Cond.selects RX3 yX3_admitsSegment yX3_admitsSegment ∈ wT := wT_t 647 (by decide +kernel) rfl
theorem qc_Plan_admitsSegment : Cond.code yX3_admitsSegment cX3_admitsSegment 4 (some .boolean) ∈ wT := wT_t 648 (by decide +kernel) rfl
theorem qm_Top_127 : Cond.methodLink RX6 127 yX3_appendConstraint ∈ wT := wT_t 656 (by decide +kernel) rfl
theorem qi_Plan_appendConstraint : Cond.instanceMethod yX3_appendConstraint ∈ wT := wT_t 657 (by decide +kernel) rfl
theorem qs_Plan_appendConstraint : Cond.selects RX3 yX3_appendConstraint yX3_appendConstraint ∈ wT := wT_t 658 (by decide +kernel) rfl
theorem qc_Plan_appendConstraint : Cond.code yX3_appendConstraint cX3_appendConstraint 3 none ∈ wT := wT_t 659 (by decide +kernel) rfl
theorem qm_Top_130 : Cond.methodLink RX6 130 yX6_requireConstraint ∈ wT := wT_t 667 (by decide +kernel) rfl
theorem qi_Top_requireConstraint : Cond.instanceMethod yX6_requireConstraint ∈ wT := wT_t 669 (by decide +kernel) rfl
theorem qs_Top_requireConstraint : Cond.selects RX6 yX6_requireConstraint yX6_requireConstraint ∈ wT := wT_s 26 (by decide +kernel) rfl
theorem qc_Top_requireConstraint : Cond.code yX6_requireConstraint cX6_requireConstraint 2 none ∈ wT := wT_t 670 (by decide +kernel) rfl
theorem qm_Top_133 : Cond.methodLink RX6 133 yX3_dropConstraint ∈ wT := wT_t 672 (by decide +kernel) rfl
theorem qi_Plan_dropConstraint : Cond.instanceMethod yX3_dropConstraint ∈ wT := wT_t 673 (by decide +kernel) rfl
theorem qs_Plan_dropConstraint : Cond.selects RX3 yX3_dropConstraint yX3_dropConstraint ∈ wT := wT_t 674 (by decide +kernel) rfl
theorem qc_Plan_dropConstraint : Cond.code yX3_dropConstraint cX3_dropConstraint 2 none ∈ wT := wT_t 675 (by decide +kernel) rfl
theorem qm_Top_139 : Cond.methodLink RX6 139 yX3_highEnd ∈ wT := wT_t 254 (by decide +kernel) rfl
theorem qm_Top_136 : Cond.methodLink RX6 136 yX3_lowEnd ∈ wT := wT_t 246 (by decide +kernel) rfl
theorem qf_Top_44 : Cond.fieldLink RX6 44 "ConstrainedDelaunay" "input" "LConstrainedDelaunay$Input;" ∈ wT := wT_t 187 (by decide +kernel) rfl
theorem qm_Top_327 : Cond.methodLink RX6 327 yX1_firstOf ∈ wT := wT_t 1085 (by decide +kernel) rfl
theorem qi_Input_firstOf : Cond.instanceMethod yX1_firstOf ∈ wT := wT_t 1086 (by decide +kernel) rfl
theorem qs_Input_firstOf : Cond.selects RX1 yX1_firstOf yX1_firstOf ∈ wT := wT_t 1087 (by decide +kernel) rfl
theorem qc_Input_firstOf : Cond.code yX1_firstOf cX1_firstOf 2 (some .int) ∈ wT := wT_t 1088 (by decide +kernel) rfl
theorem qm_Top_330 : Cond.methodLink RX6 330 yX1_secondOf ∈ wT := wT_t 1089 (by decide +kernel) rfl
theorem qi_Input_secondOf : Cond.instanceMethod yX1_secondOf ∈ wT := wT_t 1090 (by decide +kernel) rfl
theorem qs_Input_secondOf : Cond.selects RX1 yX1_secondOf yX1_secondOf ∈ wT := wT_t 1091 (by decide +kernel) rfl
theorem qc_Input_secondOf : Cond.code yX1_secondOf cX1_secondOf 2 (some .int) ∈ wT := wT_t 1092 (by decide +kernel) rfl
theorem qm_Top_333 : Cond.methodLink RX6 333 yX1_isSegment ∈ wT := wT_t 1093 (by decide +kernel) rfl
theorem qi_Input_isSegment : Cond.instanceMethod yX1_isSegment ∈ wT := wT_t 1094 (by decide +kernel) rfl
theorem qs_Input_isSegment : Cond.selects RX1 yX1_isSegment yX1_isSegment ∈ wT := wT_t 1095 (by decide +kernel) rfl
theorem qc_Input_isSegment : Cond.code yX1_isSegment cX1_isSegment 2 (some .boolean) ∈ wT := wT_t 1096 (by decide +kernel) rfl
theorem qm_Top_151 : Cond.methodLink RX6 151 yX1_parse ∈ wT := wT_t 1047 (by decide +kernel) rfl
theorem qi_Input_parse : Cond.instanceMethod yX1_parse ∈ wT := wT_t 1048 (by decide +kernel) rfl
theorem qs_Input_parse : Cond.selects RX1 yX1_parse yX1_parse ∈ wT := wT_t 1049 (by decide +kernel) rfl
theorem qc_Input_parse : Cond.code yX1_parse cX1_parse 2 (some .int) ∈ wT := wT_t 1050 (by decide +kernel) rfl
theorem qm_Top_154 : Cond.methodLink RX6 154 yX1_entries ∈ wT := wT_t 1077 (by decide +kernel) rfl
theorem qi_Input_entries : Cond.instanceMethod yX1_entries ∈ wT := wT_t 1078 (by decide +kernel) rfl
theorem qs_Input_entries : Cond.selects RX1 yX1_entries yX1_entries ∈ wT := wT_t 1079 (by decide +kernel) rfl
theorem qc_Input_entries : Cond.code yX1_entries cX1_entries 1 (some .int) ∈ wT := wT_t 1080 (by decide +kernel) rfl
theorem qm_Top_157 : Cond.methodLink RX6 157 yX6_addEntry ∈ wT := wT_t 1081 (by decide +kernel) rfl
theorem qi_Top_addEntry : Cond.instanceMethod yX6_addEntry ∈ wT := wT_t 1083 (by decide +kernel) rfl
theorem qs_Top_addEntry : Cond.selects RX6 yX6_addEntry yX6_addEntry ∈ wT := wT_s 41 (by decide +kernel) rfl
theorem qc_Top_addEntry : Cond.code yX6_addEntry cX6_addEntry 6 (some .boolean) ∈ wT := wT_t 1084 (by decide +kernel) rfl
theorem qm_Top_161 : Cond.methodLink RX6 161 yX1_clear ∈ wT := wT_t 1097 (by decide +kernel) rfl
theorem qi_Input_clear : Cond.instanceMethod yX1_clear ∈ wT := wT_t 1098 (by decide +kernel) rfl
theorem qs_Input_clear : Cond.selects RX1 yX1_clear yX1_clear ∈ wT := wT_t 1099 (by decide +kernel) rfl
theorem qc_Input_clear : Cond.code yX1_clear cX1_clear 1 none ∈ wT := wT_t 1100 (by decide +kernel) rfl
theorem qm_Top_164 : Cond.methodLink RX6 164 yX2_triangles ∈ wT := wT_t 218 (by decide +kernel) rfl
theorem qi_Mesh_triangles : Cond.instanceMethod yX2_triangles ∈ wT := wT_t 219 (by decide +kernel) rfl
theorem qs_Mesh_triangles : Cond.selects RX2 yX2_triangles yX2_triangles ∈ wT := wT_t 220 (by decide +kernel) rfl
theorem qc_Mesh_triangles : Cond.code yX2_triangles cX2_triangles 1 (some .int) ∈ wT := wT_t 221 (by decide +kernel) rfl
theorem qm_Top_167 : Cond.methodLink RX6 167 yX6_requireTriangle ∈ wT := wT_t 934 (by decide +kernel) rfl
theorem qi_Top_requireTriangle : Cond.instanceMethod yX6_requireTriangle ∈ wT := wT_t 936 (by decide +kernel) rfl
theorem qs_Top_requireTriangle : Cond.selects RX6 yX6_requireTriangle yX6_requireTriangle ∈ wT := wT_s 32 (by decide +kernel) rfl
theorem qc_Top_requireTriangle : Cond.code yX6_requireTriangle cX6_requireTriangle 2 none ∈ wT := wT_t 937 (by decide +kernel) rfl
theorem qm_Top_170 : Cond.methodLink RX6 170 yX6_requireCorner ∈ wT := wT_t 950 (by decide +kernel) rfl
theorem qi_Top_requireCorner : Cond.instanceMethod yX6_requireCorner ∈ wT := wT_t 952 (by decide +kernel) rfl
theorem qs_Top_requireCorner : Cond.selects RX6 yX6_requireCorner yX6_requireCorner ∈ wT := wT_s 33 (by decide +kernel) rfl
theorem qc_Top_requireCorner : Cond.code yX6_requireCorner cX6_requireCorner 2 none ∈ wT := wT_t 953 (by decide +kernel) rfl
theorem qm_Top_173 : Cond.methodLink RX6 173 yX2_cornerOf ∈ wT := wT_t 797 (by decide +kernel) rfl
theorem qm_Top_176 : Cond.methodLink RX6 176 yX2_triangleAcross ∈ wT := wT_t 962 (by decide +kernel) rfl
theorem qi_Mesh_triangleAcross : Cond.instanceMethod yX2_triangleAcross ∈ wT := wT_t 963 (by decide +kernel) rfl
theorem qs_Mesh_triangleAcross : Cond.selects RX2 yX2_triangleAcross yX2_triangleAcross ∈ wT := wT_t 964 (by decide +kernel) rfl
theorem qc_Mesh_triangleAcross : Cond.code yX2_triangleAcross cX2_triangleAcross 3 (some .int) ∈ wT := wT_t 965 (by decide +kernel) rfl
theorem qm_Top_179 : Cond.methodLink RX6 179 yX2_edges ∈ wT := wT_t 226 (by decide +kernel) rfl
theorem qi_Mesh_edges : Cond.instanceMethod yX2_edges ∈ wT := wT_t 227 (by decide +kernel) rfl
theorem qs_Mesh_edges : Cond.selects RX2 yX2_edges yX2_edges ∈ wT := wT_t 228 (by decide +kernel) rfl
theorem qc_Mesh_edges : Cond.code yX2_edges cX2_edges 1 (some .int) ∈ wT := wT_t 229 (by decide +kernel) rfl
theorem qm_Top_182 : Cond.methodLink RX6 182 yX6_requireEdge ∈ wT := wT_t 973 (by decide +kernel) rfl
theorem qi_Top_requireEdge : Cond.instanceMethod yX6_requireEdge ∈ wT := wT_t 975 (by decide +kernel) rfl
theorem qs_Top_requireEdge : Cond.selects RX6 yX6_requireEdge yX6_requireEdge ∈ wT := wT_s 34 (by decide +kernel) rfl
theorem qc_Top_requireEdge : Cond.code yX6_requireEdge cX6_requireEdge 2 none ∈ wT := wT_t 976 (by decide +kernel) rfl
theorem qm_Top_186 : Cond.methodLink RX6 186 yX2_highEnd ∈ wT := wT_t 862 (by decide +kernel) rfl
theorem qi_Mesh_highEnd : Cond.instanceMethod yX2_highEnd ∈ wT := wT_t 863 (by decide +kernel) rfl
theorem qs_Mesh_highEnd : Cond.selects RX2 yX2_highEnd yX2_highEnd ∈ wT := wT_t 864 (by decide +kernel) rfl
theorem qc_Mesh_highEnd : Cond.code yX2_highEnd cX2_highEnd 2 (some .int) ∈ wT := wT_t 865 (by decide +kernel) rfl
theorem qm_Top_185 : Cond.methodLink RX6 185 yX2_lowEnd ∈ wT := wT_t 858 (by decide +kernel) rfl
theorem qi_Mesh_lowEnd : Cond.instanceMethod yX2_lowEnd ∈ wT := wT_t 859 (by decide +kernel) rfl
theorem qs_Mesh_lowEnd : Cond.selects RX2 yX2_lowEnd yX2_lowEnd ∈ wT := wT_t 860 (by decide +kernel) rfl
theorem qc_Mesh_lowEnd : Cond.code yX2_lowEnd cX2_lowEnd 2 (some .int) ∈ wT := wT_t 861 (by decide +kernel) rfl
theorem qm_Top_187 : Cond.methodLink RX6 187 yX2_edgeOf ∈ wT := wT_t 688 (by decide +kernel) rfl
theorem qi_Mesh_edgeOf : Cond.instanceMethod yX2_edgeOf ∈ wT := wT_t 689 (by decide +kernel) rfl
theorem qs_Mesh_edgeOf : Cond.selects RX2 yX2_edgeOf yX2_edgeOf ∈ wT := wT_t 690 (by decide +kernel) rfl
theorem qc_Mesh_edgeOf : Cond.code yX2_edgeOf cX2_edgeOf 4 (some .int) ∈ wT := wT_t 691 (by decide +kernel) rfl
theorem qn_NSE : Cond.initialized "java/util/NoSuchElementException" ∈ wT := wT_t 12 (by decide +kernel) rfl
theorem ql_Top_190 : Cond.classLink RX6 190 "java/util/NoSuchElementException" ∈ wT := wT_t 693 (by decide +kernel) rfl
theorem qm_Top_195 : Cond.methodLink RX6 195 yX2_degreeOf ∈ wT := wT_t 993 (by decide +kernel) rfl
theorem qi_Mesh_degreeOf : Cond.instanceMethod yX2_degreeOf ∈ wT := wT_t 994 (by decide +kernel) rfl
theorem qs_Mesh_degreeOf : Cond.selects RX2 yX2_degreeOf yX2_degreeOf ∈ wT := wT_t 995 (by decide +kernel) rfl
theorem qc_Mesh_degreeOf : Cond.code yX2_degreeOf cX2_degreeOf 2 (some .int) ∈ wT := wT_t 996 (by decide +kernel) rfl
theorem qm_Top_200 : Cond.methodLink RX6 200 yX2_neighbourOf ∈ wT := wT_t 1108 (by decide +kernel) rfl
theorem qi_Mesh_neighbourOf : Cond.instanceMethod yX2_neighbourOf ∈ wT := wT_t 1109 (by decide +kernel) rfl
theorem qs_Mesh_neighbourOf : Cond.selects RX2 yX2_neighbourOf yX2_neighbourOf ∈ wT := wT_t 1110 (by decide +kernel) rfl
theorem qc_Mesh_neighbourOf : Cond.code yX2_neighbourOf cX2_neighbourOf 5 (some .int) ∈ wT := wT_t 1111 (by decide +kernel) rfl
theorem qm_Top_203 : Cond.methodLink RX6 203 yX2_hullPoints ∈ wT := wT_t 234 (by decide +kernel) rfl
theorem qi_Mesh_hullPoints : Cond.instanceMethod yX2_hullPoints ∈ wT := wT_t 235 (by decide +kernel) rfl
theorem qs_Mesh_hullPoints : Cond.selects RX2 yX2_hullPoints yX2_hullPoints ∈ wT := wT_t 236 (by decide +kernel) rfl
theorem qc_Mesh_hullPoints : Cond.code yX2_hullPoints cX2_hullPoints 1 (some .int) ∈ wT := wT_t 237 (by decide +kernel) rfl
theorem qm_Top_209 : Cond.methodLink RX6 209 yX2_hullPointAt ∈ wT := wT_t 1011 (by decide +kernel) rfl
theorem qi_Mesh_hullPointAt : Cond.instanceMethod yX2_hullPointAt ∈ wT := wT_t 1012 (by decide +kernel) rfl
theorem qs_Mesh_hullPointAt : Cond.selects RX2 yX2_hullPointAt yX2_hullPointAt ∈ wT := wT_t 1013 (by decide +kernel) rfl
theorem qc_Mesh_hullPointAt : Cond.code yX2_hullPointAt cX2_hullPointAt 2 (some .int) ∈ wT := wT_t 1014 (by decide +kernel) rfl
theorem qm_Top_212 : Cond.methodLink RX6 212 yX2_areaOf ∈ wT := wT_t 939 (by decide +kernel) rfl
theorem qm_Top_215 : Cond.methodLink RX6 215 yX2_hullArea ∈ wT := wT_t 1119 (by decide +kernel) rfl
theorem qi_Mesh_hullArea : Cond.instanceMethod yX2_hullArea ∈ wT := wT_t 1120 (by decide +kernel) rfl
theorem qs_Mesh_hullArea : Cond.selects RX2 yX2_hullArea yX2_hullArea ∈ wT := wT_t 1121 (by decide +kernel) rfl
theorem qc_Mesh_hullArea : Cond.code yX2_hullArea cX2_hullArea 3 (some .int) ∈ wT := wT_t 1122 (by decide +kernel) rfl
theorem qm_Top_233 : Cond.methodLink RX6 233 yX2_leastTree ∈ wT := wT_t 740 (by decide +kernel) rfl
theorem qi_Mesh_leastTree : Cond.instanceMethod yX2_leastTree ∈ wT := wT_t 741 (by decide +kernel) rfl
theorem qs_Mesh_leastTree : Cond.selects RX2 yX2_leastTree yX2_leastTree ∈ wT := wT_t 742 (by decide +kernel) rfl
theorem qc_Mesh_leastTree : Cond.code yX2_leastTree cX2_leastTree 5 (some .int) ∈ wT := wT_t 743 (by decide +kernel) rfl
theorem qm_Top_230 : Cond.methodLink RX6 230 yX2_greatestLength ∈ wT := wT_t 736 (by decide +kernel) rfl
theorem qi_Mesh_greatestLength : Cond.instanceMethod yX2_greatestLength ∈ wT := wT_t 737 (by decide +kernel) rfl
theorem qs_Mesh_greatestLength : Cond.selects RX2 yX2_greatestLength yX2_greatestLength ∈ wT := wT_t 738 (by decide +kernel) rfl
theorem qc_Mesh_greatestLength : Cond.code yX2_greatestLength cX2_greatestLength 3 (some .int) ∈ wT := wT_t 739 (by decide +kernel) rfl
theorem qm_Top_227 : Cond.methodLink RX6 227 yX2_leastLength ∈ wT := wT_t 727 (by decide +kernel) rfl
theorem qi_Mesh_leastLength : Cond.instanceMethod yX2_leastLength ∈ wT := wT_t 728 (by decide +kernel) rfl
theorem qs_Mesh_leastLength : Cond.selects RX2 yX2_leastLength yX2_leastLength ∈ wT := wT_t 729 (by decide +kernel) rfl
theorem qc_Mesh_leastLength : Cond.code yX2_leastLength cX2_leastLength 3 (some .int) ∈ wT := wT_t 730 (by decide +kernel) rfl
theorem qm_Top_236 : Cond.methodLink RX6 236 yX3_side ∈ wT := wT_t 1131 (by decide +kernel) rfl
theorem qm_Top_245 : Cond.methodLink RX6 245 yX3_circleSide ∈ wT := wT_t 1156 (by decide +kernel) rfl
theorem qn_ARE : Cond.initialized "java/lang/ArithmeticException" ∈ wT := wT_t 20 (by decide +kernel) rfl
theorem ql_Top_240 : Cond.classLink RX6 240 "java/lang/ArithmeticException" ∈ wT := wT_t 1153 (by decide +kernel) rfl
theorem qm_Top_249 : Cond.methodLink RX6 249 yX2_isInner ∈ wT := wT_t 258 (by decide +kernel) rfl
theorem qm_Top_254 : Cond.methodLink RX6 254 yX2_passesCircle ∈ wT := wT_t 266 (by decide +kernel) rfl
theorem qm_Top_260 : Cond.methodLink RX6 260 yX2_edgeAt ∈ wT := wT_t 760 (by decide +kernel) rfl
theorem qi_Mesh_edgeAt : Cond.instanceMethod yX2_edgeAt ∈ wT := wT_t 761 (by decide +kernel) rfl
theorem qs_Mesh_edgeAt : Cond.selects RX2 yX2_edgeAt yX2_edgeAt ∈ wT := wT_t 762 (by decide +kernel) rfl
theorem qc_Mesh_edgeAt : Cond.code yX2_edgeAt cX2_edgeAt 4 (some .int) ∈ wT := wT_t 763 (by decide +kernel) rfl
theorem qm_Top_263 : Cond.methodLink RX6 263 yX2_triangleAt ∈ wT := wT_t 765 (by decide +kernel) rfl
theorem qi_Mesh_triangleAt : Cond.instanceMethod yX2_triangleAt ∈ wT := wT_t 766 (by decide +kernel) rfl
theorem qs_Mesh_triangleAt : Cond.selects RX2 yX2_triangleAt yX2_triangleAt ∈ wT := wT_t 767 (by decide +kernel) rfl
theorem qc_Mesh_triangleAt : Cond.code yX2_triangleAt cX2_triangleAt 4 (some .int) ∈ wT := wT_t 768 (by decide +kernel) rfl
theorem qm_Top_257 : Cond.methodLink RX6 257 yX6_kindOf ∈ wT := wT_t 755 (by decide +kernel) rfl
theorem qi_Top_kindOf : Cond.instanceMethod yX6_kindOf ∈ wT := wT_t 757 (by decide +kernel) rfl
theorem qs_Top_kindOf : Cond.selects RX6 yX6_kindOf yX6_kindOf ∈ wT := wT_s 28 (by decide +kernel) rfl
theorem qc_Top_kindOf : Cond.code yX6_kindOf cX6_kindOf 3 (some .int) ∈ wT := wT_t 758 (by decide +kernel) rfl
theorem qm_Top_268 : Cond.methodLink RX6 268 yX2_exitTowards ∈ wT := wT_t 1164 (by decide +kernel) rfl
theorem qf_Top_25 : Cond.fieldLink RX6 25 "ConstrainedDelaunay" "trialPlan" "LConstrainedDelaunay$Plan;" ∈ wT := wT_t 183 (by decide +kernel) rfl
theorem qm_Top_271 : Cond.methodLink RX6 271 yX3_copyFrom ∈ wT := wT_t 298 (by decide +kernel) rfl
theorem qf_Top_28 : Cond.fieldLink RX6 28 "ConstrainedDelaunay" "trialMesh" "LConstrainedDelaunay$Mesh;" ∈ wT := wT_t 184 (by decide +kernel) rfl
theorem qm_Top_274 : Cond.methodLink RX6 274 yX2_hasTriangle ∈ wT := wT_t 798 (by decide +kernel) rfl
theorem qi_Mesh_hasTriangle : Cond.instanceMethod yX2_hasTriangle ∈ wT := wT_t 799 (by decide +kernel) rfl
theorem qs_Mesh_hasTriangle : Cond.selects RX2 yX2_hasTriangle yX2_hasTriangle ∈ wT := wT_t 800 (by decide +kernel) rfl
theorem qc_Mesh_hasTriangle : Cond.code yX2_hasTriangle cX2_hasTriangle 4 (some .boolean) ∈ wT := wT_t 801 (by decide +kernel) rfl
theorem qm_Top_278 : Cond.methodLink RX6 278 yX6_numberBefore ∈ wT := wT_t 825 (by decide +kernel) rfl
theorem qt_Top_numberBefore : Cond.static yX6_numberBefore ∈ wT := wT_t 826 (by decide +kernel) rfl
theorem qc_Top_numberBefore : Cond.code yX6_numberBefore cX6_numberBefore 2 (some .int) ∈ wT := wT_t 827 (by decide +kernel) rfl
theorem qm_Top_281 : Cond.methodLink RX6 281 yX2_edgeMeets ∈ wT := wT_t 835 (by decide +kernel) rfl
theorem qi_Mesh_edgeMeets : Cond.instanceMethod yX2_edgeMeets ∈ wT := wT_t 836 (by decide +kernel) rfl
theorem qs_Mesh_edgeMeets : Cond.selects RX2 yX2_edgeMeets yX2_edgeMeets ∈ wT := wT_t 837 (by decide +kernel) rfl
theorem qc_Mesh_edgeMeets : Cond.code yX2_edgeMeets cX2_edgeMeets 6 (some .boolean) ∈ wT := wT_t 838 (by decide +kernel) rfl
theorem qm_Top_284 : Cond.methodLink RX6 284 yX0_kept ∈ wT := wT_t 873 (by decide +kernel) rfl
theorem qi_Hist_kept : Cond.instanceMethod yX0_kept ∈ wT := wT_t 874 (by decide +kernel) rfl
theorem qs_Hist_kept : Cond.selects RX0 yX0_kept yX0_kept ∈ wT := wT_t 875 (by decide +kernel) rfl
theorem qc_Hist_kept : Cond.code yX0_kept cX0_kept 1 (some .int) ∈ wT := wT_t 876 (by decide +kernel) rfl
theorem qm_Top_289 : Cond.methodLink RX6 289 yX0_recallInto ∈ wT := wT_t 878 (by decide +kernel) rfl
theorem qi_Hist_recallInto : Cond.instanceMethod yX0_recallInto ∈ wT := wT_t 879 (by decide +kernel) rfl
theorem qs_Hist_recallInto : Cond.selects RX0 yX0_recallInto yX0_recallInto ∈ wT := wT_t 880 (by decide +kernel) rfl
theorem qc_Hist_recallInto : Cond.code yX0_recallInto cX0_recallInto 2 none ∈ wT := wT_t 881 (by decide +kernel) rfl
theorem qf_Top_31 : Cond.fieldLink RX6 31 "ConstrainedDelaunay" "savedPlan" "LConstrainedDelaunay$Plan;" ∈ wT := wT_t 185 (by decide +kernel) rfl
theorem qf_Top_48 : Cond.fieldLink RX6 48 "ConstrainedDelaunay" "hasSaved" "Z" ∈ wT := wT_t 188 (by decide +kernel) rfl
theorem qm_Top_294 : Cond.methodLink RX6 294 yX0_clear ∈ wT := wT_t 891 (by decide +kernel) rfl
theorem qi_Hist_clear : Cond.instanceMethod yX0_clear ∈ wT := wT_t 892 (by decide +kernel) rfl
theorem qs_Hist_clear : Cond.selects RX0 yX0_clear yX0_clear ∈ wT := wT_t 893 (by decide +kernel) rfl
theorem qc_Hist_clear : Cond.code yX0_clear cX0_clear 1 none ∈ wT := wT_t 894 (by decide +kernel) rfl
theorem hd_Plan_copyFrom : yX3_copyFrom.cls = RX3 ∧ yX3_copyFrom.cls ≠ "java/lang/invoke/MethodHandle" ∧ yX3_copyFrom.cls ≠ "java/lang/invoke/VarHandle" ∧ (parseMethodDescriptor yX3_copyFrom.desc).map (fun d => d.parameters.length) = some 1 := by decide +kernel
theorem hd_Top_isCoordinate : yX6_isCoordinate.cls = RX6 ∧ yX6_isCoordinate.cls ≠ "java/lang/invoke/MethodHandle" ∧ yX6_isCoordinate.cls ≠ "java/lang/invoke/VarHandle" ∧ (parseMethodDescriptor yX6_isCoordinate.desc).map (fun d => d.parameters.length) = some 1 := by decide +kernel
theorem hd_Plan_admitsPoint : yX3_admitsPoint.cls = RX3 ∧ yX3_admitsPoint.cls ≠ "java/lang/invoke/MethodHandle" ∧ yX3_admitsPoint.cls ≠ "java/lang/invoke/VarHandle" ∧ (parseMethodDescriptor yX3_admitsPoint.desc).map (fun d => d.parameters.length) = some 2 := by decide +kernel
theorem hd_Top_requirePosition : yX6_requirePosition.cls = RX6 ∧ yX6_requirePosition.cls ≠ "java/lang/invoke/MethodHandle" ∧ yX6_requirePosition.cls ≠ "java/lang/invoke/VarHandle" ∧ (parseMethodDescriptor yX6_requirePosition.desc).map (fun d => d.parameters.length) = some 2 := by decide +kernel
theorem hd_Top_requireNewPoint : yX6_requireNewPoint.cls = RX6 ∧ yX6_requireNewPoint.cls ≠ "java/lang/invoke/MethodHandle" ∧ yX6_requireNewPoint.cls ≠ "java/lang/invoke/VarHandle" ∧ (parseMethodDescriptor yX6_requireNewPoint.desc).map (fun d => d.parameters.length) = some 2 := by decide +kernel
theorem hd_Hist_remember : yX0_remember.cls = RX0 ∧ yX0_remember.cls ≠ "java/lang/invoke/MethodHandle" ∧ yX0_remember.cls ≠ "java/lang/invoke/VarHandle" ∧ (parseMethodDescriptor yX0_remember.desc).map (fun d => d.parameters.length) = some 1 := by decide +kernel
theorem hd_Plan_appendPoint : yX3_appendPoint.cls = RX3 ∧ yX3_appendPoint.cls ≠ "java/lang/invoke/MethodHandle" ∧ yX3_appendPoint.cls ≠ "java/lang/invoke/VarHandle" ∧ (parseMethodDescriptor yX3_appendPoint.desc).map (fun d => d.parameters.length) = some 2 := by decide +kernel
theorem hd_Mesh_draw : yX2_draw.cls = RX2 ∧ yX2_draw.cls ≠ "java/lang/invoke/MethodHandle" ∧ yX2_draw.cls ≠ "java/lang/invoke/VarHandle" ∧ (parseMethodDescriptor yX2_draw.desc).map (fun d => d.parameters.length) = some 0 := by decide +kernel
theorem hd_Plan_hasPoint : yX3_hasPoint.cls = RX3 ∧ yX3_hasPoint.cls ≠ "java/lang/invoke/MethodHandle" ∧ yX3_hasPoint.cls ≠ "java/lang/invoke/VarHandle" ∧ (parseMethodDescriptor yX3_hasPoint.desc).map (fun d => d.parameters.length) = some 1 := by decide +kernel
theorem hd_Plan_endsConstraint : yX3_endsConstraint.cls = RX3 ∧ yX3_endsConstraint.cls ≠ "java/lang/invoke/MethodHandle" ∧ yX3_endsConstraint.cls ≠ "java/lang/invoke/VarHandle" ∧ (parseMethodDescriptor yX3_endsConstraint.desc).map (fun d => d.parameters.length) = some 1 := by decide +kernel
theorem hd_Top_requirePoint : yX6_requirePoint.cls = RX6 ∧ yX6_requirePoint.cls ≠ "java/lang/invoke/MethodHandle" ∧ yX6_requirePoint.cls ≠ "java/lang/invoke/VarHandle" ∧ (parseMethodDescriptor yX6_requirePoint.desc).map (fun d => d.parameters.length) = some 1 := by decide +kernel
theorem hd_Top_requireLoosePoint : yX6_requireLoosePoint.cls = RX6 ∧ yX6_requireLoosePoint.cls ≠ "java/lang/invoke/MethodHandle" ∧ yX6_requireLoosePoint.cls ≠ "java/lang/invoke/VarHandle" ∧ (parseMethodDescriptor yX6_requireLoosePoint.desc).map (fun d => d.parameters.length) = some 1 := by decide +kernel
theorem hd_Plan_dropPoint : yX3_dropPoint.cls = RX3 ∧ yX3_dropPoint.cls ≠ "java/lang/invoke/MethodHandle" ∧ yX3_dropPoint.cls ≠ "java/lang/invoke/VarHandle" ∧ (parseMethodDescriptor yX3_dropPoint.desc).map (fun d => d.parameters.length) = some 1 := by decide +kernel
theorem hd_Top_requireBit : yX6_requireBit.cls = RX6 ∧ yX6_requireBit.cls ≠ "java/lang/invoke/MethodHandle" ∧ yX6_requireBit.cls ≠ "java/lang/invoke/VarHandle" ∧ (parseMethodDescriptor yX6_requireBit.desc).map (fun d => d.parameters.length) = some 1 := by decide +kernel
theorem hd_Top_requireDifferent : yX6_requireDifferent.cls = RX6 ∧ yX6_requireDifferent.cls ≠ "java/lang/invoke/MethodHandle" ∧ yX6_requireDifferent.cls ≠ "java/lang/invoke/VarHandle" ∧ (parseMethodDescriptor yX6_requireDifferent.desc).map (fun d => d.parameters.length) = some 2 := by decide +kernel
theorem hd_Plan_admitsSegment : yX3_admitsSegment.cls = RX3 ∧ yX3_admitsSegment.cls ≠ "java/lang/invoke/MethodHandle" ∧ yX3_admitsSegment.cls ≠ "java/lang/invoke/VarHandle" ∧ (parseMethodDescriptor yX3_admitsSegment.desc).map (fun d => d.parameters.length) = some 2 := by decide +kernel
theorem hd_Plan_appendConstraint : yX3_appendConstraint.cls = RX3 ∧ yX3_appendConstraint.cls ≠ "java/lang/invoke/MethodHandle" ∧ yX3_appendConstraint.cls ≠ "java/lang/invoke/VarHandle" ∧ (parseMethodDescriptor yX3_appendConstraint.desc).map (fun d => d.parameters.length) = some 2 := by decide +kernel
theorem hd_Top_requireConstraint : yX6_requireConstraint.cls = RX6 ∧ yX6_requireConstraint.cls ≠ "java/lang/invoke/MethodHandle" ∧ yX6_requireConstraint.cls ≠ "java/lang/invoke/VarHandle" ∧ (parseMethodDescriptor yX6_requireConstraint.desc).map (fun d => d.parameters.length) = some 1 := by decide +kernel
theorem hd_Plan_dropConstraint : yX3_dropConstraint.cls = RX3 ∧ yX3_dropConstraint.cls ≠ "java/lang/invoke/MethodHandle" ∧ yX3_dropConstraint.cls ≠ "java/lang/invoke/VarHandle" ∧ (parseMethodDescriptor yX3_dropConstraint.desc).map (fun d => d.parameters.length) = some 1 := by decide +kernel
theorem hd_Input_firstOf : yX1_firstOf.cls = RX1 ∧ yX1_firstOf.cls ≠ "java/lang/invoke/MethodHandle" ∧ yX1_firstOf.cls ≠ "java/lang/invoke/VarHandle" ∧ (parseMethodDescriptor yX1_firstOf.desc).map (fun d => d.parameters.length) = some 1 := by decide +kernel
theorem hd_Input_secondOf : yX1_secondOf.cls = RX1 ∧ yX1_secondOf.cls ≠ "java/lang/invoke/MethodHandle" ∧ yX1_secondOf.cls ≠ "java/lang/invoke/VarHandle" ∧ (parseMethodDescriptor yX1_secondOf.desc).map (fun d => d.parameters.length) = some 1 := by decide +kernel
theorem hd_Input_isSegment : yX1_isSegment.cls = RX1 ∧ yX1_isSegment.cls ≠ "java/lang/invoke/MethodHandle" ∧ yX1_isSegment.cls ≠ "java/lang/invoke/VarHandle" ∧ (parseMethodDescriptor yX1_isSegment.desc).map (fun d => d.parameters.length) = some 1 := by decide +kernel
theorem hd_Input_parse : yX1_parse.cls = RX1 ∧ yX1_parse.cls ≠ "java/lang/invoke/MethodHandle" ∧ yX1_parse.cls ≠ "java/lang/invoke/VarHandle" ∧ (parseMethodDescriptor yX1_parse.desc).map (fun d => d.parameters.length) = some 0 := by decide +kernel
theorem hd_Input_entries : yX1_entries.cls = RX1 ∧ yX1_entries.cls ≠ "java/lang/invoke/MethodHandle" ∧ yX1_entries.cls ≠ "java/lang/invoke/VarHandle" ∧ (parseMethodDescriptor yX1_entries.desc).map (fun d => d.parameters.length) = some 0 := by decide +kernel
theorem hd_Top_addEntry : yX6_addEntry.cls = RX6 ∧ yX6_addEntry.cls ≠ "java/lang/invoke/MethodHandle" ∧ yX6_addEntry.cls ≠ "java/lang/invoke/VarHandle" ∧ (parseMethodDescriptor yX6_addEntry.desc).map (fun d => d.parameters.length) = some 1 := by decide +kernel
theorem hd_Input_clear : yX1_clear.cls = RX1 ∧ yX1_clear.cls ≠ "java/lang/invoke/MethodHandle" ∧ yX1_clear.cls ≠ "java/lang/invoke/VarHandle" ∧ (parseMethodDescriptor yX1_clear.desc).map (fun d => d.parameters.length) = some 0 := by decide +kernel
theorem hd_Mesh_triangles : yX2_triangles.cls = RX2 ∧ yX2_triangles.cls ≠ "java/lang/invoke/MethodHandle" ∧ yX2_triangles.cls ≠ "java/lang/invoke/VarHandle" ∧ (parseMethodDescriptor yX2_triangles.desc).map (fun d => d.parameters.length) = some 0 := by decide +kernel
theorem hd_Top_requireTriangle : yX6_requireTriangle.cls = RX6 ∧ yX6_requireTriangle.cls ≠ "java/lang/invoke/MethodHandle" ∧ yX6_requireTriangle.cls ≠ "java/lang/invoke/VarHandle" ∧ (parseMethodDescriptor yX6_requireTriangle.desc).map (fun d => d.parameters.length) = some 1 := by decide +kernel
theorem hd_Top_requireCorner : yX6_requireCorner.cls = RX6 ∧ yX6_requireCorner.cls ≠ "java/lang/invoke/MethodHandle" ∧ yX6_requireCorner.cls ≠ "java/lang/invoke/VarHandle" ∧ (parseMethodDescriptor yX6_requireCorner.desc).map (fun d => d.parameters.length) = some 1 := by decide +kernel
theorem hd_Mesh_triangleAcross : yX2_triangleAcross.cls = RX2 ∧ yX2_triangleAcross.cls ≠ "java/lang/invoke/MethodHandle" ∧ yX2_triangleAcross.cls ≠ "java/lang/invoke/VarHandle" ∧ (parseMethodDescriptor yX2_triangleAcross.desc).map (fun d => d.parameters.length) = some 2 := by decide +kernel
theorem hd_Mesh_edges : yX2_edges.cls = RX2 ∧ yX2_edges.cls ≠ "java/lang/invoke/MethodHandle" ∧ yX2_edges.cls ≠ "java/lang/invoke/VarHandle" ∧ (parseMethodDescriptor yX2_edges.desc).map (fun d => d.parameters.length) = some 0 := by decide +kernel
theorem hd_Top_requireEdge : yX6_requireEdge.cls = RX6 ∧ yX6_requireEdge.cls ≠ "java/lang/invoke/MethodHandle" ∧ yX6_requireEdge.cls ≠ "java/lang/invoke/VarHandle" ∧ (parseMethodDescriptor yX6_requireEdge.desc).map (fun d => d.parameters.length) = some 1 := by decide +kernel
theorem hd_Mesh_highEnd : yX2_highEnd.cls = RX2 ∧ yX2_highEnd.cls ≠ "java/lang/invoke/MethodHandle" ∧ yX2_highEnd.cls ≠ "java/lang/invoke/VarHandle" ∧ (parseMethodDescriptor yX2_highEnd.desc).map (fun d => d.parameters.length) = some 1 := by decide +kernel
theorem hd_Mesh_lowEnd : yX2_lowEnd.cls = RX2 ∧ yX2_lowEnd.cls ≠ "java/lang/invoke/MethodHandle" ∧ yX2_lowEnd.cls ≠ "java/lang/invoke/VarHandle" ∧ (parseMethodDescriptor yX2_lowEnd.desc).map (fun d => d.parameters.length) = some 1 := by decide +kernel
theorem hd_Mesh_edgeOf : yX2_edgeOf.cls = RX2 ∧ yX2_edgeOf.cls ≠ "java/lang/invoke/MethodHandle" ∧ yX2_edgeOf.cls ≠ "java/lang/invoke/VarHandle" ∧ (parseMethodDescriptor yX2_edgeOf.desc).map (fun d => d.parameters.length) = some 2 := by decide +kernel
theorem hd_Mesh_degreeOf : yX2_degreeOf.cls = RX2 ∧ yX2_degreeOf.cls ≠ "java/lang/invoke/MethodHandle" ∧ yX2_degreeOf.cls ≠ "java/lang/invoke/VarHandle" ∧ (parseMethodDescriptor yX2_degreeOf.desc).map (fun d => d.parameters.length) = some 1 := by decide +kernel
theorem hd_Mesh_neighbourOf : yX2_neighbourOf.cls = RX2 ∧ yX2_neighbourOf.cls ≠ "java/lang/invoke/MethodHandle" ∧ yX2_neighbourOf.cls ≠ "java/lang/invoke/VarHandle" ∧ (parseMethodDescriptor yX2_neighbourOf.desc).map (fun d => d.parameters.length) = some 2 := by decide +kernel
theorem hd_Mesh_hullPoints : yX2_hullPoints.cls = RX2 ∧ yX2_hullPoints.cls ≠ "java/lang/invoke/MethodHandle" ∧ yX2_hullPoints.cls ≠ "java/lang/invoke/VarHandle" ∧ (parseMethodDescriptor yX2_hullPoints.desc).map (fun d => d.parameters.length) = some 0 := by decide +kernel
theorem hd_Mesh_hullPointAt : yX2_hullPointAt.cls = RX2 ∧ yX2_hullPointAt.cls ≠ "java/lang/invoke/MethodHandle" ∧ yX2_hullPointAt.cls ≠ "java/lang/invoke/VarHandle" ∧ (parseMethodDescriptor yX2_hullPointAt.desc).map (fun d => d.parameters.length) = some 1 := by decide +kernel
theorem hd_Mesh_hullArea : yX2_hullArea.cls = RX2 ∧ yX2_hullArea.cls ≠ "java/lang/invoke/MethodHandle" ∧ yX2_hullArea.cls ≠ "java/lang/invoke/VarHandle" ∧ (parseMethodDescriptor yX2_hullArea.desc).map (fun d => d.parameters.length) = some 0 := by decide +kernel
theorem hd_Mesh_leastTree : yX2_leastTree.cls = RX2 ∧ yX2_leastTree.cls ≠ "java/lang/invoke/MethodHandle" ∧ yX2_leastTree.cls ≠ "java/lang/invoke/VarHandle" ∧ (parseMethodDescriptor yX2_leastTree.desc).map (fun d => d.parameters.length) = some 0 := by decide +kernel
theorem hd_Mesh_greatestLength : yX2_greatestLength.cls = RX2 ∧ yX2_greatestLength.cls ≠ "java/lang/invoke/MethodHandle" ∧ yX2_greatestLength.cls ≠ "java/lang/invoke/VarHandle" ∧ (parseMethodDescriptor yX2_greatestLength.desc).map (fun d => d.parameters.length) = some 0 := by decide +kernel
theorem hd_Mesh_leastLength : yX2_leastLength.cls = RX2 ∧ yX2_leastLength.cls ≠ "java/lang/invoke/MethodHandle" ∧ yX2_leastLength.cls ≠ "java/lang/invoke/VarHandle" ∧ (parseMethodDescriptor yX2_leastLength.desc).map (fun d => d.parameters.length) = some 0 := by decide +kernel
theorem hd_Mesh_edgeAt : yX2_edgeAt.cls = RX2 ∧ yX2_edgeAt.cls ≠ "java/lang/invoke/MethodHandle" ∧ yX2_edgeAt.cls ≠ "java/lang/invoke/VarHandle" ∧ (parseMethodDescriptor yX2_edgeAt.desc).map (fun d => d.parameters.length) = some 2 := by decide +kernel
theorem hd_Mesh_triangleAt : yX2_triangleAt.cls = RX2 ∧ yX2_triangleAt.cls ≠ "java/lang/invoke/MethodHandle" ∧ yX2_triangleAt.cls ≠ "java/lang/invoke/VarHandle" ∧ (parseMethodDescriptor yX2_triangleAt.desc).map (fun d => d.parameters.length) = some 2 := by decide +kernel
theorem hd_Top_kindOf : yX6_kindOf.cls = RX6 ∧ yX6_kindOf.cls ≠ "java/lang/invoke/MethodHandle" ∧ yX6_kindOf.cls ≠ "java/lang/invoke/VarHandle" ∧ (parseMethodDescriptor yX6_kindOf.desc).map (fun d => d.parameters.length) = some 2 := by decide +kernel
theorem hd_Mesh_hasTriangle : yX2_hasTriangle.cls = RX2 ∧ yX2_hasTriangle.cls ≠ "java/lang/invoke/MethodHandle" ∧ yX2_hasTriangle.cls ≠ "java/lang/invoke/VarHandle" ∧ (parseMethodDescriptor yX2_hasTriangle.desc).map (fun d => d.parameters.length) = some 3 := by decide +kernel
theorem hd_Top_numberBefore : yX6_numberBefore.cls = RX6 ∧ yX6_numberBefore.cls ≠ "java/lang/invoke/MethodHandle" ∧ yX6_numberBefore.cls ≠ "java/lang/invoke/VarHandle" ∧ (parseMethodDescriptor yX6_numberBefore.desc).map (fun d => d.parameters.length) = some 2 := by decide +kernel
theorem hd_Mesh_edgeMeets : yX2_edgeMeets.cls = RX2 ∧ yX2_edgeMeets.cls ≠ "java/lang/invoke/MethodHandle" ∧ yX2_edgeMeets.cls ≠ "java/lang/invoke/VarHandle" ∧ (parseMethodDescriptor yX2_edgeMeets.desc).map (fun d => d.parameters.length) = some 3 := by decide +kernel
theorem hd_Hist_kept : yX0_kept.cls = RX0 ∧ yX0_kept.cls ≠ "java/lang/invoke/MethodHandle" ∧ yX0_kept.cls ≠ "java/lang/invoke/VarHandle" ∧ (parseMethodDescriptor yX0_kept.desc).map (fun d => d.parameters.length) = some 0 := by decide +kernel
theorem hd_Hist_recallInto : yX0_recallInto.cls = RX0 ∧ yX0_recallInto.cls ≠ "java/lang/invoke/MethodHandle" ∧ yX0_recallInto.cls ≠ "java/lang/invoke/VarHandle" ∧ (parseMethodDescriptor yX0_recallInto.desc).map (fun d => d.parameters.length) = some 1 := by decide +kernel
theorem hd_Hist_clear : yX0_clear.cls = RX0 ∧ yX0_clear.cls ≠ "java/lang/invoke/MethodHandle" ∧ yX0_clear.cls ≠ "java/lang/invoke/VarHandle" ∧ (parseMethodDescriptor yX0_clear.desc).map (fun d => d.parameters.length) = some 0 := by decide +kernel
theorem g_Hist_25 : GoodIn wT (wsV RX0 25 RX3 yX3_copyFrom (wsM yX3_copyFrom cX3_copyFrom 2 none)) := gV qm_Hist_25 qi_Plan_copyFrom qs_Plan_copyFrom qn_Plan qc_Plan_copyFrom
theorem g_Top_306 : GoodIn wT (wsS RX6 306 yX6_isCoordinate (wsM yX6_isCoordinate cX6_isCoordinate 1 (some .boolean))) := gS qm_Top_306 qt_Top_isCoordinate qn_Top qc_Top_isCoordinate
theorem g_Top_68 : GoodIn wT (wsV RX6 68 RX3 yX3_points (wsM yX3_points cX3_points 1 (some .int))) := gV qm_Top_68 qi_Plan_points qs_Plan_points qn_Plan qc_Plan_points
theorem g_Top_313 : GoodIn wT (wsV RX6 313 RX3 yX3_admitsPoint (wsM yX3_admitsPoint cX3_admitsPoint 3 (some .boolean))) := gV qm_Top_313 qi_Plan_admitsPoint qs_Plan_admitsPoint qn_Plan qc_Plan_admitsPoint
theorem g_Top_52 : GoodIn wT (wsV RX6 52 RX6 yX6_requirePosition (wsM yX6_requirePosition cX6_requirePosition 3 none)) := gV qm_Top_52 qi_Top_requirePosition qs_Top_requirePosition qn_Top qc_Top_requirePosition
theorem g_Top_56 : GoodIn wT (wsV RX6 56 RX6 yX6_requireNewPoint (wsM yX6_requireNewPoint cX6_requireNewPoint 3 none)) := gV qm_Top_56 qi_Top_requireNewPoint qs_Top_requireNewPoint qn_Top qc_Top_requireNewPoint
theorem g_Top_59 : GoodIn wT (wsV RX6 59 RX0 yX0_remember (wsM yX0_remember cX0_remember 2 none)) := gV qm_Top_59 qi_Hist_remember qs_Hist_remember qn_Hist qc_Hist_remember
theorem g_Top_62 : GoodIn wT (wsV RX6 62 RX3 yX3_appendPoint (wsM yX3_appendPoint cX3_appendPoint 3 none)) := gV qm_Top_62 qi_Plan_appendPoint qs_Plan_appendPoint qn_Plan qc_Plan_appendPoint
theorem g_Top_65 : GoodIn wT (wsV RX6 65 RX2 yX2_draw (wsM yX2_draw cX2_draw 3 none)) := gV qm_Top_65 qi_Mesh_draw qs_Mesh_draw qn_Mesh qc_Mesh_draw
theorem g_Top_295 : GoodIn wT (wsV RX6 295 RX3 yX3_hasPoint (wsM yX3_hasPoint cX3_hasPoint 2 (some .boolean))) := gV qm_Top_295 qi_Plan_hasPoint qs_Plan_hasPoint qn_Plan qc_Plan_hasPoint
theorem g_Top_316 : GoodIn wT (wsV RX6 316 RX3 yX3_endsConstraint (wsM yX3_endsConstraint cX3_endsConstraint 3 (some .boolean))) := gV qm_Top_316 qi_Plan_endsConstraint qs_Plan_endsConstraint qn_Plan qc_Plan_endsConstraint
theorem g_Top_72 : GoodIn wT (wsV RX6 72 RX6 yX6_requirePoint (wsM yX6_requirePoint cX6_requirePoint 2 none)) := gV qm_Top_72 qi_Top_requirePoint qs_Top_requirePoint qn_Top qc_Top_requirePoint
theorem g_Top_76 : GoodIn wT (wsV RX6 76 RX6 yX6_requireLoosePoint (wsM yX6_requireLoosePoint cX6_requireLoosePoint 2 none)) := gV qm_Top_76 qi_Top_requireLoosePoint qs_Top_requireLoosePoint qn_Top qc_Top_requireLoosePoint
theorem g_Top_79 : GoodIn wT (wsV RX6 79 RX3 yX3_dropPoint (wsM yX3_dropPoint cX3_dropPoint 3 none)) := gV qm_Top_79 qi_Plan_dropPoint qs_Plan_dropPoint qn_Plan qc_Plan_dropPoint
theorem g_Top_82 : GoodIn wT (wsV RX6 82 RX3 yX3_pointAt (wsM yX3_pointAt cX3_pointAt 4 (some .int))) := gV qm_Top_82 qi_Plan_pointAt qs_Plan_pointAt qn_Plan qc_Plan_pointAt
theorem g_Top_86 : GoodIn wT (wsV RX6 86 RX3 yX3_constraintCovers (wsM yX3_constraintCovers cX3_constraintCovers 4 (some .boolean))) := gV qm_Top_86 qi_Plan_constraintCovers qs_Plan_constraintCovers qn_Plan qc_Plan_constraintCovers
theorem g_Top_97 : GoodIn wT (wsV RX6 97 RX3 yX3_placePoint (wsM yX3_placePoint cX3_placePoint 4 none)) := gV qm_Top_97 qi_Plan_placePoint qs_Plan_placePoint qn_Plan qc_Plan_placePoint
theorem g_Top_101 : GoodIn wT (wsV RX6 101 RX6 yX6_requireBit (wsM yX6_requireBit cX6_requireBit 2 none)) := gV qm_Top_101 qi_Top_requireBit qs_Top_requireBit qn_Top qc_Top_requireBit
theorem g_Top_108 : GoodIn wT (wsV RX6 108 RX3 yX3_yOf (wsM yX3_yOf cX3_yOf 2 (some .int))) := gV qm_Top_108 qi_Plan_yOf qs_Plan_yOf qn_Plan qc_Plan_yOf
theorem g_Top_104 : GoodIn wT (wsV RX6 104 RX3 yX3_xOf (wsM yX3_xOf cX3_xOf 2 (some .int))) := gV qm_Top_104 qi_Plan_xOf qs_Plan_xOf qn_Plan qc_Plan_xOf
theorem g_Top_111 : GoodIn wT (wsV RX6 111 RX6 yX6_requireDifferent (wsM yX6_requireDifferent cX6_requireDifferent 3 none)) := gV qm_Top_111 qi_Top_requireDifferent qs_Top_requireDifferent qn_Top qc_Top_requireDifferent
theorem g_Top_114 : GoodIn wT (wsV RX6 114 RX3 yX3_constraints (wsM yX3_constraints cX3_constraints 1 (some .int))) := gV qm_Top_114 qi_Plan_constraints qs_Plan_constraints qn_Plan qc_Plan_constraints
theorem g_Top_122 : GoodIn wT (wsV RX6 122 RX3 yX3_admitsSegment (wsM yX3_admitsSegment cX3_admitsSegment 4 (some .boolean))) := gV qm_Top_122 qi_Plan_admitsSegment qs_Plan_admitsSegment qn_Plan qc_Plan_admitsSegment
theorem g_Top_127 : GoodIn wT (wsV RX6 127 RX3 yX3_appendConstraint (wsM yX3_appendConstraint cX3_appendConstraint 3 none)) := gV qm_Top_127 qi_Plan_appendConstraint qs_Plan_appendConstraint qn_Plan qc_Plan_appendConstraint
theorem g_Top_130 : GoodIn wT (wsV RX6 130 RX6 yX6_requireConstraint (wsM yX6_requireConstraint cX6_requireConstraint 2 none)) := gV qm_Top_130 qi_Top_requireConstraint qs_Top_requireConstraint qn_Top qc_Top_requireConstraint
theorem g_Top_133 : GoodIn wT (wsV RX6 133 RX3 yX3_dropConstraint (wsM yX3_dropConstraint cX3_dropConstraint 2 none)) := gV qm_Top_133 qi_Plan_dropConstraint qs_Plan_dropConstraint qn_Plan qc_Plan_dropConstraint
theorem g_Top_139 : GoodIn wT (wsV RX6 139 RX3 yX3_highEnd (wsM yX3_highEnd cX3_highEnd 2 (some .int))) := gV qm_Top_139 qi_Plan_highEnd qs_Plan_highEnd qn_Plan qc_Plan_highEnd
theorem g_Top_136 : GoodIn wT (wsV RX6 136 RX3 yX3_lowEnd (wsM yX3_lowEnd cX3_lowEnd 2 (some .int))) := gV qm_Top_136 qi_Plan_lowEnd qs_Plan_lowEnd qn_Plan qc_Plan_lowEnd
theorem g_Top_327 : GoodIn wT (wsV RX6 327 RX1 yX1_firstOf (wsM yX1_firstOf cX1_firstOf 2 (some .int))) := gV qm_Top_327 qi_Input_firstOf qs_Input_firstOf qn_Input qc_Input_firstOf
theorem g_Top_330 : GoodIn wT (wsV RX6 330 RX1 yX1_secondOf (wsM yX1_secondOf cX1_secondOf 2 (some .int))) := gV qm_Top_330 qi_Input_secondOf qs_Input_secondOf qn_Input qc_Input_secondOf
theorem g_Top_333 : GoodIn wT (wsV RX6 333 RX1 yX1_isSegment (wsM yX1_isSegment cX1_isSegment 2 (some .boolean))) := gV qm_Top_333 qi_Input_isSegment qs_Input_isSegment qn_Input qc_Input_isSegment
theorem g_Top_151 : GoodIn wT (wsV RX6 151 RX1 yX1_parse (wsM yX1_parse cX1_parse 2 (some .int))) := gV qm_Top_151 qi_Input_parse qs_Input_parse qn_Input qc_Input_parse
theorem g_Top_154 : GoodIn wT (wsV RX6 154 RX1 yX1_entries (wsM yX1_entries cX1_entries 1 (some .int))) := gV qm_Top_154 qi_Input_entries qs_Input_entries qn_Input qc_Input_entries
theorem g_Top_157 : GoodIn wT (wsV RX6 157 RX6 yX6_addEntry (wsM yX6_addEntry cX6_addEntry 6 (some .boolean))) := gV qm_Top_157 qi_Top_addEntry qs_Top_addEntry qn_Top qc_Top_addEntry
theorem g_Top_161 : GoodIn wT (wsV RX6 161 RX1 yX1_clear (wsM yX1_clear cX1_clear 1 none)) := gV qm_Top_161 qi_Input_clear qs_Input_clear qn_Input qc_Input_clear
theorem g_Top_164 : GoodIn wT (wsV RX6 164 RX2 yX2_triangles (wsM yX2_triangles cX2_triangles 1 (some .int))) := gV qm_Top_164 qi_Mesh_triangles qs_Mesh_triangles qn_Mesh qc_Mesh_triangles
theorem g_Top_167 : GoodIn wT (wsV RX6 167 RX6 yX6_requireTriangle (wsM yX6_requireTriangle cX6_requireTriangle 2 none)) := gV qm_Top_167 qi_Top_requireTriangle qs_Top_requireTriangle qn_Top qc_Top_requireTriangle
theorem g_Top_170 : GoodIn wT (wsV RX6 170 RX6 yX6_requireCorner (wsM yX6_requireCorner cX6_requireCorner 2 none)) := gV qm_Top_170 qi_Top_requireCorner qs_Top_requireCorner qn_Top qc_Top_requireCorner
theorem g_Top_173 : GoodIn wT (wsV RX6 173 RX2 yX2_cornerOf (wsM yX2_cornerOf cX2_cornerOf 3 (some .int))) := gV qm_Top_173 qi_Mesh_cornerOf qs_Mesh_cornerOf qn_Mesh qc_Mesh_cornerOf
theorem g_Top_176 : GoodIn wT (wsV RX6 176 RX2 yX2_triangleAcross (wsM yX2_triangleAcross cX2_triangleAcross 3 (some .int))) := gV qm_Top_176 qi_Mesh_triangleAcross qs_Mesh_triangleAcross qn_Mesh qc_Mesh_triangleAcross
theorem g_Top_179 : GoodIn wT (wsV RX6 179 RX2 yX2_edges (wsM yX2_edges cX2_edges 1 (some .int))) := gV qm_Top_179 qi_Mesh_edges qs_Mesh_edges qn_Mesh qc_Mesh_edges
theorem g_Top_182 : GoodIn wT (wsV RX6 182 RX6 yX6_requireEdge (wsM yX6_requireEdge cX6_requireEdge 2 none)) := gV qm_Top_182 qi_Top_requireEdge qs_Top_requireEdge qn_Top qc_Top_requireEdge
theorem g_Top_186 : GoodIn wT (wsV RX6 186 RX2 yX2_highEnd (wsM yX2_highEnd cX2_highEnd 2 (some .int))) := gV qm_Top_186 qi_Mesh_highEnd qs_Mesh_highEnd qn_Mesh qc_Mesh_highEnd
theorem g_Top_185 : GoodIn wT (wsV RX6 185 RX2 yX2_lowEnd (wsM yX2_lowEnd cX2_lowEnd 2 (some .int))) := gV qm_Top_185 qi_Mesh_lowEnd qs_Mesh_lowEnd qn_Mesh qc_Mesh_lowEnd
theorem g_Top_187 : GoodIn wT (wsV RX6 187 RX2 yX2_edgeOf (wsM yX2_edgeOf cX2_edgeOf 4 (some .int))) := gV qm_Top_187 qi_Mesh_edgeOf qs_Mesh_edgeOf qn_Mesh qc_Mesh_edgeOf
theorem g_Top_195 : GoodIn wT (wsV RX6 195 RX2 yX2_degreeOf (wsM yX2_degreeOf cX2_degreeOf 2 (some .int))) := gV qm_Top_195 qi_Mesh_degreeOf qs_Mesh_degreeOf qn_Mesh qc_Mesh_degreeOf
theorem g_Top_200 : GoodIn wT (wsV RX6 200 RX2 yX2_neighbourOf (wsM yX2_neighbourOf cX2_neighbourOf 5 (some .int))) := gV qm_Top_200 qi_Mesh_neighbourOf qs_Mesh_neighbourOf qn_Mesh qc_Mesh_neighbourOf
theorem g_Top_203 : GoodIn wT (wsV RX6 203 RX2 yX2_hullPoints (wsM yX2_hullPoints cX2_hullPoints 1 (some .int))) := gV qm_Top_203 qi_Mesh_hullPoints qs_Mesh_hullPoints qn_Mesh qc_Mesh_hullPoints
theorem g_Top_209 : GoodIn wT (wsV RX6 209 RX2 yX2_hullPointAt (wsM yX2_hullPointAt cX2_hullPointAt 2 (some .int))) := gV qm_Top_209 qi_Mesh_hullPointAt qs_Mesh_hullPointAt qn_Mesh qc_Mesh_hullPointAt
theorem g_Top_212 : GoodIn wT (wsV RX6 212 RX2 yX2_areaOf (wsM yX2_areaOf cX2_areaOf 3 (some .int))) := gV qm_Top_212 qi_Mesh_areaOf qs_Mesh_areaOf qn_Mesh qc_Mesh_areaOf
theorem g_Top_215 : GoodIn wT (wsV RX6 215 RX2 yX2_hullArea (wsM yX2_hullArea cX2_hullArea 3 (some .int))) := gV qm_Top_215 qi_Mesh_hullArea qs_Mesh_hullArea qn_Mesh qc_Mesh_hullArea
theorem g_Top_233 : GoodIn wT (wsV RX6 233 RX2 yX2_leastTree (wsM yX2_leastTree cX2_leastTree 5 (some .int))) := gV qm_Top_233 qi_Mesh_leastTree qs_Mesh_leastTree qn_Mesh qc_Mesh_leastTree
theorem g_Top_230 : GoodIn wT (wsV RX6 230 RX2 yX2_greatestLength (wsM yX2_greatestLength cX2_greatestLength 3 (some .int))) := gV qm_Top_230 qi_Mesh_greatestLength qs_Mesh_greatestLength qn_Mesh qc_Mesh_greatestLength
theorem g_Top_227 : GoodIn wT (wsV RX6 227 RX2 yX2_leastLength (wsM yX2_leastLength cX2_leastLength 3 (some .int))) := gV qm_Top_227 qi_Mesh_leastLength qs_Mesh_leastLength qn_Mesh qc_Mesh_leastLength
theorem g_Top_236 : GoodIn wT (wsV RX6 236 RX3 yX3_side (wsM yX3_side cX3_side 4 (some .int))) := gV qm_Top_236 qi_Plan_side qs_Plan_side qn_Plan qc_Plan_side
theorem g_Top_245 : GoodIn wT (wsV RX6 245 RX3 yX3_circleSide (wsM yX3_circleSide cX3_circleSide 9 (some .int))) := gV qm_Top_245 qi_Plan_circleSide qs_Plan_circleSide qn_Plan qc_Plan_circleSide
theorem g_Top_249 : GoodIn wT (wsV RX6 249 RX2 yX2_isInner (wsM yX2_isInner cX2_isInner 3 (some .boolean))) := gV qm_Top_249 qi_Mesh_isInner qs_Mesh_isInner qn_Mesh qc_Mesh_isInner
theorem g_Top_254 : GoodIn wT (wsV RX6 254 RX2 yX2_passesCircle (wsM yX2_passesCircle cX2_passesCircle 6 (some .boolean))) := gV qm_Top_254 qi_Mesh_passesCircle qs_Mesh_passesCircle qn_Mesh qc_Mesh_passesCircle
theorem g_Top_260 : GoodIn wT (wsV RX6 260 RX2 yX2_edgeAt (wsM yX2_edgeAt cX2_edgeAt 4 (some .int))) := gV qm_Top_260 qi_Mesh_edgeAt qs_Mesh_edgeAt qn_Mesh qc_Mesh_edgeAt
theorem g_Top_263 : GoodIn wT (wsV RX6 263 RX2 yX2_triangleAt (wsM yX2_triangleAt cX2_triangleAt 4 (some .int))) := gV qm_Top_263 qi_Mesh_triangleAt qs_Mesh_triangleAt qn_Mesh qc_Mesh_triangleAt
theorem g_Top_257 : GoodIn wT (wsV RX6 257 RX6 yX6_kindOf (wsM yX6_kindOf cX6_kindOf 3 (some .int))) := gV qm_Top_257 qi_Top_kindOf qs_Top_kindOf qn_Top qc_Top_kindOf
theorem g_Top_268 : GoodIn wT (wsV RX6 268 RX2 yX2_exitTowards (wsM yX2_exitTowards cX2_exitTowards 6 (some .int))) := gV qm_Top_268 qi_Mesh_exitTowards qs_Mesh_exitTowards qn_Mesh qc_Mesh_exitTowards
theorem g_Top_271 : GoodIn wT (wsV RX6 271 RX3 yX3_copyFrom (wsM yX3_copyFrom cX3_copyFrom 2 none)) := gV qm_Top_271 qi_Plan_copyFrom qs_Plan_copyFrom qn_Plan qc_Plan_copyFrom
theorem g_Top_274 : GoodIn wT (wsV RX6 274 RX2 yX2_hasTriangle (wsM yX2_hasTriangle cX2_hasTriangle 4 (some .boolean))) := gV qm_Top_274 qi_Mesh_hasTriangle qs_Mesh_hasTriangle qn_Mesh qc_Mesh_hasTriangle
theorem g_Top_278 : GoodIn wT (wsS RX6 278 yX6_numberBefore (wsM yX6_numberBefore cX6_numberBefore 2 (some .int))) := gS qm_Top_278 qt_Top_numberBefore qn_Top qc_Top_numberBefore
theorem g_Top_281 : GoodIn wT (wsV RX6 281 RX2 yX2_edgeMeets (wsM yX2_edgeMeets cX2_edgeMeets 6 (some .boolean))) := gV qm_Top_281 qi_Mesh_edgeMeets qs_Mesh_edgeMeets qn_Mesh qc_Mesh_edgeMeets
theorem g_Top_284 : GoodIn wT (wsV RX6 284 RX0 yX0_kept (wsM yX0_kept cX0_kept 1 (some .int))) := gV qm_Top_284 qi_Hist_kept qs_Hist_kept qn_Hist qc_Hist_kept
theorem g_Top_289 : GoodIn wT (wsV RX6 289 RX0 yX0_recallInto (wsM yX0_recallInto cX0_recallInto 2 none)) := gV qm_Top_289 qi_Hist_recallInto qs_Hist_recallInto qn_Hist qc_Hist_recallInto
theorem g_Top_294 : GoodIn wT (wsV RX6 294 RX0 yX0_clear (wsM yX0_clear cX0_clear 1 none)) := gV qm_Top_294 qi_Hist_clear qs_Hist_clear qn_Hist qc_Hist_clear
