theorem qm_Law_7 : Cond.methodLink RL 7 yX6_addPoint ∈ wT := wT_t 316 (by decide +kernel) rfl
theorem qi_Top_addPoint : Cond.instanceMethod yX6_addPoint ∈ wT := wT_t 317 (by decide +kernel) rfl
theorem qs_Top_addPoint : Cond.selects RX6 yX6_addPoint yX6_addPoint ∈ wT := wT_t 318 (by decide +kernel) rfl
theorem qc_Top_addPoint : Cond.code yX6_addPoint cX6_addPoint 3 (some .int) ∈ wT := wT_t 319 (by decide +kernel) rfl
theorem ql_Law_13 : Cond.classLink RL 13 "java/lang/IllegalArgumentException" ∈ wT := wT_t 313 (by decide +kernel) rfl
theorem qb_IAE : Cond.castable "java/lang/IllegalArgumentException" "java/lang/IllegalArgumentException" ∈ wB := by decide +kernel
theorem ql_Law_15 : Cond.classLink RL 15 "java/lang/IllegalStateException" ∈ wT := wT_t 314 (by decide +kernel) rfl
theorem qb_ISE : Cond.castable "java/lang/IllegalStateException" "java/lang/IllegalStateException" ∈ wB := by decide +kernel
theorem ql_Law_17 : Cond.classLink RL 17 "java/lang/UnsupportedOperationException" ∈ wT := wT_t 315 (by decide +kernel) rfl
theorem qb_UOE : Cond.castable "java/lang/UnsupportedOperationException" "java/lang/UnsupportedOperationException" ∈ wB := by decide +kernel
theorem qc_Law_point : Cond.codeWith yL_point cL_point 4 (some .int) [(0, 6, 7, 13), (0, 6, 12, 15), (0, 6, 17, 17)] ∈ wT := wT_t 312 (by decide +kernel) rfl
theorem qm_Law_19 : Cond.methodLink RL 19 yX6_removePoint ∈ wT := wT_t 1025 (by decide +kernel) rfl
theorem qi_Top_removePoint : Cond.instanceMethod yX6_removePoint ∈ wT := wT_t 1026 (by decide +kernel) rfl
theorem qs_Top_removePoint : Cond.selects RX6 yX6_removePoint yX6_removePoint ∈ wT := wT_t 1027 (by decide +kernel) rfl
theorem qc_Top_removePoint : Cond.code yX6_removePoint cX6_removePoint 2 (some .int) ∈ wT := wT_t 1028 (by decide +kernel) rfl
theorem ql_Law_23 : Cond.classLink RL 23 "java/lang/IndexOutOfBoundsException" ∈ wT := wT_t 590 (by decide +kernel) rfl
theorem qb_IOB : Cond.castable "java/lang/IndexOutOfBoundsException" "java/lang/IndexOutOfBoundsException" ∈ wB := by decide +kernel
theorem qc_Law_remove : Cond.codeWith yL_remove cL_remove 3 (some .int) [(0, 5, 6, 23), (0, 5, 11, 15)] ∈ wT := wT_t 1024 (by decide +kernel) rfl
theorem qm_Law_25 : Cond.methodLink RL 25 yX6_movePoint ∈ wT := wT_t 1032 (by decide +kernel) rfl
theorem qi_Top_movePoint : Cond.instanceMethod yX6_movePoint ∈ wT := wT_t 1033 (by decide +kernel) rfl
theorem qs_Top_movePoint : Cond.selects RX6 yX6_movePoint yX6_movePoint ∈ wT := wT_t 1034 (by decide +kernel) rfl
theorem qc_Top_movePoint : Cond.code yX6_movePoint cX6_movePoint 5 (some .boolean) ∈ wT := wT_t 1035 (by decide +kernel) rfl
theorem qc_Law_move : Cond.codeWith yL_move cL_move 5 (some .int) [(0, 15, 16, 23), (0, 15, 22, 13), (0, 15, 28, 15), (0, 15, 34, 17)] ∈ wT := wT_t 1031 (by decide +kernel) rfl
theorem qm_Law_29 : Cond.methodLink RL 29 yX6_coordinate ∈ wT := wT_t 906 (by decide +kernel) rfl
theorem qi_Top_coordinate : Cond.instanceMethod yX6_coordinate ∈ wT := wT_t 907 (by decide +kernel) rfl
theorem qs_Top_coordinate : Cond.selects RX6 yX6_coordinate yX6_coordinate ∈ wT := wT_t 908 (by decide +kernel) rfl
theorem qc_Top_coordinate : Cond.code yX6_coordinate cX6_coordinate 3 (some .int) ∈ wT := wT_t 909 (by decide +kernel) rfl
theorem qc_Law_coordinate : Cond.codeWith yL_coordinate cL_coordinate 4 (some .int) [(0, 6, 7, 23), (0, 6, 12, 13)] ∈ wT := wT_t 905 (by decide +kernel) rfl
theorem qm_Law_32 : Cond.methodLink RL 32 yX6_addConstraint ∈ wT := wT_t 614 (by decide +kernel) rfl
theorem qi_Top_addConstraint : Cond.instanceMethod yX6_addConstraint ∈ wT := wT_t 615 (by decide +kernel) rfl
theorem qs_Top_addConstraint : Cond.selects RX6 yX6_addConstraint yX6_addConstraint ∈ wT := wT_t 616 (by decide +kernel) rfl
theorem qc_Top_addConstraint : Cond.code yX6_addConstraint cX6_addConstraint 3 (some .int) ∈ wT := wT_t 617 (by decide +kernel) rfl
theorem qc_Law_tie : Cond.codeWith yL_tie cL_tie 4 (some .int) [(0, 6, 7, 23), (0, 6, 12, 13), (0, 6, 17, 15), (0, 6, 22, 17)] ∈ wT := wT_t 589 (by decide +kernel) rfl
theorem qm_Law_35 : Cond.methodLink RL 35 yX6_removeConstraint ∈ wT := wT_t 663 (by decide +kernel) rfl
theorem qi_Top_removeConstraint : Cond.instanceMethod yX6_removeConstraint ∈ wT := wT_t 664 (by decide +kernel) rfl
theorem qs_Top_removeConstraint : Cond.selects RX6 yX6_removeConstraint yX6_removeConstraint ∈ wT := wT_t 665 (by decide +kernel) rfl
theorem qc_Top_removeConstraint : Cond.code yX6_removeConstraint cX6_removeConstraint 2 (some .int) ∈ wT := wT_t 666 (by decide +kernel) rfl
theorem qc_Law_untie : Cond.codeWith yL_untie cL_untie 3 (some .int) [(0, 5, 6, 23)] ∈ wT := wT_t 662 (by decide +kernel) rfl
theorem qm_Law_38 : Cond.methodLink RL 38 yX6_constraintEnd ∈ wT := wT_t 920 (by decide +kernel) rfl
theorem qi_Top_constraintEnd : Cond.instanceMethod yX6_constraintEnd ∈ wT := wT_t 921 (by decide +kernel) rfl
theorem qs_Top_constraintEnd : Cond.selects RX6 yX6_constraintEnd yX6_constraintEnd ∈ wT := wT_t 922 (by decide +kernel) rfl
theorem qc_Top_constraintEnd : Cond.code yX6_constraintEnd cX6_constraintEnd 3 (some .int) ∈ wT := wT_t 923 (by decide +kernel) rfl
theorem qc_Law_tied : Cond.codeWith yL_tied cL_tied 4 (some .int) [(0, 6, 7, 23), (0, 6, 12, 13)] ∈ wT := wT_t 919 (by decide +kernel) rfl
theorem qm_Law_63 : Cond.methodLink RL 63 yX6_corner ∈ wT := wT_t 946 (by decide +kernel) rfl
theorem qi_Top_corner : Cond.instanceMethod yX6_corner ∈ wT := wT_t 947 (by decide +kernel) rfl
theorem qs_Top_corner : Cond.selects RX6 yX6_corner yX6_corner ∈ wT := wT_t 948 (by decide +kernel) rfl
theorem qc_Top_corner : Cond.code yX6_corner cX6_corner 3 (some .int) ∈ wT := wT_t 949 (by decide +kernel) rfl
theorem qc_Law_corner : Cond.codeWith yL_corner cL_corner 4 (some .int) [(0, 6, 7, 23), (0, 6, 12, 13)] ∈ wT := wT_t 945 (by decide +kernel) rfl
theorem qm_Law_66 : Cond.methodLink RL 66 yX6_beyond ∈ wT := wT_t 958 (by decide +kernel) rfl
theorem qi_Top_beyond : Cond.instanceMethod yX6_beyond ∈ wT := wT_t 959 (by decide +kernel) rfl
theorem qs_Top_beyond : Cond.selects RX6 yX6_beyond yX6_beyond ∈ wT := wT_t 960 (by decide +kernel) rfl
theorem qc_Top_beyond : Cond.code yX6_beyond cX6_beyond 3 (some .int) ∈ wT := wT_t 961 (by decide +kernel) rfl
theorem qc_Law_beyond : Cond.codeWith yL_beyond cL_beyond 4 (some .int) [(0, 6, 7, 23), (0, 6, 12, 13)] ∈ wT := wT_t 957 (by decide +kernel) rfl
theorem qm_Law_69 : Cond.methodLink RL 69 yX6_edgeEnd ∈ wT := wT_t 969 (by decide +kernel) rfl
theorem qi_Top_edgeEnd : Cond.instanceMethod yX6_edgeEnd ∈ wT := wT_t 970 (by decide +kernel) rfl
theorem qs_Top_edgeEnd : Cond.selects RX6 yX6_edgeEnd yX6_edgeEnd ∈ wT := wT_t 971 (by decide +kernel) rfl
theorem qc_Top_edgeEnd : Cond.code yX6_edgeEnd cX6_edgeEnd 3 (some .int) ∈ wT := wT_t 972 (by decide +kernel) rfl
theorem qc_Law_end : Cond.codeWith yL_end cL_end 4 (some .int) [(0, 6, 7, 23), (0, 6, 12, 13)] ∈ wT := wT_t 968 (by decide +kernel) rfl
theorem qm_Law_72 : Cond.methodLink RL 72 yX6_edgeBetween ∈ wT := wT_t 684 (by decide +kernel) rfl
theorem qi_Top_edgeBetween : Cond.instanceMethod yX6_edgeBetween ∈ wT := wT_t 685 (by decide +kernel) rfl
theorem qs_Top_edgeBetween : Cond.selects RX6 yX6_edgeBetween yX6_edgeBetween ∈ wT := wT_t 686 (by decide +kernel) rfl
theorem qc_Top_edgeBetween : Cond.code yX6_edgeBetween cX6_edgeBetween 4 (some .int) ∈ wT := wT_t 687 (by decide +kernel) rfl
theorem ql_Law_75 : Cond.classLink RL 75 "java/util/NoSuchElementException" ∈ wT := wT_t 683 (by decide +kernel) rfl
theorem qb_NSE : Cond.castable "java/util/NoSuchElementException" "java/util/NoSuchElementException" ∈ wB := by decide +kernel
theorem qc_Law_between : Cond.codeWith yL_between cL_between 4 (some .int) [(0, 6, 7, 23), (0, 6, 12, 75)] ∈ wT := wT_t 682 (by decide +kernel) rfl
theorem qm_Law_77 : Cond.methodLink RL 77 yX6_degree ∈ wT := wT_t 989 (by decide +kernel) rfl
theorem qi_Top_degree : Cond.instanceMethod yX6_degree ∈ wT := wT_t 990 (by decide +kernel) rfl
theorem qs_Top_degree : Cond.selects RX6 yX6_degree yX6_degree ∈ wT := wT_t 991 (by decide +kernel) rfl
theorem qc_Top_degree : Cond.code yX6_degree cX6_degree 2 (some .int) ∈ wT := wT_t 992 (by decide +kernel) rfl
theorem qc_Law_degree : Cond.codeWith yL_degree cL_degree 3 (some .int) [(0, 5, 6, 23)] ∈ wT := wT_t 988 (by decide +kernel) rfl
theorem qm_Law_80 : Cond.methodLink RL 80 yX6_neighbour ∈ wT := wT_t 1104 (by decide +kernel) rfl
theorem qi_Top_neighbour : Cond.instanceMethod yX6_neighbour ∈ wT := wT_t 1105 (by decide +kernel) rfl
theorem qs_Top_neighbour : Cond.selects RX6 yX6_neighbour yX6_neighbour ∈ wT := wT_t 1106 (by decide +kernel) rfl
theorem qc_Top_neighbour : Cond.code yX6_neighbour cX6_neighbour 3 (some .int) ∈ wT := wT_t 1107 (by decide +kernel) rfl
theorem qc_Law_neighbour : Cond.codeWith yL_neighbour cL_neighbour 4 (some .int) [(0, 6, 7, 23), (0, 6, 12, 75)] ∈ wT := wT_t 1103 (by decide +kernel) rfl
theorem qm_Law_83 : Cond.methodLink RL 83 yX6_hullPoint ∈ wT := wT_t 1006 (by decide +kernel) rfl
theorem qi_Top_hullPoint : Cond.instanceMethod yX6_hullPoint ∈ wT := wT_t 1007 (by decide +kernel) rfl
theorem qs_Top_hullPoint : Cond.selects RX6 yX6_hullPoint yX6_hullPoint ∈ wT := wT_t 1008 (by decide +kernel) rfl
theorem qc_Top_hullPoint : Cond.code yX6_hullPoint cX6_hullPoint 2 (some .int) ∈ wT := wT_t 1009 (by decide +kernel) rfl
theorem qc_Law_hull : Cond.codeWith yL_hull cL_hull 3 (some .int) [(0, 5, 6, 23)] ∈ wT := wT_t 1005 (by decide +kernel) rfl
theorem qm_Law_86 : Cond.methodLink RL 86 yX6_twiceArea ∈ wT := wT_t 930 (by decide +kernel) rfl
theorem qi_Top_twiceArea : Cond.instanceMethod yX6_twiceArea ∈ wT := wT_t 931 (by decide +kernel) rfl
theorem qs_Top_twiceArea : Cond.selects RX6 yX6_twiceArea yX6_twiceArea ∈ wT := wT_t 932 (by decide +kernel) rfl
theorem qc_Top_twiceArea : Cond.code yX6_twiceArea cX6_twiceArea 2 (some .int) ∈ wT := wT_t 933 (by decide +kernel) rfl
theorem qc_Law_area : Cond.codeWith yL_area cL_area 3 (some .int) [(0, 5, 6, 23)] ∈ wT := wT_t 929 (by decide +kernel) rfl
theorem qm_Law_89 : Cond.methodLink RL 89 yX6_areaShare ∈ wT := wT_t 1115 (by decide +kernel) rfl
theorem qi_Top_areaShare : Cond.instanceMethod yX6_areaShare ∈ wT := wT_t 1116 (by decide +kernel) rfl
theorem qs_Top_areaShare : Cond.selects RX6 yX6_areaShare yX6_areaShare ∈ wT := wT_t 1117 (by decide +kernel) rfl
theorem qc_Top_areaShare : Cond.code yX6_areaShare cX6_areaShare 3 (some .double) ∈ wT := wT_t 1118 (by decide +kernel) rfl
theorem qk_Law_93 : Cond.constantDouble RL 93 (0xC08F480000000000) ∈ wT := wT_t 717 (by decide +kernel) rfl
theorem qc_Law_share : Cond.codeWith yL_share cL_share 3 (some .double) [(0, 5, 6, 23)] ∈ wT := wT_t 1114 (by decide +kernel) rfl
theorem qm_Law_95 : Cond.methodLink RL 95 yX6_meanDegree ∈ wT := wT_t 712 (by decide +kernel) rfl
theorem qi_Top_meanDegree : Cond.instanceMethod yX6_meanDegree ∈ wT := wT_t 713 (by decide +kernel) rfl
theorem qs_Top_meanDegree : Cond.selects RX6 yX6_meanDegree yX6_meanDegree ∈ wT := wT_t 714 (by decide +kernel) rfl
theorem qc_Top_meanDegree : Cond.code yX6_meanDegree cX6_meanDegree 2 (some .double) ∈ wT := wT_t 715 (by decide +kernel) rfl
theorem qc_Law_mean : Cond.codeWith yL_mean cL_mean 2 (some .double) [(0, 4, 5, 75)] ∈ wT := wT_t 711 (by decide +kernel) rfl
theorem qm_Law_99 : Cond.methodLink RL 99 yX6_squaredLength ∈ wT := wT_t 721 (by decide +kernel) rfl
theorem qi_Top_squaredLength : Cond.instanceMethod yX6_squaredLength ∈ wT := wT_t 722 (by decide +kernel) rfl
theorem qs_Top_squaredLength : Cond.selects RX6 yX6_squaredLength yX6_squaredLength ∈ wT := wT_t 723 (by decide +kernel) rfl
theorem qc_Top_squaredLength : Cond.code yX6_squaredLength cX6_squaredLength 2 (some .int) ∈ wT := wT_t 724 (by decide +kernel) rfl
theorem qc_Law_square : Cond.codeWith yL_square cL_square 3 (some .int) [(0, 5, 6, 13), (0, 5, 11, 75)] ∈ wT := wT_t 720 (by decide +kernel) rfl
theorem qm_Law_102 : Cond.methodLink RL 102 yX6_turn ∈ wT := wT_t 1127 (by decide +kernel) rfl
theorem qi_Top_turn : Cond.instanceMethod yX6_turn ∈ wT := wT_t 1128 (by decide +kernel) rfl
theorem qs_Top_turn : Cond.selects RX6 yX6_turn yX6_turn ∈ wT := wT_t 1129 (by decide +kernel) rfl
theorem qc_Top_turn : Cond.code yX6_turn cX6_turn 4 (some .int) ∈ wT := wT_t 1130 (by decide +kernel) rfl
theorem qc_Law_turn : Cond.codeWith yL_turn cL_turn 5 (some .int) [(0, 7, 8, 23)] ∈ wT := wT_t 1126 (by decide +kernel) rfl
theorem qm_Law_106 : Cond.methodLink RL 106 yX6_inCircle ∈ wT := wT_t 1149 (by decide +kernel) rfl
theorem qi_Top_inCircle : Cond.instanceMethod yX6_inCircle ∈ wT := wT_t 1150 (by decide +kernel) rfl
theorem qs_Top_inCircle : Cond.selects RX6 yX6_inCircle yX6_inCircle ∈ wT := wT_t 1151 (by decide +kernel) rfl
theorem qc_Top_inCircle : Cond.code yX6_inCircle cX6_inCircle 5 (some .int) ∈ wT := wT_t 1152 (by decide +kernel) rfl
theorem ql_Law_110 : Cond.classLink RL 110 "java/lang/ArithmeticException" ∈ wT := wT_t 1135 (by decide +kernel) rfl
theorem qb_ARE : Cond.castable "java/lang/ArithmeticException" "java/lang/ArithmeticException" ∈ wB := by decide +kernel
theorem qc_Law_circle : Cond.codeWith yL_circle cL_circle 6 (some .int) [(0, 9, 10, 23), (0, 9, 16, 110)] ∈ wT := wT_t 1134 (by decide +kernel) rfl
theorem qm_Law_112 : Cond.methodLink RL 112 yX6_isGood ∈ wT := wT_t 981 (by decide +kernel) rfl
theorem qi_Top_isGood : Cond.instanceMethod yX6_isGood ∈ wT := wT_t 982 (by decide +kernel) rfl
theorem qs_Top_isGood : Cond.selects RX6 yX6_isGood yX6_isGood ∈ wT := wT_t 983 (by decide +kernel) rfl
theorem qc_Top_isGood : Cond.code yX6_isGood cX6_isGood 4 (some .boolean) ∈ wT := wT_t 984 (by decide +kernel) rfl
theorem qc_Law_good : Cond.codeWith yL_good cL_good 3 (some .int) [(0, 13, 14, 23), (0, 13, 19, 17)] ∈ wT := wT_t 980 (by decide +kernel) rfl
theorem qm_Law_116 : Cond.methodLink RL 116 yX6_kindAt ∈ wT := wT_t 751 (by decide +kernel) rfl
theorem qi_Top_kindAt : Cond.instanceMethod yX6_kindAt ∈ wT := wT_t 752 (by decide +kernel) rfl
theorem qs_Top_kindAt : Cond.selects RX6 yX6_kindAt yX6_kindAt ∈ wT := wT_t 753 (by decide +kernel) rfl
theorem qc_Top_kindAt : Cond.code yX6_kindAt cX6_kindAt 3 (some .int) ∈ wT := wT_t 754 (by decide +kernel) rfl
theorem qc_Law_kind : Cond.codeWith yL_kind cL_kind 4 (some .int) [(0, 6, 7, 13)] ∈ wT := wT_t 750 (by decide +kernel) rfl
theorem qm_Law_119 : Cond.methodLink RL 119 yX6_numberAt ∈ wT := wT_t 785 (by decide +kernel) rfl
theorem qi_Top_numberAt : Cond.instanceMethod yX6_numberAt ∈ wT := wT_t 786 (by decide +kernel) rfl
theorem qs_Top_numberAt : Cond.selects RX6 yX6_numberAt yX6_numberAt ∈ wT := wT_t 787 (by decide +kernel) rfl
theorem qc_Top_numberAt : Cond.code yX6_numberAt cX6_numberAt 3 (some .int) ∈ wT := wT_t 788 (by decide +kernel) rfl
theorem qc_Law_number : Cond.codeWith yL_number cL_number 4 (some .int) [(0, 6, 7, 13), (0, 6, 12, 75)] ∈ wT := wT_t 784 (by decide +kernel) rfl
theorem qm_Law_122 : Cond.methodLink RL 122 yX6_walk ∈ wT := wT_t 1160 (by decide +kernel) rfl
theorem qi_Top_walk : Cond.instanceMethod yX6_walk ∈ wT := wT_t 1161 (by decide +kernel) rfl
theorem qs_Top_walk : Cond.selects RX6 yX6_walk yX6_walk ∈ wT := wT_t 1162 (by decide +kernel) rfl
theorem qc_Top_walk : Cond.code yX6_walk cX6_walk 9 (some .int) ∈ wT := wT_t 1163 (by decide +kernel) rfl
theorem qc_Law_walk : Cond.codeWith yL_walk cL_walk 6 (some .int) [(0, 9, 10, 23), (0, 9, 16, 13)] ∈ wT := wT_t 1159 (by decide +kernel) rfl
theorem qm_Law_126 : Cond.methodLink RL 126 yX6_cavity ∈ wT := wT_t 793 (by decide +kernel) rfl
theorem qi_Top_cavity : Cond.instanceMethod yX6_cavity ∈ wT := wT_t 794 (by decide +kernel) rfl
theorem qs_Top_cavity : Cond.selects RX6 yX6_cavity yX6_cavity ∈ wT := wT_t 795 (by decide +kernel) rfl
theorem qc_Top_cavity : Cond.code yX6_cavity cX6_cavity 5 (some .int) ∈ wT := wT_t 796 (by decide +kernel) rfl
theorem qc_Law_cavity : Cond.codeWith yL_cavity cL_cavity 4 (some .int) [(0, 6, 7, 13), (0, 6, 12, 15), (0, 6, 17, 17)] ∈ wT := wT_t 792 (by decide +kernel) rfl
theorem qm_Law_129 : Cond.methodLink RL 129 yX6_hole ∈ wT := wT_t 805 (by decide +kernel) rfl
theorem qi_Top_hole : Cond.instanceMethod yX6_hole ∈ wT := wT_t 806 (by decide +kernel) rfl
theorem qs_Top_hole : Cond.selects RX6 yX6_hole yX6_hole ∈ wT := wT_t 807 (by decide +kernel) rfl
theorem qc_Top_hole : Cond.code yX6_hole cX6_hole 7 (some .int) ∈ wT := wT_t 808 (by decide +kernel) rfl
theorem qc_Law_hole : Cond.codeWith yL_hole cL_hole 3 (some .int) [(0, 5, 6, 23), (0, 5, 11, 15)] ∈ wT := wT_t 804 (by decide +kernel) rfl
theorem qm_Law_132 : Cond.methodLink RL 132 yX6_crossings ∈ wT := wT_t 831 (by decide +kernel) rfl
theorem qi_Top_crossings : Cond.instanceMethod yX6_crossings ∈ wT := wT_t 832 (by decide +kernel) rfl
theorem qs_Top_crossings : Cond.selects RX6 yX6_crossings yX6_crossings ∈ wT := wT_t 833 (by decide +kernel) rfl
theorem qc_Top_crossings : Cond.code yX6_crossings cX6_crossings 5 (some .int) ∈ wT := wT_t 834 (by decide +kernel) rfl
theorem qc_Law_crossings : Cond.codeWith yL_crossings cL_crossings 4 (some .int) [(0, 6, 7, 23), (0, 6, 12, 13)] ∈ wT := wT_t 830 (by decide +kernel) rfl
theorem qm_Law_135 : Cond.methodLink RL 135 yX6_effect ∈ wT := wT_t 854 (by decide +kernel) rfl
theorem qi_Top_effect : Cond.instanceMethod yX6_effect ∈ wT := wT_t 855 (by decide +kernel) rfl
theorem qs_Top_effect : Cond.selects RX6 yX6_effect yX6_effect ∈ wT := wT_t 856 (by decide +kernel) rfl
theorem qc_Top_effect : Cond.code yX6_effect cX6_effect 4 (some .int) ∈ wT := wT_t 857 (by decide +kernel) rfl
theorem qc_Law_effect : Cond.codeWith yL_effect cL_effect 3 (some .int) [(0, 5, 6, 23)] ∈ wT := wT_t 853 (by decide +kernel) rfl
theorem qm_Law_138 : Cond.methodLink RL 138 yX6_undo ∈ wT := wT_t 869 (by decide +kernel) rfl
theorem qi_Top_undo : Cond.instanceMethod yX6_undo ∈ wT := wT_t 870 (by decide +kernel) rfl
theorem qs_Top_undo : Cond.selects RX6 yX6_undo yX6_undo ∈ wT := wT_t 871 (by decide +kernel) rfl
theorem qc_Top_undo : Cond.code yX6_undo cX6_undo 1 (some .int) ∈ wT := wT_t 872 (by decide +kernel) rfl
theorem qc_Law_undo : Cond.codeWith yL_undo cL_undo 2 (some .int) [(0, 4, 5, 15)] ∈ wT := wT_t 868 (by decide +kernel) rfl
theorem qm_Law_141 : Cond.methodLink RL 141 yX6_restore ∈ wT := wT_t 886 (by decide +kernel) rfl
theorem qi_Top_restore : Cond.instanceMethod yX6_restore ∈ wT := wT_t 887 (by decide +kernel) rfl
theorem qs_Top_restore : Cond.selects RX6 yX6_restore yX6_restore ∈ wT := wT_t 888 (by decide +kernel) rfl
theorem qc_Top_restore : Cond.code yX6_restore cX6_restore 1 (some .int) ∈ wT := wT_t 889 (by decide +kernel) rfl
theorem qc_Law_restore : Cond.codeWith yL_restore cL_restore 2 (some .int) [(0, 4, 5, 15)] ∈ wT := wT_t 885 (by decide +kernel) rfl
theorem qk_Law_144 : Cond.constantLong RL 144 (31 : Int64) ∈ wT := wT_t 898 (by decide +kernel) rfl
theorem qm_Law_146 : Cond.methodLink RL 146 yX6_pointCount ∈ wT := wT_t 206 (by decide +kernel) rfl
theorem qi_Top_pointCount : Cond.instanceMethod yX6_pointCount ∈ wT := wT_t 207 (by decide +kernel) rfl
theorem qs_Top_pointCount : Cond.selects RX6 yX6_pointCount yX6_pointCount ∈ wT := wT_t 208 (by decide +kernel) rfl
theorem qc_Top_pointCount : Cond.code yX6_pointCount cX6_pointCount 1 (some .int) ∈ wT := wT_t 209 (by decide +kernel) rfl
theorem qm_Law_149 : Cond.methodLink RL 149 yX6_constraintCount ∈ wT := wT_t 899 (by decide +kernel) rfl
theorem qi_Top_constraintCount : Cond.instanceMethod yX6_constraintCount ∈ wT := wT_t 900 (by decide +kernel) rfl
theorem qs_Top_constraintCount : Cond.selects RX6 yX6_constraintCount yX6_constraintCount ∈ wT := wT_t 901 (by decide +kernel) rfl
theorem qc_Top_constraintCount : Cond.code yX6_constraintCount cX6_constraintCount 1 (some .int) ∈ wT := wT_t 902 (by decide +kernel) rfl
theorem qm_Law_152 : Cond.methodLink RL 152 yL_coordinate ∈ wT := wT_t 903 (by decide +kernel) rfl
theorem qt_Law_coordinate : Cond.static yL_coordinate ∈ wT := wT_t 904 (by decide +kernel) rfl
theorem qm_Law_155 : Cond.methodLink RL 155 yL_tied ∈ wT := wT_t 917 (by decide +kernel) rfl
theorem qt_Law_tied : Cond.static yL_tied ∈ wT := wT_t 918 (by decide +kernel) rfl
theorem qm_Law_158 : Cond.methodLink RL 158 yL_state ∈ wT := wT_t 895 (by decide +kernel) rfl
theorem qt_Law_state : Cond.static yL_state ∈ wT := wT_t 896 (by decide +kernel) rfl
theorem qn_Law : Cond.initialized RL ∈ wT := wT_t 0 (by decide +kernel) rfl
theorem qc_Law_state : Cond.code yL_state cL_state 4 (some .long) ∈ wT := wT_t 897 (by decide +kernel) rfl
theorem qm_Law_162 : Cond.methodLink RL 162 yX6_triangleCount ∈ wT := wT_t 214 (by decide +kernel) rfl
theorem qi_Top_triangleCount : Cond.instanceMethod yX6_triangleCount ∈ wT := wT_t 215 (by decide +kernel) rfl
theorem qs_Top_triangleCount : Cond.selects RX6 yX6_triangleCount yX6_triangleCount ∈ wT := wT_t 216 (by decide +kernel) rfl
theorem qc_Top_triangleCount : Cond.code yX6_triangleCount cX6_triangleCount 1 (some .int) ∈ wT := wT_t 217 (by decide +kernel) rfl
theorem qm_Law_165 : Cond.methodLink RL 165 yX6_edgeCount ∈ wT := wT_t 222 (by decide +kernel) rfl
theorem qi_Top_edgeCount : Cond.instanceMethod yX6_edgeCount ∈ wT := wT_t 223 (by decide +kernel) rfl
theorem qs_Top_edgeCount : Cond.selects RX6 yX6_edgeCount yX6_edgeCount ∈ wT := wT_t 224 (by decide +kernel) rfl
theorem qc_Top_edgeCount : Cond.code yX6_edgeCount cX6_edgeCount 1 (some .int) ∈ wT := wT_t 225 (by decide +kernel) rfl
theorem qm_Law_168 : Cond.methodLink RL 168 yX6_hullSize ∈ wT := wT_t 230 (by decide +kernel) rfl
theorem qi_Top_hullSize : Cond.instanceMethod yX6_hullSize ∈ wT := wT_t 231 (by decide +kernel) rfl
theorem qs_Top_hullSize : Cond.selects RX6 yX6_hullSize yX6_hullSize ∈ wT := wT_t 232 (by decide +kernel) rfl
theorem qc_Top_hullSize : Cond.code yX6_hullSize cX6_hullSize 1 (some .int) ∈ wT := wT_t 233 (by decide +kernel) rfl
theorem qm_Law_171 : Cond.methodLink RL 171 yL_area ∈ wT := wT_t 927 (by decide +kernel) rfl
theorem qt_Law_area : Cond.static yL_area ∈ wT := wT_t 928 (by decide +kernel) rfl
theorem qm_Law_174 : Cond.methodLink RL 174 yL_corner ∈ wT := wT_t 943 (by decide +kernel) rfl
theorem qt_Law_corner : Cond.static yL_corner ∈ wT := wT_t 944 (by decide +kernel) rfl
theorem qm_Law_176 : Cond.methodLink RL 176 yL_beyond ∈ wT := wT_t 955 (by decide +kernel) rfl
theorem qt_Law_beyond : Cond.static yL_beyond ∈ wT := wT_t 956 (by decide +kernel) rfl
theorem qm_Law_178 : Cond.methodLink RL 178 yL_end ∈ wT := wT_t 966 (by decide +kernel) rfl
theorem qt_Law_end : Cond.static yL_end ∈ wT := wT_t 967 (by decide +kernel) rfl
theorem qm_Law_181 : Cond.methodLink RL 181 yL_good ∈ wT := wT_t 978 (by decide +kernel) rfl
theorem qt_Law_good : Cond.static yL_good ∈ wT := wT_t 979 (by decide +kernel) rfl
theorem qm_Law_184 : Cond.methodLink RL 184 yL_degree ∈ wT := wT_t 986 (by decide +kernel) rfl
theorem qt_Law_degree : Cond.static yL_degree ∈ wT := wT_t 987 (by decide +kernel) rfl
theorem qm_Law_186 : Cond.methodLink RL 186 yL_hole ∈ wT := wT_t 802 (by decide +kernel) rfl
theorem qt_Law_hole : Cond.static yL_hole ∈ wT := wT_t 803 (by decide +kernel) rfl
theorem qm_Law_188 : Cond.methodLink RL 188 yL_hull ∈ wT := wT_t 1003 (by decide +kernel) rfl
theorem qt_Law_hull : Cond.static yL_hull ∈ wT := wT_t 1004 (by decide +kernel) rfl
theorem qm_Law_191 : Cond.methodLink RL 191 yL_effect ∈ wT := wT_t 851 (by decide +kernel) rfl
theorem qt_Law_effect : Cond.static yL_effect ∈ wT := wT_t 852 (by decide +kernel) rfl
theorem qm_Law_193 : Cond.methodLink RL 193 yL_square ∈ wT := wT_t 718 (by decide +kernel) rfl
theorem qt_Law_square : Cond.static yL_square ∈ wT := wT_t 719 (by decide +kernel) rfl
theorem qm_Law_196 : Cond.methodLink RL 196 yL_cavity ∈ wT := wT_t 790 (by decide +kernel) rfl
theorem qt_Law_cavity : Cond.static yL_cavity ∈ wT := wT_t 791 (by decide +kernel) rfl
theorem qm_Law_198 : Cond.methodLink RL 198 yL_number ∈ wT := wT_t 782 (by decide +kernel) rfl
theorem qt_Law_number : Cond.static yL_number ∈ wT := wT_t 783 (by decide +kernel) rfl
theorem qm_Law_201 : Cond.methodLink RL 201 yX6_forcedConstraints ∈ wT := wT_t 238 (by decide +kernel) rfl
theorem qi_Top_forcedConstraints : Cond.instanceMethod yX6_forcedConstraints ∈ wT := wT_t 239 (by decide +kernel) rfl
theorem qs_Top_forcedConstraints : Cond.selects RX6 yX6_forcedConstraints yX6_forcedConstraints ∈ wT := wT_t 240 (by decide +kernel) rfl
theorem qc_Top_forcedConstraints : Cond.code yX6_forcedConstraints cX6_forcedConstraints 5 (some .int) ∈ wT := wT_t 241 (by decide +kernel) rfl
theorem qk_Law_204 : Cond.constantDouble RL 204 (0x412E848000000000) ∈ wT := wT_t 1015 (by decide +kernel) rfl
theorem qm_Law_206 : Cond.methodLink RL 206 yL_mean ∈ wT := wT_t 709 (by decide +kernel) rfl
theorem qt_Law_mean : Cond.static yL_mean ∈ wT := wT_t 710 (by decide +kernel) rfl
theorem qm_Law_210 : Cond.methodLink RL 210 yL_some ∈ wT := wT_t 1019 (by decide +kernel) rfl
theorem qt_Law_some : Cond.static yL_some ∈ wT := wT_t 1020 (by decide +kernel) rfl
theorem qc_Law_some : Cond.code yL_some cL_some 3 (some .int) ∈ wT := wT_t 1021 (by decide +kernel) rfl
theorem qm_Law_213 : Cond.methodLink RL 213 yL_point ∈ wT := wT_t 310 (by decide +kernel) rfl
theorem qt_Law_point : Cond.static yL_point ∈ wT := wT_t 311 (by decide +kernel) rfl
theorem qm_Law_216 : Cond.methodLink RL 216 yL_remove ∈ wT := wT_t 1022 (by decide +kernel) rfl
theorem qt_Law_remove : Cond.static yL_remove ∈ wT := wT_t 1023 (by decide +kernel) rfl
theorem qm_Law_219 : Cond.methodLink RL 219 yL_move ∈ wT := wT_t 1029 (by decide +kernel) rfl
theorem qt_Law_move : Cond.static yL_move ∈ wT := wT_t 1030 (by decide +kernel) rfl
theorem qm_Law_223 : Cond.methodLink RL 223 yL_tie ∈ wT := wT_t 587 (by decide +kernel) rfl
theorem qt_Law_tie : Cond.static yL_tie ∈ wT := wT_t 588 (by decide +kernel) rfl
theorem qm_Law_231 : Cond.methodLink RL 231 Lib.Math.max.name ∈ wT := wT_t 1039 (by decide +kernel) rfl
theorem qm_Law_226 : Cond.methodLink RL 226 Lib.Math.min.name ∈ wT := wT_t 1038 (by decide +kernel) rfl
theorem qm_Law_234 : Cond.methodLink RL 234 yL_untie ∈ wT := wT_t 660 (by decide +kernel) rfl
theorem qt_Law_untie : Cond.static yL_untie ∈ wT := wT_t 661 (by decide +kernel) rfl
theorem qm_Law_237 : Cond.methodLink RL 237 yL_asks ∈ wT := wT_t 924 (by decide +kernel) rfl
theorem qt_Law_asks : Cond.static yL_asks ∈ wT := wT_t 925 (by decide +kernel) rfl
theorem qc_Law_asks : Cond.code yL_asks cL_asks 5 (some .long) ∈ wT := wT_t 926 (by decide +kernel) rfl
theorem qm_Law_60 : Cond.methodLink RL 60 yX6_readInput ∈ wT := wT_t 1043 (by decide +kernel) rfl
theorem qi_Top_readInput : Cond.instanceMethod yX6_readInput ∈ wT := wT_t 1044 (by decide +kernel) rfl
theorem qs_Top_readInput : Cond.selects RX6 yX6_readInput yX6_readInput ∈ wT := wT_t 1045 (by decide +kernel) rfl
theorem qc_Top_readInput : Cond.code yX6_readInput cX6_readInput 3 (some .int) ∈ wT := wT_t 1046 (by decide +kernel) rfl
theorem qm_Law_240 : Cond.methodLink RL 240 yL_between ∈ wT := wT_t 680 (by decide +kernel) rfl
theorem qt_Law_between : Cond.static yL_between ∈ wT := wT_t 681 (by decide +kernel) rfl
theorem qm_Law_243 : Cond.methodLink RL 243 yL_neighbour ∈ wT := wT_t 1101 (by decide +kernel) rfl
theorem qt_Law_neighbour : Cond.static yL_neighbour ∈ wT := wT_t 1102 (by decide +kernel) rfl
theorem qm_Law_245 : Cond.methodLink RL 245 yL_share ∈ wT := wT_t 1112 (by decide +kernel) rfl
theorem qt_Law_share : Cond.static yL_share ∈ wT := wT_t 1113 (by decide +kernel) rfl
theorem qm_Law_249 : Cond.methodLink RL 249 yL_turn ∈ wT := wT_t 1124 (by decide +kernel) rfl
theorem qt_Law_turn : Cond.static yL_turn ∈ wT := wT_t 1125 (by decide +kernel) rfl
theorem qm_Law_251 : Cond.methodLink RL 251 yL_circle ∈ wT := wT_t 1132 (by decide +kernel) rfl
theorem qt_Law_circle : Cond.static yL_circle ∈ wT := wT_t 1133 (by decide +kernel) rfl
theorem qm_Law_255 : Cond.methodLink RL 255 yL_kind ∈ wT := wT_t 748 (by decide +kernel) rfl
theorem qt_Law_kind : Cond.static yL_kind ∈ wT := wT_t 749 (by decide +kernel) rfl
theorem qm_Law_258 : Cond.methodLink RL 258 yL_walk ∈ wT := wT_t 1157 (by decide +kernel) rfl
theorem qt_Law_walk : Cond.static yL_walk ∈ wT := wT_t 1158 (by decide +kernel) rfl
theorem qm_Law_261 : Cond.methodLink RL 261 yL_crossings ∈ wT := wT_t 828 (by decide +kernel) rfl
theorem qt_Law_crossings : Cond.static yL_crossings ∈ wT := wT_t 829 (by decide +kernel) rfl
theorem qm_Law_264 : Cond.methodLink RL 264 yL_undo ∈ wT := wT_t 866 (by decide +kernel) rfl
theorem qt_Law_undo : Cond.static yL_undo ∈ wT := wT_t 867 (by decide +kernel) rfl
theorem qm_Law_267 : Cond.methodLink RL 267 yL_restore ∈ wT := wT_t 883 (by decide +kernel) rfl
theorem qt_Law_restore : Cond.static yL_restore ∈ wT := wT_t 884 (by decide +kernel) rfl
theorem qm_Law_269 : Cond.methodLink RL 269 yL_at ∈ wT := wT_t 307 (by decide +kernel) rfl
theorem qt_Law_at : Cond.static yL_at ∈ wT := wT_t 308 (by decide +kernel) rfl
theorem qc_Law_at : Cond.code yL_at cL_at 2 (some .int) ∈ wT := wT_t 309 (by decide +kernel) rfl
theorem qm_Law_273 : Cond.methodLink RL 273 yL_does ∈ wT := wT_t 1016 (by decide +kernel) rfl
theorem qt_Law_does : Cond.static yL_does ∈ wT := wT_t 1017 (by decide +kernel) rfl
theorem qc_Law_does : Cond.code yL_does cL_does 9 (some .int) ∈ wT := wT_t 1018 (by decide +kernel) rfl
theorem qm_Law_276 : Cond.methodLink RL 276 yL_refused ∈ wT := wT_t 1040 (by decide +kernel) rfl
theorem qt_Law_refused : Cond.static yL_refused ∈ wT := wT_t 1041 (by decide +kernel) rfl
theorem qc_Law_refused : Cond.code yL_refused cL_refused 6 (some .boolean) ∈ wT := wT_t 1042 (by decide +kernel) rfl
theorem qm_Law_280 : Cond.methodLink RL 280 yX6_save ∈ wT := wT_t 294 (by decide +kernel) rfl
theorem qi_Top_save : Cond.instanceMethod yX6_save ∈ wT := wT_t 295 (by decide +kernel) rfl
theorem qs_Top_save : Cond.selects RX6 yX6_save yX6_save ∈ wT := wT_t 296 (by decide +kernel) rfl
theorem qc_Top_save : Cond.code yX6_save cX6_save 1 (some .int) ∈ wT := wT_t 297 (by decide +kernel) rfl
theorem hd_Top_addPoint : yX6_addPoint.cls = RX6 ∧ yX6_addPoint.cls ≠ "java/lang/invoke/MethodHandle" ∧ yX6_addPoint.cls ≠ "java/lang/invoke/VarHandle" ∧ (parseMethodDescriptor yX6_addPoint.desc).map (fun d => d.parameters.length) = some 2 := by decide +kernel
theorem hd_Top_removePoint : yX6_removePoint.cls = RX6 ∧ yX6_removePoint.cls ≠ "java/lang/invoke/MethodHandle" ∧ yX6_removePoint.cls ≠ "java/lang/invoke/VarHandle" ∧ (parseMethodDescriptor yX6_removePoint.desc).map (fun d => d.parameters.length) = some 1 := by decide +kernel
theorem hd_Top_movePoint : yX6_movePoint.cls = RX6 ∧ yX6_movePoint.cls ≠ "java/lang/invoke/MethodHandle" ∧ yX6_movePoint.cls ≠ "java/lang/invoke/VarHandle" ∧ (parseMethodDescriptor yX6_movePoint.desc).map (fun d => d.parameters.length) = some 3 := by decide +kernel
theorem hd_Top_coordinate : yX6_coordinate.cls = RX6 ∧ yX6_coordinate.cls ≠ "java/lang/invoke/MethodHandle" ∧ yX6_coordinate.cls ≠ "java/lang/invoke/VarHandle" ∧ (parseMethodDescriptor yX6_coordinate.desc).map (fun d => d.parameters.length) = some 2 := by decide +kernel
theorem hd_Top_addConstraint : yX6_addConstraint.cls = RX6 ∧ yX6_addConstraint.cls ≠ "java/lang/invoke/MethodHandle" ∧ yX6_addConstraint.cls ≠ "java/lang/invoke/VarHandle" ∧ (parseMethodDescriptor yX6_addConstraint.desc).map (fun d => d.parameters.length) = some 2 := by decide +kernel
theorem hd_Top_removeConstraint : yX6_removeConstraint.cls = RX6 ∧ yX6_removeConstraint.cls ≠ "java/lang/invoke/MethodHandle" ∧ yX6_removeConstraint.cls ≠ "java/lang/invoke/VarHandle" ∧ (parseMethodDescriptor yX6_removeConstraint.desc).map (fun d => d.parameters.length) = some 1 := by decide +kernel
theorem hd_Top_constraintEnd : yX6_constraintEnd.cls = RX6 ∧ yX6_constraintEnd.cls ≠ "java/lang/invoke/MethodHandle" ∧ yX6_constraintEnd.cls ≠ "java/lang/invoke/VarHandle" ∧ (parseMethodDescriptor yX6_constraintEnd.desc).map (fun d => d.parameters.length) = some 2 := by decide +kernel
theorem hd_Top_corner : yX6_corner.cls = RX6 ∧ yX6_corner.cls ≠ "java/lang/invoke/MethodHandle" ∧ yX6_corner.cls ≠ "java/lang/invoke/VarHandle" ∧ (parseMethodDescriptor yX6_corner.desc).map (fun d => d.parameters.length) = some 2 := by decide +kernel
theorem hd_Top_beyond : yX6_beyond.cls = RX6 ∧ yX6_beyond.cls ≠ "java/lang/invoke/MethodHandle" ∧ yX6_beyond.cls ≠ "java/lang/invoke/VarHandle" ∧ (parseMethodDescriptor yX6_beyond.desc).map (fun d => d.parameters.length) = some 2 := by decide +kernel
theorem hd_Top_edgeEnd : yX6_edgeEnd.cls = RX6 ∧ yX6_edgeEnd.cls ≠ "java/lang/invoke/MethodHandle" ∧ yX6_edgeEnd.cls ≠ "java/lang/invoke/VarHandle" ∧ (parseMethodDescriptor yX6_edgeEnd.desc).map (fun d => d.parameters.length) = some 2 := by decide +kernel
theorem hd_Top_edgeBetween : yX6_edgeBetween.cls = RX6 ∧ yX6_edgeBetween.cls ≠ "java/lang/invoke/MethodHandle" ∧ yX6_edgeBetween.cls ≠ "java/lang/invoke/VarHandle" ∧ (parseMethodDescriptor yX6_edgeBetween.desc).map (fun d => d.parameters.length) = some 2 := by decide +kernel
theorem hd_Top_degree : yX6_degree.cls = RX6 ∧ yX6_degree.cls ≠ "java/lang/invoke/MethodHandle" ∧ yX6_degree.cls ≠ "java/lang/invoke/VarHandle" ∧ (parseMethodDescriptor yX6_degree.desc).map (fun d => d.parameters.length) = some 1 := by decide +kernel
theorem hd_Top_neighbour : yX6_neighbour.cls = RX6 ∧ yX6_neighbour.cls ≠ "java/lang/invoke/MethodHandle" ∧ yX6_neighbour.cls ≠ "java/lang/invoke/VarHandle" ∧ (parseMethodDescriptor yX6_neighbour.desc).map (fun d => d.parameters.length) = some 2 := by decide +kernel
theorem hd_Top_hullPoint : yX6_hullPoint.cls = RX6 ∧ yX6_hullPoint.cls ≠ "java/lang/invoke/MethodHandle" ∧ yX6_hullPoint.cls ≠ "java/lang/invoke/VarHandle" ∧ (parseMethodDescriptor yX6_hullPoint.desc).map (fun d => d.parameters.length) = some 1 := by decide +kernel
theorem hd_Top_twiceArea : yX6_twiceArea.cls = RX6 ∧ yX6_twiceArea.cls ≠ "java/lang/invoke/MethodHandle" ∧ yX6_twiceArea.cls ≠ "java/lang/invoke/VarHandle" ∧ (parseMethodDescriptor yX6_twiceArea.desc).map (fun d => d.parameters.length) = some 1 := by decide +kernel
theorem hd_Top_areaShare : yX6_areaShare.cls = RX6 ∧ yX6_areaShare.cls ≠ "java/lang/invoke/MethodHandle" ∧ yX6_areaShare.cls ≠ "java/lang/invoke/VarHandle" ∧ (parseMethodDescriptor yX6_areaShare.desc).map (fun d => d.parameters.length) = some 1 := by decide +kernel
theorem hd_Top_meanDegree : yX6_meanDegree.cls = RX6 ∧ yX6_meanDegree.cls ≠ "java/lang/invoke/MethodHandle" ∧ yX6_meanDegree.cls ≠ "java/lang/invoke/VarHandle" ∧ (parseMethodDescriptor yX6_meanDegree.desc).map (fun d => d.parameters.length) = some 0 := by decide +kernel
theorem hd_Top_squaredLength : yX6_squaredLength.cls = RX6 ∧ yX6_squaredLength.cls ≠ "java/lang/invoke/MethodHandle" ∧ yX6_squaredLength.cls ≠ "java/lang/invoke/VarHandle" ∧ (parseMethodDescriptor yX6_squaredLength.desc).map (fun d => d.parameters.length) = some 1 := by decide +kernel
theorem hd_Top_turn : yX6_turn.cls = RX6 ∧ yX6_turn.cls ≠ "java/lang/invoke/MethodHandle" ∧ yX6_turn.cls ≠ "java/lang/invoke/VarHandle" ∧ (parseMethodDescriptor yX6_turn.desc).map (fun d => d.parameters.length) = some 3 := by decide +kernel
theorem hd_Top_inCircle : yX6_inCircle.cls = RX6 ∧ yX6_inCircle.cls ≠ "java/lang/invoke/MethodHandle" ∧ yX6_inCircle.cls ≠ "java/lang/invoke/VarHandle" ∧ (parseMethodDescriptor yX6_inCircle.desc).map (fun d => d.parameters.length) = some 4 := by decide +kernel
theorem hd_Top_isGood : yX6_isGood.cls = RX6 ∧ yX6_isGood.cls ≠ "java/lang/invoke/MethodHandle" ∧ yX6_isGood.cls ≠ "java/lang/invoke/VarHandle" ∧ (parseMethodDescriptor yX6_isGood.desc).map (fun d => d.parameters.length) = some 1 := by decide +kernel
theorem hd_Top_kindAt : yX6_kindAt.cls = RX6 ∧ yX6_kindAt.cls ≠ "java/lang/invoke/MethodHandle" ∧ yX6_kindAt.cls ≠ "java/lang/invoke/VarHandle" ∧ (parseMethodDescriptor yX6_kindAt.desc).map (fun d => d.parameters.length) = some 2 := by decide +kernel
theorem hd_Top_numberAt : yX6_numberAt.cls = RX6 ∧ yX6_numberAt.cls ≠ "java/lang/invoke/MethodHandle" ∧ yX6_numberAt.cls ≠ "java/lang/invoke/VarHandle" ∧ (parseMethodDescriptor yX6_numberAt.desc).map (fun d => d.parameters.length) = some 2 := by decide +kernel
theorem hd_Top_walk : yX6_walk.cls = RX6 ∧ yX6_walk.cls ≠ "java/lang/invoke/MethodHandle" ∧ yX6_walk.cls ≠ "java/lang/invoke/VarHandle" ∧ (parseMethodDescriptor yX6_walk.desc).map (fun d => d.parameters.length) = some 4 := by decide +kernel
theorem hd_Top_cavity : yX6_cavity.cls = RX6 ∧ yX6_cavity.cls ≠ "java/lang/invoke/MethodHandle" ∧ yX6_cavity.cls ≠ "java/lang/invoke/VarHandle" ∧ (parseMethodDescriptor yX6_cavity.desc).map (fun d => d.parameters.length) = some 2 := by decide +kernel
theorem hd_Top_hole : yX6_hole.cls = RX6 ∧ yX6_hole.cls ≠ "java/lang/invoke/MethodHandle" ∧ yX6_hole.cls ≠ "java/lang/invoke/VarHandle" ∧ (parseMethodDescriptor yX6_hole.desc).map (fun d => d.parameters.length) = some 1 := by decide +kernel
theorem hd_Top_crossings : yX6_crossings.cls = RX6 ∧ yX6_crossings.cls ≠ "java/lang/invoke/MethodHandle" ∧ yX6_crossings.cls ≠ "java/lang/invoke/VarHandle" ∧ (parseMethodDescriptor yX6_crossings.desc).map (fun d => d.parameters.length) = some 2 := by decide +kernel
theorem hd_Top_effect : yX6_effect.cls = RX6 ∧ yX6_effect.cls ≠ "java/lang/invoke/MethodHandle" ∧ yX6_effect.cls ≠ "java/lang/invoke/VarHandle" ∧ (parseMethodDescriptor yX6_effect.desc).map (fun d => d.parameters.length) = some 1 := by decide +kernel
theorem hd_Top_undo : yX6_undo.cls = RX6 ∧ yX6_undo.cls ≠ "java/lang/invoke/MethodHandle" ∧ yX6_undo.cls ≠ "java/lang/invoke/VarHandle" ∧ (parseMethodDescriptor yX6_undo.desc).map (fun d => d.parameters.length) = some 0 := by decide +kernel
theorem hd_Top_restore : yX6_restore.cls = RX6 ∧ yX6_restore.cls ≠ "java/lang/invoke/MethodHandle" ∧ yX6_restore.cls ≠ "java/lang/invoke/VarHandle" ∧ (parseMethodDescriptor yX6_restore.desc).map (fun d => d.parameters.length) = some 0 := by decide +kernel
theorem hd_Top_pointCount : yX6_pointCount.cls = RX6 ∧ yX6_pointCount.cls ≠ "java/lang/invoke/MethodHandle" ∧ yX6_pointCount.cls ≠ "java/lang/invoke/VarHandle" ∧ (parseMethodDescriptor yX6_pointCount.desc).map (fun d => d.parameters.length) = some 0 := by decide +kernel
theorem hd_Top_constraintCount : yX6_constraintCount.cls = RX6 ∧ yX6_constraintCount.cls ≠ "java/lang/invoke/MethodHandle" ∧ yX6_constraintCount.cls ≠ "java/lang/invoke/VarHandle" ∧ (parseMethodDescriptor yX6_constraintCount.desc).map (fun d => d.parameters.length) = some 0 := by decide +kernel
theorem hd_Law_state : yL_state.cls = RL ∧ yL_state.cls ≠ "java/lang/invoke/MethodHandle" ∧ yL_state.cls ≠ "java/lang/invoke/VarHandle" ∧ (parseMethodDescriptor yL_state.desc).map (fun d => d.parameters.length) = some 1 := by decide +kernel
theorem hd_Top_triangleCount : yX6_triangleCount.cls = RX6 ∧ yX6_triangleCount.cls ≠ "java/lang/invoke/MethodHandle" ∧ yX6_triangleCount.cls ≠ "java/lang/invoke/VarHandle" ∧ (parseMethodDescriptor yX6_triangleCount.desc).map (fun d => d.parameters.length) = some 0 := by decide +kernel
theorem hd_Top_edgeCount : yX6_edgeCount.cls = RX6 ∧ yX6_edgeCount.cls ≠ "java/lang/invoke/MethodHandle" ∧ yX6_edgeCount.cls ≠ "java/lang/invoke/VarHandle" ∧ (parseMethodDescriptor yX6_edgeCount.desc).map (fun d => d.parameters.length) = some 0 := by decide +kernel
theorem hd_Top_hullSize : yX6_hullSize.cls = RX6 ∧ yX6_hullSize.cls ≠ "java/lang/invoke/MethodHandle" ∧ yX6_hullSize.cls ≠ "java/lang/invoke/VarHandle" ∧ (parseMethodDescriptor yX6_hullSize.desc).map (fun d => d.parameters.length) = some 0 := by decide +kernel
theorem hd_Top_forcedConstraints : yX6_forcedConstraints.cls = RX6 ∧ yX6_forcedConstraints.cls ≠ "java/lang/invoke/MethodHandle" ∧ yX6_forcedConstraints.cls ≠ "java/lang/invoke/VarHandle" ∧ (parseMethodDescriptor yX6_forcedConstraints.desc).map (fun d => d.parameters.length) = some 0 := by decide +kernel
theorem hd_Law_some : yL_some.cls = RL ∧ yL_some.cls ≠ "java/lang/invoke/MethodHandle" ∧ yL_some.cls ≠ "java/lang/invoke/VarHandle" ∧ (parseMethodDescriptor yL_some.desc).map (fun d => d.parameters.length) = some 2 := by decide +kernel
theorem hd_Law_asks : yL_asks.cls = RL ∧ yL_asks.cls ≠ "java/lang/invoke/MethodHandle" ∧ yL_asks.cls ≠ "java/lang/invoke/VarHandle" ∧ (parseMethodDescriptor yL_asks.desc).map (fun d => d.parameters.length) = some 1 := by decide +kernel
theorem hd_Top_readInput : yX6_readInput.cls = RX6 ∧ yX6_readInput.cls ≠ "java/lang/invoke/MethodHandle" ∧ yX6_readInput.cls ≠ "java/lang/invoke/VarHandle" ∧ (parseMethodDescriptor yX6_readInput.desc).map (fun d => d.parameters.length) = some 0 := by decide +kernel
theorem hd_Law_does : yL_does.cls = RL ∧ yL_does.cls ≠ "java/lang/invoke/MethodHandle" ∧ yL_does.cls ≠ "java/lang/invoke/VarHandle" ∧ (parseMethodDescriptor yL_does.desc).map (fun d => d.parameters.length) = some 2 := by decide +kernel
theorem hd_Law_refused : yL_refused.cls = RL ∧ yL_refused.cls ≠ "java/lang/invoke/MethodHandle" ∧ yL_refused.cls ≠ "java/lang/invoke/VarHandle" ∧ (parseMethodDescriptor yL_refused.desc).map (fun d => d.parameters.length) = some 1 := by decide +kernel
theorem hd_Top_save : yX6_save.cls = RX6 ∧ yX6_save.cls ≠ "java/lang/invoke/MethodHandle" ∧ yX6_save.cls ≠ "java/lang/invoke/VarHandle" ∧ (parseMethodDescriptor yX6_save.desc).map (fun d => d.parameters.length) = some 0 := by decide +kernel
theorem g_Law_7 : GoodIn wT (wsV RL 7 RX6 yX6_addPoint (wsM yX6_addPoint cX6_addPoint 3 (some .int))) := gV qm_Law_7 qi_Top_addPoint qs_Top_addPoint qn_Top qc_Top_addPoint
theorem g_Law_19 : GoodIn wT (wsV RL 19 RX6 yX6_removePoint (wsM yX6_removePoint cX6_removePoint 2 (some .int))) := gV qm_Law_19 qi_Top_removePoint qs_Top_removePoint qn_Top qc_Top_removePoint
theorem g_Law_25 : GoodIn wT (wsV RL 25 RX6 yX6_movePoint (wsM yX6_movePoint cX6_movePoint 5 (some .boolean))) := gV qm_Law_25 qi_Top_movePoint qs_Top_movePoint qn_Top qc_Top_movePoint
theorem g_Law_29 : GoodIn wT (wsV RL 29 RX6 yX6_coordinate (wsM yX6_coordinate cX6_coordinate 3 (some .int))) := gV qm_Law_29 qi_Top_coordinate qs_Top_coordinate qn_Top qc_Top_coordinate
theorem g_Law_32 : GoodIn wT (wsV RL 32 RX6 yX6_addConstraint (wsM yX6_addConstraint cX6_addConstraint 3 (some .int))) := gV qm_Law_32 qi_Top_addConstraint qs_Top_addConstraint qn_Top qc_Top_addConstraint
theorem g_Law_35 : GoodIn wT (wsV RL 35 RX6 yX6_removeConstraint (wsM yX6_removeConstraint cX6_removeConstraint 2 (some .int))) := gV qm_Law_35 qi_Top_removeConstraint qs_Top_removeConstraint qn_Top qc_Top_removeConstraint
theorem g_Law_38 : GoodIn wT (wsV RL 38 RX6 yX6_constraintEnd (wsM yX6_constraintEnd cX6_constraintEnd 3 (some .int))) := gV qm_Law_38 qi_Top_constraintEnd qs_Top_constraintEnd qn_Top qc_Top_constraintEnd
theorem g_Law_63 : GoodIn wT (wsV RL 63 RX6 yX6_corner (wsM yX6_corner cX6_corner 3 (some .int))) := gV qm_Law_63 qi_Top_corner qs_Top_corner qn_Top qc_Top_corner
theorem g_Law_66 : GoodIn wT (wsV RL 66 RX6 yX6_beyond (wsM yX6_beyond cX6_beyond 3 (some .int))) := gV qm_Law_66 qi_Top_beyond qs_Top_beyond qn_Top qc_Top_beyond
theorem g_Law_69 : GoodIn wT (wsV RL 69 RX6 yX6_edgeEnd (wsM yX6_edgeEnd cX6_edgeEnd 3 (some .int))) := gV qm_Law_69 qi_Top_edgeEnd qs_Top_edgeEnd qn_Top qc_Top_edgeEnd
theorem g_Law_72 : GoodIn wT (wsV RL 72 RX6 yX6_edgeBetween (wsM yX6_edgeBetween cX6_edgeBetween 4 (some .int))) := gV qm_Law_72 qi_Top_edgeBetween qs_Top_edgeBetween qn_Top qc_Top_edgeBetween
theorem g_Law_77 : GoodIn wT (wsV RL 77 RX6 yX6_degree (wsM yX6_degree cX6_degree 2 (some .int))) := gV qm_Law_77 qi_Top_degree qs_Top_degree qn_Top qc_Top_degree
theorem g_Law_80 : GoodIn wT (wsV RL 80 RX6 yX6_neighbour (wsM yX6_neighbour cX6_neighbour 3 (some .int))) := gV qm_Law_80 qi_Top_neighbour qs_Top_neighbour qn_Top qc_Top_neighbour
theorem g_Law_83 : GoodIn wT (wsV RL 83 RX6 yX6_hullPoint (wsM yX6_hullPoint cX6_hullPoint 2 (some .int))) := gV qm_Law_83 qi_Top_hullPoint qs_Top_hullPoint qn_Top qc_Top_hullPoint
theorem g_Law_86 : GoodIn wT (wsV RL 86 RX6 yX6_twiceArea (wsM yX6_twiceArea cX6_twiceArea 2 (some .int))) := gV qm_Law_86 qi_Top_twiceArea qs_Top_twiceArea qn_Top qc_Top_twiceArea
theorem g_Law_89 : GoodIn wT (wsV RL 89 RX6 yX6_areaShare (wsM yX6_areaShare cX6_areaShare 3 (some .double))) := gV qm_Law_89 qi_Top_areaShare qs_Top_areaShare qn_Top qc_Top_areaShare
theorem g_Law_95 : GoodIn wT (wsV RL 95 RX6 yX6_meanDegree (wsM yX6_meanDegree cX6_meanDegree 2 (some .double))) := gV qm_Law_95 qi_Top_meanDegree qs_Top_meanDegree qn_Top qc_Top_meanDegree
theorem g_Law_99 : GoodIn wT (wsV RL 99 RX6 yX6_squaredLength (wsM yX6_squaredLength cX6_squaredLength 2 (some .int))) := gV qm_Law_99 qi_Top_squaredLength qs_Top_squaredLength qn_Top qc_Top_squaredLength
theorem g_Law_102 : GoodIn wT (wsV RL 102 RX6 yX6_turn (wsM yX6_turn cX6_turn 4 (some .int))) := gV qm_Law_102 qi_Top_turn qs_Top_turn qn_Top qc_Top_turn
theorem g_Law_106 : GoodIn wT (wsV RL 106 RX6 yX6_inCircle (wsM yX6_inCircle cX6_inCircle 5 (some .int))) := gV qm_Law_106 qi_Top_inCircle qs_Top_inCircle qn_Top qc_Top_inCircle
theorem g_Law_112 : GoodIn wT (wsV RL 112 RX6 yX6_isGood (wsM yX6_isGood cX6_isGood 4 (some .boolean))) := gV qm_Law_112 qi_Top_isGood qs_Top_isGood qn_Top qc_Top_isGood
theorem g_Law_116 : GoodIn wT (wsV RL 116 RX6 yX6_kindAt (wsM yX6_kindAt cX6_kindAt 3 (some .int))) := gV qm_Law_116 qi_Top_kindAt qs_Top_kindAt qn_Top qc_Top_kindAt
theorem g_Law_119 : GoodIn wT (wsV RL 119 RX6 yX6_numberAt (wsM yX6_numberAt cX6_numberAt 3 (some .int))) := gV qm_Law_119 qi_Top_numberAt qs_Top_numberAt qn_Top qc_Top_numberAt
theorem g_Law_122 : GoodIn wT (wsV RL 122 RX6 yX6_walk (wsM yX6_walk cX6_walk 9 (some .int))) := gV qm_Law_122 qi_Top_walk qs_Top_walk qn_Top qc_Top_walk
theorem g_Law_126 : GoodIn wT (wsV RL 126 RX6 yX6_cavity (wsM yX6_cavity cX6_cavity 5 (some .int))) := gV qm_Law_126 qi_Top_cavity qs_Top_cavity qn_Top qc_Top_cavity
theorem g_Law_129 : GoodIn wT (wsV RL 129 RX6 yX6_hole (wsM yX6_hole cX6_hole 7 (some .int))) := gV qm_Law_129 qi_Top_hole qs_Top_hole qn_Top qc_Top_hole
theorem g_Law_132 : GoodIn wT (wsV RL 132 RX6 yX6_crossings (wsM yX6_crossings cX6_crossings 5 (some .int))) := gV qm_Law_132 qi_Top_crossings qs_Top_crossings qn_Top qc_Top_crossings
theorem g_Law_135 : GoodIn wT (wsV RL 135 RX6 yX6_effect (wsM yX6_effect cX6_effect 4 (some .int))) := gV qm_Law_135 qi_Top_effect qs_Top_effect qn_Top qc_Top_effect
theorem g_Law_138 : GoodIn wT (wsV RL 138 RX6 yX6_undo (wsM yX6_undo cX6_undo 1 (some .int))) := gV qm_Law_138 qi_Top_undo qs_Top_undo qn_Top qc_Top_undo
theorem g_Law_141 : GoodIn wT (wsV RL 141 RX6 yX6_restore (wsM yX6_restore cX6_restore 1 (some .int))) := gV qm_Law_141 qi_Top_restore qs_Top_restore qn_Top qc_Top_restore
theorem g_Law_146 : GoodIn wT (wsV RL 146 RX6 yX6_pointCount (wsM yX6_pointCount cX6_pointCount 1 (some .int))) := gV qm_Law_146 qi_Top_pointCount qs_Top_pointCount qn_Top qc_Top_pointCount
theorem g_Law_149 : GoodIn wT (wsV RL 149 RX6 yX6_constraintCount (wsM yX6_constraintCount cX6_constraintCount 1 (some .int))) := gV qm_Law_149 qi_Top_constraintCount qs_Top_constraintCount qn_Top qc_Top_constraintCount
theorem g_Law_158 : GoodIn wT (wsS RL 158 yL_state (wsM yL_state cL_state 4 (some .long))) := gS qm_Law_158 qt_Law_state qn_Law qc_Law_state
theorem g_Law_162 : GoodIn wT (wsV RL 162 RX6 yX6_triangleCount (wsM yX6_triangleCount cX6_triangleCount 1 (some .int))) := gV qm_Law_162 qi_Top_triangleCount qs_Top_triangleCount qn_Top qc_Top_triangleCount
theorem g_Law_165 : GoodIn wT (wsV RL 165 RX6 yX6_edgeCount (wsM yX6_edgeCount cX6_edgeCount 1 (some .int))) := gV qm_Law_165 qi_Top_edgeCount qs_Top_edgeCount qn_Top qc_Top_edgeCount
theorem g_Law_168 : GoodIn wT (wsV RL 168 RX6 yX6_hullSize (wsM yX6_hullSize cX6_hullSize 1 (some .int))) := gV qm_Law_168 qi_Top_hullSize qs_Top_hullSize qn_Top qc_Top_hullSize
theorem g_Law_201 : GoodIn wT (wsV RL 201 RX6 yX6_forcedConstraints (wsM yX6_forcedConstraints cX6_forcedConstraints 5 (some .int))) := gV qm_Law_201 qi_Top_forcedConstraints qs_Top_forcedConstraints qn_Top qc_Top_forcedConstraints
theorem g_Law_210 : GoodIn wT (wsS RL 210 yL_some (wsM yL_some cL_some 3 (some .int))) := gS qm_Law_210 qt_Law_some qn_Law qc_Law_some
theorem g_Law_237 : GoodIn wT (wsS RL 237 yL_asks (wsM yL_asks cL_asks 5 (some .long))) := gS qm_Law_237 qt_Law_asks qn_Law qc_Law_asks
theorem g_Law_60 : GoodIn wT (wsV RL 60 RX6 yX6_readInput (wsM yX6_readInput cX6_readInput 3 (some .int))) := gV qm_Law_60 qi_Top_readInput qs_Top_readInput qn_Top qc_Top_readInput
theorem g_Law_269 : GoodIn wT (wsS RL 269 yL_at (wsM yL_at cL_at 2 (some .int))) := gS qm_Law_269 qt_Law_at qn_Law qc_Law_at
theorem g_Law_273 : GoodIn wT (wsS RL 273 yL_does (wsM yL_does cL_does 9 (some .int))) := gS qm_Law_273 qt_Law_does qn_Law qc_Law_does
theorem g_Law_276 : GoodIn wT (wsS RL 276 yL_refused (wsM yL_refused cL_refused 6 (some .boolean))) := gS qm_Law_276 qt_Law_refused qn_Law qc_Law_refused
theorem g_Law_280 : GoodIn wT (wsV RL 280 RX6 yX6_save (wsM yX6_save cX6_save 1 (some .int))) := gV qm_Law_280 qi_Top_save qs_Top_save qn_Top qc_Top_save
