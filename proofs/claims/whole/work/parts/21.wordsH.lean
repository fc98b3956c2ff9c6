theorem qm_Law_7 : Cond.methodLink RL 7 yX6_addPoint ∈ wT := wT_t 550 (by decide +kernel) rfl
theorem qi_Top_addPoint : Cond.instanceMethod yX6_addPoint ∈ wT := wT_t 551 (by decide +kernel) rfl
theorem qs_Top_addPoint : Cond.selects RX6 yX6_addPoint yX6_addPoint ∈ wT := wT_t 552 (by decide +kernel) rfl
theorem qc_Top_addPoint : Cond.code yX6_addPoint cX6_addPoint 3 (some .int) ∈ wT := wT_t 553 (by decide +kernel) rfl
theorem ql_Law_13 : Cond.classLink RL 13 "java/lang/IllegalArgumentException" ∈ wT := wT_t 547 (by decide +kernel) rfl
theorem qb_IAE : Cond.castable "java/lang/IllegalArgumentException" "java/lang/IllegalArgumentException" ∈ wB := by decide +kernel
theorem ql_Law_15 : Cond.classLink RL 15 "java/lang/IllegalStateException" ∈ wT := wT_t 548 (by decide +kernel) rfl
theorem qb_ISE : Cond.castable "java/lang/IllegalStateException" "java/lang/IllegalStateException" ∈ wB := by decide +kernel
theorem ql_Law_17 : Cond.classLink RL 17 "java/lang/UnsupportedOperationException" ∈ wT := wT_t 549 (by decide +kernel) rfl
theorem qb_UOE : Cond.castable "java/lang/UnsupportedOperationException" "java/lang/UnsupportedOperationException" ∈ wB := by decide +kernel
theorem qc_Law_addPoint : Cond.codeWith yL_addPoint cL_addPoint 5 (some .int) [(0, 10, 13, 13), (0, 10, 17, 15), (0, 10, 21, 17)] ∈ wT := wT_t 546 (by decide +kernel) rfl
theorem qm_Law_19 : Cond.methodLink RL 19 yX6_removePoint ∈ wT := wT_t 693 (by decide +kernel) rfl
theorem qi_Top_removePoint : Cond.instanceMethod yX6_removePoint ∈ wT := wT_t 694 (by decide +kernel) rfl
theorem qs_Top_removePoint : Cond.selects RX6 yX6_removePoint yX6_removePoint ∈ wT := wT_t 695 (by decide +kernel) rfl
theorem qc_Top_removePoint : Cond.code yX6_removePoint cX6_removePoint 2 (some .int) ∈ wT := wT_t 696 (by decide +kernel) rfl
theorem ql_Law_23 : Cond.classLink RL 23 "java/lang/IndexOutOfBoundsException" ∈ wT := wT_t 669 (by decide +kernel) rfl
theorem qb_IOB : Cond.castable "java/lang/IndexOutOfBoundsException" "java/lang/IndexOutOfBoundsException" ∈ wB := by decide +kernel
theorem qc_Law_removePoint : Cond.codeWith yL_removePoint cL_removePoint 4 (some .int) [(0, 9, 12, 23), (0, 9, 15, 15)] ∈ wT := wT_t 668 (by decide +kernel) rfl
theorem qm_Law_25 : Cond.methodLink RL 25 yX6_movePoint ∈ wT := wT_t 737 (by decide +kernel) rfl
theorem qi_Top_movePoint : Cond.instanceMethod yX6_movePoint ∈ wT := wT_t 738 (by decide +kernel) rfl
theorem qs_Top_movePoint : Cond.selects RX6 yX6_movePoint yX6_movePoint ∈ wT := wT_t 739 (by decide +kernel) rfl
theorem qc_Top_movePoint : Cond.code yX6_movePoint cX6_movePoint 5 (some .boolean) ∈ wT := wT_t 740 (by decide +kernel) rfl
theorem qc_Law_movePoint : Cond.codeWith yL_movePoint cL_movePoint 6 (some .int) [(0, 19, 22, 23), (0, 19, 26, 13), (0, 19, 30, 15), (0, 19, 34, 17)] ∈ wT := wT_t 736 (by decide +kernel) rfl
theorem qm_Law_29 : Cond.methodLink RL 29 yX6_coordinate ∈ wT := wT_t 747 (by decide +kernel) rfl
theorem qi_Top_coordinate : Cond.instanceMethod yX6_coordinate ∈ wT := wT_t 748 (by decide +kernel) rfl
theorem qs_Top_coordinate : Cond.selects RX6 yX6_coordinate yX6_coordinate ∈ wT := wT_t 749 (by decide +kernel) rfl
theorem qc_Top_coordinate : Cond.code yX6_coordinate cX6_coordinate 3 (some .int) ∈ wT := wT_t 750 (by decide +kernel) rfl
theorem qc_Law_coordinate : Cond.codeWith yL_coordinate cL_coordinate 5 (some .int) [(0, 10, 13, 23), (0, 10, 17, 13)] ∈ wT := wT_t 746 (by decide +kernel) rfl
theorem qm_Law_32 : Cond.methodLink RL 32 yX6_addConstraint ∈ wT := wT_t 767 (by decide +kernel) rfl
theorem qi_Top_addConstraint : Cond.instanceMethod yX6_addConstraint ∈ wT := wT_t 768 (by decide +kernel) rfl
theorem qs_Top_addConstraint : Cond.selects RX6 yX6_addConstraint yX6_addConstraint ∈ wT := wT_t 769 (by decide +kernel) rfl
theorem qc_Top_addConstraint : Cond.code yX6_addConstraint cX6_addConstraint 3 (some .int) ∈ wT := wT_t 770 (by decide +kernel) rfl
theorem qc_Law_addConstraint : Cond.codeWith yL_addConstraint cL_addConstraint 5 (some .int) [(0, 10, 13, 23), (0, 10, 17, 13), (0, 10, 21, 15), (0, 10, 25, 17)] ∈ wT := wT_t 766 (by decide +kernel) rfl
theorem qm_Law_35 : Cond.methodLink RL 35 yX6_removeConstraint ∈ wT := wT_t 781 (by decide +kernel) rfl
theorem qi_Top_removeConstraint : Cond.instanceMethod yX6_removeConstraint ∈ wT := wT_t 782 (by decide +kernel) rfl
theorem qs_Top_removeConstraint : Cond.selects RX6 yX6_removeConstraint yX6_removeConstraint ∈ wT := wT_t 783 (by decide +kernel) rfl
theorem qc_Top_removeConstraint : Cond.code yX6_removeConstraint cX6_removeConstraint 2 (some .int) ∈ wT := wT_t 784 (by decide +kernel) rfl
theorem qc_Law_removeConstraint : Cond.codeWith yL_removeConstraint cL_removeConstraint 4 (some .int) [(0, 9, 12, 23)] ∈ wT := wT_t 780 (by decide +kernel) rfl
theorem qm_Law_38 : Cond.methodLink RL 38 yX6_constraintEnd ∈ wT := wT_t 797 (by decide +kernel) rfl
theorem qi_Top_constraintEnd : Cond.instanceMethod yX6_constraintEnd ∈ wT := wT_t 798 (by decide +kernel) rfl
theorem qs_Top_constraintEnd : Cond.selects RX6 yX6_constraintEnd yX6_constraintEnd ∈ wT := wT_t 799 (by decide +kernel) rfl
theorem qc_Top_constraintEnd : Cond.code yX6_constraintEnd cX6_constraintEnd 3 (some .int) ∈ wT := wT_t 800 (by decide +kernel) rfl
theorem qc_Law_constraintEnd : Cond.codeWith yL_constraintEnd cL_constraintEnd 5 (some .int) [(0, 10, 13, 23), (0, 10, 17, 13)] ∈ wT := wT_t 796 (by decide +kernel) rfl
theorem qm_Law_41 : Cond.methodLink RL 41 yX6_feed ∈ wT := wT_t 804 (by decide +kernel) rfl
theorem qi_Top_feed : Cond.instanceMethod yX6_feed ∈ wT := wT_t 805 (by decide +kernel) rfl
theorem qs_Top_feed : Cond.selects RX6 yX6_feed yX6_feed ∈ wT := wT_t 806 (by decide +kernel) rfl
theorem qc_Top_feed : Cond.code yX6_feed cX6_feed 2 (some .int) ∈ wT := wT_t 807 (by decide +kernel) rfl
theorem qc_Law_feed : Cond.codeWith yL_feed cL_feed 4 (some .int) [(0, 9, 12, 15)] ∈ wT := wT_t 803 (by decide +kernel) rfl
theorem qm_Law_45 : Cond.methodLink RL 45 yX6_corner ∈ wT := wT_t 820 (by decide +kernel) rfl
theorem qi_Top_corner : Cond.instanceMethod yX6_corner ∈ wT := wT_t 821 (by decide +kernel) rfl
theorem qs_Top_corner : Cond.selects RX6 yX6_corner yX6_corner ∈ wT := wT_t 822 (by decide +kernel) rfl
theorem qc_Top_corner : Cond.code yX6_corner cX6_corner 3 (some .int) ∈ wT := wT_t 823 (by decide +kernel) rfl
theorem qc_Law_corner : Cond.codeWith yL_corner cL_corner 5 (some .int) [(0, 10, 13, 23), (0, 10, 17, 13)] ∈ wT := wT_t 819 (by decide +kernel) rfl
theorem qm_Law_48 : Cond.methodLink RL 48 yX6_beyond ∈ wT := wT_t 841 (by decide +kernel) rfl
theorem qi_Top_beyond : Cond.instanceMethod yX6_beyond ∈ wT := wT_t 842 (by decide +kernel) rfl
theorem qs_Top_beyond : Cond.selects RX6 yX6_beyond yX6_beyond ∈ wT := wT_t 843 (by decide +kernel) rfl
theorem qc_Top_beyond : Cond.code yX6_beyond cX6_beyond 3 (some .int) ∈ wT := wT_t 844 (by decide +kernel) rfl
theorem qc_Law_beyond : Cond.codeWith yL_beyond cL_beyond 5 (some .int) [(0, 10, 13, 23), (0, 10, 17, 13)] ∈ wT := wT_t 840 (by decide +kernel) rfl
theorem qm_Law_51 : Cond.methodLink RL 51 yX6_edgeEnd ∈ wT := wT_t 857 (by decide +kernel) rfl
theorem qi_Top_edgeEnd : Cond.instanceMethod yX6_edgeEnd ∈ wT := wT_t 858 (by decide +kernel) rfl
theorem qs_Top_edgeEnd : Cond.selects RX6 yX6_edgeEnd yX6_edgeEnd ∈ wT := wT_t 859 (by decide +kernel) rfl
theorem qc_Top_edgeEnd : Cond.code yX6_edgeEnd cX6_edgeEnd 3 (some .int) ∈ wT := wT_t 860 (by decide +kernel) rfl
theorem qc_Law_edgeEnd : Cond.codeWith yL_edgeEnd cL_edgeEnd 5 (some .int) [(0, 10, 13, 23), (0, 10, 17, 13)] ∈ wT := wT_t 856 (by decide +kernel) rfl
theorem qm_Law_54 : Cond.methodLink RL 54 yX6_edgeBetween ∈ wT := wT_t 878 (by decide +kernel) rfl
theorem qi_Top_edgeBetween : Cond.instanceMethod yX6_edgeBetween ∈ wT := wT_t 879 (by decide +kernel) rfl
theorem qs_Top_edgeBetween : Cond.selects RX6 yX6_edgeBetween yX6_edgeBetween ∈ wT := wT_t 880 (by decide +kernel) rfl
theorem qc_Top_edgeBetween : Cond.code yX6_edgeBetween cX6_edgeBetween 4 (some .int) ∈ wT := wT_t 881 (by decide +kernel) rfl
theorem ql_Law_57 : Cond.classLink RL 57 "java/util/NoSuchElementException" ∈ wT := wT_t 877 (by decide +kernel) rfl
theorem qb_NSE : Cond.castable "java/util/NoSuchElementException" "java/util/NoSuchElementException" ∈ wB := by decide +kernel
theorem qc_Law_edgeBetween : Cond.codeWith yL_edgeBetween cL_edgeBetween 5 (some .int) [(0, 10, 13, 23), (0, 10, 17, 57)] ∈ wT := wT_t 876 (by decide +kernel) rfl
theorem qm_Law_59 : Cond.methodLink RL 59 yX6_degree ∈ wT := wT_t 906 (by decide +kernel) rfl
theorem qi_Top_degree : Cond.instanceMethod yX6_degree ∈ wT := wT_t 907 (by decide +kernel) rfl
theorem qs_Top_degree : Cond.selects RX6 yX6_degree yX6_degree ∈ wT := wT_t 908 (by decide +kernel) rfl
theorem qc_Top_degree : Cond.code yX6_degree cX6_degree 2 (some .int) ∈ wT := wT_t 909 (by decide +kernel) rfl
theorem qc_Law_degree : Cond.codeWith yL_degree cL_degree 4 (some .int) [(0, 9, 12, 23)] ∈ wT := wT_t 905 (by decide +kernel) rfl
theorem qm_Law_62 : Cond.methodLink RL 62 yX6_neighbour ∈ wT := wT_t 923 (by decide +kernel) rfl
theorem qi_Top_neighbour : Cond.instanceMethod yX6_neighbour ∈ wT := wT_t 924 (by decide +kernel) rfl
theorem qs_Top_neighbour : Cond.selects RX6 yX6_neighbour yX6_neighbour ∈ wT := wT_t 925 (by decide +kernel) rfl
theorem qc_Top_neighbour : Cond.code yX6_neighbour cX6_neighbour 3 (some .int) ∈ wT := wT_t 926 (by decide +kernel) rfl
theorem qc_Law_neighbour : Cond.codeWith yL_neighbour cL_neighbour 5 (some .int) [(0, 10, 13, 23), (0, 10, 17, 57)] ∈ wT := wT_t 922 (by decide +kernel) rfl
theorem qm_Law_65 : Cond.methodLink RL 65 yX6_hullPoint ∈ wT := wT_t 935 (by decide +kernel) rfl
theorem qi_Top_hullPoint : Cond.instanceMethod yX6_hullPoint ∈ wT := wT_t 936 (by decide +kernel) rfl
theorem qs_Top_hullPoint : Cond.selects RX6 yX6_hullPoint yX6_hullPoint ∈ wT := wT_t 937 (by decide +kernel) rfl
theorem qc_Top_hullPoint : Cond.code yX6_hullPoint cX6_hullPoint 2 (some .int) ∈ wT := wT_t 938 (by decide +kernel) rfl
theorem qc_Law_hullPoint : Cond.codeWith yL_hullPoint cL_hullPoint 4 (some .int) [(0, 9, 12, 23)] ∈ wT := wT_t 934 (by decide +kernel) rfl
theorem qm_Law_68 : Cond.methodLink RL 68 yX6_twiceArea ∈ wT := wT_t 946 (by decide +kernel) rfl
theorem qi_Top_twiceArea : Cond.instanceMethod yX6_twiceArea ∈ wT := wT_t 947 (by decide +kernel) rfl
theorem qs_Top_twiceArea : Cond.selects RX6 yX6_twiceArea yX6_twiceArea ∈ wT := wT_t 948 (by decide +kernel) rfl
theorem qc_Top_twiceArea : Cond.code yX6_twiceArea cX6_twiceArea 2 (some .int) ∈ wT := wT_t 949 (by decide +kernel) rfl
theorem qc_Law_twiceArea : Cond.codeWith yL_twiceArea cL_twiceArea 4 (some .int) [(0, 9, 12, 23)] ∈ wT := wT_t 945 (by decide +kernel) rfl
theorem qm_Law_71 : Cond.methodLink RL 71 yX6_areaShare ∈ wT := wT_t 960 (by decide +kernel) rfl
theorem qi_Top_areaShare : Cond.instanceMethod yX6_areaShare ∈ wT := wT_t 961 (by decide +kernel) rfl
theorem qs_Top_areaShare : Cond.selects RX6 yX6_areaShare yX6_areaShare ∈ wT := wT_t 962 (by decide +kernel) rfl
theorem qc_Top_areaShare : Cond.code yX6_areaShare cX6_areaShare 3 (some .double) ∈ wT := wT_t 963 (by decide +kernel) rfl
theorem qc_Law_areaShare : Cond.codeWith yL_areaShare cL_areaShare 4 (some .int) [(0, 8, 11, 23)] ∈ wT := wT_t 959 (by decide +kernel) rfl
theorem qm_Law_75 : Cond.methodLink RL 75 yX6_meanDegree ∈ wT := wT_t 972 (by decide +kernel) rfl
theorem qi_Top_meanDegree : Cond.instanceMethod yX6_meanDegree ∈ wT := wT_t 973 (by decide +kernel) rfl
theorem qs_Top_meanDegree : Cond.selects RX6 yX6_meanDegree yX6_meanDegree ∈ wT := wT_t 974 (by decide +kernel) rfl
theorem qc_Top_meanDegree : Cond.code yX6_meanDegree cX6_meanDegree 2 (some .double) ∈ wT := wT_t 975 (by decide +kernel) rfl
theorem qc_Law_meanDegree : Cond.codeWith yL_meanDegree cL_meanDegree 3 (some .int) [(0, 7, 10, 57)] ∈ wT := wT_t 971 (by decide +kernel) rfl
theorem qm_Law_79 : Cond.methodLink RL 79 yX6_squaredLength ∈ wT := wT_t 980 (by decide +kernel) rfl
theorem qi_Top_squaredLength : Cond.instanceMethod yX6_squaredLength ∈ wT := wT_t 981 (by decide +kernel) rfl
theorem qs_Top_squaredLength : Cond.selects RX6 yX6_squaredLength yX6_squaredLength ∈ wT := wT_t 982 (by decide +kernel) rfl
theorem qc_Top_squaredLength : Cond.code yX6_squaredLength cX6_squaredLength 2 (some .int) ∈ wT := wT_t 983 (by decide +kernel) rfl
theorem qc_Law_squaredLength : Cond.codeWith yL_squaredLength cL_squaredLength 4 (some .int) [(0, 9, 12, 13), (0, 9, 15, 57)] ∈ wT := wT_t 979 (by decide +kernel) rfl
theorem qm_Law_82 : Cond.methodLink RL 82 yX6_turn ∈ wT := wT_t 1010 (by decide +kernel) rfl
theorem qi_Top_turn : Cond.instanceMethod yX6_turn ∈ wT := wT_t 1011 (by decide +kernel) rfl
theorem qs_Top_turn : Cond.selects RX6 yX6_turn yX6_turn ∈ wT := wT_t 1012 (by decide +kernel) rfl
theorem qc_Top_turn : Cond.code yX6_turn cX6_turn 4 (some .int) ∈ wT := wT_t 1013 (by decide +kernel) rfl
theorem qc_Law_turn : Cond.codeWith yL_turn cL_turn 6 (some .int) [(0, 12, 15, 23)] ∈ wT := wT_t 1009 (by decide +kernel) rfl
theorem qm_Law_86 : Cond.methodLink RL 86 yX6_inCircle ∈ wT := wT_t 1032 (by decide +kernel) rfl
theorem qi_Top_inCircle : Cond.instanceMethod yX6_inCircle ∈ wT := wT_t 1033 (by decide +kernel) rfl
theorem qs_Top_inCircle : Cond.selects RX6 yX6_inCircle yX6_inCircle ∈ wT := wT_t 1034 (by decide +kernel) rfl
theorem qc_Top_inCircle : Cond.code yX6_inCircle cX6_inCircle 5 (some .int) ∈ wT := wT_t 1035 (by decide +kernel) rfl
theorem ql_Law_90 : Cond.classLink RL 90 "java/lang/ArithmeticException" ∈ wT := wT_t 1018 (by decide +kernel) rfl
theorem qb_ARE : Cond.castable "java/lang/ArithmeticException" "java/lang/ArithmeticException" ∈ wB := by decide +kernel
theorem qc_Law_inCircle : Cond.codeWith yL_inCircle cL_inCircle 7 (some .int) [(0, 14, 17, 23), (0, 14, 21, 90)] ∈ wT := wT_t 1017 (by decide +kernel) rfl
theorem qm_Law_92 : Cond.methodLink RL 92 yX6_isGood ∈ wT := wT_t 1043 (by decide +kernel) rfl
theorem qi_Top_isGood : Cond.instanceMethod yX6_isGood ∈ wT := wT_t 1044 (by decide +kernel) rfl
theorem qs_Top_isGood : Cond.selects RX6 yX6_isGood yX6_isGood ∈ wT := wT_t 1045 (by decide +kernel) rfl
theorem qc_Top_isGood : Cond.code yX6_isGood cX6_isGood 4 (some .boolean) ∈ wT := wT_t 1046 (by decide +kernel) rfl
theorem qc_Law_isGood : Cond.codeWith yL_isGood cL_isGood 4 (some .int) [(0, 16, 19, 23), (0, 16, 22, 17)] ∈ wT := wT_t 1042 (by decide +kernel) rfl
theorem qm_Law_96 : Cond.methodLink RL 96 yX6_kindAt ∈ wT := wT_t 1051 (by decide +kernel) rfl
theorem qi_Top_kindAt : Cond.instanceMethod yX6_kindAt ∈ wT := wT_t 1052 (by decide +kernel) rfl
theorem qs_Top_kindAt : Cond.selects RX6 yX6_kindAt yX6_kindAt ∈ wT := wT_t 1053 (by decide +kernel) rfl
theorem qc_Top_kindAt : Cond.code yX6_kindAt cX6_kindAt 3 (some .int) ∈ wT := wT_t 1054 (by decide +kernel) rfl
theorem qc_Law_kindAt : Cond.codeWith yL_kindAt cL_kindAt 5 (some .int) [(0, 10, 13, 13)] ∈ wT := wT_t 1050 (by decide +kernel) rfl
theorem qm_Law_99 : Cond.methodLink RL 99 yX6_numberAt ∈ wT := wT_t 1075 (by decide +kernel) rfl
theorem qi_Top_numberAt : Cond.instanceMethod yX6_numberAt ∈ wT := wT_t 1076 (by decide +kernel) rfl
theorem qs_Top_numberAt : Cond.selects RX6 yX6_numberAt yX6_numberAt ∈ wT := wT_t 1077 (by decide +kernel) rfl
theorem qc_Top_numberAt : Cond.code yX6_numberAt cX6_numberAt 3 (some .int) ∈ wT := wT_t 1078 (by decide +kernel) rfl
theorem qc_Law_numberAt : Cond.codeWith yL_numberAt cL_numberAt 5 (some .int) [(0, 10, 13, 13), (0, 10, 17, 57)] ∈ wT := wT_t 1074 (by decide +kernel) rfl
theorem qm_Law_102 : Cond.methodLink RL 102 yX6_walk ∈ wT := wT_t 1083 (by decide +kernel) rfl
theorem qi_Top_walk : Cond.instanceMethod yX6_walk ∈ wT := wT_t 1084 (by decide +kernel) rfl
theorem qs_Top_walk : Cond.selects RX6 yX6_walk yX6_walk ∈ wT := wT_t 1085 (by decide +kernel) rfl
theorem qc_Top_walk : Cond.code yX6_walk cX6_walk 9 (some .int) ∈ wT := wT_t 1086 (by decide +kernel) rfl
theorem qc_Law_walk : Cond.codeWith yL_walk cL_walk 7 (some .int) [(0, 14, 17, 23), (0, 14, 21, 13)] ∈ wT := wT_t 1082 (by decide +kernel) rfl
theorem qm_Law_106 : Cond.methodLink RL 106 yX6_cavity ∈ wT := wT_t 1091 (by decide +kernel) rfl
theorem qi_Top_cavity : Cond.instanceMethod yX6_cavity ∈ wT := wT_t 1092 (by decide +kernel) rfl
theorem qs_Top_cavity : Cond.selects RX6 yX6_cavity yX6_cavity ∈ wT := wT_t 1093 (by decide +kernel) rfl
theorem qc_Top_cavity : Cond.code yX6_cavity cX6_cavity 5 (some .int) ∈ wT := wT_t 1094 (by decide +kernel) rfl
theorem qc_Law_cavity : Cond.codeWith yL_cavity cL_cavity 5 (some .int) [(0, 10, 13, 13), (0, 10, 17, 15), (0, 10, 21, 17)] ∈ wT := wT_t 1090 (by decide +kernel) rfl
theorem qm_Law_109 : Cond.methodLink RL 109 yX6_hole ∈ wT := wT_t 1102 (by decide +kernel) rfl
theorem qi_Top_hole : Cond.instanceMethod yX6_hole ∈ wT := wT_t 1103 (by decide +kernel) rfl
theorem qs_Top_hole : Cond.selects RX6 yX6_hole yX6_hole ∈ wT := wT_t 1104 (by decide +kernel) rfl
theorem qc_Top_hole : Cond.code yX6_hole cX6_hole 7 (some .int) ∈ wT := wT_t 1105 (by decide +kernel) rfl
theorem qc_Law_hole : Cond.codeWith yL_hole cL_hole 4 (some .int) [(0, 9, 12, 23), (0, 9, 15, 15)] ∈ wT := wT_t 1101 (by decide +kernel) rfl
theorem qm_Law_112 : Cond.methodLink RL 112 yX6_crossings ∈ wT := wT_t 1112 (by decide +kernel) rfl
theorem qi_Top_crossings : Cond.instanceMethod yX6_crossings ∈ wT := wT_t 1113 (by decide +kernel) rfl
theorem qs_Top_crossings : Cond.selects RX6 yX6_crossings yX6_crossings ∈ wT := wT_t 1114 (by decide +kernel) rfl
theorem qc_Top_crossings : Cond.code yX6_crossings cX6_crossings 5 (some .int) ∈ wT := wT_t 1115 (by decide +kernel) rfl
theorem qc_Law_crossings : Cond.codeWith yL_crossings cL_crossings 5 (some .int) [(0, 10, 13, 23), (0, 10, 17, 13)] ∈ wT := wT_t 1111 (by decide +kernel) rfl
theorem qm_Law_115 : Cond.methodLink RL 115 yX6_effect ∈ wT := wT_t 1127 (by decide +kernel) rfl
theorem qi_Top_effect : Cond.instanceMethod yX6_effect ∈ wT := wT_t 1128 (by decide +kernel) rfl
theorem qs_Top_effect : Cond.selects RX6 yX6_effect yX6_effect ∈ wT := wT_t 1129 (by decide +kernel) rfl
theorem qc_Top_effect : Cond.code yX6_effect cX6_effect 4 (some .int) ∈ wT := wT_t 1130 (by decide +kernel) rfl
theorem qc_Law_effect : Cond.codeWith yL_effect cL_effect 4 (some .int) [(0, 9, 12, 23)] ∈ wT := wT_t 1126 (by decide +kernel) rfl
theorem qm_Law_118 : Cond.methodLink RL 118 yX6_undo ∈ wT := wT_t 1134 (by decide +kernel) rfl
theorem qi_Top_undo : Cond.instanceMethod yX6_undo ∈ wT := wT_t 1135 (by decide +kernel) rfl
theorem qs_Top_undo : Cond.selects RX6 yX6_undo yX6_undo ∈ wT := wT_t 1136 (by decide +kernel) rfl
theorem qc_Top_undo : Cond.code yX6_undo cX6_undo 1 (some .int) ∈ wT := wT_t 1137 (by decide +kernel) rfl
theorem qc_Law_undo : Cond.codeWith yL_undo cL_undo 3 (some .int) [(0, 8, 11, 15)] ∈ wT := wT_t 1133 (by decide +kernel) rfl
theorem qm_Law_122 : Cond.methodLink RL 122 yX6_restore ∈ wT := wT_t 1151 (by decide +kernel) rfl
theorem qi_Top_restore : Cond.instanceMethod yX6_restore ∈ wT := wT_t 1152 (by decide +kernel) rfl
theorem qs_Top_restore : Cond.selects RX6 yX6_restore yX6_restore ∈ wT := wT_t 1153 (by decide +kernel) rfl
theorem qc_Top_restore : Cond.code yX6_restore cX6_restore 1 (some .int) ∈ wT := wT_t 1154 (by decide +kernel) rfl
theorem qc_Law_restore : Cond.codeWith yL_restore cL_restore 3 (some .int) [(0, 8, 11, 15)] ∈ wT := wT_t 1150 (by decide +kernel) rfl
theorem hd_Top_addPoint : yX6_addPoint.cls = RX6 ∧ yX6_addPoint.cls ≠ "java/lang/invoke/MethodHandle" ∧ yX6_addPoint.cls ≠ "java/lang/invoke/VarHandle" ∧ (parseMethodDescriptor yX6_addPoint.desc).map (fun d => d.parameters.length) = some 2 := by decide +kernel
theorem hd_Top_removePoint : yX6_removePoint.cls = RX6 ∧ yX6_removePoint.cls ≠ "java/lang/invoke/MethodHandle" ∧ yX6_removePoint.cls ≠ "java/lang/invoke/VarHandle" ∧ (parseMethodDescriptor yX6_removePoint.desc).map (fun d => d.parameters.length) = some 1 := by decide +kernel
theorem hd_Top_movePoint : yX6_movePoint.cls = RX6 ∧ yX6_movePoint.cls ≠ "java/lang/invoke/MethodHandle" ∧ yX6_movePoint.cls ≠ "java/lang/invoke/VarHandle" ∧ (parseMethodDescriptor yX6_movePoint.desc).map (fun d => d.parameters.length) = some 3 := by decide +kernel
theorem hd_Top_coordinate : yX6_coordinate.cls = RX6 ∧ yX6_coordinate.cls ≠ "java/lang/invoke/MethodHandle" ∧ yX6_coordinate.cls ≠ "java/lang/invoke/VarHandle" ∧ (parseMethodDescriptor yX6_coordinate.desc).map (fun d => d.parameters.length) = some 2 := by decide +kernel
theorem hd_Top_addConstraint : yX6_addConstraint.cls = RX6 ∧ yX6_addConstraint.cls ≠ "java/lang/invoke/MethodHandle" ∧ yX6_addConstraint.cls ≠ "java/lang/invoke/VarHandle" ∧ (parseMethodDescriptor yX6_addConstraint.desc).map (fun d => d.parameters.length) = some 2 := by decide +kernel
theorem hd_Top_removeConstraint : yX6_removeConstraint.cls = RX6 ∧ yX6_removeConstraint.cls ≠ "java/lang/invoke/MethodHandle" ∧ yX6_removeConstraint.cls ≠ "java/lang/invoke/VarHandle" ∧ (parseMethodDescriptor yX6_removeConstraint.desc).map (fun d => d.parameters.length) = some 1 := by decide +kernel
theorem hd_Top_constraintEnd : yX6_constraintEnd.cls = RX6 ∧ yX6_constraintEnd.cls ≠ "java/lang/invoke/MethodHandle" ∧ yX6_constraintEnd.cls ≠ "java/lang/invoke/VarHandle" ∧ (parseMethodDescriptor yX6_constraintEnd.desc).map (fun d => d.parameters.length) = some 2 := by decide +kernel
theorem hd_Top_feed : yX6_feed.cls = RX6 ∧ yX6_feed.cls ≠ "java/lang/invoke/MethodHandle" ∧ yX6_feed.cls ≠ "java/lang/invoke/VarHandle" ∧ (parseMethodDescriptor yX6_feed.desc).map (fun d => d.parameters.length) = some 1 := by decide +kernel
theorem hd_Top_corner : yX6_corner.cls = RX6 ∧ yX6_corner.cls ≠ "java/lang/invoke/MethodHandle" ∧ yX6_corner.cls ≠ "java/lang/invoke/VarHandle" ∧ (parseMethodDescriptor yX6_corner.desc).map (fun d => d.parameters.length) = some 2 := by decide +kernel
theorem hd_Top_beyond : yX6_beyond.cls = RX6 ∧ yX6_beyond.cls ≠ "java/lang/invoke/MethodHandle" ∧ yX6_beyond.cls ≠ "java/lang/invoke/VarHandle" ∧ (parseMethodDescriptor yX6_beyond.desc).map (fun d => d.parameters.length) = some 2 := by decide +kernel
theorem hd_Top_edgeEnd : yX6_edgeEnd.cls = RX6 ∧ yX6_edgeEnd.cls ≠ "java/lang/invoke/MethodHandle" ∧ yX6_edgeEnd.cls ≠ "java/lang/invoke/VarHandle" ∧ (parseMethodDescriptor yX6_edgeEnd.desc).map (fun d => d.parameters.length) = some 2 := by decide +kernel
theorem hd_Top_edgeBetween : yX6_edgeBetween.cls = RX6 ∧ yX6_edgeBetween.cls ≠ "java/lang/invoke/MethodHandle" ∧ yX6_edgeBetween.cls ≠ "java/lang/invoke/VarHandle" ∧ (parseMethodDescriptor yX6_edgeBetween.desc).map (fun d => d.parameters.length) = some 2 := by decide +kernel
theorem hd_Top_degree : yX6_degree.cls = RX6 ∧ yX6_degree.cls ≠ "java/lang/invoke/MethodHandle" ∧ yX6_degree.cls ≠ "java/lang/invoke/VarHandle" ∧ (parseMethodDescriptor yX6_degree.desc).map (fun d => d.parameters.length) = some 1 := by decide +kernel
theorem hd_Top_neighbour : yX6_neighbour.cls = RX6 ∧ yX6_neighbour.cls ≠ "java/lang/invoke/MethodHandle" ∧ yX6_neighbour.cls ≠ "java/lang/invoke/VarHandle" ∧ (parseMethodDescriptor yX6_neighbour.desc).map (fun d => d.parameters.length) = some 2 := by decide +kernel
theorem hd_Top_hullPoint : yX6_hullPoint.cls = RX6 ∧ yX6_hullPoint.cls ≠ "java/lang/invoke/MethodHandle" ∧ yX6_hullPoint.cls ≠ "java/lang/invoke/VarHandle" ∧ (parseMethodDescriptor yX6_hullPoint.desc).map (fun d => d.parameters.length) = some 1 := by decide +kernel
theorem hd_Top_twiceArea : yX6_twiceArea.cls = RX6 ∧ yX6_twiceArea.cls ≠ "java/lang/invoke/MethodHandle" ∧ yX6_twiceArea.cls ≠ "java/lang/invoke/VarHandle" ∧ (parseMethodDescriptor yX6_twiceArea.desc).map (fun d => d.parameters.length) = some 1 := by decide +kernel
theorem hd_Top_areaShare : yX6_areaShare.cls = RX6 ∧ yX6_areaShare.cls ≠ "java/lang/invoke/MethodHandle" ∧ yX6_areaShare.cls ≠ "java/lang/invoke/VarHandle" ∧ (parseMethodDescriptor yX6_areaShare.desc).map (fun d => d.parameters.length) = some 1 := by decide +kernel
theorem hd_Top_meanDegree : yX6_meanDegree.cls = RX6 ∧ yX6_meanDegree.cls ≠ "java/lang/invoke/MethodHandle" ∧ yX6_meanDegree.cls ≠ "java/lang/invoke/VarHandle" ∧ (parseMethodDescriptor yX6_meanDegree.desc).map (fun d => d.parameters.length) = some 0 := by decide +kernel
theorem hd_Top_squaredLength : yX6_squaredLength.cls = RX6 ∧ yX6_squaredLength.cls ≠ "java/lang/invoke/MethodHandle" ∧ yX6_squaredLength.cls ≠ "java/lang/invoke/VarHandle" ∧ (parseMethodDescriptor yX6_squaredLength.desc).map (fun d => d.parameters.length) = some 1 := by decide +kernel
theorem hd_Top_turn : yX6_turn.cls = RX6 ∧ yX6_turn.cls ≠ "java/lang/invoke/MethodHandle" ∧ yX6_turn.cls ≠ "java/lang/invoke/VarHandle" ∧ (parseMethodDescriptor yX6_turn.desc).map (fun d => d.parameters.length) = some 3 := by decide +kernel
theorem hd_Top_inCircle : yX6_inCircle.cls = RX6 ∧ yX6_inCircle.cls ≠ "java/lang/invoke/MethodHandle" ∧ yX6_inCircle.cls ≠ "java/lang/invoke/VarHandle" ∧ (parseMethodDescriptor yX6_inCircle.desc).map (fun d => d.parameters.length) = some 4 := by decide +kernel
theorem hd_Top_isGood : yX6_isGood.cls = RX6 ∧ yX6_isGood.cls ≠ "java/lang/invoke/MethodHandle" ∧ yX6_isGood.cls ≠ "java/lang/invoke/VarHandle" ∧ (parseMethodDescriptor yX6_isGood.desc).map (fun d => d.parameters.length) = some 1 := by decide +kernel
theorem hd_Top_kindAt : yX6_kindAt.cls = RX6 ∧ yX6_kindAt.cls ≠ "java/lang/invoke/MethodHandle" ∧ yX6_kindAt.cls ≠ "java/lang/invoke/VarHandle" ∧ (parseMethodDescriptor yX6_kindAt.desc).map (fun d => d.parameters.length) = some 2 := by decide +kernel
theorem hd_Top_numberAt : yX6_numberAt.cls = RX6 ∧ yX6_numberAt.cls ≠ "java/lang/invoke/MethodHandle" ∧ yX6_numberAt.cls ≠ "java/lang/invoke/VarHandle" ∧ (parseMethodDescriptor yX6_numberAt.desc).map (fun d => d.parameters.length) = some 2 := by decide +kernel
theorem hd_Top_walk : yX6_walk.cls = RX6 ∧ yX6_walk.cls ≠ "java/lang/invoke/MethodHandle" ∧ yX6_walk.cls ≠ "java/lang/invoke/VarHandle" ∧ (parseMethodDescriptor yX6_walk.desc).map (fun d => d.parameters.length) = some 4 := by decide +kernel
theorem hd_Top_cavity : yX6_cavity.cls = RX6 ∧ yX6_cavity.cls ≠ "java/lang/invoke/MethodHandle" ∧ yX6_cavity.cls ≠ "java/lang/invoke/VarHandle" ∧ (parseMethodDescriptor yX6_cavity.desc).map (fun d => d.parameters.length) = some 2 := by decide +kernel
theorem hd_Top_hole : yX6_hole.cls = RX6 ∧ yX6_hole.cls ≠ "java/lang/invoke/MethodHandle" ∧ yX6_hole.cls ≠ "java/lang/invoke/VarHandle" ∧ (parseMethodDescriptor yX6_hole.desc).map (fun d => d.parameters.length) = some 1 := by decide +kernel
theorem hd_Top_crossings : yX6_crossings.cls = RX6 ∧ yX6_crossings.cls ≠ "java/lang/invoke/MethodHandle" ∧ yX6_crossings.cls ≠ "java/lang/invoke/VarHandle" ∧ (parseMethodDescriptor yX6_crossings.desc).map (fun d => d.parameters.length) = some 2 := by decide +kernel
theorem hd_Top_effect : yX6_effect.cls = RX6 ∧ yX6_effect.cls ≠ "java/lang/invoke/MethodHandle" ∧ yX6_effect.cls ≠ "java/lang/invoke/VarHandle" ∧ (parseMethodDescriptor yX6_effect.desc).map (fun d => d.parameters.length) = some 1 := by decide +kernel
theorem hd_Top_undo : yX6_undo.cls = RX6 ∧ yX6_undo.cls ≠ "java/lang/invoke/MethodHandle" ∧ yX6_undo.cls ≠ "java/lang/invoke/VarHandle" ∧ (parseMethodDescriptor yX6_undo.desc).map (fun d => d.parameters.length) = some 0 := by decide +kernel
theorem hd_Top_restore : yX6_restore.cls = RX6 ∧ yX6_restore.cls ≠ "java/lang/invoke/MethodHandle" ∧ yX6_restore.cls ≠ "java/lang/invoke/VarHandle" ∧ (parseMethodDescriptor yX6_restore.desc).map (fun d => d.parameters.length) = some 0 := by decide +kernel
theorem g_Law_7 : GoodIn wT (wsV RL 7 RX6 yX6_addPoint (wsM yX6_addPoint cX6_addPoint 3 (some .int))) := gV qm_Law_7 qi_Top_addPoint qs_Top_addPoint qn_Top qc_Top_addPoint
theorem g_Law_19 : GoodIn wT (wsV RL 19 RX6 yX6_removePoint (wsM yX6_removePoint cX6_removePoint 2 (some .int))) := gV qm_Law_19 qi_Top_removePoint qs_Top_removePoint qn_Top qc_Top_removePoint
theorem g_Law_25 : GoodIn wT (wsV RL 25 RX6 yX6_movePoint (wsM yX6_movePoint cX6_movePoint 5 (some .boolean))) := gV qm_Law_25 qi_Top_movePoint qs_Top_movePoint qn_Top qc_Top_movePoint
theorem g_Law_29 : GoodIn wT (wsV RL 29 RX6 yX6_coordinate (wsM yX6_coordinate cX6_coordinate 3 (some .int))) := gV qm_Law_29 qi_Top_coordinate qs_Top_coordinate qn_Top qc_Top_coordinate
theorem g_Law_32 : GoodIn wT (wsV RL 32 RX6 yX6_addConstraint (wsM yX6_addConstraint cX6_addConstraint 3 (some .int))) := gV qm_Law_32 qi_Top_addConstraint qs_Top_addConstraint qn_Top qc_Top_addConstraint
theorem g_Law_35 : GoodIn wT (wsV RL 35 RX6 yX6_removeConstraint (wsM yX6_removeConstraint cX6_removeConstraint 2 (some .int))) := gV qm_Law_35 qi_Top_removeConstraint qs_Top_removeConstraint qn_Top qc_Top_removeConstraint
theorem g_Law_38 : GoodIn wT (wsV RL 38 RX6 yX6_constraintEnd (wsM yX6_constraintEnd cX6_constraintEnd 3 (some .int))) := gV qm_Law_38 qi_Top_constraintEnd qs_Top_constraintEnd qn_Top qc_Top_constraintEnd
theorem g_Law_41 : GoodIn wT (wsV RL 41 RX6 yX6_feed (wsM yX6_feed cX6_feed 2 (some .int))) := gV qm_Law_41 qi_Top_feed qs_Top_feed qn_Top qc_Top_feed
theorem g_Law_45 : GoodIn wT (wsV RL 45 RX6 yX6_corner (wsM yX6_corner cX6_corner 3 (some .int))) := gV qm_Law_45 qi_Top_corner qs_Top_corner qn_Top qc_Top_corner
theorem g_Law_48 : GoodIn wT (wsV RL 48 RX6 yX6_beyond (wsM yX6_beyond cX6_beyond 3 (some .int))) := gV qm_Law_48 qi_Top_beyond qs_Top_beyond qn_Top qc_Top_beyond
theorem g_Law_51 : GoodIn wT (wsV RL 51 RX6 yX6_edgeEnd (wsM yX6_edgeEnd cX6_edgeEnd 3 (some .int))) := gV qm_Law_51 qi_Top_edgeEnd qs_Top_edgeEnd qn_Top qc_Top_edgeEnd
theorem g_Law_54 : GoodIn wT (wsV RL 54 RX6 yX6_edgeBetween (wsM yX6_edgeBetween cX6_edgeBetween 4 (some .int))) := gV qm_Law_54 qi_Top_edgeBetween qs_Top_edgeBetween qn_Top qc_Top_edgeBetween
theorem g_Law_59 : GoodIn wT (wsV RL 59 RX6 yX6_degree (wsM yX6_degree cX6_degree 2 (some .int))) := gV qm_Law_59 qi_Top_degree qs_Top_degree qn_Top qc_Top_degree
theorem g_Law_62 : GoodIn wT (wsV RL 62 RX6 yX6_neighbour (wsM yX6_neighbour cX6_neighbour 3 (some .int))) := gV qm_Law_62 qi_Top_neighbour qs_Top_neighbour qn_Top qc_Top_neighbour
theorem g_Law_65 : GoodIn wT (wsV RL 65 RX6 yX6_hullPoint (wsM yX6_hullPoint cX6_hullPoint 2 (some .int))) := gV qm_Law_65 qi_Top_hullPoint qs_Top_hullPoint qn_Top qc_Top_hullPoint
theorem g_Law_68 : GoodIn wT (wsV RL 68 RX6 yX6_twiceArea (wsM yX6_twiceArea cX6_twiceArea 2 (some .int))) := gV qm_Law_68 qi_Top_twiceArea qs_Top_twiceArea qn_Top qc_Top_twiceArea
theorem g_Law_71 : GoodIn wT (wsV RL 71 RX6 yX6_areaShare (wsM yX6_areaShare cX6_areaShare 3 (some .double))) := gV qm_Law_71 qi_Top_areaShare qs_Top_areaShare qn_Top qc_Top_areaShare
theorem g_Law_75 : GoodIn wT (wsV RL 75 RX6 yX6_meanDegree (wsM yX6_meanDegree cX6_meanDegree 2 (some .double))) := gV qm_Law_75 qi_Top_meanDegree qs_Top_meanDegree qn_Top qc_Top_meanDegree
theorem g_Law_79 : GoodIn wT (wsV RL 79 RX6 yX6_squaredLength (wsM yX6_squaredLength cX6_squaredLength 2 (some .int))) := gV qm_Law_79 qi_Top_squaredLength qs_Top_squaredLength qn_Top qc_Top_squaredLength
theorem g_Law_82 : GoodIn wT (wsV RL 82 RX6 yX6_turn (wsM yX6_turn cX6_turn 4 (some .int))) := gV qm_Law_82 qi_Top_turn qs_Top_turn qn_Top qc_Top_turn
theorem g_Law_86 : GoodIn wT (wsV RL 86 RX6 yX6_inCircle (wsM yX6_inCircle cX6_inCircle 5 (some .int))) := gV qm_Law_86 qi_Top_inCircle qs_Top_inCircle qn_Top qc_Top_inCircle
theorem g_Law_92 : GoodIn wT (wsV RL 92 RX6 yX6_isGood (wsM yX6_isGood cX6_isGood 4 (some .boolean))) := gV qm_Law_92 qi_Top_isGood qs_Top_isGood qn_Top qc_Top_isGood
theorem g_Law_96 : GoodIn wT (wsV RL 96 RX6 yX6_kindAt (wsM yX6_kindAt cX6_kindAt 3 (some .int))) := gV qm_Law_96 qi_Top_kindAt qs_Top_kindAt qn_Top qc_Top_kindAt
theorem g_Law_99 : GoodIn wT (wsV RL 99 RX6 yX6_numberAt (wsM yX6_numberAt cX6_numberAt 3 (some .int))) := gV qm_Law_99 qi_Top_numberAt qs_Top_numberAt qn_Top qc_Top_numberAt
theorem g_Law_102 : GoodIn wT (wsV RL 102 RX6 yX6_walk (wsM yX6_walk cX6_walk 9 (some .int))) := gV qm_Law_102 qi_Top_walk qs_Top_walk qn_Top qc_Top_walk
theorem g_Law_106 : GoodIn wT (wsV RL 106 RX6 yX6_cavity (wsM yX6_cavity cX6_cavity 5 (some .int))) := gV qm_Law_106 qi_Top_cavity qs_Top_cavity qn_Top qc_Top_cavity
theorem g_Law_109 : GoodIn wT (wsV RL 109 RX6 yX6_hole (wsM yX6_hole cX6_hole 7 (some .int))) := gV qm_Law_109 qi_Top_hole qs_Top_hole qn_Top qc_Top_hole
theorem g_Law_112 : GoodIn wT (wsV RL 112 RX6 yX6_crossings (wsM yX6_crossings cX6_crossings 5 (some .int))) := gV qm_Law_112 qi_Top_crossings qs_Top_crossings qn_Top qc_Top_crossings
theorem g_Law_115 : GoodIn wT (wsV RL 115 RX6 yX6_effect (wsM yX6_effect cX6_effect 4 (some .int))) := gV qm_Law_115 qi_Top_effect qs_Top_effect qn_Top qc_Top_effect
theorem g_Law_118 : GoodIn wT (wsV RL 118 RX6 yX6_undo (wsM yX6_undo cX6_undo 1 (some .int))) := gV qm_Law_118 qi_Top_undo qs_Top_undo qn_Top qc_Top_undo
theorem g_Law_122 : GoodIn wT (wsV RL 122 RX6 yX6_restore (wsM yX6_restore cX6_restore 1 (some .int))) := gV qm_Law_122 qi_Top_restore qs_Top_restore qn_Top qc_Top_restore
