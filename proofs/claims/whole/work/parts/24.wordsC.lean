theorem qn_Law : Cond.initialized RL ∈ wT := wT_t 0 (by decide +kernel) rfl
theorem qm_Law_129 : Cond.methodLink RL 129 yL_addPoint ∈ wT := wT_t 544 (by decide +kernel) rfl
theorem qt_Law_addPoint : Cond.static yL_addPoint ∈ wT := wT_t 545 (by decide +kernel) rfl
theorem qm_Law_134 : Cond.methodLink RL 134 yX7_addPoint ∈ wT := wT_t 1223 (by decide +kernel) rfl
theorem qm_Law_135 : Cond.methodLink RL 135 yX7_thrown ∈ wT := wT_t 1219 (by decide +kernel) rfl
theorem qi_Mod_thrown : Cond.instanceMethod yX7_thrown ∈ wT := wT_t 1220 (by decide +kernel) rfl
theorem qs_Mod_thrown : Cond.selects RX7 yX7_thrown yX7_thrown ∈ wT := wT_t 1221 (by decide +kernel) rfl
theorem qc_Mod_thrown : Cond.code yX7_thrown cX7_thrown 1 (some .int) ∈ wT := wT_t 1222 (by decide +kernel) rfl
theorem qm_Law_138 : Cond.methodLink RL 138 yL_removePoint ∈ wT := wT_t 666 (by decide +kernel) rfl
theorem qt_Law_removePoint : Cond.static yL_removePoint ∈ wT := wT_t 667 (by decide +kernel) rfl
theorem qm_Law_141 : Cond.methodLink RL 141 yX7_removePoint ∈ wT := wT_t 1279 (by decide +kernel) rfl
theorem qi_Mod_removePoint : Cond.instanceMethod yX7_removePoint ∈ wT := wT_t 1280 (by decide +kernel) rfl
theorem qs_Mod_removePoint : Cond.selects RX7 yX7_removePoint yX7_removePoint ∈ wT := wT_t 1281 (by decide +kernel) rfl
theorem qc_Mod_removePoint : Cond.code yX7_removePoint cX7_removePoint 2 (some .int) ∈ wT := wT_t 1282 (by decide +kernel) rfl
theorem qm_Law_142 : Cond.methodLink RL 142 yL_movePoint ∈ wT := wT_t 734 (by decide +kernel) rfl
theorem qt_Law_movePoint : Cond.static yL_movePoint ∈ wT := wT_t 735 (by decide +kernel) rfl
theorem qm_Law_145 : Cond.methodLink RL 145 yX7_movePoint ∈ wT := wT_t 1299 (by decide +kernel) rfl
theorem qi_Mod_movePoint : Cond.instanceMethod yX7_movePoint ∈ wT := wT_t 1300 (by decide +kernel) rfl
theorem qs_Mod_movePoint : Cond.selects RX7 yX7_movePoint yX7_movePoint ∈ wT := wT_t 1301 (by decide +kernel) rfl
theorem qc_Mod_movePoint : Cond.code yX7_movePoint cX7_movePoint 5 (some .boolean) ∈ wT := wT_t 1302 (by decide +kernel) rfl
theorem qm_Law_146 : Cond.methodLink RL 146 yX6_pointCount ∈ wT := wT_t 208 (by decide +kernel) rfl
theorem qi_Top_pointCount : Cond.instanceMethod yX6_pointCount ∈ wT := wT_t 209 (by decide +kernel) rfl
theorem qs_Top_pointCount : Cond.selects RX6 yX6_pointCount yX6_pointCount ∈ wT := wT_t 210 (by decide +kernel) rfl
theorem qc_Top_pointCount : Cond.code yX6_pointCount cX6_pointCount 1 (some .int) ∈ wT := wT_t 211 (by decide +kernel) rfl
theorem qm_Law_149 : Cond.methodLink RL 149 yX7_pointCount ∈ wT := wT_t 1303 (by decide +kernel) rfl
theorem qi_Mod_pointCount : Cond.instanceMethod yX7_pointCount ∈ wT := wT_t 1304 (by decide +kernel) rfl
theorem qs_Mod_pointCount : Cond.selects RX7 yX7_pointCount yX7_pointCount ∈ wT := wT_t 1305 (by decide +kernel) rfl
theorem qc_Mod_pointCount : Cond.code yX7_pointCount cX7_pointCount 1 (some .int) ∈ wT := wT_t 1306 (by decide +kernel) rfl
theorem qm_Law_150 : Cond.methodLink RL 150 yL_coordinate ∈ wT := wT_t 744 (by decide +kernel) rfl
theorem qt_Law_coordinate : Cond.static yL_coordinate ∈ wT := wT_t 745 (by decide +kernel) rfl
theorem qm_Law_152 : Cond.methodLink RL 152 yX7_coordinate ∈ wT := wT_t 1307 (by decide +kernel) rfl
theorem qi_Mod_coordinate : Cond.instanceMethod yX7_coordinate ∈ wT := wT_t 1308 (by decide +kernel) rfl
theorem qs_Mod_coordinate : Cond.selects RX7 yX7_coordinate yX7_coordinate ∈ wT := wT_t 1309 (by decide +kernel) rfl
theorem qc_Mod_coordinate : Cond.code yX7_coordinate cX7_coordinate 3 (some .int) ∈ wT := wT_t 1310 (by decide +kernel) rfl
theorem qm_Law_153 : Cond.methodLink RL 153 yL_addConstraint ∈ wT := wT_t 764 (by decide +kernel) rfl
theorem qt_Law_addConstraint : Cond.static yL_addConstraint ∈ wT := wT_t 765 (by decide +kernel) rfl
theorem qm_Law_155 : Cond.methodLink RL 155 yX7_addConstraint ∈ wT := wT_t 1311 (by decide +kernel) rfl
theorem qm_Law_156 : Cond.methodLink RL 156 yL_removeConstraint ∈ wT := wT_t 778 (by decide +kernel) rfl
theorem qt_Law_removeConstraint : Cond.static yL_removeConstraint ∈ wT := wT_t 779 (by decide +kernel) rfl
theorem qm_Law_158 : Cond.methodLink RL 158 yX7_removeConstraint ∈ wT := wT_t 1333 (by decide +kernel) rfl
theorem qi_Mod_removeConstraint : Cond.instanceMethod yX7_removeConstraint ∈ wT := wT_t 1334 (by decide +kernel) rfl
theorem qs_Mod_removeConstraint : Cond.selects RX7 yX7_removeConstraint yX7_removeConstraint ∈ wT := wT_t 1335 (by decide +kernel) rfl
theorem qc_Mod_removeConstraint : Cond.code yX7_removeConstraint cX7_removeConstraint 2 (some .int) ∈ wT := wT_t 1336 (by decide +kernel) rfl
theorem qm_Law_159 : Cond.methodLink RL 159 yX6_constraintCount ∈ wT := wT_t 216 (by decide +kernel) rfl
theorem qi_Top_constraintCount : Cond.instanceMethod yX6_constraintCount ∈ wT := wT_t 217 (by decide +kernel) rfl
theorem qs_Top_constraintCount : Cond.selects RX6 yX6_constraintCount yX6_constraintCount ∈ wT := wT_t 218 (by decide +kernel) rfl
theorem qc_Top_constraintCount : Cond.code yX6_constraintCount cX6_constraintCount 1 (some .int) ∈ wT := wT_t 219 (by decide +kernel) rfl
theorem qm_Law_162 : Cond.methodLink RL 162 yX7_constraintCount ∈ wT := wT_t 1345 (by decide +kernel) rfl
theorem qi_Mod_constraintCount : Cond.instanceMethod yX7_constraintCount ∈ wT := wT_t 1346 (by decide +kernel) rfl
theorem qs_Mod_constraintCount : Cond.selects RX7 yX7_constraintCount yX7_constraintCount ∈ wT := wT_t 1347 (by decide +kernel) rfl
theorem qc_Mod_constraintCount : Cond.code yX7_constraintCount cX7_constraintCount 1 (some .int) ∈ wT := wT_t 1348 (by decide +kernel) rfl
theorem qm_Law_163 : Cond.methodLink RL 163 yL_constraintEnd ∈ wT := wT_t 794 (by decide +kernel) rfl
theorem qt_Law_constraintEnd : Cond.static yL_constraintEnd ∈ wT := wT_t 795 (by decide +kernel) rfl
theorem qm_Law_165 : Cond.methodLink RL 165 yX7_constraintEnd ∈ wT := wT_t 1349 (by decide +kernel) rfl
theorem qi_Mod_constraintEnd : Cond.instanceMethod yX7_constraintEnd ∈ wT := wT_t 1350 (by decide +kernel) rfl
theorem qs_Mod_constraintEnd : Cond.selects RX7 yX7_constraintEnd yX7_constraintEnd ∈ wT := wT_t 1351 (by decide +kernel) rfl
theorem qc_Mod_constraintEnd : Cond.code yX7_constraintEnd cX7_constraintEnd 3 (some .int) ∈ wT := wT_t 1352 (by decide +kernel) rfl
theorem qm_Law_166 : Cond.methodLink RL 166 yL_feed ∈ wT := wT_t 801 (by decide +kernel) rfl
theorem qt_Law_feed : Cond.static yL_feed ∈ wT := wT_t 802 (by decide +kernel) rfl
theorem qm_Law_169 : Cond.methodLink RL 169 yX7_feed ∈ wT := wT_t 1353 (by decide +kernel) rfl
theorem qi_Mod_feed : Cond.instanceMethod yX7_feed ∈ wT := wT_t 1354 (by decide +kernel) rfl
theorem qs_Mod_feed : Cond.selects RX7 yX7_feed yX7_feed ∈ wT := wT_t 1355 (by decide +kernel) rfl
theorem qc_Mod_feed : Cond.code yX7_feed cX7_feed 2 (some .int) ∈ wT := wT_t 1356 (by decide +kernel) rfl
theorem qm_Law_170 : Cond.methodLink RL 170 yX6_readInput ∈ wT := wT_t 224 (by decide +kernel) rfl
theorem qi_Top_readInput : Cond.instanceMethod yX6_readInput ∈ wT := wT_t 225 (by decide +kernel) rfl
theorem qs_Top_readInput : Cond.selects RX6 yX6_readInput yX6_readInput ∈ wT := wT_t 226 (by decide +kernel) rfl
theorem qc_Top_readInput : Cond.code yX6_readInput cX6_readInput 3 (some .int) ∈ wT := wT_t 227 (by decide +kernel) rfl
theorem qm_Law_173 : Cond.methodLink RL 173 yX7_readInput ∈ wT := wT_t 1357 (by decide +kernel) rfl
theorem qi_Mod_readInput : Cond.instanceMethod yX7_readInput ∈ wT := wT_t 1358 (by decide +kernel) rfl
theorem qs_Mod_readInput : Cond.selects RX7 yX7_readInput yX7_readInput ∈ wT := wT_t 1359 (by decide +kernel) rfl
theorem qc_Mod_readInput : Cond.code yX7_readInput cX7_readInput 3 (some .int) ∈ wT := wT_t 1360 (by decide +kernel) rfl
theorem qm_Law_174 : Cond.methodLink RL 174 yX6_triangleCount ∈ wT := wT_t 507 (by decide +kernel) rfl
theorem qi_Top_triangleCount : Cond.instanceMethod yX6_triangleCount ∈ wT := wT_t 508 (by decide +kernel) rfl
theorem qs_Top_triangleCount : Cond.selects RX6 yX6_triangleCount yX6_triangleCount ∈ wT := wT_t 509 (by decide +kernel) rfl
theorem qc_Top_triangleCount : Cond.code yX6_triangleCount cX6_triangleCount 1 (some .int) ∈ wT := wT_t 510 (by decide +kernel) rfl
theorem qm_Law_177 : Cond.methodLink RL 177 yX7_triangleCount ∈ wT := wT_t 1375 (by decide +kernel) rfl
theorem qi_Mod_triangleCount : Cond.instanceMethod yX7_triangleCount ∈ wT := wT_t 1376 (by decide +kernel) rfl
theorem qs_Mod_triangleCount : Cond.selects RX7 yX7_triangleCount yX7_triangleCount ∈ wT := wT_t 1377 (by decide +kernel) rfl
theorem qc_Mod_triangleCount : Cond.code yX7_triangleCount cX7_triangleCount 1 (some .int) ∈ wT := wT_t 1378 (by decide +kernel) rfl
theorem qm_Law_178 : Cond.methodLink RL 178 yL_corner ∈ wT := wT_t 817 (by decide +kernel) rfl
theorem qt_Law_corner : Cond.static yL_corner ∈ wT := wT_t 818 (by decide +kernel) rfl
theorem qm_Law_180 : Cond.methodLink RL 180 yX7_corner ∈ wT := wT_t 1426 (by decide +kernel) rfl
theorem qi_Mod_corner : Cond.instanceMethod yX7_corner ∈ wT := wT_t 1427 (by decide +kernel) rfl
theorem qs_Mod_corner : Cond.selects RX7 yX7_corner yX7_corner ∈ wT := wT_t 1428 (by decide +kernel) rfl
theorem qc_Mod_corner : Cond.code yX7_corner cX7_corner 3 (some .int) ∈ wT := wT_t 1429 (by decide +kernel) rfl
theorem qm_Law_181 : Cond.methodLink RL 181 yL_beyond ∈ wT := wT_t 838 (by decide +kernel) rfl
theorem qt_Law_beyond : Cond.static yL_beyond ∈ wT := wT_t 839 (by decide +kernel) rfl
theorem qm_Law_183 : Cond.methodLink RL 183 yX7_beyond ∈ wT := wT_t 1438 (by decide +kernel) rfl
theorem qi_Mod_beyond : Cond.instanceMethod yX7_beyond ∈ wT := wT_t 1439 (by decide +kernel) rfl
theorem qs_Mod_beyond : Cond.selects RX7 yX7_beyond yX7_beyond ∈ wT := wT_t 1440 (by decide +kernel) rfl
theorem qc_Mod_beyond : Cond.code yX7_beyond cX7_beyond 3 (some .int) ∈ wT := wT_t 1441 (by decide +kernel) rfl
theorem qm_Law_184 : Cond.methodLink RL 184 yX6_edgeCount ∈ wT := wT_t 515 (by decide +kernel) rfl
theorem qi_Top_edgeCount : Cond.instanceMethod yX6_edgeCount ∈ wT := wT_t 516 (by decide +kernel) rfl
theorem qs_Top_edgeCount : Cond.selects RX6 yX6_edgeCount yX6_edgeCount ∈ wT := wT_t 517 (by decide +kernel) rfl
theorem qc_Top_edgeCount : Cond.code yX6_edgeCount cX6_edgeCount 1 (some .int) ∈ wT := wT_t 518 (by decide +kernel) rfl
theorem qm_Law_187 : Cond.methodLink RL 187 yX7_edgeCount ∈ wT := wT_t 1450 (by decide +kernel) rfl
theorem qi_Mod_edgeCount : Cond.instanceMethod yX7_edgeCount ∈ wT := wT_t 1451 (by decide +kernel) rfl
theorem qs_Mod_edgeCount : Cond.selects RX7 yX7_edgeCount yX7_edgeCount ∈ wT := wT_t 1452 (by decide +kernel) rfl
theorem qc_Mod_edgeCount : Cond.code yX7_edgeCount cX7_edgeCount 1 (some .int) ∈ wT := wT_t 1453 (by decide +kernel) rfl
theorem qm_Law_188 : Cond.methodLink RL 188 yL_edgeEnd ∈ wT := wT_t 854 (by decide +kernel) rfl
theorem qt_Law_edgeEnd : Cond.static yL_edgeEnd ∈ wT := wT_t 855 (by decide +kernel) rfl
theorem qm_Law_190 : Cond.methodLink RL 190 yX7_edgeEnd ∈ wT := wT_t 1458 (by decide +kernel) rfl
theorem qi_Mod_edgeEnd : Cond.instanceMethod yX7_edgeEnd ∈ wT := wT_t 1459 (by decide +kernel) rfl
theorem qs_Mod_edgeEnd : Cond.selects RX7 yX7_edgeEnd yX7_edgeEnd ∈ wT := wT_t 1460 (by decide +kernel) rfl
theorem qc_Mod_edgeEnd : Cond.code yX7_edgeEnd cX7_edgeEnd 3 (some .int) ∈ wT := wT_t 1461 (by decide +kernel) rfl
theorem qm_Law_191 : Cond.methodLink RL 191 yL_edgeBetween ∈ wT := wT_t 874 (by decide +kernel) rfl
theorem qt_Law_edgeBetween : Cond.static yL_edgeBetween ∈ wT := wT_t 875 (by decide +kernel) rfl
theorem qm_Law_193 : Cond.methodLink RL 193 yX7_edgeBetween ∈ wT := wT_t 1466 (by decide +kernel) rfl
theorem qi_Mod_edgeBetween : Cond.instanceMethod yX7_edgeBetween ∈ wT := wT_t 1467 (by decide +kernel) rfl
theorem qs_Mod_edgeBetween : Cond.selects RX7 yX7_edgeBetween yX7_edgeBetween ∈ wT := wT_t 1468 (by decide +kernel) rfl
theorem qc_Mod_edgeBetween : Cond.code yX7_edgeBetween cX7_edgeBetween 4 (some .int) ∈ wT := wT_t 1469 (by decide +kernel) rfl
theorem qm_Law_194 : Cond.methodLink RL 194 yL_degree ∈ wT := wT_t 903 (by decide +kernel) rfl
theorem qt_Law_degree : Cond.static yL_degree ∈ wT := wT_t 904 (by decide +kernel) rfl
theorem qm_Law_196 : Cond.methodLink RL 196 yX7_degree ∈ wT := wT_t 1474 (by decide +kernel) rfl
theorem qi_Mod_degree : Cond.instanceMethod yX7_degree ∈ wT := wT_t 1475 (by decide +kernel) rfl
theorem qs_Mod_degree : Cond.selects RX7 yX7_degree yX7_degree ∈ wT := wT_t 1476 (by decide +kernel) rfl
theorem qc_Mod_degree : Cond.code yX7_degree cX7_degree 4 (some .int) ∈ wT := wT_t 1477 (by decide +kernel) rfl
theorem qm_Law_197 : Cond.methodLink RL 197 yL_neighbour ∈ wT := wT_t 920 (by decide +kernel) rfl
theorem qt_Law_neighbour : Cond.static yL_neighbour ∈ wT := wT_t 921 (by decide +kernel) rfl
theorem qm_Law_199 : Cond.methodLink RL 199 yX7_neighbour ∈ wT := wT_t 1478 (by decide +kernel) rfl
theorem qi_Mod_neighbour : Cond.instanceMethod yX7_neighbour ∈ wT := wT_t 1479 (by decide +kernel) rfl
theorem qs_Mod_neighbour : Cond.selects RX7 yX7_neighbour yX7_neighbour ∈ wT := wT_t 1480 (by decide +kernel) rfl
theorem qc_Mod_neighbour : Cond.code yX7_neighbour cX7_neighbour 5 (some .int) ∈ wT := wT_t 1481 (by decide +kernel) rfl
theorem qm_Law_200 : Cond.methodLink RL 200 yX6_hullSize ∈ wT := wT_t 523 (by decide +kernel) rfl
theorem qi_Top_hullSize : Cond.instanceMethod yX6_hullSize ∈ wT := wT_t 524 (by decide +kernel) rfl
theorem qs_Top_hullSize : Cond.selects RX6 yX6_hullSize yX6_hullSize ∈ wT := wT_t 525 (by decide +kernel) rfl
theorem qc_Top_hullSize : Cond.code yX6_hullSize cX6_hullSize 1 (some .int) ∈ wT := wT_t 526 (by decide +kernel) rfl
theorem qm_Law_203 : Cond.methodLink RL 203 yX7_hullSize ∈ wT := wT_t 1482 (by decide +kernel) rfl
theorem qi_Mod_hullSize : Cond.instanceMethod yX7_hullSize ∈ wT := wT_t 1483 (by decide +kernel) rfl
theorem qs_Mod_hullSize : Cond.selects RX7 yX7_hullSize yX7_hullSize ∈ wT := wT_t 1484 (by decide +kernel) rfl
theorem qc_Mod_hullSize : Cond.code yX7_hullSize cX7_hullSize 1 (some .int) ∈ wT := wT_t 1485 (by decide +kernel) rfl
theorem qm_Law_204 : Cond.methodLink RL 204 yL_hullPoint ∈ wT := wT_t 932 (by decide +kernel) rfl
theorem qt_Law_hullPoint : Cond.static yL_hullPoint ∈ wT := wT_t 933 (by decide +kernel) rfl
theorem qm_Law_206 : Cond.methodLink RL 206 yX7_hullPoint ∈ wT := wT_t 1494 (by decide +kernel) rfl
theorem qi_Mod_hullPoint : Cond.instanceMethod yX7_hullPoint ∈ wT := wT_t 1495 (by decide +kernel) rfl
theorem qs_Mod_hullPoint : Cond.selects RX7 yX7_hullPoint yX7_hullPoint ∈ wT := wT_t 1496 (by decide +kernel) rfl
theorem qc_Mod_hullPoint : Cond.code yX7_hullPoint cX7_hullPoint 4 (some .int) ∈ wT := wT_t 1497 (by decide +kernel) rfl
theorem qm_Law_207 : Cond.methodLink RL 207 yL_twiceArea ∈ wT := wT_t 943 (by decide +kernel) rfl
theorem qt_Law_twiceArea : Cond.static yL_twiceArea ∈ wT := wT_t 944 (by decide +kernel) rfl
theorem qm_Law_209 : Cond.methodLink RL 209 yX7_twiceArea ∈ wT := wT_t 1498 (by decide +kernel) rfl
theorem qi_Mod_twiceArea : Cond.instanceMethod yX7_twiceArea ∈ wT := wT_t 1499 (by decide +kernel) rfl
theorem qs_Mod_twiceArea : Cond.selects RX7 yX7_twiceArea yX7_twiceArea ∈ wT := wT_t 1500 (by decide +kernel) rfl
theorem qc_Mod_twiceArea : Cond.code yX7_twiceArea cX7_twiceArea 2 (some .int) ∈ wT := wT_t 1501 (by decide +kernel) rfl
theorem qm_Law_210 : Cond.methodLink RL 210 yL_areaShare ∈ wT := wT_t 957 (by decide +kernel) rfl
theorem qt_Law_areaShare : Cond.static yL_areaShare ∈ wT := wT_t 958 (by decide +kernel) rfl
theorem qm_Law_213 : Cond.methodLink RL 213 yX7_areaShare ∈ wT := wT_t 1506 (by decide +kernel) rfl
theorem qi_Mod_areaShare : Cond.instanceMethod yX7_areaShare ∈ wT := wT_t 1507 (by decide +kernel) rfl
theorem qs_Mod_areaShare : Cond.selects RX7 yX7_areaShare yX7_areaShare ∈ wT := wT_t 1508 (by decide +kernel) rfl
theorem qc_Mod_areaShare : Cond.code yX7_areaShare cX7_areaShare 4 (some .double) ∈ wT := wT_t 1509 (by decide +kernel) rfl
theorem qm_Law_214 : Cond.methodLink RL 214 yL_meanDegree ∈ wT := wT_t 969 (by decide +kernel) rfl
theorem qt_Law_meanDegree : Cond.static yL_meanDegree ∈ wT := wT_t 970 (by decide +kernel) rfl
theorem qm_Law_217 : Cond.methodLink RL 217 yX7_meanDegree ∈ wT := wT_t 1510 (by decide +kernel) rfl
theorem qi_Mod_meanDegree : Cond.instanceMethod yX7_meanDegree ∈ wT := wT_t 1511 (by decide +kernel) rfl
theorem qs_Mod_meanDegree : Cond.selects RX7 yX7_meanDegree yX7_meanDegree ∈ wT := wT_t 1512 (by decide +kernel) rfl
theorem qc_Mod_meanDegree : Cond.code yX7_meanDegree cX7_meanDegree 1 (some .double) ∈ wT := wT_t 1513 (by decide +kernel) rfl
theorem qm_Law_218 : Cond.methodLink RL 218 yL_squaredLength ∈ wT := wT_t 977 (by decide +kernel) rfl
theorem qt_Law_squaredLength : Cond.static yL_squaredLength ∈ wT := wT_t 978 (by decide +kernel) rfl
theorem qm_Law_220 : Cond.methodLink RL 220 yX7_squaredLength ∈ wT := wT_t 1514 (by decide +kernel) rfl
theorem qi_Mod_squaredLength : Cond.instanceMethod yX7_squaredLength ∈ wT := wT_t 1515 (by decide +kernel) rfl
theorem qs_Mod_squaredLength : Cond.selects RX7 yX7_squaredLength yX7_squaredLength ∈ wT := wT_t 1516 (by decide +kernel) rfl
theorem qc_Mod_squaredLength : Cond.code yX7_squaredLength cX7_squaredLength 5 (some .int) ∈ wT := wT_t 1517 (by decide +kernel) rfl
theorem qm_Law_221 : Cond.methodLink RL 221 yL_turn ∈ wT := wT_t 1007 (by decide +kernel) rfl
theorem qt_Law_turn : Cond.static yL_turn ∈ wT := wT_t 1008 (by decide +kernel) rfl
theorem qm_Law_223 : Cond.methodLink RL 223 yX7_turn ∈ wT := wT_t 1527 (by decide +kernel) rfl
theorem qi_Mod_turn : Cond.instanceMethod yX7_turn ∈ wT := wT_t 1528 (by decide +kernel) rfl
theorem qs_Mod_turn : Cond.selects RX7 yX7_turn yX7_turn ∈ wT := wT_t 1529 (by decide +kernel) rfl
theorem qc_Mod_turn : Cond.code yX7_turn cX7_turn 4 (some .int) ∈ wT := wT_t 1530 (by decide +kernel) rfl
theorem qm_Law_224 : Cond.methodLink RL 224 yL_inCircle ∈ wT := wT_t 1015 (by decide +kernel) rfl
theorem qt_Law_inCircle : Cond.static yL_inCircle ∈ wT := wT_t 1016 (by decide +kernel) rfl
theorem qm_Law_227 : Cond.methodLink RL 227 yX7_inCircle ∈ wT := wT_t 1531 (by decide +kernel) rfl
theorem qi_Mod_inCircle : Cond.instanceMethod yX7_inCircle ∈ wT := wT_t 1532 (by decide +kernel) rfl
theorem qs_Mod_inCircle : Cond.selects RX7 yX7_inCircle yX7_inCircle ∈ wT := wT_t 1533 (by decide +kernel) rfl
theorem qc_Mod_inCircle : Cond.code yX7_inCircle cX7_inCircle 5 (some .int) ∈ wT := wT_t 1534 (by decide +kernel) rfl
theorem qm_Law_228 : Cond.methodLink RL 228 yL_isGood ∈ wT := wT_t 1040 (by decide +kernel) rfl
theorem qt_Law_isGood : Cond.static yL_isGood ∈ wT := wT_t 1041 (by decide +kernel) rfl
theorem qm_Law_230 : Cond.methodLink RL 230 yX7_isGood ∈ wT := wT_t 1535 (by decide +kernel) rfl
theorem qi_Mod_isGood : Cond.instanceMethod yX7_isGood ∈ wT := wT_t 1536 (by decide +kernel) rfl
theorem qs_Mod_isGood : Cond.selects RX7 yX7_isGood yX7_isGood ∈ wT := wT_t 1537 (by decide +kernel) rfl
theorem qc_Mod_isGood : Cond.code yX7_isGood cX7_isGood 3 (some .boolean) ∈ wT := wT_t 1538 (by decide +kernel) rfl
theorem qm_Law_231 : Cond.methodLink RL 231 yX6_forcedConstraints ∈ wT := wT_t 531 (by decide +kernel) rfl
theorem qi_Top_forcedConstraints : Cond.instanceMethod yX6_forcedConstraints ∈ wT := wT_t 532 (by decide +kernel) rfl
theorem qs_Top_forcedConstraints : Cond.selects RX6 yX6_forcedConstraints yX6_forcedConstraints ∈ wT := wT_t 533 (by decide +kernel) rfl
theorem qc_Top_forcedConstraints : Cond.code yX6_forcedConstraints cX6_forcedConstraints 5 (some .int) ∈ wT := wT_t 534 (by decide +kernel) rfl
theorem qm_Law_234 : Cond.methodLink RL 234 yX7_forcedConstraints ∈ wT := wT_t 1543 (by decide +kernel) rfl
theorem qi_Mod_forcedConstraints : Cond.instanceMethod yX7_forcedConstraints ∈ wT := wT_t 1544 (by decide +kernel) rfl
theorem qs_Mod_forcedConstraints : Cond.selects RX7 yX7_forcedConstraints yX7_forcedConstraints ∈ wT := wT_t 1545 (by decide +kernel) rfl
theorem qc_Mod_forcedConstraints : Cond.code yX7_forcedConstraints cX7_forcedConstraints 3 (some .int) ∈ wT := wT_t 1546 (by decide +kernel) rfl
theorem qm_Law_235 : Cond.methodLink RL 235 yL_kindAt ∈ wT := wT_t 1048 (by decide +kernel) rfl
theorem qt_Law_kindAt : Cond.static yL_kindAt ∈ wT := wT_t 1049 (by decide +kernel) rfl
theorem qm_Law_237 : Cond.methodLink RL 237 yX7_kindAt ∈ wT := wT_t 1547 (by decide +kernel) rfl
theorem qi_Mod_kindAt : Cond.instanceMethod yX7_kindAt ∈ wT := wT_t 1548 (by decide +kernel) rfl
theorem qs_Mod_kindAt : Cond.selects RX7 yX7_kindAt yX7_kindAt ∈ wT := wT_t 1549 (by decide +kernel) rfl
theorem qc_Mod_kindAt : Cond.code yX7_kindAt cX7_kindAt 3 (some .int) ∈ wT := wT_t 1550 (by decide +kernel) rfl
theorem qm_Law_238 : Cond.methodLink RL 238 yL_numberAt ∈ wT := wT_t 1072 (by decide +kernel) rfl
theorem qt_Law_numberAt : Cond.static yL_numberAt ∈ wT := wT_t 1073 (by decide +kernel) rfl
theorem qm_Law_240 : Cond.methodLink RL 240 yX7_numberAt ∈ wT := wT_t 1559 (by decide +kernel) rfl
theorem qi_Mod_numberAt : Cond.instanceMethod yX7_numberAt ∈ wT := wT_t 1560 (by decide +kernel) rfl
theorem qs_Mod_numberAt : Cond.selects RX7 yX7_numberAt yX7_numberAt ∈ wT := wT_t 1561 (by decide +kernel) rfl
theorem qc_Mod_numberAt : Cond.code yX7_numberAt cX7_numberAt 4 (some .int) ∈ wT := wT_t 1562 (by decide +kernel) rfl
theorem qm_Law_241 : Cond.methodLink RL 241 yL_walk ∈ wT := wT_t 1080 (by decide +kernel) rfl
theorem qt_Law_walk : Cond.static yL_walk ∈ wT := wT_t 1081 (by decide +kernel) rfl
theorem qm_Law_244 : Cond.methodLink RL 244 yX7_walk ∈ wT := wT_t 1563 (by decide +kernel) rfl
theorem qi_Mod_walk : Cond.instanceMethod yX7_walk ∈ wT := wT_t 1564 (by decide +kernel) rfl
theorem qs_Mod_walk : Cond.selects RX7 yX7_walk yX7_walk ∈ wT := wT_t 1565 (by decide +kernel) rfl
theorem qc_Mod_walk : Cond.code yX7_walk cX7_walk 9 (some .int) ∈ wT := wT_t 1566 (by decide +kernel) rfl
theorem qm_Law_245 : Cond.methodLink RL 245 yL_cavity ∈ wT := wT_t 1088 (by decide +kernel) rfl
theorem qt_Law_cavity : Cond.static yL_cavity ∈ wT := wT_t 1089 (by decide +kernel) rfl
theorem qm_Law_247 : Cond.methodLink RL 247 yX7_cavity ∈ wT := wT_t 1567 (by decide +kernel) rfl
theorem qi_Mod_cavity : Cond.instanceMethod yX7_cavity ∈ wT := wT_t 1568 (by decide +kernel) rfl
theorem qs_Mod_cavity : Cond.selects RX7 yX7_cavity yX7_cavity ∈ wT := wT_t 1569 (by decide +kernel) rfl
theorem qc_Mod_cavity : Cond.code yX7_cavity cX7_cavity 6 (some .int) ∈ wT := wT_t 1570 (by decide +kernel) rfl
theorem qm_Law_248 : Cond.methodLink RL 248 yL_hole ∈ wT := wT_t 1099 (by decide +kernel) rfl
theorem qt_Law_hole : Cond.static yL_hole ∈ wT := wT_t 1100 (by decide +kernel) rfl
theorem qm_Law_250 : Cond.methodLink RL 250 yX7_hole ∈ wT := wT_t 1579 (by decide +kernel) rfl
theorem qi_Mod_hole : Cond.instanceMethod yX7_hole ∈ wT := wT_t 1580 (by decide +kernel) rfl
theorem qs_Mod_hole : Cond.selects RX7 yX7_hole yX7_hole ∈ wT := wT_t 1581 (by decide +kernel) rfl
theorem qc_Mod_hole : Cond.code yX7_hole cX7_hole 8 (some .int) ∈ wT := wT_t 1582 (by decide +kernel) rfl
theorem qm_Law_251 : Cond.methodLink RL 251 yL_crossings ∈ wT := wT_t 1109 (by decide +kernel) rfl
theorem qt_Law_crossings : Cond.static yL_crossings ∈ wT := wT_t 1110 (by decide +kernel) rfl
theorem qm_Law_253 : Cond.methodLink RL 253 yX7_crossings ∈ wT := wT_t 1583 (by decide +kernel) rfl
theorem qi_Mod_crossings : Cond.instanceMethod yX7_crossings ∈ wT := wT_t 1584 (by decide +kernel) rfl
theorem qs_Mod_crossings : Cond.selects RX7 yX7_crossings yX7_crossings ∈ wT := wT_t 1585 (by decide +kernel) rfl
theorem qc_Mod_crossings : Cond.code yX7_crossings cX7_crossings 6 (some .int) ∈ wT := wT_t 1586 (by decide +kernel) rfl
theorem qm_Law_254 : Cond.methodLink RL 254 yL_effect ∈ wT := wT_t 1124 (by decide +kernel) rfl
theorem qt_Law_effect : Cond.static yL_effect ∈ wT := wT_t 1125 (by decide +kernel) rfl
theorem qm_Law_256 : Cond.methodLink RL 256 yX7_effect ∈ wT := wT_t 1587 (by decide +kernel) rfl
theorem qi_Mod_effect : Cond.instanceMethod yX7_effect ∈ wT := wT_t 1588 (by decide +kernel) rfl
theorem qs_Mod_effect : Cond.selects RX7 yX7_effect yX7_effect ∈ wT := wT_t 1589 (by decide +kernel) rfl
theorem qc_Mod_effect : Cond.code yX7_effect cX7_effect 5 (some .int) ∈ wT := wT_t 1590 (by decide +kernel) rfl
theorem qm_Law_257 : Cond.methodLink RL 257 yL_undo ∈ wT := wT_t 1131 (by decide +kernel) rfl
theorem qt_Law_undo : Cond.static yL_undo ∈ wT := wT_t 1132 (by decide +kernel) rfl
theorem qm_Law_260 : Cond.methodLink RL 260 yX7_undo ∈ wT := wT_t 1591 (by decide +kernel) rfl
theorem qi_Mod_undo : Cond.instanceMethod yX7_undo ∈ wT := wT_t 1592 (by decide +kernel) rfl
theorem qs_Mod_undo : Cond.selects RX7 yX7_undo yX7_undo ∈ wT := wT_t 1593 (by decide +kernel) rfl
theorem qc_Mod_undo : Cond.code yX7_undo cX7_undo 2 (some .int) ∈ wT := wT_t 1594 (by decide +kernel) rfl
theorem qm_Law_261 : Cond.methodLink RL 261 yX6_save ∈ wT := wT_t 539 (by decide +kernel) rfl
theorem qi_Top_save : Cond.instanceMethod yX6_save ∈ wT := wT_t 540 (by decide +kernel) rfl
theorem qs_Top_save : Cond.selects RX6 yX6_save yX6_save ∈ wT := wT_t 541 (by decide +kernel) rfl
theorem qc_Top_save : Cond.code yX6_save cX6_save 1 (some .int) ∈ wT := wT_t 542 (by decide +kernel) rfl
theorem qm_Law_264 : Cond.methodLink RL 264 yX7_save ∈ wT := wT_t 1595 (by decide +kernel) rfl
theorem qi_Mod_save : Cond.instanceMethod yX7_save ∈ wT := wT_t 1596 (by decide +kernel) rfl
theorem qs_Mod_save : Cond.selects RX7 yX7_save yX7_save ∈ wT := wT_t 1597 (by decide +kernel) rfl
theorem qc_Mod_save : Cond.code yX7_save cX7_save 2 (some .int) ∈ wT := wT_t 1598 (by decide +kernel) rfl
theorem qm_Law_265 : Cond.methodLink RL 265 yL_restore ∈ wT := wT_t 1148 (by decide +kernel) rfl
theorem qt_Law_restore : Cond.static yL_restore ∈ wT := wT_t 1149 (by decide +kernel) rfl
theorem qm_Law_267 : Cond.methodLink RL 267 yX7_restore ∈ wT := wT_t 1599 (by decide +kernel) rfl
theorem qi_Mod_restore : Cond.instanceMethod yX7_restore ∈ wT := wT_t 1600 (by decide +kernel) rfl
theorem qs_Mod_restore : Cond.selects RX7 yX7_restore yX7_restore ∈ wT := wT_t 1601 (by decide +kernel) rfl
theorem qc_Mod_restore : Cond.code yX7_restore cX7_restore 2 (some .int) ∈ wT := wT_t 1602 (by decide +kernel) rfl
theorem hd_Mod_thrown : yX7_thrown.cls = RX7 ∧ yX7_thrown.cls ≠ "java/lang/invoke/MethodHandle" ∧ yX7_thrown.cls ≠ "java/lang/invoke/VarHandle" ∧ (parseMethodDescriptor yX7_thrown.desc).map (fun d => d.parameters.length) = some 0 := by decide +kernel
theorem hd_Mod_removePoint : yX7_removePoint.cls = RX7 ∧ yX7_removePoint.cls ≠ "java/lang/invoke/MethodHandle" ∧ yX7_removePoint.cls ≠ "java/lang/invoke/VarHandle" ∧ (parseMethodDescriptor yX7_removePoint.desc).map (fun d => d.parameters.length) = some 1 := by decide +kernel
theorem hd_Mod_movePoint : yX7_movePoint.cls = RX7 ∧ yX7_movePoint.cls ≠ "java/lang/invoke/MethodHandle" ∧ yX7_movePoint.cls ≠ "java/lang/invoke/VarHandle" ∧ (parseMethodDescriptor yX7_movePoint.desc).map (fun d => d.parameters.length) = some 3 := by decide +kernel
theorem hd_Top_pointCount : yX6_pointCount.cls = RX6 ∧ yX6_pointCount.cls ≠ "java/lang/invoke/MethodHandle" ∧ yX6_pointCount.cls ≠ "java/lang/invoke/VarHandle" ∧ (parseMethodDescriptor yX6_pointCount.desc).map (fun d => d.parameters.length) = some 0 := by decide +kernel
theorem hd_Mod_pointCount : yX7_pointCount.cls = RX7 ∧ yX7_pointCount.cls ≠ "java/lang/invoke/MethodHandle" ∧ yX7_pointCount.cls ≠ "java/lang/invoke/VarHandle" ∧ (parseMethodDescriptor yX7_pointCount.desc).map (fun d => d.parameters.length) = some 0 := by decide +kernel
theorem hd_Mod_coordinate : yX7_coordinate.cls = RX7 ∧ yX7_coordinate.cls ≠ "java/lang/invoke/MethodHandle" ∧ yX7_coordinate.cls ≠ "java/lang/invoke/VarHandle" ∧ (parseMethodDescriptor yX7_coordinate.desc).map (fun d => d.parameters.length) = some 2 := by decide +kernel
theorem hd_Mod_removeConstraint : yX7_removeConstraint.cls = RX7 ∧ yX7_removeConstraint.cls ≠ "java/lang/invoke/MethodHandle" ∧ yX7_removeConstraint.cls ≠ "java/lang/invoke/VarHandle" ∧ (parseMethodDescriptor yX7_removeConstraint.desc).map (fun d => d.parameters.length) = some 1 := by decide +kernel
theorem hd_Top_constraintCount : yX6_constraintCount.cls = RX6 ∧ yX6_constraintCount.cls ≠ "java/lang/invoke/MethodHandle" ∧ yX6_constraintCount.cls ≠ "java/lang/invoke/VarHandle" ∧ (parseMethodDescriptor yX6_constraintCount.desc).map (fun d => d.parameters.length) = some 0 := by decide +kernel
theorem hd_Mod_constraintCount : yX7_constraintCount.cls = RX7 ∧ yX7_constraintCount.cls ≠ "java/lang/invoke/MethodHandle" ∧ yX7_constraintCount.cls ≠ "java/lang/invoke/VarHandle" ∧ (parseMethodDescriptor yX7_constraintCount.desc).map (fun d => d.parameters.length) = some 0 := by decide +kernel
theorem hd_Mod_constraintEnd : yX7_constraintEnd.cls = RX7 ∧ yX7_constraintEnd.cls ≠ "java/lang/invoke/MethodHandle" ∧ yX7_constraintEnd.cls ≠ "java/lang/invoke/VarHandle" ∧ (parseMethodDescriptor yX7_constraintEnd.desc).map (fun d => d.parameters.length) = some 2 := by decide +kernel
theorem hd_Mod_feed : yX7_feed.cls = RX7 ∧ yX7_feed.cls ≠ "java/lang/invoke/MethodHandle" ∧ yX7_feed.cls ≠ "java/lang/invoke/VarHandle" ∧ (parseMethodDescriptor yX7_feed.desc).map (fun d => d.parameters.length) = some 1 := by decide +kernel
theorem hd_Top_readInput : yX6_readInput.cls = RX6 ∧ yX6_readInput.cls ≠ "java/lang/invoke/MethodHandle" ∧ yX6_readInput.cls ≠ "java/lang/invoke/VarHandle" ∧ (parseMethodDescriptor yX6_readInput.desc).map (fun d => d.parameters.length) = some 0 := by decide +kernel
theorem hd_Mod_readInput : yX7_readInput.cls = RX7 ∧ yX7_readInput.cls ≠ "java/lang/invoke/MethodHandle" ∧ yX7_readInput.cls ≠ "java/lang/invoke/VarHandle" ∧ (parseMethodDescriptor yX7_readInput.desc).map (fun d => d.parameters.length) = some 0 := by decide +kernel
theorem hd_Top_triangleCount : yX6_triangleCount.cls = RX6 ∧ yX6_triangleCount.cls ≠ "java/lang/invoke/MethodHandle" ∧ yX6_triangleCount.cls ≠ "java/lang/invoke/VarHandle" ∧ (parseMethodDescriptor yX6_triangleCount.desc).map (fun d => d.parameters.length) = some 0 := by decide +kernel
theorem hd_Mod_triangleCount : yX7_triangleCount.cls = RX7 ∧ yX7_triangleCount.cls ≠ "java/lang/invoke/MethodHandle" ∧ yX7_triangleCount.cls ≠ "java/lang/invoke/VarHandle" ∧ (parseMethodDescriptor yX7_triangleCount.desc).map (fun d => d.parameters.length) = some 0 := by decide +kernel
theorem hd_Mod_corner : yX7_corner.cls = RX7 ∧ yX7_corner.cls ≠ "java/lang/invoke/MethodHandle" ∧ yX7_corner.cls ≠ "java/lang/invoke/VarHandle" ∧ (parseMethodDescriptor yX7_corner.desc).map (fun d => d.parameters.length) = some 2 := by decide +kernel
theorem hd_Mod_beyond : yX7_beyond.cls = RX7 ∧ yX7_beyond.cls ≠ "java/lang/invoke/MethodHandle" ∧ yX7_beyond.cls ≠ "java/lang/invoke/VarHandle" ∧ (parseMethodDescriptor yX7_beyond.desc).map (fun d => d.parameters.length) = some 2 := by decide +kernel
theorem hd_Top_edgeCount : yX6_edgeCount.cls = RX6 ∧ yX6_edgeCount.cls ≠ "java/lang/invoke/MethodHandle" ∧ yX6_edgeCount.cls ≠ "java/lang/invoke/VarHandle" ∧ (parseMethodDescriptor yX6_edgeCount.desc).map (fun d => d.parameters.length) = some 0 := by decide +kernel
theorem hd_Mod_edgeCount : yX7_edgeCount.cls = RX7 ∧ yX7_edgeCount.cls ≠ "java/lang/invoke/MethodHandle" ∧ yX7_edgeCount.cls ≠ "java/lang/invoke/VarHandle" ∧ (parseMethodDescriptor yX7_edgeCount.desc).map (fun d => d.parameters.length) = some 0 := by decide +kernel
theorem hd_Mod_edgeEnd : yX7_edgeEnd.cls = RX7 ∧ yX7_edgeEnd.cls ≠ "java/lang/invoke/MethodHandle" ∧ yX7_edgeEnd.cls ≠ "java/lang/invoke/VarHandle" ∧ (parseMethodDescriptor yX7_edgeEnd.desc).map (fun d => d.parameters.length) = some 2 := by decide +kernel
theorem hd_Mod_edgeBetween : yX7_edgeBetween.cls = RX7 ∧ yX7_edgeBetween.cls ≠ "java/lang/invoke/MethodHandle" ∧ yX7_edgeBetween.cls ≠ "java/lang/invoke/VarHandle" ∧ (parseMethodDescriptor yX7_edgeBetween.desc).map (fun d => d.parameters.length) = some 2 := by decide +kernel
theorem hd_Mod_degree : yX7_degree.cls = RX7 ∧ yX7_degree.cls ≠ "java/lang/invoke/MethodHandle" ∧ yX7_degree.cls ≠ "java/lang/invoke/VarHandle" ∧ (parseMethodDescriptor yX7_degree.desc).map (fun d => d.parameters.length) = some 1 := by decide +kernel
theorem hd_Mod_neighbour : yX7_neighbour.cls = RX7 ∧ yX7_neighbour.cls ≠ "java/lang/invoke/MethodHandle" ∧ yX7_neighbour.cls ≠ "java/lang/invoke/VarHandle" ∧ (parseMethodDescriptor yX7_neighbour.desc).map (fun d => d.parameters.length) = some 2 := by decide +kernel
theorem hd_Top_hullSize : yX6_hullSize.cls = RX6 ∧ yX6_hullSize.cls ≠ "java/lang/invoke/MethodHandle" ∧ yX6_hullSize.cls ≠ "java/lang/invoke/VarHandle" ∧ (parseMethodDescriptor yX6_hullSize.desc).map (fun d => d.parameters.length) = some 0 := by decide +kernel
theorem hd_Mod_hullSize : yX7_hullSize.cls = RX7 ∧ yX7_hullSize.cls ≠ "java/lang/invoke/MethodHandle" ∧ yX7_hullSize.cls ≠ "java/lang/invoke/VarHandle" ∧ (parseMethodDescriptor yX7_hullSize.desc).map (fun d => d.parameters.length) = some 0 := by decide +kernel
theorem hd_Mod_hullPoint : yX7_hullPoint.cls = RX7 ∧ yX7_hullPoint.cls ≠ "java/lang/invoke/MethodHandle" ∧ yX7_hullPoint.cls ≠ "java/lang/invoke/VarHandle" ∧ (parseMethodDescriptor yX7_hullPoint.desc).map (fun d => d.parameters.length) = some 1 := by decide +kernel
theorem hd_Mod_twiceArea : yX7_twiceArea.cls = RX7 ∧ yX7_twiceArea.cls ≠ "java/lang/invoke/MethodHandle" ∧ yX7_twiceArea.cls ≠ "java/lang/invoke/VarHandle" ∧ (parseMethodDescriptor yX7_twiceArea.desc).map (fun d => d.parameters.length) = some 1 := by decide +kernel
theorem hd_Mod_areaShare : yX7_areaShare.cls = RX7 ∧ yX7_areaShare.cls ≠ "java/lang/invoke/MethodHandle" ∧ yX7_areaShare.cls ≠ "java/lang/invoke/VarHandle" ∧ (parseMethodDescriptor yX7_areaShare.desc).map (fun d => d.parameters.length) = some 1 := by decide +kernel
theorem hd_Mod_meanDegree : yX7_meanDegree.cls = RX7 ∧ yX7_meanDegree.cls ≠ "java/lang/invoke/MethodHandle" ∧ yX7_meanDegree.cls ≠ "java/lang/invoke/VarHandle" ∧ (parseMethodDescriptor yX7_meanDegree.desc).map (fun d => d.parameters.length) = some 0 := by decide +kernel
theorem hd_Mod_squaredLength : yX7_squaredLength.cls = RX7 ∧ yX7_squaredLength.cls ≠ "java/lang/invoke/MethodHandle" ∧ yX7_squaredLength.cls ≠ "java/lang/invoke/VarHandle" ∧ (parseMethodDescriptor yX7_squaredLength.desc).map (fun d => d.parameters.length) = some 1 := by decide +kernel
theorem hd_Mod_turn : yX7_turn.cls = RX7 ∧ yX7_turn.cls ≠ "java/lang/invoke/MethodHandle" ∧ yX7_turn.cls ≠ "java/lang/invoke/VarHandle" ∧ (parseMethodDescriptor yX7_turn.desc).map (fun d => d.parameters.length) = some 3 := by decide +kernel
theorem hd_Mod_inCircle : yX7_inCircle.cls = RX7 ∧ yX7_inCircle.cls ≠ "java/lang/invoke/MethodHandle" ∧ yX7_inCircle.cls ≠ "java/lang/invoke/VarHandle" ∧ (parseMethodDescriptor yX7_inCircle.desc).map (fun d => d.parameters.length) = some 4 := by decide +kernel
theorem hd_Mod_isGood : yX7_isGood.cls = RX7 ∧ yX7_isGood.cls ≠ "java/lang/invoke/MethodHandle" ∧ yX7_isGood.cls ≠ "java/lang/invoke/VarHandle" ∧ (parseMethodDescriptor yX7_isGood.desc).map (fun d => d.parameters.length) = some 1 := by decide +kernel
theorem hd_Top_forcedConstraints : yX6_forcedConstraints.cls = RX6 ∧ yX6_forcedConstraints.cls ≠ "java/lang/invoke/MethodHandle" ∧ yX6_forcedConstraints.cls ≠ "java/lang/invoke/VarHandle" ∧ (parseMethodDescriptor yX6_forcedConstraints.desc).map (fun d => d.parameters.length) = some 0 := by decide +kernel
theorem hd_Mod_forcedConstraints : yX7_forcedConstraints.cls = RX7 ∧ yX7_forcedConstraints.cls ≠ "java/lang/invoke/MethodHandle" ∧ yX7_forcedConstraints.cls ≠ "java/lang/invoke/VarHandle" ∧ (parseMethodDescriptor yX7_forcedConstraints.desc).map (fun d => d.parameters.length) = some 0 := by decide +kernel
theorem hd_Mod_kindAt : yX7_kindAt.cls = RX7 ∧ yX7_kindAt.cls ≠ "java/lang/invoke/MethodHandle" ∧ yX7_kindAt.cls ≠ "java/lang/invoke/VarHandle" ∧ (parseMethodDescriptor yX7_kindAt.desc).map (fun d => d.parameters.length) = some 2 := by decide +kernel
theorem hd_Mod_numberAt : yX7_numberAt.cls = RX7 ∧ yX7_numberAt.cls ≠ "java/lang/invoke/MethodHandle" ∧ yX7_numberAt.cls ≠ "java/lang/invoke/VarHandle" ∧ (parseMethodDescriptor yX7_numberAt.desc).map (fun d => d.parameters.length) = some 2 := by decide +kernel
theorem hd_Mod_walk : yX7_walk.cls = RX7 ∧ yX7_walk.cls ≠ "java/lang/invoke/MethodHandle" ∧ yX7_walk.cls ≠ "java/lang/invoke/VarHandle" ∧ (parseMethodDescriptor yX7_walk.desc).map (fun d => d.parameters.length) = some 4 := by decide +kernel
theorem hd_Mod_cavity : yX7_cavity.cls = RX7 ∧ yX7_cavity.cls ≠ "java/lang/invoke/MethodHandle" ∧ yX7_cavity.cls ≠ "java/lang/invoke/VarHandle" ∧ (parseMethodDescriptor yX7_cavity.desc).map (fun d => d.parameters.length) = some 2 := by decide +kernel
theorem hd_Mod_hole : yX7_hole.cls = RX7 ∧ yX7_hole.cls ≠ "java/lang/invoke/MethodHandle" ∧ yX7_hole.cls ≠ "java/lang/invoke/VarHandle" ∧ (parseMethodDescriptor yX7_hole.desc).map (fun d => d.parameters.length) = some 1 := by decide +kernel
theorem hd_Mod_crossings : yX7_crossings.cls = RX7 ∧ yX7_crossings.cls ≠ "java/lang/invoke/MethodHandle" ∧ yX7_crossings.cls ≠ "java/lang/invoke/VarHandle" ∧ (parseMethodDescriptor yX7_crossings.desc).map (fun d => d.parameters.length) = some 2 := by decide +kernel
theorem hd_Mod_effect : yX7_effect.cls = RX7 ∧ yX7_effect.cls ≠ "java/lang/invoke/MethodHandle" ∧ yX7_effect.cls ≠ "java/lang/invoke/VarHandle" ∧ (parseMethodDescriptor yX7_effect.desc).map (fun d => d.parameters.length) = some 1 := by decide +kernel
theorem hd_Mod_undo : yX7_undo.cls = RX7 ∧ yX7_undo.cls ≠ "java/lang/invoke/MethodHandle" ∧ yX7_undo.cls ≠ "java/lang/invoke/VarHandle" ∧ (parseMethodDescriptor yX7_undo.desc).map (fun d => d.parameters.length) = some 0 := by decide +kernel
theorem hd_Top_save : yX6_save.cls = RX6 ∧ yX6_save.cls ≠ "java/lang/invoke/MethodHandle" ∧ yX6_save.cls ≠ "java/lang/invoke/VarHandle" ∧ (parseMethodDescriptor yX6_save.desc).map (fun d => d.parameters.length) = some 0 := by decide +kernel
theorem hd_Mod_save : yX7_save.cls = RX7 ∧ yX7_save.cls ≠ "java/lang/invoke/MethodHandle" ∧ yX7_save.cls ≠ "java/lang/invoke/VarHandle" ∧ (parseMethodDescriptor yX7_save.desc).map (fun d => d.parameters.length) = some 0 := by decide +kernel
theorem hd_Mod_restore : yX7_restore.cls = RX7 ∧ yX7_restore.cls ≠ "java/lang/invoke/MethodHandle" ∧ yX7_restore.cls ≠ "java/lang/invoke/VarHandle" ∧ (parseMethodDescriptor yX7_restore.desc).map (fun d => d.parameters.length) = some 0 := by decide +kernel
theorem g_Law_134 : GoodIn wT (wsV RL 134 RX7 yX7_addPoint (wsM yX7_addPoint cX7_addPoint 3 (some .int))) := gV qm_Law_134 qi_Mod_addPoint qs_Mod_addPoint qn_Mod qc_Mod_addPoint
theorem g_Law_135 : GoodIn wT (wsV RL 135 RX7 yX7_thrown (wsM yX7_thrown cX7_thrown 1 (some .int))) := gV qm_Law_135 qi_Mod_thrown qs_Mod_thrown qn_Mod qc_Mod_thrown
theorem g_Law_141 : GoodIn wT (wsV RL 141 RX7 yX7_removePoint (wsM yX7_removePoint cX7_removePoint 2 (some .int))) := gV qm_Law_141 qi_Mod_removePoint qs_Mod_removePoint qn_Mod qc_Mod_removePoint
theorem g_Law_145 : GoodIn wT (wsV RL 145 RX7 yX7_movePoint (wsM yX7_movePoint cX7_movePoint 5 (some .boolean))) := gV qm_Law_145 qi_Mod_movePoint qs_Mod_movePoint qn_Mod qc_Mod_movePoint
theorem g_Law_146 : GoodIn wT (wsV RL 146 RX6 yX6_pointCount (wsM yX6_pointCount cX6_pointCount 1 (some .int))) := gV qm_Law_146 qi_Top_pointCount qs_Top_pointCount qn_Top qc_Top_pointCount
theorem g_Law_149 : GoodIn wT (wsV RL 149 RX7 yX7_pointCount (wsM yX7_pointCount cX7_pointCount 1 (some .int))) := gV qm_Law_149 qi_Mod_pointCount qs_Mod_pointCount qn_Mod qc_Mod_pointCount
theorem g_Law_152 : GoodIn wT (wsV RL 152 RX7 yX7_coordinate (wsM yX7_coordinate cX7_coordinate 3 (some .int))) := gV qm_Law_152 qi_Mod_coordinate qs_Mod_coordinate qn_Mod qc_Mod_coordinate
theorem g_Law_155 : GoodIn wT (wsV RL 155 RX7 yX7_addConstraint (wsM yX7_addConstraint cX7_addConstraint 4 (some .int))) := gV qm_Law_155 qi_Mod_addConstraint qs_Mod_addConstraint qn_Mod qc_Mod_addConstraint
theorem g_Law_158 : GoodIn wT (wsV RL 158 RX7 yX7_removeConstraint (wsM yX7_removeConstraint cX7_removeConstraint 2 (some .int))) := gV qm_Law_158 qi_Mod_removeConstraint qs_Mod_removeConstraint qn_Mod qc_Mod_removeConstraint
theorem g_Law_159 : GoodIn wT (wsV RL 159 RX6 yX6_constraintCount (wsM yX6_constraintCount cX6_constraintCount 1 (some .int))) := gV qm_Law_159 qi_Top_constraintCount qs_Top_constraintCount qn_Top qc_Top_constraintCount
theorem g_Law_162 : GoodIn wT (wsV RL 162 RX7 yX7_constraintCount (wsM yX7_constraintCount cX7_constraintCount 1 (some .int))) := gV qm_Law_162 qi_Mod_constraintCount qs_Mod_constraintCount qn_Mod qc_Mod_constraintCount
theorem g_Law_165 : GoodIn wT (wsV RL 165 RX7 yX7_constraintEnd (wsM yX7_constraintEnd cX7_constraintEnd 3 (some .int))) := gV qm_Law_165 qi_Mod_constraintEnd qs_Mod_constraintEnd qn_Mod qc_Mod_constraintEnd
theorem g_Law_169 : GoodIn wT (wsV RL 169 RX7 yX7_feed (wsM yX7_feed cX7_feed 2 (some .int))) := gV qm_Law_169 qi_Mod_feed qs_Mod_feed qn_Mod qc_Mod_feed
theorem g_Law_170 : GoodIn wT (wsV RL 170 RX6 yX6_readInput (wsM yX6_readInput cX6_readInput 3 (some .int))) := gV qm_Law_170 qi_Top_readInput qs_Top_readInput qn_Top qc_Top_readInput
theorem g_Law_173 : GoodIn wT (wsV RL 173 RX7 yX7_readInput (wsM yX7_readInput cX7_readInput 3 (some .int))) := gV qm_Law_173 qi_Mod_readInput qs_Mod_readInput qn_Mod qc_Mod_readInput
theorem g_Law_174 : GoodIn wT (wsV RL 174 RX6 yX6_triangleCount (wsM yX6_triangleCount cX6_triangleCount 1 (some .int))) := gV qm_Law_174 qi_Top_triangleCount qs_Top_triangleCount qn_Top qc_Top_triangleCount
theorem g_Law_177 : GoodIn wT (wsV RL 177 RX7 yX7_triangleCount (wsM yX7_triangleCount cX7_triangleCount 1 (some .int))) := gV qm_Law_177 qi_Mod_triangleCount qs_Mod_triangleCount qn_Mod qc_Mod_triangleCount
theorem g_Law_180 : GoodIn wT (wsV RL 180 RX7 yX7_corner (wsM yX7_corner cX7_corner 3 (some .int))) := gV qm_Law_180 qi_Mod_corner qs_Mod_corner qn_Mod qc_Mod_corner
theorem g_Law_183 : GoodIn wT (wsV RL 183 RX7 yX7_beyond (wsM yX7_beyond cX7_beyond 3 (some .int))) := gV qm_Law_183 qi_Mod_beyond qs_Mod_beyond qn_Mod qc_Mod_beyond
theorem g_Law_184 : GoodIn wT (wsV RL 184 RX6 yX6_edgeCount (wsM yX6_edgeCount cX6_edgeCount 1 (some .int))) := gV qm_Law_184 qi_Top_edgeCount qs_Top_edgeCount qn_Top qc_Top_edgeCount
theorem g_Law_187 : GoodIn wT (wsV RL 187 RX7 yX7_edgeCount (wsM yX7_edgeCount cX7_edgeCount 1 (some .int))) := gV qm_Law_187 qi_Mod_edgeCount qs_Mod_edgeCount qn_Mod qc_Mod_edgeCount
theorem g_Law_190 : GoodIn wT (wsV RL 190 RX7 yX7_edgeEnd (wsM yX7_edgeEnd cX7_edgeEnd 3 (some .int))) := gV qm_Law_190 qi_Mod_edgeEnd qs_Mod_edgeEnd qn_Mod qc_Mod_edgeEnd
theorem g_Law_193 : GoodIn wT (wsV RL 193 RX7 yX7_edgeBetween (wsM yX7_edgeBetween cX7_edgeBetween 4 (some .int))) := gV qm_Law_193 qi_Mod_edgeBetween qs_Mod_edgeBetween qn_Mod qc_Mod_edgeBetween
theorem g_Law_196 : GoodIn wT (wsV RL 196 RX7 yX7_degree (wsM yX7_degree cX7_degree 4 (some .int))) := gV qm_Law_196 qi_Mod_degree qs_Mod_degree qn_Mod qc_Mod_degree
theorem g_Law_199 : GoodIn wT (wsV RL 199 RX7 yX7_neighbour (wsM yX7_neighbour cX7_neighbour 5 (some .int))) := gV qm_Law_199 qi_Mod_neighbour qs_Mod_neighbour qn_Mod qc_Mod_neighbour
theorem g_Law_200 : GoodIn wT (wsV RL 200 RX6 yX6_hullSize (wsM yX6_hullSize cX6_hullSize 1 (some .int))) := gV qm_Law_200 qi_Top_hullSize qs_Top_hullSize qn_Top qc_Top_hullSize
theorem g_Law_203 : GoodIn wT (wsV RL 203 RX7 yX7_hullSize (wsM yX7_hullSize cX7_hullSize 1 (some .int))) := gV qm_Law_203 qi_Mod_hullSize qs_Mod_hullSize qn_Mod qc_Mod_hullSize
theorem g_Law_206 : GoodIn wT (wsV RL 206 RX7 yX7_hullPoint (wsM yX7_hullPoint cX7_hullPoint 4 (some .int))) := gV qm_Law_206 qi_Mod_hullPoint qs_Mod_hullPoint qn_Mod qc_Mod_hullPoint
theorem g_Law_209 : GoodIn wT (wsV RL 209 RX7 yX7_twiceArea (wsM yX7_twiceArea cX7_twiceArea 2 (some .int))) := gV qm_Law_209 qi_Mod_twiceArea qs_Mod_twiceArea qn_Mod qc_Mod_twiceArea
theorem g_Law_213 : GoodIn wT (wsV RL 213 RX7 yX7_areaShare (wsM yX7_areaShare cX7_areaShare 4 (some .double))) := gV qm_Law_213 qi_Mod_areaShare qs_Mod_areaShare qn_Mod qc_Mod_areaShare
theorem g_Law_217 : GoodIn wT (wsV RL 217 RX7 yX7_meanDegree (wsM yX7_meanDegree cX7_meanDegree 1 (some .double))) := gV qm_Law_217 qi_Mod_meanDegree qs_Mod_meanDegree qn_Mod qc_Mod_meanDegree
theorem g_Law_220 : GoodIn wT (wsV RL 220 RX7 yX7_squaredLength (wsM yX7_squaredLength cX7_squaredLength 5 (some .int))) := gV qm_Law_220 qi_Mod_squaredLength qs_Mod_squaredLength qn_Mod qc_Mod_squaredLength
theorem g_Law_223 : GoodIn wT (wsV RL 223 RX7 yX7_turn (wsM yX7_turn cX7_turn 4 (some .int))) := gV qm_Law_223 qi_Mod_turn qs_Mod_turn qn_Mod qc_Mod_turn
theorem g_Law_227 : GoodIn wT (wsV RL 227 RX7 yX7_inCircle (wsM yX7_inCircle cX7_inCircle 5 (some .int))) := gV qm_Law_227 qi_Mod_inCircle qs_Mod_inCircle qn_Mod qc_Mod_inCircle
theorem g_Law_230 : GoodIn wT (wsV RL 230 RX7 yX7_isGood (wsM yX7_isGood cX7_isGood 3 (some .boolean))) := gV qm_Law_230 qi_Mod_isGood qs_Mod_isGood qn_Mod qc_Mod_isGood
theorem g_Law_231 : GoodIn wT (wsV RL 231 RX6 yX6_forcedConstraints (wsM yX6_forcedConstraints cX6_forcedConstraints 5 (some .int))) := gV qm_Law_231 qi_Top_forcedConstraints qs_Top_forcedConstraints qn_Top qc_Top_forcedConstraints
theorem g_Law_234 : GoodIn wT (wsV RL 234 RX7 yX7_forcedConstraints (wsM yX7_forcedConstraints cX7_forcedConstraints 3 (some .int))) := gV qm_Law_234 qi_Mod_forcedConstraints qs_Mod_forcedConstraints qn_Mod qc_Mod_forcedConstraints
theorem g_Law_237 : GoodIn wT (wsV RL 237 RX7 yX7_kindAt (wsM yX7_kindAt cX7_kindAt 3 (some .int))) := gV qm_Law_237 qi_Mod_kindAt qs_Mod_kindAt qn_Mod qc_Mod_kindAt
theorem g_Law_240 : GoodIn wT (wsV RL 240 RX7 yX7_numberAt (wsM yX7_numberAt cX7_numberAt 4 (some .int))) := gV qm_Law_240 qi_Mod_numberAt qs_Mod_numberAt qn_Mod qc_Mod_numberAt
theorem g_Law_244 : GoodIn wT (wsV RL 244 RX7 yX7_walk (wsM yX7_walk cX7_walk 9 (some .int))) := gV qm_Law_244 qi_Mod_walk qs_Mod_walk qn_Mod qc_Mod_walk
theorem g_Law_247 : GoodIn wT (wsV RL 247 RX7 yX7_cavity (wsM yX7_cavity cX7_cavity 6 (some .int))) := gV qm_Law_247 qi_Mod_cavity qs_Mod_cavity qn_Mod qc_Mod_cavity
theorem g_Law_250 : GoodIn wT (wsV RL 250 RX7 yX7_hole (wsM yX7_hole cX7_hole 8 (some .int))) := gV qm_Law_250 qi_Mod_hole qs_Mod_hole qn_Mod qc_Mod_hole
theorem g_Law_253 : GoodIn wT (wsV RL 253 RX7 yX7_crossings (wsM yX7_crossings cX7_crossings 6 (some .int))) := gV qm_Law_253 qi_Mod_crossings qs_Mod_crossings qn_Mod qc_Mod_crossings
theorem g_Law_256 : GoodIn wT (wsV RL 256 RX7 yX7_effect (wsM yX7_effect cX7_effect 5 (some .int))) := gV qm_Law_256 qi_Mod_effect qs_Mod_effect qn_Mod qc_Mod_effect
theorem g_Law_260 : GoodIn wT (wsV RL 260 RX7 yX7_undo (wsM yX7_undo cX7_undo 2 (some .int))) := gV qm_Law_260 qi_Mod_undo qs_Mod_undo qn_Mod qc_Mod_undo
theorem g_Law_261 : GoodIn wT (wsV RL 261 RX6 yX6_save (wsM yX6_save cX6_save 1 (some .int))) := gV qm_Law_261 qi_Top_save qs_Top_save qn_Top qc_Top_save
theorem g_Law_264 : GoodIn wT (wsV RL 264 RX7 yX7_save (wsM yX7_save cX7_save 2 (some .int))) := gV qm_Law_264 qi_Mod_save qs_Mod_save qn_Mod qc_Mod_save
theorem g_Law_267 : GoodIn wT (wsV RL 267 RX7 yX7_restore (wsM yX7_restore cX7_restore 2 (some .int))) := gV qm_Law_267 qi_Mod_restore qs_Mod_restore qn_Mod qc_Mod_restore
