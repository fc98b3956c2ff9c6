theorem qf_Mod_44 : Cond.fieldLink RX7 44 "ConstrainedDelaunayModel" "thrown" "I" ∈ wT := wT_t 1166 (by decide +kernel) rfl
theorem qf_Mod_9 : Cond.fieldLink RX7 9 "ConstrainedDelaunayModel" "now" "[I" ∈ wT := wT_t 1167 (by decide +kernel) rfl
theorem qm_Mod_48 : Cond.methodLink RX7 48 yX7_n ∈ wT := wT_t 1237 (by decide +kernel) rfl
theorem qi_Mod_n : Cond.instanceMethod yX7_n ∈ wT := wT_t 1239 (by decide +kernel) rfl
theorem qs_Mod_n : Cond.selects RX7 yX7_n yX7_n ∈ wT := wT_s 43 (by decide +kernel) rfl
theorem qn_Mod : Cond.initialized RX7 ∈ wT := wT_t 9 (by decide +kernel) rfl
theorem qc_Mod_n : Cond.code yX7_n cX7_n 1 (some .int) ∈ wT := wT_t 1240 (by decide +kernel) rfl
theorem qm_Mod_52 : Cond.methodLink RX7 52 yX7_in ∈ wT := wT_t 1234 (by decide +kernel) rfl
theorem qt_Mod_in : Cond.static yX7_in ∈ wT := wT_t 1235 (by decide +kernel) rfl
theorem qc_Mod_in : Cond.code yX7_in cX7_in 3 (some .boolean) ∈ wT := wT_t 1236 (by decide +kernel) rfl
theorem qm_Mod_56 : Cond.methodLink RX7 56 yX7_m ∈ wT := wT_t 1253 (by decide +kernel) rfl
theorem qi_Mod_m : Cond.instanceMethod yX7_m ∈ wT := wT_t 1255 (by decide +kernel) rfl
theorem qs_Mod_m : Cond.selects RX7 yX7_m yX7_m ∈ wT := wT_s 47 (by decide +kernel) rfl
theorem qc_Mod_m : Cond.code yX7_m cX7_m 1 (some .int) ∈ wT := wT_t 1256 (by decide +kernel) rfl
theorem qm_Mod_59 : Cond.methodLink RX7 59 yJ6_signum_0f7a4 ∈ wT := wT_t 1268 (by decide +kernel) rfl
theorem qt_J6_signum_0f7a4 : Cond.static yJ6_signum_0f7a4 ∈ wT := wT_t 1269 (by decide +kernel) rfl
theorem qc_J6_signum_0f7a4 : Cond.code yJ6_signum_0f7a4 cJ6_signum_0f7a4 1 (some .int) ∈ wT := wT_t 1270 (by decide +kernel) rfl
theorem qm_Mod_65 : Cond.methodLink RX7 65 yX7_x ∈ wT := wT_t 1245 (by decide +kernel) rfl
theorem qi_Mod_x : Cond.instanceMethod yX7_x ∈ wT := wT_t 1247 (by decide +kernel) rfl
theorem qs_Mod_x : Cond.selects RX7 yX7_x yX7_x ∈ wT := wT_s 45 (by decide +kernel) rfl
theorem qc_Mod_x : Cond.code yX7_x cX7_x 2 (some .int) ∈ wT := wT_t 1248 (by decide +kernel) rfl
theorem qm_Mod_68 : Cond.methodLink RX7 68 yX7_y ∈ wT := wT_t 1249 (by decide +kernel) rfl
theorem qi_Mod_y : Cond.instanceMethod yX7_y ∈ wT := wT_t 1251 (by decide +kernel) rfl
theorem qs_Mod_y : Cond.selects RX7 yX7_y yX7_y ∈ wT := wT_s 46 (by decide +kernel) rfl
theorem qc_Mod_y : Cond.code yX7_y cX7_y 2 (some .int) ∈ wT := wT_t 1252 (by decide +kernel) rfl
theorem qm_Mod_71 : Cond.methodLink RX7 71 yX7_turnOf ∈ wT := wT_t 1265 (by decide +kernel) rfl
theorem qt_Mod_turnOf : Cond.static yX7_turnOf ∈ wT := wT_t 1266 (by decide +kernel) rfl
theorem qc_Mod_turnOf : Cond.code yX7_turnOf cX7_turnOf 6 (some .int) ∈ wT := wT_t 1267 (by decide +kernel) rfl
theorem qm_Mod_75 : Cond.methodLink RX7 75 yX7_isOn ∈ wT := wT_t 1261 (by decide +kernel) rfl
theorem qi_Mod_isOn : Cond.instanceMethod yX7_isOn ∈ wT := wT_t 1263 (by decide +kernel) rfl
theorem qs_Mod_isOn : Cond.selects RX7 yX7_isOn yX7_isOn ∈ wT := wT_s 49 (by decide +kernel) rfl
theorem qc_Mod_isOn : Cond.code yX7_isOn cX7_isOn 6 (some .boolean) ∈ wT := wT_t 1264 (by decide +kernel) rfl
theorem qm_Mod_79 : Cond.methodLink RX7 79 yX7_turns ∈ wT := wT_t 1329 (by decide +kernel) rfl
theorem qi_Mod_turns : Cond.instanceMethod yX7_turns ∈ wT := wT_t 1331 (by decide +kernel) rfl
theorem qs_Mod_turns : Cond.selects RX7 yX7_turns yX7_turns ∈ wT := wT_s 59 (by decide +kernel) rfl
theorem qc_Mod_turns : Cond.code yX7_turns cX7_turns 4 (some .int) ∈ wT := wT_t 1332 (by decide +kernel) rfl
theorem qm_Mod_83 : Cond.methodLink RX7 83 Lib.Math.min.name ∈ wT := wT_t 1319 (by decide +kernel) rfl
theorem qm_Mod_89 : Cond.methodLink RX7 89 Lib.Math.max.name ∈ wT := wT_t 1320 (by decide +kernel) rfl
theorem qm_Mod_92 : Cond.methodLink RX7 92 yJ13_signum_95d88 ∈ wT := wT_t 1419 (by decide +kernel) rfl
theorem qt_J13_signum_95d88 : Cond.static yJ13_signum_95d88 ∈ wT := wT_t 1420 (by decide +kernel) rfl
theorem qn_J13 : Cond.initialized RJ13 ∈ wT := wT_t 20 (by decide +kernel) rfl
theorem qc_J13_signum_95d88 : Cond.code yJ13_signum_95d88 cJ13_signum_95d88 2 (some .int) ∈ wT := wT_t 1421 (by decide +kernel) rfl
theorem qm_Mod_97 : Cond.methodLink RX7 97 yX7_circle ∈ wT := wT_t 1415 (by decide +kernel) rfl
theorem qi_Mod_circle : Cond.instanceMethod yX7_circle ∈ wT := wT_t 1417 (by decide +kernel) rfl
theorem qs_Mod_circle : Cond.selects RX7 yX7_circle yX7_circle ∈ wT := wT_s 74 (by decide +kernel) rfl
theorem qc_Mod_circle : Cond.code yX7_circle cX7_circle 19 (some .int) ∈ wT := wT_t 1418 (by decide +kernel) rfl
theorem qf_Mod_22 : Cond.fieldLink RX7 22 "ConstrainedDelaunayModel" "edges" "[Z" ∈ wT := wT_t 1175 (by decide +kernel) rfl
theorem qm_Mod_101 : Cond.methodLink RX7 101 yX7_end ∈ wT := wT_t 1257 (by decide +kernel) rfl
theorem qi_Mod_end : Cond.instanceMethod yX7_end ∈ wT := wT_t 1259 (by decide +kernel) rfl
theorem qs_Mod_end : Cond.selects RX7 yX7_end yX7_end ∈ wT := wT_s 48 (by decide +kernel) rfl
theorem qc_Mod_end : Cond.code yX7_end cX7_end 3 (some .int) ∈ wT := wT_t 1260 (by decide +kernel) rfl
theorem qm_Mod_104 : Cond.methodLink RX7 104 yX7_has ∈ wT := wT_t 1387 (by decide +kernel) rfl
theorem qi_Mod_has : Cond.instanceMethod yX7_has ∈ wT := wT_t 1389 (by decide +kernel) rfl
theorem qs_Mod_has : Cond.selects RX7 yX7_has yX7_has ∈ wT := wT_s 67 (by decide +kernel) rfl
theorem qc_Mod_has : Cond.code yX7_has cX7_has 3 (some .boolean) ∈ wT := wT_t 1390 (by decide +kernel) rfl
theorem qm_Mod_108 : Cond.methodLink RX7 108 yX7_isEmpty ∈ wT := wT_t 1407 (by decide +kernel) rfl
theorem qi_Mod_isEmpty : Cond.instanceMethod yX7_isEmpty ∈ wT := wT_t 1409 (by decide +kernel) rfl
theorem qs_Mod_isEmpty : Cond.selects RX7 yX7_isEmpty yX7_isEmpty ∈ wT := wT_s 72 (by decide +kernel) rfl
theorem qc_Mod_isEmpty : Cond.code yX7_isEmpty cX7_isEmpty 5 (some .boolean) ∈ wT := wT_t 1410 (by decide +kernel) rfl
theorem qm_Mod_111 : Cond.methodLink RX7 111 yX7_cross ∈ wT := wT_t 1325 (by decide +kernel) rfl
theorem qi_Mod_cross : Cond.instanceMethod yX7_cross ∈ wT := wT_t 1327 (by decide +kernel) rfl
theorem qs_Mod_cross : Cond.selects RX7 yX7_cross yX7_cross ∈ wT := wT_s 58 (by decide +kernel) rfl
theorem qc_Mod_cross : Cond.code yX7_cross cX7_cross 6 (some .boolean) ∈ wT := wT_t 1328 (by decide +kernel) rfl
theorem qm_Mod_138 : Cond.methodLink RX7 138 yX7_isTied ∈ wT := wT_t 1315 (by decide +kernel) rfl
theorem qi_Mod_isTied : Cond.instanceMethod yX7_isTied ∈ wT := wT_t 1317 (by decide +kernel) rfl
theorem qs_Mod_isTied : Cond.selects RX7 yX7_isTied yX7_isTied ∈ wT := wT_s 56 (by decide +kernel) rfl
theorem qc_Mod_isTied : Cond.code yX7_isTied cX7_isTied 4 (some .boolean) ∈ wT := wT_t 1318 (by decide +kernel) rfl
theorem qm_Mod_141 : Cond.methodLink RX7 141 yX7_apex ∈ wT := wT_t 1403 (by decide +kernel) rfl
theorem qi_Mod_apex : Cond.instanceMethod yX7_apex ∈ wT := wT_t 1405 (by decide +kernel) rfl
theorem qs_Mod_apex : Cond.selects RX7 yX7_apex yX7_apex ∈ wT := wT_s 71 (by decide +kernel) rfl
theorem qc_Mod_apex : Cond.code yX7_apex cX7_apex 4 (some .int) ∈ wT := wT_t 1406 (by decide +kernel) rfl
theorem qm_Mod_144 : Cond.methodLink RX7 144 yX7_good ∈ wT := wT_t 1411 (by decide +kernel) rfl
theorem qi_Mod_good : Cond.instanceMethod yX7_good ∈ wT := wT_t 1413 (by decide +kernel) rfl
theorem qs_Mod_good : Cond.selects RX7 yX7_good yX7_good ∈ wT := wT_s 73 (by decide +kernel) rfl
theorem qc_Mod_good : Cond.code yX7_good cX7_good 6 (some .boolean) ∈ wT := wT_t 1414 (by decide +kernel) rfl
theorem qm_Mod_117 : Cond.methodLink RX7 117 yX7_puts ∈ wT := wT_t 1383 (by decide +kernel) rfl
theorem qi_Mod_puts : Cond.instanceMethod yX7_puts ∈ wT := wT_t 1385 (by decide +kernel) rfl
theorem qs_Mod_puts : Cond.selects RX7 yX7_puts yX7_puts ∈ wT := wT_s 66 (by decide +kernel) rfl
theorem qc_Mod_puts : Cond.code yX7_puts cX7_puts 4 none ∈ wT := wT_t 1386 (by decide +kernel) rfl
theorem qf_Mod_26 : Cond.fieldLink RX7 26 "ConstrainedDelaunayModel" "corners" "[I" ∈ wT := wT_t 1176 (by decide +kernel) rfl
theorem qf_Mod_114 : Cond.fieldLink RX7 114 "ConstrainedDelaunayModel" "triangles" "I" ∈ wT := wT_t 1177 (by decide +kernel) rfl
theorem qm_Mod_121 : Cond.methodLink RX7 121 yX7_hasPointOn ∈ wT := wT_t 1321 (by decide +kernel) rfl
theorem qi_Mod_hasPointOn : Cond.instanceMethod yX7_hasPointOn ∈ wT := wT_t 1323 (by decide +kernel) rfl
theorem qs_Mod_hasPointOn : Cond.selects RX7 yX7_hasPointOn yX7_hasPointOn ∈ wT := wT_s 57 (by decide +kernel) rfl
theorem qc_Mod_hasPointOn : Cond.code yX7_hasPointOn cX7_hasPointOn 4 (some .boolean) ∈ wT := wT_t 1324 (by decide +kernel) rfl
theorem qm_Mod_124 : Cond.methodLink RX7 124 yX7_crossesAny ∈ wT := wT_t 1391 (by decide +kernel) rfl
theorem qi_Mod_crossesAny : Cond.instanceMethod yX7_crossesAny ∈ wT := wT_t 1393 (by decide +kernel) rfl
theorem qs_Mod_crossesAny : Cond.selects RX7 yX7_crossesAny yX7_crossesAny ∈ wT := wT_s 68 (by decide +kernel) rfl
theorem qc_Mod_crossesAny : Cond.code yX7_crossesAny cX7_crossesAny 5 (some .boolean) ∈ wT := wT_t 1394 (by decide +kernel) rfl
theorem qm_Mod_127 : Cond.methodLink RX7 127 yX7_isLine ∈ wT := wT_t 1395 (by decide +kernel) rfl
theorem qi_Mod_isLine : Cond.instanceMethod yX7_isLine ∈ wT := wT_t 1397 (by decide +kernel) rfl
theorem qs_Mod_isLine : Cond.selects RX7 yX7_isLine yX7_isLine ∈ wT := wT_s 69 (by decide +kernel) rfl
theorem qc_Mod_isLine : Cond.code yX7_isLine cX7_isLine 2 (some .boolean) ∈ wT := wT_t 1398 (by decide +kernel) rfl
theorem qm_Mod_131 : Cond.methodLink RX7 131 yX7_flips ∈ wT := wT_t 1399 (by decide +kernel) rfl
theorem qi_Mod_flips : Cond.instanceMethod yX7_flips ∈ wT := wT_t 1401 (by decide +kernel) rfl
theorem qs_Mod_flips : Cond.selects RX7 yX7_flips yX7_flips ∈ wT := wT_s 70 (by decide +kernel) rfl
theorem qc_Mod_flips : Cond.code yX7_flips cX7_flips 5 (some .boolean) ∈ wT := wT_t 1402 (by decide +kernel) rfl
theorem qm_Mod_134 : Cond.methodLink RX7 134 yX7_lists ∈ wT := wT_t 1422 (by decide +kernel) rfl
theorem qi_Mod_lists : Cond.instanceMethod yX7_lists ∈ wT := wT_t 1424 (by decide +kernel) rfl
theorem qs_Mod_lists : Cond.selects RX7 yX7_lists yX7_lists ∈ wT := wT_s 75 (by decide +kernel) rfl
theorem qc_Mod_lists : Cond.code yX7_lists cX7_lists 4 none ∈ wT := wT_t 1425 (by decide +kernel) rfl
theorem qm_Mod_147 : Cond.methodLink RX7 147 yX7_cornerOf ∈ wT := wT_t 1434 (by decide +kernel) rfl
theorem qi_Mod_cornerOf : Cond.instanceMethod yX7_cornerOf ∈ wT := wT_t 1436 (by decide +kernel) rfl
theorem qs_Mod_cornerOf : Cond.selects RX7 yX7_cornerOf yX7_cornerOf ∈ wT := wT_s 77 (by decide +kernel) rfl
theorem qc_Mod_cornerOf : Cond.code yX7_cornerOf cX7_cornerOf 3 (some .int) ∈ wT := wT_t 1437 (by decide +kernel) rfl
theorem qf_Mod_38 : Cond.fieldLink RX7 38 "ConstrainedDelaunayModel" "numbers" "[I" ∈ wT := wT_t 1181 (by decide +kernel) rfl
theorem qf_Mod_150 : Cond.fieldLink RX7 150 "ConstrainedDelaunayModel" "olds" "I" ∈ wT := wT_t 1169 (by decide +kernel) rfl
theorem qf_Mod_13 : Cond.fieldLink RX7 13 "ConstrainedDelaunayModel" "old" "[I" ∈ wT := wT_t 1168 (by decide +kernel) rfl
theorem qm_Mod_153 : Cond.methodLink RX7 153 yX7_isPlace ∈ wT := wT_t 1231 (by decide +kernel) rfl
theorem qt_Mod_isPlace : Cond.static yX7_isPlace ∈ wT := wT_t 1232 (by decide +kernel) rfl
theorem qc_Mod_isPlace : Cond.code yX7_isPlace cX7_isPlace 2 (some .boolean) ∈ wT := wT_t 1233 (by decide +kernel) rfl
theorem qm_Mod_156 : Cond.methodLink RX7 156 yX7_isBarred ∈ wT := wT_t 1241 (by decide +kernel) rfl
theorem qi_Mod_isBarred : Cond.instanceMethod yX7_isBarred ∈ wT := wT_t 1243 (by decide +kernel) rfl
theorem qs_Mod_isBarred : Cond.selects RX7 yX7_isBarred yX7_isBarred ∈ wT := wT_s 44 (by decide +kernel) rfl
theorem qc_Mod_isBarred : Cond.code yX7_isBarred cX7_isBarred 5 (some .boolean) ∈ wT := wT_t 1244 (by decide +kernel) rfl
theorem qm_Mod_159 : Cond.methodLink RX7 159 yX7_whyNot ∈ wT := wT_t 1227 (by decide +kernel) rfl
theorem qi_Mod_whyNot : Cond.instanceMethod yX7_whyNot ∈ wT := wT_t 1229 (by decide +kernel) rfl
theorem qs_Mod_whyNot : Cond.selects RX7 yX7_whyNot yX7_whyNot ∈ wT := wT_s 42 (by decide +kernel) rfl
theorem qc_Mod_whyNot : Cond.code yX7_whyNot cX7_whyNot 3 (some .int) ∈ wT := wT_t 1230 (by decide +kernel) rfl
theorem qm_Mod_162 : Cond.methodLink RX7 162 yX7_records ∈ wT := wT_t 1271 (by decide +kernel) rfl
theorem qi_Mod_records : Cond.instanceMethod yX7_records ∈ wT := wT_t 1273 (by decide +kernel) rfl
theorem qs_Mod_records : Cond.selects RX7 yX7_records yX7_records ∈ wT := wT_s 50 (by decide +kernel) rfl
theorem qc_Mod_records : Cond.code yX7_records cX7_records 2 none ∈ wT := wT_t 1274 (by decide +kernel) rfl
theorem qm_Mod_165 : Cond.methodLink RX7 165 yX7_sets ∈ wT := wT_t 1275 (by decide +kernel) rfl
theorem qi_Mod_sets : Cond.instanceMethod yX7_sets ∈ wT := wT_t 1277 (by decide +kernel) rfl
theorem qs_Mod_sets : Cond.selects RX7 yX7_sets yX7_sets ∈ wT := wT_s 51 (by decide +kernel) rfl
theorem qc_Mod_sets : Cond.code yX7_sets cX7_sets 4 none ∈ wT := wT_t 1278 (by decide +kernel) rfl
theorem qm_Mod_168 : Cond.methodLink RX7 168 yX7_isPoint ∈ wT := wT_t 1283 (by decide +kernel) rfl
theorem qi_Mod_isPoint : Cond.instanceMethod yX7_isPoint ∈ wT := wT_t 1285 (by decide +kernel) rfl
theorem qs_Mod_isPoint : Cond.selects RX7 yX7_isPoint yX7_isPoint ∈ wT := wT_s 52 (by decide +kernel) rfl
theorem qc_Mod_isPoint : Cond.code yX7_isPoint cX7_isPoint 2 (some .boolean) ∈ wT := wT_t 1286 (by decide +kernel) rfl
theorem qm_Mod_175 : Cond.methodLink RX7 175 yX7_isEnd ∈ wT := wT_t 1291 (by decide +kernel) rfl
theorem qi_Mod_isEnd : Cond.instanceMethod yX7_isEnd ∈ wT := wT_t 1293 (by decide +kernel) rfl
theorem qs_Mod_isEnd : Cond.selects RX7 yX7_isEnd yX7_isEnd ∈ wT := wT_s 54 (by decide +kernel) rfl
theorem qc_Mod_isEnd : Cond.code yX7_isEnd cX7_isEnd 3 (some .boolean) ∈ wT := wT_t 1294 (by decide +kernel) rfl
theorem qm_Mod_178 : Cond.methodLink RX7 178 yX7_drops ∈ wT := wT_t 1295 (by decide +kernel) rfl
theorem qi_Mod_drops : Cond.instanceMethod yX7_drops ∈ wT := wT_t 1297 (by decide +kernel) rfl
theorem qs_Mod_drops : Cond.selects RX7 yX7_drops yX7_drops ∈ wT := wT_s 55 (by decide +kernel) rfl
theorem qc_Mod_drops : Cond.code yX7_drops cX7_drops 3 none ∈ wT := wT_t 1298 (by decide +kernel) rfl
theorem qm_Mod_172 : Cond.methodLink RX7 172 yX7_raises ∈ wT := wT_t 1287 (by decide +kernel) rfl
theorem qi_Mod_raises : Cond.instanceMethod yX7_raises ∈ wT := wT_t 1289 (by decide +kernel) rfl
theorem qs_Mod_raises : Cond.selects RX7 yX7_raises yX7_raises ∈ wT := wT_s 53 (by decide +kernel) rfl
theorem qc_Mod_raises : Cond.code yX7_raises cX7_raises 2 (some .int) ∈ wT := wT_t 1290 (by decide +kernel) rfl
theorem qm_Mod_182 : Cond.methodLink RX7 182 yX7_isConstraint ∈ wT := wT_t 1337 (by decide +kernel) rfl
theorem qi_Mod_isConstraint : Cond.instanceMethod yX7_isConstraint ∈ wT := wT_t 1339 (by decide +kernel) rfl
theorem qs_Mod_isConstraint : Cond.selects RX7 yX7_isConstraint yX7_isConstraint ∈ wT := wT_s 60 (by decide +kernel) rfl
theorem qc_Mod_isConstraint : Cond.code yX7_isConstraint cX7_isConstraint 2 (some .boolean) ∈ wT := wT_t 1340 (by decide +kernel) rfl
theorem qm_Mod_185 : Cond.methodLink RX7 185 yX7_unties ∈ wT := wT_t 1341 (by decide +kernel) rfl
theorem qi_Mod_unties : Cond.instanceMethod yX7_unties ∈ wT := wT_t 1343 (by decide +kernel) rfl
theorem qs_Mod_unties : Cond.selects RX7 yX7_unties yX7_unties ∈ wT := wT_s 61 (by decide +kernel) rfl
theorem qc_Mod_unties : Cond.code yX7_unties cX7_unties 3 none ∈ wT := wT_t 1344 (by decide +kernel) rfl
theorem qf_Mod_188 : Cond.fieldLink RX7 188 "ConstrainedDelaunayModel" "length" "I" ∈ wT := wT_t 1173 (by decide +kernel) rfl
theorem qf_Mod_19 : Cond.fieldLink RX7 19 "ConstrainedDelaunayModel" "input" "[I" ∈ wT := wT_t 1172 (by decide +kernel) rfl
theorem qf_Mod_191 : Cond.fieldLink RX7 191 "ConstrainedDelaunayModel" "at" "I" ∈ wT := wT_t 1174 (by decide +kernel) rfl
theorem qm_Mod_194 : Cond.methodLink RX7 194 yX7_here ∈ wT := wT_t 1369 (by decide +kernel) rfl
theorem qi_Mod_here : Cond.instanceMethod yX7_here ∈ wT := wT_t 1371 (by decide +kernel) rfl
theorem qs_Mod_here : Cond.selects RX7 yX7_here yX7_here ∈ wT := wT_s 64 (by decide +kernel) rfl
theorem qc_Mod_here : Cond.code yX7_here cX7_here 1 (some .int) ∈ wT := wT_t 1372 (by decide +kernel) rfl
theorem qm_Mod_197 : Cond.methodLink RX7 197 yX7_number ∈ wT := wT_t 1365 (by decide +kernel) rfl
theorem qi_Mod_number : Cond.instanceMethod yX7_number ∈ wT := wT_t 1367 (by decide +kernel) rfl
theorem qs_Mod_number : Cond.selects RX7 yX7_number yX7_number ∈ wT := wT_s 63 (by decide +kernel) rfl
theorem qc_Mod_number : Cond.code yX7_number cX7_number 3 (some .int) ∈ wT := wT_t 1368 (by decide +kernel) rfl
theorem qm_Mod_203 : Cond.methodLink RX7 203 yX7_addConstraint ∈ wT := wT_t 1374 (by decide +kernel) rfl
theorem qi_Mod_addConstraint : Cond.instanceMethod yX7_addConstraint ∈ wT := wT_t 1312 (by decide +kernel) rfl
theorem qs_Mod_addConstraint : Cond.selects RX7 yX7_addConstraint yX7_addConstraint ∈ wT := wT_t 1313 (by decide +kernel) rfl
theorem qc_Mod_addConstraint : Cond.code yX7_addConstraint cX7_addConstraint 4 (some .int) ∈ wT := wT_t 1314 (by decide +kernel) rfl
theorem qm_Mod_200 : Cond.methodLink RX7 200 yX7_addPoint ∈ wT := wT_t 1373 (by decide +kernel) rfl
theorem qi_Mod_addPoint : Cond.instanceMethod yX7_addPoint ∈ wT := wT_t 1224 (by decide +kernel) rfl
theorem qs_Mod_addPoint : Cond.selects RX7 yX7_addPoint yX7_addPoint ∈ wT := wT_t 1225 (by decide +kernel) rfl
theorem qc_Mod_addPoint : Cond.code yX7_addPoint cX7_addPoint 3 (some .int) ∈ wT := wT_t 1226 (by decide +kernel) rfl
theorem qm_Mod_206 : Cond.methodLink RX7 206 yX7_entry ∈ wT := wT_t 1361 (by decide +kernel) rfl
theorem qi_Mod_entry : Cond.instanceMethod yX7_entry ∈ wT := wT_t 1363 (by decide +kernel) rfl
theorem qs_Mod_entry : Cond.selects RX7 yX7_entry yX7_entry ∈ wT := wT_s 62 (by decide +kernel) rfl
theorem qc_Mod_entry : Cond.code yX7_entry cX7_entry 6 (some .int) ∈ wT := wT_t 1364 (by decide +kernel) rfl
theorem qm_Mod_210 : Cond.methodLink RX7 210 yX7_builds ∈ wT := wT_t 1379 (by decide +kernel) rfl
theorem qi_Mod_builds : Cond.instanceMethod yX7_builds ∈ wT := wT_t 1381 (by decide +kernel) rfl
theorem qs_Mod_builds : Cond.selects RX7 yX7_builds yX7_builds ∈ wT := wT_s 65 (by decide +kernel) rfl
theorem qc_Mod_builds : Cond.code yX7_builds cX7_builds 5 none ∈ wT := wT_t 1382 (by decide +kernel) rfl
theorem qm_Mod_213 : Cond.methodLink RX7 213 yX7_isTriangle ∈ wT := wT_t 1430 (by decide +kernel) rfl
theorem qi_Mod_isTriangle : Cond.instanceMethod yX7_isTriangle ∈ wT := wT_t 1432 (by decide +kernel) rfl
theorem qs_Mod_isTriangle : Cond.selects RX7 yX7_isTriangle yX7_isTriangle ∈ wT := wT_s 76 (by decide +kernel) rfl
theorem qc_Mod_isTriangle : Cond.code yX7_isTriangle cX7_isTriangle 2 (some .boolean) ∈ wT := wT_t 1433 (by decide +kernel) rfl
theorem qm_Mod_216 : Cond.methodLink RX7 216 yX7_triangleOf ∈ wT := wT_t 1446 (by decide +kernel) rfl
theorem qi_Mod_triangleOf : Cond.instanceMethod yX7_triangleOf ∈ wT := wT_t 1448 (by decide +kernel) rfl
theorem qs_Mod_triangleOf : Cond.selects RX7 yX7_triangleOf yX7_triangleOf ∈ wT := wT_s 79 (by decide +kernel) rfl
theorem qc_Mod_triangleOf : Cond.code yX7_triangleOf cX7_triangleOf 6 (some .int) ∈ wT := wT_t 1449 (by decide +kernel) rfl
theorem qm_Mod_219 : Cond.methodLink RX7 219 yX7_beyondOf ∈ wT := wT_t 1442 (by decide +kernel) rfl
theorem qi_Mod_beyondOf : Cond.instanceMethod yX7_beyondOf ∈ wT := wT_t 1444 (by decide +kernel) rfl
theorem qs_Mod_beyondOf : Cond.selects RX7 yX7_beyondOf yX7_beyondOf ∈ wT := wT_s 78 (by decide +kernel) rfl
theorem qc_Mod_beyondOf : Cond.code yX7_beyondOf cX7_beyondOf 6 (some .int) ∈ wT := wT_t 1445 (by decide +kernel) rfl
theorem qm_Mod_222 : Cond.methodLink RX7 222 yX7_edgeTotal ∈ wT := wT_t 1454 (by decide +kernel) rfl
theorem qi_Mod_edgeTotal : Cond.instanceMethod yX7_edgeTotal ∈ wT := wT_t 1456 (by decide +kernel) rfl
theorem qs_Mod_edgeTotal : Cond.selects RX7 yX7_edgeTotal yX7_edgeTotal ∈ wT := wT_s 80 (by decide +kernel) rfl
theorem qc_Mod_edgeTotal : Cond.code yX7_edgeTotal cX7_edgeTotal 4 (some .int) ∈ wT := wT_t 1457 (by decide +kernel) rfl
theorem qm_Mod_225 : Cond.methodLink RX7 225 yX7_edge ∈ wT := wT_t 1462 (by decide +kernel) rfl
theorem qi_Mod_edge : Cond.instanceMethod yX7_edge ∈ wT := wT_t 1464 (by decide +kernel) rfl
theorem qs_Mod_edge : Cond.selects RX7 yX7_edge yX7_edge ∈ wT := wT_s 81 (by decide +kernel) rfl
theorem qc_Mod_edge : Cond.code yX7_edge cX7_edge 5 (some .boolean) ∈ wT := wT_t 1465 (by decide +kernel) rfl
theorem qm_Mod_228 : Cond.methodLink RX7 228 yX7_numberOf ∈ wT := wT_t 1470 (by decide +kernel) rfl
theorem qi_Mod_numberOf : Cond.instanceMethod yX7_numberOf ∈ wT := wT_t 1472 (by decide +kernel) rfl
theorem qs_Mod_numberOf : Cond.selects RX7 yX7_numberOf yX7_numberOf ∈ wT := wT_s 82 (by decide +kernel) rfl
theorem qc_Mod_numberOf : Cond.code yX7_numberOf cX7_numberOf 6 (some .int) ∈ wT := wT_t 1473 (by decide +kernel) rfl
theorem qm_Mod_231 : Cond.methodLink RX7 231 yX7_hullNext ∈ wT := wT_t 1490 (by decide +kernel) rfl
theorem qi_Mod_hullNext : Cond.instanceMethod yX7_hullNext ∈ wT := wT_t 1492 (by decide +kernel) rfl
theorem qs_Mod_hullNext : Cond.selects RX7 yX7_hullNext yX7_hullNext ∈ wT := wT_s 84 (by decide +kernel) rfl
theorem qc_Mod_hullNext : Cond.code yX7_hullNext cX7_hullNext 3 (some .int) ∈ wT := wT_t 1493 (by decide +kernel) rfl
theorem qm_Mod_234 : Cond.methodLink RX7 234 yX7_hullEdges ∈ wT := wT_t 1486 (by decide +kernel) rfl
theorem qi_Mod_hullEdges : Cond.instanceMethod yX7_hullEdges ∈ wT := wT_t 1488 (by decide +kernel) rfl
theorem qs_Mod_hullEdges : Cond.selects RX7 yX7_hullEdges yX7_hullEdges ∈ wT := wT_s 83 (by decide +kernel) rfl
theorem qc_Mod_hullEdges : Cond.code yX7_hullEdges cX7_hullEdges 3 (some .int) ∈ wT := wT_t 1489 (by decide +kernel) rfl
theorem qm_Mod_237 : Cond.methodLink RX7 237 yX7_areaOf ∈ wT := wT_t 1502 (by decide +kernel) rfl
theorem qi_Mod_areaOf : Cond.instanceMethod yX7_areaOf ∈ wT := wT_t 1504 (by decide +kernel) rfl
theorem qs_Mod_areaOf : Cond.selects RX7 yX7_areaOf yX7_areaOf ∈ wT := wT_s 85 (by decide +kernel) rfl
theorem qc_Mod_areaOf : Cond.code yX7_areaOf cX7_areaOf 5 (some .int) ∈ wT := wT_t 1505 (by decide +kernel) rfl
theorem qf_Mod_41 : Cond.fieldLink RX7 41 "ConstrainedDelaunayModel" "met" "[Z" ∈ wT := wT_t 1182 (by decide +kernel) rfl
theorem qk_Mod_240 : Cond.constant RX7 240 (2147483647) ∈ wT := wT_t 1522 (by decide +kernel) rfl
theorem qm_Mod_241 : Cond.methodLink RX7 241 yX7_square ∈ wT := wT_t 1523 (by decide +kernel) rfl
theorem qi_Mod_square : Cond.instanceMethod yX7_square ∈ wT := wT_t 1525 (by decide +kernel) rfl
theorem qs_Mod_square : Cond.selects RX7 yX7_square yX7_square ∈ wT := wT_s 87 (by decide +kernel) rfl
theorem qc_Mod_square : Cond.code yX7_square cX7_square 3 (some .int) ∈ wT := wT_t 1526 (by decide +kernel) rfl
theorem qm_Mod_244 : Cond.methodLink RX7 244 yX7_connects ∈ wT := wT_t 1518 (by decide +kernel) rfl
theorem qi_Mod_connects : Cond.instanceMethod yX7_connects ∈ wT := wT_t 1520 (by decide +kernel) rfl
theorem qs_Mod_connects : Cond.selects RX7 yX7_connects yX7_connects ∈ wT := wT_s 86 (by decide +kernel) rfl
theorem qc_Mod_connects : Cond.code yX7_connects cX7_connects 7 (some .int) ∈ wT := wT_t 1521 (by decide +kernel) rfl
theorem qm_Mod_247 : Cond.methodLink RX7 247 yX7_goodOf ∈ wT := wT_t 1539 (by decide +kernel) rfl
theorem qi_Mod_goodOf : Cond.instanceMethod yX7_goodOf ∈ wT := wT_t 1541 (by decide +kernel) rfl
theorem qs_Mod_goodOf : Cond.selects RX7 yX7_goodOf yX7_goodOf ∈ wT := wT_s 88 (by decide +kernel) rfl
theorem qc_Mod_goodOf : Cond.code yX7_goodOf cX7_goodOf 5 (some .int) ∈ wT := wT_t 1542 (by decide +kernel) rfl
theorem qm_Mod_250 : Cond.methodLink RX7 250 yX7_away ∈ wT := wT_t 1555 (by decide +kernel) rfl
theorem qi_Mod_away : Cond.instanceMethod yX7_away ∈ wT := wT_t 1557 (by decide +kernel) rfl
theorem qs_Mod_away : Cond.selects RX7 yX7_away yX7_away ∈ wT := wT_s 90 (by decide +kernel) rfl
theorem qc_Mod_away : Cond.code yX7_away cX7_away 7 (some .int) ∈ wT := wT_t 1558 (by decide +kernel) rfl
theorem qm_Mod_253 : Cond.methodLink RX7 253 yX7_thingAt ∈ wT := wT_t 1551 (by decide +kernel) rfl
theorem qi_Mod_thingAt : Cond.instanceMethod yX7_thingAt ∈ wT := wT_t 1553 (by decide +kernel) rfl
theorem qs_Mod_thingAt : Cond.selects RX7 yX7_thingAt yX7_thingAt ∈ wT := wT_s 89 (by decide +kernel) rfl
theorem qc_Mod_thingAt : Cond.code yX7_thingAt cX7_thingAt 5 (some .int) ∈ wT := wT_t 1554 (by decide +kernel) rfl
theorem qf_Mod_35 : Cond.fieldLink RX7 35 "ConstrainedDelaunayModel" "work" "[I" ∈ wT := wT_t 1180 (by decide +kernel) rfl
theorem qf_Mod_29 : Cond.fieldLink RX7 29 "ConstrainedDelaunayModel" "kept" "[I" ∈ wT := wT_t 1178 (by decide +kernel) rfl
theorem qf_Mod_32 : Cond.fieldLink RX7 32 "ConstrainedDelaunayModel" "keptEdges" "[Z" ∈ wT := wT_t 1179 (by decide +kernel) rfl
theorem qm_Mod_256 : Cond.methodLink RX7 256 yX7_keeps ∈ wT := wT_t 1571 (by decide +kernel) rfl
theorem qi_Mod_keeps : Cond.instanceMethod yX7_keeps ∈ wT := wT_t 1573 (by decide +kernel) rfl
theorem qs_Mod_keeps : Cond.selects RX7 yX7_keeps yX7_keeps ∈ wT := wT_s 91 (by decide +kernel) rfl
theorem qc_Mod_keeps : Cond.code yX7_keeps cX7_keeps 2 none ∈ wT := wT_t 1574 (by decide +kernel) rfl
theorem qm_Mod_259 : Cond.methodLink RX7 259 yX7_goesBack ∈ wT := wT_t 1575 (by decide +kernel) rfl
theorem qi_Mod_goesBack : Cond.instanceMethod yX7_goesBack ∈ wT := wT_t 1577 (by decide +kernel) rfl
theorem qs_Mod_goesBack : Cond.selects RX7 yX7_goesBack yX7_goesBack ∈ wT := wT_s 92 (by decide +kernel) rfl
theorem qc_Mod_goesBack : Cond.code yX7_goesBack cX7_goesBack 2 none ∈ wT := wT_t 1578 (by decide +kernel) rfl
theorem qf_Mod_262 : Cond.fieldLink RX7 262 "ConstrainedDelaunayModel" "isSaved" "Z" ∈ wT := wT_t 1171 (by decide +kernel) rfl
theorem qf_Mod_16 : Cond.fieldLink RX7 16 "ConstrainedDelaunayModel" "saved" "[I" ∈ wT := wT_t 1170 (by decide +kernel) rfl
theorem hd_Mod_n : yX7_n.cls = RX7 ∧ yX7_n.cls ≠ "java/lang/invoke/MethodHandle" ∧ yX7_n.cls ≠ "java/lang/invoke/VarHandle" ∧ (parseMethodDescriptor yX7_n.desc).map (fun d => d.parameters.length) = some 0 := by decide +kernel
theorem hd_Mod_in : yX7_in.cls = RX7 ∧ yX7_in.cls ≠ "java/lang/invoke/MethodHandle" ∧ yX7_in.cls ≠ "java/lang/invoke/VarHandle" ∧ (parseMethodDescriptor yX7_in.desc).map (fun d => d.parameters.length) = some 3 := by decide +kernel
theorem hd_Mod_m : yX7_m.cls = RX7 ∧ yX7_m.cls ≠ "java/lang/invoke/MethodHandle" ∧ yX7_m.cls ≠ "java/lang/invoke/VarHandle" ∧ (parseMethodDescriptor yX7_m.desc).map (fun d => d.parameters.length) = some 0 := by decide +kernel
theorem hd_J6_signum_0f7a4 : yJ6_signum_0f7a4.cls = RJ6 ∧ yJ6_signum_0f7a4.cls ≠ "java/lang/invoke/MethodHandle" ∧ yJ6_signum_0f7a4.cls ≠ "java/lang/invoke/VarHandle" ∧ (parseMethodDescriptor yJ6_signum_0f7a4.desc).map (fun d => d.parameters.length) = some 1 := by decide +kernel
theorem hd_Mod_x : yX7_x.cls = RX7 ∧ yX7_x.cls ≠ "java/lang/invoke/MethodHandle" ∧ yX7_x.cls ≠ "java/lang/invoke/VarHandle" ∧ (parseMethodDescriptor yX7_x.desc).map (fun d => d.parameters.length) = some 1 := by decide +kernel
theorem hd_Mod_y : yX7_y.cls = RX7 ∧ yX7_y.cls ≠ "java/lang/invoke/MethodHandle" ∧ yX7_y.cls ≠ "java/lang/invoke/VarHandle" ∧ (parseMethodDescriptor yX7_y.desc).map (fun d => d.parameters.length) = some 1 := by decide +kernel
theorem hd_Mod_turnOf : yX7_turnOf.cls = RX7 ∧ yX7_turnOf.cls ≠ "java/lang/invoke/MethodHandle" ∧ yX7_turnOf.cls ≠ "java/lang/invoke/VarHandle" ∧ (parseMethodDescriptor yX7_turnOf.desc).map (fun d => d.parameters.length) = some 6 := by decide +kernel
theorem hd_Mod_isOn : yX7_isOn.cls = RX7 ∧ yX7_isOn.cls ≠ "java/lang/invoke/MethodHandle" ∧ yX7_isOn.cls ≠ "java/lang/invoke/VarHandle" ∧ (parseMethodDescriptor yX7_isOn.desc).map (fun d => d.parameters.length) = some 4 := by decide +kernel
theorem hd_Mod_turns : yX7_turns.cls = RX7 ∧ yX7_turns.cls ≠ "java/lang/invoke/MethodHandle" ∧ yX7_turns.cls ≠ "java/lang/invoke/VarHandle" ∧ (parseMethodDescriptor yX7_turns.desc).map (fun d => d.parameters.length) = some 3 := by decide +kernel
theorem hd_J13_signum_95d88 : yJ13_signum_95d88.cls = RJ13 ∧ yJ13_signum_95d88.cls ≠ "java/lang/invoke/MethodHandle" ∧ yJ13_signum_95d88.cls ≠ "java/lang/invoke/VarHandle" ∧ (parseMethodDescriptor yJ13_signum_95d88.desc).map (fun d => d.parameters.length) = some 1 := by decide +kernel
theorem hd_Mod_circle : yX7_circle.cls = RX7 ∧ yX7_circle.cls ≠ "java/lang/invoke/MethodHandle" ∧ yX7_circle.cls ≠ "java/lang/invoke/VarHandle" ∧ (parseMethodDescriptor yX7_circle.desc).map (fun d => d.parameters.length) = some 4 := by decide +kernel
theorem hd_Mod_end : yX7_end.cls = RX7 ∧ yX7_end.cls ≠ "java/lang/invoke/MethodHandle" ∧ yX7_end.cls ≠ "java/lang/invoke/VarHandle" ∧ (parseMethodDescriptor yX7_end.desc).map (fun d => d.parameters.length) = some 2 := by decide +kernel
theorem hd_Mod_has : yX7_has.cls = RX7 ∧ yX7_has.cls ≠ "java/lang/invoke/MethodHandle" ∧ yX7_has.cls ≠ "java/lang/invoke/VarHandle" ∧ (parseMethodDescriptor yX7_has.desc).map (fun d => d.parameters.length) = some 2 := by decide +kernel
theorem hd_Mod_isEmpty : yX7_isEmpty.cls = RX7 ∧ yX7_isEmpty.cls ≠ "java/lang/invoke/MethodHandle" ∧ yX7_isEmpty.cls ≠ "java/lang/invoke/VarHandle" ∧ (parseMethodDescriptor yX7_isEmpty.desc).map (fun d => d.parameters.length) = some 3 := by decide +kernel
theorem hd_Mod_cross : yX7_cross.cls = RX7 ∧ yX7_cross.cls ≠ "java/lang/invoke/MethodHandle" ∧ yX7_cross.cls ≠ "java/lang/invoke/VarHandle" ∧ (parseMethodDescriptor yX7_cross.desc).map (fun d => d.parameters.length) = some 4 := by decide +kernel
theorem hd_Mod_isTied : yX7_isTied.cls = RX7 ∧ yX7_isTied.cls ≠ "java/lang/invoke/MethodHandle" ∧ yX7_isTied.cls ≠ "java/lang/invoke/VarHandle" ∧ (parseMethodDescriptor yX7_isTied.desc).map (fun d => d.parameters.length) = some 2 := by decide +kernel
theorem hd_Mod_apex : yX7_apex.cls = RX7 ∧ yX7_apex.cls ≠ "java/lang/invoke/MethodHandle" ∧ yX7_apex.cls ≠ "java/lang/invoke/VarHandle" ∧ (parseMethodDescriptor yX7_apex.desc).map (fun d => d.parameters.length) = some 2 := by decide +kernel
theorem hd_Mod_good : yX7_good.cls = RX7 ∧ yX7_good.cls ≠ "java/lang/invoke/MethodHandle" ∧ yX7_good.cls ≠ "java/lang/invoke/VarHandle" ∧ (parseMethodDescriptor yX7_good.desc).map (fun d => d.parameters.length) = some 4 := by decide +kernel
theorem hd_Mod_puts : yX7_puts.cls = RX7 ∧ yX7_puts.cls ≠ "java/lang/invoke/MethodHandle" ∧ yX7_puts.cls ≠ "java/lang/invoke/VarHandle" ∧ (parseMethodDescriptor yX7_puts.desc).map (fun d => d.parameters.length) = some 3 := by decide +kernel
theorem hd_Mod_hasPointOn : yX7_hasPointOn.cls = RX7 ∧ yX7_hasPointOn.cls ≠ "java/lang/invoke/MethodHandle" ∧ yX7_hasPointOn.cls ≠ "java/lang/invoke/VarHandle" ∧ (parseMethodDescriptor yX7_hasPointOn.desc).map (fun d => d.parameters.length) = some 2 := by decide +kernel
theorem hd_Mod_crossesAny : yX7_crossesAny.cls = RX7 ∧ yX7_crossesAny.cls ≠ "java/lang/invoke/MethodHandle" ∧ yX7_crossesAny.cls ≠ "java/lang/invoke/VarHandle" ∧ (parseMethodDescriptor yX7_crossesAny.desc).map (fun d => d.parameters.length) = some 2 := by decide +kernel
theorem hd_Mod_isLine : yX7_isLine.cls = RX7 ∧ yX7_isLine.cls ≠ "java/lang/invoke/MethodHandle" ∧ yX7_isLine.cls ≠ "java/lang/invoke/VarHandle" ∧ (parseMethodDescriptor yX7_isLine.desc).map (fun d => d.parameters.length) = some 0 := by decide +kernel
theorem hd_Mod_flips : yX7_flips.cls = RX7 ∧ yX7_flips.cls ≠ "java/lang/invoke/MethodHandle" ∧ yX7_flips.cls ≠ "java/lang/invoke/VarHandle" ∧ (parseMethodDescriptor yX7_flips.desc).map (fun d => d.parameters.length) = some 2 := by decide +kernel
theorem hd_Mod_lists : yX7_lists.cls = RX7 ∧ yX7_lists.cls ≠ "java/lang/invoke/MethodHandle" ∧ yX7_lists.cls ≠ "java/lang/invoke/VarHandle" ∧ (parseMethodDescriptor yX7_lists.desc).map (fun d => d.parameters.length) = some 3 := by decide +kernel
theorem hd_Mod_cornerOf : yX7_cornerOf.cls = RX7 ∧ yX7_cornerOf.cls ≠ "java/lang/invoke/MethodHandle" ∧ yX7_cornerOf.cls ≠ "java/lang/invoke/VarHandle" ∧ (parseMethodDescriptor yX7_cornerOf.desc).map (fun d => d.parameters.length) = some 2 := by decide +kernel
theorem hd_Mod_isPlace : yX7_isPlace.cls = RX7 ∧ yX7_isPlace.cls ≠ "java/lang/invoke/MethodHandle" ∧ yX7_isPlace.cls ≠ "java/lang/invoke/VarHandle" ∧ (parseMethodDescriptor yX7_isPlace.desc).map (fun d => d.parameters.length) = some 2 := by decide +kernel
theorem hd_Mod_isBarred : yX7_isBarred.cls = RX7 ∧ yX7_isBarred.cls ≠ "java/lang/invoke/MethodHandle" ∧ yX7_isBarred.cls ≠ "java/lang/invoke/VarHandle" ∧ (parseMethodDescriptor yX7_isBarred.desc).map (fun d => d.parameters.length) = some 3 := by decide +kernel
theorem hd_Mod_whyNot : yX7_whyNot.cls = RX7 ∧ yX7_whyNot.cls ≠ "java/lang/invoke/MethodHandle" ∧ yX7_whyNot.cls ≠ "java/lang/invoke/VarHandle" ∧ (parseMethodDescriptor yX7_whyNot.desc).map (fun d => d.parameters.length) = some 2 := by decide +kernel
theorem hd_Mod_records : yX7_records.cls = RX7 ∧ yX7_records.cls ≠ "java/lang/invoke/MethodHandle" ∧ yX7_records.cls ≠ "java/lang/invoke/VarHandle" ∧ (parseMethodDescriptor yX7_records.desc).map (fun d => d.parameters.length) = some 0 := by decide +kernel
theorem hd_Mod_sets : yX7_sets.cls = RX7 ∧ yX7_sets.cls ≠ "java/lang/invoke/MethodHandle" ∧ yX7_sets.cls ≠ "java/lang/invoke/VarHandle" ∧ (parseMethodDescriptor yX7_sets.desc).map (fun d => d.parameters.length) = some 3 := by decide +kernel
theorem hd_Mod_isPoint : yX7_isPoint.cls = RX7 ∧ yX7_isPoint.cls ≠ "java/lang/invoke/MethodHandle" ∧ yX7_isPoint.cls ≠ "java/lang/invoke/VarHandle" ∧ (parseMethodDescriptor yX7_isPoint.desc).map (fun d => d.parameters.length) = some 1 := by decide +kernel
theorem hd_Mod_isEnd : yX7_isEnd.cls = RX7 ∧ yX7_isEnd.cls ≠ "java/lang/invoke/MethodHandle" ∧ yX7_isEnd.cls ≠ "java/lang/invoke/VarHandle" ∧ (parseMethodDescriptor yX7_isEnd.desc).map (fun d => d.parameters.length) = some 1 := by decide +kernel
theorem hd_Mod_drops : yX7_drops.cls = RX7 ∧ yX7_drops.cls ≠ "java/lang/invoke/MethodHandle" ∧ yX7_drops.cls ≠ "java/lang/invoke/VarHandle" ∧ (parseMethodDescriptor yX7_drops.desc).map (fun d => d.parameters.length) = some 1 := by decide +kernel
theorem hd_Mod_raises : yX7_raises.cls = RX7 ∧ yX7_raises.cls ≠ "java/lang/invoke/MethodHandle" ∧ yX7_raises.cls ≠ "java/lang/invoke/VarHandle" ∧ (parseMethodDescriptor yX7_raises.desc).map (fun d => d.parameters.length) = some 1 := by decide +kernel
theorem hd_Mod_isConstraint : yX7_isConstraint.cls = RX7 ∧ yX7_isConstraint.cls ≠ "java/lang/invoke/MethodHandle" ∧ yX7_isConstraint.cls ≠ "java/lang/invoke/VarHandle" ∧ (parseMethodDescriptor yX7_isConstraint.desc).map (fun d => d.parameters.length) = some 1 := by decide +kernel
theorem hd_Mod_unties : yX7_unties.cls = RX7 ∧ yX7_unties.cls ≠ "java/lang/invoke/MethodHandle" ∧ yX7_unties.cls ≠ "java/lang/invoke/VarHandle" ∧ (parseMethodDescriptor yX7_unties.desc).map (fun d => d.parameters.length) = some 1 := by decide +kernel
theorem hd_Mod_here : yX7_here.cls = RX7 ∧ yX7_here.cls ≠ "java/lang/invoke/MethodHandle" ∧ yX7_here.cls ≠ "java/lang/invoke/VarHandle" ∧ (parseMethodDescriptor yX7_here.desc).map (fun d => d.parameters.length) = some 0 := by decide +kernel
theorem hd_Mod_number : yX7_number.cls = RX7 ∧ yX7_number.cls ≠ "java/lang/invoke/MethodHandle" ∧ yX7_number.cls ≠ "java/lang/invoke/VarHandle" ∧ (parseMethodDescriptor yX7_number.desc).map (fun d => d.parameters.length) = some 0 := by decide +kernel
theorem hd_Mod_addConstraint : yX7_addConstraint.cls = RX7 ∧ yX7_addConstraint.cls ≠ "java/lang/invoke/MethodHandle" ∧ yX7_addConstraint.cls ≠ "java/lang/invoke/VarHandle" ∧ (parseMethodDescriptor yX7_addConstraint.desc).map (fun d => d.parameters.length) = some 2 := by decide +kernel
theorem hd_Mod_addPoint : yX7_addPoint.cls = RX7 ∧ yX7_addPoint.cls ≠ "java/lang/invoke/MethodHandle" ∧ yX7_addPoint.cls ≠ "java/lang/invoke/VarHandle" ∧ (parseMethodDescriptor yX7_addPoint.desc).map (fun d => d.parameters.length) = some 2 := by decide +kernel
theorem hd_Mod_entry : yX7_entry.cls = RX7 ∧ yX7_entry.cls ≠ "java/lang/invoke/MethodHandle" ∧ yX7_entry.cls ≠ "java/lang/invoke/VarHandle" ∧ (parseMethodDescriptor yX7_entry.desc).map (fun d => d.parameters.length) = some 1 := by decide +kernel
theorem hd_Mod_builds : yX7_builds.cls = RX7 ∧ yX7_builds.cls ≠ "java/lang/invoke/MethodHandle" ∧ yX7_builds.cls ≠ "java/lang/invoke/VarHandle" ∧ (parseMethodDescriptor yX7_builds.desc).map (fun d => d.parameters.length) = some 0 := by decide +kernel
theorem hd_Mod_isTriangle : yX7_isTriangle.cls = RX7 ∧ yX7_isTriangle.cls ≠ "java/lang/invoke/MethodHandle" ∧ yX7_isTriangle.cls ≠ "java/lang/invoke/VarHandle" ∧ (parseMethodDescriptor yX7_isTriangle.desc).map (fun d => d.parameters.length) = some 1 := by decide +kernel
theorem hd_Mod_triangleOf : yX7_triangleOf.cls = RX7 ∧ yX7_triangleOf.cls ≠ "java/lang/invoke/MethodHandle" ∧ yX7_triangleOf.cls ≠ "java/lang/invoke/VarHandle" ∧ (parseMethodDescriptor yX7_triangleOf.desc).map (fun d => d.parameters.length) = some 3 := by decide +kernel
theorem hd_Mod_beyondOf : yX7_beyondOf.cls = RX7 ∧ yX7_beyondOf.cls ≠ "java/lang/invoke/MethodHandle" ∧ yX7_beyondOf.cls ≠ "java/lang/invoke/VarHandle" ∧ (parseMethodDescriptor yX7_beyondOf.desc).map (fun d => d.parameters.length) = some 2 := by decide +kernel
theorem hd_Mod_edgeTotal : yX7_edgeTotal.cls = RX7 ∧ yX7_edgeTotal.cls ≠ "java/lang/invoke/MethodHandle" ∧ yX7_edgeTotal.cls ≠ "java/lang/invoke/VarHandle" ∧ (parseMethodDescriptor yX7_edgeTotal.desc).map (fun d => d.parameters.length) = some 0 := by decide +kernel
theorem hd_Mod_edge : yX7_edge.cls = RX7 ∧ yX7_edge.cls ≠ "java/lang/invoke/MethodHandle" ∧ yX7_edge.cls ≠ "java/lang/invoke/VarHandle" ∧ (parseMethodDescriptor yX7_edge.desc).map (fun d => d.parameters.length) = some 1 := by decide +kernel
theorem hd_Mod_numberOf : yX7_numberOf.cls = RX7 ∧ yX7_numberOf.cls ≠ "java/lang/invoke/MethodHandle" ∧ yX7_numberOf.cls ≠ "java/lang/invoke/VarHandle" ∧ (parseMethodDescriptor yX7_numberOf.desc).map (fun d => d.parameters.length) = some 2 := by decide +kernel
theorem hd_Mod_hullNext : yX7_hullNext.cls = RX7 ∧ yX7_hullNext.cls ≠ "java/lang/invoke/MethodHandle" ∧ yX7_hullNext.cls ≠ "java/lang/invoke/VarHandle" ∧ (parseMethodDescriptor yX7_hullNext.desc).map (fun d => d.parameters.length) = some 1 := by decide +kernel
theorem hd_Mod_hullEdges : yX7_hullEdges.cls = RX7 ∧ yX7_hullEdges.cls ≠ "java/lang/invoke/MethodHandle" ∧ yX7_hullEdges.cls ≠ "java/lang/invoke/VarHandle" ∧ (parseMethodDescriptor yX7_hullEdges.desc).map (fun d => d.parameters.length) = some 0 := by decide +kernel
theorem hd_Mod_areaOf : yX7_areaOf.cls = RX7 ∧ yX7_areaOf.cls ≠ "java/lang/invoke/MethodHandle" ∧ yX7_areaOf.cls ≠ "java/lang/invoke/VarHandle" ∧ (parseMethodDescriptor yX7_areaOf.desc).map (fun d => d.parameters.length) = some 1 := by decide +kernel
theorem hd_Mod_square : yX7_square.cls = RX7 ∧ yX7_square.cls ≠ "java/lang/invoke/MethodHandle" ∧ yX7_square.cls ≠ "java/lang/invoke/VarHandle" ∧ (parseMethodDescriptor yX7_square.desc).map (fun d => d.parameters.length) = some 2 := by decide +kernel
theorem hd_Mod_connects : yX7_connects.cls = RX7 ∧ yX7_connects.cls ≠ "java/lang/invoke/MethodHandle" ∧ yX7_connects.cls ≠ "java/lang/invoke/VarHandle" ∧ (parseMethodDescriptor yX7_connects.desc).map (fun d => d.parameters.length) = some 0 := by decide +kernel
theorem hd_Mod_goodOf : yX7_goodOf.cls = RX7 ∧ yX7_goodOf.cls ≠ "java/lang/invoke/MethodHandle" ∧ yX7_goodOf.cls ≠ "java/lang/invoke/VarHandle" ∧ (parseMethodDescriptor yX7_goodOf.desc).map (fun d => d.parameters.length) = some 2 := by decide +kernel
theorem hd_Mod_away : yX7_away.cls = RX7 ∧ yX7_away.cls ≠ "java/lang/invoke/MethodHandle" ∧ yX7_away.cls ≠ "java/lang/invoke/VarHandle" ∧ (parseMethodDescriptor yX7_away.desc).map (fun d => d.parameters.length) = some 3 := by decide +kernel
theorem hd_Mod_thingAt : yX7_thingAt.cls = RX7 ∧ yX7_thingAt.cls ≠ "java/lang/invoke/MethodHandle" ∧ yX7_thingAt.cls ≠ "java/lang/invoke/VarHandle" ∧ (parseMethodDescriptor yX7_thingAt.desc).map (fun d => d.parameters.length) = some 2 := by decide +kernel
theorem hd_Mod_keeps : yX7_keeps.cls = RX7 ∧ yX7_keeps.cls ≠ "java/lang/invoke/MethodHandle" ∧ yX7_keeps.cls ≠ "java/lang/invoke/VarHandle" ∧ (parseMethodDescriptor yX7_keeps.desc).map (fun d => d.parameters.length) = some 0 := by decide +kernel
theorem hd_Mod_goesBack : yX7_goesBack.cls = RX7 ∧ yX7_goesBack.cls ≠ "java/lang/invoke/MethodHandle" ∧ yX7_goesBack.cls ≠ "java/lang/invoke/VarHandle" ∧ (parseMethodDescriptor yX7_goesBack.desc).map (fun d => d.parameters.length) = some 0 := by decide +kernel
theorem g_Mod_48 : GoodIn wT (wsV RX7 48 RX7 yX7_n (wsM yX7_n cX7_n 1 (some .int))) := gV qm_Mod_48 qi_Mod_n qs_Mod_n qn_Mod qc_Mod_n
theorem g_Mod_52 : GoodIn wT (wsS RX7 52 yX7_in (wsM yX7_in cX7_in 3 (some .boolean))) := gS qm_Mod_52 qt_Mod_in qn_Mod qc_Mod_in
theorem g_Mod_56 : GoodIn wT (wsV RX7 56 RX7 yX7_m (wsM yX7_m cX7_m 1 (some .int))) := gV qm_Mod_56 qi_Mod_m qs_Mod_m qn_Mod qc_Mod_m
theorem g_Mod_65 : GoodIn wT (wsV RX7 65 RX7 yX7_x (wsM yX7_x cX7_x 2 (some .int))) := gV qm_Mod_65 qi_Mod_x qs_Mod_x qn_Mod qc_Mod_x
theorem g_Mod_68 : GoodIn wT (wsV RX7 68 RX7 yX7_y (wsM yX7_y cX7_y 2 (some .int))) := gV qm_Mod_68 qi_Mod_y qs_Mod_y qn_Mod qc_Mod_y
theorem g_Mod_71 : GoodIn wT (wsS RX7 71 yX7_turnOf (wsM yX7_turnOf cX7_turnOf 6 (some .int))) := gS qm_Mod_71 qt_Mod_turnOf qn_Mod qc_Mod_turnOf
theorem g_Mod_75 : GoodIn wT (wsV RX7 75 RX7 yX7_isOn (wsM yX7_isOn cX7_isOn 6 (some .boolean))) := gV qm_Mod_75 qi_Mod_isOn qs_Mod_isOn qn_Mod qc_Mod_isOn
theorem g_Mod_79 : GoodIn wT (wsV RX7 79 RX7 yX7_turns (wsM yX7_turns cX7_turns 4 (some .int))) := gV qm_Mod_79 qi_Mod_turns qs_Mod_turns qn_Mod qc_Mod_turns
theorem g_Mod_97 : GoodIn wT (wsV RX7 97 RX7 yX7_circle (wsM yX7_circle cX7_circle 19 (some .int))) := gV qm_Mod_97 qi_Mod_circle qs_Mod_circle qn_Mod qc_Mod_circle
theorem g_Mod_101 : GoodIn wT (wsV RX7 101 RX7 yX7_end (wsM yX7_end cX7_end 3 (some .int))) := gV qm_Mod_101 qi_Mod_end qs_Mod_end qn_Mod qc_Mod_end
theorem g_Mod_104 : GoodIn wT (wsV RX7 104 RX7 yX7_has (wsM yX7_has cX7_has 3 (some .boolean))) := gV qm_Mod_104 qi_Mod_has qs_Mod_has qn_Mod qc_Mod_has
theorem g_Mod_108 : GoodIn wT (wsV RX7 108 RX7 yX7_isEmpty (wsM yX7_isEmpty cX7_isEmpty 5 (some .boolean))) := gV qm_Mod_108 qi_Mod_isEmpty qs_Mod_isEmpty qn_Mod qc_Mod_isEmpty
theorem g_Mod_111 : GoodIn wT (wsV RX7 111 RX7 yX7_cross (wsM yX7_cross cX7_cross 6 (some .boolean))) := gV qm_Mod_111 qi_Mod_cross qs_Mod_cross qn_Mod qc_Mod_cross
theorem g_Mod_138 : GoodIn wT (wsV RX7 138 RX7 yX7_isTied (wsM yX7_isTied cX7_isTied 4 (some .boolean))) := gV qm_Mod_138 qi_Mod_isTied qs_Mod_isTied qn_Mod qc_Mod_isTied
theorem g_Mod_141 : GoodIn wT (wsV RX7 141 RX7 yX7_apex (wsM yX7_apex cX7_apex 4 (some .int))) := gV qm_Mod_141 qi_Mod_apex qs_Mod_apex qn_Mod qc_Mod_apex
theorem g_Mod_144 : GoodIn wT (wsV RX7 144 RX7 yX7_good (wsM yX7_good cX7_good 6 (some .boolean))) := gV qm_Mod_144 qi_Mod_good qs_Mod_good qn_Mod qc_Mod_good
theorem g_Mod_117 : GoodIn wT (wsV RX7 117 RX7 yX7_puts (wsM yX7_puts cX7_puts 4 none)) := gV qm_Mod_117 qi_Mod_puts qs_Mod_puts qn_Mod qc_Mod_puts
theorem g_Mod_121 : GoodIn wT (wsV RX7 121 RX7 yX7_hasPointOn (wsM yX7_hasPointOn cX7_hasPointOn 4 (some .boolean))) := gV qm_Mod_121 qi_Mod_hasPointOn qs_Mod_hasPointOn qn_Mod qc_Mod_hasPointOn
theorem g_Mod_124 : GoodIn wT (wsV RX7 124 RX7 yX7_crossesAny (wsM yX7_crossesAny cX7_crossesAny 5 (some .boolean))) := gV qm_Mod_124 qi_Mod_crossesAny qs_Mod_crossesAny qn_Mod qc_Mod_crossesAny
theorem g_Mod_127 : GoodIn wT (wsV RX7 127 RX7 yX7_isLine (wsM yX7_isLine cX7_isLine 2 (some .boolean))) := gV qm_Mod_127 qi_Mod_isLine qs_Mod_isLine qn_Mod qc_Mod_isLine
theorem g_Mod_131 : GoodIn wT (wsV RX7 131 RX7 yX7_flips (wsM yX7_flips cX7_flips 5 (some .boolean))) := gV qm_Mod_131 qi_Mod_flips qs_Mod_flips qn_Mod qc_Mod_flips
theorem g_Mod_134 : GoodIn wT (wsV RX7 134 RX7 yX7_lists (wsM yX7_lists cX7_lists 4 none)) := gV qm_Mod_134 qi_Mod_lists qs_Mod_lists qn_Mod qc_Mod_lists
theorem g_Mod_147 : GoodIn wT (wsV RX7 147 RX7 yX7_cornerOf (wsM yX7_cornerOf cX7_cornerOf 3 (some .int))) := gV qm_Mod_147 qi_Mod_cornerOf qs_Mod_cornerOf qn_Mod qc_Mod_cornerOf
theorem g_Mod_153 : GoodIn wT (wsS RX7 153 yX7_isPlace (wsM yX7_isPlace cX7_isPlace 2 (some .boolean))) := gS qm_Mod_153 qt_Mod_isPlace qn_Mod qc_Mod_isPlace
theorem g_Mod_156 : GoodIn wT (wsV RX7 156 RX7 yX7_isBarred (wsM yX7_isBarred cX7_isBarred 5 (some .boolean))) := gV qm_Mod_156 qi_Mod_isBarred qs_Mod_isBarred qn_Mod qc_Mod_isBarred
theorem g_Mod_159 : GoodIn wT (wsV RX7 159 RX7 yX7_whyNot (wsM yX7_whyNot cX7_whyNot 3 (some .int))) := gV qm_Mod_159 qi_Mod_whyNot qs_Mod_whyNot qn_Mod qc_Mod_whyNot
theorem g_Mod_162 : GoodIn wT (wsV RX7 162 RX7 yX7_records (wsM yX7_records cX7_records 2 none)) := gV qm_Mod_162 qi_Mod_records qs_Mod_records qn_Mod qc_Mod_records
theorem g_Mod_165 : GoodIn wT (wsV RX7 165 RX7 yX7_sets (wsM yX7_sets cX7_sets 4 none)) := gV qm_Mod_165 qi_Mod_sets qs_Mod_sets qn_Mod qc_Mod_sets
theorem g_Mod_168 : GoodIn wT (wsV RX7 168 RX7 yX7_isPoint (wsM yX7_isPoint cX7_isPoint 2 (some .boolean))) := gV qm_Mod_168 qi_Mod_isPoint qs_Mod_isPoint qn_Mod qc_Mod_isPoint
theorem g_Mod_175 : GoodIn wT (wsV RX7 175 RX7 yX7_isEnd (wsM yX7_isEnd cX7_isEnd 3 (some .boolean))) := gV qm_Mod_175 qi_Mod_isEnd qs_Mod_isEnd qn_Mod qc_Mod_isEnd
theorem g_Mod_178 : GoodIn wT (wsV RX7 178 RX7 yX7_drops (wsM yX7_drops cX7_drops 3 none)) := gV qm_Mod_178 qi_Mod_drops qs_Mod_drops qn_Mod qc_Mod_drops
theorem g_Mod_172 : GoodIn wT (wsV RX7 172 RX7 yX7_raises (wsM yX7_raises cX7_raises 2 (some .int))) := gV qm_Mod_172 qi_Mod_raises qs_Mod_raises qn_Mod qc_Mod_raises
theorem g_Mod_182 : GoodIn wT (wsV RX7 182 RX7 yX7_isConstraint (wsM yX7_isConstraint cX7_isConstraint 2 (some .boolean))) := gV qm_Mod_182 qi_Mod_isConstraint qs_Mod_isConstraint qn_Mod qc_Mod_isConstraint
theorem g_Mod_185 : GoodIn wT (wsV RX7 185 RX7 yX7_unties (wsM yX7_unties cX7_unties 3 none)) := gV qm_Mod_185 qi_Mod_unties qs_Mod_unties qn_Mod qc_Mod_unties
theorem g_Mod_194 : GoodIn wT (wsV RX7 194 RX7 yX7_here (wsM yX7_here cX7_here 1 (some .int))) := gV qm_Mod_194 qi_Mod_here qs_Mod_here qn_Mod qc_Mod_here
theorem g_Mod_197 : GoodIn wT (wsV RX7 197 RX7 yX7_number (wsM yX7_number cX7_number 3 (some .int))) := gV qm_Mod_197 qi_Mod_number qs_Mod_number qn_Mod qc_Mod_number
theorem g_Mod_203 : GoodIn wT (wsV RX7 203 RX7 yX7_addConstraint (wsM yX7_addConstraint cX7_addConstraint 4 (some .int))) := gV qm_Mod_203 qi_Mod_addConstraint qs_Mod_addConstraint qn_Mod qc_Mod_addConstraint
theorem g_Mod_200 : GoodIn wT (wsV RX7 200 RX7 yX7_addPoint (wsM yX7_addPoint cX7_addPoint 3 (some .int))) := gV qm_Mod_200 qi_Mod_addPoint qs_Mod_addPoint qn_Mod qc_Mod_addPoint
theorem g_Mod_206 : GoodIn wT (wsV RX7 206 RX7 yX7_entry (wsM yX7_entry cX7_entry 6 (some .int))) := gV qm_Mod_206 qi_Mod_entry qs_Mod_entry qn_Mod qc_Mod_entry
theorem g_Mod_210 : GoodIn wT (wsV RX7 210 RX7 yX7_builds (wsM yX7_builds cX7_builds 5 none)) := gV qm_Mod_210 qi_Mod_builds qs_Mod_builds qn_Mod qc_Mod_builds
theorem g_Mod_213 : GoodIn wT (wsV RX7 213 RX7 yX7_isTriangle (wsM yX7_isTriangle cX7_isTriangle 2 (some .boolean))) := gV qm_Mod_213 qi_Mod_isTriangle qs_Mod_isTriangle qn_Mod qc_Mod_isTriangle
theorem g_Mod_216 : GoodIn wT (wsV RX7 216 RX7 yX7_triangleOf (wsM yX7_triangleOf cX7_triangleOf 6 (some .int))) := gV qm_Mod_216 qi_Mod_triangleOf qs_Mod_triangleOf qn_Mod qc_Mod_triangleOf
theorem g_Mod_219 : GoodIn wT (wsV RX7 219 RX7 yX7_beyondOf (wsM yX7_beyondOf cX7_beyondOf 6 (some .int))) := gV qm_Mod_219 qi_Mod_beyondOf qs_Mod_beyondOf qn_Mod qc_Mod_beyondOf
theorem g_Mod_222 : GoodIn wT (wsV RX7 222 RX7 yX7_edgeTotal (wsM yX7_edgeTotal cX7_edgeTotal 4 (some .int))) := gV qm_Mod_222 qi_Mod_edgeTotal qs_Mod_edgeTotal qn_Mod qc_Mod_edgeTotal
theorem g_Mod_225 : GoodIn wT (wsV RX7 225 RX7 yX7_edge (wsM yX7_edge cX7_edge 5 (some .boolean))) := gV qm_Mod_225 qi_Mod_edge qs_Mod_edge qn_Mod qc_Mod_edge
theorem g_Mod_228 : GoodIn wT (wsV RX7 228 RX7 yX7_numberOf (wsM yX7_numberOf cX7_numberOf 6 (some .int))) := gV qm_Mod_228 qi_Mod_numberOf qs_Mod_numberOf qn_Mod qc_Mod_numberOf
theorem g_Mod_231 : GoodIn wT (wsV RX7 231 RX7 yX7_hullNext (wsM yX7_hullNext cX7_hullNext 3 (some .int))) := gV qm_Mod_231 qi_Mod_hullNext qs_Mod_hullNext qn_Mod qc_Mod_hullNext
theorem g_Mod_234 : GoodIn wT (wsV RX7 234 RX7 yX7_hullEdges (wsM yX7_hullEdges cX7_hullEdges 3 (some .int))) := gV qm_Mod_234 qi_Mod_hullEdges qs_Mod_hullEdges qn_Mod qc_Mod_hullEdges
theorem g_Mod_237 : GoodIn wT (wsV RX7 237 RX7 yX7_areaOf (wsM yX7_areaOf cX7_areaOf 5 (some .int))) := gV qm_Mod_237 qi_Mod_areaOf qs_Mod_areaOf qn_Mod qc_Mod_areaOf
theorem g_Mod_241 : GoodIn wT (wsV RX7 241 RX7 yX7_square (wsM yX7_square cX7_square 3 (some .int))) := gV qm_Mod_241 qi_Mod_square qs_Mod_square qn_Mod qc_Mod_square
theorem g_Mod_244 : GoodIn wT (wsV RX7 244 RX7 yX7_connects (wsM yX7_connects cX7_connects 7 (some .int))) := gV qm_Mod_244 qi_Mod_connects qs_Mod_connects qn_Mod qc_Mod_connects
theorem g_Mod_247 : GoodIn wT (wsV RX7 247 RX7 yX7_goodOf (wsM yX7_goodOf cX7_goodOf 5 (some .int))) := gV qm_Mod_247 qi_Mod_goodOf qs_Mod_goodOf qn_Mod qc_Mod_goodOf
theorem g_Mod_250 : GoodIn wT (wsV RX7 250 RX7 yX7_away (wsM yX7_away cX7_away 7 (some .int))) := gV qm_Mod_250 qi_Mod_away qs_Mod_away qn_Mod qc_Mod_away
theorem g_Mod_253 : GoodIn wT (wsV RX7 253 RX7 yX7_thingAt (wsM yX7_thingAt cX7_thingAt 5 (some .int))) := gV qm_Mod_253 qi_Mod_thingAt qs_Mod_thingAt qn_Mod qc_Mod_thingAt
theorem g_Mod_256 : GoodIn wT (wsV RX7 256 RX7 yX7_keeps (wsM yX7_keeps cX7_keeps 2 none)) := gV qm_Mod_256 qi_Mod_keeps qs_Mod_keeps qn_Mod qc_Mod_keeps
theorem g_Mod_259 : GoodIn wT (wsV RX7 259 RX7 yX7_goesBack (wsM yX7_goesBack cX7_goesBack 2 none)) := gV qm_Mod_259 qi_Mod_goesBack qs_Mod_goesBack qn_Mod qc_Mod_goesBack
